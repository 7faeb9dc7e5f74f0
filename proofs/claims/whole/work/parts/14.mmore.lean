def sX7_help_73 (v1 : Int32) (v2 : Int32) (v3 : Int32) (v5 : Int32) (g_life : Nat → Int32) (v4 : Int32) (v6 : Int32) (g_dones : Int32) (g_done : Nat → Int32) (g_selves : Nat → Int32) : Option ((Int32 × Int32 × Int32 × (Nat → Int32) × (Nat → Int32)) ⊕ ((Int32 × Int32 × (Nat → Int32) × (Nat → Int32)))) :=
  if v5 ≤ v6 then some (.inr (v4, g_dones, g_done, g_selves)) else if v4 = (-9) then if inb 5 55 = true then if ¬ g_life (5 : Int32).toNatClampNeg = 0 then if inb 5 55 = true then if ¬ g_life (5 : Int32).toNatClampNeg = 0 then (fX7_adds (v6 / (g_life (5 : Int32).toNatClampNeg)) (v6 - v6 / (g_life (5 : Int32).toNatClampNeg) * (g_life (5 : Int32).toNatClampNeg)) g_dones g_done).bind (fun r17 => (fX7_beginning g_life).bind (fun r18 => (fX7_sureFrom v1 r18 r17.1 g_life r17.2 g_selves).bind (fun r19 => jn (fun (x20 : Int32) => some (.inl (x20, v6 + 1, v3, r17.2, r19.2))) (fun K20 => if r19.1 = 2 then if v2 = 0 then K20 1 else if v2 = 1 then if inb 5 55 = true then if ¬ g_life (5 : Int32).toNatClampNeg = 0 then if inb 5 55 = true then if ¬ g_life (5 : Int32).toNatClampNeg = 0 then K20 ((10 * (v6 / (g_life (5 : Int32).toNatClampNeg))) + (v6 - v6 / (g_life (5 : Int32).toNatClampNeg) * (g_life (5 : Int32).toNatClampNeg))) else none else none else none else none else K20 (-5) else K20 (-9))))) else none else none else none else none else some (.inr (v4, g_dones, g_done, g_selves))
def sX7_help_200 (v1 : Int32) (v2 : Int32) (v3 : Int32) (v5 : Int32) (v6 : Int32) (g_life : Nat → Int32) (v4 : Int32) (v7 : Int32) (g_dones : Int32) (g_done : Nat → Int32) (g_selves : Nat → Int32) : Option ((Int32 × Int32 × Int32 × (Nat → Int32) × (Nat → Int32)) ⊕ ((Int32 × Int32 × (Nat → Int32) × (Nat → Int32)))) :=
  if v5 ≤ v7 then some (.inr (v4, g_dones, g_done, g_selves)) else if v4 = (-9) then if inb 5 55 = true then if ¬ g_life (5 : Int32).toNatClampNeg = 0 then if inb 5 55 = true then if ¬ g_life (5 : Int32).toNatClampNeg = 0 then (fX7_adds (v6 / (g_life (5 : Int32).toNatClampNeg)) (v6 - v6 / (g_life (5 : Int32).toNatClampNeg) * (g_life (5 : Int32).toNatClampNeg)) g_dones g_done).bind (fun r20 => if inb 5 55 = true then if ¬ g_life (5 : Int32).toNatClampNeg = 0 then if inb 5 55 = true then if ¬ g_life (5 : Int32).toNatClampNeg = 0 then (fX7_adds (v7 / (g_life (5 : Int32).toNatClampNeg)) (v7 - v7 / (g_life (5 : Int32).toNatClampNeg) * (g_life (5 : Int32).toNatClampNeg)) r20.1 r20.2).bind (fun r25 => jn (fun (x26 : Int32) => (fX7_beginning g_life).bind (fun r27 => (fX7_sureFrom v1 r27 r25.1 g_life r25.2 g_selves).bind (fun r28 => jn (fun (x29 : Int32) => some (.inl (x29, v7 + 1, v3, r25.2, r28.2))) (fun K29 => if r28.1 = 2 then if v2 = 0 then K29 2 else if inb 5 55 = true then if ¬ g_life (5 : Int32).toNatClampNeg = 0 then if inb 5 55 = true then if ¬ g_life (5 : Int32).toNatClampNeg = 0 then K29 ((10 * (x26 / (g_life (5 : Int32).toNatClampNeg))) + (x26 - x26 / (g_life (5 : Int32).toNatClampNeg) * (g_life (5 : Int32).toNatClampNeg))) else none else none else none else none else K29 (-9))))) (fun K26 => if v2 = 1 then K26 v6 else K26 v7)) else none else none else none else none) else none else none else none else none else some (.inr (v4, g_dones, g_done, g_selves))
def sX7_help_183 (v1 : Int32) (v2 : Int32) (v3 : Int32) (v5 : Int32) (g_life : Nat → Int32) (v4 : Int32) (v6 : Int32) (g_dones : Int32) (g_done : Nat → Int32) (g_selves : Nat → Int32) : Option ((Int32 × Int32 × Int32 × (Nat → Int32) × (Nat → Int32)) ⊕ ((Int32 × Int32 × (Nat → Int32) × (Nat → Int32)))) :=
  if v5 ≤ v6 then some (.inr (v4, g_dones, g_done, g_selves)) else if v4 = (-9) then (lpd (fun s14 => sX7_help_200 v1 v2 v3 v5 v6 g_life s14.1 s14.2.1 s14.2.2.1 s14.2.2.2.1 s14.2.2.2.2) FU (v4, 0, g_dones, g_done, g_selves)).bind (fun (y14_0 : Int32 × Int32 × (Nat → Int32) × (Nat → Int32)) => some (.inl (y14_0.1, v6 + 1, y14_0.2.1, y14_0.2.2.1, y14_0.2.2.2))) else some (.inr (v4, g_dones, g_done, g_selves))
def fX7_help (a1 : Int32) (a2 : Int32) (g_dones : Int32) (g_life : Nat → Int32) (g_done : Nat → Int32) (g_selves : Nat → Int32) : Option (Int32 × Int32 × (Nat → Int32) × (Nat → Int32)) :=
  (fX7_isTrial a1 g_life).bind (fun r1 => if (bI r1) = 0 then some ((-1), g_dones, g_done, g_selves) else (fX7_in a2.toInt64 0 2).bind (fun r3 => if (bI r3) = 0 then some ((-1), g_dones, g_done, g_selves) else (fX7_beginning g_life).bind (fun r5 => (fX7_sureFrom a1 r5 g_dones g_life g_done g_selves).bind (fun r6 => if r6.1 = 2 then if a2 = 0 then some (0, g_dones, g_done, r6.2) else some ((-5), g_dones, g_done, r6.2) else if inb 0 55 = true then if inb 5 55 = true then (lpd (fun s10 => sX7_help_73 a1 a2 g_dones ((g_life (0 : Int32).toNatClampNeg) * (g_life (5 : Int32).toNatClampNeg)) g_life s10.1 s10.2.1 s10.2.2.1 s10.2.2.2.1 s10.2.2.2.2) FU ((-9), 0, g_dones, g_done, r6.2)).bind (fun (y10_0 : Int32 × Int32 × (Nat → Int32) × (Nat → Int32)) => (lpd (fun s11 => sX7_help_183 a1 a2 g_dones ((g_life (0 : Int32).toNatClampNeg) * (g_life (5 : Int32).toNatClampNeg)) g_life s11.1 s11.2.1 s11.2.2.1 s11.2.2.2.1 s11.2.2.2.2) FU (y10_0.1, 0, y10_0.2.1, y10_0.2.2.1, y10_0.2.2.2)).bind (fun (y11_0 : Int32 × Int32 × (Nat → Int32) × (Nat → Int32)) => some (y11_0.1, y11_0.2.1, y11_0.2.2.1, y11_0.2.2.2))) else none else none))))
set_option maxHeartbeats 4000000 in
set_option maxRecDepth 100000 in
theorem ctX7_help (l : Launch) (D : va_G) (cI cZ cD cH : ClassId) (qg : Nat) (qg_text : Nat) (qg_read : Nat) (qg_life : Nat) (qg_done : Nat) (qg_undone : Nat) (qg_selves : Nat) (qg_when : Nat) (qg_jury : Nat) (qg_years : Nat) (qg_states : Nat) (qg_kept : Nat) (a1 : Int32) (a2 : Int32) (g_size : Int32) (g_at : Int32) (g_begin : Int32) (g_token : Int32) (g_told : Int32) (g_dones : Int32) (g_undos : Int32) (g_seens : Int32) (g_trace : Int64) (g_text : Nat → Int32) (g_read : Nat → Int32) (g_life : Nat → Int32) (g_done : Nat → Int32) (g_undone : Nat → Int32) (g_selves : Nat → Int32) (g_when : Nat → Int32) (g_jury : Nat → Int32) (g_years : Nat → Int32) (g_states : Nat → Int32) (g_kept : Nat → Int32) (o : Int32 × Int32 × (Nat → Int32) × (Nat → Int32)) (hf : fX7_help a1 a2 g_dones g_life g_done g_selves = some o) : Ct l yX7_help cX7_help 9 (some .int) { frames := 6, cells := 0, slots := 0, locals := 140 } D (Tys cI cZ cD cH) [.ref qg, .int a1, .int a2] [(qg, .inr (7, [.ref qg_text, .int g_size, .int g_at, .int g_begin, .int g_token, .int g_told, .ref qg_read, .ref qg_life, .int g_dones, .ref qg_done, .int g_undos, .ref qg_undone, .ref qg_selves, .ref qg_when, .ref qg_jury, .int g_seens, .ref qg_years, .ref qg_states, .long g_trace, .ref qg_kept])), rI cI qg_text 200 g_text, rI cI qg_read 55 g_read, rI cI qg_life 55 g_life, rI cI qg_done 16 g_done, rI cI qg_undone 130 g_undone, rI cI qg_selves 16 g_selves, rI cI qg_when 27 g_when, rI cI qg_jury 16 g_jury, rI cI qg_years 6 g_years, rI cI qg_states 6 g_states, rI cI qg_kept 290 g_kept] [(qg, .inr (7, [.ref qg_text, .int g_size, .int g_at, .int g_begin, .int g_token, .int g_told, .ref qg_read, .ref qg_life, .int o.2.1, .ref qg_done, .int g_undos, .ref qg_undone, .ref qg_selves, .ref qg_when, .ref qg_jury, .int g_seens, .ref qg_years, .ref qg_states, .long g_trace, .ref qg_kept])), rI cI qg_text 200 g_text, rI cI qg_read 55 g_read, rI cI qg_life 55 g_life, rI cI qg_done 16 o.2.2.1, rI cI qg_undone 130 g_undone, rI cI qg_selves 16 o.2.2.2, rI cI qg_when 27 g_when, rI cI qg_jury 16 g_jury, rI cI qg_years 6 g_years, rI cI qg_states 6 g_states, rI cI qg_kept 290 g_kept] (some (.int o.1)) 0 0 := by
  refine mkI (by decide) (Nat.le_of_ble_eq_true rfl) ?_
  intro p e s m args below meth c A Q X hret ls hl H locs hP hD hS
  replace X : Cx p s m args c D (Tys cI cZ cD cH) A cX7_help RX7 9 := X
  obtain ⟨hx, hb, hml, hown, hts, hK, hZ, hA⟩ := id X
  have hl : lv_has ls 9 [(0, .ref qg), (1, .int a1), (2, .int a2)] := hl
  unfold fX7_help at hf
  refine lv_aload_n hx hb dX7_help_0 rfl (lv_at hl 0 rfl) ?_
  refine lv_iload_n hx hb dX7_help_1 rfl (lv_at hl 1 rfl) ?_
  obtain ⟨r1, hr1, hf⟩ := bnd hf
  refine k_callV X hP hD hS [(qg, .inr (7, [.ref qg_text, .int g_size, .int g_at, .int g_begin, .int g_token, .int g_told, .ref qg_read, .ref qg_life, .int g_dones, .ref qg_done, .int g_undos, .ref qg_undone, .ref qg_selves, .ref qg_when, .ref qg_jury, .int g_seens, .ref qg_years, .ref qg_states, .long g_trace, .ref qg_kept])), rI cI qg_text 200 g_text, rI cI qg_read 55 g_read, rI cI qg_life 55 g_life, rI cI qg_done 16 g_done, rI cI qg_undone 130 g_undone, rI cI qg_selves 16 g_selves, rI cI qg_when 27 g_when, rI cI qg_jury 16 g_jury, rI cI qg_years 6 g_years, rI cI qg_states 6 g_states, rI cI qg_kept 290 g_kept] (ctX7_isTrial l D cI cZ cD cH qg qg_text qg_read qg_life qg_done qg_undone qg_selves qg_when qg_jury qg_years qg_states qg_kept a1 g_size g_at g_begin g_token g_told g_dones g_undos g_seens g_trace g_text g_read g_life g_done g_undone g_selves g_when g_jury g_years g_states g_kept r1 hr1) ml_RX7_142 im_yX7_isTrial se_yX7_isTrial in_RX7 cd_yX7_isTrial rfl rfl hd_yX7_isTrial ⟨by decide, by decide⟩ ⟨Nat.zero_le _, Nat.zero_le _⟩ [0, 1, 2, 3, 4, 5, 6, 7, 8, 9, 10, 11] [some 0, some 1, some 2, some 3, some 4, some 5, some 6, some 7, some 8, some 9, some 10, some 11] rfl (by decide +kernel) rfl (by decide +kernel) rfl rfl (q0 := 0) rfl rfl rfl hl.1 rfl rfl (Nat.le_of_ble_eq_true rfl) rfl dX7_help_2 (fun H locs hP hD hS => ?_)
  refine lv_if_eq (tgt := 20) hx hb dX7_help_5 (by decide) (fun c2 => ?_) (fun c2 => ?_)
  · replace hf := ite_t c2 hf
    refine lv_iconst (v := (-1)) hx hb dX7_help_20 (by decide) ?_
    replace hf := Option.some.inj hf
    subst hf
    exact hret H locs _ ls dX7_help_21 hP hD hS
  · replace hf := ite_f c2 hf
    refine lv_iload_n hx hb dX7_help_8 rfl (lv_at hl 2 rfl) ?_
    refine lv_i2l (v := a2.toInt64) hx hb dX7_help_9 rfl ?_
    refine lv_lconst (v := 0) hx hb dX7_help_10 (by decide) ?_
    refine lv_ldc2 hx hb hown (hts _ cl_RX7_145) dX7_help_11 ?_
    obtain ⟨r3, hr3, hf⟩ := bnd hf
    refine k_callS X hP hD hS [(qg, .inr (7, [.ref qg_text, .int g_size, .int g_at, .int g_begin, .int g_token, .int g_told, .ref qg_read, .ref qg_life, .int g_dones, .ref qg_done, .int g_undos, .ref qg_undone, .ref qg_selves, .ref qg_when, .ref qg_jury, .int g_seens, .ref qg_years, .ref qg_states, .long g_trace, .ref qg_kept])), rI cI qg_text 200 g_text, rI cI qg_read 55 g_read, rI cI qg_life 55 g_life, rI cI qg_done 16 g_done, rI cI qg_undone 130 g_undone, rI cI qg_selves 16 g_selves, rI cI qg_when 27 g_when, rI cI qg_jury 16 g_jury, rI cI qg_years 6 g_years, rI cI qg_states 6 g_states, rI cI qg_kept 290 g_kept] (ctX7_in l D cI cZ cD cH a2.toInt64 0 2 r3 hr3) ml_RX7_51 sm_yX7_in in_RX7 cd_yX7_in rfl rfl hd_yX7_in ⟨by decide, by decide⟩ ⟨Nat.zero_le _, Nat.zero_le _⟩ [] [none, none, none, none, none, none, none, none, none, none, none, none] rfl (by decide +kernel) rfl (by decide +kernel) rfl rfl hl.1 rfl rfl (Nat.le_of_ble_eq_true rfl) rfl dX7_help_14 (fun H locs hP hD hS => ?_)
    refine lv_if_ne (tgt := 22) hx hb dX7_help_17 (by decide) (fun c4 => ?_) (fun c4 => ?_)
    · replace hf := ite_f c4 hf
      refine lv_aload_n hx hb dX7_help_22 rfl (lv_at hl 0 rfl) ?_
      refine lv_iload_n hx hb dX7_help_23 rfl (lv_at hl 1 rfl) ?_
      refine lv_aload_n hx hb dX7_help_24 rfl (lv_at hl 0 rfl) ?_
      obtain ⟨r5, hr5, hf⟩ := bnd hf
      refine k_callV X hP hD hS [(qg, .inr (7, [.ref qg_text, .int g_size, .int g_at, .int g_begin, .int g_token, .int g_told, .ref qg_read, .ref qg_life, .int g_dones, .ref qg_done, .int g_undos, .ref qg_undone, .ref qg_selves, .ref qg_when, .ref qg_jury, .int g_seens, .ref qg_years, .ref qg_states, .long g_trace, .ref qg_kept])), rI cI qg_text 200 g_text, rI cI qg_read 55 g_read, rI cI qg_life 55 g_life, rI cI qg_done 16 g_done, rI cI qg_undone 130 g_undone, rI cI qg_selves 16 g_selves, rI cI qg_when 27 g_when, rI cI qg_jury 16 g_jury, rI cI qg_years 6 g_years, rI cI qg_states 6 g_states, rI cI qg_kept 290 g_kept] (ctX7_beginning l D cI cZ cD cH qg qg_text qg_read qg_life qg_done qg_undone qg_selves qg_when qg_jury qg_years qg_states qg_kept g_size g_at g_begin g_token g_told g_dones g_undos g_seens g_trace g_text g_read g_life g_done g_undone g_selves g_when g_jury g_years g_states g_kept r5 hr5) ml_RX7_178 im_yX7_beginning se_yX7_beginning in_RX7 cd_yX7_beginning rfl rfl hd_yX7_beginning ⟨by decide, by decide⟩ ⟨Nat.zero_le _, Nat.zero_le _⟩ [0, 1, 2, 3, 4, 5, 6, 7, 8, 9, 10, 11] [some 0, some 1, some 2, some 3, some 4, some 5, some 6, some 7, some 8, some 9, some 10, some 11] rfl (by decide +kernel) rfl (by decide +kernel) rfl rfl (q0 := 0) rfl rfl rfl hl.1 rfl rfl (Nat.le_of_ble_eq_true rfl) rfl dX7_help_25 (fun H locs hP hD hS => ?_)
      obtain ⟨r6, hr6, hf⟩ := bnd hf
      refine k_callV X hP hD hS [(qg, .inr (7, [.ref qg_text, .int g_size, .int g_at, .int g_begin, .int g_token, .int g_told, .ref qg_read, .ref qg_life, .int g_dones, .ref qg_done, .int g_undos, .ref qg_undone, .ref qg_selves, .ref qg_when, .ref qg_jury, .int g_seens, .ref qg_years, .ref qg_states, .long g_trace, .ref qg_kept])), rI cI qg_text 200 g_text, rI cI qg_read 55 g_read, rI cI qg_life 55 g_life, rI cI qg_done 16 g_done, rI cI qg_undone 130 g_undone, rI cI qg_selves 16 r6.2, rI cI qg_when 27 g_when, rI cI qg_jury 16 g_jury, rI cI qg_years 6 g_years, rI cI qg_states 6 g_states, rI cI qg_kept 290 g_kept] (ctX7_sureFrom l D cI cZ cD cH qg qg_text qg_read qg_life qg_done qg_undone qg_selves qg_when qg_jury qg_years qg_states qg_kept a1 r5 g_size g_at g_begin g_token g_told g_dones g_undos g_seens g_trace g_text g_read g_life g_done g_undone g_selves g_when g_jury g_years g_states g_kept r6 hr6) ml_RX7_187 im_yX7_sureFrom se_yX7_sureFrom in_RX7 cd_yX7_sureFrom rfl rfl hd_yX7_sureFrom ⟨by decide, by decide⟩ ⟨Nat.zero_le _, Nat.zero_le _⟩ [0, 1, 2, 3, 4, 5, 6, 7, 8, 9, 10, 11] [some 0, some 1, some 2, some 3, some 4, some 5, some 6, some 7, some 8, some 9, some 10, some 11] rfl (by decide +kernel) rfl (by decide +kernel) rfl rfl (q0 := 0) rfl rfl rfl hl.1 rfl rfl (Nat.le_of_ble_eq_true rfl) rfl dX7_help_28 (fun H locs hP hD hS => ?_)
      refine lv_iconst (v := 2) hx hb dX7_help_31 (by decide) ?_
      refine lv_icmp_ne (tgt := 46) hx hb dX7_help_32 (by decide) (fun c7 => ?_) (fun c7 => ?_)
      · replace hf := ite_f c7 hf
        refine lv_aload_n hx hb dX7_help_46 rfl (lv_at hl 0 rfl) ?_
        refine k_get X hP 0 rfl rfl inX7 8 (by decide) fl_RX7_119 rfl rfl dX7_help_47 ?_
        refine lv_istore_n (lv' := [(3, .int g_dones), (0, .ref qg), (1, .int a1), (2, .int a2)]) hx hb dX7_help_50 rfl hl (by decide) rfl (fun ls hl => ?_)
        refine lv_bipush (v := (-9)) hx hb dX7_help_51 (by decide) ?_
        refine lv_istore (lv' := [(4, .int (-9)), (3, .int g_dones), (0, .ref qg), (1, .int a1), (2, .int a2)]) hx hb dX7_help_53 hl (by decide) rfl (fun ls hl => ?_)
        refine lv_aload_n hx hb dX7_help_55 rfl (lv_at hl 2 rfl) ?_
        refine k_get X hP 0 rfl rfl inX7 7 (by decide) fl_RX7_16 rfl rfl dX7_help_56 ?_
        refine lv_iconst (v := 0) hx hb dX7_help_59 (by decide) ?_
        obtain ⟨h8, hf⟩ := ck_t hf
        refine k_iald X hP 3 0 rfl rfl h8 dX7_help_60 ?_
        refine lv_aload_n hx hb dX7_help_61 rfl (lv_at hl 2 rfl) ?_
        refine k_get X hP 0 rfl rfl inX7 7 (by decide) fl_RX7_16 rfl rfl dX7_help_62 ?_
        refine lv_iconst (v := 5) hx hb dX7_help_65 (by decide) ?_
        obtain ⟨h9, hf⟩ := ck_t hf
        refine k_iald X hP 3 0 rfl rfl h9 dX7_help_66 ?_
        refine lv_imul hx hb dX7_help_67 ?_
        refine lv_istore (lv' := [(5, .int ((g_life (0 : Int32).toNatClampNeg) * (g_life (5 : Int32).toNatClampNeg))), (4, .int (-9)), (3, .int g_dones), (0, .ref qg), (1, .int a1), (2, .int a2)]) hx hb dX7_help_68 hl (by decide) rfl (fun ls hl => ?_)
        refine lv_iconst (v := 0) hx hb dX7_help_70 (by decide) ?_
        refine lv_istore (lv' := [(6, .int 0), (5, .int ((g_life (0 : Int32).toNatClampNeg) * (g_life (5 : Int32).toNatClampNeg))), (4, .int (-9)), (3, .int g_dones), (0, .ref qg), (1, .int a1), (2, .int a2)]) hx hb dX7_help_71 hl (by decide) rfl (fun ls hl => ?_)
        obtain ⟨e10, he10, hf⟩ := bnd hf
        have hx10_0 : ∀ (y10_0 : Int32 × Int32 × (Nat → Int32) × (Nat → Int32)), y10_0 = e10 → ∀ (H : Heap) (locs : List Loc) (ls : Array Slot), va_P D vwCl [(qg, .inr (7, [.ref qg_text, .int g_size, .int g_at, .int g_begin, .int g_token, .int g_told, .ref qg_read, .ref qg_life, .int y10_0.2.1, .ref qg_done, .int g_undos, .ref qg_undone, .ref qg_selves, .ref qg_when, .ref qg_jury, .int g_seens, .ref qg_years, .ref qg_states, .long g_trace, .ref qg_kept])), rI cI qg_text 200 g_text, rI cI qg_read 55 g_read, rI cI qg_life 55 g_life, rI cI qg_done 16 y10_0.2.2.1, rI cI qg_undone 130 g_undone, rI cI qg_selves 16 y10_0.2.2.2, rI cI qg_when 27 g_when, rI cI qg_jury 16 g_jury, rI cI qg_years 6 g_years, rI cI qg_states 6 g_states, rI cI qg_kept 290 g_kept] H → va_D A [(qg, .inr (7, [.ref qg_text, .int g_size, .int g_at, .int g_begin, .int g_token, .int g_told, .ref qg_read, .ref qg_life, .int y10_0.2.1, .ref qg_done, .int g_undos, .ref qg_undone, .ref qg_selves, .ref qg_when, .ref qg_jury, .int g_seens, .ref qg_years, .ref qg_states, .long g_trace, .ref qg_kept])), rI cI qg_text 200 g_text, rI cI qg_read 55 g_read, rI cI qg_life 55 g_life, rI cI qg_done 16 y10_0.2.2.1, rI cI qg_undone 130 g_undone, rI cI qg_selves 16 y10_0.2.2.2, rI cI qg_when 27 g_when, rI cI qg_jury 16 g_jury, rI cI qg_years 6 g_years, rI cI qg_states 6 g_states, rI cI qg_kept 290 g_kept] → va_S A s.heap H locs → lv_has ls 9 [(0, .ref qg), (1, .int a1), (2, .int a2), (3, .int g_dones), (4, .int y10_0.1), (5, .int ((g_life (0 : Int32).toNatClampNeg) * (g_life (5 : Int32).toNatClampNeg)))] → W p l e ({ frames := 6, cells := 0, slots := 0, locals := 140 } : Room) s m args below meth c H locs 0 0 Q (F0 m 180 ls []) := by
          intro y10_0 heq H locs ls hP hD hS hl
          subst heq
          refine lv_iconst (v := 0) hx hb dX7_help_180 (by decide) ?_
          refine lv_istore (lv' := [(6, .int 0), (0, .ref qg), (1, .int a1), (2, .int a2), (3, .int g_dones), (4, .int y10_0.1), (5, .int ((g_life (0 : Int32).toNatClampNeg) * (g_life (5 : Int32).toNatClampNeg)))]) hx hb dX7_help_181 hl (by decide) rfl (fun ls hl => ?_)
          obtain ⟨e11, he11, hf⟩ := bnd hf
          have hx11_0 : ∀ (y11_0 : Int32 × Int32 × (Nat → Int32) × (Nat → Int32)), y11_0 = e11 → ∀ (H : Heap) (locs : List Loc) (ls : Array Slot), va_P D vwCl [(qg, .inr (7, [.ref qg_text, .int g_size, .int g_at, .int g_begin, .int g_token, .int g_told, .ref qg_read, .ref qg_life, .int y11_0.2.1, .ref qg_done, .int g_undos, .ref qg_undone, .ref qg_selves, .ref qg_when, .ref qg_jury, .int g_seens, .ref qg_years, .ref qg_states, .long g_trace, .ref qg_kept])), rI cI qg_text 200 g_text, rI cI qg_read 55 g_read, rI cI qg_life 55 g_life, rI cI qg_done 16 y11_0.2.2.1, rI cI qg_undone 130 g_undone, rI cI qg_selves 16 y11_0.2.2.2, rI cI qg_when 27 g_when, rI cI qg_jury 16 g_jury, rI cI qg_years 6 g_years, rI cI qg_states 6 g_states, rI cI qg_kept 290 g_kept] H → va_D A [(qg, .inr (7, [.ref qg_text, .int g_size, .int g_at, .int g_begin, .int g_token, .int g_told, .ref qg_read, .ref qg_life, .int y11_0.2.1, .ref qg_done, .int g_undos, .ref qg_undone, .ref qg_selves, .ref qg_when, .ref qg_jury, .int g_seens, .ref qg_years, .ref qg_states, .long g_trace, .ref qg_kept])), rI cI qg_text 200 g_text, rI cI qg_read 55 g_read, rI cI qg_life 55 g_life, rI cI qg_done 16 y11_0.2.2.1, rI cI qg_undone 130 g_undone, rI cI qg_selves 16 y11_0.2.2.2, rI cI qg_when 27 g_when, rI cI qg_jury 16 g_jury, rI cI qg_years 6 g_years, rI cI qg_states 6 g_states, rI cI qg_kept 290 g_kept] → va_S A s.heap H locs → lv_has ls 9 [(4, .int y11_0.1)] → W p l e ({ frames := 6, cells := 0, slots := 0, locals := 140 } : Room) s m args below meth c H locs 0 0 Q (F0 m 339 ls []) := by
            intro y11_0 heq H locs ls hP hD hS hl
            subst heq
            refine lv_iload hx hb dX7_help_339 (lv_at hl 0 rfl) ?_
            replace hf := Option.some.inj hf
            subst hf
            exact hret H locs _ ls dX7_help_341 hP hD hS
          refine lpd_ind (P := fun s11 => ∀ (H : Heap) (locs : List Loc) (ls : Array Slot), va_P D vwCl [(qg, .inr (7, [.ref qg_text, .int g_size, .int g_at, .int g_begin, .int g_token, .int g_told, .ref qg_read, .ref qg_life, .int s11.2.2.1, .ref qg_done, .int g_undos, .ref qg_undone, .ref qg_selves, .ref qg_when, .ref qg_jury, .int g_seens, .ref qg_years, .ref qg_states, .long g_trace, .ref qg_kept])), rI cI qg_text 200 g_text, rI cI qg_read 55 g_read, rI cI qg_life 55 g_life, rI cI qg_done 16 s11.2.2.2.1, rI cI qg_undone 130 g_undone, rI cI qg_selves 16 s11.2.2.2.2, rI cI qg_when 27 g_when, rI cI qg_jury 16 g_jury, rI cI qg_years 6 g_years, rI cI qg_states 6 g_states, rI cI qg_kept 290 g_kept] H → va_D A [(qg, .inr (7, [.ref qg_text, .int g_size, .int g_at, .int g_begin, .int g_token, .int g_told, .ref qg_read, .ref qg_life, .int s11.2.2.1, .ref qg_done, .int g_undos, .ref qg_undone, .ref qg_selves, .ref qg_when, .ref qg_jury, .int g_seens, .ref qg_years, .ref qg_states, .long g_trace, .ref qg_kept])), rI cI qg_text 200 g_text, rI cI qg_read 55 g_read, rI cI qg_life 55 g_life, rI cI qg_done 16 s11.2.2.2.1, rI cI qg_undone 130 g_undone, rI cI qg_selves 16 s11.2.2.2.2, rI cI qg_when 27 g_when, rI cI qg_jury 16 g_jury, rI cI qg_years 6 g_years, rI cI qg_states 6 g_states, rI cI qg_kept 290 g_kept] → va_S A s.heap H locs → lv_has ls 9 [(0, .ref qg), (1, .int a1), (2, .int a2), (3, .int g_dones), (4, .int s11.1), (5, .int ((g_life (0 : Int32).toNatClampNeg) * (g_life (5 : Int32).toNatClampNeg))), (6, .int s11.2.1)] → W p l e ({ frames := 6, cells := 0, slots := 0, locals := 140 } : Room) s m args below meth c H locs 0 0 Q (F0 m 183 ls [])) e11 ?_ _ _ he11 H locs ls hP hD hS (lv_sub hl [1, 2, 3, 4, 5, 6, 0] rfl)
          intro s11 r11 hf ih11 hq11 H locs ls hP hD hS hl
          unfold sX7_help_183 at hf
          refine lv_iload hx hb dX7_help_183 (lv_at hl 6 rfl) ?_
          refine lv_iload hx hb dX7_help_185 (lv_at hl 5 rfl) ?_
          refine lv_icmp_ge (tgt := 339) hx hb dX7_help_187 (by decide) (fun c12 => ?_) (fun c12 => ?_)
          · replace hf := ite_t c12 hf
            exact hx11_0 _ (hq11 _ (Option.some.inj hf).symm) H locs ls hP hD hS (lv_sub hl [4] rfl)
          · replace hf := ite_f c12 hf
            refine lv_iload hx hb dX7_help_190 (lv_at hl 4 rfl) ?_
            refine lv_bipush (v := (-9)) hx hb dX7_help_192 (by decide) ?_
            refine lv_icmp_ne (tgt := 339) hx hb dX7_help_194 (by decide) (fun c13 => ?_) (fun c13 => ?_)
            · replace hf := ite_f c13 hf
              exact hx11_0 _ (hq11 _ (Option.some.inj hf).symm) H locs ls hP hD hS (lv_sub hl [4] rfl)
            · replace hf := ite_t c13 hf
              refine lv_iconst (v := 0) hx hb dX7_help_197 (by decide) ?_
              refine lv_istore (lv' := [(7, .int 0), (0, .ref qg), (1, .int a1), (2, .int a2), (3, .int g_dones), (4, .int s11.1), (5, .int ((g_life (0 : Int32).toNatClampNeg) * (g_life (5 : Int32).toNatClampNeg))), (6, .int s11.2.1)]) hx hb dX7_help_198 hl (by decide) rfl (fun ls hl => ?_)
              obtain ⟨e14, he14, hf⟩ := bnd hf
              have hx14_0 : ∀ (y14_0 : Int32 × Int32 × (Nat → Int32) × (Nat → Int32)), y14_0 = e14 → ∀ (H : Heap) (locs : List Loc) (ls : Array Slot), va_P D vwCl [(qg, .inr (7, [.ref qg_text, .int g_size, .int g_at, .int g_begin, .int g_token, .int g_told, .ref qg_read, .ref qg_life, .int y14_0.2.1, .ref qg_done, .int g_undos, .ref qg_undone, .ref qg_selves, .ref qg_when, .ref qg_jury, .int g_seens, .ref qg_years, .ref qg_states, .long g_trace, .ref qg_kept])), rI cI qg_text 200 g_text, rI cI qg_read 55 g_read, rI cI qg_life 55 g_life, rI cI qg_done 16 y14_0.2.2.1, rI cI qg_undone 130 g_undone, rI cI qg_selves 16 y14_0.2.2.2, rI cI qg_when 27 g_when, rI cI qg_jury 16 g_jury, rI cI qg_years 6 g_years, rI cI qg_states 6 g_states, rI cI qg_kept 290 g_kept] H → va_D A [(qg, .inr (7, [.ref qg_text, .int g_size, .int g_at, .int g_begin, .int g_token, .int g_told, .ref qg_read, .ref qg_life, .int y14_0.2.1, .ref qg_done, .int g_undos, .ref qg_undone, .ref qg_selves, .ref qg_when, .ref qg_jury, .int g_seens, .ref qg_years, .ref qg_states, .long g_trace, .ref qg_kept])), rI cI qg_text 200 g_text, rI cI qg_read 55 g_read, rI cI qg_life 55 g_life, rI cI qg_done 16 y14_0.2.2.1, rI cI qg_undone 130 g_undone, rI cI qg_selves 16 y14_0.2.2.2, rI cI qg_when 27 g_when, rI cI qg_jury 16 g_jury, rI cI qg_years 6 g_years, rI cI qg_states 6 g_states, rI cI qg_kept 290 g_kept] → va_S A s.heap H locs → lv_has ls 9 [(0, .ref qg), (1, .int a1), (2, .int a2), (3, .int g_dones), (4, .int y14_0.1), (5, .int ((g_life (0 : Int32).toNatClampNeg) * (g_life (5 : Int32).toNatClampNeg))), (6, .int s11.2.1)] → W p l e ({ frames := 6, cells := 0, slots := 0, locals := 140 } : Room) s m args below meth c H locs 0 0 Q (F0 m 333 ls []) := by
                intro y14_0 heq H locs ls hP hD hS hl
                subst heq
                refine lv_iinc (v := s11.2.1 + 1) (lv' := [(6, .int (s11.2.1 + 1)), (0, .ref qg), (1, .int a1), (2, .int a2), (3, .int g_dones), (4, .int y14_0.1), (5, .int ((g_life (0 : Int32).toNatClampNeg) * (g_life (5 : Int32).toNatClampNeg)))]) hx hb dX7_help_333 hl (k := 6) rfl rfl (by decide) rfl (fun ls hl => ?_)
                refine lv_goto (tgt := 183) hx hb dX7_help_336 (by decide) ?_
                exact ih11 _ (Option.some.inj hf).symm H locs ls hP hD hS (lv_sub hl [1, 2, 3, 4, 5, 6, 0] rfl)
              refine lpd_ind (P := fun s14 => ∀ (H : Heap) (locs : List Loc) (ls : Array Slot), va_P D vwCl [(qg, .inr (7, [.ref qg_text, .int g_size, .int g_at, .int g_begin, .int g_token, .int g_told, .ref qg_read, .ref qg_life, .int s14.2.2.1, .ref qg_done, .int g_undos, .ref qg_undone, .ref qg_selves, .ref qg_when, .ref qg_jury, .int g_seens, .ref qg_years, .ref qg_states, .long g_trace, .ref qg_kept])), rI cI qg_text 200 g_text, rI cI qg_read 55 g_read, rI cI qg_life 55 g_life, rI cI qg_done 16 s14.2.2.2.1, rI cI qg_undone 130 g_undone, rI cI qg_selves 16 s14.2.2.2.2, rI cI qg_when 27 g_when, rI cI qg_jury 16 g_jury, rI cI qg_years 6 g_years, rI cI qg_states 6 g_states, rI cI qg_kept 290 g_kept] H → va_D A [(qg, .inr (7, [.ref qg_text, .int g_size, .int g_at, .int g_begin, .int g_token, .int g_told, .ref qg_read, .ref qg_life, .int s14.2.2.1, .ref qg_done, .int g_undos, .ref qg_undone, .ref qg_selves, .ref qg_when, .ref qg_jury, .int g_seens, .ref qg_years, .ref qg_states, .long g_trace, .ref qg_kept])), rI cI qg_text 200 g_text, rI cI qg_read 55 g_read, rI cI qg_life 55 g_life, rI cI qg_done 16 s14.2.2.2.1, rI cI qg_undone 130 g_undone, rI cI qg_selves 16 s14.2.2.2.2, rI cI qg_when 27 g_when, rI cI qg_jury 16 g_jury, rI cI qg_years 6 g_years, rI cI qg_states 6 g_states, rI cI qg_kept 290 g_kept] → va_S A s.heap H locs → lv_has ls 9 [(0, .ref qg), (1, .int a1), (2, .int a2), (3, .int g_dones), (4, .int s14.1), (5, .int ((g_life (0 : Int32).toNatClampNeg) * (g_life (5 : Int32).toNatClampNeg))), (6, .int s11.2.1), (7, .int s14.2.1)] → W p l e ({ frames := 6, cells := 0, slots := 0, locals := 140 } : Room) s m args below meth c H locs 0 0 Q (F0 m 200 ls [])) e14 ?_ _ _ he14 H locs ls hP hD hS (lv_sub hl [1, 2, 3, 4, 5, 6, 7, 0] rfl)
              intro s14 r14 hf ih14 hq14 H locs ls hP hD hS hl
              unfold sX7_help_200 at hf
              refine lv_iload hx hb dX7_help_200 (lv_at hl 7 rfl) ?_
              refine lv_iload hx hb dX7_help_202 (lv_at hl 5 rfl) ?_
              refine lv_icmp_ge (tgt := 333) hx hb dX7_help_204 (by decide) (fun c15 => ?_) (fun c15 => ?_)
              · replace hf := ite_t c15 hf
                exact hx14_0 _ (hq14 _ (Option.some.inj hf).symm) H locs ls hP hD hS (lv_sub hl [0, 1, 2, 3, 4, 5, 6] rfl)
              · replace hf := ite_f c15 hf
                refine lv_iload hx hb dX7_help_207 (lv_at hl 4 rfl) ?_
                refine lv_bipush (v := (-9)) hx hb dX7_help_209 (by decide) ?_
                refine lv_icmp_ne (tgt := 333) hx hb dX7_help_211 (by decide) (fun c16 => ?_) (fun c16 => ?_)
                · replace hf := ite_f c16 hf
                  exact hx14_0 _ (hq14 _ (Option.some.inj hf).symm) H locs ls hP hD hS (lv_sub hl [0, 1, 2, 3, 4, 5, 6] rfl)
                · replace hf := ite_t c16 hf
                  refine lv_aload_n hx hb dX7_help_214 rfl (lv_at hl 0 rfl) ?_
                  refine lv_iload hx hb dX7_help_215 (lv_at hl 6 rfl) ?_
                  refine lv_aload_n hx hb dX7_help_217 rfl (lv_at hl 0 rfl) ?_
                  refine k_get X hP 0 rfl rfl inX7 7 (by decide) fl_RX7_16 rfl rfl dX7_help_218 ?_
                  refine lv_iconst (v := 5) hx hb dX7_help_221 (by decide) ?_
                  obtain ⟨h17, hf⟩ := ck_t hf
                  refine k_iald X hP 3 0 rfl rfl h17 dX7_help_222 ?_
                  obtain ⟨h18, hf⟩ := ck_t hf
                  refine lv_idiv hx hb dX7_help_223 h18 ?_
                  refine lv_iload hx hb dX7_help_224 (lv_at hl 6 rfl) ?_
                  refine lv_aload_n hx hb dX7_help_226 rfl (lv_at hl 0 rfl) ?_
                  refine k_get X hP 0 rfl rfl inX7 7 (by decide) fl_RX7_16 rfl rfl dX7_help_227 ?_
                  refine lv_iconst (v := 5) hx hb dX7_help_230 (by decide) ?_
                  obtain ⟨h19, hf⟩ := ck_t hf
                  refine k_iald X hP 3 0 rfl rfl h19 dX7_help_231 ?_
                  obtain ⟨h20, hf⟩ := ck_t hf
                  refine lv_irem hx hb dX7_help_232 h20 ?_
                  obtain ⟨r21, hr21, hf⟩ := bnd hf
                  refine k_callV X hP hD hS [(qg, .inr (7, [.ref qg_text, .int g_size, .int g_at, .int g_begin, .int g_token, .int g_told, .ref qg_read, .ref qg_life, .int r21.1, .ref qg_done, .int g_undos, .ref qg_undone, .ref qg_selves, .ref qg_when, .ref qg_jury, .int g_seens, .ref qg_years, .ref qg_states, .long g_trace, .ref qg_kept])), rI cI qg_text 200 g_text, rI cI qg_read 55 g_read, rI cI qg_life 55 g_life, rI cI qg_done 16 r21.2, rI cI qg_undone 130 g_undone, rI cI qg_selves 16 s14.2.2.2.2, rI cI qg_when 27 g_when, rI cI qg_jury 16 g_jury, rI cI qg_years 6 g_years, rI cI qg_states 6 g_states, rI cI qg_kept 290 g_kept] (ctX7_adds l D cI cZ cD cH qg qg_text qg_read qg_life qg_done qg_undone qg_selves qg_when qg_jury qg_years qg_states qg_kept (s11.2.1 / (g_life (5 : Int32).toNatClampNeg)) (s11.2.1 - s11.2.1 / (g_life (5 : Int32).toNatClampNeg) * (g_life (5 : Int32).toNatClampNeg)) g_size g_at g_begin g_token g_told s14.2.2.1 g_undos g_seens g_trace g_text g_read g_life s14.2.2.2.1 g_undone s14.2.2.2.2 g_when g_jury g_years g_states g_kept r21 hr21) ml_RX7_153 im_yX7_adds se_yX7_adds in_RX7 cd_yX7_adds rfl rfl hd_yX7_adds ⟨by decide, by decide⟩ ⟨Nat.zero_le _, Nat.zero_le _⟩ [0, 1, 2, 3, 4, 5, 6, 7, 8, 9, 10, 11] [some 0, some 1, some 2, some 3, some 4, some 5, some 6, some 7, some 8, some 9, some 10, some 11] rfl (by decide +kernel) rfl (by decide +kernel) rfl rfl (q0 := 0) rfl rfl rfl hl.1 rfl rfl (Nat.le_of_ble_eq_true rfl) rfl dX7_help_233 (fun H locs hP hD hS => ?_)
                  refine lv_aload_n hx hb dX7_help_236 rfl (lv_at hl 0 rfl) ?_
                  refine lv_iload hx hb dX7_help_237 (lv_at hl 7 rfl) ?_
                  refine lv_aload_n hx hb dX7_help_239 rfl (lv_at hl 0 rfl) ?_
                  refine k_get X hP 0 rfl rfl inX7 7 (by decide) fl_RX7_16 rfl rfl dX7_help_240 ?_
                  refine lv_iconst (v := 5) hx hb dX7_help_243 (by decide) ?_
                  obtain ⟨h22, hf⟩ := ck_t hf
                  refine k_iald X hP 3 0 rfl rfl h22 dX7_help_244 ?_
                  obtain ⟨h23, hf⟩ := ck_t hf
                  refine lv_idiv hx hb dX7_help_245 h23 ?_
                  refine lv_iload hx hb dX7_help_246 (lv_at hl 7 rfl) ?_
                  refine lv_aload_n hx hb dX7_help_248 rfl (lv_at hl 0 rfl) ?_
                  refine k_get X hP 0 rfl rfl inX7 7 (by decide) fl_RX7_16 rfl rfl dX7_help_249 ?_
                  refine lv_iconst (v := 5) hx hb dX7_help_252 (by decide) ?_
                  obtain ⟨h24, hf⟩ := ck_t hf
                  refine k_iald X hP 3 0 rfl rfl h24 dX7_help_253 ?_
                  obtain ⟨h25, hf⟩ := ck_t hf
                  refine lv_irem hx hb dX7_help_254 h25 ?_
                  obtain ⟨r26, hr26, hf⟩ := bnd hf
                  refine k_callV X hP hD hS [(qg, .inr (7, [.ref qg_text, .int g_size, .int g_at, .int g_begin, .int g_token, .int g_told, .ref qg_read, .ref qg_life, .int r26.1, .ref qg_done, .int g_undos, .ref qg_undone, .ref qg_selves, .ref qg_when, .ref qg_jury, .int g_seens, .ref qg_years, .ref qg_states, .long g_trace, .ref qg_kept])), rI cI qg_text 200 g_text, rI cI qg_read 55 g_read, rI cI qg_life 55 g_life, rI cI qg_done 16 r26.2, rI cI qg_undone 130 g_undone, rI cI qg_selves 16 s14.2.2.2.2, rI cI qg_when 27 g_when, rI cI qg_jury 16 g_jury, rI cI qg_years 6 g_years, rI cI qg_states 6 g_states, rI cI qg_kept 290 g_kept] (ctX7_adds l D cI cZ cD cH qg qg_text qg_read qg_life qg_done qg_undone qg_selves qg_when qg_jury qg_years qg_states qg_kept (s14.2.1 / (g_life (5 : Int32).toNatClampNeg)) (s14.2.1 - s14.2.1 / (g_life (5 : Int32).toNatClampNeg) * (g_life (5 : Int32).toNatClampNeg)) g_size g_at g_begin g_token g_told r21.1 g_undos g_seens g_trace g_text g_read g_life r21.2 g_undone s14.2.2.2.2 g_when g_jury g_years g_states g_kept r26 hr26) ml_RX7_153 im_yX7_adds se_yX7_adds in_RX7 cd_yX7_adds rfl rfl hd_yX7_adds ⟨by decide, by decide⟩ ⟨Nat.zero_le _, Nat.zero_le _⟩ [0, 1, 2, 3, 4, 5, 6, 7, 8, 9, 10, 11] [some 0, some 1, some 2, some 3, some 4, some 5, some 6, some 7, some 8, some 9, some 10, some 11] rfl (by decide +kernel) rfl (by decide +kernel) rfl rfl (q0 := 0) rfl rfl rfl hl.1 rfl rfl (Nat.le_of_ble_eq_true rfl) rfl dX7_help_255 (fun H locs hP hD hS => ?_)
                  refine lv_iload_n hx hb dX7_help_258 rfl (lv_at hl 2 rfl) ?_
                  refine lv_iconst (v := 1) hx hb dX7_help_259 (by decide) ?_
                  refine jn_e hf (fun K27 hf hk27 => ?_)
                  have hj27 : ∀ (x27 : Int32) (H : Heap) (locs : List Loc) (ls : Array Slot), K27 x27 = some r14 → va_P D vwCl [(qg, .inr (7, [.ref qg_text, .int g_size, .int g_at, .int g_begin, .int g_token, .int g_told, .ref qg_read, .ref qg_life, .int r26.1, .ref qg_done, .int g_undos, .ref qg_undone, .ref qg_selves, .ref qg_when, .ref qg_jury, .int g_seens, .ref qg_years, .ref qg_states, .long g_trace, .ref qg_kept])), rI cI qg_text 200 g_text, rI cI qg_read 55 g_read, rI cI qg_life 55 g_life, rI cI qg_done 16 r26.2, rI cI qg_undone 130 g_undone, rI cI qg_selves 16 s14.2.2.2.2, rI cI qg_when 27 g_when, rI cI qg_jury 16 g_jury, rI cI qg_years 6 g_years, rI cI qg_states 6 g_states, rI cI qg_kept 290 g_kept] H → va_D A [(qg, .inr (7, [.ref qg_text, .int g_size, .int g_at, .int g_begin, .int g_token, .int g_told, .ref qg_read, .ref qg_life, .int r26.1, .ref qg_done, .int g_undos, .ref qg_undone, .ref qg_selves, .ref qg_when, .ref qg_jury, .int g_seens, .ref qg_years, .ref qg_states, .long g_trace, .ref qg_kept])), rI cI qg_text 200 g_text, rI cI qg_read 55 g_read, rI cI qg_life 55 g_life, rI cI qg_done 16 r26.2, rI cI qg_undone 130 g_undone, rI cI qg_selves 16 s14.2.2.2.2, rI cI qg_when 27 g_when, rI cI qg_jury 16 g_jury, rI cI qg_years 6 g_years, rI cI qg_states 6 g_states, rI cI qg_kept 290 g_kept] → va_S A s.heap H locs → lv_has ls 9 [(0, .ref qg), (1, .int a1), (2, .int a2), (3, .int g_dones), (5, .int ((g_life (0 : Int32).toNatClampNeg) * (g_life (5 : Int32).toNatClampNeg))), (6, .int s11.2.1), (7, .int s14.2.1)] → W p l e ({ frames := 6, cells := 0, slots := 0, locals := 140 } : Room) s m args below meth c H locs 0 0 Q (F0 m 270 ls [.int x27]) := by
                    intro x27 H locs ls hf hP hD hS hl
                    replace hf := hk27 x27 hf
                    refine lv_istore (lv' := [(8, .int x27), (0, .ref qg), (1, .int a1), (2, .int a2), (3, .int g_dones), (5, .int ((g_life (0 : Int32).toNatClampNeg) * (g_life (5 : Int32).toNatClampNeg))), (6, .int s11.2.1), (7, .int s14.2.1)]) hx hb dX7_help_270 hl (by decide) rfl (fun ls hl => ?_)
                    refine lv_aload_n hx hb dX7_help_272 rfl (lv_at hl 1 rfl) ?_
                    refine lv_iload_n hx hb dX7_help_273 rfl (lv_at hl 2 rfl) ?_
                    refine lv_aload_n hx hb dX7_help_274 rfl (lv_at hl 1 rfl) ?_
                    obtain ⟨r28, hr28, hf⟩ := bnd hf
                    refine k_callV X hP hD hS [(qg, .inr (7, [.ref qg_text, .int g_size, .int g_at, .int g_begin, .int g_token, .int g_told, .ref qg_read, .ref qg_life, .int r26.1, .ref qg_done, .int g_undos, .ref qg_undone, .ref qg_selves, .ref qg_when, .ref qg_jury, .int g_seens, .ref qg_years, .ref qg_states, .long g_trace, .ref qg_kept])), rI cI qg_text 200 g_text, rI cI qg_read 55 g_read, rI cI qg_life 55 g_life, rI cI qg_done 16 r26.2, rI cI qg_undone 130 g_undone, rI cI qg_selves 16 s14.2.2.2.2, rI cI qg_when 27 g_when, rI cI qg_jury 16 g_jury, rI cI qg_years 6 g_years, rI cI qg_states 6 g_states, rI cI qg_kept 290 g_kept] (ctX7_beginning l D cI cZ cD cH qg qg_text qg_read qg_life qg_done qg_undone qg_selves qg_when qg_jury qg_years qg_states qg_kept g_size g_at g_begin g_token g_told r26.1 g_undos g_seens g_trace g_text g_read g_life r26.2 g_undone s14.2.2.2.2 g_when g_jury g_years g_states g_kept r28 hr28) ml_RX7_178 im_yX7_beginning se_yX7_beginning in_RX7 cd_yX7_beginning rfl rfl hd_yX7_beginning ⟨by decide, by decide⟩ ⟨Nat.zero_le _, Nat.zero_le _⟩ [0, 1, 2, 3, 4, 5, 6, 7, 8, 9, 10, 11] [some 0, some 1, some 2, some 3, some 4, some 5, some 6, some 7, some 8, some 9, some 10, some 11] rfl (by decide +kernel) rfl (by decide +kernel) rfl rfl (q0 := 0) rfl rfl rfl hl.1 rfl rfl (Nat.le_of_ble_eq_true rfl) rfl dX7_help_275 (fun H locs hP hD hS => ?_)
                    obtain ⟨r29, hr29, hf⟩ := bnd hf
                    refine k_callV X hP hD hS [(qg, .inr (7, [.ref qg_text, .int g_size, .int g_at, .int g_begin, .int g_token, .int g_told, .ref qg_read, .ref qg_life, .int r26.1, .ref qg_done, .int g_undos, .ref qg_undone, .ref qg_selves, .ref qg_when, .ref qg_jury, .int g_seens, .ref qg_years, .ref qg_states, .long g_trace, .ref qg_kept])), rI cI qg_text 200 g_text, rI cI qg_read 55 g_read, rI cI qg_life 55 g_life, rI cI qg_done 16 r26.2, rI cI qg_undone 130 g_undone, rI cI qg_selves 16 r29.2, rI cI qg_when 27 g_when, rI cI qg_jury 16 g_jury, rI cI qg_years 6 g_years, rI cI qg_states 6 g_states, rI cI qg_kept 290 g_kept] (ctX7_sureFrom l D cI cZ cD cH qg qg_text qg_read qg_life qg_done qg_undone qg_selves qg_when qg_jury qg_years qg_states qg_kept a1 r28 g_size g_at g_begin g_token g_told r26.1 g_undos g_seens g_trace g_text g_read g_life r26.2 g_undone s14.2.2.2.2 g_when g_jury g_years g_states g_kept r29 hr29) ml_RX7_187 im_yX7_sureFrom se_yX7_sureFrom in_RX7 cd_yX7_sureFrom rfl rfl hd_yX7_sureFrom ⟨by decide, by decide⟩ ⟨Nat.zero_le _, Nat.zero_le _⟩ [0, 1, 2, 3, 4, 5, 6, 7, 8, 9, 10, 11] [some 0, some 1, some 2, some 3, some 4, some 5, some 6, some 7, some 8, some 9, some 10, some 11] rfl (by decide +kernel) rfl (by decide +kernel) rfl rfl (q0 := 0) rfl rfl rfl hl.1 rfl rfl (Nat.le_of_ble_eq_true rfl) rfl dX7_help_278 (fun H locs hP hD hS => ?_)
                    refine lv_iconst (v := 2) hx hb dX7_help_281 (by decide) ?_
                    refine jn_e hf (fun K30 hf hk30 => ?_)
                    have hj30 : ∀ (x30 : Int32) (H : Heap) (locs : List Loc) (ls : Array Slot), K30 x30 = some r14 → va_P D vwCl [(qg, .inr (7, [.ref qg_text, .int g_size, .int g_at, .int g_begin, .int g_token, .int g_told, .ref qg_read, .ref qg_life, .int r26.1, .ref qg_done, .int g_undos, .ref qg_undone, .ref qg_selves, .ref qg_when, .ref qg_jury, .int g_seens, .ref qg_years, .ref qg_states, .long g_trace, .ref qg_kept])), rI cI qg_text 200 g_text, rI cI qg_read 55 g_read, rI cI qg_life 55 g_life, rI cI qg_done 16 r26.2, rI cI qg_undone 130 g_undone, rI cI qg_selves 16 r29.2, rI cI qg_when 27 g_when, rI cI qg_jury 16 g_jury, rI cI qg_years 6 g_years, rI cI qg_states 6 g_states, rI cI qg_kept 290 g_kept] H → va_D A [(qg, .inr (7, [.ref qg_text, .int g_size, .int g_at, .int g_begin, .int g_token, .int g_told, .ref qg_read, .ref qg_life, .int r26.1, .ref qg_done, .int g_undos, .ref qg_undone, .ref qg_selves, .ref qg_when, .ref qg_jury, .int g_seens, .ref qg_years, .ref qg_states, .long g_trace, .ref qg_kept])), rI cI qg_text 200 g_text, rI cI qg_read 55 g_read, rI cI qg_life 55 g_life, rI cI qg_done 16 r26.2, rI cI qg_undone 130 g_undone, rI cI qg_selves 16 r29.2, rI cI qg_when 27 g_when, rI cI qg_jury 16 g_jury, rI cI qg_years 6 g_years, rI cI qg_states 6 g_states, rI cI qg_kept 290 g_kept] → va_S A s.heap H locs → lv_has ls 9 [(0, .ref qg), (1, .int a1), (2, .int a2), (3, .int g_dones), (5, .int ((g_life (0 : Int32).toNatClampNeg) * (g_life (5 : Int32).toNatClampNeg))), (6, .int s11.2.1), (7, .int s14.2.1)] → W p l e ({ frames := 6, cells := 0, slots := 0, locals := 140 } : Room) s m args below meth c H locs 0 0 Q (F0 m 320 ls [.int x30]) := by
                      intro x30 H locs ls hf hP hD hS hl
                      replace hf := hk30 x30 hf
                      refine lv_istore (lv' := [(4, .int x30), (0, .ref qg), (1, .int a1), (2, .int a2), (3, .int g_dones), (5, .int ((g_life (0 : Int32).toNatClampNeg) * (g_life (5 : Int32).toNatClampNeg))), (6, .int s11.2.1), (7, .int s14.2.1)]) hx hb dX7_help_320 hl (by decide) rfl (fun ls hl => ?_)
                      refine lv_aload_n hx hb dX7_help_322 rfl (lv_at hl 1 rfl) ?_
                      refine lv_iload_n hx hb dX7_help_323 rfl (lv_at hl 4 rfl) ?_
                      refine k_put X hP hD hS [(qg, .inr (7, [.ref qg_text, .int g_size, .int g_at, .int g_begin, .int g_token, .int g_told, .ref qg_read, .ref qg_life, .int g_dones, .ref qg_done, .int g_undos, .ref qg_undone, .ref qg_selves, .ref qg_when, .ref qg_jury, .int g_seens, .ref qg_years, .ref qg_states, .long g_trace, .ref qg_kept])), rI cI qg_text 200 g_text, rI cI qg_read 55 g_read, rI cI qg_life 55 g_life, rI cI qg_done 16 r26.2, rI cI qg_undone 130 g_undone, rI cI qg_selves 16 r29.2, rI cI qg_when 27 g_when, rI cI qg_jury 16 g_jury, rI cI qg_years 6 g_years, rI cI qg_states 6 g_states, rI cI qg_kept 290 g_kept] 0 rfl rfl inX7 tyX7_ok nmX7 8 (by decide) fl_RX7_119 rfl rfl rfl rfl (Nat.le_of_ble_eq_true rfl) rfl dX7_help_324 (fun H locs hP hD hS => ?_)
                      refine lv_iinc (v := s14.2.1 + 1) (lv' := [(7, .int (s14.2.1 + 1)), (4, .int x30), (0, .ref qg), (1, .int a1), (2, .int a2), (3, .int g_dones), (5, .int ((g_life (0 : Int32).toNatClampNeg) * (g_life (5 : Int32).toNatClampNeg))), (6, .int s11.2.1)]) hx hb dX7_help_327 hl (k := 7) rfl rfl (by decide) rfl (fun ls hl => ?_)
                      refine lv_goto (tgt := 200) hx hb dX7_help_330 (by decide) ?_
                      exact ih14 _ (Option.some.inj hf).symm H locs ls hP hD hS (lv_sub hl [2, 3, 4, 5, 1, 6, 7, 0] rfl)
                    refine lv_icmp_ne (tgt := 318) hx hb dX7_help_282 (by decide) (fun c31 => ?_) (fun c31 => ?_)
                    · replace hf := ite_f c31 hf
                      refine lv_bipush (v := (-9)) hx hb dX7_help_318 (by decide) ?_
                      exact hj30 _ H locs ls hf hP hD hS (lv_sub hl [1, 2, 3, 4, 5, 6, 7] rfl)
                    · replace hf := ite_t c31 hf
                      refine lv_iload_n hx hb dX7_help_285 rfl (lv_at hl 3 rfl) ?_
                      refine lv_if_ne (tgt := 293) hx hb dX7_help_286 (by decide) (fun c32 => ?_) (fun c32 => ?_)
                      · replace hf := ite_f c32 hf
                        refine lv_bipush (v := 10) hx hb dX7_help_293 (by decide) ?_
                        refine lv_iload hx hb dX7_help_295 (lv_at hl 0 rfl) ?_
                        refine lv_aload_n hx hb dX7_help_297 rfl (lv_at hl 1 rfl) ?_
                        refine k_get X hP 0 rfl rfl inX7 7 (by decide) fl_RX7_16 rfl rfl dX7_help_298 ?_
                        refine lv_iconst (v := 5) hx hb dX7_help_301 (by decide) ?_
                        obtain ⟨h33, hf⟩ := ck_t hf
                        refine k_iald X hP 3 0 rfl rfl h33 dX7_help_302 ?_
                        obtain ⟨h34, hf⟩ := ck_t hf
                        refine lv_idiv hx hb dX7_help_303 h34 ?_
                        refine lv_imul hx hb dX7_help_304 ?_
                        refine lv_iload hx hb dX7_help_305 (lv_at hl 0 rfl) ?_
                        refine lv_aload_n hx hb dX7_help_307 rfl (lv_at hl 1 rfl) ?_
                        refine k_get X hP 0 rfl rfl inX7 7 (by decide) fl_RX7_16 rfl rfl dX7_help_308 ?_
                        refine lv_iconst (v := 5) hx hb dX7_help_311 (by decide) ?_
                        obtain ⟨h35, hf⟩ := ck_t hf
                        refine k_iald X hP 3 0 rfl rfl h35 dX7_help_312 ?_
                        obtain ⟨h36, hf⟩ := ck_t hf
                        refine lv_irem hx hb dX7_help_313 h36 ?_
                        refine lv_iadd hx hb dX7_help_314 ?_
                        refine lv_goto (tgt := 320) hx hb dX7_help_315 (by decide) ?_
                        exact hj30 _ H locs ls hf hP hD hS (lv_sub hl [1, 2, 3, 4, 5, 6, 7] rfl)
                      · replace hf := ite_t c32 hf
                        refine lv_iconst (v := 2) hx hb dX7_help_289 (by decide) ?_
                        refine lv_goto (tgt := 320) hx hb dX7_help_290 (by decide) ?_
                        exact hj30 _ H locs ls hf hP hD hS (lv_sub hl [1, 2, 3, 4, 5, 6, 7] rfl)
                  refine lv_icmp_ne (tgt := 268) hx hb dX7_help_260 (by decide) (fun c37 => ?_) (fun c37 => ?_)
                  · replace hf := ite_f c37 hf
                    refine lv_iload hx hb dX7_help_268 (lv_at hl 7 rfl) ?_
                    exact hj27 _ H locs ls hf hP hD hS (lv_sub hl [0, 1, 2, 3, 5, 6, 7] rfl)
                  · replace hf := ite_t c37 hf
                    refine lv_iload hx hb dX7_help_263 (lv_at hl 6 rfl) ?_
                    refine lv_goto (tgt := 270) hx hb dX7_help_265 (by decide) ?_
                    exact hj27 _ H locs ls hf hP hD hS (lv_sub hl [0, 1, 2, 3, 5, 6, 7] rfl)
        refine lpd_ind (P := fun s10 => ∀ (H : Heap) (locs : List Loc) (ls : Array Slot), va_P D vwCl [(qg, .inr (7, [.ref qg_text, .int g_size, .int g_at, .int g_begin, .int g_token, .int g_told, .ref qg_read, .ref qg_life, .int s10.2.2.1, .ref qg_done, .int g_undos, .ref qg_undone, .ref qg_selves, .ref qg_when, .ref qg_jury, .int g_seens, .ref qg_years, .ref qg_states, .long g_trace, .ref qg_kept])), rI cI qg_text 200 g_text, rI cI qg_read 55 g_read, rI cI qg_life 55 g_life, rI cI qg_done 16 s10.2.2.2.1, rI cI qg_undone 130 g_undone, rI cI qg_selves 16 s10.2.2.2.2, rI cI qg_when 27 g_when, rI cI qg_jury 16 g_jury, rI cI qg_years 6 g_years, rI cI qg_states 6 g_states, rI cI qg_kept 290 g_kept] H → va_D A [(qg, .inr (7, [.ref qg_text, .int g_size, .int g_at, .int g_begin, .int g_token, .int g_told, .ref qg_read, .ref qg_life, .int s10.2.2.1, .ref qg_done, .int g_undos, .ref qg_undone, .ref qg_selves, .ref qg_when, .ref qg_jury, .int g_seens, .ref qg_years, .ref qg_states, .long g_trace, .ref qg_kept])), rI cI qg_text 200 g_text, rI cI qg_read 55 g_read, rI cI qg_life 55 g_life, rI cI qg_done 16 s10.2.2.2.1, rI cI qg_undone 130 g_undone, rI cI qg_selves 16 s10.2.2.2.2, rI cI qg_when 27 g_when, rI cI qg_jury 16 g_jury, rI cI qg_years 6 g_years, rI cI qg_states 6 g_states, rI cI qg_kept 290 g_kept] → va_S A s.heap H locs → lv_has ls 9 [(0, .ref qg), (1, .int a1), (2, .int a2), (3, .int g_dones), (4, .int s10.1), (5, .int ((g_life (0 : Int32).toNatClampNeg) * (g_life (5 : Int32).toNatClampNeg))), (6, .int s10.2.1)] → W p l e ({ frames := 6, cells := 0, slots := 0, locals := 140 } : Room) s m args below meth c H locs 0 0 Q (F0 m 73 ls [])) e10 ?_ _ _ he10 H locs ls hP hD hS (lv_sub hl [4, 5, 6, 3, 2, 1, 0] rfl)
        intro s10 r10 hf ih10 hq10 H locs ls hP hD hS hl
        unfold sX7_help_73 at hf
        refine lv_iload hx hb dX7_help_73 (lv_at hl 6 rfl) ?_
        refine lv_iload hx hb dX7_help_75 (lv_at hl 5 rfl) ?_
        refine lv_icmp_ge (tgt := 180) hx hb dX7_help_77 (by decide) (fun c38 => ?_) (fun c38 => ?_)
        · replace hf := ite_t c38 hf
          exact hx10_0 _ (hq10 _ (Option.some.inj hf).symm) H locs ls hP hD hS (lv_sub hl [0, 1, 2, 3, 4, 5] rfl)
        · replace hf := ite_f c38 hf
          refine lv_iload hx hb dX7_help_80 (lv_at hl 4 rfl) ?_
          refine lv_bipush (v := (-9)) hx hb dX7_help_82 (by decide) ?_
          refine lv_icmp_ne (tgt := 180) hx hb dX7_help_84 (by decide) (fun c39 => ?_) (fun c39 => ?_)
          · replace hf := ite_f c39 hf
            exact hx10_0 _ (hq10 _ (Option.some.inj hf).symm) H locs ls hP hD hS (lv_sub hl [0, 1, 2, 3, 4, 5] rfl)
          · replace hf := ite_t c39 hf
            refine lv_aload_n hx hb dX7_help_87 rfl (lv_at hl 0 rfl) ?_
            refine lv_iload hx hb dX7_help_88 (lv_at hl 6 rfl) ?_
            refine lv_aload_n hx hb dX7_help_90 rfl (lv_at hl 0 rfl) ?_
            refine k_get X hP 0 rfl rfl inX7 7 (by decide) fl_RX7_16 rfl rfl dX7_help_91 ?_
            refine lv_iconst (v := 5) hx hb dX7_help_94 (by decide) ?_
            obtain ⟨h40, hf⟩ := ck_t hf
            refine k_iald X hP 3 0 rfl rfl h40 dX7_help_95 ?_
            obtain ⟨h41, hf⟩ := ck_t hf
            refine lv_idiv hx hb dX7_help_96 h41 ?_
            refine lv_iload hx hb dX7_help_97 (lv_at hl 6 rfl) ?_
            refine lv_aload_n hx hb dX7_help_99 rfl (lv_at hl 0 rfl) ?_
            refine k_get X hP 0 rfl rfl inX7 7 (by decide) fl_RX7_16 rfl rfl dX7_help_100 ?_
            refine lv_iconst (v := 5) hx hb dX7_help_103 (by decide) ?_
            obtain ⟨h42, hf⟩ := ck_t hf
            refine k_iald X hP 3 0 rfl rfl h42 dX7_help_104 ?_
            obtain ⟨h43, hf⟩ := ck_t hf
            refine lv_irem hx hb dX7_help_105 h43 ?_
            obtain ⟨r44, hr44, hf⟩ := bnd hf
            refine k_callV X hP hD hS [(qg, .inr (7, [.ref qg_text, .int g_size, .int g_at, .int g_begin, .int g_token, .int g_told, .ref qg_read, .ref qg_life, .int r44.1, .ref qg_done, .int g_undos, .ref qg_undone, .ref qg_selves, .ref qg_when, .ref qg_jury, .int g_seens, .ref qg_years, .ref qg_states, .long g_trace, .ref qg_kept])), rI cI qg_text 200 g_text, rI cI qg_read 55 g_read, rI cI qg_life 55 g_life, rI cI qg_done 16 r44.2, rI cI qg_undone 130 g_undone, rI cI qg_selves 16 s10.2.2.2.2, rI cI qg_when 27 g_when, rI cI qg_jury 16 g_jury, rI cI qg_years 6 g_years, rI cI qg_states 6 g_states, rI cI qg_kept 290 g_kept] (ctX7_adds l D cI cZ cD cH qg qg_text qg_read qg_life qg_done qg_undone qg_selves qg_when qg_jury qg_years qg_states qg_kept (s10.2.1 / (g_life (5 : Int32).toNatClampNeg)) (s10.2.1 - s10.2.1 / (g_life (5 : Int32).toNatClampNeg) * (g_life (5 : Int32).toNatClampNeg)) g_size g_at g_begin g_token g_told s10.2.2.1 g_undos g_seens g_trace g_text g_read g_life s10.2.2.2.1 g_undone s10.2.2.2.2 g_when g_jury g_years g_states g_kept r44 hr44) ml_RX7_153 im_yX7_adds se_yX7_adds in_RX7 cd_yX7_adds rfl rfl hd_yX7_adds ⟨by decide, by decide⟩ ⟨Nat.zero_le _, Nat.zero_le _⟩ [0, 1, 2, 3, 4, 5, 6, 7, 8, 9, 10, 11] [some 0, some 1, some 2, some 3, some 4, some 5, some 6, some 7, some 8, some 9, some 10, some 11] rfl (by decide +kernel) rfl (by decide +kernel) rfl rfl (q0 := 0) rfl rfl rfl hl.1 rfl rfl (Nat.le_of_ble_eq_true rfl) rfl dX7_help_106 (fun H locs hP hD hS => ?_)
            refine lv_aload_n hx hb dX7_help_109 rfl (lv_at hl 0 rfl) ?_
            refine lv_iload_n hx hb dX7_help_110 rfl (lv_at hl 1 rfl) ?_
            refine lv_aload_n hx hb dX7_help_111 rfl (lv_at hl 0 rfl) ?_
            obtain ⟨r45, hr45, hf⟩ := bnd hf
            refine k_callV X hP hD hS [(qg, .inr (7, [.ref qg_text, .int g_size, .int g_at, .int g_begin, .int g_token, .int g_told, .ref qg_read, .ref qg_life, .int r44.1, .ref qg_done, .int g_undos, .ref qg_undone, .ref qg_selves, .ref qg_when, .ref qg_jury, .int g_seens, .ref qg_years, .ref qg_states, .long g_trace, .ref qg_kept])), rI cI qg_text 200 g_text, rI cI qg_read 55 g_read, rI cI qg_life 55 g_life, rI cI qg_done 16 r44.2, rI cI qg_undone 130 g_undone, rI cI qg_selves 16 s10.2.2.2.2, rI cI qg_when 27 g_when, rI cI qg_jury 16 g_jury, rI cI qg_years 6 g_years, rI cI qg_states 6 g_states, rI cI qg_kept 290 g_kept] (ctX7_beginning l D cI cZ cD cH qg qg_text qg_read qg_life qg_done qg_undone qg_selves qg_when qg_jury qg_years qg_states qg_kept g_size g_at g_begin g_token g_told r44.1 g_undos g_seens g_trace g_text g_read g_life r44.2 g_undone s10.2.2.2.2 g_when g_jury g_years g_states g_kept r45 hr45) ml_RX7_178 im_yX7_beginning se_yX7_beginning in_RX7 cd_yX7_beginning rfl rfl hd_yX7_beginning ⟨by decide, by decide⟩ ⟨Nat.zero_le _, Nat.zero_le _⟩ [0, 1, 2, 3, 4, 5, 6, 7, 8, 9, 10, 11] [some 0, some 1, some 2, some 3, some 4, some 5, some 6, some 7, some 8, some 9, some 10, some 11] rfl (by decide +kernel) rfl (by decide +kernel) rfl rfl (q0 := 0) rfl rfl rfl hl.1 rfl rfl (Nat.le_of_ble_eq_true rfl) rfl dX7_help_112 (fun H locs hP hD hS => ?_)
            obtain ⟨r46, hr46, hf⟩ := bnd hf
            refine k_callV X hP hD hS [(qg, .inr (7, [.ref qg_text, .int g_size, .int g_at, .int g_begin, .int g_token, .int g_told, .ref qg_read, .ref qg_life, .int r44.1, .ref qg_done, .int g_undos, .ref qg_undone, .ref qg_selves, .ref qg_when, .ref qg_jury, .int g_seens, .ref qg_years, .ref qg_states, .long g_trace, .ref qg_kept])), rI cI qg_text 200 g_text, rI cI qg_read 55 g_read, rI cI qg_life 55 g_life, rI cI qg_done 16 r44.2, rI cI qg_undone 130 g_undone, rI cI qg_selves 16 r46.2, rI cI qg_when 27 g_when, rI cI qg_jury 16 g_jury, rI cI qg_years 6 g_years, rI cI qg_states 6 g_states, rI cI qg_kept 290 g_kept] (ctX7_sureFrom l D cI cZ cD cH qg qg_text qg_read qg_life qg_done qg_undone qg_selves qg_when qg_jury qg_years qg_states qg_kept a1 r45 g_size g_at g_begin g_token g_told r44.1 g_undos g_seens g_trace g_text g_read g_life r44.2 g_undone s10.2.2.2.2 g_when g_jury g_years g_states g_kept r46 hr46) ml_RX7_187 im_yX7_sureFrom se_yX7_sureFrom in_RX7 cd_yX7_sureFrom rfl rfl hd_yX7_sureFrom ⟨by decide, by decide⟩ ⟨Nat.zero_le _, Nat.zero_le _⟩ [0, 1, 2, 3, 4, 5, 6, 7, 8, 9, 10, 11] [some 0, some 1, some 2, some 3, some 4, some 5, some 6, some 7, some 8, some 9, some 10, some 11] rfl (by decide +kernel) rfl (by decide +kernel) rfl rfl (q0 := 0) rfl rfl rfl hl.1 rfl rfl (Nat.le_of_ble_eq_true rfl) rfl dX7_help_115 (fun H locs hP hD hS => ?_)
            refine lv_iconst (v := 2) hx hb dX7_help_118 (by decide) ?_
            refine jn_e hf (fun K47 hf hk47 => ?_)
            have hj47 : ∀ (x47 : Int32) (H : Heap) (locs : List Loc) (ls : Array Slot), K47 x47 = some r10 → va_P D vwCl [(qg, .inr (7, [.ref qg_text, .int g_size, .int g_at, .int g_begin, .int g_token, .int g_told, .ref qg_read, .ref qg_life, .int r44.1, .ref qg_done, .int g_undos, .ref qg_undone, .ref qg_selves, .ref qg_when, .ref qg_jury, .int g_seens, .ref qg_years, .ref qg_states, .long g_trace, .ref qg_kept])), rI cI qg_text 200 g_text, rI cI qg_read 55 g_read, rI cI qg_life 55 g_life, rI cI qg_done 16 r44.2, rI cI qg_undone 130 g_undone, rI cI qg_selves 16 r46.2, rI cI qg_when 27 g_when, rI cI qg_jury 16 g_jury, rI cI qg_years 6 g_years, rI cI qg_states 6 g_states, rI cI qg_kept 290 g_kept] H → va_D A [(qg, .inr (7, [.ref qg_text, .int g_size, .int g_at, .int g_begin, .int g_token, .int g_told, .ref qg_read, .ref qg_life, .int r44.1, .ref qg_done, .int g_undos, .ref qg_undone, .ref qg_selves, .ref qg_when, .ref qg_jury, .int g_seens, .ref qg_years, .ref qg_states, .long g_trace, .ref qg_kept])), rI cI qg_text 200 g_text, rI cI qg_read 55 g_read, rI cI qg_life 55 g_life, rI cI qg_done 16 r44.2, rI cI qg_undone 130 g_undone, rI cI qg_selves 16 r46.2, rI cI qg_when 27 g_when, rI cI qg_jury 16 g_jury, rI cI qg_years 6 g_years, rI cI qg_states 6 g_states, rI cI qg_kept 290 g_kept] → va_S A s.heap H locs → lv_has ls 9 [(0, .ref qg), (1, .int a1), (2, .int a2), (3, .int g_dones), (5, .int ((g_life (0 : Int32).toNatClampNeg) * (g_life (5 : Int32).toNatClampNeg))), (6, .int s10.2.1)] → W p l e ({ frames := 6, cells := 0, slots := 0, locals := 140 } : Room) s m args below meth c H locs 0 0 Q (F0 m 167 ls [.int x47]) := by
              intro x47 H locs ls hf hP hD hS hl
              replace hf := hk47 x47 hf
              refine lv_istore (lv' := [(4, .int x47), (0, .ref qg), (1, .int a1), (2, .int a2), (3, .int g_dones), (5, .int ((g_life (0 : Int32).toNatClampNeg) * (g_life (5 : Int32).toNatClampNeg))), (6, .int s10.2.1)]) hx hb dX7_help_167 hl (by decide) rfl (fun ls hl => ?_)
              refine lv_aload_n hx hb dX7_help_169 rfl (lv_at hl 1 rfl) ?_
              refine lv_iload_n hx hb dX7_help_170 rfl (lv_at hl 4 rfl) ?_
              refine k_put X hP hD hS [(qg, .inr (7, [.ref qg_text, .int g_size, .int g_at, .int g_begin, .int g_token, .int g_told, .ref qg_read, .ref qg_life, .int g_dones, .ref qg_done, .int g_undos, .ref qg_undone, .ref qg_selves, .ref qg_when, .ref qg_jury, .int g_seens, .ref qg_years, .ref qg_states, .long g_trace, .ref qg_kept])), rI cI qg_text 200 g_text, rI cI qg_read 55 g_read, rI cI qg_life 55 g_life, rI cI qg_done 16 r44.2, rI cI qg_undone 130 g_undone, rI cI qg_selves 16 r46.2, rI cI qg_when 27 g_when, rI cI qg_jury 16 g_jury, rI cI qg_years 6 g_years, rI cI qg_states 6 g_states, rI cI qg_kept 290 g_kept] 0 rfl rfl inX7 tyX7_ok nmX7 8 (by decide) fl_RX7_119 rfl rfl rfl rfl (Nat.le_of_ble_eq_true rfl) rfl dX7_help_171 (fun H locs hP hD hS => ?_)
              refine lv_iinc (v := s10.2.1 + 1) (lv' := [(6, .int (s10.2.1 + 1)), (4, .int x47), (0, .ref qg), (1, .int a1), (2, .int a2), (3, .int g_dones), (5, .int ((g_life (0 : Int32).toNatClampNeg) * (g_life (5 : Int32).toNatClampNeg)))]) hx hb dX7_help_174 hl (k := 6) rfl rfl (by decide) rfl (fun ls hl => ?_)
              refine lv_goto (tgt := 73) hx hb dX7_help_177 (by decide) ?_
              exact ih10 _ (Option.some.inj hf).symm H locs ls hP hD hS (lv_sub hl [2, 3, 4, 5, 1, 6, 0] rfl)
            refine lv_icmp_ne (tgt := 165) hx hb dX7_help_119 (by decide) (fun c48 => ?_) (fun c48 => ?_)
            · replace hf := ite_f c48 hf
              refine lv_bipush (v := (-9)) hx hb dX7_help_165 (by decide) ?_
              exact hj47 _ H locs ls hf hP hD hS (lv_sub hl [0, 1, 2, 3, 5, 6] rfl)
            · replace hf := ite_t c48 hf
              refine lv_iload_n hx hb dX7_help_122 rfl (lv_at hl 2 rfl) ?_
              refine lv_if_ne (tgt := 130) hx hb dX7_help_123 (by decide) (fun c49 => ?_) (fun c49 => ?_)
              · replace hf := ite_f c49 hf
                refine lv_iload_n hx hb dX7_help_130 rfl (lv_at hl 2 rfl) ?_
                refine lv_iconst (v := 1) hx hb dX7_help_131 (by decide) ?_
                refine lv_icmp_ne (tgt := 160) hx hb dX7_help_132 (by decide) (fun c50 => ?_) (fun c50 => ?_)
                · replace hf := ite_f c50 hf
                  refine lv_bipush (v := (-5)) hx hb dX7_help_160 (by decide) ?_
                  refine lv_goto (tgt := 167) hx hb dX7_help_162 (by decide) ?_
                  exact hj47 _ H locs ls hf hP hD hS (lv_sub hl [0, 1, 2, 3, 5, 6] rfl)
                · replace hf := ite_t c50 hf
                  refine lv_bipush (v := 10) hx hb dX7_help_135 (by decide) ?_
                  refine lv_iload hx hb dX7_help_137 (lv_at hl 6 rfl) ?_
                  refine lv_aload_n hx hb dX7_help_139 rfl (lv_at hl 0 rfl) ?_
                  refine k_get X hP 0 rfl rfl inX7 7 (by decide) fl_RX7_16 rfl rfl dX7_help_140 ?_
                  refine lv_iconst (v := 5) hx hb dX7_help_143 (by decide) ?_
                  obtain ⟨h51, hf⟩ := ck_t hf
                  refine k_iald X hP 3 0 rfl rfl h51 dX7_help_144 ?_
                  obtain ⟨h52, hf⟩ := ck_t hf
                  refine lv_idiv hx hb dX7_help_145 h52 ?_
                  refine lv_imul hx hb dX7_help_146 ?_
                  refine lv_iload hx hb dX7_help_147 (lv_at hl 6 rfl) ?_
                  refine lv_aload_n hx hb dX7_help_149 rfl (lv_at hl 0 rfl) ?_
                  refine k_get X hP 0 rfl rfl inX7 7 (by decide) fl_RX7_16 rfl rfl dX7_help_150 ?_
                  refine lv_iconst (v := 5) hx hb dX7_help_153 (by decide) ?_
                  obtain ⟨h53, hf⟩ := ck_t hf
                  refine k_iald X hP 3 0 rfl rfl h53 dX7_help_154 ?_
                  obtain ⟨h54, hf⟩ := ck_t hf
                  refine lv_irem hx hb dX7_help_155 h54 ?_
                  refine lv_iadd hx hb dX7_help_156 ?_
                  refine lv_goto (tgt := 167) hx hb dX7_help_157 (by decide) ?_
                  exact hj47 _ H locs ls hf hP hD hS (lv_sub hl [0, 1, 2, 3, 5, 6] rfl)
              · replace hf := ite_t c49 hf
                refine lv_iconst (v := 1) hx hb dX7_help_126 (by decide) ?_
                refine lv_goto (tgt := 167) hx hb dX7_help_127 (by decide) ?_
                exact hj47 _ H locs ls hf hP hD hS (lv_sub hl [0, 1, 2, 3, 5, 6] rfl)
      · replace hf := ite_t c7 hf
        refine lv_iload_n hx hb dX7_help_35 rfl (lv_at hl 2 rfl) ?_
        refine lv_if_ne (tgt := 43) hx hb dX7_help_36 (by decide) (fun c55 => ?_) (fun c55 => ?_)
        · replace hf := ite_f c55 hf
          refine lv_bipush (v := (-5)) hx hb dX7_help_43 (by decide) ?_
          replace hf := Option.some.inj hf
          subst hf
          exact hret H locs _ ls dX7_help_45 hP hD hS
        · replace hf := ite_t c55 hf
          refine lv_iconst (v := 0) hx hb dX7_help_39 (by decide) ?_
          refine lv_goto (tgt := 45) hx hb dX7_help_40 (by decide) ?_
          replace hf := Option.some.inj hf
          subst hf
          exact hret H locs _ ls dX7_help_45 hP hD hS
    · replace hf := ite_t c4 hf
      refine lv_iconst (v := (-1)) hx hb dX7_help_20 (by decide) ?_
      replace hf := Option.some.inj hf
      subst hf
      exact hret H locs _ ls dX7_help_21 hP hD hS

def sX7_strikes_99 (v6 : Int32) (v7 : Int32) (g_jury : Nat → Int32) : Option ((Int32 × (Nat → Int32)) ⊕ ((Int32 × (Nat → Int32)))) :=
  if v7 ≤ 0 then some (.inr (v7, g_jury)) else if inb (v7 - 1) 16 = true then if (g_jury (v7 - 1).toNatClampNeg) ≤ v6 then some (.inr (v7, g_jury)) else if inb (v7 - 1) 16 = true then if inb v7 16 = true then some (.inl (v7 + (-1), upd g_jury v7.toNatClampNeg (g_jury (v7 - 1).toNatClampNeg))) else none else none else none
def sX7_strikes_49 (v2 : Int32) (g_life : Nat → Int32) (g_selves : Nat → Int32) (v4 : Int32) (v5 : Int32) (g_jury : Nat → Int32) : Option ((Int32 × Int32 × (Nat → Int32)) ⊕ ((Int32 × (Nat → Int32)))) :=
  if inb ((38 + (3 * v2)) + 2) 55 = true then if (g_life ((38 + (3 * v2)) + 2).toNatClampNeg) < v5 then some (.inr (v4, g_jury)) else if inb v5 16 = true then (fX7_of (g_selves v5.toNatClampNeg) 1 g_life).bind (fun r12 => if r12 = 0 then if inb v5 16 = true then (fX7_lean (g_selves v5.toNatClampNeg) g_life).bind (fun r15 => (lpd (fun s16 => sX7_strikes_99 r15 s16.1 s16.2) FU (v4, g_jury)).bind (fun (y16_0 : Int32 × (Nat → Int32)) => if inb y16_0.1 16 = true then some (.inl (v4 + 1, v5 + 1, upd y16_0.2 y16_0.1.toNatClampNeg r15)) else none)) else none else some (.inl (v4, v5 + 1, g_jury))) else none else none
def sX7_strikes_177 (v3 : Int32) (v4 : Int32) (v5 : Int32) (v6 : Int32) (v7 : Int32) : Option ((Int32 × Int32 × Int32) ⊕ ((Int32 × Int32))) :=
  if (v4 - v3) ≤ v7 then some (.inr (v5, v6)) else jn (fun (x12 : Int32) => if (v7 - v7 / 2 * 2) = 0 then some (.inl (v5 + 0, v6 - x12, v7 + 1)) else some (.inl (v5 + 1, v6 - x12, v7 + 1))) (fun K12 => if (v7 - v7 / 2 * 2) = 0 then K12 1 else K12 0)
def sX7_strikes_233 (v6 : Int32) (g_jury : Nat → Int32) (v7 : Int32) (v8 : Int32) : Option ((Int32 × Int32) ⊕ ((Int32))) :=
  if v6 ≤ v8 then some (.inr v7) else if inb v8 16 = true then some (.inl (v7 + (g_jury v8.toNatClampNeg), v8 + 1)) else none
def fX7_strikes (a1 : Int32) (a2 : Int32) (a3 : Int32) (g_dones : Int32) (g_life : Nat → Int32) (g_done : Nat → Int32) (g_selves : Nat → Int32) (g_jury : Nat → Int32) : Option (Int32 × (Nat → Int32) × (Nat → Int32)) :=
  (fX7_isTrial a2 g_life).bind (fun r1 => if (bI r1) = 0 then some ((-1000000), g_selves, g_jury) else (fX7_in a3.toInt64 1 9).bind (fun r3 => if (bI r3) = 0 then some ((-1000000), g_selves, g_jury) else (fX7_gone a1 g_dones g_life g_done g_selves).bind (fun r5 => if 0 ≤ r5.1 then if inb ((38 + (3 * a2)) + 1) 55 = true then (lpd (fun s8 => sX7_strikes_49 a2 g_life r5.2 s8.1 s8.2.1 s8.2.2) FU (0, g_life ((38 + (3 * a2)) + 1).toNatClampNeg, g_jury)).bind (fun (y8_0 : Int32 × (Nat → Int32)) => if a3 ≤ y8_0.1 then (lpd (fun s10 => sX7_strikes_177 a3 y8_0.1 s10.1 s10.2.1 s10.2.2) FU (0, y8_0.1, 0)).bind (fun (y10_0 : Int32 × Int32) => (lpd (fun s11 => sX7_strikes_233 y10_0.2 y8_0.2 s11.1 s11.2) FU (0, y10_0.1)).bind (fun (y11_0 : Int32) => some (y11_0, r5.2, y8_0.2))) else some ((-1000000), r5.2, y8_0.2)) else none else some ((-1000000), r5.2, g_jury))))
set_option maxHeartbeats 4000000 in
set_option maxRecDepth 100000 in
theorem ctX7_strikes (l : Launch) (D : va_G) (cI cZ cD cH : ClassId) (qg : Nat) (qg_text : Nat) (qg_read : Nat) (qg_life : Nat) (qg_done : Nat) (qg_undone : Nat) (qg_selves : Nat) (qg_when : Nat) (qg_jury : Nat) (qg_years : Nat) (qg_states : Nat) (qg_kept : Nat) (a1 : Int32) (a2 : Int32) (a3 : Int32) (g_size : Int32) (g_at : Int32) (g_begin : Int32) (g_token : Int32) (g_told : Int32) (g_dones : Int32) (g_undos : Int32) (g_seens : Int32) (g_trace : Int64) (g_text : Nat → Int32) (g_read : Nat → Int32) (g_life : Nat → Int32) (g_done : Nat → Int32) (g_undone : Nat → Int32) (g_selves : Nat → Int32) (g_when : Nat → Int32) (g_jury : Nat → Int32) (g_years : Nat → Int32) (g_states : Nat → Int32) (g_kept : Nat → Int32) (o : Int32 × (Nat → Int32) × (Nat → Int32)) (hf : fX7_strikes a1 a2 a3 g_dones g_life g_done g_selves g_jury = some o) : Ct l yX7_strikes cX7_strikes 9 (some .int) { frames := 6, cells := 0, slots := 0, locals := 138 } D (Tys cI cZ cD cH) [.ref qg, .int a1, .int a2, .int a3] [(qg, .inr (7, [.ref qg_text, .int g_size, .int g_at, .int g_begin, .int g_token, .int g_told, .ref qg_read, .ref qg_life, .int g_dones, .ref qg_done, .int g_undos, .ref qg_undone, .ref qg_selves, .ref qg_when, .ref qg_jury, .int g_seens, .ref qg_years, .ref qg_states, .long g_trace, .ref qg_kept])), rI cI qg_text 200 g_text, rI cI qg_read 55 g_read, rI cI qg_life 55 g_life, rI cI qg_done 16 g_done, rI cI qg_undone 130 g_undone, rI cI qg_selves 16 g_selves, rI cI qg_when 27 g_when, rI cI qg_jury 16 g_jury, rI cI qg_years 6 g_years, rI cI qg_states 6 g_states, rI cI qg_kept 290 g_kept] [(qg, .inr (7, [.ref qg_text, .int g_size, .int g_at, .int g_begin, .int g_token, .int g_told, .ref qg_read, .ref qg_life, .int g_dones, .ref qg_done, .int g_undos, .ref qg_undone, .ref qg_selves, .ref qg_when, .ref qg_jury, .int g_seens, .ref qg_years, .ref qg_states, .long g_trace, .ref qg_kept])), rI cI qg_text 200 g_text, rI cI qg_read 55 g_read, rI cI qg_life 55 g_life, rI cI qg_done 16 g_done, rI cI qg_undone 130 g_undone, rI cI qg_selves 16 o.2.1, rI cI qg_when 27 g_when, rI cI qg_jury 16 o.2.2, rI cI qg_years 6 g_years, rI cI qg_states 6 g_states, rI cI qg_kept 290 g_kept] (some (.int o.1)) 0 0 := by
  refine mkI (by decide) (Nat.le_of_ble_eq_true rfl) ?_
  intro p e s m args below meth c A Q X hret ls hl H locs hP hD hS
  replace X : Cx p s m args c D (Tys cI cZ cD cH) A cX7_strikes RX7 9 := X
  obtain ⟨hx, hb, hml, hown, hts, hK, hZ, hA⟩ := id X
  have hl : lv_has ls 9 [(0, .ref qg), (1, .int a1), (2, .int a2), (3, .int a3)] := hl
  unfold fX7_strikes at hf
  refine lv_aload_n hx hb dX7_strikes_0 rfl (lv_at hl 0 rfl) ?_
  refine lv_iload_n hx hb dX7_strikes_1 rfl (lv_at hl 2 rfl) ?_
  obtain ⟨r1, hr1, hf⟩ := bnd hf
  refine k_callV X hP hD hS [(qg, .inr (7, [.ref qg_text, .int g_size, .int g_at, .int g_begin, .int g_token, .int g_told, .ref qg_read, .ref qg_life, .int g_dones, .ref qg_done, .int g_undos, .ref qg_undone, .ref qg_selves, .ref qg_when, .ref qg_jury, .int g_seens, .ref qg_years, .ref qg_states, .long g_trace, .ref qg_kept])), rI cI qg_text 200 g_text, rI cI qg_read 55 g_read, rI cI qg_life 55 g_life, rI cI qg_done 16 g_done, rI cI qg_undone 130 g_undone, rI cI qg_selves 16 g_selves, rI cI qg_when 27 g_when, rI cI qg_jury 16 g_jury, rI cI qg_years 6 g_years, rI cI qg_states 6 g_states, rI cI qg_kept 290 g_kept] (ctX7_isTrial l D cI cZ cD cH qg qg_text qg_read qg_life qg_done qg_undone qg_selves qg_when qg_jury qg_years qg_states qg_kept a2 g_size g_at g_begin g_token g_told g_dones g_undos g_seens g_trace g_text g_read g_life g_done g_undone g_selves g_when g_jury g_years g_states g_kept r1 hr1) ml_RX7_142 im_yX7_isTrial se_yX7_isTrial in_RX7 cd_yX7_isTrial rfl rfl hd_yX7_isTrial ⟨by decide, by decide⟩ ⟨Nat.zero_le _, Nat.zero_le _⟩ [0, 1, 2, 3, 4, 5, 6, 7, 8, 9, 10, 11] [some 0, some 1, some 2, some 3, some 4, some 5, some 6, some 7, some 8, some 9, some 10, some 11] rfl (by decide +kernel) rfl (by decide +kernel) rfl rfl (q0 := 0) rfl rfl rfl hl.1 rfl rfl (Nat.le_of_ble_eq_true rfl) rfl dX7_strikes_2 (fun H locs hP hD hS => ?_)
  refine lv_if_eq (tgt := 28) hx hb dX7_strikes_5 (by decide) (fun c2 => ?_) (fun c2 => ?_)
  · replace hf := ite_t c2 hf
    refine lv_ldc hx hb hown (hts _ ck_RX7_141) dX7_strikes_28 ?_
    replace hf := Option.some.inj hf
    subst hf
    exact hret H locs _ ls dX7_strikes_30 hP hD hS
  · replace hf := ite_f c2 hf
    refine lv_iload_n hx hb dX7_strikes_8 rfl (lv_at hl 3 rfl) ?_
    refine lv_i2l (v := a3.toInt64) hx hb dX7_strikes_9 rfl ?_
    refine lv_lconst (v := 1) hx hb dX7_strikes_10 (by decide) ?_
    refine lv_ldc2 hx hb hown (hts _ cl_RX7_190) dX7_strikes_11 ?_
    obtain ⟨r3, hr3, hf⟩ := bnd hf
    refine k_callS X hP hD hS [(qg, .inr (7, [.ref qg_text, .int g_size, .int g_at, .int g_begin, .int g_token, .int g_told, .ref qg_read, .ref qg_life, .int g_dones, .ref qg_done, .int g_undos, .ref qg_undone, .ref qg_selves, .ref qg_when, .ref qg_jury, .int g_seens, .ref qg_years, .ref qg_states, .long g_trace, .ref qg_kept])), rI cI qg_text 200 g_text, rI cI qg_read 55 g_read, rI cI qg_life 55 g_life, rI cI qg_done 16 g_done, rI cI qg_undone 130 g_undone, rI cI qg_selves 16 g_selves, rI cI qg_when 27 g_when, rI cI qg_jury 16 g_jury, rI cI qg_years 6 g_years, rI cI qg_states 6 g_states, rI cI qg_kept 290 g_kept] (ctX7_in l D cI cZ cD cH a3.toInt64 1 9 r3 hr3) ml_RX7_51 sm_yX7_in in_RX7 cd_yX7_in rfl rfl hd_yX7_in ⟨by decide, by decide⟩ ⟨Nat.zero_le _, Nat.zero_le _⟩ [] [none, none, none, none, none, none, none, none, none, none, none, none] rfl (by decide +kernel) rfl (by decide +kernel) rfl rfl hl.1 rfl rfl (Nat.le_of_ble_eq_true rfl) rfl dX7_strikes_14 (fun H locs hP hD hS => ?_)
    refine lv_if_eq (tgt := 28) hx hb dX7_strikes_17 (by decide) (fun c4 => ?_) (fun c4 => ?_)
    · replace hf := ite_t c4 hf
      refine lv_ldc hx hb hown (hts _ ck_RX7_141) dX7_strikes_28 ?_
      replace hf := Option.some.inj hf
      subst hf
      exact hret H locs _ ls dX7_strikes_30 hP hD hS
    · replace hf := ite_f c4 hf
      refine lv_aload_n hx hb dX7_strikes_20 rfl (lv_at hl 0 rfl) ?_
      refine lv_iload_n hx hb dX7_strikes_21 rfl (lv_at hl 1 rfl) ?_
      obtain ⟨r5, hr5, hf⟩ := bnd hf
      refine k_callV X hP hD hS [(qg, .inr (7, [.ref qg_text, .int g_size, .int g_at, .int g_begin, .int g_token, .int g_told, .ref qg_read, .ref qg_life, .int g_dones, .ref qg_done, .int g_undos, .ref qg_undone, .ref qg_selves, .ref qg_when, .ref qg_jury, .int g_seens, .ref qg_years, .ref qg_states, .long g_trace, .ref qg_kept])), rI cI qg_text 200 g_text, rI cI qg_read 55 g_read, rI cI qg_life 55 g_life, rI cI qg_done 16 g_done, rI cI qg_undone 130 g_undone, rI cI qg_selves 16 r5.2, rI cI qg_when 27 g_when, rI cI qg_jury 16 g_jury, rI cI qg_years 6 g_years, rI cI qg_states 6 g_states, rI cI qg_kept 290 g_kept] (ctX7_gone l D cI cZ cD cH qg qg_text qg_read qg_life qg_done qg_undone qg_selves qg_when qg_jury qg_years qg_states qg_kept a1 g_size g_at g_begin g_token g_told g_dones g_undos g_seens g_trace g_text g_read g_life g_done g_undone g_selves g_when g_jury g_years g_states g_kept r5 hr5) ml_RX7_184 im_yX7_gone se_yX7_gone in_RX7 cd_yX7_gone rfl rfl hd_yX7_gone ⟨by decide, by decide⟩ ⟨Nat.zero_le _, Nat.zero_le _⟩ [0, 1, 2, 3, 4, 5, 6, 7, 8, 9, 10, 11] [some 0, some 1, some 2, some 3, some 4, some 5, some 6, some 7, some 8, some 9, some 10, some 11] rfl (by decide +kernel) rfl (by decide +kernel) rfl rfl (q0 := 0) rfl rfl rfl hl.1 rfl rfl (Nat.le_of_ble_eq_true rfl) rfl dX7_strikes_22 (fun H locs hP hD hS => ?_)
      refine lv_if_ge (tgt := 31) hx hb dX7_strikes_25 (by decide) (fun c6 => ?_) (fun c6 => ?_)
      · replace hf := ite_t c6 hf
        refine lv_iconst (v := 0) hx hb dX7_strikes_31 (by decide) ?_
        refine lv_istore (lv' := [(4, .int 0), (0, .ref qg), (1, .int a1), (2, .int a2), (3, .int a3)]) hx hb dX7_strikes_32 hl (by decide) rfl (fun ls hl => ?_)
        refine lv_aload_n hx hb dX7_strikes_34 rfl (lv_at hl 1 rfl) ?_
        refine k_get X hP 0 rfl rfl inX7 7 (by decide) fl_RX7_16 rfl rfl dX7_strikes_35 ?_
        refine lv_bipush (v := 38) hx hb dX7_strikes_38 (by decide) ?_
        refine lv_iconst (v := 3) hx hb dX7_strikes_40 (by decide) ?_
        refine lv_iload_n hx hb dX7_strikes_41 rfl (lv_at hl 3 rfl) ?_
        refine lv_imul hx hb dX7_strikes_42 ?_
        refine lv_iadd hx hb dX7_strikes_43 ?_
        refine lv_iconst (v := 1) hx hb dX7_strikes_44 (by decide) ?_
        refine lv_iadd hx hb dX7_strikes_45 ?_
        obtain ⟨h7, hf⟩ := ck_t hf
        refine k_iald X hP 3 0 rfl rfl h7 dX7_strikes_46 ?_
        refine lv_istore (lv' := [(5, .int (g_life ((38 + (3 * a2)) + 1).toNatClampNeg)), (4, .int 0), (0, .ref qg), (1, .int a1), (2, .int a2), (3, .int a3)]) hx hb dX7_strikes_47 hl (by decide) rfl (fun ls hl => ?_)
        obtain ⟨e8, he8, hf⟩ := bnd hf
        have hx8_0 : ∀ (y8_0 : Int32 × (Nat → Int32)), y8_0 = e8 → ∀ (H : Heap) (locs : List Loc) (ls : Array Slot), va_P D vwCl [(qg, .inr (7, [.ref qg_text, .int g_size, .int g_at, .int g_begin, .int g_token, .int g_told, .ref qg_read, .ref qg_life, .int g_dones, .ref qg_done, .int g_undos, .ref qg_undone, .ref qg_selves, .ref qg_when, .ref qg_jury, .int g_seens, .ref qg_years, .ref qg_states, .long g_trace, .ref qg_kept])), rI cI qg_text 200 g_text, rI cI qg_read 55 g_read, rI cI qg_life 55 g_life, rI cI qg_done 16 g_done, rI cI qg_undone 130 g_undone, rI cI qg_selves 16 r5.2, rI cI qg_when 27 g_when, rI cI qg_jury 16 y8_0.2, rI cI qg_years 6 g_years, rI cI qg_states 6 g_states, rI cI qg_kept 290 g_kept] H → va_D A [(qg, .inr (7, [.ref qg_text, .int g_size, .int g_at, .int g_begin, .int g_token, .int g_told, .ref qg_read, .ref qg_life, .int g_dones, .ref qg_done, .int g_undos, .ref qg_undone, .ref qg_selves, .ref qg_when, .ref qg_jury, .int g_seens, .ref qg_years, .ref qg_states, .long g_trace, .ref qg_kept])), rI cI qg_text 200 g_text, rI cI qg_read 55 g_read, rI cI qg_life 55 g_life, rI cI qg_done 16 g_done, rI cI qg_undone 130 g_undone, rI cI qg_selves 16 r5.2, rI cI qg_when 27 g_when, rI cI qg_jury 16 y8_0.2, rI cI qg_years 6 g_years, rI cI qg_states 6 g_states, rI cI qg_kept 290 g_kept] → va_S A s.heap H locs → lv_has ls 9 [(0, .ref qg), (3, .int a3), (4, .int y8_0.1)] → W p l e ({ frames := 6, cells := 0, slots := 0, locals := 138 } : Room) s m args below meth c H locs 0 0 Q (F0 m 158 ls []) := by
          intro y8_0 heq H locs ls hP hD hS hl
          subst heq
          refine lv_iload hx hb dX7_strikes_158 (lv_at hl 2 rfl) ?_
          refine lv_iload_n hx hb dX7_strikes_160 rfl (lv_at hl 1 rfl) ?_
          refine lv_icmp_ge (tgt := 167) hx hb dX7_strikes_161 (by decide) (fun c9 => ?_) (fun c9 => ?_)
          · replace hf := ite_t c9 hf
            refine lv_iconst (v := 0) hx hb dX7_strikes_167 (by decide) ?_
            refine lv_istore (lv' := [(5, .int 0), (0, .ref qg), (3, .int a3), (4, .int y8_0.1)]) hx hb dX7_strikes_168 hl (by decide) rfl (fun ls hl => ?_)
            refine lv_iload hx hb dX7_strikes_170 (lv_at hl 3 rfl) ?_
            refine lv_istore (lv' := [(6, .int y8_0.1), (5, .int 0), (0, .ref qg), (3, .int a3), (4, .int y8_0.1)]) hx hb dX7_strikes_172 hl (by decide) rfl (fun ls hl => ?_)
            refine lv_iconst (v := 0) hx hb dX7_strikes_174 (by decide) ?_
            refine lv_istore (lv' := [(7, .int 0), (6, .int y8_0.1), (5, .int 0), (0, .ref qg), (3, .int a3), (4, .int y8_0.1)]) hx hb dX7_strikes_175 hl (by decide) rfl (fun ls hl => ?_)
            obtain ⟨e10, he10, hf⟩ := bnd hf
            have hx10_0 : ∀ (y10_0 : Int32 × Int32), y10_0 = e10 → ∀ (H : Heap) (locs : List Loc) (ls : Array Slot), va_P D vwCl [(qg, .inr (7, [.ref qg_text, .int g_size, .int g_at, .int g_begin, .int g_token, .int g_told, .ref qg_read, .ref qg_life, .int g_dones, .ref qg_done, .int g_undos, .ref qg_undone, .ref qg_selves, .ref qg_when, .ref qg_jury, .int g_seens, .ref qg_years, .ref qg_states, .long g_trace, .ref qg_kept])), rI cI qg_text 200 g_text, rI cI qg_read 55 g_read, rI cI qg_life 55 g_life, rI cI qg_done 16 g_done, rI cI qg_undone 130 g_undone, rI cI qg_selves 16 r5.2, rI cI qg_when 27 g_when, rI cI qg_jury 16 y8_0.2, rI cI qg_years 6 g_years, rI cI qg_states 6 g_states, rI cI qg_kept 290 g_kept] H → va_D A [(qg, .inr (7, [.ref qg_text, .int g_size, .int g_at, .int g_begin, .int g_token, .int g_told, .ref qg_read, .ref qg_life, .int g_dones, .ref qg_done, .int g_undos, .ref qg_undone, .ref qg_selves, .ref qg_when, .ref qg_jury, .int g_seens, .ref qg_years, .ref qg_states, .long g_trace, .ref qg_kept])), rI cI qg_text 200 g_text, rI cI qg_read 55 g_read, rI cI qg_life 55 g_life, rI cI qg_done 16 g_done, rI cI qg_undone 130 g_undone, rI cI qg_selves 16 r5.2, rI cI qg_when 27 g_when, rI cI qg_jury 16 y8_0.2, rI cI qg_years 6 g_years, rI cI qg_states 6 g_states, rI cI qg_kept 290 g_kept] → va_S A s.heap H locs → lv_has ls 9 [(0, .ref qg), (5, .int y10_0.1), (6, .int y10_0.2)] → W p l e ({ frames := 6, cells := 0, slots := 0, locals := 138 } : Room) s m args below meth c H locs 0 0 Q (F0 m 226 ls []) := by
              intro y10_0 heq H locs ls hP hD hS hl
              subst heq
              refine lv_iconst (v := 0) hx hb dX7_strikes_226 (by decide) ?_
              refine lv_istore (lv' := [(7, .int 0), (0, .ref qg), (5, .int y10_0.1), (6, .int y10_0.2)]) hx hb dX7_strikes_227 hl (by decide) rfl (fun ls hl => ?_)
              refine lv_iload hx hb dX7_strikes_229 (lv_at hl 2 rfl) ?_
              refine lv_istore (lv' := [(8, .int y10_0.1), (7, .int 0), (0, .ref qg), (5, .int y10_0.1), (6, .int y10_0.2)]) hx hb dX7_strikes_231 hl (by decide) rfl (fun ls hl => ?_)
              obtain ⟨e11, he11, hf⟩ := bnd hf
              have hx11_0 : ∀ (y11_0 : Int32), y11_0 = e11 → ∀ (H : Heap) (locs : List Loc) (ls : Array Slot), va_P D vwCl [(qg, .inr (7, [.ref qg_text, .int g_size, .int g_at, .int g_begin, .int g_token, .int g_told, .ref qg_read, .ref qg_life, .int g_dones, .ref qg_done, .int g_undos, .ref qg_undone, .ref qg_selves, .ref qg_when, .ref qg_jury, .int g_seens, .ref qg_years, .ref qg_states, .long g_trace, .ref qg_kept])), rI cI qg_text 200 g_text, rI cI qg_read 55 g_read, rI cI qg_life 55 g_life, rI cI qg_done 16 g_done, rI cI qg_undone 130 g_undone, rI cI qg_selves 16 r5.2, rI cI qg_when 27 g_when, rI cI qg_jury 16 y8_0.2, rI cI qg_years 6 g_years, rI cI qg_states 6 g_states, rI cI qg_kept 290 g_kept] H → va_D A [(qg, .inr (7, [.ref qg_text, .int g_size, .int g_at, .int g_begin, .int g_token, .int g_told, .ref qg_read, .ref qg_life, .int g_dones, .ref qg_done, .int g_undos, .ref qg_undone, .ref qg_selves, .ref qg_when, .ref qg_jury, .int g_seens, .ref qg_years, .ref qg_states, .long g_trace, .ref qg_kept])), rI cI qg_text 200 g_text, rI cI qg_read 55 g_read, rI cI qg_life 55 g_life, rI cI qg_done 16 g_done, rI cI qg_undone 130 g_undone, rI cI qg_selves 16 r5.2, rI cI qg_when 27 g_when, rI cI qg_jury 16 y8_0.2, rI cI qg_years 6 g_years, rI cI qg_states 6 g_states, rI cI qg_kept 290 g_kept] → va_S A s.heap H locs → lv_has ls 9 [(7, .int y11_0)] → W p l e ({ frames := 6, cells := 0, slots := 0, locals := 138 } : Room) s m args below meth c H locs 0 0 Q (F0 m 258 ls []) := by
                intro y11_0 heq H locs ls hP hD hS hl
                subst heq
                refine lv_iload hx hb dX7_strikes_258 (lv_at hl 0 rfl) ?_
                replace hf := Option.some.inj hf
                subst hf
                exact hret H locs _ ls dX7_strikes_260 hP hD hS
              refine lpd_ind (P := fun s11 => ∀ (H : Heap) (locs : List Loc) (ls : Array Slot), va_P D vwCl [(qg, .inr (7, [.ref qg_text, .int g_size, .int g_at, .int g_begin, .int g_token, .int g_told, .ref qg_read, .ref qg_life, .int g_dones, .ref qg_done, .int g_undos, .ref qg_undone, .ref qg_selves, .ref qg_when, .ref qg_jury, .int g_seens, .ref qg_years, .ref qg_states, .long g_trace, .ref qg_kept])), rI cI qg_text 200 g_text, rI cI qg_read 55 g_read, rI cI qg_life 55 g_life, rI cI qg_done 16 g_done, rI cI qg_undone 130 g_undone, rI cI qg_selves 16 r5.2, rI cI qg_when 27 g_when, rI cI qg_jury 16 y8_0.2, rI cI qg_years 6 g_years, rI cI qg_states 6 g_states, rI cI qg_kept 290 g_kept] H → va_D A [(qg, .inr (7, [.ref qg_text, .int g_size, .int g_at, .int g_begin, .int g_token, .int g_told, .ref qg_read, .ref qg_life, .int g_dones, .ref qg_done, .int g_undos, .ref qg_undone, .ref qg_selves, .ref qg_when, .ref qg_jury, .int g_seens, .ref qg_years, .ref qg_states, .long g_trace, .ref qg_kept])), rI cI qg_text 200 g_text, rI cI qg_read 55 g_read, rI cI qg_life 55 g_life, rI cI qg_done 16 g_done, rI cI qg_undone 130 g_undone, rI cI qg_selves 16 r5.2, rI cI qg_when 27 g_when, rI cI qg_jury 16 y8_0.2, rI cI qg_years 6 g_years, rI cI qg_states 6 g_states, rI cI qg_kept 290 g_kept] → va_S A s.heap H locs → lv_has ls 9 [(0, .ref qg), (6, .int y10_0.2), (7, .int s11.1), (8, .int s11.2)] → W p l e ({ frames := 6, cells := 0, slots := 0, locals := 138 } : Room) s m args below meth c H locs 0 0 Q (F0 m 233 ls [])) e11 ?_ _ _ he11 H locs ls hP hD hS (lv_sub hl [2, 4, 1, 0] rfl)
              intro s11 r11 hf ih11 hq11 H locs ls hP hD hS hl
              unfold sX7_strikes_233 at hf
              refine lv_iload hx hb dX7_strikes_233 (lv_at hl 3 rfl) ?_
              refine lv_iload hx hb dX7_strikes_235 (lv_at hl 1 rfl) ?_
              refine lv_icmp_ge (tgt := 258) hx hb dX7_strikes_237 (by decide) (fun c12 => ?_) (fun c12 => ?_)
              · replace hf := ite_t c12 hf
                exact hx11_0 _ (hq11 _ (Option.some.inj hf).symm) H locs ls hP hD hS (lv_sub hl [2] rfl)
              · replace hf := ite_f c12 hf
                refine lv_iload hx hb dX7_strikes_240 (lv_at hl 2 rfl) ?_
                refine lv_aload_n hx hb dX7_strikes_242 rfl (lv_at hl 0 rfl) ?_
                refine k_get X hP 0 rfl rfl inX7 14 (by decide) fl_RX7_31 rfl rfl dX7_strikes_243 ?_
                refine lv_iload hx hb dX7_strikes_246 (lv_at hl 3 rfl) ?_
                obtain ⟨h13, hf⟩ := ck_t hf
                refine k_iald X hP 8 0 rfl rfl h13 dX7_strikes_248 ?_
                refine lv_iadd hx hb dX7_strikes_249 ?_
                refine lv_istore (lv' := [(7, .int (s11.1 + (y8_0.2 s11.2.toNatClampNeg))), (0, .ref qg), (6, .int y10_0.2), (8, .int s11.2)]) hx hb dX7_strikes_250 hl (by decide) rfl (fun ls hl => ?_)
                refine lv_iinc (v := s11.2 + 1) (lv' := [(8, .int (s11.2 + 1)), (7, .int (s11.1 + (y8_0.2 s11.2.toNatClampNeg))), (0, .ref qg), (6, .int y10_0.2)]) hx hb dX7_strikes_252 hl (k := 3) rfl rfl (by decide) rfl (fun ls hl => ?_)
                refine lv_goto (tgt := 233) hx hb dX7_strikes_255 (by decide) ?_
                exact ih11 _ (Option.some.inj hf).symm H locs ls hP hD hS (lv_sub hl [2, 3, 1, 0] rfl)
            refine lpd_ind (P := fun s10 => ∀ (H : Heap) (locs : List Loc) (ls : Array Slot), va_P D vwCl [(qg, .inr (7, [.ref qg_text, .int g_size, .int g_at, .int g_begin, .int g_token, .int g_told, .ref qg_read, .ref qg_life, .int g_dones, .ref qg_done, .int g_undos, .ref qg_undone, .ref qg_selves, .ref qg_when, .ref qg_jury, .int g_seens, .ref qg_years, .ref qg_states, .long g_trace, .ref qg_kept])), rI cI qg_text 200 g_text, rI cI qg_read 55 g_read, rI cI qg_life 55 g_life, rI cI qg_done 16 g_done, rI cI qg_undone 130 g_undone, rI cI qg_selves 16 r5.2, rI cI qg_when 27 g_when, rI cI qg_jury 16 y8_0.2, rI cI qg_years 6 g_years, rI cI qg_states 6 g_states, rI cI qg_kept 290 g_kept] H → va_D A [(qg, .inr (7, [.ref qg_text, .int g_size, .int g_at, .int g_begin, .int g_token, .int g_told, .ref qg_read, .ref qg_life, .int g_dones, .ref qg_done, .int g_undos, .ref qg_undone, .ref qg_selves, .ref qg_when, .ref qg_jury, .int g_seens, .ref qg_years, .ref qg_states, .long g_trace, .ref qg_kept])), rI cI qg_text 200 g_text, rI cI qg_read 55 g_read, rI cI qg_life 55 g_life, rI cI qg_done 16 g_done, rI cI qg_undone 130 g_undone, rI cI qg_selves 16 r5.2, rI cI qg_when 27 g_when, rI cI qg_jury 16 y8_0.2, rI cI qg_years 6 g_years, rI cI qg_states 6 g_states, rI cI qg_kept 290 g_kept] → va_S A s.heap H locs → lv_has ls 9 [(0, .ref qg), (3, .int a3), (4, .int y8_0.1), (5, .int s10.1), (6, .int s10.2.1), (7, .int s10.2.2)] → W p l e ({ frames := 6, cells := 0, slots := 0, locals := 138 } : Room) s m args below meth c H locs 0 0 Q (F0 m 177 ls [])) e10 ?_ _ _ he10 H locs ls hP hD hS (lv_sub hl [3, 4, 5, 2, 1, 0] rfl)
            intro s10 r10 hf ih10 hq10 H locs ls hP hD hS hl
            unfold sX7_strikes_177 at hf
            refine lv_iload hx hb dX7_strikes_177 (lv_at hl 5 rfl) ?_
            refine lv_iload hx hb dX7_strikes_179 (lv_at hl 2 rfl) ?_
            refine lv_iload_n hx hb dX7_strikes_181 rfl (lv_at hl 1 rfl) ?_
            refine lv_isub hx hb dX7_strikes_182 ?_
            refine lv_icmp_ge (tgt := 226) hx hb dX7_strikes_183 (by decide) (fun c14 => ?_) (fun c14 => ?_)
            · replace hf := ite_t c14 hf
              exact hx10_0 _ (hq10 _ (Option.some.inj hf).symm) H locs ls hP hD hS (lv_sub hl [0, 3, 4] rfl)
            · replace hf := ite_f c14 hf
              refine lv_iload hx hb dX7_strikes_186 (lv_at hl 4 rfl) ?_
              refine lv_iload hx hb dX7_strikes_188 (lv_at hl 5 rfl) ?_
              refine lv_iconst (v := 2) hx hb dX7_strikes_190 (by decide) ?_
              refine lv_irem hx hb dX7_strikes_191 (by decide) ?_
              refine jn_e hf (fun K15 hf hk15 => ?_)
              have hj15 : ∀ (x15 : Int32) (H : Heap) (locs : List Loc) (ls : Array Slot), K15 x15 = some r10 → va_P D vwCl [(qg, .inr (7, [.ref qg_text, .int g_size, .int g_at, .int g_begin, .int g_token, .int g_told, .ref qg_read, .ref qg_life, .int g_dones, .ref qg_done, .int g_undos, .ref qg_undone, .ref qg_selves, .ref qg_when, .ref qg_jury, .int g_seens, .ref qg_years, .ref qg_states, .long g_trace, .ref qg_kept])), rI cI qg_text 200 g_text, rI cI qg_read 55 g_read, rI cI qg_life 55 g_life, rI cI qg_done 16 g_done, rI cI qg_undone 130 g_undone, rI cI qg_selves 16 r5.2, rI cI qg_when 27 g_when, rI cI qg_jury 16 y8_0.2, rI cI qg_years 6 g_years, rI cI qg_states 6 g_states, rI cI qg_kept 290 g_kept] H → va_D A [(qg, .inr (7, [.ref qg_text, .int g_size, .int g_at, .int g_begin, .int g_token, .int g_told, .ref qg_read, .ref qg_life, .int g_dones, .ref qg_done, .int g_undos, .ref qg_undone, .ref qg_selves, .ref qg_when, .ref qg_jury, .int g_seens, .ref qg_years, .ref qg_states, .long g_trace, .ref qg_kept])), rI cI qg_text 200 g_text, rI cI qg_read 55 g_read, rI cI qg_life 55 g_life, rI cI qg_done 16 g_done, rI cI qg_undone 130 g_undone, rI cI qg_selves 16 r5.2, rI cI qg_when 27 g_when, rI cI qg_jury 16 y8_0.2, rI cI qg_years 6 g_years, rI cI qg_states 6 g_states, rI cI qg_kept 290 g_kept] → va_S A s.heap H locs → lv_has ls 9 [(0, .ref qg), (3, .int a3), (4, .int y8_0.1), (5, .int s10.1), (7, .int s10.2.2)] → W p l e ({ frames := 6, cells := 0, slots := 0, locals := 138 } : Room) s m args below meth c H locs 0 0 Q (F0 m 200 ls [.int x15, .int s10.2.1]) := by
                intro x15 H locs ls hf hP hD hS hl
                replace hf := hk15 x15 hf
                refine lv_isub hx hb dX7_strikes_200 ?_
                refine lv_istore (lv' := [(6, .int (s10.2.1 - x15)), (0, .ref qg), (3, .int a3), (4, .int y8_0.1), (5, .int s10.1), (7, .int s10.2.2)]) hx hb dX7_strikes_201 hl (by decide) rfl (fun ls hl => ?_)
                refine lv_iload hx hb dX7_strikes_203 (lv_at hl 4 rfl) ?_
                refine lv_iload hx hb dX7_strikes_205 (lv_at hl 5 rfl) ?_
                refine lv_iconst (v := 2) hx hb dX7_strikes_207 (by decide) ?_
                refine lv_irem hx hb dX7_strikes_208 (by decide) ?_
                refine lv_if_ne (tgt := 216) hx hb dX7_strikes_209 (by decide) (fun c16 => ?_) (fun c16 => ?_)
                · replace hf := ite_f c16 hf
                  refine lv_iconst (v := 1) hx hb dX7_strikes_216 (by decide) ?_
                  refine lv_iadd hx hb dX7_strikes_217 ?_
                  refine lv_istore (lv' := [(5, .int (s10.1 + 1)), (6, .int (s10.2.1 - x15)), (0, .ref qg), (3, .int a3), (4, .int y8_0.1), (7, .int s10.2.2)]) hx hb dX7_strikes_218 hl (by decide) rfl (fun ls hl => ?_)
                  refine lv_iinc (v := s10.2.2 + 1) (lv' := [(7, .int (s10.2.2 + 1)), (5, .int (s10.1 + 1)), (6, .int (s10.2.1 - x15)), (0, .ref qg), (3, .int a3), (4, .int y8_0.1)]) hx hb dX7_strikes_220 hl (k := 5) rfl rfl (by decide) rfl (fun ls hl => ?_)
                  refine lv_goto (tgt := 177) hx hb dX7_strikes_223 (by decide) ?_
                  exact ih10 _ (Option.some.inj hf).symm H locs ls hP hD hS (lv_sub hl [3, 4, 5, 1, 2, 0] rfl)
                · replace hf := ite_t c16 hf
                  refine lv_iconst (v := 0) hx hb dX7_strikes_212 (by decide) ?_
                  refine lv_goto (tgt := 217) hx hb dX7_strikes_213 (by decide) ?_
                  refine lv_iadd hx hb dX7_strikes_217 ?_
                  refine lv_istore (lv' := [(5, .int (s10.1 + 0)), (6, .int (s10.2.1 - x15)), (0, .ref qg), (3, .int a3), (4, .int y8_0.1), (7, .int s10.2.2)]) hx hb dX7_strikes_218 hl (by decide) rfl (fun ls hl => ?_)
                  refine lv_iinc (v := s10.2.2 + 1) (lv' := [(7, .int (s10.2.2 + 1)), (5, .int (s10.1 + 0)), (6, .int (s10.2.1 - x15)), (0, .ref qg), (3, .int a3), (4, .int y8_0.1)]) hx hb dX7_strikes_220 hl (k := 5) rfl rfl (by decide) rfl (fun ls hl => ?_)
                  refine lv_goto (tgt := 177) hx hb dX7_strikes_223 (by decide) ?_
                  exact ih10 _ (Option.some.inj hf).symm H locs ls hP hD hS (lv_sub hl [3, 4, 5, 1, 2, 0] rfl)
              refine lv_if_ne (tgt := 199) hx hb dX7_strikes_192 (by decide) (fun c17 => ?_) (fun c17 => ?_)
              · replace hf := ite_f c17 hf
                refine lv_iconst (v := 0) hx hb dX7_strikes_199 (by decide) ?_
                exact hj15 _ H locs ls hf hP hD hS (lv_sub hl [0, 1, 2, 3, 5] rfl)
              · replace hf := ite_t c17 hf
                refine lv_iconst (v := 1) hx hb dX7_strikes_195 (by decide) ?_
                refine lv_goto (tgt := 200) hx hb dX7_strikes_196 (by decide) ?_
                exact hj15 _ H locs ls hf hP hD hS (lv_sub hl [0, 1, 2, 3, 5] rfl)
          · replace hf := ite_f c9 hf
            refine lv_ldc hx hb hown (hts _ ck_RX7_141) dX7_strikes_164 ?_
            replace hf := Option.some.inj hf
            subst hf
            exact hret H locs _ ls dX7_strikes_166 hP hD hS
        refine lpd_ind (P := fun s8 => ∀ (H : Heap) (locs : List Loc) (ls : Array Slot), va_P D vwCl [(qg, .inr (7, [.ref qg_text, .int g_size, .int g_at, .int g_begin, .int g_token, .int g_told, .ref qg_read, .ref qg_life, .int g_dones, .ref qg_done, .int g_undos, .ref qg_undone, .ref qg_selves, .ref qg_when, .ref qg_jury, .int g_seens, .ref qg_years, .ref qg_states, .long g_trace, .ref qg_kept])), rI cI qg_text 200 g_text, rI cI qg_read 55 g_read, rI cI qg_life 55 g_life, rI cI qg_done 16 g_done, rI cI qg_undone 130 g_undone, rI cI qg_selves 16 r5.2, rI cI qg_when 27 g_when, rI cI qg_jury 16 s8.2.2, rI cI qg_years 6 g_years, rI cI qg_states 6 g_states, rI cI qg_kept 290 g_kept] H → va_D A [(qg, .inr (7, [.ref qg_text, .int g_size, .int g_at, .int g_begin, .int g_token, .int g_told, .ref qg_read, .ref qg_life, .int g_dones, .ref qg_done, .int g_undos, .ref qg_undone, .ref qg_selves, .ref qg_when, .ref qg_jury, .int g_seens, .ref qg_years, .ref qg_states, .long g_trace, .ref qg_kept])), rI cI qg_text 200 g_text, rI cI qg_read 55 g_read, rI cI qg_life 55 g_life, rI cI qg_done 16 g_done, rI cI qg_undone 130 g_undone, rI cI qg_selves 16 r5.2, rI cI qg_when 27 g_when, rI cI qg_jury 16 s8.2.2, rI cI qg_years 6 g_years, rI cI qg_states 6 g_states, rI cI qg_kept 290 g_kept] → va_S A s.heap H locs → lv_has ls 9 [(0, .ref qg), (2, .int a2), (3, .int a3), (4, .int s8.1), (5, .int s8.2.1)] → W p l e ({ frames := 6, cells := 0, slots := 0, locals := 138 } : Room) s m args below meth c H locs 0 0 Q (F0 m 49 ls [])) e8 ?_ _ _ he8 H locs ls hP hD hS (lv_sub hl [2, 4, 5, 1, 0] rfl)
        intro s8 r8 hf ih8 hq8 H locs ls hP hD hS hl
        unfold sX7_strikes_49 at hf
        refine lv_iload hx hb dX7_strikes_49 (lv_at hl 4 rfl) ?_
        refine lv_aload_n hx hb dX7_strikes_51 rfl (lv_at hl 0 rfl) ?_
        refine k_get X hP 0 rfl rfl inX7 7 (by decide) fl_RX7_16 rfl rfl dX7_strikes_52 ?_
        refine lv_bipush (v := 38) hx hb dX7_strikes_55 (by decide) ?_
        refine lv_iconst (v := 3) hx hb dX7_strikes_57 (by decide) ?_
        refine lv_iload_n hx hb dX7_strikes_58 rfl (lv_at hl 1 rfl) ?_
        refine lv_imul hx hb dX7_strikes_59 ?_
        refine lv_iadd hx hb dX7_strikes_60 ?_
        refine lv_iconst (v := 2) hx hb dX7_strikes_61 (by decide) ?_
        refine lv_iadd hx hb dX7_strikes_62 ?_
        obtain ⟨h18, hf⟩ := ck_t hf
        refine k_iald X hP 3 0 rfl rfl h18 dX7_strikes_63 ?_
        refine lv_icmp_gt (tgt := 158) hx hb dX7_strikes_64 (by decide) (fun c19 => ?_) (fun c19 => ?_)
        · replace hf := ite_t c19 hf
          exact hx8_0 _ (hq8 _ (Option.some.inj hf).symm) H locs ls hP hD hS (lv_sub hl [0, 2, 3] rfl)
        · replace hf := ite_f c19 hf
          refine lv_aload_n hx hb dX7_strikes_67 rfl (lv_at hl 0 rfl) ?_
          refine lv_aload_n hx hb dX7_strikes_68 rfl (lv_at hl 0 rfl) ?_
          refine k_get X hP 0 rfl rfl inX7 12 (by decide) fl_RX7_25 rfl rfl dX7_strikes_69 ?_
          refine lv_iload hx hb dX7_strikes_72 (lv_at hl 4 rfl) ?_
          obtain ⟨h20, hf⟩ := ck_t hf
          refine k_iald X hP 6 0 rfl rfl h20 dX7_strikes_74 ?_
          refine lv_iconst (v := 1) hx hb dX7_strikes_75 (by decide) ?_
          obtain ⟨r21, hr21, hf⟩ := bnd hf
          refine k_callV X hP hD hS [(qg, .inr (7, [.ref qg_text, .int g_size, .int g_at, .int g_begin, .int g_token, .int g_told, .ref qg_read, .ref qg_life, .int g_dones, .ref qg_done, .int g_undos, .ref qg_undone, .ref qg_selves, .ref qg_when, .ref qg_jury, .int g_seens, .ref qg_years, .ref qg_states, .long g_trace, .ref qg_kept])), rI cI qg_text 200 g_text, rI cI qg_read 55 g_read, rI cI qg_life 55 g_life, rI cI qg_done 16 g_done, rI cI qg_undone 130 g_undone, rI cI qg_selves 16 r5.2, rI cI qg_when 27 g_when, rI cI qg_jury 16 s8.2.2, rI cI qg_years 6 g_years, rI cI qg_states 6 g_states, rI cI qg_kept 290 g_kept] (ctX7_of l D cI cZ cD cH qg qg_text qg_read qg_life qg_done qg_undone qg_selves qg_when qg_jury qg_years qg_states qg_kept (r5.2 s8.2.1.toNatClampNeg) 1 g_size g_at g_begin g_token g_told g_dones g_undos g_seens g_trace g_text g_read g_life g_done g_undone r5.2 g_when s8.2.2 g_years g_states g_kept r21 hr21) ml_RX7_128 im_yX7_of se_yX7_of in_RX7 cd_yX7_of rfl rfl hd_yX7_of ⟨by decide, by decide⟩ ⟨Nat.zero_le _, Nat.zero_le _⟩ [0, 1, 2, 3, 4, 5, 6, 7, 8, 9, 10, 11] [some 0, some 1, some 2, some 3, some 4, some 5, some 6, some 7, some 8, some 9, some 10, some 11] rfl (by decide +kernel) rfl (by decide +kernel) rfl rfl (q0 := 0) rfl rfl rfl hl.1 rfl rfl (Nat.le_of_ble_eq_true rfl) rfl dX7_strikes_76 (fun H locs hP hD hS => ?_)
          refine lv_if_ne (tgt := 152) hx hb dX7_strikes_79 (by decide) (fun c22 => ?_) (fun c22 => ?_)
          · replace hf := ite_f c22 hf
            refine lv_iinc (v := s8.2.1 + 1) (lv' := [(5, .int (s8.2.1 + 1)), (0, .ref qg), (2, .int a2), (3, .int a3), (4, .int s8.1)]) hx hb dX7_strikes_152 hl (k := 4) rfl rfl (by decide) rfl (fun ls hl => ?_)
            refine lv_goto (tgt := 49) hx hb dX7_strikes_155 (by decide) ?_
            exact ih8 _ (Option.some.inj hf).symm H locs ls hP hD hS (lv_sub hl [1, 2, 3, 4, 0] rfl)
          · replace hf := ite_t c22 hf
            refine lv_aload_n hx hb dX7_strikes_82 rfl (lv_at hl 0 rfl) ?_
            refine lv_aload_n hx hb dX7_strikes_83 rfl (lv_at hl 0 rfl) ?_
            refine k_get X hP 0 rfl rfl inX7 12 (by decide) fl_RX7_25 rfl rfl dX7_strikes_84 ?_
            refine lv_iload hx hb dX7_strikes_87 (lv_at hl 4 rfl) ?_
            obtain ⟨h23, hf⟩ := ck_t hf
            refine k_iald X hP 6 0 rfl rfl h23 dX7_strikes_89 ?_
            obtain ⟨r24, hr24, hf⟩ := bnd hf
            refine k_callV X hP hD hS [(qg, .inr (7, [.ref qg_text, .int g_size, .int g_at, .int g_begin, .int g_token, .int g_told, .ref qg_read, .ref qg_life, .int g_dones, .ref qg_done, .int g_undos, .ref qg_undone, .ref qg_selves, .ref qg_when, .ref qg_jury, .int g_seens, .ref qg_years, .ref qg_states, .long g_trace, .ref qg_kept])), rI cI qg_text 200 g_text, rI cI qg_read 55 g_read, rI cI qg_life 55 g_life, rI cI qg_done 16 g_done, rI cI qg_undone 130 g_undone, rI cI qg_selves 16 r5.2, rI cI qg_when 27 g_when, rI cI qg_jury 16 s8.2.2, rI cI qg_years 6 g_years, rI cI qg_states 6 g_states, rI cI qg_kept 290 g_kept] (ctX7_lean l D cI cZ cD cH qg qg_text qg_read qg_life qg_done qg_undone qg_selves qg_when qg_jury qg_years qg_states qg_kept (r5.2 s8.2.1.toNatClampNeg) g_size g_at g_begin g_token g_told g_dones g_undos g_seens g_trace g_text g_read g_life g_done g_undone r5.2 g_when s8.2.2 g_years g_states g_kept r24 hr24) ml_RX7_137 im_yX7_lean se_yX7_lean in_RX7 cd_yX7_lean rfl rfl hd_yX7_lean ⟨by decide, by decide⟩ ⟨Nat.zero_le _, Nat.zero_le _⟩ [0, 1, 2, 3, 4, 5, 6, 7, 8, 9, 10, 11] [some 0, some 1, some 2, some 3, some 4, some 5, some 6, some 7, some 8, some 9, some 10, some 11] rfl (by decide +kernel) rfl (by decide +kernel) rfl rfl (q0 := 0) rfl rfl rfl hl.1 rfl rfl (Nat.le_of_ble_eq_true rfl) rfl dX7_strikes_90 (fun H locs hP hD hS => ?_)
            refine lv_istore (lv' := [(6, .int r24), (0, .ref qg), (2, .int a2), (3, .int a3), (4, .int s8.1), (5, .int s8.2.1)]) hx hb dX7_strikes_93 hl (by decide) rfl (fun ls hl => ?_)
            refine lv_iload hx hb dX7_strikes_95 (lv_at hl 4 rfl) ?_
            refine lv_istore (lv' := [(7, .int s8.1), (6, .int r24), (0, .ref qg), (2, .int a2), (3, .int a3), (4, .int s8.1), (5, .int s8.2.1)]) hx hb dX7_strikes_97 hl (by decide) rfl (fun ls hl => ?_)
            obtain ⟨e25, he25, hf⟩ := bnd hf
            have hx25_0 : ∀ (y25_0 : Int32 × (Nat → Int32)), y25_0 = e25 → ∀ (H : Heap) (locs : List Loc) (ls : Array Slot), va_P D vwCl [(qg, .inr (7, [.ref qg_text, .int g_size, .int g_at, .int g_begin, .int g_token, .int g_told, .ref qg_read, .ref qg_life, .int g_dones, .ref qg_done, .int g_undos, .ref qg_undone, .ref qg_selves, .ref qg_when, .ref qg_jury, .int g_seens, .ref qg_years, .ref qg_states, .long g_trace, .ref qg_kept])), rI cI qg_text 200 g_text, rI cI qg_read 55 g_read, rI cI qg_life 55 g_life, rI cI qg_done 16 g_done, rI cI qg_undone 130 g_undone, rI cI qg_selves 16 r5.2, rI cI qg_when 27 g_when, rI cI qg_jury 16 y25_0.2, rI cI qg_years 6 g_years, rI cI qg_states 6 g_states, rI cI qg_kept 290 g_kept] H → va_D A [(qg, .inr (7, [.ref qg_text, .int g_size, .int g_at, .int g_begin, .int g_token, .int g_told, .ref qg_read, .ref qg_life, .int g_dones, .ref qg_done, .int g_undos, .ref qg_undone, .ref qg_selves, .ref qg_when, .ref qg_jury, .int g_seens, .ref qg_years, .ref qg_states, .long g_trace, .ref qg_kept])), rI cI qg_text 200 g_text, rI cI qg_read 55 g_read, rI cI qg_life 55 g_life, rI cI qg_done 16 g_done, rI cI qg_undone 130 g_undone, rI cI qg_selves 16 r5.2, rI cI qg_when 27 g_when, rI cI qg_jury 16 y25_0.2, rI cI qg_years 6 g_years, rI cI qg_states 6 g_states, rI cI qg_kept 290 g_kept] → va_S A s.heap H locs → lv_has ls 9 [(0, .ref qg), (2, .int a2), (3, .int a3), (4, .int s8.1), (5, .int s8.2.1), (6, .int r24), (7, .int y25_0.1)] → W p l e ({ frames := 6, cells := 0, slots := 0, locals := 138 } : Room) s m args below meth c H locs 0 0 Q (F0 m 140 ls []) := by
              intro y25_0 heq H locs ls hP hD hS hl
              subst heq
              refine lv_aload_n hx hb dX7_strikes_140 rfl (lv_at hl 0 rfl) ?_
              refine k_get X hP 0 rfl rfl inX7 14 (by decide) fl_RX7_31 rfl rfl dX7_strikes_141 ?_
              refine lv_iload hx hb dX7_strikes_144 (lv_at hl 6 rfl) ?_
              refine lv_iload hx hb dX7_strikes_146 (lv_at hl 5 rfl) ?_
              obtain ⟨h26, hf⟩ := ck_t hf
              refine k_iast X hP hD hS [(qg, .inr (7, [.ref qg_text, .int g_size, .int g_at, .int g_begin, .int g_token, .int g_told, .ref qg_read, .ref qg_life, .int g_dones, .ref qg_done, .int g_undos, .ref qg_undone, .ref qg_selves, .ref qg_when, .ref qg_jury, .int g_seens, .ref qg_years, .ref qg_states, .long g_trace, .ref qg_kept])), rI cI qg_text 200 g_text, rI cI qg_read 55 g_read, rI cI qg_life 55 g_life, rI cI qg_done 16 g_done, rI cI qg_undone 130 g_undone, rI cI qg_selves 16 r5.2, rI cI qg_when 27 g_when, rI cI qg_jury 16 (upd y25_0.2 y25_0.1.toNatClampNeg r24), rI cI qg_years 6 g_years, rI cI qg_states 6 g_states, rI cI qg_kept 290 g_kept] 8 0 rfl rfl h26 rfl dX7_strikes_148 (fun H locs hP hD hS => ?_)
              refine lv_iinc (v := s8.1 + 1) (lv' := [(4, .int (s8.1 + 1)), (0, .ref qg), (2, .int a2), (3, .int a3), (5, .int s8.2.1), (6, .int r24), (7, .int y25_0.1)]) hx hb dX7_strikes_149 hl (k := 3) rfl rfl (by decide) rfl (fun ls hl => ?_)
              refine lv_iinc (v := s8.2.1 + 1) (lv' := [(5, .int (s8.2.1 + 1)), (4, .int (s8.1 + 1)), (0, .ref qg), (2, .int a2), (3, .int a3), (6, .int r24), (7, .int y25_0.1)]) hx hb dX7_strikes_152 hl (k := 4) rfl rfl (by decide) rfl (fun ls hl => ?_)
              refine lv_goto (tgt := 49) hx hb dX7_strikes_155 (by decide) ?_
              exact ih8 _ (Option.some.inj hf).symm H locs ls hP hD hS (lv_sub hl [2, 3, 4, 1, 0] rfl)
            refine lpd_ind (P := fun s25 => ∀ (H : Heap) (locs : List Loc) (ls : Array Slot), va_P D vwCl [(qg, .inr (7, [.ref qg_text, .int g_size, .int g_at, .int g_begin, .int g_token, .int g_told, .ref qg_read, .ref qg_life, .int g_dones, .ref qg_done, .int g_undos, .ref qg_undone, .ref qg_selves, .ref qg_when, .ref qg_jury, .int g_seens, .ref qg_years, .ref qg_states, .long g_trace, .ref qg_kept])), rI cI qg_text 200 g_text, rI cI qg_read 55 g_read, rI cI qg_life 55 g_life, rI cI qg_done 16 g_done, rI cI qg_undone 130 g_undone, rI cI qg_selves 16 r5.2, rI cI qg_when 27 g_when, rI cI qg_jury 16 s25.2, rI cI qg_years 6 g_years, rI cI qg_states 6 g_states, rI cI qg_kept 290 g_kept] H → va_D A [(qg, .inr (7, [.ref qg_text, .int g_size, .int g_at, .int g_begin, .int g_token, .int g_told, .ref qg_read, .ref qg_life, .int g_dones, .ref qg_done, .int g_undos, .ref qg_undone, .ref qg_selves, .ref qg_when, .ref qg_jury, .int g_seens, .ref qg_years, .ref qg_states, .long g_trace, .ref qg_kept])), rI cI qg_text 200 g_text, rI cI qg_read 55 g_read, rI cI qg_life 55 g_life, rI cI qg_done 16 g_done, rI cI qg_undone 130 g_undone, rI cI qg_selves 16 r5.2, rI cI qg_when 27 g_when, rI cI qg_jury 16 s25.2, rI cI qg_years 6 g_years, rI cI qg_states 6 g_states, rI cI qg_kept 290 g_kept] → va_S A s.heap H locs → lv_has ls 9 [(0, .ref qg), (2, .int a2), (3, .int a3), (4, .int s8.1), (5, .int s8.2.1), (6, .int r24), (7, .int s25.1)] → W p l e ({ frames := 6, cells := 0, slots := 0, locals := 138 } : Room) s m args below meth c H locs 0 0 Q (F0 m 99 ls [])) e25 ?_ _ _ he25 H locs ls hP hD hS (lv_sub hl [2, 3, 4, 5, 6, 1, 0] rfl)
            intro s25 r25 hf ih25 hq25 H locs ls hP hD hS hl
            unfold sX7_strikes_99 at hf
            refine lv_iload hx hb dX7_strikes_99 (lv_at hl 6 rfl) ?_
            refine lv_if_le (tgt := 140) hx hb dX7_strikes_101 (by decide) (fun c27 => ?_) (fun c27 => ?_)
            · replace hf := ite_t c27 hf
              exact hx25_0 _ (hq25 _ (Option.some.inj hf).symm) H locs ls hP hD hS hl
            · replace hf := ite_f c27 hf
              refine lv_aload_n hx hb dX7_strikes_104 rfl (lv_at hl 0 rfl) ?_
              refine k_get X hP 0 rfl rfl inX7 14 (by decide) fl_RX7_31 rfl rfl dX7_strikes_105 ?_
              refine lv_iload hx hb dX7_strikes_108 (lv_at hl 6 rfl) ?_
              refine lv_iconst (v := 1) hx hb dX7_strikes_110 (by decide) ?_
              refine lv_isub hx hb dX7_strikes_111 ?_
              obtain ⟨h28, hf⟩ := ck_t hf
              refine k_iald X hP 8 0 rfl rfl h28 dX7_strikes_112 ?_
              refine lv_iload hx hb dX7_strikes_113 (lv_at hl 5 rfl) ?_
              refine lv_icmp_le (tgt := 140) hx hb dX7_strikes_115 (by decide) (fun c29 => ?_) (fun c29 => ?_)
              · replace hf := ite_t c29 hf
                exact hx25_0 _ (hq25 _ (Option.some.inj hf).symm) H locs ls hP hD hS hl
              · replace hf := ite_f c29 hf
                refine lv_aload_n hx hb dX7_strikes_118 rfl (lv_at hl 0 rfl) ?_
                refine k_get X hP 0 rfl rfl inX7 14 (by decide) fl_RX7_31 rfl rfl dX7_strikes_119 ?_
                refine lv_iload hx hb dX7_strikes_122 (lv_at hl 6 rfl) ?_
                refine lv_aload_n hx hb dX7_strikes_124 rfl (lv_at hl 0 rfl) ?_
                refine k_get X hP 0 rfl rfl inX7 14 (by decide) fl_RX7_31 rfl rfl dX7_strikes_125 ?_
                refine lv_iload hx hb dX7_strikes_128 (lv_at hl 6 rfl) ?_
                refine lv_iconst (v := 1) hx hb dX7_strikes_130 (by decide) ?_
                refine lv_isub hx hb dX7_strikes_131 ?_
                obtain ⟨h30, hf⟩ := ck_t hf
                refine k_iald X hP 8 0 rfl rfl h30 dX7_strikes_132 ?_
                obtain ⟨h31, hf⟩ := ck_t hf
                refine k_iast X hP hD hS [(qg, .inr (7, [.ref qg_text, .int g_size, .int g_at, .int g_begin, .int g_token, .int g_told, .ref qg_read, .ref qg_life, .int g_dones, .ref qg_done, .int g_undos, .ref qg_undone, .ref qg_selves, .ref qg_when, .ref qg_jury, .int g_seens, .ref qg_years, .ref qg_states, .long g_trace, .ref qg_kept])), rI cI qg_text 200 g_text, rI cI qg_read 55 g_read, rI cI qg_life 55 g_life, rI cI qg_done 16 g_done, rI cI qg_undone 130 g_undone, rI cI qg_selves 16 r5.2, rI cI qg_when 27 g_when, rI cI qg_jury 16 (upd s25.2 s25.1.toNatClampNeg (s25.2 (s25.1 - 1).toNatClampNeg)), rI cI qg_years 6 g_years, rI cI qg_states 6 g_states, rI cI qg_kept 290 g_kept] 8 0 rfl rfl h31 rfl dX7_strikes_133 (fun H locs hP hD hS => ?_)
                refine lv_iinc (v := s25.1 + (-1)) (lv' := [(7, .int (s25.1 + (-1))), (0, .ref qg), (2, .int a2), (3, .int a3), (4, .int s8.1), (5, .int s8.2.1), (6, .int r24)]) hx hb dX7_strikes_134 hl (k := 6) rfl rfl (by decide) rfl (fun ls hl => ?_)
                refine lv_goto (tgt := 99) hx hb dX7_strikes_137 (by decide) ?_
                exact ih25 _ (Option.some.inj hf).symm H locs ls hP hD hS (lv_sub hl [1, 2, 3, 4, 5, 6, 0] rfl)
      · replace hf := ite_f c6 hf
        refine lv_ldc hx hb hown (hts _ ck_RX7_141) dX7_strikes_28 ?_
        replace hf := Option.some.inj hf
        subst hf
        exact hret H locs _ ls dX7_strikes_30 hP hD hS

def sX7_innocent_14 (v1 : Int32) (g_dones : Int32) (g_life : Nat → Int32) (g_done : Nat → Int32) (v2 : Int32) (v3 : Int32) (g_selves : Nat → Int32) : Option ((Int32 × Int32 × (Nat → Int32)) ⊕ ((Int32 × (Nat → Int32)))) :=
  if inb 1 55 = true then if (g_life (1 : Int32).toNatClampNeg) ≤ v3 then some (.inr (v2, g_selves)) else (fX7_sureFrom v1 v3 g_dones g_life g_done g_selves).bind (fun r6 => if r6.1 = 2 then some (.inl (v2 ||| (1 <<< (v3 &&& 31)), v3 + 1, r6.2)) else some (.inl (v2 ||| 0, v3 + 1, r6.2))) else none
def fX7_innocent (a1 : Int32) (g_dones : Int32) (g_life : Nat → Int32) (g_done : Nat → Int32) (g_selves : Nat → Int32) : Option (Int32 × (Nat → Int32)) :=
  (fX7_isTrial a1 g_life).bind (fun r1 => if (bI r1) = 0 then some ((-1), g_selves) else (lpd (fun s3 => sX7_innocent_14 a1 g_dones g_life g_done s3.1 s3.2.1 s3.2.2) FU (0, 0, g_selves)).bind (fun (y3_0 : Int32 × (Nat → Int32)) => some (y3_0.1, y3_0.2)))
set_option maxHeartbeats 4000000 in
set_option maxRecDepth 100000 in
theorem ctX7_innocent (l : Launch) (D : va_G) (cI cZ cD cH : ClassId) (qg : Nat) (qg_text : Nat) (qg_read : Nat) (qg_life : Nat) (qg_done : Nat) (qg_undone : Nat) (qg_selves : Nat) (qg_when : Nat) (qg_jury : Nat) (qg_years : Nat) (qg_states : Nat) (qg_kept : Nat) (a1 : Int32) (g_size : Int32) (g_at : Int32) (g_begin : Int32) (g_token : Int32) (g_told : Int32) (g_dones : Int32) (g_undos : Int32) (g_seens : Int32) (g_trace : Int64) (g_text : Nat → Int32) (g_read : Nat → Int32) (g_life : Nat → Int32) (g_done : Nat → Int32) (g_undone : Nat → Int32) (g_selves : Nat → Int32) (g_when : Nat → Int32) (g_jury : Nat → Int32) (g_years : Nat → Int32) (g_states : Nat → Int32) (g_kept : Nat → Int32) (o : Int32 × (Nat → Int32)) (hf : fX7_innocent a1 g_dones g_life g_done g_selves = some o) : Ct l yX7_innocent cX7_innocent 4 (some .int) { frames := 6, cells := 0, slots := 0, locals := 140 } D (Tys cI cZ cD cH) [.ref qg, .int a1] [(qg, .inr (7, [.ref qg_text, .int g_size, .int g_at, .int g_begin, .int g_token, .int g_told, .ref qg_read, .ref qg_life, .int g_dones, .ref qg_done, .int g_undos, .ref qg_undone, .ref qg_selves, .ref qg_when, .ref qg_jury, .int g_seens, .ref qg_years, .ref qg_states, .long g_trace, .ref qg_kept])), rI cI qg_text 200 g_text, rI cI qg_read 55 g_read, rI cI qg_life 55 g_life, rI cI qg_done 16 g_done, rI cI qg_undone 130 g_undone, rI cI qg_selves 16 g_selves, rI cI qg_when 27 g_when, rI cI qg_jury 16 g_jury, rI cI qg_years 6 g_years, rI cI qg_states 6 g_states, rI cI qg_kept 290 g_kept] [(qg, .inr (7, [.ref qg_text, .int g_size, .int g_at, .int g_begin, .int g_token, .int g_told, .ref qg_read, .ref qg_life, .int g_dones, .ref qg_done, .int g_undos, .ref qg_undone, .ref qg_selves, .ref qg_when, .ref qg_jury, .int g_seens, .ref qg_years, .ref qg_states, .long g_trace, .ref qg_kept])), rI cI qg_text 200 g_text, rI cI qg_read 55 g_read, rI cI qg_life 55 g_life, rI cI qg_done 16 g_done, rI cI qg_undone 130 g_undone, rI cI qg_selves 16 o.2, rI cI qg_when 27 g_when, rI cI qg_jury 16 g_jury, rI cI qg_years 6 g_years, rI cI qg_states 6 g_states, rI cI qg_kept 290 g_kept] (some (.int o.1)) 0 0 := by
  refine mkI (by decide) (Nat.le_of_ble_eq_true rfl) ?_
  intro p e s m args below meth c A Q X hret ls hl H locs hP hD hS
  replace X : Cx p s m args c D (Tys cI cZ cD cH) A cX7_innocent RX7 4 := X
  obtain ⟨hx, hb, hml, hown, hts, hK, hZ, hA⟩ := id X
  have hl : lv_has ls 4 [(0, .ref qg), (1, .int a1)] := hl
  unfold fX7_innocent at hf
  refine lv_aload_n hx hb dX7_innocent_0 rfl (lv_at hl 0 rfl) ?_
  refine lv_iload_n hx hb dX7_innocent_1 rfl (lv_at hl 1 rfl) ?_
  obtain ⟨r1, hr1, hf⟩ := bnd hf
  refine k_callV X hP hD hS [(qg, .inr (7, [.ref qg_text, .int g_size, .int g_at, .int g_begin, .int g_token, .int g_told, .ref qg_read, .ref qg_life, .int g_dones, .ref qg_done, .int g_undos, .ref qg_undone, .ref qg_selves, .ref qg_when, .ref qg_jury, .int g_seens, .ref qg_years, .ref qg_states, .long g_trace, .ref qg_kept])), rI cI qg_text 200 g_text, rI cI qg_read 55 g_read, rI cI qg_life 55 g_life, rI cI qg_done 16 g_done, rI cI qg_undone 130 g_undone, rI cI qg_selves 16 g_selves, rI cI qg_when 27 g_when, rI cI qg_jury 16 g_jury, rI cI qg_years 6 g_years, rI cI qg_states 6 g_states, rI cI qg_kept 290 g_kept] (ctX7_isTrial l D cI cZ cD cH qg qg_text qg_read qg_life qg_done qg_undone qg_selves qg_when qg_jury qg_years qg_states qg_kept a1 g_size g_at g_begin g_token g_told g_dones g_undos g_seens g_trace g_text g_read g_life g_done g_undone g_selves g_when g_jury g_years g_states g_kept r1 hr1) ml_RX7_142 im_yX7_isTrial se_yX7_isTrial in_RX7 cd_yX7_isTrial rfl rfl hd_yX7_isTrial ⟨by decide, by decide⟩ ⟨Nat.zero_le _, Nat.zero_le _⟩ [0, 1, 2, 3, 4, 5, 6, 7, 8, 9, 10, 11] [some 0, some 1, some 2, some 3, some 4, some 5, some 6, some 7, some 8, some 9, some 10, some 11] rfl (by decide +kernel) rfl (by decide +kernel) rfl rfl (q0 := 0) rfl rfl rfl hl.1 rfl rfl (Nat.le_of_ble_eq_true rfl) rfl dX7_innocent_2 (fun H locs hP hD hS => ?_)
  refine lv_if_ne (tgt := 10) hx hb dX7_innocent_5 (by decide) (fun c2 => ?_) (fun c2 => ?_)
  · replace hf := ite_f c2 hf
    refine lv_iconst (v := 0) hx hb dX7_innocent_10 (by decide) ?_
    refine lv_istore_n (lv' := [(2, .int 0), (0, .ref qg), (1, .int a1)]) hx hb dX7_innocent_11 rfl hl (by decide) rfl (fun ls hl => ?_)
    refine lv_iconst (v := 0) hx hb dX7_innocent_12 (by decide) ?_
    refine lv_istore_n (lv' := [(3, .int 0), (2, .int 0), (0, .ref qg), (1, .int a1)]) hx hb dX7_innocent_13 rfl hl (by decide) rfl (fun ls hl => ?_)
    obtain ⟨e3, he3, hf⟩ := bnd hf
    have hx3_0 : ∀ (y3_0 : Int32 × (Nat → Int32)), y3_0 = e3 → ∀ (H : Heap) (locs : List Loc) (ls : Array Slot), va_P D vwCl [(qg, .inr (7, [.ref qg_text, .int g_size, .int g_at, .int g_begin, .int g_token, .int g_told, .ref qg_read, .ref qg_life, .int g_dones, .ref qg_done, .int g_undos, .ref qg_undone, .ref qg_selves, .ref qg_when, .ref qg_jury, .int g_seens, .ref qg_years, .ref qg_states, .long g_trace, .ref qg_kept])), rI cI qg_text 200 g_text, rI cI qg_read 55 g_read, rI cI qg_life 55 g_life, rI cI qg_done 16 g_done, rI cI qg_undone 130 g_undone, rI cI qg_selves 16 y3_0.2, rI cI qg_when 27 g_when, rI cI qg_jury 16 g_jury, rI cI qg_years 6 g_years, rI cI qg_states 6 g_states, rI cI qg_kept 290 g_kept] H → va_D A [(qg, .inr (7, [.ref qg_text, .int g_size, .int g_at, .int g_begin, .int g_token, .int g_told, .ref qg_read, .ref qg_life, .int g_dones, .ref qg_done, .int g_undos, .ref qg_undone, .ref qg_selves, .ref qg_when, .ref qg_jury, .int g_seens, .ref qg_years, .ref qg_states, .long g_trace, .ref qg_kept])), rI cI qg_text 200 g_text, rI cI qg_read 55 g_read, rI cI qg_life 55 g_life, rI cI qg_done 16 g_done, rI cI qg_undone 130 g_undone, rI cI qg_selves 16 y3_0.2, rI cI qg_when 27 g_when, rI cI qg_jury 16 g_jury, rI cI qg_years 6 g_years, rI cI qg_states 6 g_states, rI cI qg_kept 290 g_kept] → va_S A s.heap H locs → lv_has ls 4 [(2, .int y3_0.1)] → W p l e ({ frames := 6, cells := 0, slots := 0, locals := 140 } : Room) s m args below meth c H locs 0 0 Q (F0 m 50 ls []) := by
      intro y3_0 heq H locs ls hP hD hS hl
      subst heq
      refine lv_iload_n hx hb dX7_innocent_50 rfl (lv_at hl 0 rfl) ?_
      replace hf := Option.some.inj hf
      subst hf
      exact hret H locs _ ls dX7_innocent_51 hP hD hS
    refine lpd_ind (P := fun s3 => ∀ (H : Heap) (locs : List Loc) (ls : Array Slot), va_P D vwCl [(qg, .inr (7, [.ref qg_text, .int g_size, .int g_at, .int g_begin, .int g_token, .int g_told, .ref qg_read, .ref qg_life, .int g_dones, .ref qg_done, .int g_undos, .ref qg_undone, .ref qg_selves, .ref qg_when, .ref qg_jury, .int g_seens, .ref qg_years, .ref qg_states, .long g_trace, .ref qg_kept])), rI cI qg_text 200 g_text, rI cI qg_read 55 g_read, rI cI qg_life 55 g_life, rI cI qg_done 16 g_done, rI cI qg_undone 130 g_undone, rI cI qg_selves 16 s3.2.2, rI cI qg_when 27 g_when, rI cI qg_jury 16 g_jury, rI cI qg_years 6 g_years, rI cI qg_states 6 g_states, rI cI qg_kept 290 g_kept] H → va_D A [(qg, .inr (7, [.ref qg_text, .int g_size, .int g_at, .int g_begin, .int g_token, .int g_told, .ref qg_read, .ref qg_life, .int g_dones, .ref qg_done, .int g_undos, .ref qg_undone, .ref qg_selves, .ref qg_when, .ref qg_jury, .int g_seens, .ref qg_years, .ref qg_states, .long g_trace, .ref qg_kept])), rI cI qg_text 200 g_text, rI cI qg_read 55 g_read, rI cI qg_life 55 g_life, rI cI qg_done 16 g_done, rI cI qg_undone 130 g_undone, rI cI qg_selves 16 s3.2.2, rI cI qg_when 27 g_when, rI cI qg_jury 16 g_jury, rI cI qg_years 6 g_years, rI cI qg_states 6 g_states, rI cI qg_kept 290 g_kept] → va_S A s.heap H locs → lv_has ls 4 [(0, .ref qg), (1, .int a1), (2, .int s3.1), (3, .int s3.2.1)] → W p l e ({ frames := 6, cells := 0, slots := 0, locals := 140 } : Room) s m args below meth c H locs 0 0 Q (F0 m 14 ls [])) e3 ?_ _ _ he3 H locs ls hP hD hS (lv_sub hl [2, 3, 1, 0] rfl)
    intro s3 r3 hf ih3 hq3 H locs ls hP hD hS hl
    unfold sX7_innocent_14 at hf
    refine lv_iload_n hx hb dX7_innocent_14 rfl (lv_at hl 3 rfl) ?_
    refine lv_aload_n hx hb dX7_innocent_15 rfl (lv_at hl 0 rfl) ?_
    refine k_get X hP 0 rfl rfl inX7 7 (by decide) fl_RX7_16 rfl rfl dX7_innocent_16 ?_
    refine lv_iconst (v := 1) hx hb dX7_innocent_19 (by decide) ?_
    obtain ⟨h4, hf⟩ := ck_t hf
    refine k_iald X hP 3 0 rfl rfl h4 dX7_innocent_20 ?_
    refine lv_icmp_ge (tgt := 50) hx hb dX7_innocent_21 (by decide) (fun c5 => ?_) (fun c5 => ?_)
    · replace hf := ite_t c5 hf
      exact hx3_0 _ (hq3 _ (Option.some.inj hf).symm) H locs ls hP hD hS (lv_sub hl [2] rfl)
    · replace hf := ite_f c5 hf
      refine lv_iload_n hx hb dX7_innocent_24 rfl (lv_at hl 2 rfl) ?_
      refine lv_aload_n hx hb dX7_innocent_25 rfl (lv_at hl 0 rfl) ?_
      refine lv_iload_n hx hb dX7_innocent_26 rfl (lv_at hl 1 rfl) ?_
      refine lv_iload_n hx hb dX7_innocent_27 rfl (lv_at hl 3 rfl) ?_
      obtain ⟨r6, hr6, hf⟩ := bnd hf
      refine k_callV X hP hD hS [(qg, .inr (7, [.ref qg_text, .int g_size, .int g_at, .int g_begin, .int g_token, .int g_told, .ref qg_read, .ref qg_life, .int g_dones, .ref qg_done, .int g_undos, .ref qg_undone, .ref qg_selves, .ref qg_when, .ref qg_jury, .int g_seens, .ref qg_years, .ref qg_states, .long g_trace, .ref qg_kept])), rI cI qg_text 200 g_text, rI cI qg_read 55 g_read, rI cI qg_life 55 g_life, rI cI qg_done 16 g_done, rI cI qg_undone 130 g_undone, rI cI qg_selves 16 r6.2, rI cI qg_when 27 g_when, rI cI qg_jury 16 g_jury, rI cI qg_years 6 g_years, rI cI qg_states 6 g_states, rI cI qg_kept 290 g_kept] (ctX7_sureFrom l D cI cZ cD cH qg qg_text qg_read qg_life qg_done qg_undone qg_selves qg_when qg_jury qg_years qg_states qg_kept a1 s3.2.1 g_size g_at g_begin g_token g_told g_dones g_undos g_seens g_trace g_text g_read g_life g_done g_undone s3.2.2 g_when g_jury g_years g_states g_kept r6 hr6) ml_RX7_187 im_yX7_sureFrom se_yX7_sureFrom in_RX7 cd_yX7_sureFrom rfl rfl hd_yX7_sureFrom ⟨by decide, by decide⟩ ⟨Nat.zero_le _, Nat.zero_le _⟩ [0, 1, 2, 3, 4, 5, 6, 7, 8, 9, 10, 11] [some 0, some 1, some 2, some 3, some 4, some 5, some 6, some 7, some 8, some 9, some 10, some 11] rfl (by decide +kernel) rfl (by decide +kernel) rfl rfl (q0 := 0) rfl rfl rfl hl.1 rfl rfl (Nat.le_of_ble_eq_true rfl) rfl dX7_innocent_28 (fun H locs hP hD hS => ?_)
      refine lv_iconst (v := 2) hx hb dX7_innocent_31 (by decide) ?_
      refine lv_icmp_ne (tgt := 41) hx hb dX7_innocent_32 (by decide) (fun c7 => ?_) (fun c7 => ?_)
      · replace hf := ite_f c7 hf
        refine lv_iconst (v := 0) hx hb dX7_innocent_41 (by decide) ?_
        refine lv_ior hx hb dX7_innocent_42 ?_
        refine lv_istore_n (lv' := [(2, .int (s3.1 ||| 0)), (0, .ref qg), (1, .int a1), (3, .int s3.2.1)]) hx hb dX7_innocent_43 rfl hl (by decide) rfl (fun ls hl => ?_)
        refine lv_iinc (v := s3.2.1 + 1) (lv' := [(3, .int (s3.2.1 + 1)), (2, .int (s3.1 ||| 0)), (0, .ref qg), (1, .int a1)]) hx hb dX7_innocent_44 hl (k := 3) rfl rfl (by decide) rfl (fun ls hl => ?_)
        refine lv_goto (tgt := 14) hx hb dX7_innocent_47 (by decide) ?_
        exact ih3 _ (Option.some.inj hf).symm H locs ls hP hD hS (lv_sub hl [2, 3, 1, 0] rfl)
      · replace hf := ite_t c7 hf
        refine lv_iconst (v := 1) hx hb dX7_innocent_35 (by decide) ?_
        refine lv_iload_n hx hb dX7_innocent_36 rfl (lv_at hl 3 rfl) ?_
        refine lv_ishl hx hb dX7_innocent_37 ?_
        refine lv_goto (tgt := 42) hx hb dX7_innocent_38 (by decide) ?_
        refine lv_ior hx hb dX7_innocent_42 ?_
        refine lv_istore_n (lv' := [(2, .int (s3.1 ||| (1 <<< (s3.2.1 &&& 31)))), (0, .ref qg), (1, .int a1), (3, .int s3.2.1)]) hx hb dX7_innocent_43 rfl hl (by decide) rfl (fun ls hl => ?_)
        refine lv_iinc (v := s3.2.1 + 1) (lv' := [(3, .int (s3.2.1 + 1)), (2, .int (s3.1 ||| (1 <<< (s3.2.1 &&& 31)))), (0, .ref qg), (1, .int a1)]) hx hb dX7_innocent_44 hl (k := 3) rfl rfl (by decide) rfl (fun ls hl => ?_)
        refine lv_goto (tgt := 14) hx hb dX7_innocent_47 (by decide) ?_
        exact ih3 _ (Option.some.inj hf).symm H locs ls hP hD hS (lv_sub hl [2, 3, 1, 0] rfl)
  · replace hf := ite_t c2 hf
    refine lv_iconst (v := (-1)) hx hb dX7_innocent_8 (by decide) ?_
    replace hf := Option.some.inj hf
    subst hf
    exact hret H locs _ ls dX7_innocent_9 hP hD hS

def sX7_many_4 (v1 : Int32) (v2 : Int32) : Option ((Int32 × Int32) ⊕ ((Int32))) :=
  if v2 = 0 then some (.inr v1) else some (.inl (v1 + 1, v2 &&& (v2 - 1)))
def fX7_many (a1 : Int32) : Option (Int32) :=
  (lpd (fun s1 => sX7_many_4 s1.1 s1.2) FU (0, a1)).bind (fun (y1_0 : Int32) => some y1_0)
set_option maxHeartbeats 4000000 in
set_option maxRecDepth 100000 in
theorem ctX7_many (l : Launch) (D : va_G) (cI cZ cD cH : ClassId) (a1 : Int32) (o : Int32) (hf : fX7_many a1 = some o) : Ct l yX7_many cX7_many 3 (some .int) { frames := 0, cells := 0, slots := 0, locals := 0 } D (Tys cI cZ cD cH) [.int a1] [] [] (some (.int o)) 0 0 := by
  refine mkI (by decide) (Nat.le_of_ble_eq_true rfl) ?_
  intro p e s m args below meth c A Q X hret ls hl H locs hP hD hS
  replace X : Cx p s m args c D (Tys cI cZ cD cH) A cX7_many RX7 3 := X
  obtain ⟨hx, hb, hml, hown, hts, hK, hZ, hA⟩ := id X
  have hl : lv_has ls 3 [(0, .int a1)] := hl
  unfold fX7_many at hf
  refine lv_iconst (v := 0) hx hb dX7_many_0 (by decide) ?_
  refine lv_istore_n (lv' := [(1, .int 0), (0, .int a1)]) hx hb dX7_many_1 rfl hl (by decide) rfl (fun ls hl => ?_)
  refine lv_iload_n hx hb dX7_many_2 rfl (lv_at hl 1 rfl) ?_
  refine lv_istore_n (lv' := [(2, .int a1), (1, .int 0), (0, .int a1)]) hx hb dX7_many_3 rfl hl (by decide) rfl (fun ls hl => ?_)
  obtain ⟨e1, he1, hf⟩ := bnd hf
  have hx1_0 : ∀ (y1_0 : Int32), y1_0 = e1 → ∀ (H : Heap) (locs : List Loc) (ls : Array Slot), va_P D vwCl [] H → va_D A [] → va_S A s.heap H locs → lv_has ls 3 [(1, .int y1_0)] → W p l e ({ frames := 0, cells := 0, slots := 0, locals := 0 } : Room) s m args below meth c H locs 0 0 Q (F0 m 20 ls []) := by
    intro y1_0 heq H locs ls hP hD hS hl
    subst heq
    refine lv_iload_n hx hb dX7_many_20 rfl (lv_at hl 0 rfl) ?_
    replace hf := Option.some.inj hf
    subst hf
    exact hret H locs _ ls dX7_many_21 hP hD hS
  refine lpd_ind (P := fun s1 => ∀ (H : Heap) (locs : List Loc) (ls : Array Slot), va_P D vwCl [] H → va_D A [] → va_S A s.heap H locs → lv_has ls 3 [(1, .int s1.1), (2, .int s1.2)] → W p l e ({ frames := 0, cells := 0, slots := 0, locals := 0 } : Room) s m args below meth c H locs 0 0 Q (F0 m 4 ls [])) e1 ?_ _ _ he1 H locs ls hP hD hS (lv_sub hl [1, 0] rfl)
  intro s1 r1 hf ih1 hq1 H locs ls hP hD hS hl
  unfold sX7_many_4 at hf
  refine lv_iload_n hx hb dX7_many_4 rfl (lv_at hl 1 rfl) ?_
  refine lv_if_eq (tgt := 20) hx hb dX7_many_5 (by decide) (fun c2 => ?_) (fun c2 => ?_)
  · replace hf := ite_t c2 hf
    exact hx1_0 _ (hq1 _ (Option.some.inj hf).symm) H locs ls hP hD hS (lv_sub hl [0] rfl)
  · replace hf := ite_f c2 hf
    refine lv_iinc (v := s1.1 + 1) (lv' := [(1, .int (s1.1 + 1)), (2, .int s1.2)]) hx hb dX7_many_8 hl (k := 0) rfl rfl (by decide) rfl (fun ls hl => ?_)
    refine lv_iload_n hx hb dX7_many_11 rfl (lv_at hl 1 rfl) ?_
    refine lv_iload_n hx hb dX7_many_12 rfl (lv_at hl 1 rfl) ?_
    refine lv_iconst (v := 1) hx hb dX7_many_13 (by decide) ?_
    refine lv_isub hx hb dX7_many_14 ?_
    refine lv_iand hx hb dX7_many_15 ?_
    refine lv_istore_n (lv' := [(2, .int (s1.2 &&& (s1.2 - 1))), (1, .int (s1.1 + 1))]) hx hb dX7_many_16 rfl hl (by decide) rfl (fun ls hl => ?_)
    refine lv_goto (tgt := 4) hx hb dX7_many_17 (by decide) ?_
    exact ih1 _ (Option.some.inj hf).symm H locs ls hP hD hS (lv_sub hl [1, 0] rfl)

def sX7_common_4 (v2 : Int32) (v3 : Int32) : Option ((Int32 × Int32) ⊕ ((Int32))) :=
  if v3 = 0 then some (.inr v2) else if ¬ v3 = 0 then some (.inl (v3, v2 - v2 / v3 * v3)) else none
def fX7_common (a1 : Int32) (a2 : Int32) : Option (Int32) :=
  (lpd (fun s1 => sX7_common_4 s1.1 s1.2) FU (a1, a2)).bind (fun (y1_0 : Int32) => some y1_0)
set_option maxHeartbeats 4000000 in
set_option maxRecDepth 100000 in
theorem ctX7_common (l : Launch) (D : va_G) (cI cZ cD cH : ClassId) (a1 : Int32) (a2 : Int32) (o : Int32) (hf : fX7_common a1 a2 = some o) : Ct l yX7_common cX7_common 5 (some .int) { frames := 0, cells := 0, slots := 0, locals := 0 } D (Tys cI cZ cD cH) [.int a1, .int a2] [] [] (some (.int o)) 0 0 := by
  refine mkI (by decide) (Nat.le_of_ble_eq_true rfl) ?_
  intro p e s m args below meth c A Q X hret ls hl H locs hP hD hS
  replace X : Cx p s m args c D (Tys cI cZ cD cH) A cX7_common RX7 5 := X
  obtain ⟨hx, hb, hml, hown, hts, hK, hZ, hA⟩ := id X
  have hl : lv_has ls 5 [(0, .int a1), (1, .int a2)] := hl
  unfold fX7_common at hf
  refine lv_iload_n hx hb dX7_common_0 rfl (lv_at hl 0 rfl) ?_
  refine lv_istore_n (lv' := [(2, .int a1), (0, .int a1), (1, .int a2)]) hx hb dX7_common_1 rfl hl (by decide) rfl (fun ls hl => ?_)
  refine lv_iload_n hx hb dX7_common_2 rfl (lv_at hl 2 rfl) ?_
  refine lv_istore_n (lv' := [(3, .int a2), (2, .int a1), (0, .int a1), (1, .int a2)]) hx hb dX7_common_3 rfl hl (by decide) rfl (fun ls hl => ?_)
  obtain ⟨e1, he1, hf⟩ := bnd hf
  have hx1_0 : ∀ (y1_0 : Int32), y1_0 = e1 → ∀ (H : Heap) (locs : List Loc) (ls : Array Slot), va_P D vwCl [] H → va_D A [] → va_S A s.heap H locs → lv_has ls 5 [(2, .int y1_0)] → W p l e ({ frames := 0, cells := 0, slots := 0, locals := 0 } : Room) s m args below meth c H locs 0 0 Q (F0 m 21 ls []) := by
    intro y1_0 heq H locs ls hP hD hS hl
    subst heq
    refine lv_iload_n hx hb dX7_common_21 rfl (lv_at hl 0 rfl) ?_
    replace hf := Option.some.inj hf
    subst hf
    exact hret H locs _ ls dX7_common_22 hP hD hS
  refine lpd_ind (P := fun s1 => ∀ (H : Heap) (locs : List Loc) (ls : Array Slot), va_P D vwCl [] H → va_D A [] → va_S A s.heap H locs → lv_has ls 5 [(2, .int s1.1), (3, .int s1.2)] → W p l e ({ frames := 0, cells := 0, slots := 0, locals := 0 } : Room) s m args below meth c H locs 0 0 Q (F0 m 4 ls [])) e1 ?_ _ _ he1 H locs ls hP hD hS (lv_sub hl [1, 0] rfl)
  intro s1 r1 hf ih1 hq1 H locs ls hP hD hS hl
  unfold sX7_common_4 at hf
  refine lv_iload_n hx hb dX7_common_4 rfl (lv_at hl 1 rfl) ?_
  refine lv_if_eq (tgt := 21) hx hb dX7_common_5 (by decide) (fun c2 => ?_) (fun c2 => ?_)
  · replace hf := ite_t c2 hf
    exact hx1_0 _ (hq1 _ (Option.some.inj hf).symm) H locs ls hP hD hS (lv_sub hl [0] rfl)
  · replace hf := ite_f c2 hf
    refine lv_iload_n hx hb dX7_common_8 rfl (lv_at hl 0 rfl) ?_
    refine lv_iload_n hx hb dX7_common_9 rfl (lv_at hl 1 rfl) ?_
    obtain ⟨h3, hf⟩ := ck_t hf
    refine lv_irem hx hb dX7_common_10 h3 ?_
    refine lv_istore (lv' := [(4, .int (s1.1 - s1.1 / s1.2 * s1.2)), (2, .int s1.1), (3, .int s1.2)]) hx hb dX7_common_11 hl (by decide) rfl (fun ls hl => ?_)
    refine lv_iload_n hx hb dX7_common_13 rfl (lv_at hl 2 rfl) ?_
    refine lv_istore_n (lv' := [(2, .int s1.2), (4, .int (s1.1 - s1.1 / s1.2 * s1.2)), (3, .int s1.2)]) hx hb dX7_common_14 rfl hl (by decide) rfl (fun ls hl => ?_)
    refine lv_iload hx hb dX7_common_15 (lv_at hl 1 rfl) ?_
    refine lv_istore_n (lv' := [(3, .int (s1.1 - s1.1 / s1.2 * s1.2)), (2, .int s1.2), (4, .int (s1.1 - s1.1 / s1.2 * s1.2))]) hx hb dX7_common_17 rfl hl (by decide) rfl (fun ls hl => ?_)
    refine lv_goto (tgt := 4) hx hb dX7_common_18 (by decide) ?_
    exact ih1 _ (Option.some.inj hf).symm H locs ls hP hD hS (lv_sub hl [1, 0] rfl)

def fX7_odds (a1 : Int32) (a2 : Int32) (g_dones : Int32) (g_life : Nat → Int32) (g_done : Nat → Int32) (g_selves : Nat → Int32) : Option (Int32 × (Nat → Int32)) :=
  (fX7_isTrial a1 g_life).bind (fun r1 => if (bI r1) = 0 then some ((-1), g_selves) else (fX7_in a2.toInt64 0 1).bind (fun r3 => if (bI r3) = 0 then some ((-1), g_selves) else if inb 1 55 = true then if (g_life (1 : Int32).toNatClampNeg) = 0 then some ((-2), g_selves) else (fX7_innocent a1 g_dones g_life g_done g_selves).bind (fun r7 => (fX7_many r7.1).bind (fun r8 => if inb 1 55 = true then (fX7_common r8 (g_life (1 : Int32).toNatClampNeg)).bind (fun r10 => if a2 = 0 then if ¬ r10 = 0 then some (r8 / r10, r7.2) else none else if inb 1 55 = true then if ¬ r10 = 0 then some ((g_life (1 : Int32).toNatClampNeg) / r10, r7.2) else none else none) else none)) else none))
set_option maxHeartbeats 4000000 in
set_option maxRecDepth 100000 in
theorem ctX7_odds (l : Launch) (D : va_G) (cI cZ cD cH : ClassId) (qg : Nat) (qg_text : Nat) (qg_read : Nat) (qg_life : Nat) (qg_done : Nat) (qg_undone : Nat) (qg_selves : Nat) (qg_when : Nat) (qg_jury : Nat) (qg_years : Nat) (qg_states : Nat) (qg_kept : Nat) (a1 : Int32) (a2 : Int32) (g_size : Int32) (g_at : Int32) (g_begin : Int32) (g_token : Int32) (g_told : Int32) (g_dones : Int32) (g_undos : Int32) (g_seens : Int32) (g_trace : Int64) (g_text : Nat → Int32) (g_read : Nat → Int32) (g_life : Nat → Int32) (g_done : Nat → Int32) (g_undone : Nat → Int32) (g_selves : Nat → Int32) (g_when : Nat → Int32) (g_jury : Nat → Int32) (g_years : Nat → Int32) (g_states : Nat → Int32) (g_kept : Nat → Int32) (o : Int32 × (Nat → Int32)) (hf : fX7_odds a1 a2 g_dones g_life g_done g_selves = some o) : Ct l yX7_odds cX7_odds 5 (some .int) { frames := 7, cells := 0, slots := 0, locals := 163 } D (Tys cI cZ cD cH) [.ref qg, .int a1, .int a2] [(qg, .inr (7, [.ref qg_text, .int g_size, .int g_at, .int g_begin, .int g_token, .int g_told, .ref qg_read, .ref qg_life, .int g_dones, .ref qg_done, .int g_undos, .ref qg_undone, .ref qg_selves, .ref qg_when, .ref qg_jury, .int g_seens, .ref qg_years, .ref qg_states, .long g_trace, .ref qg_kept])), rI cI qg_text 200 g_text, rI cI qg_read 55 g_read, rI cI qg_life 55 g_life, rI cI qg_done 16 g_done, rI cI qg_undone 130 g_undone, rI cI qg_selves 16 g_selves, rI cI qg_when 27 g_when, rI cI qg_jury 16 g_jury, rI cI qg_years 6 g_years, rI cI qg_states 6 g_states, rI cI qg_kept 290 g_kept] [(qg, .inr (7, [.ref qg_text, .int g_size, .int g_at, .int g_begin, .int g_token, .int g_told, .ref qg_read, .ref qg_life, .int g_dones, .ref qg_done, .int g_undos, .ref qg_undone, .ref qg_selves, .ref qg_when, .ref qg_jury, .int g_seens, .ref qg_years, .ref qg_states, .long g_trace, .ref qg_kept])), rI cI qg_text 200 g_text, rI cI qg_read 55 g_read, rI cI qg_life 55 g_life, rI cI qg_done 16 g_done, rI cI qg_undone 130 g_undone, rI cI qg_selves 16 o.2, rI cI qg_when 27 g_when, rI cI qg_jury 16 g_jury, rI cI qg_years 6 g_years, rI cI qg_states 6 g_states, rI cI qg_kept 290 g_kept] (some (.int o.1)) 0 0 := by
  refine mkI (by decide) (Nat.le_of_ble_eq_true rfl) ?_
  intro p e s m args below meth c A Q X hret ls hl H locs hP hD hS
  replace X : Cx p s m args c D (Tys cI cZ cD cH) A cX7_odds RX7 5 := X
  obtain ⟨hx, hb, hml, hown, hts, hK, hZ, hA⟩ := id X
  have hl : lv_has ls 5 [(0, .ref qg), (1, .int a1), (2, .int a2)] := hl
  unfold fX7_odds at hf
  refine lv_aload_n hx hb dX7_odds_0 rfl (lv_at hl 0 rfl) ?_
  refine lv_iload_n hx hb dX7_odds_1 rfl (lv_at hl 1 rfl) ?_
  obtain ⟨r1, hr1, hf⟩ := bnd hf
  refine k_callV X hP hD hS [(qg, .inr (7, [.ref qg_text, .int g_size, .int g_at, .int g_begin, .int g_token, .int g_told, .ref qg_read, .ref qg_life, .int g_dones, .ref qg_done, .int g_undos, .ref qg_undone, .ref qg_selves, .ref qg_when, .ref qg_jury, .int g_seens, .ref qg_years, .ref qg_states, .long g_trace, .ref qg_kept])), rI cI qg_text 200 g_text, rI cI qg_read 55 g_read, rI cI qg_life 55 g_life, rI cI qg_done 16 g_done, rI cI qg_undone 130 g_undone, rI cI qg_selves 16 g_selves, rI cI qg_when 27 g_when, rI cI qg_jury 16 g_jury, rI cI qg_years 6 g_years, rI cI qg_states 6 g_states, rI cI qg_kept 290 g_kept] (ctX7_isTrial l D cI cZ cD cH qg qg_text qg_read qg_life qg_done qg_undone qg_selves qg_when qg_jury qg_years qg_states qg_kept a1 g_size g_at g_begin g_token g_told g_dones g_undos g_seens g_trace g_text g_read g_life g_done g_undone g_selves g_when g_jury g_years g_states g_kept r1 hr1) ml_RX7_142 im_yX7_isTrial se_yX7_isTrial in_RX7 cd_yX7_isTrial rfl rfl hd_yX7_isTrial ⟨by decide, by decide⟩ ⟨Nat.zero_le _, Nat.zero_le _⟩ [0, 1, 2, 3, 4, 5, 6, 7, 8, 9, 10, 11] [some 0, some 1, some 2, some 3, some 4, some 5, some 6, some 7, some 8, some 9, some 10, some 11] rfl (by decide +kernel) rfl (by decide +kernel) rfl rfl (q0 := 0) rfl rfl rfl hl.1 rfl rfl (Nat.le_of_ble_eq_true rfl) rfl dX7_odds_2 (fun H locs hP hD hS => ?_)
  refine lv_if_eq (tgt := 18) hx hb dX7_odds_5 (by decide) (fun c2 => ?_) (fun c2 => ?_)
  · replace hf := ite_t c2 hf
    refine lv_iconst (v := (-1)) hx hb dX7_odds_18 (by decide) ?_
    replace hf := Option.some.inj hf
    subst hf
    exact hret H locs _ ls dX7_odds_19 hP hD hS
  · replace hf := ite_f c2 hf
    refine lv_iload_n hx hb dX7_odds_8 rfl (lv_at hl 2 rfl) ?_
    refine lv_i2l (v := a2.toInt64) hx hb dX7_odds_9 rfl ?_
    refine lv_lconst (v := 0) hx hb dX7_odds_10 (by decide) ?_
    refine lv_lconst (v := 1) hx hb dX7_odds_11 (by decide) ?_
    obtain ⟨r3, hr3, hf⟩ := bnd hf
    refine k_callS X hP hD hS [(qg, .inr (7, [.ref qg_text, .int g_size, .int g_at, .int g_begin, .int g_token, .int g_told, .ref qg_read, .ref qg_life, .int g_dones, .ref qg_done, .int g_undos, .ref qg_undone, .ref qg_selves, .ref qg_when, .ref qg_jury, .int g_seens, .ref qg_years, .ref qg_states, .long g_trace, .ref qg_kept])), rI cI qg_text 200 g_text, rI cI qg_read 55 g_read, rI cI qg_life 55 g_life, rI cI qg_done 16 g_done, rI cI qg_undone 130 g_undone, rI cI qg_selves 16 g_selves, rI cI qg_when 27 g_when, rI cI qg_jury 16 g_jury, rI cI qg_years 6 g_years, rI cI qg_states 6 g_states, rI cI qg_kept 290 g_kept] (ctX7_in l D cI cZ cD cH a2.toInt64 0 1 r3 hr3) ml_RX7_51 sm_yX7_in in_RX7 cd_yX7_in rfl rfl hd_yX7_in ⟨by decide, by decide⟩ ⟨Nat.zero_le _, Nat.zero_le _⟩ [] [none, none, none, none, none, none, none, none, none, none, none, none] rfl (by decide +kernel) rfl (by decide +kernel) rfl rfl hl.1 rfl rfl (Nat.le_of_ble_eq_true rfl) rfl dX7_odds_12 (fun H locs hP hD hS => ?_)
    refine lv_if_ne (tgt := 20) hx hb dX7_odds_15 (by decide) (fun c4 => ?_) (fun c4 => ?_)
    · replace hf := ite_f c4 hf
      refine lv_aload_n hx hb dX7_odds_20 rfl (lv_at hl 0 rfl) ?_
      refine k_get X hP 0 rfl rfl inX7 7 (by decide) fl_RX7_16 rfl rfl dX7_odds_21 ?_
      refine lv_iconst (v := 1) hx hb dX7_odds_24 (by decide) ?_
      obtain ⟨h5, hf⟩ := ck_t hf
      refine k_iald X hP 3 0 rfl rfl h5 dX7_odds_25 ?_
      refine lv_if_ne (tgt := 32) hx hb dX7_odds_26 (by decide) (fun c6 => ?_) (fun c6 => ?_)
      · replace hf := ite_f c6 hf
        refine lv_aload_n hx hb dX7_odds_32 rfl (lv_at hl 0 rfl) ?_
        refine lv_iload_n hx hb dX7_odds_33 rfl (lv_at hl 1 rfl) ?_
        obtain ⟨r7, hr7, hf⟩ := bnd hf
        refine k_callV X hP hD hS [(qg, .inr (7, [.ref qg_text, .int g_size, .int g_at, .int g_begin, .int g_token, .int g_told, .ref qg_read, .ref qg_life, .int g_dones, .ref qg_done, .int g_undos, .ref qg_undone, .ref qg_selves, .ref qg_when, .ref qg_jury, .int g_seens, .ref qg_years, .ref qg_states, .long g_trace, .ref qg_kept])), rI cI qg_text 200 g_text, rI cI qg_read 55 g_read, rI cI qg_life 55 g_life, rI cI qg_done 16 g_done, rI cI qg_undone 130 g_undone, rI cI qg_selves 16 r7.2, rI cI qg_when 27 g_when, rI cI qg_jury 16 g_jury, rI cI qg_years 6 g_years, rI cI qg_states 6 g_states, rI cI qg_kept 290 g_kept] (ctX7_innocent l D cI cZ cD cH qg qg_text qg_read qg_life qg_done qg_undone qg_selves qg_when qg_jury qg_years qg_states qg_kept a1 g_size g_at g_begin g_token g_told g_dones g_undos g_seens g_trace g_text g_read g_life g_done g_undone g_selves g_when g_jury g_years g_states g_kept r7 hr7) ml_RX7_192 im_yX7_innocent se_yX7_innocent in_RX7 cd_yX7_innocent rfl rfl hd_yX7_innocent ⟨by decide, by decide⟩ ⟨Nat.zero_le _, Nat.zero_le _⟩ [0, 1, 2, 3, 4, 5, 6, 7, 8, 9, 10, 11] [some 0, some 1, some 2, some 3, some 4, some 5, some 6, some 7, some 8, some 9, some 10, some 11] rfl (by decide +kernel) rfl (by decide +kernel) rfl rfl (q0 := 0) rfl rfl rfl hl.1 rfl rfl (Nat.le_of_ble_eq_true rfl) rfl dX7_odds_34 (fun H locs hP hD hS => ?_)
        obtain ⟨r8, hr8, hf⟩ := bnd hf
        refine k_callS X hP hD hS [(qg, .inr (7, [.ref qg_text, .int g_size, .int g_at, .int g_begin, .int g_token, .int g_told, .ref qg_read, .ref qg_life, .int g_dones, .ref qg_done, .int g_undos, .ref qg_undone, .ref qg_selves, .ref qg_when, .ref qg_jury, .int g_seens, .ref qg_years, .ref qg_states, .long g_trace, .ref qg_kept])), rI cI qg_text 200 g_text, rI cI qg_read 55 g_read, rI cI qg_life 55 g_life, rI cI qg_done 16 g_done, rI cI qg_undone 130 g_undone, rI cI qg_selves 16 r7.2, rI cI qg_when 27 g_when, rI cI qg_jury 16 g_jury, rI cI qg_years 6 g_years, rI cI qg_states 6 g_states, rI cI qg_kept 290 g_kept] (ctX7_many l D cI cZ cD cH r7.1 r8 hr8) ml_RX7_195 sm_yX7_many in_RX7 cd_yX7_many rfl rfl hd_yX7_many ⟨by decide, by decide⟩ ⟨Nat.zero_le _, Nat.zero_le _⟩ [] [none, none, none, none, none, none, none, none, none, none, none, none] rfl (by decide +kernel) rfl (by decide +kernel) rfl rfl hl.1 rfl rfl (Nat.le_of_ble_eq_true rfl) rfl dX7_odds_37 (fun H locs hP hD hS => ?_)
        refine lv_istore_n (lv' := [(3, .int r8), (0, .ref qg), (1, .int a1), (2, .int a2)]) hx hb dX7_odds_40 rfl hl (by decide) rfl (fun ls hl => ?_)
        refine lv_iload_n hx hb dX7_odds_41 rfl (lv_at hl 0 rfl) ?_
        refine lv_aload_n hx hb dX7_odds_42 rfl (lv_at hl 1 rfl) ?_
        refine k_get X hP 0 rfl rfl inX7 7 (by decide) fl_RX7_16 rfl rfl dX7_odds_43 ?_
        refine lv_iconst (v := 1) hx hb dX7_odds_46 (by decide) ?_
        obtain ⟨h9, hf⟩ := ck_t hf
        refine k_iald X hP 3 0 rfl rfl h9 dX7_odds_47 ?_
        obtain ⟨r10, hr10, hf⟩ := bnd hf
        refine k_callS X hP hD hS [(qg, .inr (7, [.ref qg_text, .int g_size, .int g_at, .int g_begin, .int g_token, .int g_told, .ref qg_read, .ref qg_life, .int g_dones, .ref qg_done, .int g_undos, .ref qg_undone, .ref qg_selves, .ref qg_when, .ref qg_jury, .int g_seens, .ref qg_years, .ref qg_states, .long g_trace, .ref qg_kept])), rI cI qg_text 200 g_text, rI cI qg_read 55 g_read, rI cI qg_life 55 g_life, rI cI qg_done 16 g_done, rI cI qg_undone 130 g_undone, rI cI qg_selves 16 r7.2, rI cI qg_when 27 g_when, rI cI qg_jury 16 g_jury, rI cI qg_years 6 g_years, rI cI qg_states 6 g_states, rI cI qg_kept 290 g_kept] (ctX7_common l D cI cZ cD cH r8 (g_life (1 : Int32).toNatClampNeg) r10 hr10) ml_RX7_198 sm_yX7_common in_RX7 cd_yX7_common rfl rfl hd_yX7_common ⟨by decide, by decide⟩ ⟨Nat.zero_le _, Nat.zero_le _⟩ [] [none, none, none, none, none, none, none, none, none, none, none, none] rfl (by decide +kernel) rfl (by decide +kernel) rfl rfl hl.1 rfl rfl (Nat.le_of_ble_eq_true rfl) rfl dX7_odds_48 (fun H locs hP hD hS => ?_)
        refine lv_istore (lv' := [(4, .int r10), (3, .int r8), (0, .ref qg), (1, .int a1), (2, .int a2)]) hx hb dX7_odds_51 hl (by decide) rfl (fun ls hl => ?_)
        refine lv_iload_n hx hb dX7_odds_53 rfl (lv_at hl 4 rfl) ?_
        refine lv_if_ne (tgt := 64) hx hb dX7_odds_54 (by decide) (fun c11 => ?_) (fun c11 => ?_)
        · replace hf := ite_f c11 hf
          refine lv_aload_n hx hb dX7_odds_64 rfl (lv_at hl 2 rfl) ?_
          refine k_get X hP 0 rfl rfl inX7 7 (by decide) fl_RX7_16 rfl rfl dX7_odds_65 ?_
          refine lv_iconst (v := 1) hx hb dX7_odds_68 (by decide) ?_
          obtain ⟨h12, hf⟩ := ck_t hf
          refine k_iald X hP 3 0 rfl rfl h12 dX7_odds_69 ?_
          refine lv_iload hx hb dX7_odds_70 (lv_at hl 0 rfl) ?_
          obtain ⟨h13, hf⟩ := ck_t hf
          refine lv_idiv hx hb dX7_odds_72 h13 ?_
          replace hf := Option.some.inj hf
          subst hf
          exact hret H locs _ ls dX7_odds_73 hP hD hS
        · replace hf := ite_t c11 hf
          refine lv_iload_n hx hb dX7_odds_57 rfl (lv_at hl 1 rfl) ?_
          refine lv_iload hx hb dX7_odds_58 (lv_at hl 0 rfl) ?_
          obtain ⟨h14, hf⟩ := ck_t hf
          refine lv_idiv hx hb dX7_odds_60 h14 ?_
          refine lv_goto (tgt := 73) hx hb dX7_odds_61 (by decide) ?_
          replace hf := Option.some.inj hf
          subst hf
          exact hret H locs _ ls dX7_odds_73 hP hD hS
      · replace hf := ite_t c6 hf
        refine lv_bipush (v := (-2)) hx hb dX7_odds_29 (by decide) ?_
        replace hf := Option.some.inj hf
        subst hf
        exact hret H locs _ ls dX7_odds_31 hP hD hS
    · replace hf := ite_t c4 hf
      refine lv_iconst (v := (-1)) hx hb dX7_odds_18 (by decide) ?_
      replace hf := Option.some.inj hf
      subst hf
      exact hret H locs _ ls dX7_odds_19 hP hD hS

def fX7_saw (a1 : Int32) (a2 : Int32) (g_seens : Int32) (g_life : Nat → Int32) (g_years : Nat → Int32) (g_states : Nat → Int32) : Option (Int32 × Int32 × (Nat → Int32) × (Nat → Int32)) :=
  (fX7_isYear a1 g_life).bind (fun r1 => if (bI r1) = 0 then some ((-1), g_seens, g_years, g_states) else (fX7_isState a2 g_life).bind (fun r3 => if (bI r3) = 0 then some ((-1), g_seens, g_years, g_states) else if g_seens = 6 then some ((-3), g_seens, g_years, g_states) else if inb g_seens 6 = true then if inb g_seens 6 = true then some (g_seens + 1, g_seens + 1, upd g_years g_seens.toNatClampNeg a1, upd g_states g_seens.toNatClampNeg a2) else none else none))
set_option maxHeartbeats 4000000 in
set_option maxRecDepth 100000 in
theorem ctX7_saw (l : Launch) (D : va_G) (cI cZ cD cH : ClassId) (qg : Nat) (qg_text : Nat) (qg_read : Nat) (qg_life : Nat) (qg_done : Nat) (qg_undone : Nat) (qg_selves : Nat) (qg_when : Nat) (qg_jury : Nat) (qg_years : Nat) (qg_states : Nat) (qg_kept : Nat) (a1 : Int32) (a2 : Int32) (g_size : Int32) (g_at : Int32) (g_begin : Int32) (g_token : Int32) (g_told : Int32) (g_dones : Int32) (g_undos : Int32) (g_seens : Int32) (g_trace : Int64) (g_text : Nat → Int32) (g_read : Nat → Int32) (g_life : Nat → Int32) (g_done : Nat → Int32) (g_undone : Nat → Int32) (g_selves : Nat → Int32) (g_when : Nat → Int32) (g_jury : Nat → Int32) (g_years : Nat → Int32) (g_states : Nat → Int32) (g_kept : Nat → Int32) (o : Int32 × Int32 × (Nat → Int32) × (Nat → Int32)) (hf : fX7_saw a1 a2 g_seens g_life g_years g_states = some o) : Ct l yX7_saw cX7_saw 3 (some .int) { frames := 2, cells := 0, slots := 0, locals := 46 } D (Tys cI cZ cD cH) [.ref qg, .int a1, .int a2] [(qg, .inr (7, [.ref qg_text, .int g_size, .int g_at, .int g_begin, .int g_token, .int g_told, .ref qg_read, .ref qg_life, .int g_dones, .ref qg_done, .int g_undos, .ref qg_undone, .ref qg_selves, .ref qg_when, .ref qg_jury, .int g_seens, .ref qg_years, .ref qg_states, .long g_trace, .ref qg_kept])), rI cI qg_text 200 g_text, rI cI qg_read 55 g_read, rI cI qg_life 55 g_life, rI cI qg_done 16 g_done, rI cI qg_undone 130 g_undone, rI cI qg_selves 16 g_selves, rI cI qg_when 27 g_when, rI cI qg_jury 16 g_jury, rI cI qg_years 6 g_years, rI cI qg_states 6 g_states, rI cI qg_kept 290 g_kept] [(qg, .inr (7, [.ref qg_text, .int g_size, .int g_at, .int g_begin, .int g_token, .int g_told, .ref qg_read, .ref qg_life, .int g_dones, .ref qg_done, .int g_undos, .ref qg_undone, .ref qg_selves, .ref qg_when, .ref qg_jury, .int o.2.1, .ref qg_years, .ref qg_states, .long g_trace, .ref qg_kept])), rI cI qg_text 200 g_text, rI cI qg_read 55 g_read, rI cI qg_life 55 g_life, rI cI qg_done 16 g_done, rI cI qg_undone 130 g_undone, rI cI qg_selves 16 g_selves, rI cI qg_when 27 g_when, rI cI qg_jury 16 g_jury, rI cI qg_years 6 o.2.2.1, rI cI qg_states 6 o.2.2.2, rI cI qg_kept 290 g_kept] (some (.int o.1)) 0 0 := by
  refine mkI (by decide) (Nat.le_of_ble_eq_true rfl) ?_
  intro p e s m args below meth c A Q X hret ls hl H locs hP hD hS
  replace X : Cx p s m args c D (Tys cI cZ cD cH) A cX7_saw RX7 3 := X
  obtain ⟨hx, hb, hml, hown, hts, hK, hZ, hA⟩ := id X
  have hl : lv_has ls 3 [(0, .ref qg), (1, .int a1), (2, .int a2)] := hl
  unfold fX7_saw at hf
  refine lv_aload_n hx hb dX7_saw_0 rfl (lv_at hl 0 rfl) ?_
  refine lv_iload_n hx hb dX7_saw_1 rfl (lv_at hl 1 rfl) ?_
  obtain ⟨r1, hr1, hf⟩ := bnd hf
  refine k_callV X hP hD hS [(qg, .inr (7, [.ref qg_text, .int g_size, .int g_at, .int g_begin, .int g_token, .int g_told, .ref qg_read, .ref qg_life, .int g_dones, .ref qg_done, .int g_undos, .ref qg_undone, .ref qg_selves, .ref qg_when, .ref qg_jury, .int g_seens, .ref qg_years, .ref qg_states, .long g_trace, .ref qg_kept])), rI cI qg_text 200 g_text, rI cI qg_read 55 g_read, rI cI qg_life 55 g_life, rI cI qg_done 16 g_done, rI cI qg_undone 130 g_undone, rI cI qg_selves 16 g_selves, rI cI qg_when 27 g_when, rI cI qg_jury 16 g_jury, rI cI qg_years 6 g_years, rI cI qg_states 6 g_states, rI cI qg_kept 290 g_kept] (ctX7_isYear l D cI cZ cD cH qg qg_text qg_read qg_life qg_done qg_undone qg_selves qg_when qg_jury qg_years qg_states qg_kept a1 g_size g_at g_begin g_token g_told g_dones g_undos g_seens g_trace g_text g_read g_life g_done g_undone g_selves g_when g_jury g_years g_states g_kept r1 hr1) ml_RX7_147 im_yX7_isYear se_yX7_isYear in_RX7 cd_yX7_isYear rfl rfl hd_yX7_isYear ⟨by decide, by decide⟩ ⟨Nat.zero_le _, Nat.zero_le _⟩ [0, 1, 2, 3, 4, 5, 6, 7, 8, 9, 10, 11] [some 0, some 1, some 2, some 3, some 4, some 5, some 6, some 7, some 8, some 9, some 10, some 11] rfl (by decide +kernel) rfl (by decide +kernel) rfl rfl (q0 := 0) rfl rfl rfl hl.1 rfl rfl (Nat.le_of_ble_eq_true rfl) rfl dX7_saw_2 (fun H locs hP hD hS => ?_)
  refine lv_if_eq (tgt := 16) hx hb dX7_saw_5 (by decide) (fun c2 => ?_) (fun c2 => ?_)
  · replace hf := ite_t c2 hf
    refine lv_iconst (v := (-1)) hx hb dX7_saw_16 (by decide) ?_
    replace hf := Option.some.inj hf
    subst hf
    exact hret H locs _ ls dX7_saw_17 hP hD hS
  · replace hf := ite_f c2 hf
    refine lv_aload_n hx hb dX7_saw_8 rfl (lv_at hl 0 rfl) ?_
    refine lv_iload_n hx hb dX7_saw_9 rfl (lv_at hl 2 rfl) ?_
    obtain ⟨r3, hr3, hf⟩ := bnd hf
    refine k_callV X hP hD hS [(qg, .inr (7, [.ref qg_text, .int g_size, .int g_at, .int g_begin, .int g_token, .int g_told, .ref qg_read, .ref qg_life, .int g_dones, .ref qg_done, .int g_undos, .ref qg_undone, .ref qg_selves, .ref qg_when, .ref qg_jury, .int g_seens, .ref qg_years, .ref qg_states, .long g_trace, .ref qg_kept])), rI cI qg_text 200 g_text, rI cI qg_read 55 g_read, rI cI qg_life 55 g_life, rI cI qg_done 16 g_done, rI cI qg_undone 130 g_undone, rI cI qg_selves 16 g_selves, rI cI qg_when 27 g_when, rI cI qg_jury 16 g_jury, rI cI qg_years 6 g_years, rI cI qg_states 6 g_states, rI cI qg_kept 290 g_kept] (ctX7_isState l D cI cZ cD cH qg qg_text qg_read qg_life qg_done qg_undone qg_selves qg_when qg_jury qg_years qg_states qg_kept a2 g_size g_at g_begin g_token g_told g_dones g_undos g_seens g_trace g_text g_read g_life g_done g_undone g_selves g_when g_jury g_years g_states g_kept r3 hr3) ml_RX7_132 im_yX7_isState se_yX7_isState in_RX7 cd_yX7_isState rfl rfl hd_yX7_isState ⟨by decide, by decide⟩ ⟨Nat.zero_le _, Nat.zero_le _⟩ [0, 1, 2, 3, 4, 5, 6, 7, 8, 9, 10, 11] [some 0, some 1, some 2, some 3, some 4, some 5, some 6, some 7, some 8, some 9, some 10, some 11] rfl (by decide +kernel) rfl (by decide +kernel) rfl rfl (q0 := 0) rfl rfl rfl hl.1 rfl rfl (Nat.le_of_ble_eq_true rfl) rfl dX7_saw_10 (fun H locs hP hD hS => ?_)
    refine lv_if_ne (tgt := 18) hx hb dX7_saw_13 (by decide) (fun c4 => ?_) (fun c4 => ?_)
    · replace hf := ite_f c4 hf
      refine lv_aload_n hx hb dX7_saw_18 rfl (lv_at hl 0 rfl) ?_
      refine k_get X hP 0 rfl rfl inX7 15 (by decide) fl_RX7_125 rfl rfl dX7_saw_19 ?_
      refine lv_bipush (v := 6) hx hb dX7_saw_22 (by decide) ?_
      refine lv_icmp_ne (tgt := 30) hx hb dX7_saw_24 (by decide) (fun c5 => ?_) (fun c5 => ?_)
      · replace hf := ite_f c5 hf
        refine lv_aload_n hx hb dX7_saw_30 rfl (lv_at hl 0 rfl) ?_
        refine k_get X hP 0 rfl rfl inX7 16 (by decide) fl_RX7_34 rfl rfl dX7_saw_31 ?_
        refine lv_aload_n hx hb dX7_saw_34 rfl (lv_at hl 0 rfl) ?_
        refine k_get X hP 0 rfl rfl inX7 15 (by decide) fl_RX7_125 rfl rfl dX7_saw_35 ?_
        refine lv_iload_n hx hb dX7_saw_38 rfl (lv_at hl 1 rfl) ?_
        obtain ⟨h6, hf⟩ := ck_t hf
        refine k_iast X hP hD hS [(qg, .inr (7, [.ref qg_text, .int g_size, .int g_at, .int g_begin, .int g_token, .int g_told, .ref qg_read, .ref qg_life, .int g_dones, .ref qg_done, .int g_undos, .ref qg_undone, .ref qg_selves, .ref qg_when, .ref qg_jury, .int g_seens, .ref qg_years, .ref qg_states, .long g_trace, .ref qg_kept])), rI cI qg_text 200 g_text, rI cI qg_read 55 g_read, rI cI qg_life 55 g_life, rI cI qg_done 16 g_done, rI cI qg_undone 130 g_undone, rI cI qg_selves 16 g_selves, rI cI qg_when 27 g_when, rI cI qg_jury 16 g_jury, rI cI qg_years 6 (upd g_years g_seens.toNatClampNeg a1), rI cI qg_states 6 g_states, rI cI qg_kept 290 g_kept] 9 0 rfl rfl h6 rfl dX7_saw_39 (fun H locs hP hD hS => ?_)
        refine lv_aload_n hx hb dX7_saw_40 rfl (lv_at hl 0 rfl) ?_
        refine k_get X hP 0 rfl rfl inX7 17 (by decide) fl_RX7_37 rfl rfl dX7_saw_41 ?_
        refine lv_aload_n hx hb dX7_saw_44 rfl (lv_at hl 0 rfl) ?_
        refine k_get X hP 0 rfl rfl inX7 15 (by decide) fl_RX7_125 rfl rfl dX7_saw_45 ?_
        refine lv_iload_n hx hb dX7_saw_48 rfl (lv_at hl 2 rfl) ?_
        obtain ⟨h7, hf⟩ := ck_t hf
        refine k_iast X hP hD hS [(qg, .inr (7, [.ref qg_text, .int g_size, .int g_at, .int g_begin, .int g_token, .int g_told, .ref qg_read, .ref qg_life, .int g_dones, .ref qg_done, .int g_undos, .ref qg_undone, .ref qg_selves, .ref qg_when, .ref qg_jury, .int g_seens, .ref qg_years, .ref qg_states, .long g_trace, .ref qg_kept])), rI cI qg_text 200 g_text, rI cI qg_read 55 g_read, rI cI qg_life 55 g_life, rI cI qg_done 16 g_done, rI cI qg_undone 130 g_undone, rI cI qg_selves 16 g_selves, rI cI qg_when 27 g_when, rI cI qg_jury 16 g_jury, rI cI qg_years 6 (upd g_years g_seens.toNatClampNeg a1), rI cI qg_states 6 (upd g_states g_seens.toNatClampNeg a2), rI cI qg_kept 290 g_kept] 10 0 rfl rfl h7 rfl dX7_saw_49 (fun H locs hP hD hS => ?_)
        refine lv_aload_n hx hb dX7_saw_50 rfl (lv_at hl 0 rfl) ?_
        refine lv_dup hx hb dX7_saw_51 rfl ?_
        refine k_get X hP 0 rfl rfl inX7 15 (by decide) fl_RX7_125 rfl rfl dX7_saw_52 ?_
        refine lv_iconst (v := 1) hx hb dX7_saw_55 (by decide) ?_
        refine lv_iadd hx hb dX7_saw_56 ?_
        refine k_put X hP hD hS [(qg, .inr (7, [.ref qg_text, .int g_size, .int g_at, .int g_begin, .int g_token, .int g_told, .ref qg_read, .ref qg_life, .int g_dones, .ref qg_done, .int g_undos, .ref qg_undone, .ref qg_selves, .ref qg_when, .ref qg_jury, .int (g_seens + 1), .ref qg_years, .ref qg_states, .long g_trace, .ref qg_kept])), rI cI qg_text 200 g_text, rI cI qg_read 55 g_read, rI cI qg_life 55 g_life, rI cI qg_done 16 g_done, rI cI qg_undone 130 g_undone, rI cI qg_selves 16 g_selves, rI cI qg_when 27 g_when, rI cI qg_jury 16 g_jury, rI cI qg_years 6 (upd g_years g_seens.toNatClampNeg a1), rI cI qg_states 6 (upd g_states g_seens.toNatClampNeg a2), rI cI qg_kept 290 g_kept] 0 rfl rfl inX7 tyX7_ok nmX7 15 (by decide) fl_RX7_125 rfl rfl rfl rfl (Nat.le_of_ble_eq_true rfl) rfl dX7_saw_57 (fun H locs hP hD hS => ?_)
        refine lv_aload_n hx hb dX7_saw_60 rfl (lv_at hl 0 rfl) ?_
        refine k_get X hP 0 rfl rfl inX7 15 (by decide) fl_RX7_125 rfl rfl dX7_saw_61 ?_
        replace hf := Option.some.inj hf
        subst hf
        exact hret H locs _ ls dX7_saw_64 hP hD hS
      · replace hf := ite_t c5 hf
        refine lv_bipush (v := (-3)) hx hb dX7_saw_27 (by decide) ?_
        replace hf := Option.some.inj hf
        subst hf
        exact hret H locs _ ls dX7_saw_29 hP hD hS
    · replace hf := ite_t c4 hf
      refine lv_iconst (v := (-1)) hx hb dX7_saw_16 (by decide) ?_
      replace hf := Option.some.inj hf
      subst hf
      exact hret H locs _ ls dX7_saw_17 hP hD hS

def fX7_forget (g_seens : Int32) : Option (Int32 × Int32) :=
  some (g_seens, 0)
set_option maxHeartbeats 4000000 in
set_option maxRecDepth 100000 in
theorem ctX7_forget (l : Launch) (D : va_G) (cI cZ cD cH : ClassId) (qg : Nat) (qg_text : Nat) (qg_read : Nat) (qg_life : Nat) (qg_done : Nat) (qg_undone : Nat) (qg_selves : Nat) (qg_when : Nat) (qg_jury : Nat) (qg_years : Nat) (qg_states : Nat) (qg_kept : Nat) (g_size : Int32) (g_at : Int32) (g_begin : Int32) (g_token : Int32) (g_told : Int32) (g_dones : Int32) (g_undos : Int32) (g_seens : Int32) (g_trace : Int64) (g_text : Nat → Int32) (g_read : Nat → Int32) (g_life : Nat → Int32) (g_done : Nat → Int32) (g_undone : Nat → Int32) (g_selves : Nat → Int32) (g_when : Nat → Int32) (g_jury : Nat → Int32) (g_years : Nat → Int32) (g_states : Nat → Int32) (g_kept : Nat → Int32) (o : Int32 × Int32) (hf : fX7_forget g_seens = some o) : Ct l yX7_forget cX7_forget 2 (some .int) { frames := 0, cells := 0, slots := 0, locals := 0 } D (Tys cI cZ cD cH) [.ref qg] [(qg, .inr (7, [.ref qg_text, .int g_size, .int g_at, .int g_begin, .int g_token, .int g_told, .ref qg_read, .ref qg_life, .int g_dones, .ref qg_done, .int g_undos, .ref qg_undone, .ref qg_selves, .ref qg_when, .ref qg_jury, .int g_seens, .ref qg_years, .ref qg_states, .long g_trace, .ref qg_kept])), rI cI qg_text 200 g_text, rI cI qg_read 55 g_read, rI cI qg_life 55 g_life, rI cI qg_done 16 g_done, rI cI qg_undone 130 g_undone, rI cI qg_selves 16 g_selves, rI cI qg_when 27 g_when, rI cI qg_jury 16 g_jury, rI cI qg_years 6 g_years, rI cI qg_states 6 g_states, rI cI qg_kept 290 g_kept] [(qg, .inr (7, [.ref qg_text, .int g_size, .int g_at, .int g_begin, .int g_token, .int g_told, .ref qg_read, .ref qg_life, .int g_dones, .ref qg_done, .int g_undos, .ref qg_undone, .ref qg_selves, .ref qg_when, .ref qg_jury, .int o.2, .ref qg_years, .ref qg_states, .long g_trace, .ref qg_kept])), rI cI qg_text 200 g_text, rI cI qg_read 55 g_read, rI cI qg_life 55 g_life, rI cI qg_done 16 g_done, rI cI qg_undone 130 g_undone, rI cI qg_selves 16 g_selves, rI cI qg_when 27 g_when, rI cI qg_jury 16 g_jury, rI cI qg_years 6 g_years, rI cI qg_states 6 g_states, rI cI qg_kept 290 g_kept] (some (.int o.1)) 0 0 := by
  refine mkI (by decide) (Nat.le_of_ble_eq_true rfl) ?_
  intro p e s m args below meth c A Q X hret ls hl H locs hP hD hS
  replace X : Cx p s m args c D (Tys cI cZ cD cH) A cX7_forget RX7 2 := X
  obtain ⟨hx, hb, hml, hown, hts, hK, hZ, hA⟩ := id X
  have hl : lv_has ls 2 [(0, .ref qg)] := hl
  unfold fX7_forget at hf
  refine lv_aload_n hx hb dX7_forget_0 rfl (lv_at hl 0 rfl) ?_
  refine k_get X hP 0 rfl rfl inX7 15 (by decide) fl_RX7_125 rfl rfl dX7_forget_1 ?_
  refine lv_istore_n (lv' := [(1, .int g_seens), (0, .ref qg)]) hx hb dX7_forget_4 rfl hl (by decide) rfl (fun ls hl => ?_)
  refine lv_aload_n hx hb dX7_forget_5 rfl (lv_at hl 1 rfl) ?_
  refine lv_iconst (v := 0) hx hb dX7_forget_6 (by decide) ?_
  refine k_put X hP hD hS [(qg, .inr (7, [.ref qg_text, .int g_size, .int g_at, .int g_begin, .int g_token, .int g_told, .ref qg_read, .ref qg_life, .int g_dones, .ref qg_done, .int g_undos, .ref qg_undone, .ref qg_selves, .ref qg_when, .ref qg_jury, .int 0, .ref qg_years, .ref qg_states, .long g_trace, .ref qg_kept])), rI cI qg_text 200 g_text, rI cI qg_read 55 g_read, rI cI qg_life 55 g_life, rI cI qg_done 16 g_done, rI cI qg_undone 130 g_undone, rI cI qg_selves 16 g_selves, rI cI qg_when 27 g_when, rI cI qg_jury 16 g_jury, rI cI qg_years 6 g_years, rI cI qg_states 6 g_states, rI cI qg_kept 290 g_kept] 0 rfl rfl inX7 tyX7_ok nmX7 15 (by decide) fl_RX7_125 rfl rfl rfl rfl (Nat.le_of_ble_eq_true rfl) rfl dX7_forget_7 (fun H locs hP hD hS => ?_)
  refine lv_iload_n hx hb dX7_forget_10 rfl (lv_at hl 0 rfl) ?_
  replace hf := Option.some.inj hf
  subst hf
  exact hret H locs _ ls dX7_forget_11 hP hD hS

def sX7_fits_41 (g_seens : Int32) (g_selves : Nat → Int32) (g_years : Nat → Int32) (g_states : Nat → Int32) (v4 : Int32) (v5 : Int32) : Option ((Int32 × Int32) ⊕ ((Int32))) :=
  if g_seens ≤ v5 then some (.inr v4) else if v4 = 0 then some (.inl (0, v5 + 1)) else if inb v5 6 = true then if inb (g_years v5.toNatClampNeg) 16 = true then if inb v5 6 = true then if (g_selves (g_years v5.toNatClampNeg).toNatClampNeg) = (g_states v5.toNatClampNeg) then some (.inl (1, v5 + 1)) else some (.inl (0, v5 + 1)) else none else none else none
def sX7_fits_16 (v2 : Int32) (g_dones : Int32) (g_seens : Int32) (g_life : Nat → Int32) (g_done : Nat → Int32) (g_years : Nat → Int32) (g_states : Nat → Int32) (v1 : Int32) (v3 : Int32) (g_selves : Nat → Int32) : Option ((Int32 × Int32 × (Nat → Int32)) ⊕ ((Int32 × (Nat → Int32)))) :=
  (fX7_rows g_life).bind (fun r4 => if r4 ≤ v3 then some (.inr (v1, g_selves)) else if inb 4 55 = true then (fX7_isLife v3 v2 (g_life (4 : Int32).toNatClampNeg) g_dones g_life g_done g_selves).bind (fun r7 => (lpd (fun s8 => sX7_fits_41 g_seens r7.2 g_years g_states s8.1 s8.2) FU (bI r7.1, 0)).bind (fun (y8_0 : Int32) => if y8_0 = 0 then some (.inl (v1 ||| 0, v3 + 1, r7.2)) else some (.inl (v1 ||| (1 <<< (v2 &&& 31)), v3 + 1, r7.2)))) else none)
def sX7_fits_4 (g_dones : Int32) (g_seens : Int32) (g_life : Nat → Int32) (g_done : Nat → Int32) (g_years : Nat → Int32) (g_states : Nat → Int32) (v1 : Int32) (v2 : Int32) (g_selves : Nat → Int32) : Option ((Int32 × Int32 × (Nat → Int32)) ⊕ ((Int32 × (Nat → Int32)))) :=
  if inb 1 55 = true then if (g_life (1 : Int32).toNatClampNeg) ≤ v2 then some (.inr (v1, g_selves)) else (lpd (fun s4 => sX7_fits_16 v2 g_dones g_seens g_life g_done g_years g_states s4.1 s4.2.1 s4.2.2) FU (v1, 0, g_selves)).bind (fun (y4_0 : Int32 × (Nat → Int32)) => some (.inl (y4_0.1, v2 + 1, y4_0.2))) else none
def fX7_fits (g_dones : Int32) (g_seens : Int32) (g_life : Nat → Int32) (g_done : Nat → Int32) (g_selves : Nat → Int32) (g_years : Nat → Int32) (g_states : Nat → Int32) : Option (Int32 × (Nat → Int32)) :=
  (lpd (fun s1 => sX7_fits_4 g_dones g_seens g_life g_done g_years g_states s1.1 s1.2.1 s1.2.2) FU (0, 0, g_selves)).bind (fun (y1_0 : Int32 × (Nat → Int32)) => some (y1_0.1, y1_0.2))
set_option maxHeartbeats 4000000 in
set_option maxRecDepth 100000 in
theorem ctX7_fits (l : Launch) (D : va_G) (cI cZ cD cH : ClassId) (qg : Nat) (qg_text : Nat) (qg_read : Nat) (qg_life : Nat) (qg_done : Nat) (qg_undone : Nat) (qg_selves : Nat) (qg_when : Nat) (qg_jury : Nat) (qg_years : Nat) (qg_states : Nat) (qg_kept : Nat) (g_size : Int32) (g_at : Int32) (g_begin : Int32) (g_token : Int32) (g_told : Int32) (g_dones : Int32) (g_undos : Int32) (g_seens : Int32) (g_trace : Int64) (g_text : Nat → Int32) (g_read : Nat → Int32) (g_life : Nat → Int32) (g_done : Nat → Int32) (g_undone : Nat → Int32) (g_selves : Nat → Int32) (g_when : Nat → Int32) (g_jury : Nat → Int32) (g_years : Nat → Int32) (g_states : Nat → Int32) (g_kept : Nat → Int32) (o : Int32 × (Nat → Int32)) (hf : fX7_fits g_dones g_seens g_life g_done g_selves g_years g_states = some o) : Ct l yX7_fits cX7_fits 6 (some .int) { frames := 5, cells := 0, slots := 0, locals := 115 } D (Tys cI cZ cD cH) [.ref qg] [(qg, .inr (7, [.ref qg_text, .int g_size, .int g_at, .int g_begin, .int g_token, .int g_told, .ref qg_read, .ref qg_life, .int g_dones, .ref qg_done, .int g_undos, .ref qg_undone, .ref qg_selves, .ref qg_when, .ref qg_jury, .int g_seens, .ref qg_years, .ref qg_states, .long g_trace, .ref qg_kept])), rI cI qg_text 200 g_text, rI cI qg_read 55 g_read, rI cI qg_life 55 g_life, rI cI qg_done 16 g_done, rI cI qg_undone 130 g_undone, rI cI qg_selves 16 g_selves, rI cI qg_when 27 g_when, rI cI qg_jury 16 g_jury, rI cI qg_years 6 g_years, rI cI qg_states 6 g_states, rI cI qg_kept 290 g_kept] [(qg, .inr (7, [.ref qg_text, .int g_size, .int g_at, .int g_begin, .int g_token, .int g_told, .ref qg_read, .ref qg_life, .int g_dones, .ref qg_done, .int g_undos, .ref qg_undone, .ref qg_selves, .ref qg_when, .ref qg_jury, .int g_seens, .ref qg_years, .ref qg_states, .long g_trace, .ref qg_kept])), rI cI qg_text 200 g_text, rI cI qg_read 55 g_read, rI cI qg_life 55 g_life, rI cI qg_done 16 g_done, rI cI qg_undone 130 g_undone, rI cI qg_selves 16 o.2, rI cI qg_when 27 g_when, rI cI qg_jury 16 g_jury, rI cI qg_years 6 g_years, rI cI qg_states 6 g_states, rI cI qg_kept 290 g_kept] (some (.int o.1)) 0 0 := by
  refine mkI (by decide) (Nat.le_of_ble_eq_true rfl) ?_
  intro p e s m args below meth c A Q X hret ls hl H locs hP hD hS
  replace X : Cx p s m args c D (Tys cI cZ cD cH) A cX7_fits RX7 6 := X
  obtain ⟨hx, hb, hml, hown, hts, hK, hZ, hA⟩ := id X
  have hl : lv_has ls 6 [(0, .ref qg)] := hl
  unfold fX7_fits at hf
  refine lv_iconst (v := 0) hx hb dX7_fits_0 (by decide) ?_
  refine lv_istore_n (lv' := [(1, .int 0), (0, .ref qg)]) hx hb dX7_fits_1 rfl hl (by decide) rfl (fun ls hl => ?_)
  refine lv_iconst (v := 0) hx hb dX7_fits_2 (by decide) ?_
  refine lv_istore_n (lv' := [(2, .int 0), (1, .int 0), (0, .ref qg)]) hx hb dX7_fits_3 rfl hl (by decide) rfl (fun ls hl => ?_)
  obtain ⟨e1, he1, hf⟩ := bnd hf
  have hx1_0 : ∀ (y1_0 : Int32 × (Nat → Int32)), y1_0 = e1 → ∀ (H : Heap) (locs : List Loc) (ls : Array Slot), va_P D vwCl [(qg, .inr (7, [.ref qg_text, .int g_size, .int g_at, .int g_begin, .int g_token, .int g_told, .ref qg_read, .ref qg_life, .int g_dones, .ref qg_done, .int g_undos, .ref qg_undone, .ref qg_selves, .ref qg_when, .ref qg_jury, .int g_seens, .ref qg_years, .ref qg_states, .long g_trace, .ref qg_kept])), rI cI qg_text 200 g_text, rI cI qg_read 55 g_read, rI cI qg_life 55 g_life, rI cI qg_done 16 g_done, rI cI qg_undone 130 g_undone, rI cI qg_selves 16 y1_0.2, rI cI qg_when 27 g_when, rI cI qg_jury 16 g_jury, rI cI qg_years 6 g_years, rI cI qg_states 6 g_states, rI cI qg_kept 290 g_kept] H → va_D A [(qg, .inr (7, [.ref qg_text, .int g_size, .int g_at, .int g_begin, .int g_token, .int g_told, .ref qg_read, .ref qg_life, .int g_dones, .ref qg_done, .int g_undos, .ref qg_undone, .ref qg_selves, .ref qg_when, .ref qg_jury, .int g_seens, .ref qg_years, .ref qg_states, .long g_trace, .ref qg_kept])), rI cI qg_text 200 g_text, rI cI qg_read 55 g_read, rI cI qg_life 55 g_life, rI cI qg_done 16 g_done, rI cI qg_undone 130 g_undone, rI cI qg_selves 16 y1_0.2, rI cI qg_when 27 g_when, rI cI qg_jury 16 g_jury, rI cI qg_years 6 g_years, rI cI qg_states 6 g_states, rI cI qg_kept 290 g_kept] → va_S A s.heap H locs → lv_has ls 6 [(1, .int y1_0.1)] → W p l e ({ frames := 5, cells := 0, slots := 0, locals := 115 } : Room) s m args below meth c H locs 0 0 Q (F0 m 117 ls []) := by
    intro y1_0 heq H locs ls hP hD hS hl
    subst heq
    refine lv_iload_n hx hb dX7_fits_117 rfl (lv_at hl 0 rfl) ?_
    replace hf := Option.some.inj hf
    subst hf
    exact hret H locs _ ls dX7_fits_118 hP hD hS
  refine lpd_ind (P := fun s1 => ∀ (H : Heap) (locs : List Loc) (ls : Array Slot), va_P D vwCl [(qg, .inr (7, [.ref qg_text, .int g_size, .int g_at, .int g_begin, .int g_token, .int g_told, .ref qg_read, .ref qg_life, .int g_dones, .ref qg_done, .int g_undos, .ref qg_undone, .ref qg_selves, .ref qg_when, .ref qg_jury, .int g_seens, .ref qg_years, .ref qg_states, .long g_trace, .ref qg_kept])), rI cI qg_text 200 g_text, rI cI qg_read 55 g_read, rI cI qg_life 55 g_life, rI cI qg_done 16 g_done, rI cI qg_undone 130 g_undone, rI cI qg_selves 16 s1.2.2, rI cI qg_when 27 g_when, rI cI qg_jury 16 g_jury, rI cI qg_years 6 g_years, rI cI qg_states 6 g_states, rI cI qg_kept 290 g_kept] H → va_D A [(qg, .inr (7, [.ref qg_text, .int g_size, .int g_at, .int g_begin, .int g_token, .int g_told, .ref qg_read, .ref qg_life, .int g_dones, .ref qg_done, .int g_undos, .ref qg_undone, .ref qg_selves, .ref qg_when, .ref qg_jury, .int g_seens, .ref qg_years, .ref qg_states, .long g_trace, .ref qg_kept])), rI cI qg_text 200 g_text, rI cI qg_read 55 g_read, rI cI qg_life 55 g_life, rI cI qg_done 16 g_done, rI cI qg_undone 130 g_undone, rI cI qg_selves 16 s1.2.2, rI cI qg_when 27 g_when, rI cI qg_jury 16 g_jury, rI cI qg_years 6 g_years, rI cI qg_states 6 g_states, rI cI qg_kept 290 g_kept] → va_S A s.heap H locs → lv_has ls 6 [(0, .ref qg), (1, .int s1.1), (2, .int s1.2.1)] → W p l e ({ frames := 5, cells := 0, slots := 0, locals := 115 } : Room) s m args below meth c H locs 0 0 Q (F0 m 4 ls [])) e1 ?_ _ _ he1 H locs ls hP hD hS (lv_sub hl [2, 1, 0] rfl)
  intro s1 r1 hf ih1 hq1 H locs ls hP hD hS hl
  unfold sX7_fits_4 at hf
  refine lv_iload_n hx hb dX7_fits_4 rfl (lv_at hl 2 rfl) ?_
  refine lv_aload_n hx hb dX7_fits_5 rfl (lv_at hl 0 rfl) ?_
  refine k_get X hP 0 rfl rfl inX7 7 (by decide) fl_RX7_16 rfl rfl dX7_fits_6 ?_
  refine lv_iconst (v := 1) hx hb dX7_fits_9 (by decide) ?_
  obtain ⟨h2, hf⟩ := ck_t hf
  refine k_iald X hP 3 0 rfl rfl h2 dX7_fits_10 ?_
  refine lv_icmp_ge (tgt := 117) hx hb dX7_fits_11 (by decide) (fun c3 => ?_) (fun c3 => ?_)
  · replace hf := ite_t c3 hf
    exact hx1_0 _ (hq1 _ (Option.some.inj hf).symm) H locs ls hP hD hS (lv_sub hl [1] rfl)
  · replace hf := ite_f c3 hf
    refine lv_iconst (v := 0) hx hb dX7_fits_14 (by decide) ?_
    refine lv_istore_n (lv' := [(3, .int 0), (0, .ref qg), (1, .int s1.1), (2, .int s1.2.1)]) hx hb dX7_fits_15 rfl hl (by decide) rfl (fun ls hl => ?_)
    obtain ⟨e4, he4, hf⟩ := bnd hf
    have hx4_0 : ∀ (y4_0 : Int32 × (Nat → Int32)), y4_0 = e4 → ∀ (H : Heap) (locs : List Loc) (ls : Array Slot), va_P D vwCl [(qg, .inr (7, [.ref qg_text, .int g_size, .int g_at, .int g_begin, .int g_token, .int g_told, .ref qg_read, .ref qg_life, .int g_dones, .ref qg_done, .int g_undos, .ref qg_undone, .ref qg_selves, .ref qg_when, .ref qg_jury, .int g_seens, .ref qg_years, .ref qg_states, .long g_trace, .ref qg_kept])), rI cI qg_text 200 g_text, rI cI qg_read 55 g_read, rI cI qg_life 55 g_life, rI cI qg_done 16 g_done, rI cI qg_undone 130 g_undone, rI cI qg_selves 16 y4_0.2, rI cI qg_when 27 g_when, rI cI qg_jury 16 g_jury, rI cI qg_years 6 g_years, rI cI qg_states 6 g_states, rI cI qg_kept 290 g_kept] H → va_D A [(qg, .inr (7, [.ref qg_text, .int g_size, .int g_at, .int g_begin, .int g_token, .int g_told, .ref qg_read, .ref qg_life, .int g_dones, .ref qg_done, .int g_undos, .ref qg_undone, .ref qg_selves, .ref qg_when, .ref qg_jury, .int g_seens, .ref qg_years, .ref qg_states, .long g_trace, .ref qg_kept])), rI cI qg_text 200 g_text, rI cI qg_read 55 g_read, rI cI qg_life 55 g_life, rI cI qg_done 16 g_done, rI cI qg_undone 130 g_undone, rI cI qg_selves 16 y4_0.2, rI cI qg_when 27 g_when, rI cI qg_jury 16 g_jury, rI cI qg_years 6 g_years, rI cI qg_states 6 g_states, rI cI qg_kept 290 g_kept] → va_S A s.heap H locs → lv_has ls 6 [(0, .ref qg), (1, .int y4_0.1), (2, .int s1.2.1)] → W p l e ({ frames := 5, cells := 0, slots := 0, locals := 115 } : Room) s m args below meth c H locs 0 0 Q (F0 m 111 ls []) := by
      intro y4_0 heq H locs ls hP hD hS hl
      subst heq
      refine lv_iinc (v := s1.2.1 + 1) (lv' := [(2, .int (s1.2.1 + 1)), (0, .ref qg), (1, .int y4_0.1)]) hx hb dX7_fits_111 hl (k := 2) rfl rfl (by decide) rfl (fun ls hl => ?_)
      refine lv_goto (tgt := 4) hx hb dX7_fits_114 (by decide) ?_
      exact ih1 _ (Option.some.inj hf).symm H locs ls hP hD hS (lv_sub hl [1, 2, 0] rfl)
    refine lpd_ind (P := fun s4 => ∀ (H : Heap) (locs : List Loc) (ls : Array Slot), va_P D vwCl [(qg, .inr (7, [.ref qg_text, .int g_size, .int g_at, .int g_begin, .int g_token, .int g_told, .ref qg_read, .ref qg_life, .int g_dones, .ref qg_done, .int g_undos, .ref qg_undone, .ref qg_selves, .ref qg_when, .ref qg_jury, .int g_seens, .ref qg_years, .ref qg_states, .long g_trace, .ref qg_kept])), rI cI qg_text 200 g_text, rI cI qg_read 55 g_read, rI cI qg_life 55 g_life, rI cI qg_done 16 g_done, rI cI qg_undone 130 g_undone, rI cI qg_selves 16 s4.2.2, rI cI qg_when 27 g_when, rI cI qg_jury 16 g_jury, rI cI qg_years 6 g_years, rI cI qg_states 6 g_states, rI cI qg_kept 290 g_kept] H → va_D A [(qg, .inr (7, [.ref qg_text, .int g_size, .int g_at, .int g_begin, .int g_token, .int g_told, .ref qg_read, .ref qg_life, .int g_dones, .ref qg_done, .int g_undos, .ref qg_undone, .ref qg_selves, .ref qg_when, .ref qg_jury, .int g_seens, .ref qg_years, .ref qg_states, .long g_trace, .ref qg_kept])), rI cI qg_text 200 g_text, rI cI qg_read 55 g_read, rI cI qg_life 55 g_life, rI cI qg_done 16 g_done, rI cI qg_undone 130 g_undone, rI cI qg_selves 16 s4.2.2, rI cI qg_when 27 g_when, rI cI qg_jury 16 g_jury, rI cI qg_years 6 g_years, rI cI qg_states 6 g_states, rI cI qg_kept 290 g_kept] → va_S A s.heap H locs → lv_has ls 6 [(0, .ref qg), (1, .int s4.1), (2, .int s1.2.1), (3, .int s4.2.1)] → W p l e ({ frames := 5, cells := 0, slots := 0, locals := 115 } : Room) s m args below meth c H locs 0 0 Q (F0 m 16 ls [])) e4 ?_ _ _ he4 H locs ls hP hD hS (lv_sub hl [1, 2, 3, 0] rfl)
    intro s4 r4 hf ih4 hq4 H locs ls hP hD hS hl
    unfold sX7_fits_16 at hf
    refine lv_iload_n hx hb dX7_fits_16 rfl (lv_at hl 3 rfl) ?_
    refine lv_aload_n hx hb dX7_fits_17 rfl (lv_at hl 0 rfl) ?_
    obtain ⟨r5, hr5, hf⟩ := bnd hf
    refine k_callV X hP hD hS [(qg, .inr (7, [.ref qg_text, .int g_size, .int g_at, .int g_begin, .int g_token, .int g_told, .ref qg_read, .ref qg_life, .int g_dones, .ref qg_done, .int g_undos, .ref qg_undone, .ref qg_selves, .ref qg_when, .ref qg_jury, .int g_seens, .ref qg_years, .ref qg_states, .long g_trace, .ref qg_kept])), rI cI qg_text 200 g_text, rI cI qg_read 55 g_read, rI cI qg_life 55 g_life, rI cI qg_done 16 g_done, rI cI qg_undone 130 g_undone, rI cI qg_selves 16 s4.2.2, rI cI qg_when 27 g_when, rI cI qg_jury 16 g_jury, rI cI qg_years 6 g_years, rI cI qg_states 6 g_states, rI cI qg_kept 290 g_kept] (ctX7_rows l D cI cZ cD cH qg qg_text qg_read qg_life qg_done qg_undone qg_selves qg_when qg_jury qg_years qg_states qg_kept g_size g_at g_begin g_token g_told g_dones g_undos g_seens g_trace g_text g_read g_life g_done g_undone s4.2.2 g_when g_jury g_years g_states g_kept r5 hr5) ml_RX7_170 im_yX7_rows se_yX7_rows in_RX7 cd_yX7_rows rfl rfl hd_yX7_rows ⟨by decide, by decide⟩ ⟨Nat.zero_le _, Nat.zero_le _⟩ [0, 1, 2, 3, 4, 5, 6, 7, 8, 9, 10, 11] [some 0, some 1, some 2, some 3, some 4, some 5, some 6, some 7, some 8, some 9, some 10, some 11] rfl (by decide +kernel) rfl (by decide +kernel) rfl rfl (q0 := 0) rfl rfl rfl hl.1 rfl rfl (Nat.le_of_ble_eq_true rfl) rfl dX7_fits_18 (fun H locs hP hD hS => ?_)
    refine lv_icmp_ge (tgt := 111) hx hb dX7_fits_21 (by decide) (fun c6 => ?_) (fun c6 => ?_)
    · replace hf := ite_t c6 hf
      exact hx4_0 _ (hq4 _ (Option.some.inj hf).symm) H locs ls hP hD hS (lv_sub hl [0, 1, 2] rfl)
    · replace hf := ite_f c6 hf
      refine lv_aload_n hx hb dX7_fits_24 rfl (lv_at hl 0 rfl) ?_
      refine lv_iload_n hx hb dX7_fits_25 rfl (lv_at hl 3 rfl) ?_
      refine lv_iload_n hx hb dX7_fits_26 rfl (lv_at hl 2 rfl) ?_
      refine lv_aload_n hx hb dX7_fits_27 rfl (lv_at hl 0 rfl) ?_
      refine k_get X hP 0 rfl rfl inX7 7 (by decide) fl_RX7_16 rfl rfl dX7_fits_28 ?_
      refine lv_iconst (v := 4) hx hb dX7_fits_31 (by decide) ?_
      obtain ⟨h7, hf⟩ := ck_t hf
      refine k_iald X hP 3 0 rfl rfl h7 dX7_fits_32 ?_
      obtain ⟨r8, hr8, hf⟩ := bnd hf
      refine k_callV X hP hD hS [(qg, .inr (7, [.ref qg_text, .int g_size, .int g_at, .int g_begin, .int g_token, .int g_told, .ref qg_read, .ref qg_life, .int g_dones, .ref qg_done, .int g_undos, .ref qg_undone, .ref qg_selves, .ref qg_when, .ref qg_jury, .int g_seens, .ref qg_years, .ref qg_states, .long g_trace, .ref qg_kept])), rI cI qg_text 200 g_text, rI cI qg_read 55 g_read, rI cI qg_life 55 g_life, rI cI qg_done 16 g_done, rI cI qg_undone 130 g_undone, rI cI qg_selves 16 r8.2, rI cI qg_when 27 g_when, rI cI qg_jury 16 g_jury, rI cI qg_years 6 g_years, rI cI qg_states 6 g_states, rI cI qg_kept 290 g_kept] (ctX7_isLife l D cI cZ cD cH qg qg_text qg_read qg_life qg_done qg_undone qg_selves qg_when qg_jury qg_years qg_states qg_kept s4.2.1 s1.2.1 (g_life (4 : Int32).toNatClampNeg) g_size g_at g_begin g_token g_told g_dones g_undos g_seens g_trace g_text g_read g_life g_done g_undone s4.2.2 g_when g_jury g_years g_states g_kept r8 hr8) ml_RX7_174 im_yX7_isLife se_yX7_isLife in_RX7 cd_yX7_isLife rfl rfl hd_yX7_isLife ⟨by decide, by decide⟩ ⟨Nat.zero_le _, Nat.zero_le _⟩ [0, 1, 2, 3, 4, 5, 6, 7, 8, 9, 10, 11] [some 0, some 1, some 2, some 3, some 4, some 5, some 6, some 7, some 8, some 9, some 10, some 11] rfl (by decide +kernel) rfl (by decide +kernel) rfl rfl (q0 := 0) rfl rfl rfl hl.1 rfl rfl (Nat.le_of_ble_eq_true rfl) rfl dX7_fits_33 (fun H locs hP hD hS => ?_)
      refine lv_istore (lv' := [(4, .int (bI r8.1)), (0, .ref qg), (1, .int s4.1), (2, .int s1.2.1), (3, .int s4.2.1)]) hx hb dX7_fits_36 hl (by decide) rfl (fun ls hl => ?_)
      refine lv_iconst (v := 0) hx hb dX7_fits_38 (by decide) ?_
      refine lv_istore (lv' := [(5, .int 0), (4, .int (bI r8.1)), (0, .ref qg), (1, .int s4.1), (2, .int s1.2.1), (3, .int s4.2.1)]) hx hb dX7_fits_39 hl (by decide) rfl (fun ls hl => ?_)
      obtain ⟨e9, he9, hf⟩ := bnd hf
      have hx9_0 : ∀ (y9_0 : Int32), y9_0 = e9 → ∀ (H : Heap) (locs : List Loc) (ls : Array Slot), va_P D vwCl [(qg, .inr (7, [.ref qg_text, .int g_size, .int g_at, .int g_begin, .int g_token, .int g_told, .ref qg_read, .ref qg_life, .int g_dones, .ref qg_done, .int g_undos, .ref qg_undone, .ref qg_selves, .ref qg_when, .ref qg_jury, .int g_seens, .ref qg_years, .ref qg_states, .long g_trace, .ref qg_kept])), rI cI qg_text 200 g_text, rI cI qg_read 55 g_read, rI cI qg_life 55 g_life, rI cI qg_done 16 g_done, rI cI qg_undone 130 g_undone, rI cI qg_selves 16 r8.2, rI cI qg_when 27 g_when, rI cI qg_jury 16 g_jury, rI cI qg_years 6 g_years, rI cI qg_states 6 g_states, rI cI qg_kept 290 g_kept] H → va_D A [(qg, .inr (7, [.ref qg_text, .int g_size, .int g_at, .int g_begin, .int g_token, .int g_told, .ref qg_read, .ref qg_life, .int g_dones, .ref qg_done, .int g_undos, .ref qg_undone, .ref qg_selves, .ref qg_when, .ref qg_jury, .int g_seens, .ref qg_years, .ref qg_states, .long g_trace, .ref qg_kept])), rI cI qg_text 200 g_text, rI cI qg_read 55 g_read, rI cI qg_life 55 g_life, rI cI qg_done 16 g_done, rI cI qg_undone 130 g_undone, rI cI qg_selves 16 r8.2, rI cI qg_when 27 g_when, rI cI qg_jury 16 g_jury, rI cI qg_years 6 g_years, rI cI qg_states 6 g_states, rI cI qg_kept 290 g_kept] → va_S A s.heap H locs → lv_has ls 6 [(0, .ref qg), (1, .int s4.1), (2, .int s1.2.1), (3, .int s4.2.1), (4, .int y9_0)] → W p l e ({ frames := 5, cells := 0, slots := 0, locals := 115 } : Room) s m args below meth c H locs 0 0 Q (F0 m 90 ls []) := by
        intro y9_0 heq H locs ls hP hD hS hl
        subst heq
        refine lv_iload_n hx hb dX7_fits_90 rfl (lv_at hl 1 rfl) ?_
        refine lv_iload hx hb dX7_fits_91 (lv_at hl 4 rfl) ?_
        refine lv_if_eq (tgt := 102) hx hb dX7_fits_93 (by decide) (fun c10 => ?_) (fun c10 => ?_)
        · replace hf := ite_t c10 hf
          refine lv_iconst (v := 0) hx hb dX7_fits_102 (by decide) ?_
          refine lv_ior hx hb dX7_fits_103 ?_
          refine lv_istore_n (lv' := [(1, .int (s4.1 ||| 0)), (0, .ref qg), (2, .int s1.2.1), (3, .int s4.2.1), (4, .int y9_0)]) hx hb dX7_fits_104 rfl hl (by decide) rfl (fun ls hl => ?_)
          refine lv_iinc (v := s4.2.1 + 1) (lv' := [(3, .int (s4.2.1 + 1)), (1, .int (s4.1 ||| 0)), (0, .ref qg), (2, .int s1.2.1), (4, .int y9_0)]) hx hb dX7_fits_105 hl (k := 3) rfl rfl (by decide) rfl (fun ls hl => ?_)
          refine lv_goto (tgt := 16) hx hb dX7_fits_108 (by decide) ?_
          exact ih4 _ (Option.some.inj hf).symm H locs ls hP hD hS (lv_sub hl [2, 1, 3, 0] rfl)
        · replace hf := ite_f c10 hf
          refine lv_iconst (v := 1) hx hb dX7_fits_96 (by decide) ?_
          refine lv_iload_n hx hb dX7_fits_97 rfl (lv_at hl 2 rfl) ?_
          refine lv_ishl hx hb dX7_fits_98 ?_
          refine lv_goto (tgt := 103) hx hb dX7_fits_99 (by decide) ?_
          refine lv_ior hx hb dX7_fits_103 ?_
          refine lv_istore_n (lv' := [(1, .int (s4.1 ||| (1 <<< (s1.2.1 &&& 31)))), (0, .ref qg), (2, .int s1.2.1), (3, .int s4.2.1), (4, .int y9_0)]) hx hb dX7_fits_104 rfl hl (by decide) rfl (fun ls hl => ?_)
          refine lv_iinc (v := s4.2.1 + 1) (lv' := [(3, .int (s4.2.1 + 1)), (1, .int (s4.1 ||| (1 <<< (s1.2.1 &&& 31)))), (0, .ref qg), (2, .int s1.2.1), (4, .int y9_0)]) hx hb dX7_fits_105 hl (k := 3) rfl rfl (by decide) rfl (fun ls hl => ?_)
          refine lv_goto (tgt := 16) hx hb dX7_fits_108 (by decide) ?_
          exact ih4 _ (Option.some.inj hf).symm H locs ls hP hD hS (lv_sub hl [2, 1, 3, 0] rfl)
      refine lpd_ind (P := fun s9 => ∀ (H : Heap) (locs : List Loc) (ls : Array Slot), va_P D vwCl [(qg, .inr (7, [.ref qg_text, .int g_size, .int g_at, .int g_begin, .int g_token, .int g_told, .ref qg_read, .ref qg_life, .int g_dones, .ref qg_done, .int g_undos, .ref qg_undone, .ref qg_selves, .ref qg_when, .ref qg_jury, .int g_seens, .ref qg_years, .ref qg_states, .long g_trace, .ref qg_kept])), rI cI qg_text 200 g_text, rI cI qg_read 55 g_read, rI cI qg_life 55 g_life, rI cI qg_done 16 g_done, rI cI qg_undone 130 g_undone, rI cI qg_selves 16 r8.2, rI cI qg_when 27 g_when, rI cI qg_jury 16 g_jury, rI cI qg_years 6 g_years, rI cI qg_states 6 g_states, rI cI qg_kept 290 g_kept] H → va_D A [(qg, .inr (7, [.ref qg_text, .int g_size, .int g_at, .int g_begin, .int g_token, .int g_told, .ref qg_read, .ref qg_life, .int g_dones, .ref qg_done, .int g_undos, .ref qg_undone, .ref qg_selves, .ref qg_when, .ref qg_jury, .int g_seens, .ref qg_years, .ref qg_states, .long g_trace, .ref qg_kept])), rI cI qg_text 200 g_text, rI cI qg_read 55 g_read, rI cI qg_life 55 g_life, rI cI qg_done 16 g_done, rI cI qg_undone 130 g_undone, rI cI qg_selves 16 r8.2, rI cI qg_when 27 g_when, rI cI qg_jury 16 g_jury, rI cI qg_years 6 g_years, rI cI qg_states 6 g_states, rI cI qg_kept 290 g_kept] → va_S A s.heap H locs → lv_has ls 6 [(0, .ref qg), (1, .int s4.1), (2, .int s1.2.1), (3, .int s4.2.1), (4, .int s9.1), (5, .int s9.2)] → W p l e ({ frames := 5, cells := 0, slots := 0, locals := 115 } : Room) s m args below meth c H locs 0 0 Q (F0 m 41 ls [])) e9 ?_ _ _ he9 H locs ls hP hD hS (lv_sub hl [2, 3, 4, 5, 1, 0] rfl)
      intro s9 r9 hf ih9 hq9 H locs ls hP hD hS hl
      unfold sX7_fits_41 at hf
      refine lv_iload hx hb dX7_fits_41 (lv_at hl 5 rfl) ?_
      refine lv_aload_n hx hb dX7_fits_43 rfl (lv_at hl 0 rfl) ?_
      refine k_get X hP 0 rfl rfl inX7 15 (by decide) fl_RX7_125 rfl rfl dX7_fits_44 ?_
      refine lv_icmp_ge (tgt := 90) hx hb dX7_fits_47 (by decide) (fun c11 => ?_) (fun c11 => ?_)
      · replace hf := ite_t c11 hf
        exact hx9_0 _ (hq9 _ (Option.some.inj hf).symm) H locs ls hP hD hS (lv_sub hl [0, 1, 2, 3, 4] rfl)
      · replace hf := ite_f c11 hf
        refine lv_iload hx hb dX7_fits_50 (lv_at hl 4 rfl) ?_
        refine lv_if_eq (tgt := 81) hx hb dX7_fits_52 (by decide) (fun c12 => ?_) (fun c12 => ?_)
        · replace hf := ite_t c12 hf
          refine lv_iconst (v := 0) hx hb dX7_fits_81 (by decide) ?_
          refine lv_istore (lv' := [(4, .int 0), (0, .ref qg), (1, .int s4.1), (2, .int s1.2.1), (3, .int s4.2.1), (5, .int s9.2)]) hx hb dX7_fits_82 hl (by decide) rfl (fun ls hl => ?_)
          refine lv_iinc (v := s9.2 + 1) (lv' := [(5, .int (s9.2 + 1)), (4, .int 0), (0, .ref qg), (1, .int s4.1), (2, .int s1.2.1), (3, .int s4.2.1)]) hx hb dX7_fits_84 hl (k := 5) rfl rfl (by decide) rfl (fun ls hl => ?_)
          refine lv_goto (tgt := 41) hx hb dX7_fits_87 (by decide) ?_
          exact ih9 _ (Option.some.inj hf).symm H locs ls hP hD hS (lv_sub hl [2, 3, 4, 5, 1, 0] rfl)
        · replace hf := ite_f c12 hf
          refine lv_aload_n hx hb dX7_fits_55 rfl (lv_at hl 0 rfl) ?_
          refine k_get X hP 0 rfl rfl inX7 12 (by decide) fl_RX7_25 rfl rfl dX7_fits_56 ?_
          refine lv_aload_n hx hb dX7_fits_59 rfl (lv_at hl 0 rfl) ?_
          refine k_get X hP 0 rfl rfl inX7 16 (by decide) fl_RX7_34 rfl rfl dX7_fits_60 ?_
          refine lv_iload hx hb dX7_fits_63 (lv_at hl 5 rfl) ?_
          obtain ⟨h13, hf⟩ := ck_t hf
          refine k_iald X hP 9 0 rfl rfl h13 dX7_fits_65 ?_
          obtain ⟨h14, hf⟩ := ck_t hf
          refine k_iald X hP 6 0 rfl rfl h14 dX7_fits_66 ?_
          refine lv_aload_n hx hb dX7_fits_67 rfl (lv_at hl 0 rfl) ?_
          refine k_get X hP 0 rfl rfl inX7 17 (by decide) fl_RX7_37 rfl rfl dX7_fits_68 ?_
          refine lv_iload hx hb dX7_fits_71 (lv_at hl 5 rfl) ?_
          obtain ⟨h15, hf⟩ := ck_t hf
          refine k_iald X hP 10 0 rfl rfl h15 dX7_fits_73 ?_
          refine lv_icmp_ne (tgt := 81) hx hb dX7_fits_74 (by decide) (fun c16 => ?_) (fun c16 => ?_)
          · replace hf := ite_f c16 hf
            refine lv_iconst (v := 0) hx hb dX7_fits_81 (by decide) ?_
            refine lv_istore (lv' := [(4, .int 0), (0, .ref qg), (1, .int s4.1), (2, .int s1.2.1), (3, .int s4.2.1), (5, .int s9.2)]) hx hb dX7_fits_82 hl (by decide) rfl (fun ls hl => ?_)
            refine lv_iinc (v := s9.2 + 1) (lv' := [(5, .int (s9.2 + 1)), (4, .int 0), (0, .ref qg), (1, .int s4.1), (2, .int s1.2.1), (3, .int s4.2.1)]) hx hb dX7_fits_84 hl (k := 5) rfl rfl (by decide) rfl (fun ls hl => ?_)
            refine lv_goto (tgt := 41) hx hb dX7_fits_87 (by decide) ?_
            exact ih9 _ (Option.some.inj hf).symm H locs ls hP hD hS (lv_sub hl [2, 3, 4, 5, 1, 0] rfl)
          · replace hf := ite_t c16 hf
            refine lv_iconst (v := 1) hx hb dX7_fits_77 (by decide) ?_
            refine lv_goto (tgt := 82) hx hb dX7_fits_78 (by decide) ?_
            refine lv_istore (lv' := [(4, .int 1), (0, .ref qg), (1, .int s4.1), (2, .int s1.2.1), (3, .int s4.2.1), (5, .int s9.2)]) hx hb dX7_fits_82 hl (by decide) rfl (fun ls hl => ?_)
            refine lv_iinc (v := s9.2 + 1) (lv' := [(5, .int (s9.2 + 1)), (4, .int 1), (0, .ref qg), (1, .int s4.1), (2, .int s1.2.1), (3, .int s4.2.1)]) hx hb dX7_fits_84 hl (k := 5) rfl rfl (by decide) rfl (fun ls hl => ?_)
            refine lv_goto (tgt := 41) hx hb dX7_fits_87 (by decide) ?_
            exact ih9 _ (Option.some.inj hf).symm H locs ls hP hD hS (lv_sub hl [2, 3, 4, 5, 1, 0] rfl)

def fX7_quorum (a1 : Int32) (g_dones : Int32) (g_life : Nat → Int32) (g_done : Nat → Int32) (g_selves : Nat → Int32) : Option (Int32 × (Nat → Int32)) :=
  (fX7_in a1.toInt64 1 9).bind (fun r1 => if (bI r1) = 0 then some ((-1), g_selves) else (fX7_beginning g_life).bind (fun r3 => (fX7_livesFrom r3 a1 g_dones g_life g_done g_selves).bind (fun r4 => some (r4.1, r4.2))))
set_option maxHeartbeats 4000000 in
set_option maxRecDepth 100000 in
theorem ctX7_quorum (l : Launch) (D : va_G) (cI cZ cD cH : ClassId) (qg : Nat) (qg_text : Nat) (qg_read : Nat) (qg_life : Nat) (qg_done : Nat) (qg_undone : Nat) (qg_selves : Nat) (qg_when : Nat) (qg_jury : Nat) (qg_years : Nat) (qg_states : Nat) (qg_kept : Nat) (a1 : Int32) (g_size : Int32) (g_at : Int32) (g_begin : Int32) (g_token : Int32) (g_told : Int32) (g_dones : Int32) (g_undos : Int32) (g_seens : Int32) (g_trace : Int64) (g_text : Nat → Int32) (g_read : Nat → Int32) (g_life : Nat → Int32) (g_done : Nat → Int32) (g_undone : Nat → Int32) (g_selves : Nat → Int32) (g_when : Nat → Int32) (g_jury : Nat → Int32) (g_years : Nat → Int32) (g_states : Nat → Int32) (g_kept : Nat → Int32) (o : Int32 × (Nat → Int32)) (hf : fX7_quorum a1 g_dones g_life g_done g_selves = some o) : Ct l yX7_quorum cX7_quorum 2 (some .int) { frames := 6, cells := 0, slots := 0, locals := 139 } D (Tys cI cZ cD cH) [.ref qg, .int a1] [(qg, .inr (7, [.ref qg_text, .int g_size, .int g_at, .int g_begin, .int g_token, .int g_told, .ref qg_read, .ref qg_life, .int g_dones, .ref qg_done, .int g_undos, .ref qg_undone, .ref qg_selves, .ref qg_when, .ref qg_jury, .int g_seens, .ref qg_years, .ref qg_states, .long g_trace, .ref qg_kept])), rI cI qg_text 200 g_text, rI cI qg_read 55 g_read, rI cI qg_life 55 g_life, rI cI qg_done 16 g_done, rI cI qg_undone 130 g_undone, rI cI qg_selves 16 g_selves, rI cI qg_when 27 g_when, rI cI qg_jury 16 g_jury, rI cI qg_years 6 g_years, rI cI qg_states 6 g_states, rI cI qg_kept 290 g_kept] [(qg, .inr (7, [.ref qg_text, .int g_size, .int g_at, .int g_begin, .int g_token, .int g_told, .ref qg_read, .ref qg_life, .int g_dones, .ref qg_done, .int g_undos, .ref qg_undone, .ref qg_selves, .ref qg_when, .ref qg_jury, .int g_seens, .ref qg_years, .ref qg_states, .long g_trace, .ref qg_kept])), rI cI qg_text 200 g_text, rI cI qg_read 55 g_read, rI cI qg_life 55 g_life, rI cI qg_done 16 g_done, rI cI qg_undone 130 g_undone, rI cI qg_selves 16 o.2, rI cI qg_when 27 g_when, rI cI qg_jury 16 g_jury, rI cI qg_years 6 g_years, rI cI qg_states 6 g_states, rI cI qg_kept 290 g_kept] (some (.int o.1)) 0 0 := by
  refine mkI (by decide) (Nat.le_of_ble_eq_true rfl) ?_
  intro p e s m args below meth c A Q X hret ls hl H locs hP hD hS
  replace X : Cx p s m args c D (Tys cI cZ cD cH) A cX7_quorum RX7 2 := X
  obtain ⟨hx, hb, hml, hown, hts, hK, hZ, hA⟩ := id X
  have hl : lv_has ls 2 [(0, .ref qg), (1, .int a1)] := hl
  unfold fX7_quorum at hf
  refine lv_iload_n hx hb dX7_quorum_0 rfl (lv_at hl 1 rfl) ?_
  refine lv_i2l (v := a1.toInt64) hx hb dX7_quorum_1 rfl ?_
  refine lv_lconst (v := 1) hx hb dX7_quorum_2 (by decide) ?_
  refine lv_ldc2 hx hb hown (hts _ cl_RX7_190) dX7_quorum_3 ?_
  obtain ⟨r1, hr1, hf⟩ := bnd hf
  refine k_callS X hP hD hS [(qg, .inr (7, [.ref qg_text, .int g_size, .int g_at, .int g_begin, .int g_token, .int g_told, .ref qg_read, .ref qg_life, .int g_dones, .ref qg_done, .int g_undos, .ref qg_undone, .ref qg_selves, .ref qg_when, .ref qg_jury, .int g_seens, .ref qg_years, .ref qg_states, .long g_trace, .ref qg_kept])), rI cI qg_text 200 g_text, rI cI qg_read 55 g_read, rI cI qg_life 55 g_life, rI cI qg_done 16 g_done, rI cI qg_undone 130 g_undone, rI cI qg_selves 16 g_selves, rI cI qg_when 27 g_when, rI cI qg_jury 16 g_jury, rI cI qg_years 6 g_years, rI cI qg_states 6 g_states, rI cI qg_kept 290 g_kept] (ctX7_in l D cI cZ cD cH a1.toInt64 1 9 r1 hr1) ml_RX7_51 sm_yX7_in in_RX7 cd_yX7_in rfl rfl hd_yX7_in ⟨by decide, by decide⟩ ⟨Nat.zero_le _, Nat.zero_le _⟩ [] [none, none, none, none, none, none, none, none, none, none, none, none] rfl (by decide +kernel) rfl (by decide +kernel) rfl rfl hl.1 rfl rfl (Nat.le_of_ble_eq_true rfl) rfl dX7_quorum_6 (fun H locs hP hD hS => ?_)
  refine lv_if_eq (tgt := 24) hx hb dX7_quorum_9 (by decide) (fun c2 => ?_) (fun c2 => ?_)
  · replace hf := ite_t c2 hf
    refine lv_iconst (v := (-1)) hx hb dX7_quorum_24 (by decide) ?_
    replace hf := Option.some.inj hf
    subst hf
    exact hret H locs _ ls dX7_quorum_25 hP hD hS
  · replace hf := ite_f c2 hf
    refine lv_aload_n hx hb dX7_quorum_12 rfl (lv_at hl 0 rfl) ?_
    refine lv_aload_n hx hb dX7_quorum_13 rfl (lv_at hl 0 rfl) ?_
    obtain ⟨r3, hr3, hf⟩ := bnd hf
    refine k_callV X hP hD hS [(qg, .inr (7, [.ref qg_text, .int g_size, .int g_at, .int g_begin, .int g_token, .int g_told, .ref qg_read, .ref qg_life, .int g_dones, .ref qg_done, .int g_undos, .ref qg_undone, .ref qg_selves, .ref qg_when, .ref qg_jury, .int g_seens, .ref qg_years, .ref qg_states, .long g_trace, .ref qg_kept])), rI cI qg_text 200 g_text, rI cI qg_read 55 g_read, rI cI qg_life 55 g_life, rI cI qg_done 16 g_done, rI cI qg_undone 130 g_undone, rI cI qg_selves 16 g_selves, rI cI qg_when 27 g_when, rI cI qg_jury 16 g_jury, rI cI qg_years 6 g_years, rI cI qg_states 6 g_states, rI cI qg_kept 290 g_kept] (ctX7_beginning l D cI cZ cD cH qg qg_text qg_read qg_life qg_done qg_undone qg_selves qg_when qg_jury qg_years qg_states qg_kept g_size g_at g_begin g_token g_told g_dones g_undos g_seens g_trace g_text g_read g_life g_done g_undone g_selves g_when g_jury g_years g_states g_kept r3 hr3) ml_RX7_178 im_yX7_beginning se_yX7_beginning in_RX7 cd_yX7_beginning rfl rfl hd_yX7_beginning ⟨by decide, by decide⟩ ⟨Nat.zero_le _, Nat.zero_le _⟩ [0, 1, 2, 3, 4, 5, 6, 7, 8, 9, 10, 11] [some 0, some 1, some 2, some 3, some 4, some 5, some 6, some 7, some 8, some 9, some 10, some 11] rfl (by decide +kernel) rfl (by decide +kernel) rfl rfl (q0 := 0) rfl rfl rfl hl.1 rfl rfl (Nat.le_of_ble_eq_true rfl) rfl dX7_quorum_14 (fun H locs hP hD hS => ?_)
    refine lv_iload_n hx hb dX7_quorum_17 rfl (lv_at hl 1 rfl) ?_
    obtain ⟨r4, hr4, hf⟩ := bnd hf
    refine k_callV X hP hD hS [(qg, .inr (7, [.ref qg_text, .int g_size, .int g_at, .int g_begin, .int g_token, .int g_told, .ref qg_read, .ref qg_life, .int g_dones, .ref qg_done, .int g_undos, .ref qg_undone, .ref qg_selves, .ref qg_when, .ref qg_jury, .int g_seens, .ref qg_years, .ref qg_states, .long g_trace, .ref qg_kept])), rI cI qg_text 200 g_text, rI cI qg_read 55 g_read, rI cI qg_life 55 g_life, rI cI qg_done 16 g_done, rI cI qg_undone 130 g_undone, rI cI qg_selves 16 r4.2, rI cI qg_when 27 g_when, rI cI qg_jury 16 g_jury, rI cI qg_years 6 g_years, rI cI qg_states 6 g_states, rI cI qg_kept 290 g_kept] (ctX7_livesFrom l D cI cZ cD cH qg qg_text qg_read qg_life qg_done qg_undone qg_selves qg_when qg_jury qg_years qg_states qg_kept r3 a1 g_size g_at g_begin g_token g_told g_dones g_undos g_seens g_trace g_text g_read g_life g_done g_undone g_selves g_when g_jury g_years g_states g_kept r4 hr4) ml_RX7_181 im_yX7_livesFrom se_yX7_livesFrom in_RX7 cd_yX7_livesFrom rfl rfl hd_yX7_livesFrom ⟨by decide, by decide⟩ ⟨Nat.zero_le _, Nat.zero_le _⟩ [0, 1, 2, 3, 4, 5, 6, 7, 8, 9, 10, 11] [some 0, some 1, some 2, some 3, some 4, some 5, some 6, some 7, some 8, some 9, some 10, some 11] rfl (by decide +kernel) rfl (by decide +kernel) rfl rfl (q0 := 0) rfl rfl rfl hl.1 rfl rfl (Nat.le_of_ble_eq_true rfl) rfl dX7_quorum_18 (fun H locs hP hD hS => ?_)
    refine lv_goto (tgt := 25) hx hb dX7_quorum_21 (by decide) ?_
    replace hf := Option.some.inj hf
    subst hf
    exact hret H locs _ ls dX7_quorum_25 hP hD hS

def fX7_mark (a1 : Int32) (a2 : Int32) (g_dones : Int32) (g_trace : Int64) (g_life : Nat → Int32) : Option (Int32 × Int64) :=
  (fX7_in a1.toInt64 0 5).bind (fun r1 => if (bI r1) = 0 then some ((-1000000), g_trace) else (fX7_isState a2 g_life).bind (fun r3 => if (bI r3) = 0 then some ((-1000000), g_trace) else jn (fun (x5 : Int64) => if a1 = 0 then (fX7_lean a2 g_life).bind (fun r7 => some (r7, g_trace + x5)) else (if a1 = 1 then (fX7_lean a2 g_life).bind (fun r9 => (fX7_of a2 2 g_life).bind (fun r10 => some (r9 + r10, g_trace + x5))) else (if a1 = 2 then (fX7_lean a2 g_life).bind (fun r12 => some (r12 - g_dones, g_trace + x5)) else (if a1 = 3 then (fX7_lean a2 g_life).bind (fun r14 => (fX7_of a2 2 g_life).bind (fun r15 => some (2 * (r14 + r15), g_trace + x5))) else (if a1 = 4 then (fX7_lean a2 g_life).bind (fun r17 => if inb 3 55 = true then some ((r17 - g_dones) + (g_life (3 : Int32).toNatClampNeg), g_trace + x5) else none) else ((fX7_lean a2 g_life).bind (fun r19 => (fX7_of a2 1 g_life).bind (fun r20 => some (r19 + (9 * r20), g_trace + x5))))))))) (fun K5 => if a1 = 0 then K5 1 else if a1 = 1 then K5 11 else if a1 = 2 then K5 101 else if a1 = 3 then K5 1011 else if a1 = 4 then K5 10101 else K5 100001)))
set_option maxHeartbeats 4000000 in
set_option maxRecDepth 100000 in
theorem ctX7_mark (l : Launch) (D : va_G) (cI cZ cD cH : ClassId) (qg : Nat) (qg_text : Nat) (qg_read : Nat) (qg_life : Nat) (qg_done : Nat) (qg_undone : Nat) (qg_selves : Nat) (qg_when : Nat) (qg_jury : Nat) (qg_years : Nat) (qg_states : Nat) (qg_kept : Nat) (a1 : Int32) (a2 : Int32) (g_size : Int32) (g_at : Int32) (g_begin : Int32) (g_token : Int32) (g_told : Int32) (g_dones : Int32) (g_undos : Int32) (g_seens : Int32) (g_trace : Int64) (g_text : Nat → Int32) (g_read : Nat → Int32) (g_life : Nat → Int32) (g_done : Nat → Int32) (g_undone : Nat → Int32) (g_selves : Nat → Int32) (g_when : Nat → Int32) (g_jury : Nat → Int32) (g_years : Nat → Int32) (g_states : Nat → Int32) (g_kept : Nat → Int32) (o : Int32 × Int64) (hf : fX7_mark a1 a2 g_dones g_trace g_life = some o) : Ct l yX7_mark cX7_mark 3 (some .int) { frames := 2, cells := 0, slots := 0, locals := 46 } D (Tys cI cZ cD cH) [.ref qg, .int a1, .int a2] [(qg, .inr (7, [.ref qg_text, .int g_size, .int g_at, .int g_begin, .int g_token, .int g_told, .ref qg_read, .ref qg_life, .int g_dones, .ref qg_done, .int g_undos, .ref qg_undone, .ref qg_selves, .ref qg_when, .ref qg_jury, .int g_seens, .ref qg_years, .ref qg_states, .long g_trace, .ref qg_kept])), rI cI qg_text 200 g_text, rI cI qg_read 55 g_read, rI cI qg_life 55 g_life, rI cI qg_done 16 g_done, rI cI qg_undone 130 g_undone, rI cI qg_selves 16 g_selves, rI cI qg_when 27 g_when, rI cI qg_jury 16 g_jury, rI cI qg_years 6 g_years, rI cI qg_states 6 g_states, rI cI qg_kept 290 g_kept] [(qg, .inr (7, [.ref qg_text, .int g_size, .int g_at, .int g_begin, .int g_token, .int g_told, .ref qg_read, .ref qg_life, .int g_dones, .ref qg_done, .int g_undos, .ref qg_undone, .ref qg_selves, .ref qg_when, .ref qg_jury, .int g_seens, .ref qg_years, .ref qg_states, .long o.2, .ref qg_kept])), rI cI qg_text 200 g_text, rI cI qg_read 55 g_read, rI cI qg_life 55 g_life, rI cI qg_done 16 g_done, rI cI qg_undone 130 g_undone, rI cI qg_selves 16 g_selves, rI cI qg_when 27 g_when, rI cI qg_jury 16 g_jury, rI cI qg_years 6 g_years, rI cI qg_states 6 g_states, rI cI qg_kept 290 g_kept] (some (.int o.1)) 0 0 := by
  refine mkI (by decide) (Nat.le_of_ble_eq_true rfl) ?_
  intro p e s m args below meth c A Q X hret ls hl H locs hP hD hS
  replace X : Cx p s m args c D (Tys cI cZ cD cH) A cX7_mark RX7 3 := X
  obtain ⟨hx, hb, hml, hown, hts, hK, hZ, hA⟩ := id X
  have hl : lv_has ls 3 [(0, .ref qg), (1, .int a1), (2, .int a2)] := hl
  unfold fX7_mark at hf
  refine lv_iload_n hx hb dX7_mark_0 rfl (lv_at hl 1 rfl) ?_
  refine lv_i2l (v := a1.toInt64) hx hb dX7_mark_1 rfl ?_
  refine lv_lconst (v := 0) hx hb dX7_mark_2 (by decide) ?_
  refine lv_ldc2 hx hb hown (hts _ cl_RX7_201) dX7_mark_3 ?_
  obtain ⟨r1, hr1, hf⟩ := bnd hf
  refine k_callS X hP hD hS [(qg, .inr (7, [.ref qg_text, .int g_size, .int g_at, .int g_begin, .int g_token, .int g_told, .ref qg_read, .ref qg_life, .int g_dones, .ref qg_done, .int g_undos, .ref qg_undone, .ref qg_selves, .ref qg_when, .ref qg_jury, .int g_seens, .ref qg_years, .ref qg_states, .long g_trace, .ref qg_kept])), rI cI qg_text 200 g_text, rI cI qg_read 55 g_read, rI cI qg_life 55 g_life, rI cI qg_done 16 g_done, rI cI qg_undone 130 g_undone, rI cI qg_selves 16 g_selves, rI cI qg_when 27 g_when, rI cI qg_jury 16 g_jury, rI cI qg_years 6 g_years, rI cI qg_states 6 g_states, rI cI qg_kept 290 g_kept] (ctX7_in l D cI cZ cD cH a1.toInt64 0 5 r1 hr1) ml_RX7_51 sm_yX7_in in_RX7 cd_yX7_in rfl rfl hd_yX7_in ⟨by decide, by decide⟩ ⟨Nat.zero_le _, Nat.zero_le _⟩ [] [none, none, none, none, none, none, none, none, none, none, none, none] rfl (by decide +kernel) rfl (by decide +kernel) rfl rfl hl.1 rfl rfl (Nat.le_of_ble_eq_true rfl) rfl dX7_mark_6 (fun H locs hP hD hS => ?_)
  refine lv_if_eq (tgt := 20) hx hb dX7_mark_9 (by decide) (fun c2 => ?_) (fun c2 => ?_)
  · replace hf := ite_t c2 hf
    refine lv_ldc hx hb hown (hts _ ck_RX7_141) dX7_mark_20 ?_
    replace hf := Option.some.inj hf
    subst hf
    exact hret H locs _ ls dX7_mark_22 hP hD hS
  · replace hf := ite_f c2 hf
    refine lv_aload_n hx hb dX7_mark_12 rfl (lv_at hl 0 rfl) ?_
    refine lv_iload_n hx hb dX7_mark_13 rfl (lv_at hl 2 rfl) ?_
    obtain ⟨r3, hr3, hf⟩ := bnd hf
    refine k_callV X hP hD hS [(qg, .inr (7, [.ref qg_text, .int g_size, .int g_at, .int g_begin, .int g_token, .int g_told, .ref qg_read, .ref qg_life, .int g_dones, .ref qg_done, .int g_undos, .ref qg_undone, .ref qg_selves, .ref qg_when, .ref qg_jury, .int g_seens, .ref qg_years, .ref qg_states, .long g_trace, .ref qg_kept])), rI cI qg_text 200 g_text, rI cI qg_read 55 g_read, rI cI qg_life 55 g_life, rI cI qg_done 16 g_done, rI cI qg_undone 130 g_undone, rI cI qg_selves 16 g_selves, rI cI qg_when 27 g_when, rI cI qg_jury 16 g_jury, rI cI qg_years 6 g_years, rI cI qg_states 6 g_states, rI cI qg_kept 290 g_kept] (ctX7_isState l D cI cZ cD cH qg qg_text qg_read qg_life qg_done qg_undone qg_selves qg_when qg_jury qg_years qg_states qg_kept a2 g_size g_at g_begin g_token g_told g_dones g_undos g_seens g_trace g_text g_read g_life g_done g_undone g_selves g_when g_jury g_years g_states g_kept r3 hr3) ml_RX7_132 im_yX7_isState se_yX7_isState in_RX7 cd_yX7_isState rfl rfl hd_yX7_isState ⟨by decide, by decide⟩ ⟨Nat.zero_le _, Nat.zero_le _⟩ [0, 1, 2, 3, 4, 5, 6, 7, 8, 9, 10, 11] [some 0, some 1, some 2, some 3, some 4, some 5, some 6, some 7, some 8, some 9, some 10, some 11] rfl (by decide +kernel) rfl (by decide +kernel) rfl rfl (q0 := 0) rfl rfl rfl hl.1 rfl rfl (Nat.le_of_ble_eq_true rfl) rfl dX7_mark_14 (fun H locs hP hD hS => ?_)
    refine lv_if_ne (tgt := 23) hx hb dX7_mark_17 (by decide) (fun c4 => ?_) (fun c4 => ?_)
    · replace hf := ite_f c4 hf
      refine lv_aload_n hx hb dX7_mark_23 rfl (lv_at hl 0 rfl) ?_
      refine lv_dup hx hb dX7_mark_24 rfl ?_
      refine k_get X hP 0 rfl rfl inX7 18 (by decide) fl_RX7_203 rfl rfl dX7_mark_25 ?_
      refine lv_iload_n hx hb dX7_mark_28 rfl (lv_at hl 1 rfl) ?_
      refine jn_e hf (fun K5 hf hk5 => ?_)
      have hj5 : ∀ (x5 : Int64) (H : Heap) (locs : List Loc) (ls : Array Slot), K5 x5 = some o → va_P D vwCl [(qg, .inr (7, [.ref qg_text, .int g_size, .int g_at, .int g_begin, .int g_token, .int g_told, .ref qg_read, .ref qg_life, .int g_dones, .ref qg_done, .int g_undos, .ref qg_undone, .ref qg_selves, .ref qg_when, .ref qg_jury, .int g_seens, .ref qg_years, .ref qg_states, .long g_trace, .ref qg_kept])), rI cI qg_text 200 g_text, rI cI qg_read 55 g_read, rI cI qg_life 55 g_life, rI cI qg_done 16 g_done, rI cI qg_undone 130 g_undone, rI cI qg_selves 16 g_selves, rI cI qg_when 27 g_when, rI cI qg_jury 16 g_jury, rI cI qg_years 6 g_years, rI cI qg_states 6 g_states, rI cI qg_kept 290 g_kept] H → va_D A [(qg, .inr (7, [.ref qg_text, .int g_size, .int g_at, .int g_begin, .int g_token, .int g_told, .ref qg_read, .ref qg_life, .int g_dones, .ref qg_done, .int g_undos, .ref qg_undone, .ref qg_selves, .ref qg_when, .ref qg_jury, .int g_seens, .ref qg_years, .ref qg_states, .long g_trace, .ref qg_kept])), rI cI qg_text 200 g_text, rI cI qg_read 55 g_read, rI cI qg_life 55 g_life, rI cI qg_done 16 g_done, rI cI qg_undone 130 g_undone, rI cI qg_selves 16 g_selves, rI cI qg_when 27 g_when, rI cI qg_jury 16 g_jury, rI cI qg_years 6 g_years, rI cI qg_states 6 g_states, rI cI qg_kept 290 g_kept] → va_S A s.heap H locs → lv_has ls 3 [(0, .ref qg), (1, .int a1), (2, .int a2)] → W p l e ({ frames := 2, cells := 0, slots := 0, locals := 46 } : Room) s m args below meth c H locs 0 0 Q (F0 m 83 ls [.long x5, .long g_trace, .ref qg]) := by
        intro x5 H locs ls hf hP hD hS hl
        replace hf := hk5 x5 hf
        refine lv_ladd hx hb dX7_mark_83 ?_
        refine k_put X hP hD hS [(qg, .inr (7, [.ref qg_text, .int g_size, .int g_at, .int g_begin, .int g_token, .int g_told, .ref qg_read, .ref qg_life, .int g_dones, .ref qg_done, .int g_undos, .ref qg_undone, .ref qg_selves, .ref qg_when, .ref qg_jury, .int g_seens, .ref qg_years, .ref qg_states, .long (g_trace + x5), .ref qg_kept])), rI cI qg_text 200 g_text, rI cI qg_read 55 g_read, rI cI qg_life 55 g_life, rI cI qg_done 16 g_done, rI cI qg_undone 130 g_undone, rI cI qg_selves 16 g_selves, rI cI qg_when 27 g_when, rI cI qg_jury 16 g_jury, rI cI qg_years 6 g_years, rI cI qg_states 6 g_states, rI cI qg_kept 290 g_kept] 0 rfl rfl inX7 tyX7_ok nmX7 18 (by decide) fl_RX7_203 rfl rfl rfl rfl (Nat.le_of_ble_eq_true rfl) rfl dX7_mark_84 (fun H locs hP hD hS => ?_)
        refine lv_iload_n hx hb dX7_mark_87 rfl (lv_at hl 1 rfl) ?_
        by_cases c6 : a1 = 0
        · replace hf := ite_t c6 hf
          refine top_eq c6 ?_
          refine lv_tableIn (tgt := 124) hx hb dX7_mark_88 (by decide) (by decide) rfl (by decide) ?_
          refine lv_aload_n hx hb dX7_mark_124 rfl (lv_at hl 0 rfl) ?_
          refine lv_iload_n hx hb dX7_mark_125 rfl (lv_at hl 2 rfl) ?_
          obtain ⟨r7, hr7, hf⟩ := bnd hf
          refine k_callV X hP hD hS [(qg, .inr (7, [.ref qg_text, .int g_size, .int g_at, .int g_begin, .int g_token, .int g_told, .ref qg_read, .ref qg_life, .int g_dones, .ref qg_done, .int g_undos, .ref qg_undone, .ref qg_selves, .ref qg_when, .ref qg_jury, .int g_seens, .ref qg_years, .ref qg_states, .long (g_trace + x5), .ref qg_kept])), rI cI qg_text 200 g_text, rI cI qg_read 55 g_read, rI cI qg_life 55 g_life, rI cI qg_done 16 g_done, rI cI qg_undone 130 g_undone, rI cI qg_selves 16 g_selves, rI cI qg_when 27 g_when, rI cI qg_jury 16 g_jury, rI cI qg_years 6 g_years, rI cI qg_states 6 g_states, rI cI qg_kept 290 g_kept] (ctX7_lean l D cI cZ cD cH qg qg_text qg_read qg_life qg_done qg_undone qg_selves qg_when qg_jury qg_years qg_states qg_kept a2 g_size g_at g_begin g_token g_told g_dones g_undos g_seens (g_trace + x5) g_text g_read g_life g_done g_undone g_selves g_when g_jury g_years g_states g_kept r7 hr7) ml_RX7_137 im_yX7_lean se_yX7_lean in_RX7 cd_yX7_lean rfl rfl hd_yX7_lean ⟨by decide, by decide⟩ ⟨Nat.zero_le _, Nat.zero_le _⟩ [0, 1, 2, 3, 4, 5, 6, 7, 8, 9, 10, 11] [some 0, some 1, some 2, some 3, some 4, some 5, some 6, some 7, some 8, some 9, some 10, some 11] rfl (by decide +kernel) rfl (by decide +kernel) rfl rfl (q0 := 0) rfl rfl rfl hl.1 rfl rfl (Nat.le_of_ble_eq_true rfl) rfl dX7_mark_126 (fun H locs hP hD hS => ?_)
          replace hf := Option.some.inj hf
          subst hf
          exact hret H locs _ ls dX7_mark_129 hP hD hS
        · replace hf := ite_f c6 hf
          by_cases c8 : a1 = 1
          · replace hf := ite_t c8 hf
            refine top_eq c8 ?_
            refine lv_tableIn (tgt := 130) hx hb dX7_mark_88 (by decide) (by decide) rfl (by decide) ?_
            refine lv_aload_n hx hb dX7_mark_130 rfl (lv_at hl 0 rfl) ?_
            refine lv_iload_n hx hb dX7_mark_131 rfl (lv_at hl 2 rfl) ?_
            obtain ⟨r9, hr9, hf⟩ := bnd hf
            refine k_callV X hP hD hS [(qg, .inr (7, [.ref qg_text, .int g_size, .int g_at, .int g_begin, .int g_token, .int g_told, .ref qg_read, .ref qg_life, .int g_dones, .ref qg_done, .int g_undos, .ref qg_undone, .ref qg_selves, .ref qg_when, .ref qg_jury, .int g_seens, .ref qg_years, .ref qg_states, .long (g_trace + x5), .ref qg_kept])), rI cI qg_text 200 g_text, rI cI qg_read 55 g_read, rI cI qg_life 55 g_life, rI cI qg_done 16 g_done, rI cI qg_undone 130 g_undone, rI cI qg_selves 16 g_selves, rI cI qg_when 27 g_when, rI cI qg_jury 16 g_jury, rI cI qg_years 6 g_years, rI cI qg_states 6 g_states, rI cI qg_kept 290 g_kept] (ctX7_lean l D cI cZ cD cH qg qg_text qg_read qg_life qg_done qg_undone qg_selves qg_when qg_jury qg_years qg_states qg_kept a2 g_size g_at g_begin g_token g_told g_dones g_undos g_seens (g_trace + x5) g_text g_read g_life g_done g_undone g_selves g_when g_jury g_years g_states g_kept r9 hr9) ml_RX7_137 im_yX7_lean se_yX7_lean in_RX7 cd_yX7_lean rfl rfl hd_yX7_lean ⟨by decide, by decide⟩ ⟨Nat.zero_le _, Nat.zero_le _⟩ [0, 1, 2, 3, 4, 5, 6, 7, 8, 9, 10, 11] [some 0, some 1, some 2, some 3, some 4, some 5, some 6, some 7, some 8, some 9, some 10, some 11] rfl (by decide +kernel) rfl (by decide +kernel) rfl rfl (q0 := 0) rfl rfl rfl hl.1 rfl rfl (Nat.le_of_ble_eq_true rfl) rfl dX7_mark_132 (fun H locs hP hD hS => ?_)
            refine lv_aload_n hx hb dX7_mark_135 rfl (lv_at hl 0 rfl) ?_
            refine lv_iload_n hx hb dX7_mark_136 rfl (lv_at hl 2 rfl) ?_
            refine lv_iconst (v := 2) hx hb dX7_mark_137 (by decide) ?_
            obtain ⟨r10, hr10, hf⟩ := bnd hf
            refine k_callV X hP hD hS [(qg, .inr (7, [.ref qg_text, .int g_size, .int g_at, .int g_begin, .int g_token, .int g_told, .ref qg_read, .ref qg_life, .int g_dones, .ref qg_done, .int g_undos, .ref qg_undone, .ref qg_selves, .ref qg_when, .ref qg_jury, .int g_seens, .ref qg_years, .ref qg_states, .long (g_trace + x5), .ref qg_kept])), rI cI qg_text 200 g_text, rI cI qg_read 55 g_read, rI cI qg_life 55 g_life, rI cI qg_done 16 g_done, rI cI qg_undone 130 g_undone, rI cI qg_selves 16 g_selves, rI cI qg_when 27 g_when, rI cI qg_jury 16 g_jury, rI cI qg_years 6 g_years, rI cI qg_states 6 g_states, rI cI qg_kept 290 g_kept] (ctX7_of l D cI cZ cD cH qg qg_text qg_read qg_life qg_done qg_undone qg_selves qg_when qg_jury qg_years qg_states qg_kept a2 2 g_size g_at g_begin g_token g_told g_dones g_undos g_seens (g_trace + x5) g_text g_read g_life g_done g_undone g_selves g_when g_jury g_years g_states g_kept r10 hr10) ml_RX7_128 im_yX7_of se_yX7_of in_RX7 cd_yX7_of rfl rfl hd_yX7_of ⟨by decide, by decide⟩ ⟨Nat.zero_le _, Nat.zero_le _⟩ [0, 1, 2, 3, 4, 5, 6, 7, 8, 9, 10, 11] [some 0, some 1, some 2, some 3, some 4, some 5, some 6, some 7, some 8, some 9, some 10, some 11] rfl (by decide +kernel) rfl (by decide +kernel) rfl rfl (q0 := 0) rfl rfl rfl hl.1 rfl rfl (Nat.le_of_ble_eq_true rfl) rfl dX7_mark_138 (fun H locs hP hD hS => ?_)
            refine lv_iadd hx hb dX7_mark_141 ?_
            replace hf := Option.some.inj hf
            subst hf
            exact hret H locs _ ls dX7_mark_142 hP hD hS
          · replace hf := ite_f c8 hf
            by_cases c11 : a1 = 2
            · replace hf := ite_t c11 hf
              refine top_eq c11 ?_
              refine lv_tableIn (tgt := 143) hx hb dX7_mark_88 (by decide) (by decide) rfl (by decide) ?_
              refine lv_aload_n hx hb dX7_mark_143 rfl (lv_at hl 0 rfl) ?_
              refine lv_iload_n hx hb dX7_mark_144 rfl (lv_at hl 2 rfl) ?_
              obtain ⟨r12, hr12, hf⟩ := bnd hf
              refine k_callV X hP hD hS [(qg, .inr (7, [.ref qg_text, .int g_size, .int g_at, .int g_begin, .int g_token, .int g_told, .ref qg_read, .ref qg_life, .int g_dones, .ref qg_done, .int g_undos, .ref qg_undone, .ref qg_selves, .ref qg_when, .ref qg_jury, .int g_seens, .ref qg_years, .ref qg_states, .long (g_trace + x5), .ref qg_kept])), rI cI qg_text 200 g_text, rI cI qg_read 55 g_read, rI cI qg_life 55 g_life, rI cI qg_done 16 g_done, rI cI qg_undone 130 g_undone, rI cI qg_selves 16 g_selves, rI cI qg_when 27 g_when, rI cI qg_jury 16 g_jury, rI cI qg_years 6 g_years, rI cI qg_states 6 g_states, rI cI qg_kept 290 g_kept] (ctX7_lean l D cI cZ cD cH qg qg_text qg_read qg_life qg_done qg_undone qg_selves qg_when qg_jury qg_years qg_states qg_kept a2 g_size g_at g_begin g_token g_told g_dones g_undos g_seens (g_trace + x5) g_text g_read g_life g_done g_undone g_selves g_when g_jury g_years g_states g_kept r12 hr12) ml_RX7_137 im_yX7_lean se_yX7_lean in_RX7 cd_yX7_lean rfl rfl hd_yX7_lean ⟨by decide, by decide⟩ ⟨Nat.zero_le _, Nat.zero_le _⟩ [0, 1, 2, 3, 4, 5, 6, 7, 8, 9, 10, 11] [some 0, some 1, some 2, some 3, some 4, some 5, some 6, some 7, some 8, some 9, some 10, some 11] rfl (by decide +kernel) rfl (by decide +kernel) rfl rfl (q0 := 0) rfl rfl rfl hl.1 rfl rfl (Nat.le_of_ble_eq_true rfl) rfl dX7_mark_145 (fun H locs hP hD hS => ?_)
              refine lv_aload_n hx hb dX7_mark_148 rfl (lv_at hl 0 rfl) ?_
              refine k_get X hP 0 rfl rfl inX7 8 (by decide) fl_RX7_119 rfl rfl dX7_mark_149 ?_
              refine lv_isub hx hb dX7_mark_152 ?_
              replace hf := Option.some.inj hf
              subst hf
              exact hret H locs _ ls dX7_mark_153 hP hD hS
            · replace hf := ite_f c11 hf
              by_cases c13 : a1 = 3
              · replace hf := ite_t c13 hf
                refine top_eq c13 ?_
                refine lv_tableIn (tgt := 154) hx hb dX7_mark_88 (by decide) (by decide) rfl (by decide) ?_
                refine lv_iconst (v := 2) hx hb dX7_mark_154 (by decide) ?_
                refine lv_aload_n hx hb dX7_mark_155 rfl (lv_at hl 0 rfl) ?_
                refine lv_iload_n hx hb dX7_mark_156 rfl (lv_at hl 2 rfl) ?_
                obtain ⟨r14, hr14, hf⟩ := bnd hf
                refine k_callV X hP hD hS [(qg, .inr (7, [.ref qg_text, .int g_size, .int g_at, .int g_begin, .int g_token, .int g_told, .ref qg_read, .ref qg_life, .int g_dones, .ref qg_done, .int g_undos, .ref qg_undone, .ref qg_selves, .ref qg_when, .ref qg_jury, .int g_seens, .ref qg_years, .ref qg_states, .long (g_trace + x5), .ref qg_kept])), rI cI qg_text 200 g_text, rI cI qg_read 55 g_read, rI cI qg_life 55 g_life, rI cI qg_done 16 g_done, rI cI qg_undone 130 g_undone, rI cI qg_selves 16 g_selves, rI cI qg_when 27 g_when, rI cI qg_jury 16 g_jury, rI cI qg_years 6 g_years, rI cI qg_states 6 g_states, rI cI qg_kept 290 g_kept] (ctX7_lean l D cI cZ cD cH qg qg_text qg_read qg_life qg_done qg_undone qg_selves qg_when qg_jury qg_years qg_states qg_kept a2 g_size g_at g_begin g_token g_told g_dones g_undos g_seens (g_trace + x5) g_text g_read g_life g_done g_undone g_selves g_when g_jury g_years g_states g_kept r14 hr14) ml_RX7_137 im_yX7_lean se_yX7_lean in_RX7 cd_yX7_lean rfl rfl hd_yX7_lean ⟨by decide, by decide⟩ ⟨Nat.zero_le _, Nat.zero_le _⟩ [0, 1, 2, 3, 4, 5, 6, 7, 8, 9, 10, 11] [some 0, some 1, some 2, some 3, some 4, some 5, some 6, some 7, some 8, some 9, some 10, some 11] rfl (by decide +kernel) rfl (by decide +kernel) rfl rfl (q0 := 0) rfl rfl rfl hl.1 rfl rfl (Nat.le_of_ble_eq_true rfl) rfl dX7_mark_157 (fun H locs hP hD hS => ?_)
                refine lv_aload_n hx hb dX7_mark_160 rfl (lv_at hl 0 rfl) ?_
                refine lv_iload_n hx hb dX7_mark_161 rfl (lv_at hl 2 rfl) ?_
                refine lv_iconst (v := 2) hx hb dX7_mark_162 (by decide) ?_
                obtain ⟨r15, hr15, hf⟩ := bnd hf
                refine k_callV X hP hD hS [(qg, .inr (7, [.ref qg_text, .int g_size, .int g_at, .int g_begin, .int g_token, .int g_told, .ref qg_read, .ref qg_life, .int g_dones, .ref qg_done, .int g_undos, .ref qg_undone, .ref qg_selves, .ref qg_when, .ref qg_jury, .int g_seens, .ref qg_years, .ref qg_states, .long (g_trace + x5), .ref qg_kept])), rI cI qg_text 200 g_text, rI cI qg_read 55 g_read, rI cI qg_life 55 g_life, rI cI qg_done 16 g_done, rI cI qg_undone 130 g_undone, rI cI qg_selves 16 g_selves, rI cI qg_when 27 g_when, rI cI qg_jury 16 g_jury, rI cI qg_years 6 g_years, rI cI qg_states 6 g_states, rI cI qg_kept 290 g_kept] (ctX7_of l D cI cZ cD cH qg qg_text qg_read qg_life qg_done qg_undone qg_selves qg_when qg_jury qg_years qg_states qg_kept a2 2 g_size g_at g_begin g_token g_told g_dones g_undos g_seens (g_trace + x5) g_text g_read g_life g_done g_undone g_selves g_when g_jury g_years g_states g_kept r15 hr15) ml_RX7_128 im_yX7_of se_yX7_of in_RX7 cd_yX7_of rfl rfl hd_yX7_of ⟨by decide, by decide⟩ ⟨Nat.zero_le _, Nat.zero_le _⟩ [0, 1, 2, 3, 4, 5, 6, 7, 8, 9, 10, 11] [some 0, some 1, some 2, some 3, some 4, some 5, some 6, some 7, some 8, some 9, some 10, some 11] rfl (by decide +kernel) rfl (by decide +kernel) rfl rfl (q0 := 0) rfl rfl rfl hl.1 rfl rfl (Nat.le_of_ble_eq_true rfl) rfl dX7_mark_163 (fun H locs hP hD hS => ?_)
                refine lv_iadd hx hb dX7_mark_166 ?_
                refine lv_imul hx hb dX7_mark_167 ?_
                replace hf := Option.some.inj hf
                subst hf
                exact hret H locs _ ls dX7_mark_168 hP hD hS
              · replace hf := ite_f c13 hf
                by_cases c16 : a1 = 4
                · replace hf := ite_t c16 hf
                  refine top_eq c16 ?_
                  refine lv_tableIn (tgt := 169) hx hb dX7_mark_88 (by decide) (by decide) rfl (by decide) ?_
                  refine lv_aload_n hx hb dX7_mark_169 rfl (lv_at hl 0 rfl) ?_
                  refine lv_iload_n hx hb dX7_mark_170 rfl (lv_at hl 2 rfl) ?_
                  obtain ⟨r17, hr17, hf⟩ := bnd hf
                  refine k_callV X hP hD hS [(qg, .inr (7, [.ref qg_text, .int g_size, .int g_at, .int g_begin, .int g_token, .int g_told, .ref qg_read, .ref qg_life, .int g_dones, .ref qg_done, .int g_undos, .ref qg_undone, .ref qg_selves, .ref qg_when, .ref qg_jury, .int g_seens, .ref qg_years, .ref qg_states, .long (g_trace + x5), .ref qg_kept])), rI cI qg_text 200 g_text, rI cI qg_read 55 g_read, rI cI qg_life 55 g_life, rI cI qg_done 16 g_done, rI cI qg_undone 130 g_undone, rI cI qg_selves 16 g_selves, rI cI qg_when 27 g_when, rI cI qg_jury 16 g_jury, rI cI qg_years 6 g_years, rI cI qg_states 6 g_states, rI cI qg_kept 290 g_kept] (ctX7_lean l D cI cZ cD cH qg qg_text qg_read qg_life qg_done qg_undone qg_selves qg_when qg_jury qg_years qg_states qg_kept a2 g_size g_at g_begin g_token g_told g_dones g_undos g_seens (g_trace + x5) g_text g_read g_life g_done g_undone g_selves g_when g_jury g_years g_states g_kept r17 hr17) ml_RX7_137 im_yX7_lean se_yX7_lean in_RX7 cd_yX7_lean rfl rfl hd_yX7_lean ⟨by decide, by decide⟩ ⟨Nat.zero_le _, Nat.zero_le _⟩ [0, 1, 2, 3, 4, 5, 6, 7, 8, 9, 10, 11] [some 0, some 1, some 2, some 3, some 4, some 5, some 6, some 7, some 8, some 9, some 10, some 11] rfl (by decide +kernel) rfl (by decide +kernel) rfl rfl (q0 := 0) rfl rfl rfl hl.1 rfl rfl (Nat.le_of_ble_eq_true rfl) rfl dX7_mark_171 (fun H locs hP hD hS => ?_)
                  refine lv_aload_n hx hb dX7_mark_174 rfl (lv_at hl 0 rfl) ?_
                  refine k_get X hP 0 rfl rfl inX7 8 (by decide) fl_RX7_119 rfl rfl dX7_mark_175 ?_
                  refine lv_isub hx hb dX7_mark_178 ?_
                  refine lv_aload_n hx hb dX7_mark_179 rfl (lv_at hl 0 rfl) ?_
                  refine k_get X hP 0 rfl rfl inX7 7 (by decide) fl_RX7_16 rfl rfl dX7_mark_180 ?_
                  refine lv_iconst (v := 3) hx hb dX7_mark_183 (by decide) ?_
                  obtain ⟨h18, hf⟩ := ck_t hf
                  refine k_iald X hP 3 0 rfl rfl h18 dX7_mark_184 ?_
                  refine lv_iadd hx hb dX7_mark_185 ?_
                  replace hf := Option.some.inj hf
                  subst hf
                  exact hret H locs _ ls dX7_mark_186 hP hD hS
                · replace hf := ite_f c16 hf
                  have zc6 := i32_ne (k := 0) rfl c6
                  have zc8 := i32_ne (k := 1) rfl c8
                  have zc11 := i32_ne (k := 2) rfl c11
                  have zc13 := i32_ne (k := 3) rfl c13
                  have zc16 := i32_ne (k := 4) rfl c16
                  refine lv_tableOut (tgt := 187) hx hb dX7_mark_88 (by omega) (by decide) ?_
                  refine lv_aload_n hx hb dX7_mark_187 rfl (lv_at hl 0 rfl) ?_
                  refine lv_iload_n hx hb dX7_mark_188 rfl (lv_at hl 2 rfl) ?_
                  obtain ⟨r19, hr19, hf⟩ := bnd hf
                  refine k_callV X hP hD hS [(qg, .inr (7, [.ref qg_text, .int g_size, .int g_at, .int g_begin, .int g_token, .int g_told, .ref qg_read, .ref qg_life, .int g_dones, .ref qg_done, .int g_undos, .ref qg_undone, .ref qg_selves, .ref qg_when, .ref qg_jury, .int g_seens, .ref qg_years, .ref qg_states, .long (g_trace + x5), .ref qg_kept])), rI cI qg_text 200 g_text, rI cI qg_read 55 g_read, rI cI qg_life 55 g_life, rI cI qg_done 16 g_done, rI cI qg_undone 130 g_undone, rI cI qg_selves 16 g_selves, rI cI qg_when 27 g_when, rI cI qg_jury 16 g_jury, rI cI qg_years 6 g_years, rI cI qg_states 6 g_states, rI cI qg_kept 290 g_kept] (ctX7_lean l D cI cZ cD cH qg qg_text qg_read qg_life qg_done qg_undone qg_selves qg_when qg_jury qg_years qg_states qg_kept a2 g_size g_at g_begin g_token g_told g_dones g_undos g_seens (g_trace + x5) g_text g_read g_life g_done g_undone g_selves g_when g_jury g_years g_states g_kept r19 hr19) ml_RX7_137 im_yX7_lean se_yX7_lean in_RX7 cd_yX7_lean rfl rfl hd_yX7_lean ⟨by decide, by decide⟩ ⟨Nat.zero_le _, Nat.zero_le _⟩ [0, 1, 2, 3, 4, 5, 6, 7, 8, 9, 10, 11] [some 0, some 1, some 2, some 3, some 4, some 5, some 6, some 7, some 8, some 9, some 10, some 11] rfl (by decide +kernel) rfl (by decide +kernel) rfl rfl (q0 := 0) rfl rfl rfl hl.1 rfl rfl (Nat.le_of_ble_eq_true rfl) rfl dX7_mark_189 (fun H locs hP hD hS => ?_)
                  refine lv_bipush (v := 9) hx hb dX7_mark_192 (by decide) ?_
                  refine lv_aload_n hx hb dX7_mark_194 rfl (lv_at hl 0 rfl) ?_
                  refine lv_iload_n hx hb dX7_mark_195 rfl (lv_at hl 2 rfl) ?_
                  refine lv_iconst (v := 1) hx hb dX7_mark_196 (by decide) ?_
                  obtain ⟨r20, hr20, hf⟩ := bnd hf
                  refine k_callV X hP hD hS [(qg, .inr (7, [.ref qg_text, .int g_size, .int g_at, .int g_begin, .int g_token, .int g_told, .ref qg_read, .ref qg_life, .int g_dones, .ref qg_done, .int g_undos, .ref qg_undone, .ref qg_selves, .ref qg_when, .ref qg_jury, .int g_seens, .ref qg_years, .ref qg_states, .long (g_trace + x5), .ref qg_kept])), rI cI qg_text 200 g_text, rI cI qg_read 55 g_read, rI cI qg_life 55 g_life, rI cI qg_done 16 g_done, rI cI qg_undone 130 g_undone, rI cI qg_selves 16 g_selves, rI cI qg_when 27 g_when, rI cI qg_jury 16 g_jury, rI cI qg_years 6 g_years, rI cI qg_states 6 g_states, rI cI qg_kept 290 g_kept] (ctX7_of l D cI cZ cD cH qg qg_text qg_read qg_life qg_done qg_undone qg_selves qg_when qg_jury qg_years qg_states qg_kept a2 1 g_size g_at g_begin g_token g_told g_dones g_undos g_seens (g_trace + x5) g_text g_read g_life g_done g_undone g_selves g_when g_jury g_years g_states g_kept r20 hr20) ml_RX7_128 im_yX7_of se_yX7_of in_RX7 cd_yX7_of rfl rfl hd_yX7_of ⟨by decide, by decide⟩ ⟨Nat.zero_le _, Nat.zero_le _⟩ [0, 1, 2, 3, 4, 5, 6, 7, 8, 9, 10, 11] [some 0, some 1, some 2, some 3, some 4, some 5, some 6, some 7, some 8, some 9, some 10, some 11] rfl (by decide +kernel) rfl (by decide +kernel) rfl rfl (q0 := 0) rfl rfl rfl hl.1 rfl rfl (Nat.le_of_ble_eq_true rfl) rfl dX7_mark_197 (fun H locs hP hD hS => ?_)
                  refine lv_imul hx hb dX7_mark_200 ?_
                  refine lv_iadd hx hb dX7_mark_201 ?_
                  replace hf := Option.some.inj hf
                  subst hf
                  exact hret H locs _ ls dX7_mark_202 hP hD hS
      refine lv_if_ne (tgt := 36) hx hb dX7_mark_29 (by decide) (fun c21 => ?_) (fun c21 => ?_)
      · replace hf := ite_f c21 hf
        refine lv_iload_n hx hb dX7_mark_36 rfl (lv_at hl 1 rfl) ?_
        refine lv_iconst (v := 1) hx hb dX7_mark_37 (by decide) ?_
        refine lv_icmp_ne (tgt := 47) hx hb dX7_mark_38 (by decide) (fun c22 => ?_) (fun c22 => ?_)
        · replace hf := ite_f c22 hf
          refine lv_iload_n hx hb dX7_mark_47 rfl (lv_at hl 1 rfl) ?_
          refine lv_iconst (v := 2) hx hb dX7_mark_48 (by decide) ?_
          refine lv_icmp_ne (tgt := 58) hx hb dX7_mark_49 (by decide) (fun c23 => ?_) (fun c23 => ?_)
          · replace hf := ite_f c23 hf
            refine lv_iload_n hx hb dX7_mark_58 rfl (lv_at hl 1 rfl) ?_
            refine lv_iconst (v := 3) hx hb dX7_mark_59 (by decide) ?_
            refine lv_icmp_ne (tgt := 69) hx hb dX7_mark_60 (by decide) (fun c24 => ?_) (fun c24 => ?_)
            · replace hf := ite_f c24 hf
              refine lv_iload_n hx hb dX7_mark_69 rfl (lv_at hl 1 rfl) ?_
              refine lv_iconst (v := 4) hx hb dX7_mark_70 (by decide) ?_
              refine lv_icmp_ne (tgt := 80) hx hb dX7_mark_71 (by decide) (fun c25 => ?_) (fun c25 => ?_)
              · replace hf := ite_f c25 hf
                refine lv_ldc2 hx hb hown (hts _ cl_RX7_215) dX7_mark_80 ?_
                exact hj5 _ H locs ls hf hP hD hS hl
              · replace hf := ite_t c25 hf
                refine lv_ldc2 hx hb hown (hts _ cl_RX7_213) dX7_mark_74 ?_
                refine lv_goto (tgt := 83) hx hb dX7_mark_77 (by decide) ?_
                exact hj5 _ H locs ls hf hP hD hS hl
            · replace hf := ite_t c24 hf
              refine lv_ldc2 hx hb hown (hts _ cl_RX7_211) dX7_mark_63 ?_
              refine lv_goto (tgt := 83) hx hb dX7_mark_66 (by decide) ?_
              exact hj5 _ H locs ls hf hP hD hS hl
          · replace hf := ite_t c23 hf
            refine lv_ldc2 hx hb hown (hts _ cl_RX7_209) dX7_mark_52 ?_
            refine lv_goto (tgt := 83) hx hb dX7_mark_55 (by decide) ?_
            exact hj5 _ H locs ls hf hP hD hS hl
        · replace hf := ite_t c22 hf
          refine lv_ldc2 hx hb hown (hts _ cl_RX7_207) dX7_mark_41 ?_
          refine lv_goto (tgt := 83) hx hb dX7_mark_44 (by decide) ?_
          exact hj5 _ H locs ls hf hP hD hS hl
      · replace hf := ite_t c21 hf
        refine lv_lconst (v := 1) hx hb dX7_mark_32 (by decide) ?_
        refine lv_goto (tgt := 83) hx hb dX7_mark_33 (by decide) ?_
        exact hj5 _ H locs ls hf hP hD hS hl
    · replace hf := ite_t c4 hf
      refine lv_ldc hx hb hown (hts _ ck_RX7_141) dX7_mark_20 ?_
      replace hf := Option.some.inj hf
      subst hf
      exact hret H locs _ ls dX7_mark_22 hP hD hS

def fX7_trace (g_trace : Int64) : Option (Int64) :=
  some g_trace
set_option maxHeartbeats 4000000 in
set_option maxRecDepth 100000 in
theorem ctX7_trace (l : Launch) (D : va_G) (cI cZ cD cH : ClassId) (qg : Nat) (qg_text : Nat) (qg_read : Nat) (qg_life : Nat) (qg_done : Nat) (qg_undone : Nat) (qg_selves : Nat) (qg_when : Nat) (qg_jury : Nat) (qg_years : Nat) (qg_states : Nat) (qg_kept : Nat) (g_size : Int32) (g_at : Int32) (g_begin : Int32) (g_token : Int32) (g_told : Int32) (g_dones : Int32) (g_undos : Int32) (g_seens : Int32) (g_trace : Int64) (g_text : Nat → Int32) (g_read : Nat → Int32) (g_life : Nat → Int32) (g_done : Nat → Int32) (g_undone : Nat → Int32) (g_selves : Nat → Int32) (g_when : Nat → Int32) (g_jury : Nat → Int32) (g_years : Nat → Int32) (g_states : Nat → Int32) (g_kept : Nat → Int32) (o : Int64) (hf : fX7_trace g_trace = some o) : Ct l yX7_trace cX7_trace 1 (some .long) { frames := 0, cells := 0, slots := 0, locals := 0 } D (Tys cI cZ cD cH) [.ref qg] [(qg, .inr (7, [.ref qg_text, .int g_size, .int g_at, .int g_begin, .int g_token, .int g_told, .ref qg_read, .ref qg_life, .int g_dones, .ref qg_done, .int g_undos, .ref qg_undone, .ref qg_selves, .ref qg_when, .ref qg_jury, .int g_seens, .ref qg_years, .ref qg_states, .long g_trace, .ref qg_kept])), rI cI qg_text 200 g_text, rI cI qg_read 55 g_read, rI cI qg_life 55 g_life, rI cI qg_done 16 g_done, rI cI qg_undone 130 g_undone, rI cI qg_selves 16 g_selves, rI cI qg_when 27 g_when, rI cI qg_jury 16 g_jury, rI cI qg_years 6 g_years, rI cI qg_states 6 g_states, rI cI qg_kept 290 g_kept] [(qg, .inr (7, [.ref qg_text, .int g_size, .int g_at, .int g_begin, .int g_token, .int g_told, .ref qg_read, .ref qg_life, .int g_dones, .ref qg_done, .int g_undos, .ref qg_undone, .ref qg_selves, .ref qg_when, .ref qg_jury, .int g_seens, .ref qg_years, .ref qg_states, .long g_trace, .ref qg_kept])), rI cI qg_text 200 g_text, rI cI qg_read 55 g_read, rI cI qg_life 55 g_life, rI cI qg_done 16 g_done, rI cI qg_undone 130 g_undone, rI cI qg_selves 16 g_selves, rI cI qg_when 27 g_when, rI cI qg_jury 16 g_jury, rI cI qg_years 6 g_years, rI cI qg_states 6 g_states, rI cI qg_kept 290 g_kept] (some (.long o)) 0 0 := by
  refine mkL (by decide) (Nat.le_of_ble_eq_true rfl) ?_
  intro p e s m args below meth c A Q X hret ls hl H locs hP hD hS
  replace X : Cx p s m args c D (Tys cI cZ cD cH) A cX7_trace RX7 1 := X
  obtain ⟨hx, hb, hml, hown, hts, hK, hZ, hA⟩ := id X
  have hl : lv_has ls 1 [(0, .ref qg)] := hl
  unfold fX7_trace at hf
  refine lv_aload_n hx hb dX7_trace_0 rfl (lv_at hl 0 rfl) ?_
  refine k_get X hP 0 rfl rfl inX7 18 (by decide) fl_RX7_203 rfl rfl dX7_trace_1 ?_
  replace hf := Option.some.inj hf
  subst hf
  exact hret H locs _ ls dX7_trace_4 hP hD hS

def sX7_keep_51 (v2 : Int32) (g_done : Nat → Int32) (v3 : Int32) (g_kept : Nat → Int32) : Option ((Int32 × (Nat → Int32)) ⊕ (((Nat → Int32)))) :=
  if 12 ≤ v3 then some (.inr g_kept) else if inb v3 16 = true then if inb ((v2 + 3) + v3) 290 = true then some (.inl (v3 + 1, upd g_kept ((v2 + 3) + v3).toNatClampNeg (g_done v3.toNatClampNeg))) else none else none
def sX7_keep_81 (v2 : Int32) (g_undone : Nat → Int32) (v3 : Int32) (g_kept : Nat → Int32) : Option ((Int32 × (Nat → Int32)) ⊕ (((Nat → Int32)))) :=
  if 130 ≤ v3 then some (.inr g_kept) else if inb v3 130 = true then if inb ((v2 + 15) + v3) 290 = true then some (.inl (v3 + 1, upd g_kept ((v2 + 15) + v3).toNatClampNeg (g_undone v3.toNatClampNeg))) else none else none
def fX7_keep (a1 : Int32) (g_dones : Int32) (g_undos : Int32) (g_done : Nat → Int32) (g_undone : Nat → Int32) (g_kept : Nat → Int32) : Option (Int32 × (Nat → Int32)) :=
  (fX7_in a1.toInt64 0 1).bind (fun r1 => if (bI r1) = 0 then some ((-1), g_kept) else if inb (145 * a1) 290 = true then if inb ((145 * a1) + 1) 290 = true then if inb ((145 * a1) + 2) 290 = true then (lpd (fun s6 => sX7_keep_51 (145 * a1) g_done s6.1 s6.2) FU (0, upd (upd (upd g_kept (145 * a1).toNatClampNeg 1) ((145 * a1) + 1).toNatClampNeg g_dones) ((145 * a1) + 2).toNatClampNeg g_undos)).bind (fun (y6_0 : (Nat → Int32)) => (lpd (fun s7 => sX7_keep_81 (145 * a1) g_undone s7.1 s7.2) FU (0, y6_0)).bind (fun (y7_0 : (Nat → Int32)) => some (g_dones, y7_0))) else none else none else none)
set_option maxHeartbeats 4000000 in
set_option maxRecDepth 100000 in
theorem ctX7_keep (l : Launch) (D : va_G) (cI cZ cD cH : ClassId) (qg : Nat) (qg_text : Nat) (qg_read : Nat) (qg_life : Nat) (qg_done : Nat) (qg_undone : Nat) (qg_selves : Nat) (qg_when : Nat) (qg_jury : Nat) (qg_years : Nat) (qg_states : Nat) (qg_kept : Nat) (a1 : Int32) (g_size : Int32) (g_at : Int32) (g_begin : Int32) (g_token : Int32) (g_told : Int32) (g_dones : Int32) (g_undos : Int32) (g_seens : Int32) (g_trace : Int64) (g_text : Nat → Int32) (g_read : Nat → Int32) (g_life : Nat → Int32) (g_done : Nat → Int32) (g_undone : Nat → Int32) (g_selves : Nat → Int32) (g_when : Nat → Int32) (g_jury : Nat → Int32) (g_years : Nat → Int32) (g_states : Nat → Int32) (g_kept : Nat → Int32) (o : Int32 × (Nat → Int32)) (hf : fX7_keep a1 g_dones g_undos g_done g_undone g_kept = some o) : Ct l yX7_keep cX7_keep 4 (some .int) { frames := 1, cells := 0, slots := 0, locals := 25 } D (Tys cI cZ cD cH) [.ref qg, .int a1] [(qg, .inr (7, [.ref qg_text, .int g_size, .int g_at, .int g_begin, .int g_token, .int g_told, .ref qg_read, .ref qg_life, .int g_dones, .ref qg_done, .int g_undos, .ref qg_undone, .ref qg_selves, .ref qg_when, .ref qg_jury, .int g_seens, .ref qg_years, .ref qg_states, .long g_trace, .ref qg_kept])), rI cI qg_text 200 g_text, rI cI qg_read 55 g_read, rI cI qg_life 55 g_life, rI cI qg_done 16 g_done, rI cI qg_undone 130 g_undone, rI cI qg_selves 16 g_selves, rI cI qg_when 27 g_when, rI cI qg_jury 16 g_jury, rI cI qg_years 6 g_years, rI cI qg_states 6 g_states, rI cI qg_kept 290 g_kept] [(qg, .inr (7, [.ref qg_text, .int g_size, .int g_at, .int g_begin, .int g_token, .int g_told, .ref qg_read, .ref qg_life, .int g_dones, .ref qg_done, .int g_undos, .ref qg_undone, .ref qg_selves, .ref qg_when, .ref qg_jury, .int g_seens, .ref qg_years, .ref qg_states, .long g_trace, .ref qg_kept])), rI cI qg_text 200 g_text, rI cI qg_read 55 g_read, rI cI qg_life 55 g_life, rI cI qg_done 16 g_done, rI cI qg_undone 130 g_undone, rI cI qg_selves 16 g_selves, rI cI qg_when 27 g_when, rI cI qg_jury 16 g_jury, rI cI qg_years 6 g_years, rI cI qg_states 6 g_states, rI cI qg_kept 290 o.2] (some (.int o.1)) 0 0 := by
  refine mkI (by decide) (Nat.le_of_ble_eq_true rfl) ?_
  intro p e s m args below meth c A Q X hret ls hl H locs hP hD hS
  replace X : Cx p s m args c D (Tys cI cZ cD cH) A cX7_keep RX7 4 := X
  obtain ⟨hx, hb, hml, hown, hts, hK, hZ, hA⟩ := id X
  have hl : lv_has ls 4 [(0, .ref qg), (1, .int a1)] := hl
  unfold fX7_keep at hf
  refine lv_iload_n hx hb dX7_keep_0 rfl (lv_at hl 1 rfl) ?_
  refine lv_i2l (v := a1.toInt64) hx hb dX7_keep_1 rfl ?_
  refine lv_lconst (v := 0) hx hb dX7_keep_2 (by decide) ?_
  refine lv_lconst (v := 1) hx hb dX7_keep_3 (by decide) ?_
  obtain ⟨r1, hr1, hf⟩ := bnd hf
  refine k_callS X hP hD hS [(qg, .inr (7, [.ref qg_text, .int g_size, .int g_at, .int g_begin, .int g_token, .int g_told, .ref qg_read, .ref qg_life, .int g_dones, .ref qg_done, .int g_undos, .ref qg_undone, .ref qg_selves, .ref qg_when, .ref qg_jury, .int g_seens, .ref qg_years, .ref qg_states, .long g_trace, .ref qg_kept])), rI cI qg_text 200 g_text, rI cI qg_read 55 g_read, rI cI qg_life 55 g_life, rI cI qg_done 16 g_done, rI cI qg_undone 130 g_undone, rI cI qg_selves 16 g_selves, rI cI qg_when 27 g_when, rI cI qg_jury 16 g_jury, rI cI qg_years 6 g_years, rI cI qg_states 6 g_states, rI cI qg_kept 290 g_kept] (ctX7_in l D cI cZ cD cH a1.toInt64 0 1 r1 hr1) ml_RX7_51 sm_yX7_in in_RX7 cd_yX7_in rfl rfl hd_yX7_in ⟨by decide, by decide⟩ ⟨Nat.zero_le _, Nat.zero_le _⟩ [] [none, none, none, none, none, none, none, none, none, none, none, none] rfl (by decide +kernel) rfl (by decide +kernel) rfl rfl hl.1 rfl rfl (Nat.le_of_ble_eq_true rfl) rfl dX7_keep_4 (fun H locs hP hD hS => ?_)
  refine lv_if_ne (tgt := 12) hx hb dX7_keep_7 (by decide) (fun c2 => ?_) (fun c2 => ?_)
  · replace hf := ite_f c2 hf
    refine lv_sipush (v := 145) hx hb dX7_keep_12 (by decide) ?_
    refine lv_iload_n hx hb dX7_keep_15 rfl (lv_at hl 1 rfl) ?_
    refine lv_imul hx hb dX7_keep_16 ?_
    refine lv_istore_n (lv' := [(2, .int (145 * a1)), (0, .ref qg), (1, .int a1)]) hx hb dX7_keep_17 rfl hl (by decide) rfl (fun ls hl => ?_)
    refine lv_aload_n hx hb dX7_keep_18 rfl (lv_at hl 1 rfl) ?_
    refine k_get X hP 0 rfl rfl inX7 19 (by decide) fl_RX7_40 rfl rfl dX7_keep_19 ?_
    refine lv_iload_n hx hb dX7_keep_22 rfl (lv_at hl 0 rfl) ?_
    refine lv_iconst (v := 1) hx hb dX7_keep_23 (by decide) ?_
    obtain ⟨h3, hf⟩ := ck_t hf
    refine k_iast X hP hD hS [(qg, .inr (7, [.ref qg_text, .int g_size, .int g_at, .int g_begin, .int g_token, .int g_told, .ref qg_read, .ref qg_life, .int g_dones, .ref qg_done, .int g_undos, .ref qg_undone, .ref qg_selves, .ref qg_when, .ref qg_jury, .int g_seens, .ref qg_years, .ref qg_states, .long g_trace, .ref qg_kept])), rI cI qg_text 200 g_text, rI cI qg_read 55 g_read, rI cI qg_life 55 g_life, rI cI qg_done 16 g_done, rI cI qg_undone 130 g_undone, rI cI qg_selves 16 g_selves, rI cI qg_when 27 g_when, rI cI qg_jury 16 g_jury, rI cI qg_years 6 g_years, rI cI qg_states 6 g_states, rI cI qg_kept 290 (upd g_kept (145 * a1).toNatClampNeg 1)] 11 0 rfl rfl h3 rfl dX7_keep_24 (fun H locs hP hD hS => ?_)
    refine lv_aload_n hx hb dX7_keep_25 rfl (lv_at hl 1 rfl) ?_
    refine k_get X hP 0 rfl rfl inX7 19 (by decide) fl_RX7_40 rfl rfl dX7_keep_26 ?_
    refine lv_iload_n hx hb dX7_keep_29 rfl (lv_at hl 0 rfl) ?_
    refine lv_iconst (v := 1) hx hb dX7_keep_30 (by decide) ?_
    refine lv_iadd hx hb dX7_keep_31 ?_
    refine lv_aload_n hx hb dX7_keep_32 rfl (lv_at hl 1 rfl) ?_
    refine k_get X hP 0 rfl rfl inX7 8 (by decide) fl_RX7_119 rfl rfl dX7_keep_33 ?_
    obtain ⟨h4, hf⟩ := ck_t hf
    refine k_iast X hP hD hS [(qg, .inr (7, [.ref qg_text, .int g_size, .int g_at, .int g_begin, .int g_token, .int g_told, .ref qg_read, .ref qg_life, .int g_dones, .ref qg_done, .int g_undos, .ref qg_undone, .ref qg_selves, .ref qg_when, .ref qg_jury, .int g_seens, .ref qg_years, .ref qg_states, .long g_trace, .ref qg_kept])), rI cI qg_text 200 g_text, rI cI qg_read 55 g_read, rI cI qg_life 55 g_life, rI cI qg_done 16 g_done, rI cI qg_undone 130 g_undone, rI cI qg_selves 16 g_selves, rI cI qg_when 27 g_when, rI cI qg_jury 16 g_jury, rI cI qg_years 6 g_years, rI cI qg_states 6 g_states, rI cI qg_kept 290 (upd (upd g_kept (145 * a1).toNatClampNeg 1) ((145 * a1) + 1).toNatClampNeg g_dones)] 11 0 rfl rfl h4 rfl dX7_keep_36 (fun H locs hP hD hS => ?_)
    refine lv_aload_n hx hb dX7_keep_37 rfl (lv_at hl 1 rfl) ?_
    refine k_get X hP 0 rfl rfl inX7 19 (by decide) fl_RX7_40 rfl rfl dX7_keep_38 ?_
    refine lv_iload_n hx hb dX7_keep_41 rfl (lv_at hl 0 rfl) ?_
    refine lv_iconst (v := 2) hx hb dX7_keep_42 (by decide) ?_
    refine lv_iadd hx hb dX7_keep_43 ?_
    refine lv_aload_n hx hb dX7_keep_44 rfl (lv_at hl 1 rfl) ?_
    refine k_get X hP 0 rfl rfl inX7 10 (by decide) fl_RX7_122 rfl rfl dX7_keep_45 ?_
    obtain ⟨h5, hf⟩ := ck_t hf
    refine k_iast X hP hD hS [(qg, .inr (7, [.ref qg_text, .int g_size, .int g_at, .int g_begin, .int g_token, .int g_told, .ref qg_read, .ref qg_life, .int g_dones, .ref qg_done, .int g_undos, .ref qg_undone, .ref qg_selves, .ref qg_when, .ref qg_jury, .int g_seens, .ref qg_years, .ref qg_states, .long g_trace, .ref qg_kept])), rI cI qg_text 200 g_text, rI cI qg_read 55 g_read, rI cI qg_life 55 g_life, rI cI qg_done 16 g_done, rI cI qg_undone 130 g_undone, rI cI qg_selves 16 g_selves, rI cI qg_when 27 g_when, rI cI qg_jury 16 g_jury, rI cI qg_years 6 g_years, rI cI qg_states 6 g_states, rI cI qg_kept 290 (upd (upd (upd g_kept (145 * a1).toNatClampNeg 1) ((145 * a1) + 1).toNatClampNeg g_dones) ((145 * a1) + 2).toNatClampNeg g_undos)] 11 0 rfl rfl h5 rfl dX7_keep_48 (fun H locs hP hD hS => ?_)
    refine lv_iconst (v := 0) hx hb dX7_keep_49 (by decide) ?_
    refine lv_istore_n (lv' := [(3, .int 0), (2, .int (145 * a1)), (0, .ref qg), (1, .int a1)]) hx hb dX7_keep_50 rfl hl (by decide) rfl (fun ls hl => ?_)
    obtain ⟨e6, he6, hf⟩ := bnd hf
    have hx6_0 : ∀ (y6_0 : (Nat → Int32)), y6_0 = e6 → ∀ (H : Heap) (locs : List Loc) (ls : Array Slot), va_P D vwCl [(qg, .inr (7, [.ref qg_text, .int g_size, .int g_at, .int g_begin, .int g_token, .int g_told, .ref qg_read, .ref qg_life, .int g_dones, .ref qg_done, .int g_undos, .ref qg_undone, .ref qg_selves, .ref qg_when, .ref qg_jury, .int g_seens, .ref qg_years, .ref qg_states, .long g_trace, .ref qg_kept])), rI cI qg_text 200 g_text, rI cI qg_read 55 g_read, rI cI qg_life 55 g_life, rI cI qg_done 16 g_done, rI cI qg_undone 130 g_undone, rI cI qg_selves 16 g_selves, rI cI qg_when 27 g_when, rI cI qg_jury 16 g_jury, rI cI qg_years 6 g_years, rI cI qg_states 6 g_states, rI cI qg_kept 290 y6_0] H → va_D A [(qg, .inr (7, [.ref qg_text, .int g_size, .int g_at, .int g_begin, .int g_token, .int g_told, .ref qg_read, .ref qg_life, .int g_dones, .ref qg_done, .int g_undos, .ref qg_undone, .ref qg_selves, .ref qg_when, .ref qg_jury, .int g_seens, .ref qg_years, .ref qg_states, .long g_trace, .ref qg_kept])), rI cI qg_text 200 g_text, rI cI qg_read 55 g_read, rI cI qg_life 55 g_life, rI cI qg_done 16 g_done, rI cI qg_undone 130 g_undone, rI cI qg_selves 16 g_selves, rI cI qg_when 27 g_when, rI cI qg_jury 16 g_jury, rI cI qg_years 6 g_years, rI cI qg_states 6 g_states, rI cI qg_kept 290 y6_0] → va_S A s.heap H locs → lv_has ls 4 [(0, .ref qg), (2, .int (145 * a1))] → W p l e ({ frames := 1, cells := 0, slots := 0, locals := 25 } : Room) s m args below meth c H locs 0 0 Q (F0 m 79 ls []) := by
      intro y6_0 heq H locs ls hP hD hS hl
      subst heq
      refine lv_iconst (v := 0) hx hb dX7_keep_79 (by decide) ?_
      refine lv_istore_n (lv' := [(3, .int 0), (0, .ref qg), (2, .int (145 * a1))]) hx hb dX7_keep_80 rfl hl (by decide) rfl (fun ls hl => ?_)
      obtain ⟨e7, he7, hf⟩ := bnd hf
      have hx7_0 : ∀ (y7_0 : (Nat → Int32)), y7_0 = e7 → ∀ (H : Heap) (locs : List Loc) (ls : Array Slot), va_P D vwCl [(qg, .inr (7, [.ref qg_text, .int g_size, .int g_at, .int g_begin, .int g_token, .int g_told, .ref qg_read, .ref qg_life, .int g_dones, .ref qg_done, .int g_undos, .ref qg_undone, .ref qg_selves, .ref qg_when, .ref qg_jury, .int g_seens, .ref qg_years, .ref qg_states, .long g_trace, .ref qg_kept])), rI cI qg_text 200 g_text, rI cI qg_read 55 g_read, rI cI qg_life 55 g_life, rI cI qg_done 16 g_done, rI cI qg_undone 130 g_undone, rI cI qg_selves 16 g_selves, rI cI qg_when 27 g_when, rI cI qg_jury 16 g_jury, rI cI qg_years 6 g_years, rI cI qg_states 6 g_states, rI cI qg_kept 290 y7_0] H → va_D A [(qg, .inr (7, [.ref qg_text, .int g_size, .int g_at, .int g_begin, .int g_token, .int g_told, .ref qg_read, .ref qg_life, .int g_dones, .ref qg_done, .int g_undos, .ref qg_undone, .ref qg_selves, .ref qg_when, .ref qg_jury, .int g_seens, .ref qg_years, .ref qg_states, .long g_trace, .ref qg_kept])), rI cI qg_text 200 g_text, rI cI qg_read 55 g_read, rI cI qg_life 55 g_life, rI cI qg_done 16 g_done, rI cI qg_undone 130 g_undone, rI cI qg_selves 16 g_selves, rI cI qg_when 27 g_when, rI cI qg_jury 16 g_jury, rI cI qg_years 6 g_years, rI cI qg_states 6 g_states, rI cI qg_kept 290 y7_0] → va_S A s.heap H locs → lv_has ls 4 [(0, .ref qg)] → W p l e ({ frames := 1, cells := 0, slots := 0, locals := 25 } : Room) s m args below meth c H locs 0 0 Q (F0 m 111 ls []) := by
        intro y7_0 heq H locs ls hP hD hS hl
        subst heq
        refine lv_aload_n hx hb dX7_keep_111 rfl (lv_at hl 0 rfl) ?_
        refine k_get X hP 0 rfl rfl inX7 8 (by decide) fl_RX7_119 rfl rfl dX7_keep_112 ?_
        replace hf := Option.some.inj hf
        subst hf
        exact hret H locs _ ls dX7_keep_115 hP hD hS
      refine lpd_ind (P := fun s7 => ∀ (H : Heap) (locs : List Loc) (ls : Array Slot), va_P D vwCl [(qg, .inr (7, [.ref qg_text, .int g_size, .int g_at, .int g_begin, .int g_token, .int g_told, .ref qg_read, .ref qg_life, .int g_dones, .ref qg_done, .int g_undos, .ref qg_undone, .ref qg_selves, .ref qg_when, .ref qg_jury, .int g_seens, .ref qg_years, .ref qg_states, .long g_trace, .ref qg_kept])), rI cI qg_text 200 g_text, rI cI qg_read 55 g_read, rI cI qg_life 55 g_life, rI cI qg_done 16 g_done, rI cI qg_undone 130 g_undone, rI cI qg_selves 16 g_selves, rI cI qg_when 27 g_when, rI cI qg_jury 16 g_jury, rI cI qg_years 6 g_years, rI cI qg_states 6 g_states, rI cI qg_kept 290 s7.2] H → va_D A [(qg, .inr (7, [.ref qg_text, .int g_size, .int g_at, .int g_begin, .int g_token, .int g_told, .ref qg_read, .ref qg_life, .int g_dones, .ref qg_done, .int g_undos, .ref qg_undone, .ref qg_selves, .ref qg_when, .ref qg_jury, .int g_seens, .ref qg_years, .ref qg_states, .long g_trace, .ref qg_kept])), rI cI qg_text 200 g_text, rI cI qg_read 55 g_read, rI cI qg_life 55 g_life, rI cI qg_done 16 g_done, rI cI qg_undone 130 g_undone, rI cI qg_selves 16 g_selves, rI cI qg_when 27 g_when, rI cI qg_jury 16 g_jury, rI cI qg_years 6 g_years, rI cI qg_states 6 g_states, rI cI qg_kept 290 s7.2] → va_S A s.heap H locs → lv_has ls 4 [(0, .ref qg), (2, .int (145 * a1)), (3, .int s7.1)] → W p l e ({ frames := 1, cells := 0, slots := 0, locals := 25 } : Room) s m args below meth c H locs 0 0 Q (F0 m 81 ls [])) e7 ?_ _ _ he7 H locs ls hP hD hS (lv_sub hl [1, 2, 0] rfl)
      intro s7 r7 hf ih7 hq7 H locs ls hP hD hS hl
      unfold sX7_keep_81 at hf
      refine lv_iload_n hx hb dX7_keep_81 rfl (lv_at hl 2 rfl) ?_
      refine lv_sipush (v := 130) hx hb dX7_keep_82 (by decide) ?_
      refine lv_icmp_ge (tgt := 111) hx hb dX7_keep_85 (by decide) (fun c8 => ?_) (fun c8 => ?_)
      · replace hf := ite_t c8 hf
        exact hx7_0 _ (hq7 _ (Option.some.inj hf).symm) H locs ls hP hD hS (lv_sub hl [0] rfl)
      · replace hf := ite_f c8 hf
        refine lv_aload_n hx hb dX7_keep_88 rfl (lv_at hl 0 rfl) ?_
        refine k_get X hP 0 rfl rfl inX7 19 (by decide) fl_RX7_40 rfl rfl dX7_keep_89 ?_
        refine lv_iload_n hx hb dX7_keep_92 rfl (lv_at hl 1 rfl) ?_
        refine lv_bipush (v := 15) hx hb dX7_keep_93 (by decide) ?_
        refine lv_iadd hx hb dX7_keep_95 ?_
        refine lv_iload_n hx hb dX7_keep_96 rfl (lv_at hl 2 rfl) ?_
        refine lv_iadd hx hb dX7_keep_97 ?_
        refine lv_aload_n hx hb dX7_keep_98 rfl (lv_at hl 0 rfl) ?_
        refine k_get X hP 0 rfl rfl inX7 11 (by decide) fl_RX7_22 rfl rfl dX7_keep_99 ?_
        refine lv_iload_n hx hb dX7_keep_102 rfl (lv_at hl 2 rfl) ?_
        obtain ⟨h9, hf⟩ := ck_t hf
        refine k_iald X hP 5 0 rfl rfl h9 dX7_keep_103 ?_
        obtain ⟨h10, hf⟩ := ck_t hf
        refine k_iast X hP hD hS [(qg, .inr (7, [.ref qg_text, .int g_size, .int g_at, .int g_begin, .int g_token, .int g_told, .ref qg_read, .ref qg_life, .int g_dones, .ref qg_done, .int g_undos, .ref qg_undone, .ref qg_selves, .ref qg_when, .ref qg_jury, .int g_seens, .ref qg_years, .ref qg_states, .long g_trace, .ref qg_kept])), rI cI qg_text 200 g_text, rI cI qg_read 55 g_read, rI cI qg_life 55 g_life, rI cI qg_done 16 g_done, rI cI qg_undone 130 g_undone, rI cI qg_selves 16 g_selves, rI cI qg_when 27 g_when, rI cI qg_jury 16 g_jury, rI cI qg_years 6 g_years, rI cI qg_states 6 g_states, rI cI qg_kept 290 (upd s7.2 (((145 * a1) + 15) + s7.1).toNatClampNeg (g_undone s7.1.toNatClampNeg))] 11 0 rfl rfl h10 rfl dX7_keep_104 (fun H locs hP hD hS => ?_)
        refine lv_iinc (v := s7.1 + 1) (lv' := [(3, .int (s7.1 + 1)), (0, .ref qg), (2, .int (145 * a1))]) hx hb dX7_keep_105 hl (k := 2) rfl rfl (by decide) rfl (fun ls hl => ?_)
        refine lv_goto (tgt := 81) hx hb dX7_keep_108 (by decide) ?_
        exact ih7 _ (Option.some.inj hf).symm H locs ls hP hD hS (lv_sub hl [1, 2, 0] rfl)
    refine lpd_ind (P := fun s6 => ∀ (H : Heap) (locs : List Loc) (ls : Array Slot), va_P D vwCl [(qg, .inr (7, [.ref qg_text, .int g_size, .int g_at, .int g_begin, .int g_token, .int g_told, .ref qg_read, .ref qg_life, .int g_dones, .ref qg_done, .int g_undos, .ref qg_undone, .ref qg_selves, .ref qg_when, .ref qg_jury, .int g_seens, .ref qg_years, .ref qg_states, .long g_trace, .ref qg_kept])), rI cI qg_text 200 g_text, rI cI qg_read 55 g_read, rI cI qg_life 55 g_life, rI cI qg_done 16 g_done, rI cI qg_undone 130 g_undone, rI cI qg_selves 16 g_selves, rI cI qg_when 27 g_when, rI cI qg_jury 16 g_jury, rI cI qg_years 6 g_years, rI cI qg_states 6 g_states, rI cI qg_kept 290 s6.2] H → va_D A [(qg, .inr (7, [.ref qg_text, .int g_size, .int g_at, .int g_begin, .int g_token, .int g_told, .ref qg_read, .ref qg_life, .int g_dones, .ref qg_done, .int g_undos, .ref qg_undone, .ref qg_selves, .ref qg_when, .ref qg_jury, .int g_seens, .ref qg_years, .ref qg_states, .long g_trace, .ref qg_kept])), rI cI qg_text 200 g_text, rI cI qg_read 55 g_read, rI cI qg_life 55 g_life, rI cI qg_done 16 g_done, rI cI qg_undone 130 g_undone, rI cI qg_selves 16 g_selves, rI cI qg_when 27 g_when, rI cI qg_jury 16 g_jury, rI cI qg_years 6 g_years, rI cI qg_states 6 g_states, rI cI qg_kept 290 s6.2] → va_S A s.heap H locs → lv_has ls 4 [(0, .ref qg), (2, .int (145 * a1)), (3, .int s6.1)] → W p l e ({ frames := 1, cells := 0, slots := 0, locals := 25 } : Room) s m args below meth c H locs 0 0 Q (F0 m 51 ls [])) e6 ?_ _ _ he6 H locs ls hP hD hS (lv_sub hl [2, 1, 0] rfl)
    intro s6 r6 hf ih6 hq6 H locs ls hP hD hS hl
    unfold sX7_keep_51 at hf
    refine lv_iload_n hx hb dX7_keep_51 rfl (lv_at hl 2 rfl) ?_
    refine lv_bipush (v := 12) hx hb dX7_keep_52 (by decide) ?_
    refine lv_icmp_ge (tgt := 79) hx hb dX7_keep_54 (by decide) (fun c11 => ?_) (fun c11 => ?_)
    · replace hf := ite_t c11 hf
      exact hx6_0 _ (hq6 _ (Option.some.inj hf).symm) H locs ls hP hD hS (lv_sub hl [0, 1] rfl)
    · replace hf := ite_f c11 hf
      refine lv_aload_n hx hb dX7_keep_57 rfl (lv_at hl 0 rfl) ?_
      refine k_get X hP 0 rfl rfl inX7 19 (by decide) fl_RX7_40 rfl rfl dX7_keep_58 ?_
      refine lv_iload_n hx hb dX7_keep_61 rfl (lv_at hl 1 rfl) ?_
      refine lv_iconst (v := 3) hx hb dX7_keep_62 (by decide) ?_
      refine lv_iadd hx hb dX7_keep_63 ?_
      refine lv_iload_n hx hb dX7_keep_64 rfl (lv_at hl 2 rfl) ?_
      refine lv_iadd hx hb dX7_keep_65 ?_
      refine lv_aload_n hx hb dX7_keep_66 rfl (lv_at hl 0 rfl) ?_
      refine k_get X hP 0 rfl rfl inX7 9 (by decide) fl_RX7_19 rfl rfl dX7_keep_67 ?_
      refine lv_iload_n hx hb dX7_keep_70 rfl (lv_at hl 2 rfl) ?_
      obtain ⟨h12, hf⟩ := ck_t hf
      refine k_iald X hP 4 0 rfl rfl h12 dX7_keep_71 ?_
      obtain ⟨h13, hf⟩ := ck_t hf
      refine k_iast X hP hD hS [(qg, .inr (7, [.ref qg_text, .int g_size, .int g_at, .int g_begin, .int g_token, .int g_told, .ref qg_read, .ref qg_life, .int g_dones, .ref qg_done, .int g_undos, .ref qg_undone, .ref qg_selves, .ref qg_when, .ref qg_jury, .int g_seens, .ref qg_years, .ref qg_states, .long g_trace, .ref qg_kept])), rI cI qg_text 200 g_text, rI cI qg_read 55 g_read, rI cI qg_life 55 g_life, rI cI qg_done 16 g_done, rI cI qg_undone 130 g_undone, rI cI qg_selves 16 g_selves, rI cI qg_when 27 g_when, rI cI qg_jury 16 g_jury, rI cI qg_years 6 g_years, rI cI qg_states 6 g_states, rI cI qg_kept 290 (upd s6.2 (((145 * a1) + 3) + s6.1).toNatClampNeg (g_done s6.1.toNatClampNeg))] 11 0 rfl rfl h13 rfl dX7_keep_72 (fun H locs hP hD hS => ?_)
      refine lv_iinc (v := s6.1 + 1) (lv' := [(3, .int (s6.1 + 1)), (0, .ref qg), (2, .int (145 * a1))]) hx hb dX7_keep_73 hl (k := 2) rfl rfl (by decide) rfl (fun ls hl => ?_)
      refine lv_goto (tgt := 51) hx hb dX7_keep_76 (by decide) ?_
      exact ih6 _ (Option.some.inj hf).symm H locs ls hP hD hS (lv_sub hl [1, 2, 0] rfl)
  · replace hf := ite_t c2 hf
    refine lv_iconst (v := (-1)) hx hb dX7_keep_10 (by decide) ?_
    replace hf := Option.some.inj hf
    subst hf
    exact hret H locs _ ls dX7_keep_11 hP hD hS

def sX7_back_56 (v2 : Int32) (g_kept : Nat → Int32) (v3 : Int32) (g_done : Nat → Int32) : Option ((Int32 × (Nat → Int32)) ⊕ (((Nat → Int32)))) :=
  if 12 ≤ v3 then some (.inr g_done) else if inb ((v2 + 3) + v3) 290 = true then if inb v3 16 = true then some (.inl (v3 + 1, upd g_done v3.toNatClampNeg (g_kept ((v2 + 3) + v3).toNatClampNeg))) else none else none
def sX7_back_86 (v2 : Int32) (g_kept : Nat → Int32) (v3 : Int32) (g_undone : Nat → Int32) : Option ((Int32 × (Nat → Int32)) ⊕ (((Nat → Int32)))) :=
  if 130 ≤ v3 then some (.inr g_undone) else if inb ((v2 + 15) + v3) 290 = true then if inb v3 130 = true then some (.inl (v3 + 1, upd g_undone v3.toNatClampNeg (g_kept ((v2 + 15) + v3).toNatClampNeg))) else none else none
def fX7_back (a1 : Int32) (g_dones : Int32) (g_undos : Int32) (g_done : Nat → Int32) (g_undone : Nat → Int32) (g_kept : Nat → Int32) : Option (Int32 × Int32 × Int32 × (Nat → Int32) × (Nat → Int32)) :=
  (fX7_in a1.toInt64 0 1).bind (fun r1 => if (bI r1) = 0 then some ((-1), g_dones, g_undos, g_done, g_undone) else if inb (145 * a1) 290 = true then if (g_kept (145 * a1).toNatClampNeg) = 0 then some ((-2), g_dones, g_undos, g_done, g_undone) else if inb ((145 * a1) + 1) 290 = true then if inb ((145 * a1) + 2) 290 = true then (lpd (fun s7 => sX7_back_56 (145 * a1) g_kept s7.1 s7.2) FU (0, g_done)).bind (fun (y7_0 : (Nat → Int32)) => (lpd (fun s8 => sX7_back_86 (145 * a1) g_kept s8.1 s8.2) FU (0, g_undone)).bind (fun (y8_0 : (Nat → Int32)) => some (g_kept ((145 * a1) + 1).toNatClampNeg, g_kept ((145 * a1) + 1).toNatClampNeg, g_kept ((145 * a1) + 2).toNatClampNeg, y7_0, y8_0))) else none else none else none)
set_option maxHeartbeats 4000000 in
set_option maxRecDepth 100000 in
theorem ctX7_back (l : Launch) (D : va_G) (cI cZ cD cH : ClassId) (qg : Nat) (qg_text : Nat) (qg_read : Nat) (qg_life : Nat) (qg_done : Nat) (qg_undone : Nat) (qg_selves : Nat) (qg_when : Nat) (qg_jury : Nat) (qg_years : Nat) (qg_states : Nat) (qg_kept : Nat) (a1 : Int32) (g_size : Int32) (g_at : Int32) (g_begin : Int32) (g_token : Int32) (g_told : Int32) (g_dones : Int32) (g_undos : Int32) (g_seens : Int32) (g_trace : Int64) (g_text : Nat → Int32) (g_read : Nat → Int32) (g_life : Nat → Int32) (g_done : Nat → Int32) (g_undone : Nat → Int32) (g_selves : Nat → Int32) (g_when : Nat → Int32) (g_jury : Nat → Int32) (g_years : Nat → Int32) (g_states : Nat → Int32) (g_kept : Nat → Int32) (o : Int32 × Int32 × Int32 × (Nat → Int32) × (Nat → Int32)) (hf : fX7_back a1 g_dones g_undos g_done g_undone g_kept = some o) : Ct l yX7_back cX7_back 4 (some .int) { frames := 1, cells := 0, slots := 0, locals := 25 } D (Tys cI cZ cD cH) [.ref qg, .int a1] [(qg, .inr (7, [.ref qg_text, .int g_size, .int g_at, .int g_begin, .int g_token, .int g_told, .ref qg_read, .ref qg_life, .int g_dones, .ref qg_done, .int g_undos, .ref qg_undone, .ref qg_selves, .ref qg_when, .ref qg_jury, .int g_seens, .ref qg_years, .ref qg_states, .long g_trace, .ref qg_kept])), rI cI qg_text 200 g_text, rI cI qg_read 55 g_read, rI cI qg_life 55 g_life, rI cI qg_done 16 g_done, rI cI qg_undone 130 g_undone, rI cI qg_selves 16 g_selves, rI cI qg_when 27 g_when, rI cI qg_jury 16 g_jury, rI cI qg_years 6 g_years, rI cI qg_states 6 g_states, rI cI qg_kept 290 g_kept] [(qg, .inr (7, [.ref qg_text, .int g_size, .int g_at, .int g_begin, .int g_token, .int g_told, .ref qg_read, .ref qg_life, .int o.2.1, .ref qg_done, .int o.2.2.1, .ref qg_undone, .ref qg_selves, .ref qg_when, .ref qg_jury, .int g_seens, .ref qg_years, .ref qg_states, .long g_trace, .ref qg_kept])), rI cI qg_text 200 g_text, rI cI qg_read 55 g_read, rI cI qg_life 55 g_life, rI cI qg_done 16 o.2.2.2.1, rI cI qg_undone 130 o.2.2.2.2, rI cI qg_selves 16 g_selves, rI cI qg_when 27 g_when, rI cI qg_jury 16 g_jury, rI cI qg_years 6 g_years, rI cI qg_states 6 g_states, rI cI qg_kept 290 g_kept] (some (.int o.1)) 0 0 := by
  refine mkI (by decide) (Nat.le_of_ble_eq_true rfl) ?_
  intro p e s m args below meth c A Q X hret ls hl H locs hP hD hS
  replace X : Cx p s m args c D (Tys cI cZ cD cH) A cX7_back RX7 4 := X
  obtain ⟨hx, hb, hml, hown, hts, hK, hZ, hA⟩ := id X
  have hl : lv_has ls 4 [(0, .ref qg), (1, .int a1)] := hl
  unfold fX7_back at hf
  refine lv_iload_n hx hb dX7_back_0 rfl (lv_at hl 1 rfl) ?_
  refine lv_i2l (v := a1.toInt64) hx hb dX7_back_1 rfl ?_
  refine lv_lconst (v := 0) hx hb dX7_back_2 (by decide) ?_
  refine lv_lconst (v := 1) hx hb dX7_back_3 (by decide) ?_
  obtain ⟨r1, hr1, hf⟩ := bnd hf
  refine k_callS X hP hD hS [(qg, .inr (7, [.ref qg_text, .int g_size, .int g_at, .int g_begin, .int g_token, .int g_told, .ref qg_read, .ref qg_life, .int g_dones, .ref qg_done, .int g_undos, .ref qg_undone, .ref qg_selves, .ref qg_when, .ref qg_jury, .int g_seens, .ref qg_years, .ref qg_states, .long g_trace, .ref qg_kept])), rI cI qg_text 200 g_text, rI cI qg_read 55 g_read, rI cI qg_life 55 g_life, rI cI qg_done 16 g_done, rI cI qg_undone 130 g_undone, rI cI qg_selves 16 g_selves, rI cI qg_when 27 g_when, rI cI qg_jury 16 g_jury, rI cI qg_years 6 g_years, rI cI qg_states 6 g_states, rI cI qg_kept 290 g_kept] (ctX7_in l D cI cZ cD cH a1.toInt64 0 1 r1 hr1) ml_RX7_51 sm_yX7_in in_RX7 cd_yX7_in rfl rfl hd_yX7_in ⟨by decide, by decide⟩ ⟨Nat.zero_le _, Nat.zero_le _⟩ [] [none, none, none, none, none, none, none, none, none, none, none, none] rfl (by decide +kernel) rfl (by decide +kernel) rfl rfl hl.1 rfl rfl (Nat.le_of_ble_eq_true rfl) rfl dX7_back_4 (fun H locs hP hD hS => ?_)
  refine lv_if_ne (tgt := 12) hx hb dX7_back_7 (by decide) (fun c2 => ?_) (fun c2 => ?_)
  · replace hf := ite_f c2 hf
    refine lv_sipush (v := 145) hx hb dX7_back_12 (by decide) ?_
    refine lv_iload_n hx hb dX7_back_15 rfl (lv_at hl 1 rfl) ?_
    refine lv_imul hx hb dX7_back_16 ?_
    refine lv_istore_n (lv' := [(2, .int (145 * a1)), (0, .ref qg), (1, .int a1)]) hx hb dX7_back_17 rfl hl (by decide) rfl (fun ls hl => ?_)
    refine lv_aload_n hx hb dX7_back_18 rfl (lv_at hl 1 rfl) ?_
    refine k_get X hP 0 rfl rfl inX7 19 (by decide) fl_RX7_40 rfl rfl dX7_back_19 ?_
    refine lv_iload_n hx hb dX7_back_22 rfl (lv_at hl 0 rfl) ?_
    obtain ⟨h3, hf⟩ := ck_t hf
    refine k_iald X hP 11 0 rfl rfl h3 dX7_back_23 ?_
    refine lv_if_ne (tgt := 30) hx hb dX7_back_24 (by decide) (fun c4 => ?_) (fun c4 => ?_)
    · replace hf := ite_f c4 hf
      refine lv_aload_n hx hb dX7_back_30 rfl (lv_at hl 1 rfl) ?_
      refine lv_aload_n hx hb dX7_back_31 rfl (lv_at hl 1 rfl) ?_
      refine k_get X hP 0 rfl rfl inX7 19 (by decide) fl_RX7_40 rfl rfl dX7_back_32 ?_
      refine lv_iload_n hx hb dX7_back_35 rfl (lv_at hl 0 rfl) ?_
      refine lv_iconst (v := 1) hx hb dX7_back_36 (by decide) ?_
      refine lv_iadd hx hb dX7_back_37 ?_
      obtain ⟨h5, hf⟩ := ck_t hf
      refine k_iald X hP 11 0 rfl rfl h5 dX7_back_38 ?_
      refine k_put X hP hD hS [(qg, .inr (7, [.ref qg_text, .int g_size, .int g_at, .int g_begin, .int g_token, .int g_told, .ref qg_read, .ref qg_life, .int (g_kept ((145 * a1) + 1).toNatClampNeg), .ref qg_done, .int g_undos, .ref qg_undone, .ref qg_selves, .ref qg_when, .ref qg_jury, .int g_seens, .ref qg_years, .ref qg_states, .long g_trace, .ref qg_kept])), rI cI qg_text 200 g_text, rI cI qg_read 55 g_read, rI cI qg_life 55 g_life, rI cI qg_done 16 g_done, rI cI qg_undone 130 g_undone, rI cI qg_selves 16 g_selves, rI cI qg_when 27 g_when, rI cI qg_jury 16 g_jury, rI cI qg_years 6 g_years, rI cI qg_states 6 g_states, rI cI qg_kept 290 g_kept] 0 rfl rfl inX7 tyX7_ok nmX7 8 (by decide) fl_RX7_119 rfl rfl rfl rfl (Nat.le_of_ble_eq_true rfl) rfl dX7_back_39 (fun H locs hP hD hS => ?_)
      refine lv_aload_n hx hb dX7_back_42 rfl (lv_at hl 1 rfl) ?_
      refine lv_aload_n hx hb dX7_back_43 rfl (lv_at hl 1 rfl) ?_
      refine k_get X hP 0 rfl rfl inX7 19 (by decide) fl_RX7_40 rfl rfl dX7_back_44 ?_
      refine lv_iload_n hx hb dX7_back_47 rfl (lv_at hl 0 rfl) ?_
      refine lv_iconst (v := 2) hx hb dX7_back_48 (by decide) ?_
      refine lv_iadd hx hb dX7_back_49 ?_
      obtain ⟨h6, hf⟩ := ck_t hf
      refine k_iald X hP 11 0 rfl rfl h6 dX7_back_50 ?_
      refine k_put X hP hD hS [(qg, .inr (7, [.ref qg_text, .int g_size, .int g_at, .int g_begin, .int g_token, .int g_told, .ref qg_read, .ref qg_life, .int (g_kept ((145 * a1) + 1).toNatClampNeg), .ref qg_done, .int (g_kept ((145 * a1) + 2).toNatClampNeg), .ref qg_undone, .ref qg_selves, .ref qg_when, .ref qg_jury, .int g_seens, .ref qg_years, .ref qg_states, .long g_trace, .ref qg_kept])), rI cI qg_text 200 g_text, rI cI qg_read 55 g_read, rI cI qg_life 55 g_life, rI cI qg_done 16 g_done, rI cI qg_undone 130 g_undone, rI cI qg_selves 16 g_selves, rI cI qg_when 27 g_when, rI cI qg_jury 16 g_jury, rI cI qg_years 6 g_years, rI cI qg_states 6 g_states, rI cI qg_kept 290 g_kept] 0 rfl rfl inX7 tyX7_ok nmX7 10 (by decide) fl_RX7_122 rfl rfl rfl rfl (Nat.le_of_ble_eq_true rfl) rfl dX7_back_51 (fun H locs hP hD hS => ?_)
      refine lv_iconst (v := 0) hx hb dX7_back_54 (by decide) ?_
      refine lv_istore_n (lv' := [(3, .int 0), (2, .int (145 * a1)), (0, .ref qg), (1, .int a1)]) hx hb dX7_back_55 rfl hl (by decide) rfl (fun ls hl => ?_)
      obtain ⟨e7, he7, hf⟩ := bnd hf
      have hx7_0 : ∀ (y7_0 : (Nat → Int32)), y7_0 = e7 → ∀ (H : Heap) (locs : List Loc) (ls : Array Slot), va_P D vwCl [(qg, .inr (7, [.ref qg_text, .int g_size, .int g_at, .int g_begin, .int g_token, .int g_told, .ref qg_read, .ref qg_life, .int (g_kept ((145 * a1) + 1).toNatClampNeg), .ref qg_done, .int (g_kept ((145 * a1) + 2).toNatClampNeg), .ref qg_undone, .ref qg_selves, .ref qg_when, .ref qg_jury, .int g_seens, .ref qg_years, .ref qg_states, .long g_trace, .ref qg_kept])), rI cI qg_text 200 g_text, rI cI qg_read 55 g_read, rI cI qg_life 55 g_life, rI cI qg_done 16 y7_0, rI cI qg_undone 130 g_undone, rI cI qg_selves 16 g_selves, rI cI qg_when 27 g_when, rI cI qg_jury 16 g_jury, rI cI qg_years 6 g_years, rI cI qg_states 6 g_states, rI cI qg_kept 290 g_kept] H → va_D A [(qg, .inr (7, [.ref qg_text, .int g_size, .int g_at, .int g_begin, .int g_token, .int g_told, .ref qg_read, .ref qg_life, .int (g_kept ((145 * a1) + 1).toNatClampNeg), .ref qg_done, .int (g_kept ((145 * a1) + 2).toNatClampNeg), .ref qg_undone, .ref qg_selves, .ref qg_when, .ref qg_jury, .int g_seens, .ref qg_years, .ref qg_states, .long g_trace, .ref qg_kept])), rI cI qg_text 200 g_text, rI cI qg_read 55 g_read, rI cI qg_life 55 g_life, rI cI qg_done 16 y7_0, rI cI qg_undone 130 g_undone, rI cI qg_selves 16 g_selves, rI cI qg_when 27 g_when, rI cI qg_jury 16 g_jury, rI cI qg_years 6 g_years, rI cI qg_states 6 g_states, rI cI qg_kept 290 g_kept] → va_S A s.heap H locs → lv_has ls 4 [(0, .ref qg), (2, .int (145 * a1))] → W p l e ({ frames := 1, cells := 0, slots := 0, locals := 25 } : Room) s m args below meth c H locs 0 0 Q (F0 m 84 ls []) := by
        intro y7_0 heq H locs ls hP hD hS hl
        subst heq
        refine lv_iconst (v := 0) hx hb dX7_back_84 (by decide) ?_
        refine lv_istore_n (lv' := [(3, .int 0), (0, .ref qg), (2, .int (145 * a1))]) hx hb dX7_back_85 rfl hl (by decide) rfl (fun ls hl => ?_)
        obtain ⟨e8, he8, hf⟩ := bnd hf
        have hx8_0 : ∀ (y8_0 : (Nat → Int32)), y8_0 = e8 → ∀ (H : Heap) (locs : List Loc) (ls : Array Slot), va_P D vwCl [(qg, .inr (7, [.ref qg_text, .int g_size, .int g_at, .int g_begin, .int g_token, .int g_told, .ref qg_read, .ref qg_life, .int (g_kept ((145 * a1) + 1).toNatClampNeg), .ref qg_done, .int (g_kept ((145 * a1) + 2).toNatClampNeg), .ref qg_undone, .ref qg_selves, .ref qg_when, .ref qg_jury, .int g_seens, .ref qg_years, .ref qg_states, .long g_trace, .ref qg_kept])), rI cI qg_text 200 g_text, rI cI qg_read 55 g_read, rI cI qg_life 55 g_life, rI cI qg_done 16 y7_0, rI cI qg_undone 130 y8_0, rI cI qg_selves 16 g_selves, rI cI qg_when 27 g_when, rI cI qg_jury 16 g_jury, rI cI qg_years 6 g_years, rI cI qg_states 6 g_states, rI cI qg_kept 290 g_kept] H → va_D A [(qg, .inr (7, [.ref qg_text, .int g_size, .int g_at, .int g_begin, .int g_token, .int g_told, .ref qg_read, .ref qg_life, .int (g_kept ((145 * a1) + 1).toNatClampNeg), .ref qg_done, .int (g_kept ((145 * a1) + 2).toNatClampNeg), .ref qg_undone, .ref qg_selves, .ref qg_when, .ref qg_jury, .int g_seens, .ref qg_years, .ref qg_states, .long g_trace, .ref qg_kept])), rI cI qg_text 200 g_text, rI cI qg_read 55 g_read, rI cI qg_life 55 g_life, rI cI qg_done 16 y7_0, rI cI qg_undone 130 y8_0, rI cI qg_selves 16 g_selves, rI cI qg_when 27 g_when, rI cI qg_jury 16 g_jury, rI cI qg_years 6 g_years, rI cI qg_states 6 g_states, rI cI qg_kept 290 g_kept] → va_S A s.heap H locs → lv_has ls 4 [(0, .ref qg)] → W p l e ({ frames := 1, cells := 0, slots := 0, locals := 25 } : Room) s m args below meth c H locs 0 0 Q (F0 m 116 ls []) := by
          intro y8_0 heq H locs ls hP hD hS hl
          subst heq
          refine lv_aload_n hx hb dX7_back_116 rfl (lv_at hl 0 rfl) ?_
          refine k_get X hP 0 rfl rfl inX7 8 (by decide) fl_RX7_119 rfl rfl dX7_back_117 ?_
          replace hf := Option.some.inj hf
          subst hf
          exact hret H locs _ ls dX7_back_120 hP hD hS
        refine lpd_ind (P := fun s8 => ∀ (H : Heap) (locs : List Loc) (ls : Array Slot), va_P D vwCl [(qg, .inr (7, [.ref qg_text, .int g_size, .int g_at, .int g_begin, .int g_token, .int g_told, .ref qg_read, .ref qg_life, .int (g_kept ((145 * a1) + 1).toNatClampNeg), .ref qg_done, .int (g_kept ((145 * a1) + 2).toNatClampNeg), .ref qg_undone, .ref qg_selves, .ref qg_when, .ref qg_jury, .int g_seens, .ref qg_years, .ref qg_states, .long g_trace, .ref qg_kept])), rI cI qg_text 200 g_text, rI cI qg_read 55 g_read, rI cI qg_life 55 g_life, rI cI qg_done 16 y7_0, rI cI qg_undone 130 s8.2, rI cI qg_selves 16 g_selves, rI cI qg_when 27 g_when, rI cI qg_jury 16 g_jury, rI cI qg_years 6 g_years, rI cI qg_states 6 g_states, rI cI qg_kept 290 g_kept] H → va_D A [(qg, .inr (7, [.ref qg_text, .int g_size, .int g_at, .int g_begin, .int g_token, .int g_told, .ref qg_read, .ref qg_life, .int (g_kept ((145 * a1) + 1).toNatClampNeg), .ref qg_done, .int (g_kept ((145 * a1) + 2).toNatClampNeg), .ref qg_undone, .ref qg_selves, .ref qg_when, .ref qg_jury, .int g_seens, .ref qg_years, .ref qg_states, .long g_trace, .ref qg_kept])), rI cI qg_text 200 g_text, rI cI qg_read 55 g_read, rI cI qg_life 55 g_life, rI cI qg_done 16 y7_0, rI cI qg_undone 130 s8.2, rI cI qg_selves 16 g_selves, rI cI qg_when 27 g_when, rI cI qg_jury 16 g_jury, rI cI qg_years 6 g_years, rI cI qg_states 6 g_states, rI cI qg_kept 290 g_kept] → va_S A s.heap H locs → lv_has ls 4 [(0, .ref qg), (2, .int (145 * a1)), (3, .int s8.1)] → W p l e ({ frames := 1, cells := 0, slots := 0, locals := 25 } : Room) s m args below meth c H locs 0 0 Q (F0 m 86 ls [])) e8 ?_ _ _ he8 H locs ls hP hD hS (lv_sub hl [1, 2, 0] rfl)
        intro s8 r8 hf ih8 hq8 H locs ls hP hD hS hl
        unfold sX7_back_86 at hf
        refine lv_iload_n hx hb dX7_back_86 rfl (lv_at hl 2 rfl) ?_
        refine lv_sipush (v := 130) hx hb dX7_back_87 (by decide) ?_
        refine lv_icmp_ge (tgt := 116) hx hb dX7_back_90 (by decide) (fun c9 => ?_) (fun c9 => ?_)
        · replace hf := ite_t c9 hf
          exact hx8_0 _ (hq8 _ (Option.some.inj hf).symm) H locs ls hP hD hS (lv_sub hl [0] rfl)
        · replace hf := ite_f c9 hf
          refine lv_aload_n hx hb dX7_back_93 rfl (lv_at hl 0 rfl) ?_
          refine k_get X hP 0 rfl rfl inX7 11 (by decide) fl_RX7_22 rfl rfl dX7_back_94 ?_
          refine lv_iload_n hx hb dX7_back_97 rfl (lv_at hl 2 rfl) ?_
          refine lv_aload_n hx hb dX7_back_98 rfl (lv_at hl 0 rfl) ?_
          refine k_get X hP 0 rfl rfl inX7 19 (by decide) fl_RX7_40 rfl rfl dX7_back_99 ?_
          refine lv_iload_n hx hb dX7_back_102 rfl (lv_at hl 1 rfl) ?_
          refine lv_bipush (v := 15) hx hb dX7_back_103 (by decide) ?_
          refine lv_iadd hx hb dX7_back_105 ?_
          refine lv_iload_n hx hb dX7_back_106 rfl (lv_at hl 2 rfl) ?_
          refine lv_iadd hx hb dX7_back_107 ?_
          obtain ⟨h10, hf⟩ := ck_t hf
          refine k_iald X hP 11 0 rfl rfl h10 dX7_back_108 ?_
          obtain ⟨h11, hf⟩ := ck_t hf
          refine k_iast X hP hD hS [(qg, .inr (7, [.ref qg_text, .int g_size, .int g_at, .int g_begin, .int g_token, .int g_told, .ref qg_read, .ref qg_life, .int (g_kept ((145 * a1) + 1).toNatClampNeg), .ref qg_done, .int (g_kept ((145 * a1) + 2).toNatClampNeg), .ref qg_undone, .ref qg_selves, .ref qg_when, .ref qg_jury, .int g_seens, .ref qg_years, .ref qg_states, .long g_trace, .ref qg_kept])), rI cI qg_text 200 g_text, rI cI qg_read 55 g_read, rI cI qg_life 55 g_life, rI cI qg_done 16 y7_0, rI cI qg_undone 130 (upd s8.2 s8.1.toNatClampNeg (g_kept (((145 * a1) + 15) + s8.1).toNatClampNeg)), rI cI qg_selves 16 g_selves, rI cI qg_when 27 g_when, rI cI qg_jury 16 g_jury, rI cI qg_years 6 g_years, rI cI qg_states 6 g_states, rI cI qg_kept 290 g_kept] 5 0 rfl rfl h11 rfl dX7_back_109 (fun H locs hP hD hS => ?_)
          refine lv_iinc (v := s8.1 + 1) (lv' := [(3, .int (s8.1 + 1)), (0, .ref qg), (2, .int (145 * a1))]) hx hb dX7_back_110 hl (k := 2) rfl rfl (by decide) rfl (fun ls hl => ?_)
          refine lv_goto (tgt := 86) hx hb dX7_back_113 (by decide) ?_
          exact ih8 _ (Option.some.inj hf).symm H locs ls hP hD hS (lv_sub hl [1, 2, 0] rfl)
      refine lpd_ind (P := fun s7 => ∀ (H : Heap) (locs : List Loc) (ls : Array Slot), va_P D vwCl [(qg, .inr (7, [.ref qg_text, .int g_size, .int g_at, .int g_begin, .int g_token, .int g_told, .ref qg_read, .ref qg_life, .int (g_kept ((145 * a1) + 1).toNatClampNeg), .ref qg_done, .int (g_kept ((145 * a1) + 2).toNatClampNeg), .ref qg_undone, .ref qg_selves, .ref qg_when, .ref qg_jury, .int g_seens, .ref qg_years, .ref qg_states, .long g_trace, .ref qg_kept])), rI cI qg_text 200 g_text, rI cI qg_read 55 g_read, rI cI qg_life 55 g_life, rI cI qg_done 16 s7.2, rI cI qg_undone 130 g_undone, rI cI qg_selves 16 g_selves, rI cI qg_when 27 g_when, rI cI qg_jury 16 g_jury, rI cI qg_years 6 g_years, rI cI qg_states 6 g_states, rI cI qg_kept 290 g_kept] H → va_D A [(qg, .inr (7, [.ref qg_text, .int g_size, .int g_at, .int g_begin, .int g_token, .int g_told, .ref qg_read, .ref qg_life, .int (g_kept ((145 * a1) + 1).toNatClampNeg), .ref qg_done, .int (g_kept ((145 * a1) + 2).toNatClampNeg), .ref qg_undone, .ref qg_selves, .ref qg_when, .ref qg_jury, .int g_seens, .ref qg_years, .ref qg_states, .long g_trace, .ref qg_kept])), rI cI qg_text 200 g_text, rI cI qg_read 55 g_read, rI cI qg_life 55 g_life, rI cI qg_done 16 s7.2, rI cI qg_undone 130 g_undone, rI cI qg_selves 16 g_selves, rI cI qg_when 27 g_when, rI cI qg_jury 16 g_jury, rI cI qg_years 6 g_years, rI cI qg_states 6 g_states, rI cI qg_kept 290 g_kept] → va_S A s.heap H locs → lv_has ls 4 [(0, .ref qg), (2, .int (145 * a1)), (3, .int s7.1)] → W p l e ({ frames := 1, cells := 0, slots := 0, locals := 25 } : Room) s m args below meth c H locs 0 0 Q (F0 m 56 ls [])) e7 ?_ _ _ he7 H locs ls hP hD hS (lv_sub hl [2, 1, 0] rfl)
      intro s7 r7 hf ih7 hq7 H locs ls hP hD hS hl
      unfold sX7_back_56 at hf
      refine lv_iload_n hx hb dX7_back_56 rfl (lv_at hl 2 rfl) ?_
      refine lv_bipush (v := 12) hx hb dX7_back_57 (by decide) ?_
      refine lv_icmp_ge (tgt := 84) hx hb dX7_back_59 (by decide) (fun c12 => ?_) (fun c12 => ?_)
      · replace hf := ite_t c12 hf
        exact hx7_0 _ (hq7 _ (Option.some.inj hf).symm) H locs ls hP hD hS (lv_sub hl [0, 1] rfl)
      · replace hf := ite_f c12 hf
        refine lv_aload_n hx hb dX7_back_62 rfl (lv_at hl 0 rfl) ?_
        refine k_get X hP 0 rfl rfl inX7 9 (by decide) fl_RX7_19 rfl rfl dX7_back_63 ?_
        refine lv_iload_n hx hb dX7_back_66 rfl (lv_at hl 2 rfl) ?_
        refine lv_aload_n hx hb dX7_back_67 rfl (lv_at hl 0 rfl) ?_
        refine k_get X hP 0 rfl rfl inX7 19 (by decide) fl_RX7_40 rfl rfl dX7_back_68 ?_
        refine lv_iload_n hx hb dX7_back_71 rfl (lv_at hl 1 rfl) ?_
        refine lv_iconst (v := 3) hx hb dX7_back_72 (by decide) ?_
        refine lv_iadd hx hb dX7_back_73 ?_
        refine lv_iload_n hx hb dX7_back_74 rfl (lv_at hl 2 rfl) ?_
        refine lv_iadd hx hb dX7_back_75 ?_
        obtain ⟨h13, hf⟩ := ck_t hf
        refine k_iald X hP 11 0 rfl rfl h13 dX7_back_76 ?_
        obtain ⟨h14, hf⟩ := ck_t hf
        refine k_iast X hP hD hS [(qg, .inr (7, [.ref qg_text, .int g_size, .int g_at, .int g_begin, .int g_token, .int g_told, .ref qg_read, .ref qg_life, .int (g_kept ((145 * a1) + 1).toNatClampNeg), .ref qg_done, .int (g_kept ((145 * a1) + 2).toNatClampNeg), .ref qg_undone, .ref qg_selves, .ref qg_when, .ref qg_jury, .int g_seens, .ref qg_years, .ref qg_states, .long g_trace, .ref qg_kept])), rI cI qg_text 200 g_text, rI cI qg_read 55 g_read, rI cI qg_life 55 g_life, rI cI qg_done 16 (upd s7.2 s7.1.toNatClampNeg (g_kept (((145 * a1) + 3) + s7.1).toNatClampNeg)), rI cI qg_undone 130 g_undone, rI cI qg_selves 16 g_selves, rI cI qg_when 27 g_when, rI cI qg_jury 16 g_jury, rI cI qg_years 6 g_years, rI cI qg_states 6 g_states, rI cI qg_kept 290 g_kept] 4 0 rfl rfl h14 rfl dX7_back_77 (fun H locs hP hD hS => ?_)
        refine lv_iinc (v := s7.1 + 1) (lv' := [(3, .int (s7.1 + 1)), (0, .ref qg), (2, .int (145 * a1))]) hx hb dX7_back_78 hl (k := 2) rfl rfl (by decide) rfl (fun ls hl => ?_)
        refine lv_goto (tgt := 56) hx hb dX7_back_81 (by decide) ?_
        exact ih7 _ (Option.some.inj hf).symm H locs ls hP hD hS (lv_sub hl [1, 2, 0] rfl)
    · replace hf := ite_t c4 hf
      refine lv_bipush (v := (-2)) hx hb dX7_back_27 (by decide) ?_
      replace hf := Option.some.inj hf
      subst hf
      exact hret H locs _ ls dX7_back_29 hP hD hS
  · replace hf := ite_t c2 hf
    refine lv_iconst (v := (-1)) hx hb dX7_back_10 (by decide) ?_
    replace hf := Option.some.inj hf
    subst hf
    exact hret H locs _ ls dX7_back_11 hP hD hS

def fX7_count (a1 : Int32) (g_size : Int32) (g_dones : Int32) (g_undos : Int32) (g_seens : Int32) (g_life : Nat → Int32) : Option (Int32) :=
  if a1 = 0 then if inb a1 55 = true then some (g_life a1.toNatClampNeg) else none else (if a1 = 1 then if inb a1 55 = true then some (g_life a1.toNatClampNeg) else none else (if a1 = 2 then if inb 3 55 = true then some (g_life (3 : Int32).toNatClampNeg) else none else (if a1 = 3 then if inb 5 55 = true then some (g_life (5 : Int32).toNatClampNeg) else none else (if a1 = 4 then some g_dones else (if a1 = 5 then (fX7_beginning g_life).bind (fun r11 => some r11) else (if a1 = 6 then if inb 4 55 = true then some (g_life (4 : Int32).toNatClampNeg) else none else (if a1 = 7 then some g_seens else (if a1 = 8 then some g_undos else (if a1 = 9 then some g_size else (some (-1)))))))))))
set_option maxHeartbeats 4000000 in
set_option maxRecDepth 100000 in
theorem ctX7_count (l : Launch) (D : va_G) (cI cZ cD cH : ClassId) (qg : Nat) (qg_text : Nat) (qg_read : Nat) (qg_life : Nat) (qg_done : Nat) (qg_undone : Nat) (qg_selves : Nat) (qg_when : Nat) (qg_jury : Nat) (qg_years : Nat) (qg_states : Nat) (qg_kept : Nat) (a1 : Int32) (g_size : Int32) (g_at : Int32) (g_begin : Int32) (g_token : Int32) (g_told : Int32) (g_dones : Int32) (g_undos : Int32) (g_seens : Int32) (g_trace : Int64) (g_text : Nat → Int32) (g_read : Nat → Int32) (g_life : Nat → Int32) (g_done : Nat → Int32) (g_undone : Nat → Int32) (g_selves : Nat → Int32) (g_when : Nat → Int32) (g_jury : Nat → Int32) (g_years : Nat → Int32) (g_states : Nat → Int32) (g_kept : Nat → Int32) (o : Int32) (hf : fX7_count a1 g_size g_dones g_undos g_seens g_life = some o) : Ct l yX7_count cX7_count 2 (some .int) { frames := 3, cells := 0, slots := 0, locals := 66 } D (Tys cI cZ cD cH) [.ref qg, .int a1] [(qg, .inr (7, [.ref qg_text, .int g_size, .int g_at, .int g_begin, .int g_token, .int g_told, .ref qg_read, .ref qg_life, .int g_dones, .ref qg_done, .int g_undos, .ref qg_undone, .ref qg_selves, .ref qg_when, .ref qg_jury, .int g_seens, .ref qg_years, .ref qg_states, .long g_trace, .ref qg_kept])), rI cI qg_text 200 g_text, rI cI qg_read 55 g_read, rI cI qg_life 55 g_life, rI cI qg_done 16 g_done, rI cI qg_undone 130 g_undone, rI cI qg_selves 16 g_selves, rI cI qg_when 27 g_when, rI cI qg_jury 16 g_jury, rI cI qg_years 6 g_years, rI cI qg_states 6 g_states, rI cI qg_kept 290 g_kept] [(qg, .inr (7, [.ref qg_text, .int g_size, .int g_at, .int g_begin, .int g_token, .int g_told, .ref qg_read, .ref qg_life, .int g_dones, .ref qg_done, .int g_undos, .ref qg_undone, .ref qg_selves, .ref qg_when, .ref qg_jury, .int g_seens, .ref qg_years, .ref qg_states, .long g_trace, .ref qg_kept])), rI cI qg_text 200 g_text, rI cI qg_read 55 g_read, rI cI qg_life 55 g_life, rI cI qg_done 16 g_done, rI cI qg_undone 130 g_undone, rI cI qg_selves 16 g_selves, rI cI qg_when 27 g_when, rI cI qg_jury 16 g_jury, rI cI qg_years 6 g_years, rI cI qg_states 6 g_states, rI cI qg_kept 290 g_kept] (some (.int o)) 0 0 := by
  refine mkI (by decide) (Nat.le_of_ble_eq_true rfl) ?_
  intro p e s m args below meth c A Q X hret ls hl H locs hP hD hS
  replace X : Cx p s m args c D (Tys cI cZ cD cH) A cX7_count RX7 2 := X
  obtain ⟨hx, hb, hml, hown, hts, hK, hZ, hA⟩ := id X
  have hl : lv_has ls 2 [(0, .ref qg), (1, .int a1)] := hl
  unfold fX7_count at hf
  refine lv_iload_n hx hb dX7_count_0 rfl (lv_at hl 1 rfl) ?_
  by_cases c1 : a1 = 0
  · replace hf := ite_t c1 hf
    refine top_eq c1 ?_
    refine lv_tableIn (tgt := 56) hx hb dX7_count_1 (by decide) (by decide) rfl (by decide) ?_
    refine lv_aload_n hx hb dX7_count_56 rfl (lv_at hl 0 rfl) ?_
    refine k_get X hP 0 rfl rfl inX7 7 (by decide) fl_RX7_16 rfl rfl dX7_count_57 ?_
    refine lv_iload_n hx hb dX7_count_60 rfl (lv_at hl 1 rfl) ?_
    obtain ⟨h2, hf⟩ := ck_t hf
    refine k_iald X hP 3 0 rfl rfl h2 dX7_count_61 ?_
    replace hf := Option.some.inj hf
    subst hf
    exact hret H locs _ ls dX7_count_62 hP hD hS
  · replace hf := ite_f c1 hf
    by_cases c3 : a1 = 1
    · replace hf := ite_t c3 hf
      refine top_eq c3 ?_
      refine lv_tableIn (tgt := 56) hx hb dX7_count_1 (by decide) (by decide) rfl (by decide) ?_
      refine lv_aload_n hx hb dX7_count_56 rfl (lv_at hl 0 rfl) ?_
      refine k_get X hP 0 rfl rfl inX7 7 (by decide) fl_RX7_16 rfl rfl dX7_count_57 ?_
      refine lv_iload_n hx hb dX7_count_60 rfl (lv_at hl 1 rfl) ?_
      obtain ⟨h4, hf⟩ := ck_t hf
      refine k_iald X hP 3 0 rfl rfl h4 dX7_count_61 ?_
      replace hf := Option.some.inj hf
      subst hf
      exact hret H locs _ ls dX7_count_62 hP hD hS
    · replace hf := ite_f c3 hf
      by_cases c5 : a1 = 2
      · replace hf := ite_t c5 hf
        refine top_eq c5 ?_
        refine lv_tableIn (tgt := 63) hx hb dX7_count_1 (by decide) (by decide) rfl (by decide) ?_
        refine lv_aload_n hx hb dX7_count_63 rfl (lv_at hl 0 rfl) ?_
        refine k_get X hP 0 rfl rfl inX7 7 (by decide) fl_RX7_16 rfl rfl dX7_count_64 ?_
        refine lv_iconst (v := 3) hx hb dX7_count_67 (by decide) ?_
        obtain ⟨h6, hf⟩ := ck_t hf
        refine k_iald X hP 3 0 rfl rfl h6 dX7_count_68 ?_
        replace hf := Option.some.inj hf
        subst hf
        exact hret H locs _ ls dX7_count_69 hP hD hS
      · replace hf := ite_f c5 hf
        by_cases c7 : a1 = 3
        · replace hf := ite_t c7 hf
          refine top_eq c7 ?_
          refine lv_tableIn (tgt := 70) hx hb dX7_count_1 (by decide) (by decide) rfl (by decide) ?_
          refine lv_aload_n hx hb dX7_count_70 rfl (lv_at hl 0 rfl) ?_
          refine k_get X hP 0 rfl rfl inX7 7 (by decide) fl_RX7_16 rfl rfl dX7_count_71 ?_
          refine lv_iconst (v := 5) hx hb dX7_count_74 (by decide) ?_
          obtain ⟨h8, hf⟩ := ck_t hf
          refine k_iald X hP 3 0 rfl rfl h8 dX7_count_75 ?_
          replace hf := Option.some.inj hf
          subst hf
          exact hret H locs _ ls dX7_count_76 hP hD hS
        · replace hf := ite_f c7 hf
          by_cases c9 : a1 = 4
          · replace hf := ite_t c9 hf
            refine top_eq c9 ?_
            refine lv_tableIn (tgt := 77) hx hb dX7_count_1 (by decide) (by decide) rfl (by decide) ?_
            refine lv_aload_n hx hb dX7_count_77 rfl (lv_at hl 0 rfl) ?_
            refine k_get X hP 0 rfl rfl inX7 8 (by decide) fl_RX7_119 rfl rfl dX7_count_78 ?_
            replace hf := Option.some.inj hf
            subst hf
            exact hret H locs _ ls dX7_count_81 hP hD hS
          · replace hf := ite_f c9 hf
            by_cases c10 : a1 = 5
            · replace hf := ite_t c10 hf
              refine top_eq c10 ?_
              refine lv_tableIn (tgt := 82) hx hb dX7_count_1 (by decide) (by decide) rfl (by decide) ?_
              refine lv_aload_n hx hb dX7_count_82 rfl (lv_at hl 0 rfl) ?_
              obtain ⟨r11, hr11, hf⟩ := bnd hf
              refine k_callV X hP hD hS [(qg, .inr (7, [.ref qg_text, .int g_size, .int g_at, .int g_begin, .int g_token, .int g_told, .ref qg_read, .ref qg_life, .int g_dones, .ref qg_done, .int g_undos, .ref qg_undone, .ref qg_selves, .ref qg_when, .ref qg_jury, .int g_seens, .ref qg_years, .ref qg_states, .long g_trace, .ref qg_kept])), rI cI qg_text 200 g_text, rI cI qg_read 55 g_read, rI cI qg_life 55 g_life, rI cI qg_done 16 g_done, rI cI qg_undone 130 g_undone, rI cI qg_selves 16 g_selves, rI cI qg_when 27 g_when, rI cI qg_jury 16 g_jury, rI cI qg_years 6 g_years, rI cI qg_states 6 g_states, rI cI qg_kept 290 g_kept] (ctX7_beginning l D cI cZ cD cH qg qg_text qg_read qg_life qg_done qg_undone qg_selves qg_when qg_jury qg_years qg_states qg_kept g_size g_at g_begin g_token g_told g_dones g_undos g_seens g_trace g_text g_read g_life g_done g_undone g_selves g_when g_jury g_years g_states g_kept r11 hr11) ml_RX7_178 im_yX7_beginning se_yX7_beginning in_RX7 cd_yX7_beginning rfl rfl hd_yX7_beginning ⟨by decide, by decide⟩ ⟨Nat.zero_le _, Nat.zero_le _⟩ [0, 1, 2, 3, 4, 5, 6, 7, 8, 9, 10, 11] [some 0, some 1, some 2, some 3, some 4, some 5, some 6, some 7, some 8, some 9, some 10, some 11] rfl (by decide +kernel) rfl (by decide +kernel) rfl rfl (q0 := 0) rfl rfl rfl hl.1 rfl rfl (Nat.le_of_ble_eq_true rfl) rfl dX7_count_83 (fun H locs hP hD hS => ?_)
              replace hf := Option.some.inj hf
              subst hf
              exact hret H locs _ ls dX7_count_86 hP hD hS
            · replace hf := ite_f c10 hf
              by_cases c12 : a1 = 6
              · replace hf := ite_t c12 hf
                refine top_eq c12 ?_
                refine lv_tableIn (tgt := 87) hx hb dX7_count_1 (by decide) (by decide) rfl (by decide) ?_
                refine lv_aload_n hx hb dX7_count_87 rfl (lv_at hl 0 rfl) ?_
                refine k_get X hP 0 rfl rfl inX7 7 (by decide) fl_RX7_16 rfl rfl dX7_count_88 ?_
                refine lv_iconst (v := 4) hx hb dX7_count_91 (by decide) ?_
                obtain ⟨h13, hf⟩ := ck_t hf
                refine k_iald X hP 3 0 rfl rfl h13 dX7_count_92 ?_
                replace hf := Option.some.inj hf
                subst hf
                exact hret H locs _ ls dX7_count_93 hP hD hS
              · replace hf := ite_f c12 hf
                by_cases c14 : a1 = 7
                · replace hf := ite_t c14 hf
                  refine top_eq c14 ?_
                  refine lv_tableIn (tgt := 94) hx hb dX7_count_1 (by decide) (by decide) rfl (by decide) ?_
                  refine lv_aload_n hx hb dX7_count_94 rfl (lv_at hl 0 rfl) ?_
                  refine k_get X hP 0 rfl rfl inX7 15 (by decide) fl_RX7_125 rfl rfl dX7_count_95 ?_
                  replace hf := Option.some.inj hf
                  subst hf
                  exact hret H locs _ ls dX7_count_98 hP hD hS
                · replace hf := ite_f c14 hf
                  by_cases c15 : a1 = 8
                  · replace hf := ite_t c15 hf
                    refine top_eq c15 ?_
                    refine lv_tableIn (tgt := 99) hx hb dX7_count_1 (by decide) (by decide) rfl (by decide) ?_
                    refine lv_aload_n hx hb dX7_count_99 rfl (lv_at hl 0 rfl) ?_
                    refine k_get X hP 0 rfl rfl inX7 10 (by decide) fl_RX7_122 rfl rfl dX7_count_100 ?_
                    replace hf := Option.some.inj hf
                    subst hf
                    exact hret H locs _ ls dX7_count_103 hP hD hS
                  · replace hf := ite_f c15 hf
                    by_cases c16 : a1 = 9
                    · replace hf := ite_t c16 hf
                      refine top_eq c16 ?_
                      refine lv_tableIn (tgt := 104) hx hb dX7_count_1 (by decide) (by decide) rfl (by decide) ?_
                      refine lv_aload_n hx hb dX7_count_104 rfl (lv_at hl 0 rfl) ?_
                      refine k_get X hP 0 rfl rfl inX7 1 (by decide) fl_RX7_55 rfl rfl dX7_count_105 ?_
                      replace hf := Option.some.inj hf
                      subst hf
                      exact hret H locs _ ls dX7_count_108 hP hD hS
                    · replace hf := ite_f c16 hf
                      have zc1 := i32_ne (k := 0) rfl c1
                      have zc3 := i32_ne (k := 1) rfl c3
                      have zc5 := i32_ne (k := 2) rfl c5
                      have zc7 := i32_ne (k := 3) rfl c7
                      have zc9 := i32_ne (k := 4) rfl c9
                      have zc10 := i32_ne (k := 5) rfl c10
                      have zc12 := i32_ne (k := 6) rfl c12
                      have zc14 := i32_ne (k := 7) rfl c14
                      have zc15 := i32_ne (k := 8) rfl c15
                      have zc16 := i32_ne (k := 9) rfl c16
                      refine lv_tableOut (tgt := 109) hx hb dX7_count_1 (by omega) (by decide) ?_
                      refine lv_iconst (v := (-1)) hx hb dX7_count_109 (by decide) ?_
                      replace hf := Option.some.inj hf
                      subst hf
                      exact hret H locs _ ls dX7_count_110 hP hD hS
