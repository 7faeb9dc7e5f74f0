def fX4_isLetter (a1 : Int32) : Option (Bool) :=
  if a1 < 97 then some false else if 122 < a1 then some false else some true
set_option maxHeartbeats 4000000 in
set_option maxRecDepth 100000 in
theorem ctX4_isLetter (l : Launch) (D : va_G) (cI cZ cD cH : ClassId) (a1 : Int32) (o : Bool) (hf : fX4_isLetter a1 = some o) : Ct l yX4_isLetter cX4_isLetter 1 (some .boolean) { frames := 0, cells := 0, slots := 0, locals := 0 } D (Tys cI cZ cD cH) [.int a1] [] [] (some (.int (bI o))) 0 0 := by
  refine mkZ (by decide) (Nat.le_of_ble_eq_true rfl) ?_
  intro p e s m args below meth c A Q X hret ls hl H locs hP hD hS
  replace X : Cx p s m args c D (Tys cI cZ cD cH) A cX4_isLetter RX4 1 := X
  obtain ⟨hx, hb, hml, hown, hts, hK, hZ, hA⟩ := id X
  have hl : lv_has ls 1 [(0, .int a1)] := hl
  unfold fX4_isLetter at hf
  refine lv_iload_n hx hb dX4_isLetter_0 rfl (lv_at hl 0 rfl) ?_
  refine lv_bipush (v := 97) hx hb dX4_isLetter_1 (by decide) ?_
  refine lv_icmp_lt (tgt := 16) hx hb dX4_isLetter_3 (by decide) (fun c1 => ?_) (fun c1 => ?_)
  · replace hf := ite_t c1 hf
    refine lv_iconst (v := 0) hx hb dX4_isLetter_16 (by decide) ?_
    replace hf := Option.some.inj hf
    subst hf
    exact hret H locs _ ls dX4_isLetter_17 hP hD hS
  · replace hf := ite_f c1 hf
    refine lv_iload_n hx hb dX4_isLetter_6 rfl (lv_at hl 0 rfl) ?_
    refine lv_bipush (v := 122) hx hb dX4_isLetter_7 (by decide) ?_
    refine lv_icmp_gt (tgt := 16) hx hb dX4_isLetter_9 (by decide) (fun c2 => ?_) (fun c2 => ?_)
    · replace hf := ite_t c2 hf
      refine lv_iconst (v := 0) hx hb dX4_isLetter_16 (by decide) ?_
      replace hf := Option.some.inj hf
      subst hf
      exact hret H locs _ ls dX4_isLetter_17 hP hD hS
    · replace hf := ite_f c2 hf
      refine lv_iconst (v := 1) hx hb dX4_isLetter_12 (by decide) ?_
      refine lv_goto (tgt := 17) hx hb dX4_isLetter_13 (by decide) ?_
      replace hf := Option.some.inj hf
      subst hf
      exact hret H locs _ ls dX4_isLetter_17 hP hD hS

def fX4_isDigit (a1 : Int32) : Option (Bool) :=
  if a1 < 48 then some false else if 57 < a1 then some false else some true
set_option maxHeartbeats 4000000 in
set_option maxRecDepth 100000 in
theorem ctX4_isDigit (l : Launch) (D : va_G) (cI cZ cD cH : ClassId) (a1 : Int32) (o : Bool) (hf : fX4_isDigit a1 = some o) : Ct l yX4_isDigit cX4_isDigit 1 (some .boolean) { frames := 0, cells := 0, slots := 0, locals := 0 } D (Tys cI cZ cD cH) [.int a1] [] [] (some (.int (bI o))) 0 0 := by
  refine mkZ (by decide) (Nat.le_of_ble_eq_true rfl) ?_
  intro p e s m args below meth c A Q X hret ls hl H locs hP hD hS
  replace X : Cx p s m args c D (Tys cI cZ cD cH) A cX4_isDigit RX4 1 := X
  obtain ⟨hx, hb, hml, hown, hts, hK, hZ, hA⟩ := id X
  have hl : lv_has ls 1 [(0, .int a1)] := hl
  unfold fX4_isDigit at hf
  refine lv_iload_n hx hb dX4_isDigit_0 rfl (lv_at hl 0 rfl) ?_
  refine lv_bipush (v := 48) hx hb dX4_isDigit_1 (by decide) ?_
  refine lv_icmp_lt (tgt := 16) hx hb dX4_isDigit_3 (by decide) (fun c1 => ?_) (fun c1 => ?_)
  · replace hf := ite_t c1 hf
    refine lv_iconst (v := 0) hx hb dX4_isDigit_16 (by decide) ?_
    replace hf := Option.some.inj hf
    subst hf
    exact hret H locs _ ls dX4_isDigit_17 hP hD hS
  · replace hf := ite_f c1 hf
    refine lv_iload_n hx hb dX4_isDigit_6 rfl (lv_at hl 0 rfl) ?_
    refine lv_bipush (v := 57) hx hb dX4_isDigit_7 (by decide) ?_
    refine lv_icmp_gt (tgt := 16) hx hb dX4_isDigit_9 (by decide) (fun c2 => ?_) (fun c2 => ?_)
    · replace hf := ite_t c2 hf
      refine lv_iconst (v := 0) hx hb dX4_isDigit_16 (by decide) ?_
      replace hf := Option.some.inj hf
      subst hf
      exact hret H locs _ ls dX4_isDigit_17 hP hD hS
    · replace hf := ite_f c2 hf
      refine lv_iconst (v := 1) hx hb dX4_isDigit_12 (by decide) ?_
      refine lv_goto (tgt := 17) hx hb dX4_isDigit_13 (by decide) ?_
      replace hf := Option.some.inj hf
      subst hf
      exact hret H locs _ ls dX4_isDigit_17 hP hD hS

def fX4_numbersOf (a1 : Int32) : Option (Int32) :=
  if a1 = 100 then some 2 else (if a1 = 115 then some 5 else (if a1 = 116 then some 3 else (some 1)))
set_option maxHeartbeats 4000000 in
set_option maxRecDepth 100000 in
theorem ctX4_numbersOf (l : Launch) (D : va_G) (cI cZ cD cH : ClassId) (a1 : Int32) (o : Int32) (hf : fX4_numbersOf a1 = some o) : Ct l yX4_numbersOf cX4_numbersOf 1 (some .int) { frames := 0, cells := 0, slots := 0, locals := 0 } D (Tys cI cZ cD cH) [.int a1] [] [] (some (.int o)) 0 0 := by
  refine mkI (by decide) (Nat.le_of_ble_eq_true rfl) ?_
  intro p e s m args below meth c A Q X hret ls hl H locs hP hD hS
  replace X : Cx p s m args c D (Tys cI cZ cD cH) A cX4_numbersOf RX4 1 := X
  obtain ⟨hx, hb, hml, hown, hts, hK, hZ, hA⟩ := id X
  have hl : lv_has ls 1 [(0, .int a1)] := hl
  unfold fX4_numbersOf at hf
  refine lv_iload_n hx hb dX4_numbersOf_0 rfl (lv_at hl 0 rfl) ?_
  by_cases c1 : a1 = 100
  · replace hf := ite_t c1 hf
    refine top_eq c1 ?_
    refine lv_lookup (tgt := 40) hx hb dX4_numbersOf_1 (by decide) rfl (by decide) ?_
    refine lv_iconst (v := 2) hx hb dX4_numbersOf_40 (by decide) ?_
    replace hf := Option.some.inj hf
    subst hf
    exact hret H locs _ ls dX4_numbersOf_41 hP hD hS
  · replace hf := ite_f c1 hf
    by_cases c2 : a1 = 115
    · replace hf := ite_t c2 hf
      refine top_eq c2 ?_
      refine lv_lookup (tgt := 36) hx hb dX4_numbersOf_1 (by decide) rfl (by decide) ?_
      refine lv_iconst (v := 5) hx hb dX4_numbersOf_36 (by decide) ?_
      replace hf := Option.some.inj hf
      subst hf
      exact hret H locs _ ls dX4_numbersOf_37 hP hD hS
    · replace hf := ite_f c2 hf
      by_cases c3 : a1 = 116
      · replace hf := ite_t c3 hf
        refine top_eq c3 ?_
        refine lv_lookup (tgt := 38) hx hb dX4_numbersOf_1 (by decide) rfl (by decide) ?_
        refine lv_iconst (v := 3) hx hb dX4_numbersOf_38 (by decide) ?_
        replace hf := Option.some.inj hf
        subst hf
        exact hret H locs _ ls dX4_numbersOf_39 hP hD hS
      · replace hf := ite_f c3 hf
        have zc1 := i32_ne (k := 100) rfl c1
        have zc2 := i32_ne (k := 115) rfl c2
        have zc3 := i32_ne (k := 116) rfl c3
        refine lv_lookup (tgt := 42) (off := 41) hx hb dX4_numbersOf_1 (by decide) (by simp [Op.lookupswitch.offset, List.find?, zc1, (Ne.symm zc1), zc2, (Ne.symm zc2), zc3, (Ne.symm zc3)]) (by decide) ?_
        refine lv_iconst (v := 1) hx hb dX4_numbersOf_42 (by decide) ?_
        replace hf := Option.some.inj hf
        subst hf
        exact hret H locs _ ls dX4_numbersOf_43 hP hD hS

def sX4_readLetters_5 (r_length : Int32) (r_tokenPlace : Int32) (b : Nat → Int32) (r_place : Int32) (r_tokenValue : Int32) : Option ((Int32 × Int32) ⊕ ((Int32 × Int32))) :=
  if r_length ≤ r_place then some (.inr (r_place, r_tokenValue)) else if inb r_place 200 = true then (fX4_isLetter (b r_place.toNatClampNeg)).bind (fun r4 => if (bI r4) = 0 then some (.inr (r_place, r_tokenValue)) else jn (fun (x6 : Int32) => some (.inl (r_place + 1, x6))) (fun K6 => if r_place = r_tokenPlace then if inb r_place 200 = true then K6 (b r_place.toNatClampNeg) else none else K6 0)) else none
def fX4_readLetters (r_length : Int32) (r_place : Int32) (r_tokenPlace : Int32) (r_tokenValue : Int32) (b : Nat → Int32) : Option (Int32 × Int32 × Int32) :=
  (lpd (fun s1 => sX4_readLetters_5 r_length r_tokenPlace b s1.1 s1.2) FU (r_place, r_tokenValue)).bind (fun (y1_0 : Int32 × Int32) => some (y1_0.1, 1, y1_0.2))
set_option maxHeartbeats 4000000 in
set_option maxRecDepth 100000 in
theorem ctX4_readLetters (l : Launch) (D : va_G) (cI cZ cD cH : ClassId) (qr : Nat) (qr_numbers : Nat) (qb : Nat) (r_length : Int32) (r_place : Int32) (r_token : Int32) (r_tokenPlace : Int32) (r_tokenValue : Int32) (r_yearsTold : Int32) (r_beginTold : Int32) (r_quorumTold : Int32) (r_numbers : Nat → Int32) (b : Nat → Int32) (o : Int32 × Int32 × Int32) (hf : fX4_readLetters r_length r_place r_tokenPlace r_tokenValue b = some o) : Ct l yX4_readLetters cX4_readLetters 1 none { frames := 1, cells := 0, slots := 0, locals := 20 } D (Tys cI cZ cD cH) [.ref qr] [(qr, .inr (4, [.ref qb, .int r_length, .int r_place, .int r_token, .int r_tokenPlace, .int r_tokenValue, .int r_yearsTold, .int r_beginTold, .int r_quorumTold, .ref qr_numbers])), rI cI qr_numbers 5 r_numbers, rI cI qb 200 b] [(qr, .inr (4, [.ref qb, .int r_length, .int o.1, .int o.2.1, .int r_tokenPlace, .int o.2.2, .int r_yearsTold, .int r_beginTold, .int r_quorumTold, .ref qr_numbers])), rI cI qr_numbers 5 r_numbers, rI cI qb 200 b] none 0 0 := by
  refine mkV (by decide) (Nat.le_of_ble_eq_true rfl) ?_
  intro p e s m args below meth c A Q X hnm hret ls hl H locs hP hD hS
  replace X : Cx p s m args c D (Tys cI cZ cD cH) A cX4_readLetters RX4 1 := X
  obtain ⟨hx, hb, hml, hown, hts, hK, hZ, hA⟩ := id X
  have hl : lv_has ls 1 [(0, .ref qr)] := hl
  unfold fX4_readLetters at hf
  refine lv_aload_n hx hb dX4_readLetters_0 rfl (lv_at hl 0 rfl) ?_
  refine lv_iconst (v := 1) hx hb dX4_readLetters_1 (by decide) ?_
  refine k_put X hP hD hS [(qr, .inr (4, [.ref qb, .int r_length, .int r_place, .int 1, .int r_tokenPlace, .int r_tokenValue, .int r_yearsTold, .int r_beginTold, .int r_quorumTold, .ref qr_numbers])), rI cI qr_numbers 5 r_numbers, rI cI qb 200 b] 0 rfl rfl inX4 tyX4_ok nmX4 3 (by decide) fl_RX4_22 rfl rfl rfl rfl (Nat.le_of_ble_eq_true rfl) rfl dX4_readLetters_2 (fun H locs hP hD hS => ?_)
  obtain ⟨e1, he1, hf⟩ := bnd hf
  have hx1_0 : ∀ (y1_0 : Int32 × Int32), y1_0 = e1 → ∀ (H : Heap) (locs : List Loc) (ls : Array Slot), va_P D vwCl [(qr, .inr (4, [.ref qb, .int r_length, .int y1_0.1, .int 1, .int r_tokenPlace, .int y1_0.2, .int r_yearsTold, .int r_beginTold, .int r_quorumTold, .ref qr_numbers])), rI cI qr_numbers 5 r_numbers, rI cI qb 200 b] H → va_D A [(qr, .inr (4, [.ref qb, .int r_length, .int y1_0.1, .int 1, .int r_tokenPlace, .int y1_0.2, .int r_yearsTold, .int r_beginTold, .int r_quorumTold, .ref qr_numbers])), rI cI qr_numbers 5 r_numbers, rI cI qb 200 b] → va_S A s.heap H locs → lv_has ls 1 [] → W p l e ({ frames := 1, cells := 0, slots := 0, locals := 20 } : Room) s m args below meth c H locs 0 0 Q (F0 m 72 ls []) := by
    intro y1_0 heq H locs ls hP hD hS hl
    subst heq
    replace hf := Option.some.inj hf
    subst hf
    exact hret H locs _ ls dX4_readLetters_72 hP hD hS
  refine lpd_ind (P := fun s1 => ∀ (H : Heap) (locs : List Loc) (ls : Array Slot), va_P D vwCl [(qr, .inr (4, [.ref qb, .int r_length, .int s1.1, .int 1, .int r_tokenPlace, .int s1.2, .int r_yearsTold, .int r_beginTold, .int r_quorumTold, .ref qr_numbers])), rI cI qr_numbers 5 r_numbers, rI cI qb 200 b] H → va_D A [(qr, .inr (4, [.ref qb, .int r_length, .int s1.1, .int 1, .int r_tokenPlace, .int s1.2, .int r_yearsTold, .int r_beginTold, .int r_quorumTold, .ref qr_numbers])), rI cI qr_numbers 5 r_numbers, rI cI qb 200 b] → va_S A s.heap H locs → lv_has ls 1 [(0, .ref qr)] → W p l e ({ frames := 1, cells := 0, slots := 0, locals := 20 } : Room) s m args below meth c H locs 0 0 Q (F0 m 5 ls [])) e1 ?_ _ _ he1 H locs ls hP hD hS hl
  intro s1 r1 hf ih1 hq1 H locs ls hP hD hS hl
  unfold sX4_readLetters_5 at hf
  refine lv_aload_n hx hb dX4_readLetters_5 rfl (lv_at hl 0 rfl) ?_
  refine k_get X hP 0 rfl rfl inX4 2 (by decide) fl_RX4_19 rfl rfl dX4_readLetters_6 ?_
  refine lv_aload_n hx hb dX4_readLetters_9 rfl (lv_at hl 0 rfl) ?_
  refine k_get X hP 0 rfl rfl inX4 1 (by decide) fl_RX4_15 rfl rfl dX4_readLetters_10 ?_
  refine lv_icmp_ge (tgt := 72) hx hb dX4_readLetters_13 (by decide) (fun c2 => ?_) (fun c2 => ?_)
  · replace hf := ite_t c2 hf
    exact hx1_0 _ (hq1 _ (Option.some.inj hf).symm) H locs ls hP hD hS (lv_sub hl [] rfl)
  · replace hf := ite_f c2 hf
    refine lv_aload_n hx hb dX4_readLetters_16 rfl (lv_at hl 0 rfl) ?_
    refine k_get X hP 0 rfl rfl inX4 0 (by decide) fl_RX4_9 rfl rfl dX4_readLetters_17 ?_
    refine lv_aload_n hx hb dX4_readLetters_20 rfl (lv_at hl 0 rfl) ?_
    refine k_get X hP 0 rfl rfl inX4 2 (by decide) fl_RX4_19 rfl rfl dX4_readLetters_21 ?_
    obtain ⟨h3, hf⟩ := ck_t hf
    refine k_iald X hP 2 0 rfl rfl h3 dX4_readLetters_24 ?_
    obtain ⟨r4, hr4, hf⟩ := bnd hf
    refine k_callS X hP hD hS [(qr, .inr (4, [.ref qb, .int r_length, .int s1.1, .int 1, .int r_tokenPlace, .int s1.2, .int r_yearsTold, .int r_beginTold, .int r_quorumTold, .ref qr_numbers])), rI cI qr_numbers 5 r_numbers, rI cI qb 200 b] (ctX4_isLetter l D cI cZ cD cH (b s1.1.toNatClampNeg) r4 hr4) ml_RX4_134 sm_yX4_isLetter in_RX4 cd_yX4_isLetter rfl rfl hd_yX4_isLetter ⟨by decide, by decide⟩ ⟨Nat.zero_le _, Nat.zero_le _⟩ [] [none, none, none] rfl (by decide +kernel) rfl (by decide +kernel) rfl rfl hl.1 rfl rfl (Nat.le_of_ble_eq_true rfl) rfl dX4_readLetters_25 (fun H locs hP hD hS => ?_)
    refine lv_if_eq (tgt := 72) hx hb dX4_readLetters_28 (by decide) (fun c5 => ?_) (fun c5 => ?_)
    · replace hf := ite_t c5 hf
      exact hx1_0 _ (hq1 _ (Option.some.inj hf).symm) H locs ls hP hD hS (lv_sub hl [] rfl)
    · replace hf := ite_f c5 hf
      refine lv_aload_n hx hb dX4_readLetters_31 rfl (lv_at hl 0 rfl) ?_
      refine lv_aload_n hx hb dX4_readLetters_32 rfl (lv_at hl 0 rfl) ?_
      refine k_get X hP 0 rfl rfl inX4 2 (by decide) fl_RX4_19 rfl rfl dX4_readLetters_33 ?_
      refine lv_aload_n hx hb dX4_readLetters_36 rfl (lv_at hl 0 rfl) ?_
      refine k_get X hP 0 rfl rfl inX4 4 (by decide) fl_RX4_25 rfl rfl dX4_readLetters_37 ?_
      refine jn_e hf (fun K6 hf hk6 => ?_)
      have hj6 : ∀ (x6 : Int32) (H : Heap) (locs : List Loc) (ls : Array Slot), K6 x6 = some r1 → va_P D vwCl [(qr, .inr (4, [.ref qb, .int r_length, .int s1.1, .int 1, .int r_tokenPlace, .int s1.2, .int r_yearsTold, .int r_beginTold, .int r_quorumTold, .ref qr_numbers])), rI cI qr_numbers 5 r_numbers, rI cI qb 200 b] H → va_D A [(qr, .inr (4, [.ref qb, .int r_length, .int s1.1, .int 1, .int r_tokenPlace, .int s1.2, .int r_yearsTold, .int r_beginTold, .int r_quorumTold, .ref qr_numbers])), rI cI qr_numbers 5 r_numbers, rI cI qb 200 b] → va_S A s.heap H locs → lv_has ls 1 [(0, .ref qr)] → W p l e ({ frames := 1, cells := 0, slots := 0, locals := 20 } : Room) s m args below meth c H locs 0 0 Q (F0 m 56 ls [.int x6, .ref qr]) := by
        intro x6 H locs ls hf hP hD hS hl
        replace hf := hk6 x6 hf
        refine k_put X hP hD hS [(qr, .inr (4, [.ref qb, .int r_length, .int s1.1, .int 1, .int r_tokenPlace, .int x6, .int r_yearsTold, .int r_beginTold, .int r_quorumTold, .ref qr_numbers])), rI cI qr_numbers 5 r_numbers, rI cI qb 200 b] 0 rfl rfl inX4 tyX4_ok nmX4 5 (by decide) fl_RX4_28 rfl rfl rfl rfl (Nat.le_of_ble_eq_true rfl) rfl dX4_readLetters_56 (fun H locs hP hD hS => ?_)
        refine lv_aload_n hx hb dX4_readLetters_59 rfl (lv_at hl 0 rfl) ?_
        refine lv_dup hx hb dX4_readLetters_60 rfl ?_
        refine k_get X hP 0 rfl rfl inX4 2 (by decide) fl_RX4_19 rfl rfl dX4_readLetters_61 ?_
        refine lv_iconst (v := 1) hx hb dX4_readLetters_64 (by decide) ?_
        refine lv_iadd hx hb dX4_readLetters_65 ?_
        refine k_put X hP hD hS [(qr, .inr (4, [.ref qb, .int r_length, .int (s1.1 + 1), .int 1, .int r_tokenPlace, .int x6, .int r_yearsTold, .int r_beginTold, .int r_quorumTold, .ref qr_numbers])), rI cI qr_numbers 5 r_numbers, rI cI qb 200 b] 0 rfl rfl inX4 tyX4_ok nmX4 2 (by decide) fl_RX4_19 rfl rfl rfl rfl (Nat.le_of_ble_eq_true rfl) rfl dX4_readLetters_66 (fun H locs hP hD hS => ?_)
        refine lv_goto (tgt := 5) hx hb dX4_readLetters_69 (by decide) ?_
        exact ih1 _ (Option.some.inj hf).symm H locs ls hP hD hS hl
      refine lv_icmp_ne (tgt := 55) hx hb dX4_readLetters_40 (by decide) (fun c7 => ?_) (fun c7 => ?_)
      · replace hf := ite_f c7 hf
        refine lv_iconst (v := 0) hx hb dX4_readLetters_55 (by decide) ?_
        exact hj6 _ H locs ls hf hP hD hS hl
      · replace hf := ite_t c7 hf
        refine lv_aload_n hx hb dX4_readLetters_43 rfl (lv_at hl 0 rfl) ?_
        refine k_get X hP 0 rfl rfl inX4 0 (by decide) fl_RX4_9 rfl rfl dX4_readLetters_44 ?_
        refine lv_aload_n hx hb dX4_readLetters_47 rfl (lv_at hl 0 rfl) ?_
        refine k_get X hP 0 rfl rfl inX4 2 (by decide) fl_RX4_19 rfl rfl dX4_readLetters_48 ?_
        obtain ⟨h8, hf⟩ := ck_t hf
        refine k_iald X hP 2 0 rfl rfl h8 dX4_readLetters_51 ?_
        refine lv_goto (tgt := 56) hx hb dX4_readLetters_52 (by decide) ?_
        exact hj6 _ H locs ls hf hP hD hS hl

def sX4_readNumber_0 (r_length : Int32) (b : Nat → Int32) (r_place : Int32) (r_tokenValue : Int32) : Option ((Int32 × Int32) ⊕ ((Int32 × Int32))) :=
  if r_length ≤ r_place then some (.inr (r_place, r_tokenValue)) else if inb r_place 200 = true then (fX4_isDigit (b r_place.toNatClampNeg)).bind (fun r4 => if (bI r4) = 0 then some (.inr (r_place, r_tokenValue)) else jn (fun (x6 : Int32) => some (.inl (r_place + 1, x6))) (fun K6 => if 99 < r_tokenValue then K6 r_tokenValue else if inb r_place 200 = true then K6 (((r_tokenValue * 10) + (b r_place.toNatClampNeg)) - 48) else none)) else none
def fX4_readNumber (r_length : Int32) (r_place : Int32) (r_tokenPlace : Int32) (r_tokenValue : Int32) (b : Nat → Int32) : Option (Int32 × Int32 × Int32) :=
  (lpd (fun s1 => sX4_readNumber_0 r_length b s1.1 s1.2) FU (r_place, r_tokenValue)).bind (fun (y1_0 : Int32 × Int32) => if inb r_tokenPlace 200 = true then jn (fun (x3 : Int32) => jn (fun (x4 : Int32) => some (y1_0.1, x4, y1_0.2)) (fun K4 => jn (fun (x5 : Unit) => K4 4) (fun K5 => if x3 = 0 then if y1_0.2 ≤ 99 then K4 2 else K5 () else K5 ()))) (fun K3 => jn (fun (x8 : Unit) => K3 0) (fun K8 => if (b r_tokenPlace.toNatClampNeg) = 48 then if (y1_0.1 - r_tokenPlace) ≤ 1 then K8 () else K3 1 else K8 ())) else none)
set_option maxHeartbeats 4000000 in
set_option maxRecDepth 100000 in
theorem ctX4_readNumber (l : Launch) (D : va_G) (cI cZ cD cH : ClassId) (qr : Nat) (qr_numbers : Nat) (qb : Nat) (r_length : Int32) (r_place : Int32) (r_token : Int32) (r_tokenPlace : Int32) (r_tokenValue : Int32) (r_yearsTold : Int32) (r_beginTold : Int32) (r_quorumTold : Int32) (r_numbers : Nat → Int32) (b : Nat → Int32) (o : Int32 × Int32 × Int32) (hf : fX4_readNumber r_length r_place r_tokenPlace r_tokenValue b = some o) : Ct l yX4_readNumber cX4_readNumber 2 none { frames := 1, cells := 0, slots := 0, locals := 20 } D (Tys cI cZ cD cH) [.ref qr] [(qr, .inr (4, [.ref qb, .int r_length, .int r_place, .int r_token, .int r_tokenPlace, .int r_tokenValue, .int r_yearsTold, .int r_beginTold, .int r_quorumTold, .ref qr_numbers])), rI cI qr_numbers 5 r_numbers, rI cI qb 200 b] [(qr, .inr (4, [.ref qb, .int r_length, .int o.1, .int o.2.1, .int r_tokenPlace, .int o.2.2, .int r_yearsTold, .int r_beginTold, .int r_quorumTold, .ref qr_numbers])), rI cI qr_numbers 5 r_numbers, rI cI qb 200 b] none 0 0 := by
  refine mkV (by decide) (Nat.le_of_ble_eq_true rfl) ?_
  intro p e s m args below meth c A Q X hnm hret ls hl H locs hP hD hS
  replace X : Cx p s m args c D (Tys cI cZ cD cH) A cX4_readNumber RX4 2 := X
  obtain ⟨hx, hb, hml, hown, hts, hK, hZ, hA⟩ := id X
  have hl : lv_has ls 2 [(0, .ref qr)] := hl
  unfold fX4_readNumber at hf
  obtain ⟨e1, he1, hf⟩ := bnd hf
  have hx1_0 : ∀ (y1_0 : Int32 × Int32), y1_0 = e1 → ∀ (H : Heap) (locs : List Loc) (ls : Array Slot), va_P D vwCl [(qr, .inr (4, [.ref qb, .int r_length, .int y1_0.1, .int r_token, .int r_tokenPlace, .int y1_0.2, .int r_yearsTold, .int r_beginTold, .int r_quorumTold, .ref qr_numbers])), rI cI qr_numbers 5 r_numbers, rI cI qb 200 b] H → va_D A [(qr, .inr (4, [.ref qb, .int r_length, .int y1_0.1, .int r_token, .int r_tokenPlace, .int y1_0.2, .int r_yearsTold, .int r_beginTold, .int r_quorumTold, .ref qr_numbers])), rI cI qr_numbers 5 r_numbers, rI cI qb 200 b] → va_S A s.heap H locs → lv_has ls 2 [(0, .ref qr)] → W p l e ({ frames := 1, cells := 0, slots := 0, locals := 20 } : Room) s m args below meth c H locs 0 0 Q (F0 m 72 ls []) := by
    intro y1_0 heq H locs ls hP hD hS hl
    subst heq
    refine lv_aload_n hx hb dX4_readNumber_72 rfl (lv_at hl 0 rfl) ?_
    refine k_get X hP 0 rfl rfl inX4 0 (by decide) fl_RX4_9 rfl rfl dX4_readNumber_73 ?_
    refine lv_aload_n hx hb dX4_readNumber_76 rfl (lv_at hl 0 rfl) ?_
    refine k_get X hP 0 rfl rfl inX4 4 (by decide) fl_RX4_25 rfl rfl dX4_readNumber_77 ?_
    obtain ⟨h2, hf⟩ := ck_t hf
    refine k_iald X hP 2 0 rfl rfl h2 dX4_readNumber_80 ?_
    refine lv_bipush (v := 48) hx hb dX4_readNumber_81 (by decide) ?_
    refine jn_e hf (fun K3 hf hk3 => ?_)
    have hj3 : ∀ (x3 : Int32) (H : Heap) (locs : List Loc) (ls : Array Slot), K3 x3 = some o → va_P D vwCl [(qr, .inr (4, [.ref qb, .int r_length, .int y1_0.1, .int r_token, .int r_tokenPlace, .int y1_0.2, .int r_yearsTold, .int r_beginTold, .int r_quorumTold, .ref qr_numbers])), rI cI qr_numbers 5 r_numbers, rI cI qb 200 b] H → va_D A [(qr, .inr (4, [.ref qb, .int r_length, .int y1_0.1, .int r_token, .int r_tokenPlace, .int y1_0.2, .int r_yearsTold, .int r_beginTold, .int r_quorumTold, .ref qr_numbers])), rI cI qr_numbers 5 r_numbers, rI cI qb 200 b] → va_S A s.heap H locs → lv_has ls 2 [(0, .ref qr)] → W p l e ({ frames := 1, cells := 0, slots := 0, locals := 20 } : Room) s m args below meth c H locs 0 0 Q (F0 m 104 ls [.int x3]) := by
      intro x3 H locs ls hf hP hD hS hl
      replace hf := hk3 x3 hf
      refine lv_istore_n (lv' := [(1, .int x3), (0, .ref qr)]) hx hb dX4_readNumber_104 rfl hl (by decide) rfl (fun ls hl => ?_)
      refine lv_aload_n hx hb dX4_readNumber_105 rfl (lv_at hl 1 rfl) ?_
      refine lv_iload_n hx hb dX4_readNumber_106 rfl (lv_at hl 0 rfl) ?_
      refine jn_e hf (fun K4 hf hk4 => ?_)
      have hj4 : ∀ (x4 : Int32) (H : Heap) (locs : List Loc) (ls : Array Slot), K4 x4 = some o → va_P D vwCl [(qr, .inr (4, [.ref qb, .int r_length, .int y1_0.1, .int r_token, .int r_tokenPlace, .int y1_0.2, .int r_yearsTold, .int r_beginTold, .int r_quorumTold, .ref qr_numbers])), rI cI qr_numbers 5 r_numbers, rI cI qb 200 b] H → va_D A [(qr, .inr (4, [.ref qb, .int r_length, .int y1_0.1, .int r_token, .int r_tokenPlace, .int y1_0.2, .int r_yearsTold, .int r_beginTold, .int r_quorumTold, .ref qr_numbers])), rI cI qr_numbers 5 r_numbers, rI cI qb 200 b] → va_S A s.heap H locs → lv_has ls 2 [] → W p l e ({ frames := 1, cells := 0, slots := 0, locals := 20 } : Room) s m args below meth c H locs 0 0 Q (F0 m 124 ls [.int x4, .ref qr]) := by
        intro x4 H locs ls hf hP hD hS hl
        replace hf := hk4 x4 hf
        refine k_put X hP hD hS [(qr, .inr (4, [.ref qb, .int r_length, .int y1_0.1, .int x4, .int r_tokenPlace, .int y1_0.2, .int r_yearsTold, .int r_beginTold, .int r_quorumTold, .ref qr_numbers])), rI cI qr_numbers 5 r_numbers, rI cI qb 200 b] 0 rfl rfl inX4 tyX4_ok nmX4 3 (by decide) fl_RX4_22 rfl rfl rfl rfl (Nat.le_of_ble_eq_true rfl) rfl dX4_readNumber_124 (fun H locs hP hD hS => ?_)
        replace hf := Option.some.inj hf
        subst hf
        exact hret H locs _ ls dX4_readNumber_127 hP hD hS
      refine jn_e hf (fun K5 hf hk5 => ?_)
      have hj5 : ∀ (x5 : Unit) (H : Heap) (locs : List Loc) (ls : Array Slot), K5 x5 = some o → va_P D vwCl [(qr, .inr (4, [.ref qb, .int r_length, .int y1_0.1, .int r_token, .int r_tokenPlace, .int y1_0.2, .int r_yearsTold, .int r_beginTold, .int r_quorumTold, .ref qr_numbers])), rI cI qr_numbers 5 r_numbers, rI cI qb 200 b] H → va_D A [(qr, .inr (4, [.ref qb, .int r_length, .int y1_0.1, .int r_token, .int r_tokenPlace, .int y1_0.2, .int r_yearsTold, .int r_beginTold, .int r_quorumTold, .ref qr_numbers])), rI cI qr_numbers 5 r_numbers, rI cI qb 200 b] → va_S A s.heap H locs → lv_has ls 2 [] → W p l e ({ frames := 1, cells := 0, slots := 0, locals := 20 } : Room) s m args below meth c H locs 0 0 Q (F0 m 119 ls [.ref qr]) := by
        intro x5 H locs ls hf hP hD hS hl
        replace hf := hk5 x5 hf
        refine lv_iconst (v := 4) hx hb dX4_readNumber_119 (by decide) ?_
        refine lv_goto (tgt := 124) hx hb dX4_readNumber_120 (by decide) ?_
        exact hj4 _ H locs ls hf hP hD hS hl
      refine lv_if_ne (tgt := 119) hx hb dX4_readNumber_107 (by decide) (fun c6 => ?_) (fun c6 => ?_)
      · replace hf := ite_f c6 hf
        exact hj5 _ H locs ls hf hP hD hS (lv_sub hl [] rfl)
      · replace hf := ite_t c6 hf
        refine lv_aload_n hx hb dX4_readNumber_110 rfl (lv_at hl 1 rfl) ?_
        refine k_get X hP 0 rfl rfl inX4 5 (by decide) fl_RX4_28 rfl rfl dX4_readNumber_111 ?_
        refine lv_bipush (v := 99) hx hb dX4_readNumber_114 (by decide) ?_
        refine lv_icmp_le (tgt := 123) hx hb dX4_readNumber_116 (by decide) (fun c7 => ?_) (fun c7 => ?_)
        · replace hf := ite_t c7 hf
          refine lv_iconst (v := 2) hx hb dX4_readNumber_123 (by decide) ?_
          exact hj4 _ H locs ls hf hP hD hS (lv_sub hl [] rfl)
        · replace hf := ite_f c7 hf
          exact hj5 _ H locs ls hf hP hD hS (lv_sub hl [] rfl)
    refine jn_e hf (fun K8 hf hk8 => ?_)
    have hj8 : ∀ (x8 : Unit) (H : Heap) (locs : List Loc) (ls : Array Slot), K8 x8 = some o → va_P D vwCl [(qr, .inr (4, [.ref qb, .int r_length, .int y1_0.1, .int r_token, .int r_tokenPlace, .int y1_0.2, .int r_yearsTold, .int r_beginTold, .int r_quorumTold, .ref qr_numbers])), rI cI qr_numbers 5 r_numbers, rI cI qb 200 b] H → va_D A [(qr, .inr (4, [.ref qb, .int r_length, .int y1_0.1, .int r_token, .int r_tokenPlace, .int y1_0.2, .int r_yearsTold, .int r_beginTold, .int r_quorumTold, .ref qr_numbers])), rI cI qr_numbers 5 r_numbers, rI cI qb 200 b] → va_S A s.heap H locs → lv_has ls 2 [(0, .ref qr)] → W p l e ({ frames := 1, cells := 0, slots := 0, locals := 20 } : Room) s m args below meth c H locs 0 0 Q (F0 m 103 ls []) := by
      intro x8 H locs ls hf hP hD hS hl
      replace hf := hk8 x8 hf
      refine lv_iconst (v := 0) hx hb dX4_readNumber_103 (by decide) ?_
      exact hj3 _ H locs ls hf hP hD hS hl
    refine lv_icmp_ne (tgt := 103) hx hb dX4_readNumber_83 (by decide) (fun c9 => ?_) (fun c9 => ?_)
    · replace hf := ite_f c9 hf
      exact hj8 _ H locs ls hf hP hD hS hl
    · replace hf := ite_t c9 hf
      refine lv_aload_n hx hb dX4_readNumber_86 rfl (lv_at hl 0 rfl) ?_
      refine k_get X hP 0 rfl rfl inX4 2 (by decide) fl_RX4_19 rfl rfl dX4_readNumber_87 ?_
      refine lv_aload_n hx hb dX4_readNumber_90 rfl (lv_at hl 0 rfl) ?_
      refine k_get X hP 0 rfl rfl inX4 4 (by decide) fl_RX4_25 rfl rfl dX4_readNumber_91 ?_
      refine lv_isub hx hb dX4_readNumber_94 ?_
      refine lv_iconst (v := 1) hx hb dX4_readNumber_95 (by decide) ?_
      refine lv_icmp_le (tgt := 103) hx hb dX4_readNumber_96 (by decide) (fun c10 => ?_) (fun c10 => ?_)
      · replace hf := ite_t c10 hf
        exact hj8 _ H locs ls hf hP hD hS hl
      · replace hf := ite_f c10 hf
        refine lv_iconst (v := 1) hx hb dX4_readNumber_99 (by decide) ?_
        refine lv_goto (tgt := 104) hx hb dX4_readNumber_100 (by decide) ?_
        exact hj3 _ H locs ls hf hP hD hS hl
  refine lpd_ind (P := fun s1 => ∀ (H : Heap) (locs : List Loc) (ls : Array Slot), va_P D vwCl [(qr, .inr (4, [.ref qb, .int r_length, .int s1.1, .int r_token, .int r_tokenPlace, .int s1.2, .int r_yearsTold, .int r_beginTold, .int r_quorumTold, .ref qr_numbers])), rI cI qr_numbers 5 r_numbers, rI cI qb 200 b] H → va_D A [(qr, .inr (4, [.ref qb, .int r_length, .int s1.1, .int r_token, .int r_tokenPlace, .int s1.2, .int r_yearsTold, .int r_beginTold, .int r_quorumTold, .ref qr_numbers])), rI cI qr_numbers 5 r_numbers, rI cI qb 200 b] → va_S A s.heap H locs → lv_has ls 2 [(0, .ref qr)] → W p l e ({ frames := 1, cells := 0, slots := 0, locals := 20 } : Room) s m args below meth c H locs 0 0 Q (F0 m 0 ls [])) e1 ?_ _ _ he1 H locs ls hP hD hS hl
  intro s1 r1 hf ih1 hq1 H locs ls hP hD hS hl
  unfold sX4_readNumber_0 at hf
  refine lv_aload_n hx hb dX4_readNumber_0 rfl (lv_at hl 0 rfl) ?_
  refine k_get X hP 0 rfl rfl inX4 2 (by decide) fl_RX4_19 rfl rfl dX4_readNumber_1 ?_
  refine lv_aload_n hx hb dX4_readNumber_4 rfl (lv_at hl 0 rfl) ?_
  refine k_get X hP 0 rfl rfl inX4 1 (by decide) fl_RX4_15 rfl rfl dX4_readNumber_5 ?_
  refine lv_icmp_ge (tgt := 72) hx hb dX4_readNumber_8 (by decide) (fun c11 => ?_) (fun c11 => ?_)
  · replace hf := ite_t c11 hf
    exact hx1_0 _ (hq1 _ (Option.some.inj hf).symm) H locs ls hP hD hS hl
  · replace hf := ite_f c11 hf
    refine lv_aload_n hx hb dX4_readNumber_11 rfl (lv_at hl 0 rfl) ?_
    refine k_get X hP 0 rfl rfl inX4 0 (by decide) fl_RX4_9 rfl rfl dX4_readNumber_12 ?_
    refine lv_aload_n hx hb dX4_readNumber_15 rfl (lv_at hl 0 rfl) ?_
    refine k_get X hP 0 rfl rfl inX4 2 (by decide) fl_RX4_19 rfl rfl dX4_readNumber_16 ?_
    obtain ⟨h12, hf⟩ := ck_t hf
    refine k_iald X hP 2 0 rfl rfl h12 dX4_readNumber_19 ?_
    obtain ⟨r13, hr13, hf⟩ := bnd hf
    refine k_callS X hP hD hS [(qr, .inr (4, [.ref qb, .int r_length, .int s1.1, .int r_token, .int r_tokenPlace, .int s1.2, .int r_yearsTold, .int r_beginTold, .int r_quorumTold, .ref qr_numbers])), rI cI qr_numbers 5 r_numbers, rI cI qb 200 b] (ctX4_isDigit l D cI cZ cD cH (b s1.1.toNatClampNeg) r13 hr13) ml_RX4_141 sm_yX4_isDigit in_RX4 cd_yX4_isDigit rfl rfl hd_yX4_isDigit ⟨by decide, by decide⟩ ⟨Nat.zero_le _, Nat.zero_le _⟩ [] [none, none, none] rfl (by decide +kernel) rfl (by decide +kernel) rfl rfl hl.1 rfl rfl (Nat.le_of_ble_eq_true rfl) rfl dX4_readNumber_20 (fun H locs hP hD hS => ?_)
    refine lv_if_eq (tgt := 72) hx hb dX4_readNumber_23 (by decide) (fun c14 => ?_) (fun c14 => ?_)
    · replace hf := ite_t c14 hf
      exact hx1_0 _ (hq1 _ (Option.some.inj hf).symm) H locs ls hP hD hS hl
    · replace hf := ite_f c14 hf
      refine lv_aload_n hx hb dX4_readNumber_26 rfl (lv_at hl 0 rfl) ?_
      refine k_get X hP 0 rfl rfl inX4 5 (by decide) fl_RX4_28 rfl rfl dX4_readNumber_27 ?_
      refine lv_bipush (v := 99) hx hb dX4_readNumber_30 (by decide) ?_
      refine jn_e hf (fun K15 hf hk15 => ?_)
      have hj15 : ∀ (x15 : Int32) (H : Heap) (locs : List Loc) (ls : Array Slot), K15 x15 = some r1 → va_P D vwCl [(qr, .inr (4, [.ref qb, .int r_length, .int s1.1, .int r_token, .int r_tokenPlace, .int x15, .int r_yearsTold, .int r_beginTold, .int r_quorumTold, .ref qr_numbers])), rI cI qr_numbers 5 r_numbers, rI cI qb 200 b] H → va_D A [(qr, .inr (4, [.ref qb, .int r_length, .int s1.1, .int r_token, .int r_tokenPlace, .int x15, .int r_yearsTold, .int r_beginTold, .int r_quorumTold, .ref qr_numbers])), rI cI qr_numbers 5 r_numbers, rI cI qb 200 b] → va_S A s.heap H locs → lv_has ls 2 [(0, .ref qr)] → W p l e ({ frames := 1, cells := 0, slots := 0, locals := 20 } : Room) s m args below meth c H locs 0 0 Q (F0 m 59 ls []) := by
        intro x15 H locs ls hf hP hD hS hl
        replace hf := hk15 x15 hf
        refine lv_aload_n hx hb dX4_readNumber_59 rfl (lv_at hl 0 rfl) ?_
        refine lv_dup hx hb dX4_readNumber_60 rfl ?_
        refine k_get X hP 0 rfl rfl inX4 2 (by decide) fl_RX4_19 rfl rfl dX4_readNumber_61 ?_
        refine lv_iconst (v := 1) hx hb dX4_readNumber_64 (by decide) ?_
        refine lv_iadd hx hb dX4_readNumber_65 ?_
        refine k_put X hP hD hS [(qr, .inr (4, [.ref qb, .int r_length, .int (s1.1 + 1), .int r_token, .int r_tokenPlace, .int x15, .int r_yearsTold, .int r_beginTold, .int r_quorumTold, .ref qr_numbers])), rI cI qr_numbers 5 r_numbers, rI cI qb 200 b] 0 rfl rfl inX4 tyX4_ok nmX4 2 (by decide) fl_RX4_19 rfl rfl rfl rfl (Nat.le_of_ble_eq_true rfl) rfl dX4_readNumber_66 (fun H locs hP hD hS => ?_)
        refine lv_goto (tgt := 0) hx hb dX4_readNumber_69 (by decide) ?_
        exact ih1 _ (Option.some.inj hf).symm H locs ls hP hD hS hl
      refine lv_icmp_gt (tgt := 59) hx hb dX4_readNumber_32 (by decide) (fun c16 => ?_) (fun c16 => ?_)
      · replace hf := ite_t c16 hf
        exact hj15 _ H locs ls hf hP hD hS hl
      · replace hf := ite_f c16 hf
        refine lv_aload_n hx hb dX4_readNumber_35 rfl (lv_at hl 0 rfl) ?_
        refine lv_aload_n hx hb dX4_readNumber_36 rfl (lv_at hl 0 rfl) ?_
        refine k_get X hP 0 rfl rfl inX4 5 (by decide) fl_RX4_28 rfl rfl dX4_readNumber_37 ?_
        refine lv_bipush (v := 10) hx hb dX4_readNumber_40 (by decide) ?_
        refine lv_imul hx hb dX4_readNumber_42 ?_
        refine lv_aload_n hx hb dX4_readNumber_43 rfl (lv_at hl 0 rfl) ?_
        refine k_get X hP 0 rfl rfl inX4 0 (by decide) fl_RX4_9 rfl rfl dX4_readNumber_44 ?_
        refine lv_aload_n hx hb dX4_readNumber_47 rfl (lv_at hl 0 rfl) ?_
        refine k_get X hP 0 rfl rfl inX4 2 (by decide) fl_RX4_19 rfl rfl dX4_readNumber_48 ?_
        obtain ⟨h17, hf⟩ := ck_t hf
        refine k_iald X hP 2 0 rfl rfl h17 dX4_readNumber_51 ?_
        refine lv_iadd hx hb dX4_readNumber_52 ?_
        refine lv_bipush (v := 48) hx hb dX4_readNumber_53 (by decide) ?_
        refine lv_isub hx hb dX4_readNumber_55 ?_
        refine k_put X hP hD hS [(qr, .inr (4, [.ref qb, .int r_length, .int s1.1, .int r_token, .int r_tokenPlace, .int (((s1.2 * 10) + (b s1.1.toNatClampNeg)) - 48), .int r_yearsTold, .int r_beginTold, .int r_quorumTold, .ref qr_numbers])), rI cI qr_numbers 5 r_numbers, rI cI qb 200 b] 0 rfl rfl inX4 tyX4_ok nmX4 5 (by decide) fl_RX4_28 rfl rfl rfl rfl (Nat.le_of_ble_eq_true rfl) rfl dX4_readNumber_56 (fun H locs hP hD hS => ?_)
        exact hj15 _ H locs ls hf hP hD hS hl

def sX4_nextToken_0 (r_length : Int32) (b : Nat → Int32) (r_place : Int32) : Option ((Int32) ⊕ ((Int32))) :=
  if r_length ≤ r_place then some (.inr r_place) else if inb r_place 200 = true then if (b r_place.toNatClampNeg) = 32 then some (.inl (r_place + 1)) else some (.inr r_place) else none
def fX4_nextToken (r_length : Int32) (r_place : Int32) (b : Nat → Int32) : Option (Int32 × Int32 × Int32 × Int32) :=
  (lpd (fun s1 => sX4_nextToken_0 r_length b s1) FU r_place).bind (fun (y1_0 : Int32) => if y1_0 < r_length then if inb y1_0 200 = true then (fX4_isLetter (b y1_0.toNatClampNeg)).bind (fun r4 => if (bI r4) = 0 then if inb y1_0 200 = true then (fX4_isDigit (b y1_0.toNatClampNeg)).bind (fun r7 => if (bI r7) = 0 then if inb y1_0 200 = true then jn (fun (x10 : Int32) => some (y1_0 + 1, x10, y1_0, 0)) (fun K10 => if (b y1_0.toNatClampNeg) = 59 then K10 3 else K10 4) else none else (fX4_readNumber r_length y1_0 y1_0 0 b).bind (fun r12 => some (r12.1, r12.2.1, y1_0, r12.2.2))) else none else (fX4_readLetters r_length y1_0 y1_0 0 b).bind (fun r13 => some (r13.1, r13.2.1, y1_0, r13.2.2))) else none else some (y1_0, 0, y1_0, 0))
set_option maxHeartbeats 4000000 in
set_option maxRecDepth 100000 in
theorem ctX4_nextToken (l : Launch) (D : va_G) (cI cZ cD cH : ClassId) (qr : Nat) (qr_numbers : Nat) (qb : Nat) (r_length : Int32) (r_place : Int32) (r_token : Int32) (r_tokenPlace : Int32) (r_tokenValue : Int32) (r_yearsTold : Int32) (r_beginTold : Int32) (r_quorumTold : Int32) (r_numbers : Nat → Int32) (b : Nat → Int32) (o : Int32 × Int32 × Int32 × Int32) (hf : fX4_nextToken r_length r_place b = some o) : Ct l yX4_nextToken cX4_nextToken 1 none { frames := 2, cells := 0, slots := 0, locals := 41 } D (Tys cI cZ cD cH) [.ref qr] [(qr, .inr (4, [.ref qb, .int r_length, .int r_place, .int r_token, .int r_tokenPlace, .int r_tokenValue, .int r_yearsTold, .int r_beginTold, .int r_quorumTold, .ref qr_numbers])), rI cI qr_numbers 5 r_numbers, rI cI qb 200 b] [(qr, .inr (4, [.ref qb, .int r_length, .int o.1, .int o.2.1, .int o.2.2.1, .int o.2.2.2, .int r_yearsTold, .int r_beginTold, .int r_quorumTold, .ref qr_numbers])), rI cI qr_numbers 5 r_numbers, rI cI qb 200 b] none 0 0 := by
  refine mkV (by decide) (Nat.le_of_ble_eq_true rfl) ?_
  intro p e s m args below meth c A Q X hnm hret ls hl H locs hP hD hS
  replace X : Cx p s m args c D (Tys cI cZ cD cH) A cX4_nextToken RX4 1 := X
  obtain ⟨hx, hb, hml, hown, hts, hK, hZ, hA⟩ := id X
  have hl : lv_has ls 1 [(0, .ref qr)] := hl
  unfold fX4_nextToken at hf
  obtain ⟨e1, he1, hf⟩ := bnd hf
  have hx1_0 : ∀ (y1_0 : Int32), y1_0 = e1 → ∀ (H : Heap) (locs : List Loc) (ls : Array Slot), va_P D vwCl [(qr, .inr (4, [.ref qb, .int r_length, .int y1_0, .int r_token, .int r_tokenPlace, .int r_tokenValue, .int r_yearsTold, .int r_beginTold, .int r_quorumTold, .ref qr_numbers])), rI cI qr_numbers 5 r_numbers, rI cI qb 200 b] H → va_D A [(qr, .inr (4, [.ref qb, .int r_length, .int y1_0, .int r_token, .int r_tokenPlace, .int r_tokenValue, .int r_yearsTold, .int r_beginTold, .int r_quorumTold, .ref qr_numbers])), rI cI qr_numbers 5 r_numbers, rI cI qb 200 b] → va_S A s.heap H locs → lv_has ls 1 [(0, .ref qr)] → W p l e ({ frames := 2, cells := 0, slots := 0, locals := 41 } : Room) s m args below meth c H locs 0 0 Q (F0 m 38 ls []) := by
    intro y1_0 heq H locs ls hP hD hS hl
    subst heq
    refine lv_aload_n hx hb dX4_nextToken_38 rfl (lv_at hl 0 rfl) ?_
    refine lv_aload_n hx hb dX4_nextToken_39 rfl (lv_at hl 0 rfl) ?_
    refine k_get X hP 0 rfl rfl inX4 2 (by decide) fl_RX4_19 rfl rfl dX4_nextToken_40 ?_
    refine k_put X hP hD hS [(qr, .inr (4, [.ref qb, .int r_length, .int y1_0, .int r_token, .int y1_0, .int r_tokenValue, .int r_yearsTold, .int r_beginTold, .int r_quorumTold, .ref qr_numbers])), rI cI qr_numbers 5 r_numbers, rI cI qb 200 b] 0 rfl rfl inX4 tyX4_ok nmX4 4 (by decide) fl_RX4_25 rfl rfl rfl rfl (Nat.le_of_ble_eq_true rfl) rfl dX4_nextToken_43 (fun H locs hP hD hS => ?_)
    refine lv_aload_n hx hb dX4_nextToken_46 rfl (lv_at hl 0 rfl) ?_
    refine lv_iconst (v := 0) hx hb dX4_nextToken_47 (by decide) ?_
    refine k_put X hP hD hS [(qr, .inr (4, [.ref qb, .int r_length, .int y1_0, .int r_token, .int y1_0, .int 0, .int r_yearsTold, .int r_beginTold, .int r_quorumTold, .ref qr_numbers])), rI cI qr_numbers 5 r_numbers, rI cI qb 200 b] 0 rfl rfl inX4 tyX4_ok nmX4 5 (by decide) fl_RX4_28 rfl rfl rfl rfl (Nat.le_of_ble_eq_true rfl) rfl dX4_nextToken_48 (fun H locs hP hD hS => ?_)
    refine lv_aload_n hx hb dX4_nextToken_51 rfl (lv_at hl 0 rfl) ?_
    refine k_get X hP 0 rfl rfl inX4 2 (by decide) fl_RX4_19 rfl rfl dX4_nextToken_52 ?_
    refine lv_aload_n hx hb dX4_nextToken_55 rfl (lv_at hl 0 rfl) ?_
    refine k_get X hP 0 rfl rfl inX4 1 (by decide) fl_RX4_15 rfl rfl dX4_nextToken_56 ?_
    refine lv_icmp_lt (tgt := 70) hx hb dX4_nextToken_59 (by decide) (fun c2 => ?_) (fun c2 => ?_)
    · replace hf := ite_t c2 hf
      refine lv_aload_n hx hb dX4_nextToken_70 rfl (lv_at hl 0 rfl) ?_
      refine k_get X hP 0 rfl rfl inX4 0 (by decide) fl_RX4_9 rfl rfl dX4_nextToken_71 ?_
      refine lv_aload_n hx hb dX4_nextToken_74 rfl (lv_at hl 0 rfl) ?_
      refine k_get X hP 0 rfl rfl inX4 2 (by decide) fl_RX4_19 rfl rfl dX4_nextToken_75 ?_
      obtain ⟨h3, hf⟩ := ck_t hf
      refine k_iald X hP 2 0 rfl rfl h3 dX4_nextToken_78 ?_
      obtain ⟨r4, hr4, hf⟩ := bnd hf
      refine k_callS X hP hD hS [(qr, .inr (4, [.ref qb, .int r_length, .int y1_0, .int r_token, .int y1_0, .int 0, .int r_yearsTold, .int r_beginTold, .int r_quorumTold, .ref qr_numbers])), rI cI qr_numbers 5 r_numbers, rI cI qb 200 b] (ctX4_isLetter l D cI cZ cD cH (b y1_0.toNatClampNeg) r4 hr4) ml_RX4_134 sm_yX4_isLetter in_RX4 cd_yX4_isLetter rfl rfl hd_yX4_isLetter ⟨by decide, by decide⟩ ⟨Nat.zero_le _, Nat.zero_le _⟩ [] [none, none, none] rfl (by decide +kernel) rfl (by decide +kernel) rfl rfl hl.1 rfl rfl (Nat.le_of_ble_eq_true rfl) rfl dX4_nextToken_79 (fun H locs hP hD hS => ?_)
      refine lv_if_eq (tgt := 92) hx hb dX4_nextToken_82 (by decide) (fun c5 => ?_) (fun c5 => ?_)
      · replace hf := ite_t c5 hf
        refine lv_aload_n hx hb dX4_nextToken_92 rfl (lv_at hl 0 rfl) ?_
        refine k_get X hP 0 rfl rfl inX4 0 (by decide) fl_RX4_9 rfl rfl dX4_nextToken_93 ?_
        refine lv_aload_n hx hb dX4_nextToken_96 rfl (lv_at hl 0 rfl) ?_
        refine k_get X hP 0 rfl rfl inX4 2 (by decide) fl_RX4_19 rfl rfl dX4_nextToken_97 ?_
        obtain ⟨h6, hf⟩ := ck_t hf
        refine k_iald X hP 2 0 rfl rfl h6 dX4_nextToken_100 ?_
        obtain ⟨r7, hr7, hf⟩ := bnd hf
        refine k_callS X hP hD hS [(qr, .inr (4, [.ref qb, .int r_length, .int y1_0, .int r_token, .int y1_0, .int 0, .int r_yearsTold, .int r_beginTold, .int r_quorumTold, .ref qr_numbers])), rI cI qr_numbers 5 r_numbers, rI cI qb 200 b] (ctX4_isDigit l D cI cZ cD cH (b y1_0.toNatClampNeg) r7 hr7) ml_RX4_141 sm_yX4_isDigit in_RX4 cd_yX4_isDigit rfl rfl hd_yX4_isDigit ⟨by decide, by decide⟩ ⟨Nat.zero_le _, Nat.zero_le _⟩ [] [none, none, none] rfl (by decide +kernel) rfl (by decide +kernel) rfl rfl hl.1 rfl rfl (Nat.le_of_ble_eq_true rfl) rfl dX4_nextToken_101 (fun H locs hP hD hS => ?_)
        refine lv_if_eq (tgt := 114) hx hb dX4_nextToken_104 (by decide) (fun c8 => ?_) (fun c8 => ?_)
        · replace hf := ite_t c8 hf
          refine lv_aload_n hx hb dX4_nextToken_114 rfl (lv_at hl 0 rfl) ?_
          refine lv_aload_n hx hb dX4_nextToken_115 rfl (lv_at hl 0 rfl) ?_
          refine k_get X hP 0 rfl rfl inX4 0 (by decide) fl_RX4_9 rfl rfl dX4_nextToken_116 ?_
          refine lv_aload_n hx hb dX4_nextToken_119 rfl (lv_at hl 0 rfl) ?_
          refine k_get X hP 0 rfl rfl inX4 2 (by decide) fl_RX4_19 rfl rfl dX4_nextToken_120 ?_
          obtain ⟨h9, hf⟩ := ck_t hf
          refine k_iald X hP 2 0 rfl rfl h9 dX4_nextToken_123 ?_
          refine lv_bipush (v := 59) hx hb dX4_nextToken_124 (by decide) ?_
          refine jn_e hf (fun K10 hf hk10 => ?_)
          have hj10 : ∀ (x10 : Int32) (H : Heap) (locs : List Loc) (ls : Array Slot), K10 x10 = some o → va_P D vwCl [(qr, .inr (4, [.ref qb, .int r_length, .int y1_0, .int r_token, .int y1_0, .int 0, .int r_yearsTold, .int r_beginTold, .int r_quorumTold, .ref qr_numbers])), rI cI qr_numbers 5 r_numbers, rI cI qb 200 b] H → va_D A [(qr, .inr (4, [.ref qb, .int r_length, .int y1_0, .int r_token, .int y1_0, .int 0, .int r_yearsTold, .int r_beginTold, .int r_quorumTold, .ref qr_numbers])), rI cI qr_numbers 5 r_numbers, rI cI qb 200 b] → va_S A s.heap H locs → lv_has ls 1 [(0, .ref qr)] → W p l e ({ frames := 2, cells := 0, slots := 0, locals := 41 } : Room) s m args below meth c H locs 0 0 Q (F0 m 134 ls [.int x10, .ref qr]) := by
            intro x10 H locs ls hf hP hD hS hl
            replace hf := hk10 x10 hf
            refine k_put X hP hD hS [(qr, .inr (4, [.ref qb, .int r_length, .int y1_0, .int x10, .int y1_0, .int 0, .int r_yearsTold, .int r_beginTold, .int r_quorumTold, .ref qr_numbers])), rI cI qr_numbers 5 r_numbers, rI cI qb 200 b] 0 rfl rfl inX4 tyX4_ok nmX4 3 (by decide) fl_RX4_22 rfl rfl rfl rfl (Nat.le_of_ble_eq_true rfl) rfl dX4_nextToken_134 (fun H locs hP hD hS => ?_)
            refine lv_aload_n hx hb dX4_nextToken_137 rfl (lv_at hl 0 rfl) ?_
            refine lv_dup hx hb dX4_nextToken_138 rfl ?_
            refine k_get X hP 0 rfl rfl inX4 2 (by decide) fl_RX4_19 rfl rfl dX4_nextToken_139 ?_
            refine lv_iconst (v := 1) hx hb dX4_nextToken_142 (by decide) ?_
            refine lv_iadd hx hb dX4_nextToken_143 ?_
            refine k_put X hP hD hS [(qr, .inr (4, [.ref qb, .int r_length, .int (y1_0 + 1), .int x10, .int y1_0, .int 0, .int r_yearsTold, .int r_beginTold, .int r_quorumTold, .ref qr_numbers])), rI cI qr_numbers 5 r_numbers, rI cI qb 200 b] 0 rfl rfl inX4 tyX4_ok nmX4 2 (by decide) fl_RX4_19 rfl rfl rfl rfl (Nat.le_of_ble_eq_true rfl) rfl dX4_nextToken_144 (fun H locs hP hD hS => ?_)
            replace hf := Option.some.inj hf
            subst hf
            exact hret H locs _ ls dX4_nextToken_147 hP hD hS
          refine lv_icmp_ne (tgt := 133) hx hb dX4_nextToken_126 (by decide) (fun c11 => ?_) (fun c11 => ?_)
          · replace hf := ite_f c11 hf
            refine lv_iconst (v := 4) hx hb dX4_nextToken_133 (by decide) ?_
            exact hj10 _ H locs ls hf hP hD hS hl
          · replace hf := ite_t c11 hf
            refine lv_iconst (v := 3) hx hb dX4_nextToken_129 (by decide) ?_
            refine lv_goto (tgt := 134) hx hb dX4_nextToken_130 (by decide) ?_
            exact hj10 _ H locs ls hf hP hD hS hl
        · replace hf := ite_f c8 hf
          refine lv_aload_n hx hb dX4_nextToken_107 rfl (lv_at hl 0 rfl) ?_
          obtain ⟨r12, hr12, hf⟩ := bnd hf
          refine k_callV X hP hD hS [(qr, .inr (4, [.ref qb, .int r_length, .int r12.1, .int r12.2.1, .int y1_0, .int r12.2.2, .int r_yearsTold, .int r_beginTold, .int r_quorumTold, .ref qr_numbers])), rI cI qr_numbers 5 r_numbers, rI cI qb 200 b] (ctX4_readNumber l D cI cZ cD cH qr qr_numbers qb r_length y1_0 r_token y1_0 0 r_yearsTold r_beginTold r_quorumTold r_numbers b r12 hr12) ml_RX4_144 im_yX4_readNumber se_yX4_readNumber in_RX4 cd_yX4_readNumber rfl rfl hd_yX4_readNumber ⟨by decide, by decide⟩ ⟨Nat.zero_le _, Nat.zero_le _⟩ [0, 1, 2] [some 0, some 1, some 2] rfl (by decide +kernel) rfl (by decide +kernel) rfl rfl (q0 := 0) rfl rfl rfl hl.1 rfl rfl (Nat.le_of_ble_eq_true rfl) rfl dX4_nextToken_108 (fun H locs hP hD hS => ?_)
          refine lv_goto (tgt := 147) hx hb dX4_nextToken_111 (by decide) ?_
          replace hf := Option.some.inj hf
          subst hf
          exact hret H locs _ ls dX4_nextToken_147 hP hD hS
      · replace hf := ite_f c5 hf
        refine lv_aload_n hx hb dX4_nextToken_85 rfl (lv_at hl 0 rfl) ?_
        obtain ⟨r13, hr13, hf⟩ := bnd hf
        refine k_callV X hP hD hS [(qr, .inr (4, [.ref qb, .int r_length, .int r13.1, .int r13.2.1, .int y1_0, .int r13.2.2, .int r_yearsTold, .int r_beginTold, .int r_quorumTold, .ref qr_numbers])), rI cI qr_numbers 5 r_numbers, rI cI qb 200 b] (ctX4_readLetters l D cI cZ cD cH qr qr_numbers qb r_length y1_0 r_token y1_0 0 r_yearsTold r_beginTold r_quorumTold r_numbers b r13 hr13) ml_RX4_138 im_yX4_readLetters se_yX4_readLetters in_RX4 cd_yX4_readLetters rfl rfl hd_yX4_readLetters ⟨by decide, by decide⟩ ⟨Nat.zero_le _, Nat.zero_le _⟩ [0, 1, 2] [some 0, some 1, some 2] rfl (by decide +kernel) rfl (by decide +kernel) rfl rfl (q0 := 0) rfl rfl rfl hl.1 rfl rfl (Nat.le_of_ble_eq_true rfl) rfl dX4_nextToken_86 (fun H locs hP hD hS => ?_)
        refine lv_goto (tgt := 147) hx hb dX4_nextToken_89 (by decide) ?_
        replace hf := Option.some.inj hf
        subst hf
        exact hret H locs _ ls dX4_nextToken_147 hP hD hS
    · replace hf := ite_f c2 hf
      refine lv_aload_n hx hb dX4_nextToken_62 rfl (lv_at hl 0 rfl) ?_
      refine lv_iconst (v := 0) hx hb dX4_nextToken_63 (by decide) ?_
      refine k_put X hP hD hS [(qr, .inr (4, [.ref qb, .int r_length, .int y1_0, .int 0, .int y1_0, .int 0, .int r_yearsTold, .int r_beginTold, .int r_quorumTold, .ref qr_numbers])), rI cI qr_numbers 5 r_numbers, rI cI qb 200 b] 0 rfl rfl inX4 tyX4_ok nmX4 3 (by decide) fl_RX4_22 rfl rfl rfl rfl (Nat.le_of_ble_eq_true rfl) rfl dX4_nextToken_64 (fun H locs hP hD hS => ?_)
      refine lv_goto (tgt := 147) hx hb dX4_nextToken_67 (by decide) ?_
      replace hf := Option.some.inj hf
      subst hf
      exact hret H locs _ ls dX4_nextToken_147 hP hD hS
  refine lpd_ind (P := fun s1 => ∀ (H : Heap) (locs : List Loc) (ls : Array Slot), va_P D vwCl [(qr, .inr (4, [.ref qb, .int r_length, .int s1, .int r_token, .int r_tokenPlace, .int r_tokenValue, .int r_yearsTold, .int r_beginTold, .int r_quorumTold, .ref qr_numbers])), rI cI qr_numbers 5 r_numbers, rI cI qb 200 b] H → va_D A [(qr, .inr (4, [.ref qb, .int r_length, .int s1, .int r_token, .int r_tokenPlace, .int r_tokenValue, .int r_yearsTold, .int r_beginTold, .int r_quorumTold, .ref qr_numbers])), rI cI qr_numbers 5 r_numbers, rI cI qb 200 b] → va_S A s.heap H locs → lv_has ls 1 [(0, .ref qr)] → W p l e ({ frames := 2, cells := 0, slots := 0, locals := 41 } : Room) s m args below meth c H locs 0 0 Q (F0 m 0 ls [])) e1 ?_ _ _ he1 H locs ls hP hD hS hl
  intro s1 r1 hf ih1 hq1 H locs ls hP hD hS hl
  unfold sX4_nextToken_0 at hf
  refine lv_aload_n hx hb dX4_nextToken_0 rfl (lv_at hl 0 rfl) ?_
  refine k_get X hP 0 rfl rfl inX4 2 (by decide) fl_RX4_19 rfl rfl dX4_nextToken_1 ?_
  refine lv_aload_n hx hb dX4_nextToken_4 rfl (lv_at hl 0 rfl) ?_
  refine k_get X hP 0 rfl rfl inX4 1 (by decide) fl_RX4_15 rfl rfl dX4_nextToken_5 ?_
  refine lv_icmp_ge (tgt := 38) hx hb dX4_nextToken_8 (by decide) (fun c14 => ?_) (fun c14 => ?_)
  · replace hf := ite_t c14 hf
    exact hx1_0 _ (hq1 _ (Option.some.inj hf).symm) H locs ls hP hD hS hl
  · replace hf := ite_f c14 hf
    refine lv_aload_n hx hb dX4_nextToken_11 rfl (lv_at hl 0 rfl) ?_
    refine k_get X hP 0 rfl rfl inX4 0 (by decide) fl_RX4_9 rfl rfl dX4_nextToken_12 ?_
    refine lv_aload_n hx hb dX4_nextToken_15 rfl (lv_at hl 0 rfl) ?_
    refine k_get X hP 0 rfl rfl inX4 2 (by decide) fl_RX4_19 rfl rfl dX4_nextToken_16 ?_
    obtain ⟨h15, hf⟩ := ck_t hf
    refine k_iald X hP 2 0 rfl rfl h15 dX4_nextToken_19 ?_
    refine lv_bipush (v := 32) hx hb dX4_nextToken_20 (by decide) ?_
    refine lv_icmp_ne (tgt := 38) hx hb dX4_nextToken_22 (by decide) (fun c16 => ?_) (fun c16 => ?_)
    · replace hf := ite_f c16 hf
      exact hx1_0 _ (hq1 _ (Option.some.inj hf).symm) H locs ls hP hD hS hl
    · replace hf := ite_t c16 hf
      refine lv_aload_n hx hb dX4_nextToken_25 rfl (lv_at hl 0 rfl) ?_
      refine lv_dup hx hb dX4_nextToken_26 rfl ?_
      refine k_get X hP 0 rfl rfl inX4 2 (by decide) fl_RX4_19 rfl rfl dX4_nextToken_27 ?_
      refine lv_iconst (v := 1) hx hb dX4_nextToken_30 (by decide) ?_
      refine lv_iadd hx hb dX4_nextToken_31 ?_
      refine k_put X hP hD hS [(qr, .inr (4, [.ref qb, .int r_length, .int (s1 + 1), .int r_token, .int r_tokenPlace, .int r_tokenValue, .int r_yearsTold, .int r_beginTold, .int r_quorumTold, .ref qr_numbers])), rI cI qr_numbers 5 r_numbers, rI cI qb 200 b] 0 rfl rfl inX4 tyX4_ok nmX4 2 (by decide) fl_RX4_19 rfl rfl rfl rfl (Nat.le_of_ble_eq_true rfl) rfl dX4_nextToken_32 (fun H locs hP hD hS => ?_)
      refine lv_goto (tgt := 0) hx hb dX4_nextToken_35 (by decide) ?_
      exact ih1 _ (Option.some.inj hf).symm H locs ls hP hD hS hl

def fX4_mayBegin (a1 : Int32) (r_yearsTold : Int32) (r_beginTold : Int32) (r_quorumTold : Int32) (t_states : Int32) (t_trials : Int32) (t_deeds : Int32) : Option (Bool) :=
  if a1 = 98 then if r_beginTold = 0 then some true else some false else (if a1 = 100 then if 4 ≤ t_deeds then some false else some true else (if a1 = 113 then if r_quorumTold = 0 then some true else some false else (if a1 = 115 then if 6 ≤ t_states then some false else some true else (if a1 = 116 then if 3 ≤ t_trials then some false else some true else (if a1 = 121 then if r_yearsTold = 0 then if t_trials = 0 then some true else some false else some false else (some false))))))
set_option maxHeartbeats 4000000 in
set_option maxRecDepth 100000 in
theorem ctX4_mayBegin (l : Launch) (D : va_G) (cI cZ cD cH : ClassId) (qr : Nat) (qr_numbers : Nat) (qt : Nat) (qt_lean : Nat) (qt_dead : Nat) (qt_becomes : Nat) (qt_trialYear : Nat) (qt_juryFrom : Nat) (qt_juryTo : Nat) (qt_deedFrom : Nat) (qt_deedTo : Nat) (a1 : Int32) (r_bytes : Nat) (r_length : Int32) (r_place : Int32) (r_token : Int32) (r_tokenPlace : Int32) (r_tokenValue : Int32) (r_yearsTold : Int32) (r_beginTold : Int32) (r_quorumTold : Int32) (r_numbers : Nat → Int32) (t_years : Int32) (t_states : Int32) (t_begin : Int32) (t_trials : Int32) (t_deeds : Int32) (t_quorum : Int32) (t_lean : Nat → Int32) (t_dead : Nat → Int32) (t_becomes : Nat → Int32) (t_trialYear : Nat → Int32) (t_juryFrom : Nat → Int32) (t_juryTo : Nat → Int32) (t_deedFrom : Nat → Int32) (t_deedTo : Nat → Int32) (o : Bool) (hf : fX4_mayBegin a1 r_yearsTold r_beginTold r_quorumTold t_states t_trials t_deeds = some o) : Ct l yX4_mayBegin cX4_mayBegin 3 (some .boolean) { frames := 0, cells := 0, slots := 0, locals := 0 } D (Tys cI cZ cD cH) [.ref qr, .int a1, .ref qt] [(qr, .inr (4, [.ref r_bytes, .int r_length, .int r_place, .int r_token, .int r_tokenPlace, .int r_tokenValue, .int r_yearsTold, .int r_beginTold, .int r_quorumTold, .ref qr_numbers])), rI cI qr_numbers 5 r_numbers, (qt, .inr (5, [.int t_years, .int t_states, .int t_begin, .int t_trials, .int t_deeds, .int t_quorum, .ref qt_lean, .ref qt_dead, .ref qt_becomes, .ref qt_trialYear, .ref qt_juryFrom, .ref qt_juryTo, .ref qt_deedFrom, .ref qt_deedTo])), rI cI qt_lean 6 t_lean, rI cI qt_dead 6 t_dead, rI cI qt_becomes 18 t_becomes, rI cI qt_trialYear 3 t_trialYear, rI cI qt_juryFrom 3 t_juryFrom, rI cI qt_juryTo 3 t_juryTo, rI cI qt_deedFrom 4 t_deedFrom, rI cI qt_deedTo 4 t_deedTo] [(qr, .inr (4, [.ref r_bytes, .int r_length, .int r_place, .int r_token, .int r_tokenPlace, .int r_tokenValue, .int r_yearsTold, .int r_beginTold, .int r_quorumTold, .ref qr_numbers])), rI cI qr_numbers 5 r_numbers, (qt, .inr (5, [.int t_years, .int t_states, .int t_begin, .int t_trials, .int t_deeds, .int t_quorum, .ref qt_lean, .ref qt_dead, .ref qt_becomes, .ref qt_trialYear, .ref qt_juryFrom, .ref qt_juryTo, .ref qt_deedFrom, .ref qt_deedTo])), rI cI qt_lean 6 t_lean, rI cI qt_dead 6 t_dead, rI cI qt_becomes 18 t_becomes, rI cI qt_trialYear 3 t_trialYear, rI cI qt_juryFrom 3 t_juryFrom, rI cI qt_juryTo 3 t_juryTo, rI cI qt_deedFrom 4 t_deedFrom, rI cI qt_deedTo 4 t_deedTo] (some (.int (bI o))) 0 0 := by
  refine mkZ (by decide) (Nat.le_of_ble_eq_true rfl) ?_
  intro p e s m args below meth c A Q X hret ls hl H locs hP hD hS
  replace X : Cx p s m args c D (Tys cI cZ cD cH) A cX4_mayBegin RX4 3 := X
  obtain ⟨hx, hb, hml, hown, hts, hK, hZ, hA⟩ := id X
  have hl : lv_has ls 3 [(0, .ref qr), (1, .int a1), (2, .ref qt)] := hl
  unfold fX4_mayBegin at hf
  refine lv_iload_n hx hb dX4_mayBegin_0 rfl (lv_at hl 1 rfl) ?_
  by_cases c1 : a1 = 98
  · replace hf := ite_t c1 hf
    refine top_eq c1 ?_
    refine lv_lookup (tgt := 95) hx hb dX4_mayBegin_1 (by decide) rfl (by decide) ?_
    refine lv_aload_n hx hb dX4_mayBegin_95 rfl (lv_at hl 0 rfl) ?_
    refine k_get X hP 0 rfl rfl inX4 7 (by decide) fl_RX4_35 rfl rfl dX4_mayBegin_96 ?_
    refine lv_if_ne (tgt := 106) hx hb dX4_mayBegin_99 (by decide) (fun c2 => ?_) (fun c2 => ?_)
    · replace hf := ite_f c2 hf
      refine lv_iconst (v := 0) hx hb dX4_mayBegin_106 (by decide) ?_
      replace hf := Option.some.inj hf
      subst hf
      exact hret H locs _ ls dX4_mayBegin_107 hP hD hS
    · replace hf := ite_t c2 hf
      refine lv_iconst (v := 1) hx hb dX4_mayBegin_102 (by decide) ?_
      refine lv_goto (tgt := 107) hx hb dX4_mayBegin_103 (by decide) ?_
      replace hf := Option.some.inj hf
      subst hf
      exact hret H locs _ ls dX4_mayBegin_107 hP hD hS
  · replace hf := ite_f c1 hf
    by_cases c3 : a1 = 100
    · replace hf := ite_t c3 hf
      refine top_eq c3 ?_
      refine lv_lookup (tgt := 135) hx hb dX4_mayBegin_1 (by decide) rfl (by decide) ?_
      refine lv_aload_n hx hb dX4_mayBegin_135 rfl (lv_at hl 2 rfl) ?_
      refine k_get X hP 2 rfl rfl inX5 4 (by decide) fl_RX4_84 rfl rfl dX4_mayBegin_136 ?_
      refine lv_iconst (v := 4) hx hb dX4_mayBegin_139 (by decide) ?_
      refine lv_icmp_ge (tgt := 147) hx hb dX4_mayBegin_140 (by decide) (fun c4 => ?_) (fun c4 => ?_)
      · replace hf := ite_t c4 hf
        refine lv_iconst (v := 0) hx hb dX4_mayBegin_147 (by decide) ?_
        replace hf := Option.some.inj hf
        subst hf
        exact hret H locs _ ls dX4_mayBegin_148 hP hD hS
      · replace hf := ite_f c4 hf
        refine lv_iconst (v := 1) hx hb dX4_mayBegin_143 (by decide) ?_
        refine lv_goto (tgt := 148) hx hb dX4_mayBegin_144 (by decide) ?_
        replace hf := Option.some.inj hf
        subst hf
        exact hret H locs _ ls dX4_mayBegin_148 hP hD hS
    · replace hf := ite_f c3 hf
      by_cases c5 : a1 = 113
      · replace hf := ite_t c5 hf
        refine top_eq c5 ?_
        refine lv_lookup (tgt := 122) hx hb dX4_mayBegin_1 (by decide) rfl (by decide) ?_
        refine lv_aload_n hx hb dX4_mayBegin_122 rfl (lv_at hl 0 rfl) ?_
        refine k_get X hP 0 rfl rfl inX4 8 (by decide) fl_RX4_38 rfl rfl dX4_mayBegin_123 ?_
        refine lv_if_ne (tgt := 133) hx hb dX4_mayBegin_126 (by decide) (fun c6 => ?_) (fun c6 => ?_)
        · replace hf := ite_f c6 hf
          refine lv_iconst (v := 0) hx hb dX4_mayBegin_133 (by decide) ?_
          replace hf := Option.some.inj hf
          subst hf
          exact hret H locs _ ls dX4_mayBegin_134 hP hD hS
        · replace hf := ite_t c6 hf
          refine lv_iconst (v := 1) hx hb dX4_mayBegin_129 (by decide) ?_
          refine lv_goto (tgt := 134) hx hb dX4_mayBegin_130 (by decide) ?_
          replace hf := Option.some.inj hf
          subst hf
          exact hret H locs _ ls dX4_mayBegin_134 hP hD hS
      · replace hf := ite_f c5 hf
        by_cases c7 : a1 = 115
        · replace hf := ite_t c7 hf
          refine top_eq c7 ?_
          refine lv_lookup (tgt := 80) hx hb dX4_mayBegin_1 (by decide) rfl (by decide) ?_
          refine lv_aload_n hx hb dX4_mayBegin_80 rfl (lv_at hl 2 rfl) ?_
          refine k_get X hP 2 rfl rfl inX5 1 (by decide) fl_RX4_81 rfl rfl dX4_mayBegin_81 ?_
          refine lv_bipush (v := 6) hx hb dX4_mayBegin_84 (by decide) ?_
          refine lv_icmp_ge (tgt := 93) hx hb dX4_mayBegin_86 (by decide) (fun c8 => ?_) (fun c8 => ?_)
          · replace hf := ite_t c8 hf
            refine lv_iconst (v := 0) hx hb dX4_mayBegin_93 (by decide) ?_
            replace hf := Option.some.inj hf
            subst hf
            exact hret H locs _ ls dX4_mayBegin_94 hP hD hS
          · replace hf := ite_f c8 hf
            refine lv_iconst (v := 1) hx hb dX4_mayBegin_89 (by decide) ?_
            refine lv_goto (tgt := 94) hx hb dX4_mayBegin_90 (by decide) ?_
            replace hf := Option.some.inj hf
            subst hf
            exact hret H locs _ ls dX4_mayBegin_94 hP hD hS
        · replace hf := ite_f c7 hf
          by_cases c9 : a1 = 116
          · replace hf := ite_t c9 hf
            refine top_eq c9 ?_
            refine lv_lookup (tgt := 108) hx hb dX4_mayBegin_1 (by decide) rfl (by decide) ?_
            refine lv_aload_n hx hb dX4_mayBegin_108 rfl (lv_at hl 2 rfl) ?_
            refine k_get X hP 2 rfl rfl inX5 3 (by decide) fl_RX4_76 rfl rfl dX4_mayBegin_109 ?_
            refine lv_iconst (v := 3) hx hb dX4_mayBegin_112 (by decide) ?_
            refine lv_icmp_ge (tgt := 120) hx hb dX4_mayBegin_113 (by decide) (fun c10 => ?_) (fun c10 => ?_)
            · replace hf := ite_t c10 hf
              refine lv_iconst (v := 0) hx hb dX4_mayBegin_120 (by decide) ?_
              replace hf := Option.some.inj hf
              subst hf
              exact hret H locs _ ls dX4_mayBegin_121 hP hD hS
            · replace hf := ite_f c10 hf
              refine lv_iconst (v := 1) hx hb dX4_mayBegin_116 (by decide) ?_
              refine lv_goto (tgt := 121) hx hb dX4_mayBegin_117 (by decide) ?_
              replace hf := Option.some.inj hf
              subst hf
              exact hret H locs _ ls dX4_mayBegin_121 hP hD hS
          · replace hf := ite_f c9 hf
            by_cases c11 : a1 = 121
            · replace hf := ite_t c11 hf
              refine top_eq c11 ?_
              refine lv_lookup (tgt := 60) hx hb dX4_mayBegin_1 (by decide) rfl (by decide) ?_
              refine lv_aload_n hx hb dX4_mayBegin_60 rfl (lv_at hl 0 rfl) ?_
              refine k_get X hP 0 rfl rfl inX4 6 (by decide) fl_RX4_31 rfl rfl dX4_mayBegin_61 ?_
              refine lv_if_ne (tgt := 78) hx hb dX4_mayBegin_64 (by decide) (fun c12 => ?_) (fun c12 => ?_)
              · replace hf := ite_f c12 hf
                refine lv_iconst (v := 0) hx hb dX4_mayBegin_78 (by decide) ?_
                replace hf := Option.some.inj hf
                subst hf
                exact hret H locs _ ls dX4_mayBegin_79 hP hD hS
              · replace hf := ite_t c12 hf
                refine lv_aload_n hx hb dX4_mayBegin_67 rfl (lv_at hl 2 rfl) ?_
                refine k_get X hP 2 rfl rfl inX5 3 (by decide) fl_RX4_76 rfl rfl dX4_mayBegin_68 ?_
                refine lv_if_ne (tgt := 78) hx hb dX4_mayBegin_71 (by decide) (fun c13 => ?_) (fun c13 => ?_)
                · replace hf := ite_f c13 hf
                  refine lv_iconst (v := 0) hx hb dX4_mayBegin_78 (by decide) ?_
                  replace hf := Option.some.inj hf
                  subst hf
                  exact hret H locs _ ls dX4_mayBegin_79 hP hD hS
                · replace hf := ite_t c13 hf
                  refine lv_iconst (v := 1) hx hb dX4_mayBegin_74 (by decide) ?_
                  refine lv_goto (tgt := 79) hx hb dX4_mayBegin_75 (by decide) ?_
                  replace hf := Option.some.inj hf
                  subst hf
                  exact hret H locs _ ls dX4_mayBegin_79 hP hD hS
            · replace hf := ite_f c11 hf
              have zc1 := i32_ne (k := 98) rfl c1
              have zc3 := i32_ne (k := 100) rfl c3
              have zc5 := i32_ne (k := 113) rfl c5
              have zc7 := i32_ne (k := 115) rfl c7
              have zc9 := i32_ne (k := 116) rfl c9
              have zc11 := i32_ne (k := 121) rfl c11
              refine lv_lookup (tgt := 149) (off := 148) hx hb dX4_mayBegin_1 (by decide) (by simp [Op.lookupswitch.offset, List.find?, zc1, (Ne.symm zc1), zc3, (Ne.symm zc3), zc5, (Ne.symm zc5), zc7, (Ne.symm zc7), zc9, (Ne.symm zc9), zc11, (Ne.symm zc11)]) (by decide) ?_
              refine lv_iconst (v := 0) hx hb dX4_mayBegin_149 (by decide) ?_
              replace hf := Option.some.inj hf
              subst hf
              exact hret H locs _ ls dX4_mayBegin_150 hP hD hS

def fX4_leastOfTrial (a1 : Int32) (r_numbers : Nat → Int32) (t_trials : Int32) (t_trialYear : Nat → Int32) : Option (Int32) :=
  if a1 = 0 then if t_trials = 0 then some 0 else if inb (t_trials - 1) 3 = true then some ((t_trialYear (t_trials - 1).toNatClampNeg) + 1) else none else if a1 = 1 then if inb 0 5 = true then some ((r_numbers (0 : Int32).toNatClampNeg) + 1) else none else if inb 1 5 = true then some (r_numbers (1 : Int32).toNatClampNeg) else none
set_option maxHeartbeats 4000000 in
set_option maxRecDepth 100000 in
theorem ctX4_leastOfTrial (l : Launch) (D : va_G) (cI cZ cD cH : ClassId) (qr : Nat) (qr_numbers : Nat) (qt : Nat) (qt_lean : Nat) (qt_dead : Nat) (qt_becomes : Nat) (qt_trialYear : Nat) (qt_juryFrom : Nat) (qt_juryTo : Nat) (qt_deedFrom : Nat) (qt_deedTo : Nat) (a1 : Int32) (r_bytes : Nat) (r_length : Int32) (r_place : Int32) (r_token : Int32) (r_tokenPlace : Int32) (r_tokenValue : Int32) (r_yearsTold : Int32) (r_beginTold : Int32) (r_quorumTold : Int32) (r_numbers : Nat → Int32) (t_years : Int32) (t_states : Int32) (t_begin : Int32) (t_trials : Int32) (t_deeds : Int32) (t_quorum : Int32) (t_lean : Nat → Int32) (t_dead : Nat → Int32) (t_becomes : Nat → Int32) (t_trialYear : Nat → Int32) (t_juryFrom : Nat → Int32) (t_juryTo : Nat → Int32) (t_deedFrom : Nat → Int32) (t_deedTo : Nat → Int32) (o : Int32) (hf : fX4_leastOfTrial a1 r_numbers t_trials t_trialYear = some o) : Ct l yX4_leastOfTrial cX4_leastOfTrial 3 (some .int) { frames := 0, cells := 0, slots := 0, locals := 0 } D (Tys cI cZ cD cH) [.ref qr, .int a1, .ref qt] [(qr, .inr (4, [.ref r_bytes, .int r_length, .int r_place, .int r_token, .int r_tokenPlace, .int r_tokenValue, .int r_yearsTold, .int r_beginTold, .int r_quorumTold, .ref qr_numbers])), rI cI qr_numbers 5 r_numbers, (qt, .inr (5, [.int t_years, .int t_states, .int t_begin, .int t_trials, .int t_deeds, .int t_quorum, .ref qt_lean, .ref qt_dead, .ref qt_becomes, .ref qt_trialYear, .ref qt_juryFrom, .ref qt_juryTo, .ref qt_deedFrom, .ref qt_deedTo])), rI cI qt_lean 6 t_lean, rI cI qt_dead 6 t_dead, rI cI qt_becomes 18 t_becomes, rI cI qt_trialYear 3 t_trialYear, rI cI qt_juryFrom 3 t_juryFrom, rI cI qt_juryTo 3 t_juryTo, rI cI qt_deedFrom 4 t_deedFrom, rI cI qt_deedTo 4 t_deedTo] [(qr, .inr (4, [.ref r_bytes, .int r_length, .int r_place, .int r_token, .int r_tokenPlace, .int r_tokenValue, .int r_yearsTold, .int r_beginTold, .int r_quorumTold, .ref qr_numbers])), rI cI qr_numbers 5 r_numbers, (qt, .inr (5, [.int t_years, .int t_states, .int t_begin, .int t_trials, .int t_deeds, .int t_quorum, .ref qt_lean, .ref qt_dead, .ref qt_becomes, .ref qt_trialYear, .ref qt_juryFrom, .ref qt_juryTo, .ref qt_deedFrom, .ref qt_deedTo])), rI cI qt_lean 6 t_lean, rI cI qt_dead 6 t_dead, rI cI qt_becomes 18 t_becomes, rI cI qt_trialYear 3 t_trialYear, rI cI qt_juryFrom 3 t_juryFrom, rI cI qt_juryTo 3 t_juryTo, rI cI qt_deedFrom 4 t_deedFrom, rI cI qt_deedTo 4 t_deedTo] (some (.int o)) 0 0 := by
  refine mkI (by decide) (Nat.le_of_ble_eq_true rfl) ?_
  intro p e s m args below meth c A Q X hret ls hl H locs hP hD hS
  replace X : Cx p s m args c D (Tys cI cZ cD cH) A cX4_leastOfTrial RX4 3 := X
  obtain ⟨hx, hb, hml, hown, hts, hK, hZ, hA⟩ := id X
  have hl : lv_has ls 3 [(0, .ref qr), (1, .int a1), (2, .ref qt)] := hl
  unfold fX4_leastOfTrial at hf
  refine lv_iload_n hx hb dX4_leastOfTrial_0 rfl (lv_at hl 1 rfl) ?_
  refine lv_if_ne (tgt := 29) hx hb dX4_leastOfTrial_1 (by decide) (fun c1 => ?_) (fun c1 => ?_)
  · replace hf := ite_f c1 hf
    refine lv_iload_n hx hb dX4_leastOfTrial_29 rfl (lv_at hl 1 rfl) ?_
    refine lv_iconst (v := 1) hx hb dX4_leastOfTrial_30 (by decide) ?_
    refine lv_icmp_ne (tgt := 45) hx hb dX4_leastOfTrial_31 (by decide) (fun c2 => ?_) (fun c2 => ?_)
    · replace hf := ite_f c2 hf
      refine lv_aload_n hx hb dX4_leastOfTrial_45 rfl (lv_at hl 0 rfl) ?_
      refine k_get X hP 0 rfl rfl inX4 9 (by decide) fl_RX4_41 rfl rfl dX4_leastOfTrial_46 ?_
      refine lv_iconst (v := 1) hx hb dX4_leastOfTrial_49 (by decide) ?_
      obtain ⟨h3, hf⟩ := ck_t hf
      refine k_iald X hP 1 0 rfl rfl h3 dX4_leastOfTrial_50 ?_
      replace hf := Option.some.inj hf
      subst hf
      exact hret H locs _ ls dX4_leastOfTrial_51 hP hD hS
    · replace hf := ite_t c2 hf
      refine lv_aload_n hx hb dX4_leastOfTrial_34 rfl (lv_at hl 0 rfl) ?_
      refine k_get X hP 0 rfl rfl inX4 9 (by decide) fl_RX4_41 rfl rfl dX4_leastOfTrial_35 ?_
      refine lv_iconst (v := 0) hx hb dX4_leastOfTrial_38 (by decide) ?_
      obtain ⟨h4, hf⟩ := ck_t hf
      refine k_iald X hP 1 0 rfl rfl h4 dX4_leastOfTrial_39 ?_
      refine lv_iconst (v := 1) hx hb dX4_leastOfTrial_40 (by decide) ?_
      refine lv_iadd hx hb dX4_leastOfTrial_41 ?_
      refine lv_goto (tgt := 51) hx hb dX4_leastOfTrial_42 (by decide) ?_
      replace hf := Option.some.inj hf
      subst hf
      exact hret H locs _ ls dX4_leastOfTrial_51 hP hD hS
  · replace hf := ite_t c1 hf
    refine lv_aload_n hx hb dX4_leastOfTrial_4 rfl (lv_at hl 2 rfl) ?_
    refine k_get X hP 2 rfl rfl inX5 3 (by decide) fl_RX4_76 rfl rfl dX4_leastOfTrial_5 ?_
    refine lv_if_ne (tgt := 15) hx hb dX4_leastOfTrial_8 (by decide) (fun c5 => ?_) (fun c5 => ?_)
    · replace hf := ite_f c5 hf
      refine lv_aload_n hx hb dX4_leastOfTrial_15 rfl (lv_at hl 2 rfl) ?_
      refine k_get X hP 2 rfl rfl inX5 9 (by decide) fl_RX4_91 rfl rfl dX4_leastOfTrial_16 ?_
      refine lv_aload_n hx hb dX4_leastOfTrial_19 rfl (lv_at hl 2 rfl) ?_
      refine k_get X hP 2 rfl rfl inX5 3 (by decide) fl_RX4_76 rfl rfl dX4_leastOfTrial_20 ?_
      refine lv_iconst (v := 1) hx hb dX4_leastOfTrial_23 (by decide) ?_
      refine lv_isub hx hb dX4_leastOfTrial_24 ?_
      obtain ⟨h6, hf⟩ := ck_t hf
      refine k_iald X hP 6 0 rfl rfl h6 dX4_leastOfTrial_25 ?_
      refine lv_iconst (v := 1) hx hb dX4_leastOfTrial_26 (by decide) ?_
      refine lv_iadd hx hb dX4_leastOfTrial_27 ?_
      replace hf := Option.some.inj hf
      subst hf
      exact hret H locs _ ls dX4_leastOfTrial_28 hP hD hS
    · replace hf := ite_t c5 hf
      refine lv_iconst (v := 0) hx hb dX4_leastOfTrial_11 (by decide) ?_
      refine lv_goto (tgt := 28) hx hb dX4_leastOfTrial_12 (by decide) ?_
      replace hf := Option.some.inj hf
      subst hf
      exact hret H locs _ ls dX4_leastOfTrial_28 hP hD hS

def fX4_least (a1 : Int32) (a2 : Int32) (r_numbers : Nat → Int32) (t_trials : Int32) (t_trialYear : Nat → Int32) : Option (Int32) :=
  if a1 = 113 then some 1 else (if a1 = 116 then (fX4_leastOfTrial a2 r_numbers t_trials t_trialYear).bind (fun r3 => some r3) else (if a1 = 121 then some 2 else (some 0)))
set_option maxHeartbeats 4000000 in
set_option maxRecDepth 100000 in
theorem ctX4_least (l : Launch) (D : va_G) (cI cZ cD cH : ClassId) (qr : Nat) (qr_numbers : Nat) (qt : Nat) (qt_lean : Nat) (qt_dead : Nat) (qt_becomes : Nat) (qt_trialYear : Nat) (qt_juryFrom : Nat) (qt_juryTo : Nat) (qt_deedFrom : Nat) (qt_deedTo : Nat) (a1 : Int32) (a2 : Int32) (r_bytes : Nat) (r_length : Int32) (r_place : Int32) (r_token : Int32) (r_tokenPlace : Int32) (r_tokenValue : Int32) (r_yearsTold : Int32) (r_beginTold : Int32) (r_quorumTold : Int32) (r_numbers : Nat → Int32) (t_years : Int32) (t_states : Int32) (t_begin : Int32) (t_trials : Int32) (t_deeds : Int32) (t_quorum : Int32) (t_lean : Nat → Int32) (t_dead : Nat → Int32) (t_becomes : Nat → Int32) (t_trialYear : Nat → Int32) (t_juryFrom : Nat → Int32) (t_juryTo : Nat → Int32) (t_deedFrom : Nat → Int32) (t_deedTo : Nat → Int32) (o : Int32) (hf : fX4_least a1 a2 r_numbers t_trials t_trialYear = some o) : Ct l yX4_least cX4_least 4 (some .int) { frames := 1, cells := 0, slots := 0, locals := 22 } D (Tys cI cZ cD cH) [.ref qr, .int a1, .int a2, .ref qt] [(qr, .inr (4, [.ref r_bytes, .int r_length, .int r_place, .int r_token, .int r_tokenPlace, .int r_tokenValue, .int r_yearsTold, .int r_beginTold, .int r_quorumTold, .ref qr_numbers])), rI cI qr_numbers 5 r_numbers, (qt, .inr (5, [.int t_years, .int t_states, .int t_begin, .int t_trials, .int t_deeds, .int t_quorum, .ref qt_lean, .ref qt_dead, .ref qt_becomes, .ref qt_trialYear, .ref qt_juryFrom, .ref qt_juryTo, .ref qt_deedFrom, .ref qt_deedTo])), rI cI qt_lean 6 t_lean, rI cI qt_dead 6 t_dead, rI cI qt_becomes 18 t_becomes, rI cI qt_trialYear 3 t_trialYear, rI cI qt_juryFrom 3 t_juryFrom, rI cI qt_juryTo 3 t_juryTo, rI cI qt_deedFrom 4 t_deedFrom, rI cI qt_deedTo 4 t_deedTo] [(qr, .inr (4, [.ref r_bytes, .int r_length, .int r_place, .int r_token, .int r_tokenPlace, .int r_tokenValue, .int r_yearsTold, .int r_beginTold, .int r_quorumTold, .ref qr_numbers])), rI cI qr_numbers 5 r_numbers, (qt, .inr (5, [.int t_years, .int t_states, .int t_begin, .int t_trials, .int t_deeds, .int t_quorum, .ref qt_lean, .ref qt_dead, .ref qt_becomes, .ref qt_trialYear, .ref qt_juryFrom, .ref qt_juryTo, .ref qt_deedFrom, .ref qt_deedTo])), rI cI qt_lean 6 t_lean, rI cI qt_dead 6 t_dead, rI cI qt_becomes 18 t_becomes, rI cI qt_trialYear 3 t_trialYear, rI cI qt_juryFrom 3 t_juryFrom, rI cI qt_juryTo 3 t_juryTo, rI cI qt_deedFrom 4 t_deedFrom, rI cI qt_deedTo 4 t_deedTo] (some (.int o)) 0 0 := by
  refine mkI (by decide) (Nat.le_of_ble_eq_true rfl) ?_
  intro p e s m args below meth c A Q X hret ls hl H locs hP hD hS
  replace X : Cx p s m args c D (Tys cI cZ cD cH) A cX4_least RX4 4 := X
  obtain ⟨hx, hb, hml, hown, hts, hK, hZ, hA⟩ := id X
  have hl : lv_has ls 4 [(0, .ref qr), (1, .int a1), (2, .int a2), (3, .ref qt)] := hl
  unfold fX4_least at hf
  refine lv_iload_n hx hb dX4_least_0 rfl (lv_at hl 1 rfl) ?_
  by_cases c1 : a1 = 113
  · replace hf := ite_t c1 hf
    refine top_eq c1 ?_
    refine lv_lookup (tgt := 38) hx hb dX4_least_1 (by decide) rfl (by decide) ?_
    refine lv_iconst (v := 1) hx hb dX4_least_38 (by decide) ?_
    replace hf := Option.some.inj hf
    subst hf
    exact hret H locs _ ls dX4_least_39 hP hD hS
  · replace hf := ite_f c1 hf
    by_cases c2 : a1 = 116
    · replace hf := ite_t c2 hf
      refine top_eq c2 ?_
      refine lv_lookup (tgt := 40) hx hb dX4_least_1 (by decide) rfl (by decide) ?_
      refine lv_aload_n hx hb dX4_least_40 rfl (lv_at hl 0 rfl) ?_
      refine lv_iload_n hx hb dX4_least_41 rfl (lv_at hl 2 rfl) ?_
      refine lv_aload_n hx hb dX4_least_42 rfl (lv_at hl 3 rfl) ?_
      obtain ⟨r3, hr3, hf⟩ := bnd hf
      refine k_callV X hP hD hS [(qr, .inr (4, [.ref r_bytes, .int r_length, .int r_place, .int r_token, .int r_tokenPlace, .int r_tokenValue, .int r_yearsTold, .int r_beginTold, .int r_quorumTold, .ref qr_numbers])), rI cI qr_numbers 5 r_numbers, (qt, .inr (5, [.int t_years, .int t_states, .int t_begin, .int t_trials, .int t_deeds, .int t_quorum, .ref qt_lean, .ref qt_dead, .ref qt_becomes, .ref qt_trialYear, .ref qt_juryFrom, .ref qt_juryTo, .ref qt_deedFrom, .ref qt_deedTo])), rI cI qt_lean 6 t_lean, rI cI qt_dead 6 t_dead, rI cI qt_becomes 18 t_becomes, rI cI qt_trialYear 3 t_trialYear, rI cI qt_juryFrom 3 t_juryFrom, rI cI qt_juryTo 3 t_juryTo, rI cI qt_deedFrom 4 t_deedFrom, rI cI qt_deedTo 4 t_deedTo] (ctX4_leastOfTrial l D cI cZ cD cH qr qr_numbers qt qt_lean qt_dead qt_becomes qt_trialYear qt_juryFrom qt_juryTo qt_deedFrom qt_deedTo a2 r_bytes r_length r_place r_token r_tokenPlace r_tokenValue r_yearsTold r_beginTold r_quorumTold r_numbers t_years t_states t_begin t_trials t_deeds t_quorum t_lean t_dead t_becomes t_trialYear t_juryFrom t_juryTo t_deedFrom t_deedTo r3 hr3) ml_RX4_87 im_yX4_leastOfTrial se_yX4_leastOfTrial in_RX4 cd_yX4_leastOfTrial rfl rfl hd_yX4_leastOfTrial ⟨by decide, by decide⟩ ⟨Nat.zero_le _, Nat.zero_le _⟩ [0, 1, 2, 3, 4, 5, 6, 7, 8, 9, 10] [some 0, some 1, some 2, some 3, some 4, some 5, some 6, some 7, some 8, some 9, some 10] rfl (by decide +kernel) rfl (by decide +kernel) rfl rfl (q0 := 0) rfl rfl rfl hl.1 rfl rfl (Nat.le_of_ble_eq_true rfl) rfl dX4_least_43 (fun H locs hP hD hS => ?_)
      replace hf := Option.some.inj hf
      subst hf
      exact hret H locs _ ls dX4_least_46 hP hD hS
    · replace hf := ite_f c2 hf
      by_cases c4 : a1 = 121
      · replace hf := ite_t c4 hf
        refine top_eq c4 ?_
        refine lv_lookup (tgt := 36) hx hb dX4_least_1 (by decide) rfl (by decide) ?_
        refine lv_iconst (v := 2) hx hb dX4_least_36 (by decide) ?_
        replace hf := Option.some.inj hf
        subst hf
        exact hret H locs _ ls dX4_least_37 hP hD hS
      · replace hf := ite_f c4 hf
        have zc1 := i32_ne (k := 113) rfl c1
        have zc2 := i32_ne (k := 116) rfl c2
        have zc4 := i32_ne (k := 121) rfl c4
        refine lv_lookup (tgt := 47) (off := 46) hx hb dX4_least_1 (by decide) (by simp [Op.lookupswitch.offset, List.find?, zc1, (Ne.symm zc1), zc2, (Ne.symm zc2), zc4, (Ne.symm zc4)]) (by decide) ?_
        refine lv_iconst (v := 0) hx hb dX4_least_47 (by decide) ?_
        replace hf := Option.some.inj hf
        subst hf
        exact hret H locs _ ls dX4_least_48 hP hD hS

def fX4_most (a1 : Int32) (a2 : Int32) (t_years : Int32) : Option (Int32) :=
  if a1 = 113 then some 9 else (if a1 = 114 then some 5 else (if a1 = 115 then if a2 = 0 then some 18 else if a2 = 1 then some 1 else some 5 else (if a1 = 116 then if a2 = 0 then some (t_years - 2) else some (t_years - 1) else (if a1 = 117 then some 5 else (if a1 = 118 then some 5 else (if a1 = 119 then some 5 else (if a1 = 120 then some 5 else (if a1 = 121 then some 16 else (some 5)))))))))
set_option maxHeartbeats 4000000 in
set_option maxRecDepth 100000 in
theorem ctX4_most (l : Launch) (D : va_G) (cI cZ cD cH : ClassId) (qt : Nat) (qt_lean : Nat) (qt_dead : Nat) (qt_becomes : Nat) (qt_trialYear : Nat) (qt_juryFrom : Nat) (qt_juryTo : Nat) (qt_deedFrom : Nat) (qt_deedTo : Nat) (a1 : Int32) (a2 : Int32) (t_years : Int32) (t_states : Int32) (t_begin : Int32) (t_trials : Int32) (t_deeds : Int32) (t_quorum : Int32) (t_lean : Nat → Int32) (t_dead : Nat → Int32) (t_becomes : Nat → Int32) (t_trialYear : Nat → Int32) (t_juryFrom : Nat → Int32) (t_juryTo : Nat → Int32) (t_deedFrom : Nat → Int32) (t_deedTo : Nat → Int32) (o : Int32) (hf : fX4_most a1 a2 t_years = some o) : Ct l yX4_most cX4_most 3 (some .int) { frames := 0, cells := 0, slots := 0, locals := 0 } D (Tys cI cZ cD cH) [.int a1, .int a2, .ref qt] [(qt, .inr (5, [.int t_years, .int t_states, .int t_begin, .int t_trials, .int t_deeds, .int t_quorum, .ref qt_lean, .ref qt_dead, .ref qt_becomes, .ref qt_trialYear, .ref qt_juryFrom, .ref qt_juryTo, .ref qt_deedFrom, .ref qt_deedTo])), rI cI qt_lean 6 t_lean, rI cI qt_dead 6 t_dead, rI cI qt_becomes 18 t_becomes, rI cI qt_trialYear 3 t_trialYear, rI cI qt_juryFrom 3 t_juryFrom, rI cI qt_juryTo 3 t_juryTo, rI cI qt_deedFrom 4 t_deedFrom, rI cI qt_deedTo 4 t_deedTo] [(qt, .inr (5, [.int t_years, .int t_states, .int t_begin, .int t_trials, .int t_deeds, .int t_quorum, .ref qt_lean, .ref qt_dead, .ref qt_becomes, .ref qt_trialYear, .ref qt_juryFrom, .ref qt_juryTo, .ref qt_deedFrom, .ref qt_deedTo])), rI cI qt_lean 6 t_lean, rI cI qt_dead 6 t_dead, rI cI qt_becomes 18 t_becomes, rI cI qt_trialYear 3 t_trialYear, rI cI qt_juryFrom 3 t_juryFrom, rI cI qt_juryTo 3 t_juryTo, rI cI qt_deedFrom 4 t_deedFrom, rI cI qt_deedTo 4 t_deedTo] (some (.int o)) 0 0 := by
  refine mkI (by decide) (Nat.le_of_ble_eq_true rfl) ?_
  intro p e s m args below meth c A Q X hret ls hl H locs hP hD hS
  replace X : Cx p s m args c D (Tys cI cZ cD cH) A cX4_most RX4 3 := X
  obtain ⟨hx, hb, hml, hown, hts, hK, hZ, hA⟩ := id X
  have hl : lv_has ls 3 [(0, .int a1), (1, .int a2), (2, .ref qt)] := hl
  unfold fX4_most at hf
  refine lv_iload_n hx hb dX4_most_0 rfl (lv_at hl 0 rfl) ?_
  by_cases c1 : a1 = 113
  · replace hf := ite_t c1 hf
    refine top_eq c1 ?_
    refine lv_tableIn (tgt := 55) hx hb dX4_most_1 (by decide) (by decide) rfl (by decide) ?_
    refine lv_bipush (v := 9) hx hb dX4_most_55 (by decide) ?_
    replace hf := Option.some.inj hf
    subst hf
    exact hret H locs _ ls dX4_most_57 hP hD hS
  · replace hf := ite_f c1 hf
    by_cases c2 : a1 = 114
    · replace hf := ite_t c2 hf
      refine top_eq c2 ?_
      refine lv_tableIn (tgt := 98) hx hb dX4_most_1 (by decide) (by decide) rfl (by decide) ?_
      refine lv_iconst (v := 5) hx hb dX4_most_98 (by decide) ?_
      replace hf := Option.some.inj hf
      subst hf
      exact hret H locs _ ls dX4_most_99 hP hD hS
    · replace hf := ite_f c2 hf
      by_cases c3 : a1 = 115
      · replace hf := ite_t c3 hf
        refine top_eq c3 ?_
        refine lv_tableIn (tgt := 78) hx hb dX4_most_1 (by decide) (by decide) rfl (by decide) ?_
        refine lv_iload_n hx hb dX4_most_78 rfl (lv_at hl 1 rfl) ?_
        refine lv_if_ne (tgt := 87) hx hb dX4_most_79 (by decide) (fun c4 => ?_) (fun c4 => ?_)
        · replace hf := ite_f c4 hf
          refine lv_iload_n hx hb dX4_most_87 rfl (lv_at hl 1 rfl) ?_
          refine lv_iconst (v := 1) hx hb dX4_most_88 (by decide) ?_
          refine lv_icmp_ne (tgt := 96) hx hb dX4_most_89 (by decide) (fun c5 => ?_) (fun c5 => ?_)
          · replace hf := ite_f c5 hf
            refine lv_iconst (v := 5) hx hb dX4_most_96 (by decide) ?_
            replace hf := Option.some.inj hf
            subst hf
            exact hret H locs _ ls dX4_most_97 hP hD hS
          · replace hf := ite_t c5 hf
            refine lv_iconst (v := 1) hx hb dX4_most_92 (by decide) ?_
            refine lv_goto (tgt := 97) hx hb dX4_most_93 (by decide) ?_
            replace hf := Option.some.inj hf
            subst hf
            exact hret H locs _ ls dX4_most_97 hP hD hS
        · replace hf := ite_t c4 hf
          refine lv_bipush (v := 18) hx hb dX4_most_82 (by decide) ?_
          refine lv_goto (tgt := 97) hx hb dX4_most_84 (by decide) ?_
          replace hf := Option.some.inj hf
          subst hf
          exact hret H locs _ ls dX4_most_97 hP hD hS
      · replace hf := ite_f c3 hf
        by_cases c6 : a1 = 116
        · replace hf := ite_t c6 hf
          refine top_eq c6 ?_
          refine lv_tableIn (tgt := 58) hx hb dX4_most_1 (by decide) (by decide) rfl (by decide) ?_
          refine lv_iload_n hx hb dX4_most_58 rfl (lv_at hl 1 rfl) ?_
          refine lv_if_ne (tgt := 71) hx hb dX4_most_59 (by decide) (fun c7 => ?_) (fun c7 => ?_)
          · replace hf := ite_f c7 hf
            refine lv_aload_n hx hb dX4_most_71 rfl (lv_at hl 2 rfl) ?_
            refine k_get X hP 0 rfl rfl inX5 0 (by decide) fl_RX4_94 rfl rfl dX4_most_72 ?_
            refine lv_iconst (v := 1) hx hb dX4_most_75 (by decide) ?_
            refine lv_isub hx hb dX4_most_76 ?_
            replace hf := Option.some.inj hf
            subst hf
            exact hret H locs _ ls dX4_most_77 hP hD hS
          · replace hf := ite_t c7 hf
            refine lv_aload_n hx hb dX4_most_62 rfl (lv_at hl 2 rfl) ?_
            refine k_get X hP 0 rfl rfl inX5 0 (by decide) fl_RX4_94 rfl rfl dX4_most_63 ?_
            refine lv_iconst (v := 2) hx hb dX4_most_66 (by decide) ?_
            refine lv_isub hx hb dX4_most_67 ?_
            refine lv_goto (tgt := 77) hx hb dX4_most_68 (by decide) ?_
            replace hf := Option.some.inj hf
            subst hf
            exact hret H locs _ ls dX4_most_77 hP hD hS
        · replace hf := ite_f c6 hf
          by_cases c8 : a1 = 117
          · replace hf := ite_t c8 hf
            refine top_eq c8 ?_
            refine lv_tableIn (tgt := 98) hx hb dX4_most_1 (by decide) (by decide) rfl (by decide) ?_
            refine lv_iconst (v := 5) hx hb dX4_most_98 (by decide) ?_
            replace hf := Option.some.inj hf
            subst hf
            exact hret H locs _ ls dX4_most_99 hP hD hS
          · replace hf := ite_f c8 hf
            by_cases c9 : a1 = 118
            · replace hf := ite_t c9 hf
              refine top_eq c9 ?_
              refine lv_tableIn (tgt := 98) hx hb dX4_most_1 (by decide) (by decide) rfl (by decide) ?_
              refine lv_iconst (v := 5) hx hb dX4_most_98 (by decide) ?_
              replace hf := Option.some.inj hf
              subst hf
              exact hret H locs _ ls dX4_most_99 hP hD hS
            · replace hf := ite_f c9 hf
              by_cases c10 : a1 = 119
              · replace hf := ite_t c10 hf
                refine top_eq c10 ?_
                refine lv_tableIn (tgt := 98) hx hb dX4_most_1 (by decide) (by decide) rfl (by decide) ?_
                refine lv_iconst (v := 5) hx hb dX4_most_98 (by decide) ?_
                replace hf := Option.some.inj hf
                subst hf
                exact hret H locs _ ls dX4_most_99 hP hD hS
              · replace hf := ite_f c10 hf
                by_cases c11 : a1 = 120
                · replace hf := ite_t c11 hf
                  refine top_eq c11 ?_
                  refine lv_tableIn (tgt := 98) hx hb dX4_most_1 (by decide) (by decide) rfl (by decide) ?_
                  refine lv_iconst (v := 5) hx hb dX4_most_98 (by decide) ?_
                  replace hf := Option.some.inj hf
                  subst hf
                  exact hret H locs _ ls dX4_most_99 hP hD hS
                · replace hf := ite_f c11 hf
                  by_cases c12 : a1 = 121
                  · replace hf := ite_t c12 hf
                    refine top_eq c12 ?_
                    refine lv_tableIn (tgt := 52) hx hb dX4_most_1 (by decide) (by decide) rfl (by decide) ?_
                    refine lv_bipush (v := 16) hx hb dX4_most_52 (by decide) ?_
                    replace hf := Option.some.inj hf
                    subst hf
                    exact hret H locs _ ls dX4_most_54 hP hD hS
                  · replace hf := ite_f c12 hf
                    have zc1 := i32_ne (k := 113) rfl c1
                    have zc2 := i32_ne (k := 114) rfl c2
                    have zc3 := i32_ne (k := 115) rfl c3
                    have zc6 := i32_ne (k := 116) rfl c6
                    have zc8 := i32_ne (k := 117) rfl c8
                    have zc9 := i32_ne (k := 118) rfl c9
                    have zc10 := i32_ne (k := 119) rfl c10
                    have zc11 := i32_ne (k := 120) rfl c11
                    have zc12 := i32_ne (k := 121) rfl c12
                    refine lv_tableOut (tgt := 98) hx hb dX4_most_1 (by omega) (by decide) ?_
                    refine lv_iconst (v := 5) hx hb dX4_most_98 (by decide) ?_
                    replace hf := Option.some.inj hf
                    subst hf
                    exact hret H locs _ ls dX4_most_99 hP hD hS

def sX4_takeState_34 (v2 : Int32) (r_numbers : Nat → Int32) (v3 : Int32) (t_becomes : Nat → Int32) : Option ((Int32 × (Nat → Int32)) ⊕ (((Nat → Int32)))) :=
  if 3 ≤ v3 then some (.inr t_becomes) else if inb (2 + v3) 5 = true then if inb ((v2 * 3) + v3) 18 = true then some (.inl (v3 + 1, upd t_becomes ((v2 * 3) + v3).toNatClampNeg (r_numbers (2 + v3).toNatClampNeg))) else none else none
def fX4_takeState (r_numbers : Nat → Int32) (t_states : Int32) (t_lean : Nat → Int32) (t_dead : Nat → Int32) (t_becomes : Nat → Int32) : Option (Int32 × (Nat → Int32) × (Nat → Int32) × (Nat → Int32)) :=
  if inb 0 5 = true then if inb t_states 6 = true then if inb 1 5 = true then if inb t_states 6 = true then (lpd (fun s5 => sX4_takeState_34 t_states r_numbers s5.1 s5.2) FU (0, t_becomes)).bind (fun (y5_0 : (Nat → Int32)) => some (t_states + 1, upd t_lean t_states.toNatClampNeg ((r_numbers (0 : Int32).toNatClampNeg) - 9), upd t_dead t_states.toNatClampNeg (r_numbers (1 : Int32).toNatClampNeg), y5_0)) else none else none else none else none
set_option maxHeartbeats 4000000 in
set_option maxRecDepth 100000 in
theorem ctX4_takeState (l : Launch) (D : va_G) (cI cZ cD cH : ClassId) (qr : Nat) (qr_numbers : Nat) (qt : Nat) (qt_lean : Nat) (qt_dead : Nat) (qt_becomes : Nat) (qt_trialYear : Nat) (qt_juryFrom : Nat) (qt_juryTo : Nat) (qt_deedFrom : Nat) (qt_deedTo : Nat) (r_bytes : Nat) (r_length : Int32) (r_place : Int32) (r_token : Int32) (r_tokenPlace : Int32) (r_tokenValue : Int32) (r_yearsTold : Int32) (r_beginTold : Int32) (r_quorumTold : Int32) (r_numbers : Nat → Int32) (t_years : Int32) (t_states : Int32) (t_begin : Int32) (t_trials : Int32) (t_deeds : Int32) (t_quorum : Int32) (t_lean : Nat → Int32) (t_dead : Nat → Int32) (t_becomes : Nat → Int32) (t_trialYear : Nat → Int32) (t_juryFrom : Nat → Int32) (t_juryTo : Nat → Int32) (t_deedFrom : Nat → Int32) (t_deedTo : Nat → Int32) (o : Int32 × (Nat → Int32) × (Nat → Int32) × (Nat → Int32)) (hf : fX4_takeState r_numbers t_states t_lean t_dead t_becomes = some o) : Ct l yX4_takeState cX4_takeState 4 none { frames := 0, cells := 0, slots := 0, locals := 0 } D (Tys cI cZ cD cH) [.ref qr, .ref qt] [(qr, .inr (4, [.ref r_bytes, .int r_length, .int r_place, .int r_token, .int r_tokenPlace, .int r_tokenValue, .int r_yearsTold, .int r_beginTold, .int r_quorumTold, .ref qr_numbers])), rI cI qr_numbers 5 r_numbers, (qt, .inr (5, [.int t_years, .int t_states, .int t_begin, .int t_trials, .int t_deeds, .int t_quorum, .ref qt_lean, .ref qt_dead, .ref qt_becomes, .ref qt_trialYear, .ref qt_juryFrom, .ref qt_juryTo, .ref qt_deedFrom, .ref qt_deedTo])), rI cI qt_lean 6 t_lean, rI cI qt_dead 6 t_dead, rI cI qt_becomes 18 t_becomes, rI cI qt_trialYear 3 t_trialYear, rI cI qt_juryFrom 3 t_juryFrom, rI cI qt_juryTo 3 t_juryTo, rI cI qt_deedFrom 4 t_deedFrom, rI cI qt_deedTo 4 t_deedTo] [(qr, .inr (4, [.ref r_bytes, .int r_length, .int r_place, .int r_token, .int r_tokenPlace, .int r_tokenValue, .int r_yearsTold, .int r_beginTold, .int r_quorumTold, .ref qr_numbers])), rI cI qr_numbers 5 r_numbers, (qt, .inr (5, [.int t_years, .int o.1, .int t_begin, .int t_trials, .int t_deeds, .int t_quorum, .ref qt_lean, .ref qt_dead, .ref qt_becomes, .ref qt_trialYear, .ref qt_juryFrom, .ref qt_juryTo, .ref qt_deedFrom, .ref qt_deedTo])), rI cI qt_lean 6 o.2.1, rI cI qt_dead 6 o.2.2.1, rI cI qt_becomes 18 o.2.2.2, rI cI qt_trialYear 3 t_trialYear, rI cI qt_juryFrom 3 t_juryFrom, rI cI qt_juryTo 3 t_juryTo, rI cI qt_deedFrom 4 t_deedFrom, rI cI qt_deedTo 4 t_deedTo] none 0 0 := by
  refine mkV (by decide) (Nat.le_of_ble_eq_true rfl) ?_
  intro p e s m args below meth c A Q X hnm hret ls hl H locs hP hD hS
  replace X : Cx p s m args c D (Tys cI cZ cD cH) A cX4_takeState RX4 4 := X
  obtain ⟨hx, hb, hml, hown, hts, hK, hZ, hA⟩ := id X
  have hl : lv_has ls 4 [(0, .ref qr), (1, .ref qt)] := hl
  unfold fX4_takeState at hf
  refine lv_aload_n hx hb dX4_takeState_0 rfl (lv_at hl 1 rfl) ?_
  refine k_get X hP 2 rfl rfl inX5 1 (by decide) fl_RX4_81 rfl rfl dX4_takeState_1 ?_
  refine lv_istore_n (lv' := [(2, .int t_states), (0, .ref qr), (1, .ref qt)]) hx hb dX4_takeState_4 rfl hl (by decide) rfl (fun ls hl => ?_)
  refine lv_aload_n hx hb dX4_takeState_5 rfl (lv_at hl 2 rfl) ?_
  refine k_get X hP 2 rfl rfl inX5 6 (by decide) fl_RX4_113 rfl rfl dX4_takeState_6 ?_
  refine lv_iload_n hx hb dX4_takeState_9 rfl (lv_at hl 0 rfl) ?_
  refine lv_aload_n hx hb dX4_takeState_10 rfl (lv_at hl 1 rfl) ?_
  refine k_get X hP 0 rfl rfl inX4 9 (by decide) fl_RX4_41 rfl rfl dX4_takeState_11 ?_
  refine lv_iconst (v := 0) hx hb dX4_takeState_14 (by decide) ?_
  obtain ⟨h1, hf⟩ := ck_t hf
  refine k_iald X hP 1 0 rfl rfl h1 dX4_takeState_15 ?_
  refine lv_bipush (v := 9) hx hb dX4_takeState_16 (by decide) ?_
  refine lv_isub hx hb dX4_takeState_18 ?_
  obtain ⟨h2, hf⟩ := ck_t hf
  refine k_iast X hP hD hS [(qr, .inr (4, [.ref r_bytes, .int r_length, .int r_place, .int r_token, .int r_tokenPlace, .int r_tokenValue, .int r_yearsTold, .int r_beginTold, .int r_quorumTold, .ref qr_numbers])), rI cI qr_numbers 5 r_numbers, (qt, .inr (5, [.int t_years, .int t_states, .int t_begin, .int t_trials, .int t_deeds, .int t_quorum, .ref qt_lean, .ref qt_dead, .ref qt_becomes, .ref qt_trialYear, .ref qt_juryFrom, .ref qt_juryTo, .ref qt_deedFrom, .ref qt_deedTo])), rI cI qt_lean 6 (upd t_lean t_states.toNatClampNeg ((r_numbers (0 : Int32).toNatClampNeg) - 9)), rI cI qt_dead 6 t_dead, rI cI qt_becomes 18 t_becomes, rI cI qt_trialYear 3 t_trialYear, rI cI qt_juryFrom 3 t_juryFrom, rI cI qt_juryTo 3 t_juryTo, rI cI qt_deedFrom 4 t_deedFrom, rI cI qt_deedTo 4 t_deedTo] 3 0 rfl rfl h2 rfl dX4_takeState_19 (fun H locs hP hD hS => ?_)
  refine lv_aload_n hx hb dX4_takeState_20 rfl (lv_at hl 2 rfl) ?_
  refine k_get X hP 2 rfl rfl inX5 7 (by decide) fl_RX4_116 rfl rfl dX4_takeState_21 ?_
  refine lv_iload_n hx hb dX4_takeState_24 rfl (lv_at hl 0 rfl) ?_
  refine lv_aload_n hx hb dX4_takeState_25 rfl (lv_at hl 1 rfl) ?_
  refine k_get X hP 0 rfl rfl inX4 9 (by decide) fl_RX4_41 rfl rfl dX4_takeState_26 ?_
  refine lv_iconst (v := 1) hx hb dX4_takeState_29 (by decide) ?_
  obtain ⟨h3, hf⟩ := ck_t hf
  refine k_iald X hP 1 0 rfl rfl h3 dX4_takeState_30 ?_
  obtain ⟨h4, hf⟩ := ck_t hf
  refine k_iast X hP hD hS [(qr, .inr (4, [.ref r_bytes, .int r_length, .int r_place, .int r_token, .int r_tokenPlace, .int r_tokenValue, .int r_yearsTold, .int r_beginTold, .int r_quorumTold, .ref qr_numbers])), rI cI qr_numbers 5 r_numbers, (qt, .inr (5, [.int t_years, .int t_states, .int t_begin, .int t_trials, .int t_deeds, .int t_quorum, .ref qt_lean, .ref qt_dead, .ref qt_becomes, .ref qt_trialYear, .ref qt_juryFrom, .ref qt_juryTo, .ref qt_deedFrom, .ref qt_deedTo])), rI cI qt_lean 6 (upd t_lean t_states.toNatClampNeg ((r_numbers (0 : Int32).toNatClampNeg) - 9)), rI cI qt_dead 6 (upd t_dead t_states.toNatClampNeg (r_numbers (1 : Int32).toNatClampNeg)), rI cI qt_becomes 18 t_becomes, rI cI qt_trialYear 3 t_trialYear, rI cI qt_juryFrom 3 t_juryFrom, rI cI qt_juryTo 3 t_juryTo, rI cI qt_deedFrom 4 t_deedFrom, rI cI qt_deedTo 4 t_deedTo] 4 0 rfl rfl h4 rfl dX4_takeState_31 (fun H locs hP hD hS => ?_)
  refine lv_iconst (v := 0) hx hb dX4_takeState_32 (by decide) ?_
  refine lv_istore_n (lv' := [(3, .int 0), (2, .int t_states), (0, .ref qr), (1, .ref qt)]) hx hb dX4_takeState_33 rfl hl (by decide) rfl (fun ls hl => ?_)
  obtain ⟨e5, he5, hf⟩ := bnd hf
  have hx5_0 : ∀ (y5_0 : (Nat → Int32)), y5_0 = e5 → ∀ (H : Heap) (locs : List Loc) (ls : Array Slot), va_P D vwCl [(qr, .inr (4, [.ref r_bytes, .int r_length, .int r_place, .int r_token, .int r_tokenPlace, .int r_tokenValue, .int r_yearsTold, .int r_beginTold, .int r_quorumTold, .ref qr_numbers])), rI cI qr_numbers 5 r_numbers, (qt, .inr (5, [.int t_years, .int t_states, .int t_begin, .int t_trials, .int t_deeds, .int t_quorum, .ref qt_lean, .ref qt_dead, .ref qt_becomes, .ref qt_trialYear, .ref qt_juryFrom, .ref qt_juryTo, .ref qt_deedFrom, .ref qt_deedTo])), rI cI qt_lean 6 (upd t_lean t_states.toNatClampNeg ((r_numbers (0 : Int32).toNatClampNeg) - 9)), rI cI qt_dead 6 (upd t_dead t_states.toNatClampNeg (r_numbers (1 : Int32).toNatClampNeg)), rI cI qt_becomes 18 y5_0, rI cI qt_trialYear 3 t_trialYear, rI cI qt_juryFrom 3 t_juryFrom, rI cI qt_juryTo 3 t_juryTo, rI cI qt_deedFrom 4 t_deedFrom, rI cI qt_deedTo 4 t_deedTo] H → va_D A [(qr, .inr (4, [.ref r_bytes, .int r_length, .int r_place, .int r_token, .int r_tokenPlace, .int r_tokenValue, .int r_yearsTold, .int r_beginTold, .int r_quorumTold, .ref qr_numbers])), rI cI qr_numbers 5 r_numbers, (qt, .inr (5, [.int t_years, .int t_states, .int t_begin, .int t_trials, .int t_deeds, .int t_quorum, .ref qt_lean, .ref qt_dead, .ref qt_becomes, .ref qt_trialYear, .ref qt_juryFrom, .ref qt_juryTo, .ref qt_deedFrom, .ref qt_deedTo])), rI cI qt_lean 6 (upd t_lean t_states.toNatClampNeg ((r_numbers (0 : Int32).toNatClampNeg) - 9)), rI cI qt_dead 6 (upd t_dead t_states.toNatClampNeg (r_numbers (1 : Int32).toNatClampNeg)), rI cI qt_becomes 18 y5_0, rI cI qt_trialYear 3 t_trialYear, rI cI qt_juryFrom 3 t_juryFrom, rI cI qt_juryTo 3 t_juryTo, rI cI qt_deedFrom 4 t_deedFrom, rI cI qt_deedTo 4 t_deedTo] → va_S A s.heap H locs → lv_has ls 4 [(1, .ref qt)] → W p l e ({ frames := 0, cells := 0, slots := 0, locals := 0 } : Room) s m args below meth c H locs 0 0 Q (F0 m 63 ls []) := by
    intro y5_0 heq H locs ls hP hD hS hl
    subst heq
    refine lv_aload_n hx hb dX4_takeState_63 rfl (lv_at hl 0 rfl) ?_
    refine lv_dup hx hb dX4_takeState_64 rfl ?_
    refine k_get X hP 2 rfl rfl inX5 1 (by decide) fl_RX4_81 rfl rfl dX4_takeState_65 ?_
    refine lv_iconst (v := 1) hx hb dX4_takeState_68 (by decide) ?_
    refine lv_iadd hx hb dX4_takeState_69 ?_
    refine k_put X hP hD hS [(qr, .inr (4, [.ref r_bytes, .int r_length, .int r_place, .int r_token, .int r_tokenPlace, .int r_tokenValue, .int r_yearsTold, .int r_beginTold, .int r_quorumTold, .ref qr_numbers])), rI cI qr_numbers 5 r_numbers, (qt, .inr (5, [.int t_years, .int (t_states + 1), .int t_begin, .int t_trials, .int t_deeds, .int t_quorum, .ref qt_lean, .ref qt_dead, .ref qt_becomes, .ref qt_trialYear, .ref qt_juryFrom, .ref qt_juryTo, .ref qt_deedFrom, .ref qt_deedTo])), rI cI qt_lean 6 (upd t_lean t_states.toNatClampNeg ((r_numbers (0 : Int32).toNatClampNeg) - 9)), rI cI qt_dead 6 (upd t_dead t_states.toNatClampNeg (r_numbers (1 : Int32).toNatClampNeg)), rI cI qt_becomes 18 y5_0, rI cI qt_trialYear 3 t_trialYear, rI cI qt_juryFrom 3 t_juryFrom, rI cI qt_juryTo 3 t_juryTo, rI cI qt_deedFrom 4 t_deedFrom, rI cI qt_deedTo 4 t_deedTo] 2 rfl rfl inX5 tyX5_ok nmX5 1 (by decide) fl_RX4_81 rfl rfl rfl rfl (Nat.le_of_ble_eq_true rfl) rfl dX4_takeState_70 (fun H locs hP hD hS => ?_)
    replace hf := Option.some.inj hf
    subst hf
    exact hret H locs _ ls dX4_takeState_73 hP hD hS
  refine lpd_ind (P := fun s5 => ∀ (H : Heap) (locs : List Loc) (ls : Array Slot), va_P D vwCl [(qr, .inr (4, [.ref r_bytes, .int r_length, .int r_place, .int r_token, .int r_tokenPlace, .int r_tokenValue, .int r_yearsTold, .int r_beginTold, .int r_quorumTold, .ref qr_numbers])), rI cI qr_numbers 5 r_numbers, (qt, .inr (5, [.int t_years, .int t_states, .int t_begin, .int t_trials, .int t_deeds, .int t_quorum, .ref qt_lean, .ref qt_dead, .ref qt_becomes, .ref qt_trialYear, .ref qt_juryFrom, .ref qt_juryTo, .ref qt_deedFrom, .ref qt_deedTo])), rI cI qt_lean 6 (upd t_lean t_states.toNatClampNeg ((r_numbers (0 : Int32).toNatClampNeg) - 9)), rI cI qt_dead 6 (upd t_dead t_states.toNatClampNeg (r_numbers (1 : Int32).toNatClampNeg)), rI cI qt_becomes 18 s5.2, rI cI qt_trialYear 3 t_trialYear, rI cI qt_juryFrom 3 t_juryFrom, rI cI qt_juryTo 3 t_juryTo, rI cI qt_deedFrom 4 t_deedFrom, rI cI qt_deedTo 4 t_deedTo] H → va_D A [(qr, .inr (4, [.ref r_bytes, .int r_length, .int r_place, .int r_token, .int r_tokenPlace, .int r_tokenValue, .int r_yearsTold, .int r_beginTold, .int r_quorumTold, .ref qr_numbers])), rI cI qr_numbers 5 r_numbers, (qt, .inr (5, [.int t_years, .int t_states, .int t_begin, .int t_trials, .int t_deeds, .int t_quorum, .ref qt_lean, .ref qt_dead, .ref qt_becomes, .ref qt_trialYear, .ref qt_juryFrom, .ref qt_juryTo, .ref qt_deedFrom, .ref qt_deedTo])), rI cI qt_lean 6 (upd t_lean t_states.toNatClampNeg ((r_numbers (0 : Int32).toNatClampNeg) - 9)), rI cI qt_dead 6 (upd t_dead t_states.toNatClampNeg (r_numbers (1 : Int32).toNatClampNeg)), rI cI qt_becomes 18 s5.2, rI cI qt_trialYear 3 t_trialYear, rI cI qt_juryFrom 3 t_juryFrom, rI cI qt_juryTo 3 t_juryTo, rI cI qt_deedFrom 4 t_deedFrom, rI cI qt_deedTo 4 t_deedTo] → va_S A s.heap H locs → lv_has ls 4 [(0, .ref qr), (1, .ref qt), (2, .int t_states), (3, .int s5.1)] → W p l e ({ frames := 0, cells := 0, slots := 0, locals := 0 } : Room) s m args below meth c H locs 0 0 Q (F0 m 34 ls [])) e5 ?_ _ _ he5 H locs ls hP hD hS (lv_sub hl [2, 3, 1, 0] rfl)
  intro s5 r5 hf ih5 hq5 H locs ls hP hD hS hl
  unfold sX4_takeState_34 at hf
  refine lv_iload_n hx hb dX4_takeState_34 rfl (lv_at hl 3 rfl) ?_
  refine lv_iconst (v := 3) hx hb dX4_takeState_35 (by decide) ?_
  refine lv_icmp_ge (tgt := 63) hx hb dX4_takeState_36 (by decide) (fun c6 => ?_) (fun c6 => ?_)
  · replace hf := ite_t c6 hf
    exact hx5_0 _ (hq5 _ (Option.some.inj hf).symm) H locs ls hP hD hS (lv_sub hl [1] rfl)
  · replace hf := ite_f c6 hf
    refine lv_aload_n hx hb dX4_takeState_39 rfl (lv_at hl 1 rfl) ?_
    refine k_get X hP 2 rfl rfl inX5 8 (by decide) fl_RX4_119 rfl rfl dX4_takeState_40 ?_
    refine lv_iload_n hx hb dX4_takeState_43 rfl (lv_at hl 2 rfl) ?_
    refine lv_iconst (v := 3) hx hb dX4_takeState_44 (by decide) ?_
    refine lv_imul hx hb dX4_takeState_45 ?_
    refine lv_iload_n hx hb dX4_takeState_46 rfl (lv_at hl 3 rfl) ?_
    refine lv_iadd hx hb dX4_takeState_47 ?_
    refine lv_aload_n hx hb dX4_takeState_48 rfl (lv_at hl 0 rfl) ?_
    refine k_get X hP 0 rfl rfl inX4 9 (by decide) fl_RX4_41 rfl rfl dX4_takeState_49 ?_
    refine lv_iconst (v := 2) hx hb dX4_takeState_52 (by decide) ?_
    refine lv_iload_n hx hb dX4_takeState_53 rfl (lv_at hl 3 rfl) ?_
    refine lv_iadd hx hb dX4_takeState_54 ?_
    obtain ⟨h7, hf⟩ := ck_t hf
    refine k_iald X hP 1 0 rfl rfl h7 dX4_takeState_55 ?_
    obtain ⟨h8, hf⟩ := ck_t hf
    refine k_iast X hP hD hS [(qr, .inr (4, [.ref r_bytes, .int r_length, .int r_place, .int r_token, .int r_tokenPlace, .int r_tokenValue, .int r_yearsTold, .int r_beginTold, .int r_quorumTold, .ref qr_numbers])), rI cI qr_numbers 5 r_numbers, (qt, .inr (5, [.int t_years, .int t_states, .int t_begin, .int t_trials, .int t_deeds, .int t_quorum, .ref qt_lean, .ref qt_dead, .ref qt_becomes, .ref qt_trialYear, .ref qt_juryFrom, .ref qt_juryTo, .ref qt_deedFrom, .ref qt_deedTo])), rI cI qt_lean 6 (upd t_lean t_states.toNatClampNeg ((r_numbers (0 : Int32).toNatClampNeg) - 9)), rI cI qt_dead 6 (upd t_dead t_states.toNatClampNeg (r_numbers (1 : Int32).toNatClampNeg)), rI cI qt_becomes 18 (upd s5.2 ((t_states * 3) + s5.1).toNatClampNeg (r_numbers (2 + s5.1).toNatClampNeg)), rI cI qt_trialYear 3 t_trialYear, rI cI qt_juryFrom 3 t_juryFrom, rI cI qt_juryTo 3 t_juryTo, rI cI qt_deedFrom 4 t_deedFrom, rI cI qt_deedTo 4 t_deedTo] 5 0 rfl rfl h8 rfl dX4_takeState_56 (fun H locs hP hD hS => ?_)
    refine lv_iinc (v := s5.1 + 1) (lv' := [(3, .int (s5.1 + 1)), (0, .ref qr), (1, .ref qt), (2, .int t_states)]) hx hb dX4_takeState_57 hl (k := 3) rfl rfl (by decide) rfl (fun ls hl => ?_)
    refine lv_goto (tgt := 34) hx hb dX4_takeState_60 (by decide) ?_
    exact ih5 _ (Option.some.inj hf).symm H locs ls hP hD hS (lv_sub hl [1, 2, 3, 0] rfl)

def fX4_takeTrial (r_numbers : Nat → Int32) (t_trials : Int32) (t_trialYear : Nat → Int32) (t_juryFrom : Nat → Int32) (t_juryTo : Nat → Int32) : Option (Int32 × (Nat → Int32) × (Nat → Int32) × (Nat → Int32)) :=
  if inb 0 5 = true then if inb t_trials 3 = true then if inb 1 5 = true then if inb t_trials 3 = true then if inb 2 5 = true then if inb t_trials 3 = true then some (t_trials + 1, upd t_trialYear t_trials.toNatClampNeg (r_numbers (0 : Int32).toNatClampNeg), upd t_juryFrom t_trials.toNatClampNeg (r_numbers (1 : Int32).toNatClampNeg), upd t_juryTo t_trials.toNatClampNeg (r_numbers (2 : Int32).toNatClampNeg)) else none else none else none else none else none else none
set_option maxHeartbeats 4000000 in
set_option maxRecDepth 100000 in
theorem ctX4_takeTrial (l : Launch) (D : va_G) (cI cZ cD cH : ClassId) (qr : Nat) (qr_numbers : Nat) (qt : Nat) (qt_lean : Nat) (qt_dead : Nat) (qt_becomes : Nat) (qt_trialYear : Nat) (qt_juryFrom : Nat) (qt_juryTo : Nat) (qt_deedFrom : Nat) (qt_deedTo : Nat) (r_bytes : Nat) (r_length : Int32) (r_place : Int32) (r_token : Int32) (r_tokenPlace : Int32) (r_tokenValue : Int32) (r_yearsTold : Int32) (r_beginTold : Int32) (r_quorumTold : Int32) (r_numbers : Nat → Int32) (t_years : Int32) (t_states : Int32) (t_begin : Int32) (t_trials : Int32) (t_deeds : Int32) (t_quorum : Int32) (t_lean : Nat → Int32) (t_dead : Nat → Int32) (t_becomes : Nat → Int32) (t_trialYear : Nat → Int32) (t_juryFrom : Nat → Int32) (t_juryTo : Nat → Int32) (t_deedFrom : Nat → Int32) (t_deedTo : Nat → Int32) (o : Int32 × (Nat → Int32) × (Nat → Int32) × (Nat → Int32)) (hf : fX4_takeTrial r_numbers t_trials t_trialYear t_juryFrom t_juryTo = some o) : Ct l yX4_takeTrial cX4_takeTrial 3 none { frames := 0, cells := 0, slots := 0, locals := 0 } D (Tys cI cZ cD cH) [.ref qr, .ref qt] [(qr, .inr (4, [.ref r_bytes, .int r_length, .int r_place, .int r_token, .int r_tokenPlace, .int r_tokenValue, .int r_yearsTold, .int r_beginTold, .int r_quorumTold, .ref qr_numbers])), rI cI qr_numbers 5 r_numbers, (qt, .inr (5, [.int t_years, .int t_states, .int t_begin, .int t_trials, .int t_deeds, .int t_quorum, .ref qt_lean, .ref qt_dead, .ref qt_becomes, .ref qt_trialYear, .ref qt_juryFrom, .ref qt_juryTo, .ref qt_deedFrom, .ref qt_deedTo])), rI cI qt_lean 6 t_lean, rI cI qt_dead 6 t_dead, rI cI qt_becomes 18 t_becomes, rI cI qt_trialYear 3 t_trialYear, rI cI qt_juryFrom 3 t_juryFrom, rI cI qt_juryTo 3 t_juryTo, rI cI qt_deedFrom 4 t_deedFrom, rI cI qt_deedTo 4 t_deedTo] [(qr, .inr (4, [.ref r_bytes, .int r_length, .int r_place, .int r_token, .int r_tokenPlace, .int r_tokenValue, .int r_yearsTold, .int r_beginTold, .int r_quorumTold, .ref qr_numbers])), rI cI qr_numbers 5 r_numbers, (qt, .inr (5, [.int t_years, .int t_states, .int t_begin, .int o.1, .int t_deeds, .int t_quorum, .ref qt_lean, .ref qt_dead, .ref qt_becomes, .ref qt_trialYear, .ref qt_juryFrom, .ref qt_juryTo, .ref qt_deedFrom, .ref qt_deedTo])), rI cI qt_lean 6 t_lean, rI cI qt_dead 6 t_dead, rI cI qt_becomes 18 t_becomes, rI cI qt_trialYear 3 o.2.1, rI cI qt_juryFrom 3 o.2.2.1, rI cI qt_juryTo 3 o.2.2.2, rI cI qt_deedFrom 4 t_deedFrom, rI cI qt_deedTo 4 t_deedTo] none 0 0 := by
  refine mkV (by decide) (Nat.le_of_ble_eq_true rfl) ?_
  intro p e s m args below meth c A Q X hnm hret ls hl H locs hP hD hS
  replace X : Cx p s m args c D (Tys cI cZ cD cH) A cX4_takeTrial RX4 3 := X
  obtain ⟨hx, hb, hml, hown, hts, hK, hZ, hA⟩ := id X
  have hl : lv_has ls 3 [(0, .ref qr), (1, .ref qt)] := hl
  unfold fX4_takeTrial at hf
  refine lv_aload_n hx hb dX4_takeTrial_0 rfl (lv_at hl 1 rfl) ?_
  refine k_get X hP 2 rfl rfl inX5 3 (by decide) fl_RX4_76 rfl rfl dX4_takeTrial_1 ?_
  refine lv_istore_n (lv' := [(2, .int t_trials), (0, .ref qr), (1, .ref qt)]) hx hb dX4_takeTrial_4 rfl hl (by decide) rfl (fun ls hl => ?_)
  refine lv_aload_n hx hb dX4_takeTrial_5 rfl (lv_at hl 2 rfl) ?_
  refine k_get X hP 2 rfl rfl inX5 9 (by decide) fl_RX4_91 rfl rfl dX4_takeTrial_6 ?_
  refine lv_iload_n hx hb dX4_takeTrial_9 rfl (lv_at hl 0 rfl) ?_
  refine lv_aload_n hx hb dX4_takeTrial_10 rfl (lv_at hl 1 rfl) ?_
  refine k_get X hP 0 rfl rfl inX4 9 (by decide) fl_RX4_41 rfl rfl dX4_takeTrial_11 ?_
  refine lv_iconst (v := 0) hx hb dX4_takeTrial_14 (by decide) ?_
  obtain ⟨h1, hf⟩ := ck_t hf
  refine k_iald X hP 1 0 rfl rfl h1 dX4_takeTrial_15 ?_
  obtain ⟨h2, hf⟩ := ck_t hf
  refine k_iast X hP hD hS [(qr, .inr (4, [.ref r_bytes, .int r_length, .int r_place, .int r_token, .int r_tokenPlace, .int r_tokenValue, .int r_yearsTold, .int r_beginTold, .int r_quorumTold, .ref qr_numbers])), rI cI qr_numbers 5 r_numbers, (qt, .inr (5, [.int t_years, .int t_states, .int t_begin, .int t_trials, .int t_deeds, .int t_quorum, .ref qt_lean, .ref qt_dead, .ref qt_becomes, .ref qt_trialYear, .ref qt_juryFrom, .ref qt_juryTo, .ref qt_deedFrom, .ref qt_deedTo])), rI cI qt_lean 6 t_lean, rI cI qt_dead 6 t_dead, rI cI qt_becomes 18 t_becomes, rI cI qt_trialYear 3 (upd t_trialYear t_trials.toNatClampNeg (r_numbers (0 : Int32).toNatClampNeg)), rI cI qt_juryFrom 3 t_juryFrom, rI cI qt_juryTo 3 t_juryTo, rI cI qt_deedFrom 4 t_deedFrom, rI cI qt_deedTo 4 t_deedTo] 6 0 rfl rfl h2 rfl dX4_takeTrial_16 (fun H locs hP hD hS => ?_)
  refine lv_aload_n hx hb dX4_takeTrial_17 rfl (lv_at hl 2 rfl) ?_
  refine k_get X hP 2 rfl rfl inX5 10 (by decide) fl_RX4_122 rfl rfl dX4_takeTrial_18 ?_
  refine lv_iload_n hx hb dX4_takeTrial_21 rfl (lv_at hl 0 rfl) ?_
  refine lv_aload_n hx hb dX4_takeTrial_22 rfl (lv_at hl 1 rfl) ?_
  refine k_get X hP 0 rfl rfl inX4 9 (by decide) fl_RX4_41 rfl rfl dX4_takeTrial_23 ?_
  refine lv_iconst (v := 1) hx hb dX4_takeTrial_26 (by decide) ?_
  obtain ⟨h3, hf⟩ := ck_t hf
  refine k_iald X hP 1 0 rfl rfl h3 dX4_takeTrial_27 ?_
  obtain ⟨h4, hf⟩ := ck_t hf
  refine k_iast X hP hD hS [(qr, .inr (4, [.ref r_bytes, .int r_length, .int r_place, .int r_token, .int r_tokenPlace, .int r_tokenValue, .int r_yearsTold, .int r_beginTold, .int r_quorumTold, .ref qr_numbers])), rI cI qr_numbers 5 r_numbers, (qt, .inr (5, [.int t_years, .int t_states, .int t_begin, .int t_trials, .int t_deeds, .int t_quorum, .ref qt_lean, .ref qt_dead, .ref qt_becomes, .ref qt_trialYear, .ref qt_juryFrom, .ref qt_juryTo, .ref qt_deedFrom, .ref qt_deedTo])), rI cI qt_lean 6 t_lean, rI cI qt_dead 6 t_dead, rI cI qt_becomes 18 t_becomes, rI cI qt_trialYear 3 (upd t_trialYear t_trials.toNatClampNeg (r_numbers (0 : Int32).toNatClampNeg)), rI cI qt_juryFrom 3 (upd t_juryFrom t_trials.toNatClampNeg (r_numbers (1 : Int32).toNatClampNeg)), rI cI qt_juryTo 3 t_juryTo, rI cI qt_deedFrom 4 t_deedFrom, rI cI qt_deedTo 4 t_deedTo] 7 0 rfl rfl h4 rfl dX4_takeTrial_28 (fun H locs hP hD hS => ?_)
  refine lv_aload_n hx hb dX4_takeTrial_29 rfl (lv_at hl 2 rfl) ?_
  refine k_get X hP 2 rfl rfl inX5 11 (by decide) fl_RX4_125 rfl rfl dX4_takeTrial_30 ?_
  refine lv_iload_n hx hb dX4_takeTrial_33 rfl (lv_at hl 0 rfl) ?_
  refine lv_aload_n hx hb dX4_takeTrial_34 rfl (lv_at hl 1 rfl) ?_
  refine k_get X hP 0 rfl rfl inX4 9 (by decide) fl_RX4_41 rfl rfl dX4_takeTrial_35 ?_
  refine lv_iconst (v := 2) hx hb dX4_takeTrial_38 (by decide) ?_
  obtain ⟨h5, hf⟩ := ck_t hf
  refine k_iald X hP 1 0 rfl rfl h5 dX4_takeTrial_39 ?_
  obtain ⟨h6, hf⟩ := ck_t hf
  refine k_iast X hP hD hS [(qr, .inr (4, [.ref r_bytes, .int r_length, .int r_place, .int r_token, .int r_tokenPlace, .int r_tokenValue, .int r_yearsTold, .int r_beginTold, .int r_quorumTold, .ref qr_numbers])), rI cI qr_numbers 5 r_numbers, (qt, .inr (5, [.int t_years, .int t_states, .int t_begin, .int t_trials, .int t_deeds, .int t_quorum, .ref qt_lean, .ref qt_dead, .ref qt_becomes, .ref qt_trialYear, .ref qt_juryFrom, .ref qt_juryTo, .ref qt_deedFrom, .ref qt_deedTo])), rI cI qt_lean 6 t_lean, rI cI qt_dead 6 t_dead, rI cI qt_becomes 18 t_becomes, rI cI qt_trialYear 3 (upd t_trialYear t_trials.toNatClampNeg (r_numbers (0 : Int32).toNatClampNeg)), rI cI qt_juryFrom 3 (upd t_juryFrom t_trials.toNatClampNeg (r_numbers (1 : Int32).toNatClampNeg)), rI cI qt_juryTo 3 (upd t_juryTo t_trials.toNatClampNeg (r_numbers (2 : Int32).toNatClampNeg)), rI cI qt_deedFrom 4 t_deedFrom, rI cI qt_deedTo 4 t_deedTo] 8 0 rfl rfl h6 rfl dX4_takeTrial_40 (fun H locs hP hD hS => ?_)
  refine lv_aload_n hx hb dX4_takeTrial_41 rfl (lv_at hl 2 rfl) ?_
  refine lv_dup hx hb dX4_takeTrial_42 rfl ?_
  refine k_get X hP 2 rfl rfl inX5 3 (by decide) fl_RX4_76 rfl rfl dX4_takeTrial_43 ?_
  refine lv_iconst (v := 1) hx hb dX4_takeTrial_46 (by decide) ?_
  refine lv_iadd hx hb dX4_takeTrial_47 ?_
  refine k_put X hP hD hS [(qr, .inr (4, [.ref r_bytes, .int r_length, .int r_place, .int r_token, .int r_tokenPlace, .int r_tokenValue, .int r_yearsTold, .int r_beginTold, .int r_quorumTold, .ref qr_numbers])), rI cI qr_numbers 5 r_numbers, (qt, .inr (5, [.int t_years, .int t_states, .int t_begin, .int (t_trials + 1), .int t_deeds, .int t_quorum, .ref qt_lean, .ref qt_dead, .ref qt_becomes, .ref qt_trialYear, .ref qt_juryFrom, .ref qt_juryTo, .ref qt_deedFrom, .ref qt_deedTo])), rI cI qt_lean 6 t_lean, rI cI qt_dead 6 t_dead, rI cI qt_becomes 18 t_becomes, rI cI qt_trialYear 3 (upd t_trialYear t_trials.toNatClampNeg (r_numbers (0 : Int32).toNatClampNeg)), rI cI qt_juryFrom 3 (upd t_juryFrom t_trials.toNatClampNeg (r_numbers (1 : Int32).toNatClampNeg)), rI cI qt_juryTo 3 (upd t_juryTo t_trials.toNatClampNeg (r_numbers (2 : Int32).toNatClampNeg)), rI cI qt_deedFrom 4 t_deedFrom, rI cI qt_deedTo 4 t_deedTo] 2 rfl rfl inX5 tyX5_ok nmX5 3 (by decide) fl_RX4_76 rfl rfl rfl rfl (Nat.le_of_ble_eq_true rfl) rfl dX4_takeTrial_48 (fun H locs hP hD hS => ?_)
  replace hf := Option.some.inj hf
  subst hf
  exact hret H locs _ ls dX4_takeTrial_51 hP hD hS

def fX4_takeDeed (r_numbers : Nat → Int32) (t_deeds : Int32) (t_deedFrom : Nat → Int32) (t_deedTo : Nat → Int32) : Option (Int32 × (Nat → Int32) × (Nat → Int32)) :=
  if inb 0 5 = true then if inb t_deeds 4 = true then if inb 1 5 = true then if inb t_deeds 4 = true then some (t_deeds + 1, upd t_deedFrom t_deeds.toNatClampNeg (r_numbers (0 : Int32).toNatClampNeg), upd t_deedTo t_deeds.toNatClampNeg (r_numbers (1 : Int32).toNatClampNeg)) else none else none else none else none
set_option maxHeartbeats 4000000 in
set_option maxRecDepth 100000 in
theorem ctX4_takeDeed (l : Launch) (D : va_G) (cI cZ cD cH : ClassId) (qr : Nat) (qr_numbers : Nat) (qt : Nat) (qt_lean : Nat) (qt_dead : Nat) (qt_becomes : Nat) (qt_trialYear : Nat) (qt_juryFrom : Nat) (qt_juryTo : Nat) (qt_deedFrom : Nat) (qt_deedTo : Nat) (r_bytes : Nat) (r_length : Int32) (r_place : Int32) (r_token : Int32) (r_tokenPlace : Int32) (r_tokenValue : Int32) (r_yearsTold : Int32) (r_beginTold : Int32) (r_quorumTold : Int32) (r_numbers : Nat → Int32) (t_years : Int32) (t_states : Int32) (t_begin : Int32) (t_trials : Int32) (t_deeds : Int32) (t_quorum : Int32) (t_lean : Nat → Int32) (t_dead : Nat → Int32) (t_becomes : Nat → Int32) (t_trialYear : Nat → Int32) (t_juryFrom : Nat → Int32) (t_juryTo : Nat → Int32) (t_deedFrom : Nat → Int32) (t_deedTo : Nat → Int32) (o : Int32 × (Nat → Int32) × (Nat → Int32)) (hf : fX4_takeDeed r_numbers t_deeds t_deedFrom t_deedTo = some o) : Ct l yX4_takeDeed cX4_takeDeed 3 none { frames := 0, cells := 0, slots := 0, locals := 0 } D (Tys cI cZ cD cH) [.ref qr, .ref qt] [(qr, .inr (4, [.ref r_bytes, .int r_length, .int r_place, .int r_token, .int r_tokenPlace, .int r_tokenValue, .int r_yearsTold, .int r_beginTold, .int r_quorumTold, .ref qr_numbers])), rI cI qr_numbers 5 r_numbers, (qt, .inr (5, [.int t_years, .int t_states, .int t_begin, .int t_trials, .int t_deeds, .int t_quorum, .ref qt_lean, .ref qt_dead, .ref qt_becomes, .ref qt_trialYear, .ref qt_juryFrom, .ref qt_juryTo, .ref qt_deedFrom, .ref qt_deedTo])), rI cI qt_lean 6 t_lean, rI cI qt_dead 6 t_dead, rI cI qt_becomes 18 t_becomes, rI cI qt_trialYear 3 t_trialYear, rI cI qt_juryFrom 3 t_juryFrom, rI cI qt_juryTo 3 t_juryTo, rI cI qt_deedFrom 4 t_deedFrom, rI cI qt_deedTo 4 t_deedTo] [(qr, .inr (4, [.ref r_bytes, .int r_length, .int r_place, .int r_token, .int r_tokenPlace, .int r_tokenValue, .int r_yearsTold, .int r_beginTold, .int r_quorumTold, .ref qr_numbers])), rI cI qr_numbers 5 r_numbers, (qt, .inr (5, [.int t_years, .int t_states, .int t_begin, .int t_trials, .int o.1, .int t_quorum, .ref qt_lean, .ref qt_dead, .ref qt_becomes, .ref qt_trialYear, .ref qt_juryFrom, .ref qt_juryTo, .ref qt_deedFrom, .ref qt_deedTo])), rI cI qt_lean 6 t_lean, rI cI qt_dead 6 t_dead, rI cI qt_becomes 18 t_becomes, rI cI qt_trialYear 3 t_trialYear, rI cI qt_juryFrom 3 t_juryFrom, rI cI qt_juryTo 3 t_juryTo, rI cI qt_deedFrom 4 o.2.1, rI cI qt_deedTo 4 o.2.2] none 0 0 := by
  refine mkV (by decide) (Nat.le_of_ble_eq_true rfl) ?_
  intro p e s m args below meth c A Q X hnm hret ls hl H locs hP hD hS
  replace X : Cx p s m args c D (Tys cI cZ cD cH) A cX4_takeDeed RX4 3 := X
  obtain ⟨hx, hb, hml, hown, hts, hK, hZ, hA⟩ := id X
  have hl : lv_has ls 3 [(0, .ref qr), (1, .ref qt)] := hl
  unfold fX4_takeDeed at hf
  refine lv_aload_n hx hb dX4_takeDeed_0 rfl (lv_at hl 1 rfl) ?_
  refine k_get X hP 2 rfl rfl inX5 4 (by decide) fl_RX4_84 rfl rfl dX4_takeDeed_1 ?_
  refine lv_istore_n (lv' := [(2, .int t_deeds), (0, .ref qr), (1, .ref qt)]) hx hb dX4_takeDeed_4 rfl hl (by decide) rfl (fun ls hl => ?_)
  refine lv_aload_n hx hb dX4_takeDeed_5 rfl (lv_at hl 2 rfl) ?_
  refine k_get X hP 2 rfl rfl inX5 12 (by decide) fl_RX4_128 rfl rfl dX4_takeDeed_6 ?_
  refine lv_iload_n hx hb dX4_takeDeed_9 rfl (lv_at hl 0 rfl) ?_
  refine lv_aload_n hx hb dX4_takeDeed_10 rfl (lv_at hl 1 rfl) ?_
  refine k_get X hP 0 rfl rfl inX4 9 (by decide) fl_RX4_41 rfl rfl dX4_takeDeed_11 ?_
  refine lv_iconst (v := 0) hx hb dX4_takeDeed_14 (by decide) ?_
  obtain ⟨h1, hf⟩ := ck_t hf
  refine k_iald X hP 1 0 rfl rfl h1 dX4_takeDeed_15 ?_
  obtain ⟨h2, hf⟩ := ck_t hf
  refine k_iast X hP hD hS [(qr, .inr (4, [.ref r_bytes, .int r_length, .int r_place, .int r_token, .int r_tokenPlace, .int r_tokenValue, .int r_yearsTold, .int r_beginTold, .int r_quorumTold, .ref qr_numbers])), rI cI qr_numbers 5 r_numbers, (qt, .inr (5, [.int t_years, .int t_states, .int t_begin, .int t_trials, .int t_deeds, .int t_quorum, .ref qt_lean, .ref qt_dead, .ref qt_becomes, .ref qt_trialYear, .ref qt_juryFrom, .ref qt_juryTo, .ref qt_deedFrom, .ref qt_deedTo])), rI cI qt_lean 6 t_lean, rI cI qt_dead 6 t_dead, rI cI qt_becomes 18 t_becomes, rI cI qt_trialYear 3 t_trialYear, rI cI qt_juryFrom 3 t_juryFrom, rI cI qt_juryTo 3 t_juryTo, rI cI qt_deedFrom 4 (upd t_deedFrom t_deeds.toNatClampNeg (r_numbers (0 : Int32).toNatClampNeg)), rI cI qt_deedTo 4 t_deedTo] 9 0 rfl rfl h2 rfl dX4_takeDeed_16 (fun H locs hP hD hS => ?_)
  refine lv_aload_n hx hb dX4_takeDeed_17 rfl (lv_at hl 2 rfl) ?_
  refine k_get X hP 2 rfl rfl inX5 13 (by decide) fl_RX4_131 rfl rfl dX4_takeDeed_18 ?_
  refine lv_iload_n hx hb dX4_takeDeed_21 rfl (lv_at hl 0 rfl) ?_
  refine lv_aload_n hx hb dX4_takeDeed_22 rfl (lv_at hl 1 rfl) ?_
  refine k_get X hP 0 rfl rfl inX4 9 (by decide) fl_RX4_41 rfl rfl dX4_takeDeed_23 ?_
  refine lv_iconst (v := 1) hx hb dX4_takeDeed_26 (by decide) ?_
  obtain ⟨h3, hf⟩ := ck_t hf
  refine k_iald X hP 1 0 rfl rfl h3 dX4_takeDeed_27 ?_
  obtain ⟨h4, hf⟩ := ck_t hf
  refine k_iast X hP hD hS [(qr, .inr (4, [.ref r_bytes, .int r_length, .int r_place, .int r_token, .int r_tokenPlace, .int r_tokenValue, .int r_yearsTold, .int r_beginTold, .int r_quorumTold, .ref qr_numbers])), rI cI qr_numbers 5 r_numbers, (qt, .inr (5, [.int t_years, .int t_states, .int t_begin, .int t_trials, .int t_deeds, .int t_quorum, .ref qt_lean, .ref qt_dead, .ref qt_becomes, .ref qt_trialYear, .ref qt_juryFrom, .ref qt_juryTo, .ref qt_deedFrom, .ref qt_deedTo])), rI cI qt_lean 6 t_lean, rI cI qt_dead 6 t_dead, rI cI qt_becomes 18 t_becomes, rI cI qt_trialYear 3 t_trialYear, rI cI qt_juryFrom 3 t_juryFrom, rI cI qt_juryTo 3 t_juryTo, rI cI qt_deedFrom 4 (upd t_deedFrom t_deeds.toNatClampNeg (r_numbers (0 : Int32).toNatClampNeg)), rI cI qt_deedTo 4 (upd t_deedTo t_deeds.toNatClampNeg (r_numbers (1 : Int32).toNatClampNeg))] 10 0 rfl rfl h4 rfl dX4_takeDeed_28 (fun H locs hP hD hS => ?_)
  refine lv_aload_n hx hb dX4_takeDeed_29 rfl (lv_at hl 2 rfl) ?_
  refine lv_dup hx hb dX4_takeDeed_30 rfl ?_
  refine k_get X hP 2 rfl rfl inX5 4 (by decide) fl_RX4_84 rfl rfl dX4_takeDeed_31 ?_
  refine lv_iconst (v := 1) hx hb dX4_takeDeed_34 (by decide) ?_
  refine lv_iadd hx hb dX4_takeDeed_35 ?_
  refine k_put X hP hD hS [(qr, .inr (4, [.ref r_bytes, .int r_length, .int r_place, .int r_token, .int r_tokenPlace, .int r_tokenValue, .int r_yearsTold, .int r_beginTold, .int r_quorumTold, .ref qr_numbers])), rI cI qr_numbers 5 r_numbers, (qt, .inr (5, [.int t_years, .int t_states, .int t_begin, .int t_trials, .int (t_deeds + 1), .int t_quorum, .ref qt_lean, .ref qt_dead, .ref qt_becomes, .ref qt_trialYear, .ref qt_juryFrom, .ref qt_juryTo, .ref qt_deedFrom, .ref qt_deedTo])), rI cI qt_lean 6 t_lean, rI cI qt_dead 6 t_dead, rI cI qt_becomes 18 t_becomes, rI cI qt_trialYear 3 t_trialYear, rI cI qt_juryFrom 3 t_juryFrom, rI cI qt_juryTo 3 t_juryTo, rI cI qt_deedFrom 4 (upd t_deedFrom t_deeds.toNatClampNeg (r_numbers (0 : Int32).toNatClampNeg)), rI cI qt_deedTo 4 (upd t_deedTo t_deeds.toNatClampNeg (r_numbers (1 : Int32).toNatClampNeg))] 2 rfl rfl inX5 tyX5_ok nmX5 4 (by decide) fl_RX4_84 rfl rfl rfl rfl (Nat.le_of_ble_eq_true rfl) rfl dX4_takeDeed_36 (fun H locs hP hD hS => ?_)
  replace hf := Option.some.inj hf
  subst hf
  exact hret H locs _ ls dX4_takeDeed_39 hP hD hS

def fX4_take (a1 : Int32) (r_yearsTold : Int32) (r_beginTold : Int32) (r_quorumTold : Int32) (r_numbers : Nat → Int32) (t_years : Int32) (t_states : Int32) (t_begin : Int32) (t_trials : Int32) (t_deeds : Int32) (t_quorum : Int32) (t_lean : Nat → Int32) (t_dead : Nat → Int32) (t_becomes : Nat → Int32) (t_trialYear : Nat → Int32) (t_juryFrom : Nat → Int32) (t_juryTo : Nat → Int32) (t_deedFrom : Nat → Int32) (t_deedTo : Nat → Int32) : Option (Int32 × Int32 × Int32 × Int32 × Int32 × Int32 × Int32 × Int32 × Int32 × (Nat → Int32) × (Nat → Int32) × (Nat → Int32) × (Nat → Int32) × (Nat → Int32) × (Nat → Int32) × (Nat → Int32) × (Nat → Int32)) :=
  if a1 = 98 then if inb 0 5 = true then some (r_yearsTold, 1, r_quorumTold, t_years, t_states, r_numbers (0 : Int32).toNatClampNeg, t_trials, t_deeds, t_quorum, t_lean, t_dead, t_becomes, t_trialYear, t_juryFrom, t_juryTo, t_deedFrom, t_deedTo) else none else (if a1 = 113 then if inb 0 5 = true then some (r_yearsTold, r_beginTold, 1, t_years, t_states, t_begin, t_trials, t_deeds, r_numbers (0 : Int32).toNatClampNeg, t_lean, t_dead, t_becomes, t_trialYear, t_juryFrom, t_juryTo, t_deedFrom, t_deedTo) else none else (if a1 = 115 then (fX4_takeState r_numbers t_states t_lean t_dead t_becomes).bind (fun r6 => some (r_yearsTold, r_beginTold, r_quorumTold, t_years, r6.1, t_begin, t_trials, t_deeds, t_quorum, r6.2.1, r6.2.2.1, r6.2.2.2, t_trialYear, t_juryFrom, t_juryTo, t_deedFrom, t_deedTo)) else (if a1 = 116 then (fX4_takeTrial r_numbers t_trials t_trialYear t_juryFrom t_juryTo).bind (fun r8 => some (r_yearsTold, r_beginTold, r_quorumTold, t_years, t_states, t_begin, r8.1, t_deeds, t_quorum, t_lean, t_dead, t_becomes, r8.2.1, r8.2.2.1, r8.2.2.2, t_deedFrom, t_deedTo)) else (if a1 = 121 then if inb 0 5 = true then some (1, r_beginTold, r_quorumTold, r_numbers (0 : Int32).toNatClampNeg, t_states, t_begin, t_trials, t_deeds, t_quorum, t_lean, t_dead, t_becomes, t_trialYear, t_juryFrom, t_juryTo, t_deedFrom, t_deedTo) else none else ((fX4_takeDeed r_numbers t_deeds t_deedFrom t_deedTo).bind (fun r11 => some (r_yearsTold, r_beginTold, r_quorumTold, t_years, t_states, t_begin, t_trials, r11.1, t_quorum, t_lean, t_dead, t_becomes, t_trialYear, t_juryFrom, t_juryTo, r11.2.1, r11.2.2)))))))
set_option maxHeartbeats 4000000 in
set_option maxRecDepth 100000 in
theorem ctX4_take (l : Launch) (D : va_G) (cI cZ cD cH : ClassId) (qr : Nat) (qr_numbers : Nat) (qt : Nat) (qt_lean : Nat) (qt_dead : Nat) (qt_becomes : Nat) (qt_trialYear : Nat) (qt_juryFrom : Nat) (qt_juryTo : Nat) (qt_deedFrom : Nat) (qt_deedTo : Nat) (a1 : Int32) (r_bytes : Nat) (r_length : Int32) (r_place : Int32) (r_token : Int32) (r_tokenPlace : Int32) (r_tokenValue : Int32) (r_yearsTold : Int32) (r_beginTold : Int32) (r_quorumTold : Int32) (r_numbers : Nat → Int32) (t_years : Int32) (t_states : Int32) (t_begin : Int32) (t_trials : Int32) (t_deeds : Int32) (t_quorum : Int32) (t_lean : Nat → Int32) (t_dead : Nat → Int32) (t_becomes : Nat → Int32) (t_trialYear : Nat → Int32) (t_juryFrom : Nat → Int32) (t_juryTo : Nat → Int32) (t_deedFrom : Nat → Int32) (t_deedTo : Nat → Int32) (o : Int32 × Int32 × Int32 × Int32 × Int32 × Int32 × Int32 × Int32 × Int32 × (Nat → Int32) × (Nat → Int32) × (Nat → Int32) × (Nat → Int32) × (Nat → Int32) × (Nat → Int32) × (Nat → Int32) × (Nat → Int32)) (hf : fX4_take a1 r_yearsTold r_beginTold r_quorumTold r_numbers t_years t_states t_begin t_trials t_deeds t_quorum t_lean t_dead t_becomes t_trialYear t_juryFrom t_juryTo t_deedFrom t_deedTo = some o) : Ct l yX4_take cX4_take 3 none { frames := 1, cells := 0, slots := 0, locals := 23 } D (Tys cI cZ cD cH) [.ref qr, .int a1, .ref qt] [(qr, .inr (4, [.ref r_bytes, .int r_length, .int r_place, .int r_token, .int r_tokenPlace, .int r_tokenValue, .int r_yearsTold, .int r_beginTold, .int r_quorumTold, .ref qr_numbers])), rI cI qr_numbers 5 r_numbers, (qt, .inr (5, [.int t_years, .int t_states, .int t_begin, .int t_trials, .int t_deeds, .int t_quorum, .ref qt_lean, .ref qt_dead, .ref qt_becomes, .ref qt_trialYear, .ref qt_juryFrom, .ref qt_juryTo, .ref qt_deedFrom, .ref qt_deedTo])), rI cI qt_lean 6 t_lean, rI cI qt_dead 6 t_dead, rI cI qt_becomes 18 t_becomes, rI cI qt_trialYear 3 t_trialYear, rI cI qt_juryFrom 3 t_juryFrom, rI cI qt_juryTo 3 t_juryTo, rI cI qt_deedFrom 4 t_deedFrom, rI cI qt_deedTo 4 t_deedTo] [(qr, .inr (4, [.ref r_bytes, .int r_length, .int r_place, .int r_token, .int r_tokenPlace, .int r_tokenValue, .int o.1, .int o.2.1, .int o.2.2.1, .ref qr_numbers])), rI cI qr_numbers 5 r_numbers, (qt, .inr (5, [.int o.2.2.2.1, .int o.2.2.2.2.1, .int o.2.2.2.2.2.1, .int o.2.2.2.2.2.2.1, .int o.2.2.2.2.2.2.2.1, .int o.2.2.2.2.2.2.2.2.1, .ref qt_lean, .ref qt_dead, .ref qt_becomes, .ref qt_trialYear, .ref qt_juryFrom, .ref qt_juryTo, .ref qt_deedFrom, .ref qt_deedTo])), rI cI qt_lean 6 o.2.2.2.2.2.2.2.2.2.1, rI cI qt_dead 6 o.2.2.2.2.2.2.2.2.2.2.1, rI cI qt_becomes 18 o.2.2.2.2.2.2.2.2.2.2.2.1, rI cI qt_trialYear 3 o.2.2.2.2.2.2.2.2.2.2.2.2.1, rI cI qt_juryFrom 3 o.2.2.2.2.2.2.2.2.2.2.2.2.2.1, rI cI qt_juryTo 3 o.2.2.2.2.2.2.2.2.2.2.2.2.2.2.1, rI cI qt_deedFrom 4 o.2.2.2.2.2.2.2.2.2.2.2.2.2.2.2.1, rI cI qt_deedTo 4 o.2.2.2.2.2.2.2.2.2.2.2.2.2.2.2.2] none 0 0 := by
  refine mkV (by decide) (Nat.le_of_ble_eq_true rfl) ?_
  intro p e s m args below meth c A Q X hnm hret ls hl H locs hP hD hS
  replace X : Cx p s m args c D (Tys cI cZ cD cH) A cX4_take RX4 3 := X
  obtain ⟨hx, hb, hml, hown, hts, hK, hZ, hA⟩ := id X
  have hl : lv_has ls 3 [(0, .ref qr), (1, .int a1), (2, .ref qt)] := hl
  unfold fX4_take at hf
  refine lv_iload_n hx hb dX4_take_0 rfl (lv_at hl 1 rfl) ?_
  by_cases c1 : a1 = 98
  · replace hf := ite_t c1 hf
    refine top_eq c1 ?_
    refine lv_lookup (tgt := 70) hx hb dX4_take_1 (by decide) rfl (by decide) ?_
    refine lv_aload_n hx hb dX4_take_70 rfl (lv_at hl 2 rfl) ?_
    refine lv_aload_n hx hb dX4_take_71 rfl (lv_at hl 0 rfl) ?_
    refine k_get X hP 0 rfl rfl inX4 9 (by decide) fl_RX4_41 rfl rfl dX4_take_72 ?_
    refine lv_iconst (v := 0) hx hb dX4_take_75 (by decide) ?_
    obtain ⟨h2, hf⟩ := ck_t hf
    refine k_iald X hP 1 0 rfl rfl h2 dX4_take_76 ?_
    refine k_put X hP hD hS [(qr, .inr (4, [.ref r_bytes, .int r_length, .int r_place, .int r_token, .int r_tokenPlace, .int r_tokenValue, .int r_yearsTold, .int r_beginTold, .int r_quorumTold, .ref qr_numbers])), rI cI qr_numbers 5 r_numbers, (qt, .inr (5, [.int t_years, .int t_states, .int (r_numbers (0 : Int32).toNatClampNeg), .int t_trials, .int t_deeds, .int t_quorum, .ref qt_lean, .ref qt_dead, .ref qt_becomes, .ref qt_trialYear, .ref qt_juryFrom, .ref qt_juryTo, .ref qt_deedFrom, .ref qt_deedTo])), rI cI qt_lean 6 t_lean, rI cI qt_dead 6 t_dead, rI cI qt_becomes 18 t_becomes, rI cI qt_trialYear 3 t_trialYear, rI cI qt_juryFrom 3 t_juryFrom, rI cI qt_juryTo 3 t_juryTo, rI cI qt_deedFrom 4 t_deedFrom, rI cI qt_deedTo 4 t_deedTo] 2 rfl rfl inX5 tyX5_ok nmX5 2 (by decide) fl_RX4_97 rfl rfl rfl rfl (Nat.le_of_ble_eq_true rfl) rfl dX4_take_77 (fun H locs hP hD hS => ?_)
    refine lv_aload_n hx hb dX4_take_80 rfl (lv_at hl 0 rfl) ?_
    refine lv_iconst (v := 1) hx hb dX4_take_81 (by decide) ?_
    refine k_put X hP hD hS [(qr, .inr (4, [.ref r_bytes, .int r_length, .int r_place, .int r_token, .int r_tokenPlace, .int r_tokenValue, .int r_yearsTold, .int 1, .int r_quorumTold, .ref qr_numbers])), rI cI qr_numbers 5 r_numbers, (qt, .inr (5, [.int t_years, .int t_states, .int (r_numbers (0 : Int32).toNatClampNeg), .int t_trials, .int t_deeds, .int t_quorum, .ref qt_lean, .ref qt_dead, .ref qt_becomes, .ref qt_trialYear, .ref qt_juryFrom, .ref qt_juryTo, .ref qt_deedFrom, .ref qt_deedTo])), rI cI qt_lean 6 t_lean, rI cI qt_dead 6 t_dead, rI cI qt_becomes 18 t_becomes, rI cI qt_trialYear 3 t_trialYear, rI cI qt_juryFrom 3 t_juryFrom, rI cI qt_juryTo 3 t_juryTo, rI cI qt_deedFrom 4 t_deedFrom, rI cI qt_deedTo 4 t_deedTo] 0 rfl rfl inX4 tyX4_ok nmX4 7 (by decide) fl_RX4_35 rfl rfl (by first | rfl | decide) (by first | rfl | decide) (Nat.le_of_ble_eq_true rfl) rfl dX4_take_82 (fun H locs hP hD hS => ?_)
    refine lv_goto (tgt := 127) hx hb dX4_take_85 (by decide) ?_
    replace hf := Option.some.inj hf
    subst hf
    exact hret H locs _ ls dX4_take_127 hP hD hS
  · replace hf := ite_f c1 hf
    by_cases c3 : a1 = 113
    · replace hf := ite_t c3 hf
      refine top_eq c3 ?_
      refine lv_lookup (tgt := 88) hx hb dX4_take_1 (by decide) rfl (by decide) ?_
      refine lv_aload_n hx hb dX4_take_88 rfl (lv_at hl 2 rfl) ?_
      refine lv_aload_n hx hb dX4_take_89 rfl (lv_at hl 0 rfl) ?_
      refine k_get X hP 0 rfl rfl inX4 9 (by decide) fl_RX4_41 rfl rfl dX4_take_90 ?_
      refine lv_iconst (v := 0) hx hb dX4_take_93 (by decide) ?_
      obtain ⟨h4, hf⟩ := ck_t hf
      refine k_iald X hP 1 0 rfl rfl h4 dX4_take_94 ?_
      refine k_put X hP hD hS [(qr, .inr (4, [.ref r_bytes, .int r_length, .int r_place, .int r_token, .int r_tokenPlace, .int r_tokenValue, .int r_yearsTold, .int r_beginTold, .int r_quorumTold, .ref qr_numbers])), rI cI qr_numbers 5 r_numbers, (qt, .inr (5, [.int t_years, .int t_states, .int t_begin, .int t_trials, .int t_deeds, .int (r_numbers (0 : Int32).toNatClampNeg), .ref qt_lean, .ref qt_dead, .ref qt_becomes, .ref qt_trialYear, .ref qt_juryFrom, .ref qt_juryTo, .ref qt_deedFrom, .ref qt_deedTo])), rI cI qt_lean 6 t_lean, rI cI qt_dead 6 t_dead, rI cI qt_becomes 18 t_becomes, rI cI qt_trialYear 3 t_trialYear, rI cI qt_juryFrom 3 t_juryFrom, rI cI qt_juryTo 3 t_juryTo, rI cI qt_deedFrom 4 t_deedFrom, rI cI qt_deedTo 4 t_deedTo] 2 rfl rfl inX5 tyX5_ok nmX5 5 (by decide) fl_RX4_100 rfl rfl rfl rfl (Nat.le_of_ble_eq_true rfl) rfl dX4_take_95 (fun H locs hP hD hS => ?_)
      refine lv_aload_n hx hb dX4_take_98 rfl (lv_at hl 0 rfl) ?_
      refine lv_iconst (v := 1) hx hb dX4_take_99 (by decide) ?_
      refine k_put X hP hD hS [(qr, .inr (4, [.ref r_bytes, .int r_length, .int r_place, .int r_token, .int r_tokenPlace, .int r_tokenValue, .int r_yearsTold, .int r_beginTold, .int 1, .ref qr_numbers])), rI cI qr_numbers 5 r_numbers, (qt, .inr (5, [.int t_years, .int t_states, .int t_begin, .int t_trials, .int t_deeds, .int (r_numbers (0 : Int32).toNatClampNeg), .ref qt_lean, .ref qt_dead, .ref qt_becomes, .ref qt_trialYear, .ref qt_juryFrom, .ref qt_juryTo, .ref qt_deedFrom, .ref qt_deedTo])), rI cI qt_lean 6 t_lean, rI cI qt_dead 6 t_dead, rI cI qt_becomes 18 t_becomes, rI cI qt_trialYear 3 t_trialYear, rI cI qt_juryFrom 3 t_juryFrom, rI cI qt_juryTo 3 t_juryTo, rI cI qt_deedFrom 4 t_deedFrom, rI cI qt_deedTo 4 t_deedTo] 0 rfl rfl inX4 tyX4_ok nmX4 8 (by decide) fl_RX4_38 rfl rfl (by first | rfl | decide) (by first | rfl | decide) (Nat.le_of_ble_eq_true rfl) rfl dX4_take_100 (fun H locs hP hD hS => ?_)
      refine lv_goto (tgt := 127) hx hb dX4_take_103 (by decide) ?_
      replace hf := Option.some.inj hf
      subst hf
      exact hret H locs _ ls dX4_take_127 hP hD hS
    · replace hf := ite_f c3 hf
      by_cases c5 : a1 = 115
      · replace hf := ite_t c5 hf
        refine top_eq c5 ?_
        refine lv_lookup (tgt := 106) hx hb dX4_take_1 (by decide) rfl (by decide) ?_
        refine lv_aload_n hx hb dX4_take_106 rfl (lv_at hl 0 rfl) ?_
        refine lv_aload_n hx hb dX4_take_107 rfl (lv_at hl 2 rfl) ?_
        obtain ⟨r6, hr6, hf⟩ := bnd hf
        refine k_callV X hP hD hS [(qr, .inr (4, [.ref r_bytes, .int r_length, .int r_place, .int r_token, .int r_tokenPlace, .int r_tokenValue, .int r_yearsTold, .int r_beginTold, .int r_quorumTold, .ref qr_numbers])), rI cI qr_numbers 5 r_numbers, (qt, .inr (5, [.int t_years, .int r6.1, .int t_begin, .int t_trials, .int t_deeds, .int t_quorum, .ref qt_lean, .ref qt_dead, .ref qt_becomes, .ref qt_trialYear, .ref qt_juryFrom, .ref qt_juryTo, .ref qt_deedFrom, .ref qt_deedTo])), rI cI qt_lean 6 r6.2.1, rI cI qt_dead 6 r6.2.2.1, rI cI qt_becomes 18 r6.2.2.2, rI cI qt_trialYear 3 t_trialYear, rI cI qt_juryFrom 3 t_juryFrom, rI cI qt_juryTo 3 t_juryTo, rI cI qt_deedFrom 4 t_deedFrom, rI cI qt_deedTo 4 t_deedTo] (ctX4_takeState l D cI cZ cD cH qr qr_numbers qt qt_lean qt_dead qt_becomes qt_trialYear qt_juryFrom qt_juryTo qt_deedFrom qt_deedTo r_bytes r_length r_place r_token r_tokenPlace r_tokenValue r_yearsTold r_beginTold r_quorumTold r_numbers t_years t_states t_begin t_trials t_deeds t_quorum t_lean t_dead t_becomes t_trialYear t_juryFrom t_juryTo t_deedFrom t_deedTo r6 hr6) ml_RX4_103 im_yX4_takeState se_yX4_takeState in_RX4 cd_yX4_takeState rfl rfl hd_yX4_takeState ⟨by decide, by decide⟩ ⟨Nat.zero_le _, Nat.zero_le _⟩ [0, 1, 2, 3, 4, 5, 6, 7, 8, 9, 10] [some 0, some 1, some 2, some 3, some 4, some 5, some 6, some 7, some 8, some 9, some 10] rfl (by decide +kernel) rfl (by decide +kernel) rfl rfl (q0 := 0) rfl rfl rfl hl.1 rfl rfl (Nat.le_of_ble_eq_true rfl) rfl dX4_take_108 (fun H locs hP hD hS => ?_)
        refine lv_goto (tgt := 127) hx hb dX4_take_111 (by decide) ?_
        replace hf := Option.some.inj hf
        subst hf
        exact hret H locs _ ls dX4_take_127 hP hD hS
      · replace hf := ite_f c5 hf
        by_cases c7 : a1 = 116
        · replace hf := ite_t c7 hf
          refine top_eq c7 ?_
          refine lv_lookup (tgt := 114) hx hb dX4_take_1 (by decide) rfl (by decide) ?_
          refine lv_aload_n hx hb dX4_take_114 rfl (lv_at hl 0 rfl) ?_
          refine lv_aload_n hx hb dX4_take_115 rfl (lv_at hl 2 rfl) ?_
          obtain ⟨r8, hr8, hf⟩ := bnd hf
          refine k_callV X hP hD hS [(qr, .inr (4, [.ref r_bytes, .int r_length, .int r_place, .int r_token, .int r_tokenPlace, .int r_tokenValue, .int r_yearsTold, .int r_beginTold, .int r_quorumTold, .ref qr_numbers])), rI cI qr_numbers 5 r_numbers, (qt, .inr (5, [.int t_years, .int t_states, .int t_begin, .int r8.1, .int t_deeds, .int t_quorum, .ref qt_lean, .ref qt_dead, .ref qt_becomes, .ref qt_trialYear, .ref qt_juryFrom, .ref qt_juryTo, .ref qt_deedFrom, .ref qt_deedTo])), rI cI qt_lean 6 t_lean, rI cI qt_dead 6 t_dead, rI cI qt_becomes 18 t_becomes, rI cI qt_trialYear 3 r8.2.1, rI cI qt_juryFrom 3 r8.2.2.1, rI cI qt_juryTo 3 r8.2.2.2, rI cI qt_deedFrom 4 t_deedFrom, rI cI qt_deedTo 4 t_deedTo] (ctX4_takeTrial l D cI cZ cD cH qr qr_numbers qt qt_lean qt_dead qt_becomes qt_trialYear qt_juryFrom qt_juryTo qt_deedFrom qt_deedTo r_bytes r_length r_place r_token r_tokenPlace r_tokenValue r_yearsTold r_beginTold r_quorumTold r_numbers t_years t_states t_begin t_trials t_deeds t_quorum t_lean t_dead t_becomes t_trialYear t_juryFrom t_juryTo t_deedFrom t_deedTo r8 hr8) ml_RX4_107 im_yX4_takeTrial se_yX4_takeTrial in_RX4 cd_yX4_takeTrial rfl rfl hd_yX4_takeTrial ⟨by decide, by decide⟩ ⟨Nat.zero_le _, Nat.zero_le _⟩ [0, 1, 2, 3, 4, 5, 6, 7, 8, 9, 10] [some 0, some 1, some 2, some 3, some 4, some 5, some 6, some 7, some 8, some 9, some 10] rfl (by decide +kernel) rfl (by decide +kernel) rfl rfl (q0 := 0) rfl rfl rfl hl.1 rfl rfl (Nat.le_of_ble_eq_true rfl) rfl dX4_take_116 (fun H locs hP hD hS => ?_)
          refine lv_goto (tgt := 127) hx hb dX4_take_119 (by decide) ?_
          replace hf := Option.some.inj hf
          subst hf
          exact hret H locs _ ls dX4_take_127 hP hD hS
        · replace hf := ite_f c7 hf
          by_cases c9 : a1 = 121
          · replace hf := ite_t c9 hf
            refine top_eq c9 ?_
            refine lv_lookup (tgt := 52) hx hb dX4_take_1 (by decide) rfl (by decide) ?_
            refine lv_aload_n hx hb dX4_take_52 rfl (lv_at hl 2 rfl) ?_
            refine lv_aload_n hx hb dX4_take_53 rfl (lv_at hl 0 rfl) ?_
            refine k_get X hP 0 rfl rfl inX4 9 (by decide) fl_RX4_41 rfl rfl dX4_take_54 ?_
            refine lv_iconst (v := 0) hx hb dX4_take_57 (by decide) ?_
            obtain ⟨h10, hf⟩ := ck_t hf
            refine k_iald X hP 1 0 rfl rfl h10 dX4_take_58 ?_
            refine k_put X hP hD hS [(qr, .inr (4, [.ref r_bytes, .int r_length, .int r_place, .int r_token, .int r_tokenPlace, .int r_tokenValue, .int r_yearsTold, .int r_beginTold, .int r_quorumTold, .ref qr_numbers])), rI cI qr_numbers 5 r_numbers, (qt, .inr (5, [.int (r_numbers (0 : Int32).toNatClampNeg), .int t_states, .int t_begin, .int t_trials, .int t_deeds, .int t_quorum, .ref qt_lean, .ref qt_dead, .ref qt_becomes, .ref qt_trialYear, .ref qt_juryFrom, .ref qt_juryTo, .ref qt_deedFrom, .ref qt_deedTo])), rI cI qt_lean 6 t_lean, rI cI qt_dead 6 t_dead, rI cI qt_becomes 18 t_becomes, rI cI qt_trialYear 3 t_trialYear, rI cI qt_juryFrom 3 t_juryFrom, rI cI qt_juryTo 3 t_juryTo, rI cI qt_deedFrom 4 t_deedFrom, rI cI qt_deedTo 4 t_deedTo] 2 rfl rfl inX5 tyX5_ok nmX5 0 (by decide) fl_RX4_94 rfl rfl rfl rfl (Nat.le_of_ble_eq_true rfl) rfl dX4_take_59 (fun H locs hP hD hS => ?_)
            refine lv_aload_n hx hb dX4_take_62 rfl (lv_at hl 0 rfl) ?_
            refine lv_iconst (v := 1) hx hb dX4_take_63 (by decide) ?_
            refine k_put X hP hD hS [(qr, .inr (4, [.ref r_bytes, .int r_length, .int r_place, .int r_token, .int r_tokenPlace, .int r_tokenValue, .int 1, .int r_beginTold, .int r_quorumTold, .ref qr_numbers])), rI cI qr_numbers 5 r_numbers, (qt, .inr (5, [.int (r_numbers (0 : Int32).toNatClampNeg), .int t_states, .int t_begin, .int t_trials, .int t_deeds, .int t_quorum, .ref qt_lean, .ref qt_dead, .ref qt_becomes, .ref qt_trialYear, .ref qt_juryFrom, .ref qt_juryTo, .ref qt_deedFrom, .ref qt_deedTo])), rI cI qt_lean 6 t_lean, rI cI qt_dead 6 t_dead, rI cI qt_becomes 18 t_becomes, rI cI qt_trialYear 3 t_trialYear, rI cI qt_juryFrom 3 t_juryFrom, rI cI qt_juryTo 3 t_juryTo, rI cI qt_deedFrom 4 t_deedFrom, rI cI qt_deedTo 4 t_deedTo] 0 rfl rfl inX4 tyX4_ok nmX4 6 (by decide) fl_RX4_31 rfl rfl (by first | rfl | decide) (by first | rfl | decide) (Nat.le_of_ble_eq_true rfl) rfl dX4_take_64 (fun H locs hP hD hS => ?_)
            refine lv_goto (tgt := 127) hx hb dX4_take_67 (by decide) ?_
            replace hf := Option.some.inj hf
            subst hf
            exact hret H locs _ ls dX4_take_127 hP hD hS
          · replace hf := ite_f c9 hf
            have zc1 := i32_ne (k := 98) rfl c1
            have zc3 := i32_ne (k := 113) rfl c3
            have zc5 := i32_ne (k := 115) rfl c5
            have zc7 := i32_ne (k := 116) rfl c7
            have zc9 := i32_ne (k := 121) rfl c9
            refine lv_lookup (tgt := 122) (off := 121) hx hb dX4_take_1 (by decide) (by simp [Op.lookupswitch.offset, List.find?, zc1, (Ne.symm zc1), zc3, (Ne.symm zc3), zc5, (Ne.symm zc5), zc7, (Ne.symm zc7), zc9, (Ne.symm zc9)]) (by decide) ?_
            refine lv_aload_n hx hb dX4_take_122 rfl (lv_at hl 0 rfl) ?_
            refine lv_aload_n hx hb dX4_take_123 rfl (lv_at hl 2 rfl) ?_
            obtain ⟨r11, hr11, hf⟩ := bnd hf
            refine k_callV X hP hD hS [(qr, .inr (4, [.ref r_bytes, .int r_length, .int r_place, .int r_token, .int r_tokenPlace, .int r_tokenValue, .int r_yearsTold, .int r_beginTold, .int r_quorumTold, .ref qr_numbers])), rI cI qr_numbers 5 r_numbers, (qt, .inr (5, [.int t_years, .int t_states, .int t_begin, .int t_trials, .int r11.1, .int t_quorum, .ref qt_lean, .ref qt_dead, .ref qt_becomes, .ref qt_trialYear, .ref qt_juryFrom, .ref qt_juryTo, .ref qt_deedFrom, .ref qt_deedTo])), rI cI qt_lean 6 t_lean, rI cI qt_dead 6 t_dead, rI cI qt_becomes 18 t_becomes, rI cI qt_trialYear 3 t_trialYear, rI cI qt_juryFrom 3 t_juryFrom, rI cI qt_juryTo 3 t_juryTo, rI cI qt_deedFrom 4 r11.2.1, rI cI qt_deedTo 4 r11.2.2] (ctX4_takeDeed l D cI cZ cD cH qr qr_numbers qt qt_lean qt_dead qt_becomes qt_trialYear qt_juryFrom qt_juryTo qt_deedFrom qt_deedTo r_bytes r_length r_place r_token r_tokenPlace r_tokenValue r_yearsTold r_beginTold r_quorumTold r_numbers t_years t_states t_begin t_trials t_deeds t_quorum t_lean t_dead t_becomes t_trialYear t_juryFrom t_juryTo t_deedFrom t_deedTo r11 hr11) ml_RX4_110 im_yX4_takeDeed se_yX4_takeDeed in_RX4 cd_yX4_takeDeed rfl rfl hd_yX4_takeDeed ⟨by decide, by decide⟩ ⟨Nat.zero_le _, Nat.zero_le _⟩ [0, 1, 2, 3, 4, 5, 6, 7, 8, 9, 10] [some 0, some 1, some 2, some 3, some 4, some 5, some 6, some 7, some 8, some 9, some 10] rfl (by decide +kernel) rfl (by decide +kernel) rfl rfl (q0 := 0) rfl rfl rfl hl.1 rfl rfl (Nat.le_of_ble_eq_true rfl) rfl dX4_take_124 (fun H locs hP hD hS => ?_)
            replace hf := Option.some.inj hf
            subst hf
            exact hret H locs _ ls dX4_take_127 hP hD hS

def sX4_readItem_36 (v2 : Int32) (v3 : Int32) (r_length : Int32) (b : Nat → Int32) (t_years : Int32) (t_trials : Int32) (t_trialYear : Nat → Int32) (v4 : Int32) (r_place : Int32) (r_token : Int32) (r_tokenPlace : Int32) (r_tokenValue : Int32) (r_numbers : Nat → Int32) : Option ((Int32 × Int32 × Int32 × Int32 × Int32 × (Nat → Int32)) ⊕ ((Int32 × Int32 × Int32 × Int32 × (Nat → Int32)) ⊕ (Int32 × Int32 × Int32 × Int32 × (Nat → Int32)))) :=
  if v3 ≤ v4 then some (.inr (Sum.inr (r_place, r_token, r_tokenPlace, r_tokenValue, r_numbers))) else (fX4_nextToken r_length r_place b).bind (fun r7 => if r7.2.1 = 2 then (fX4_least v2 v4 r_numbers t_trials t_trialYear).bind (fun r9 => if r7.2.2.2 < r9 then some (.inr (Sum.inl (r7.1, r7.2.1, r7.2.2.1, r7.2.2.2, r_numbers))) else (fX4_most v2 v4 t_years).bind (fun r11 => if r7.2.2.2 ≤ r11 then if inb v4 5 = true then some (.inl (v4 + 1, r7.1, r7.2.1, r7.2.2.1, r7.2.2.2, upd r_numbers v4.toNatClampNeg r7.2.2.2)) else none else some (.inr (Sum.inl (r7.1, r7.2.1, r7.2.2.1, r7.2.2.2, r_numbers))))) else some (.inr (Sum.inl (r7.1, r7.2.1, r7.2.2.1, r7.2.2.2, r_numbers))))
def fX4_readItem (r_length : Int32) (r_place : Int32) (r_token : Int32) (r_tokenPlace : Int32) (r_tokenValue : Int32) (r_yearsTold : Int32) (r_beginTold : Int32) (r_quorumTold : Int32) (r_numbers : Nat → Int32) (b : Nat → Int32) (t_years : Int32) (t_states : Int32) (t_begin : Int32) (t_trials : Int32) (t_deeds : Int32) (t_quorum : Int32) (t_lean : Nat → Int32) (t_dead : Nat → Int32) (t_becomes : Nat → Int32) (t_trialYear : Nat → Int32) (t_juryFrom : Nat → Int32) (t_juryTo : Nat → Int32) (t_deedFrom : Nat → Int32) (t_deedTo : Nat → Int32) : Option (Bool × Int32 × Int32 × Int32 × Int32 × Int32 × Int32 × Int32 × (Nat → Int32) × Int32 × Int32 × Int32 × Int32 × Int32 × Int32 × (Nat → Int32) × (Nat → Int32) × (Nat → Int32) × (Nat → Int32) × (Nat → Int32) × (Nat → Int32) × (Nat → Int32) × (Nat → Int32)) :=
  jn (fun (x1 : Int32) => (fX4_mayBegin x1 r_yearsTold r_beginTold r_quorumTold t_states t_trials t_deeds).bind (fun r2 => if (bI r2) = 0 then some (false, r_place, r_token, r_tokenPlace, r_tokenValue, r_yearsTold, r_beginTold, r_quorumTold, r_numbers, t_years, t_states, t_begin, t_trials, t_deeds, t_quorum, t_lean, t_dead, t_becomes, t_trialYear, t_juryFrom, t_juryTo, t_deedFrom, t_deedTo) else (fX4_numbersOf x1).bind (fun r4 => (lpd (fun s5 => sX4_readItem_36 x1 r4 r_length b t_years t_trials t_trialYear s5.1 s5.2.1 s5.2.2.1 s5.2.2.2.1 s5.2.2.2.2.1 s5.2.2.2.2.2) FU (0, r_place, r_token, r_tokenPlace, r_tokenValue, r_numbers)).bind (Sum.elim (fun (y5_0 : Int32 × Int32 × Int32 × Int32 × (Nat → Int32)) => some (false, y5_0.1, y5_0.2.1, y5_0.2.2.1, y5_0.2.2.2.1, r_yearsTold, r_beginTold, r_quorumTold, y5_0.2.2.2.2, t_years, t_states, t_begin, t_trials, t_deeds, t_quorum, t_lean, t_dead, t_becomes, t_trialYear, t_juryFrom, t_juryTo, t_deedFrom, t_deedTo)) (fun (y5_1 : Int32 × Int32 × Int32 × Int32 × (Nat → Int32)) => (fX4_nextToken r_length y5_1.1 b).bind (fun r6 => if r6.2.1 = 3 then (fX4_take x1 r_yearsTold r_beginTold r_quorumTold y5_1.2.2.2.2 t_years t_states t_begin t_trials t_deeds t_quorum t_lean t_dead t_becomes t_trialYear t_juryFrom t_juryTo t_deedFrom t_deedTo).bind (fun r8 => some (true, r6.1, r6.2.1, r6.2.2.1, r6.2.2.2, r8.1, r8.2.1, r8.2.2.1, y5_1.2.2.2.2, r8.2.2.2.1, r8.2.2.2.2.1, r8.2.2.2.2.2.1, r8.2.2.2.2.2.2.1, r8.2.2.2.2.2.2.2.1, r8.2.2.2.2.2.2.2.2.1, r8.2.2.2.2.2.2.2.2.2.1, r8.2.2.2.2.2.2.2.2.2.2.1, r8.2.2.2.2.2.2.2.2.2.2.2.1, r8.2.2.2.2.2.2.2.2.2.2.2.2.1, r8.2.2.2.2.2.2.2.2.2.2.2.2.2.1, r8.2.2.2.2.2.2.2.2.2.2.2.2.2.2.1, r8.2.2.2.2.2.2.2.2.2.2.2.2.2.2.2.1, r8.2.2.2.2.2.2.2.2.2.2.2.2.2.2.2.2)) else some (false, r6.1, r6.2.1, r6.2.2.1, r6.2.2.2, r_yearsTold, r_beginTold, r_quorumTold, y5_1.2.2.2.2, t_years, t_states, t_begin, t_trials, t_deeds, t_quorum, t_lean, t_dead, t_becomes, t_trialYear, t_juryFrom, t_juryTo, t_deedFrom, t_deedTo))))))) (fun K1 => if r_token = 1 then K1 r_tokenValue else K1 0)
set_option maxHeartbeats 4000000 in
set_option maxRecDepth 100000 in
theorem ctX4_readItem (l : Launch) (D : va_G) (cI cZ cD cH : ClassId) (qr : Nat) (qr_numbers : Nat) (qb : Nat) (qt : Nat) (qt_lean : Nat) (qt_dead : Nat) (qt_becomes : Nat) (qt_trialYear : Nat) (qt_juryFrom : Nat) (qt_juryTo : Nat) (qt_deedFrom : Nat) (qt_deedTo : Nat) (r_length : Int32) (r_place : Int32) (r_token : Int32) (r_tokenPlace : Int32) (r_tokenValue : Int32) (r_yearsTold : Int32) (r_beginTold : Int32) (r_quorumTold : Int32) (r_numbers : Nat → Int32) (b : Nat → Int32) (t_years : Int32) (t_states : Int32) (t_begin : Int32) (t_trials : Int32) (t_deeds : Int32) (t_quorum : Int32) (t_lean : Nat → Int32) (t_dead : Nat → Int32) (t_becomes : Nat → Int32) (t_trialYear : Nat → Int32) (t_juryFrom : Nat → Int32) (t_juryTo : Nat → Int32) (t_deedFrom : Nat → Int32) (t_deedTo : Nat → Int32) (o : Bool × Int32 × Int32 × Int32 × Int32 × Int32 × Int32 × Int32 × (Nat → Int32) × Int32 × Int32 × Int32 × Int32 × Int32 × Int32 × (Nat → Int32) × (Nat → Int32) × (Nat → Int32) × (Nat → Int32) × (Nat → Int32) × (Nat → Int32) × (Nat → Int32) × (Nat → Int32)) (hf : fX4_readItem r_length r_place r_token r_tokenPlace r_tokenValue r_yearsTold r_beginTold r_quorumTold r_numbers b t_years t_states t_begin t_trials t_deeds t_quorum t_lean t_dead t_becomes t_trialYear t_juryFrom t_juryTo t_deedFrom t_deedTo = some o) : Ct l yX4_readItem cX4_readItem 5 (some .boolean) { frames := 3, cells := 0, slots := 0, locals := 61 } D (Tys cI cZ cD cH) [.ref qr, .ref qt] [(qr, .inr (4, [.ref qb, .int r_length, .int r_place, .int r_token, .int r_tokenPlace, .int r_tokenValue, .int r_yearsTold, .int r_beginTold, .int r_quorumTold, .ref qr_numbers])), rI cI qr_numbers 5 r_numbers, rI cI qb 200 b, (qt, .inr (5, [.int t_years, .int t_states, .int t_begin, .int t_trials, .int t_deeds, .int t_quorum, .ref qt_lean, .ref qt_dead, .ref qt_becomes, .ref qt_trialYear, .ref qt_juryFrom, .ref qt_juryTo, .ref qt_deedFrom, .ref qt_deedTo])), rI cI qt_lean 6 t_lean, rI cI qt_dead 6 t_dead, rI cI qt_becomes 18 t_becomes, rI cI qt_trialYear 3 t_trialYear, rI cI qt_juryFrom 3 t_juryFrom, rI cI qt_juryTo 3 t_juryTo, rI cI qt_deedFrom 4 t_deedFrom, rI cI qt_deedTo 4 t_deedTo] [(qr, .inr (4, [.ref qb, .int r_length, .int o.2.1, .int o.2.2.1, .int o.2.2.2.1, .int o.2.2.2.2.1, .int o.2.2.2.2.2.1, .int o.2.2.2.2.2.2.1, .int o.2.2.2.2.2.2.2.1, .ref qr_numbers])), rI cI qr_numbers 5 o.2.2.2.2.2.2.2.2.1, rI cI qb 200 b, (qt, .inr (5, [.int o.2.2.2.2.2.2.2.2.2.1, .int o.2.2.2.2.2.2.2.2.2.2.1, .int o.2.2.2.2.2.2.2.2.2.2.2.1, .int o.2.2.2.2.2.2.2.2.2.2.2.2.1, .int o.2.2.2.2.2.2.2.2.2.2.2.2.2.1, .int o.2.2.2.2.2.2.2.2.2.2.2.2.2.2.1, .ref qt_lean, .ref qt_dead, .ref qt_becomes, .ref qt_trialYear, .ref qt_juryFrom, .ref qt_juryTo, .ref qt_deedFrom, .ref qt_deedTo])), rI cI qt_lean 6 o.2.2.2.2.2.2.2.2.2.2.2.2.2.2.2.1, rI cI qt_dead 6 o.2.2.2.2.2.2.2.2.2.2.2.2.2.2.2.2.1, rI cI qt_becomes 18 o.2.2.2.2.2.2.2.2.2.2.2.2.2.2.2.2.2.1, rI cI qt_trialYear 3 o.2.2.2.2.2.2.2.2.2.2.2.2.2.2.2.2.2.2.1, rI cI qt_juryFrom 3 o.2.2.2.2.2.2.2.2.2.2.2.2.2.2.2.2.2.2.2.1, rI cI qt_juryTo 3 o.2.2.2.2.2.2.2.2.2.2.2.2.2.2.2.2.2.2.2.2.1, rI cI qt_deedFrom 4 o.2.2.2.2.2.2.2.2.2.2.2.2.2.2.2.2.2.2.2.2.2.1, rI cI qt_deedTo 4 o.2.2.2.2.2.2.2.2.2.2.2.2.2.2.2.2.2.2.2.2.2.2] (some (.int (bI o.1))) 0 0 := by
  refine mkZ (by decide) (Nat.le_of_ble_eq_true rfl) ?_
  intro p e s m args below meth c A Q X hret ls hl H locs hP hD hS
  replace X : Cx p s m args c D (Tys cI cZ cD cH) A cX4_readItem RX4 5 := X
  obtain ⟨hx, hb, hml, hown, hts, hK, hZ, hA⟩ := id X
  have hl : lv_has ls 5 [(0, .ref qr), (1, .ref qt)] := hl
  unfold fX4_readItem at hf
  refine lv_aload_n hx hb dX4_readItem_0 rfl (lv_at hl 0 rfl) ?_
  refine k_get X hP 0 rfl rfl inX4 3 (by decide) fl_RX4_22 rfl rfl dX4_readItem_1 ?_
  refine lv_iconst (v := 1) hx hb dX4_readItem_4 (by decide) ?_
  refine jn_e hf (fun K1 hf hk1 => ?_)
  have hj1 : ∀ (x1 : Int32) (H : Heap) (locs : List Loc) (ls : Array Slot), K1 x1 = some o → va_P D vwCl [(qr, .inr (4, [.ref qb, .int r_length, .int r_place, .int r_token, .int r_tokenPlace, .int r_tokenValue, .int r_yearsTold, .int r_beginTold, .int r_quorumTold, .ref qr_numbers])), rI cI qr_numbers 5 r_numbers, rI cI qb 200 b, (qt, .inr (5, [.int t_years, .int t_states, .int t_begin, .int t_trials, .int t_deeds, .int t_quorum, .ref qt_lean, .ref qt_dead, .ref qt_becomes, .ref qt_trialYear, .ref qt_juryFrom, .ref qt_juryTo, .ref qt_deedFrom, .ref qt_deedTo])), rI cI qt_lean 6 t_lean, rI cI qt_dead 6 t_dead, rI cI qt_becomes 18 t_becomes, rI cI qt_trialYear 3 t_trialYear, rI cI qt_juryFrom 3 t_juryFrom, rI cI qt_juryTo 3 t_juryTo, rI cI qt_deedFrom 4 t_deedFrom, rI cI qt_deedTo 4 t_deedTo] H → va_D A [(qr, .inr (4, [.ref qb, .int r_length, .int r_place, .int r_token, .int r_tokenPlace, .int r_tokenValue, .int r_yearsTold, .int r_beginTold, .int r_quorumTold, .ref qr_numbers])), rI cI qr_numbers 5 r_numbers, rI cI qb 200 b, (qt, .inr (5, [.int t_years, .int t_states, .int t_begin, .int t_trials, .int t_deeds, .int t_quorum, .ref qt_lean, .ref qt_dead, .ref qt_becomes, .ref qt_trialYear, .ref qt_juryFrom, .ref qt_juryTo, .ref qt_deedFrom, .ref qt_deedTo])), rI cI qt_lean 6 t_lean, rI cI qt_dead 6 t_dead, rI cI qt_becomes 18 t_becomes, rI cI qt_trialYear 3 t_trialYear, rI cI qt_juryFrom 3 t_juryFrom, rI cI qt_juryTo 3 t_juryTo, rI cI qt_deedFrom 4 t_deedFrom, rI cI qt_deedTo 4 t_deedTo] → va_S A s.heap H locs → lv_has ls 5 [(0, .ref qr), (1, .ref qt)] → W p l e ({ frames := 3, cells := 0, slots := 0, locals := 61 } : Room) s m args below meth c H locs 0 0 Q (F0 m 16 ls [.int x1]) := by
    intro x1 H locs ls hf hP hD hS hl
    replace hf := hk1 x1 hf
    refine lv_istore_n (lv' := [(2, .int x1), (0, .ref qr), (1, .ref qt)]) hx hb dX4_readItem_16 rfl hl (by decide) rfl (fun ls hl => ?_)
    refine lv_aload_n hx hb dX4_readItem_17 rfl (lv_at hl 1 rfl) ?_
    refine lv_iload_n hx hb dX4_readItem_18 rfl (lv_at hl 0 rfl) ?_
    refine lv_aload_n hx hb dX4_readItem_19 rfl (lv_at hl 2 rfl) ?_
    obtain ⟨r2, hr2, hf⟩ := bnd hf
    refine k_callV X hP hD hS [(qr, .inr (4, [.ref qb, .int r_length, .int r_place, .int r_token, .int r_tokenPlace, .int r_tokenValue, .int r_yearsTold, .int r_beginTold, .int r_quorumTold, .ref qr_numbers])), rI cI qr_numbers 5 r_numbers, rI cI qb 200 b, (qt, .inr (5, [.int t_years, .int t_states, .int t_begin, .int t_trials, .int t_deeds, .int t_quorum, .ref qt_lean, .ref qt_dead, .ref qt_becomes, .ref qt_trialYear, .ref qt_juryFrom, .ref qt_juryTo, .ref qt_deedFrom, .ref qt_deedTo])), rI cI qt_lean 6 t_lean, rI cI qt_dead 6 t_dead, rI cI qt_becomes 18 t_becomes, rI cI qt_trialYear 3 t_trialYear, rI cI qt_juryFrom 3 t_juryFrom, rI cI qt_juryTo 3 t_juryTo, rI cI qt_deedFrom 4 t_deedFrom, rI cI qt_deedTo 4 t_deedTo] (ctX4_mayBegin l D cI cZ cD cH qr qr_numbers qt qt_lean qt_dead qt_becomes qt_trialYear qt_juryFrom qt_juryTo qt_deedFrom qt_deedTo x1 qb r_length r_place r_token r_tokenPlace r_tokenValue r_yearsTold r_beginTold r_quorumTold r_numbers t_years t_states t_begin t_trials t_deeds t_quorum t_lean t_dead t_becomes t_trialYear t_juryFrom t_juryTo t_deedFrom t_deedTo r2 hr2) ml_RX4_57 im_yX4_mayBegin se_yX4_mayBegin in_RX4 cd_yX4_mayBegin rfl rfl hd_yX4_mayBegin ⟨by decide, by decide⟩ ⟨Nat.zero_le _, Nat.zero_le _⟩ [0, 1, 3, 4, 5, 6, 7, 8, 9, 10, 11] [some 0, some 1, none, some 2, some 3, some 4, some 5, some 6, some 7, some 8, some 9, some 10] rfl (by decide +kernel) rfl (by decide +kernel) rfl rfl (q0 := 0) rfl rfl rfl hl.1 rfl rfl (Nat.le_of_ble_eq_true rfl) rfl dX4_readItem_20 (fun H locs hP hD hS => ?_)
    refine lv_if_ne (tgt := 28) hx hb dX4_readItem_23 (by decide) (fun c3 => ?_) (fun c3 => ?_)
    · replace hf := ite_f c3 hf
      refine lv_iload_n hx hb dX4_readItem_28 rfl (lv_at hl 0 rfl) ?_
      obtain ⟨r4, hr4, hf⟩ := bnd hf
      refine k_callS X hP hD hS [(qr, .inr (4, [.ref qb, .int r_length, .int r_place, .int r_token, .int r_tokenPlace, .int r_tokenValue, .int r_yearsTold, .int r_beginTold, .int r_quorumTold, .ref qr_numbers])), rI cI qr_numbers 5 r_numbers, rI cI qb 200 b, (qt, .inr (5, [.int t_years, .int t_states, .int t_begin, .int t_trials, .int t_deeds, .int t_quorum, .ref qt_lean, .ref qt_dead, .ref qt_becomes, .ref qt_trialYear, .ref qt_juryFrom, .ref qt_juryTo, .ref qt_deedFrom, .ref qt_deedTo])), rI cI qt_lean 6 t_lean, rI cI qt_dead 6 t_dead, rI cI qt_becomes 18 t_becomes, rI cI qt_trialYear 3 t_trialYear, rI cI qt_juryFrom 3 t_juryFrom, rI cI qt_juryTo 3 t_juryTo, rI cI qt_deedFrom 4 t_deedFrom, rI cI qt_deedTo 4 t_deedTo] (ctX4_numbersOf l D cI cZ cD cH x1 r4 hr4) ml_RX4_61 sm_yX4_numbersOf in_RX4 cd_yX4_numbersOf rfl rfl hd_yX4_numbersOf ⟨by decide, by decide⟩ ⟨Nat.zero_le _, Nat.zero_le _⟩ [] [none, none, none, none, none, none, none, none, none, none, none, none] rfl (by decide +kernel) rfl (by decide +kernel) rfl rfl hl.1 rfl rfl (Nat.le_of_ble_eq_true rfl) rfl dX4_readItem_29 (fun H locs hP hD hS => ?_)
      refine lv_istore_n (lv' := [(3, .int r4), (2, .int x1), (0, .ref qr), (1, .ref qt)]) hx hb dX4_readItem_32 rfl hl (by decide) rfl (fun ls hl => ?_)
      refine lv_iconst (v := 0) hx hb dX4_readItem_33 (by decide) ?_
      refine lv_istore (lv' := [(4, .int 0), (3, .int r4), (2, .int x1), (0, .ref qr), (1, .ref qt)]) hx hb dX4_readItem_34 hl (by decide) rfl (fun ls hl => ?_)
      obtain ⟨e5, he5, hf⟩ := bnd hf
      have hx5_0 : ∀ (y5_0 : Int32 × Int32 × Int32 × Int32 × (Nat → Int32)), (Sum.inl y5_0) = e5 → ∀ (H : Heap) (locs : List Loc) (ls : Array Slot), va_P D vwCl [(qr, .inr (4, [.ref qb, .int r_length, .int y5_0.1, .int y5_0.2.1, .int y5_0.2.2.1, .int y5_0.2.2.2.1, .int r_yearsTold, .int r_beginTold, .int r_quorumTold, .ref qr_numbers])), rI cI qr_numbers 5 y5_0.2.2.2.2, rI cI qb 200 b, (qt, .inr (5, [.int t_years, .int t_states, .int t_begin, .int t_trials, .int t_deeds, .int t_quorum, .ref qt_lean, .ref qt_dead, .ref qt_becomes, .ref qt_trialYear, .ref qt_juryFrom, .ref qt_juryTo, .ref qt_deedFrom, .ref qt_deedTo])), rI cI qt_lean 6 t_lean, rI cI qt_dead 6 t_dead, rI cI qt_becomes 18 t_becomes, rI cI qt_trialYear 3 t_trialYear, rI cI qt_juryFrom 3 t_juryFrom, rI cI qt_juryTo 3 t_juryTo, rI cI qt_deedFrom 4 t_deedFrom, rI cI qt_deedTo 4 t_deedTo] H → va_D A [(qr, .inr (4, [.ref qb, .int r_length, .int y5_0.1, .int y5_0.2.1, .int y5_0.2.2.1, .int y5_0.2.2.2.1, .int r_yearsTold, .int r_beginTold, .int r_quorumTold, .ref qr_numbers])), rI cI qr_numbers 5 y5_0.2.2.2.2, rI cI qb 200 b, (qt, .inr (5, [.int t_years, .int t_states, .int t_begin, .int t_trials, .int t_deeds, .int t_quorum, .ref qt_lean, .ref qt_dead, .ref qt_becomes, .ref qt_trialYear, .ref qt_juryFrom, .ref qt_juryTo, .ref qt_deedFrom, .ref qt_deedTo])), rI cI qt_lean 6 t_lean, rI cI qt_dead 6 t_dead, rI cI qt_becomes 18 t_becomes, rI cI qt_trialYear 3 t_trialYear, rI cI qt_juryFrom 3 t_juryFrom, rI cI qt_juryTo 3 t_juryTo, rI cI qt_deedFrom 4 t_deedFrom, rI cI qt_deedTo 4 t_deedTo] → va_S A s.heap H locs → lv_has ls 5 [] → W p l e ({ frames := 3, cells := 0, slots := 0, locals := 61 } : Room) s m args below meth c H locs 0 0 Q (F0 m 83 ls []) := by
        intro y5_0 heq H locs ls hP hD hS hl
        subst heq
        replace hf := se_l hf
        refine lv_iconst (v := 0) hx hb dX4_readItem_83 (by decide) ?_
        replace hf := Option.some.inj hf
        subst hf
        exact hret H locs _ ls dX4_readItem_84 hP hD hS
      have hx5_1 : ∀ (y5_1 : Int32 × Int32 × Int32 × Int32 × (Nat → Int32)), (Sum.inr y5_1) = e5 → ∀ (H : Heap) (locs : List Loc) (ls : Array Slot), va_P D vwCl [(qr, .inr (4, [.ref qb, .int r_length, .int y5_1.1, .int y5_1.2.1, .int y5_1.2.2.1, .int y5_1.2.2.2.1, .int r_yearsTold, .int r_beginTold, .int r_quorumTold, .ref qr_numbers])), rI cI qr_numbers 5 y5_1.2.2.2.2, rI cI qb 200 b, (qt, .inr (5, [.int t_years, .int t_states, .int t_begin, .int t_trials, .int t_deeds, .int t_quorum, .ref qt_lean, .ref qt_dead, .ref qt_becomes, .ref qt_trialYear, .ref qt_juryFrom, .ref qt_juryTo, .ref qt_deedFrom, .ref qt_deedTo])), rI cI qt_lean 6 t_lean, rI cI qt_dead 6 t_dead, rI cI qt_becomes 18 t_becomes, rI cI qt_trialYear 3 t_trialYear, rI cI qt_juryFrom 3 t_juryFrom, rI cI qt_juryTo 3 t_juryTo, rI cI qt_deedFrom 4 t_deedFrom, rI cI qt_deedTo 4 t_deedTo] H → va_D A [(qr, .inr (4, [.ref qb, .int r_length, .int y5_1.1, .int y5_1.2.1, .int y5_1.2.2.1, .int y5_1.2.2.2.1, .int r_yearsTold, .int r_beginTold, .int r_quorumTold, .ref qr_numbers])), rI cI qr_numbers 5 y5_1.2.2.2.2, rI cI qb 200 b, (qt, .inr (5, [.int t_years, .int t_states, .int t_begin, .int t_trials, .int t_deeds, .int t_quorum, .ref qt_lean, .ref qt_dead, .ref qt_becomes, .ref qt_trialYear, .ref qt_juryFrom, .ref qt_juryTo, .ref qt_deedFrom, .ref qt_deedTo])), rI cI qt_lean 6 t_lean, rI cI qt_dead 6 t_dead, rI cI qt_becomes 18 t_becomes, rI cI qt_trialYear 3 t_trialYear, rI cI qt_juryFrom 3 t_juryFrom, rI cI qt_juryTo 3 t_juryTo, rI cI qt_deedFrom 4 t_deedFrom, rI cI qt_deedTo 4 t_deedTo] → va_S A s.heap H locs → lv_has ls 5 [(0, .ref qr), (1, .ref qt), (2, .int x1)] → W p l e ({ frames := 3, cells := 0, slots := 0, locals := 61 } : Room) s m args below meth c H locs 0 0 Q (F0 m 102 ls []) := by
        intro y5_1 heq H locs ls hP hD hS hl
        subst heq
        replace hf := se_r hf
        refine lv_aload_n hx hb dX4_readItem_102 rfl (lv_at hl 0 rfl) ?_
        obtain ⟨r6, hr6, hf⟩ := bnd hf
        refine k_callV X hP hD hS [(qr, .inr (4, [.ref qb, .int r_length, .int r6.1, .int r6.2.1, .int r6.2.2.1, .int r6.2.2.2, .int r_yearsTold, .int r_beginTold, .int r_quorumTold, .ref qr_numbers])), rI cI qr_numbers 5 y5_1.2.2.2.2, rI cI qb 200 b, (qt, .inr (5, [.int t_years, .int t_states, .int t_begin, .int t_trials, .int t_deeds, .int t_quorum, .ref qt_lean, .ref qt_dead, .ref qt_becomes, .ref qt_trialYear, .ref qt_juryFrom, .ref qt_juryTo, .ref qt_deedFrom, .ref qt_deedTo])), rI cI qt_lean 6 t_lean, rI cI qt_dead 6 t_dead, rI cI qt_becomes 18 t_becomes, rI cI qt_trialYear 3 t_trialYear, rI cI qt_juryFrom 3 t_juryFrom, rI cI qt_juryTo 3 t_juryTo, rI cI qt_deedFrom 4 t_deedFrom, rI cI qt_deedTo 4 t_deedTo] (ctX4_nextToken l D cI cZ cD cH qr qr_numbers qb r_length y5_1.1 y5_1.2.1 y5_1.2.2.1 y5_1.2.2.2.1 r_yearsTold r_beginTold r_quorumTold y5_1.2.2.2.2 b r6 hr6) ml_RX4_50 im_yX4_nextToken se_yX4_nextToken in_RX4 cd_yX4_nextToken rfl rfl hd_yX4_nextToken ⟨by decide, by decide⟩ ⟨Nat.zero_le _, Nat.zero_le _⟩ [0, 1, 2] [some 0, some 1, some 2, none, none, none, none, none, none, none, none, none] rfl (by decide +kernel) rfl (by decide +kernel) rfl rfl (q0 := 0) rfl rfl rfl hl.1 rfl rfl (Nat.le_of_ble_eq_true rfl) rfl dX4_readItem_103 (fun H locs hP hD hS => ?_)
        refine lv_aload_n hx hb dX4_readItem_106 rfl (lv_at hl 0 rfl) ?_
        refine k_get X hP 0 rfl rfl inX4 3 (by decide) fl_RX4_22 rfl rfl dX4_readItem_107 ?_
        refine lv_iconst (v := 3) hx hb dX4_readItem_110 (by decide) ?_
        refine lv_icmp_eq (tgt := 116) hx hb dX4_readItem_111 (by decide) (fun c7 => ?_) (fun c7 => ?_)
        · replace hf := ite_t c7 hf
          refine lv_aload_n hx hb dX4_readItem_116 rfl (lv_at hl 0 rfl) ?_
          refine lv_iload_n hx hb dX4_readItem_117 rfl (lv_at hl 2 rfl) ?_
          refine lv_aload_n hx hb dX4_readItem_118 rfl (lv_at hl 1 rfl) ?_
          obtain ⟨r8, hr8, hf⟩ := bnd hf
          refine k_callV X hP hD hS [(qr, .inr (4, [.ref qb, .int r_length, .int r6.1, .int r6.2.1, .int r6.2.2.1, .int r6.2.2.2, .int r8.1, .int r8.2.1, .int r8.2.2.1, .ref qr_numbers])), rI cI qr_numbers 5 y5_1.2.2.2.2, rI cI qb 200 b, (qt, .inr (5, [.int r8.2.2.2.1, .int r8.2.2.2.2.1, .int r8.2.2.2.2.2.1, .int r8.2.2.2.2.2.2.1, .int r8.2.2.2.2.2.2.2.1, .int r8.2.2.2.2.2.2.2.2.1, .ref qt_lean, .ref qt_dead, .ref qt_becomes, .ref qt_trialYear, .ref qt_juryFrom, .ref qt_juryTo, .ref qt_deedFrom, .ref qt_deedTo])), rI cI qt_lean 6 r8.2.2.2.2.2.2.2.2.2.1, rI cI qt_dead 6 r8.2.2.2.2.2.2.2.2.2.2.1, rI cI qt_becomes 18 r8.2.2.2.2.2.2.2.2.2.2.2.1, rI cI qt_trialYear 3 r8.2.2.2.2.2.2.2.2.2.2.2.2.1, rI cI qt_juryFrom 3 r8.2.2.2.2.2.2.2.2.2.2.2.2.2.1, rI cI qt_juryTo 3 r8.2.2.2.2.2.2.2.2.2.2.2.2.2.2.1, rI cI qt_deedFrom 4 r8.2.2.2.2.2.2.2.2.2.2.2.2.2.2.2.1, rI cI qt_deedTo 4 r8.2.2.2.2.2.2.2.2.2.2.2.2.2.2.2.2] (ctX4_take l D cI cZ cD cH qr qr_numbers qt qt_lean qt_dead qt_becomes qt_trialYear qt_juryFrom qt_juryTo qt_deedFrom qt_deedTo x1 qb r_length r6.1 r6.2.1 r6.2.2.1 r6.2.2.2 r_yearsTold r_beginTold r_quorumTold y5_1.2.2.2.2 t_years t_states t_begin t_trials t_deeds t_quorum t_lean t_dead t_becomes t_trialYear t_juryFrom t_juryTo t_deedFrom t_deedTo r8 hr8) ml_RX4_72 im_yX4_take se_yX4_take in_RX4 cd_yX4_take rfl rfl hd_yX4_take ⟨by decide, by decide⟩ ⟨Nat.zero_le _, Nat.zero_le _⟩ [0, 1, 3, 4, 5, 6, 7, 8, 9, 10, 11] [some 0, some 1, none, some 2, some 3, some 4, some 5, some 6, some 7, some 8, some 9, some 10] rfl (by decide +kernel) rfl (by decide +kernel) rfl rfl (q0 := 0) rfl rfl rfl hl.1 rfl rfl (Nat.le_of_ble_eq_true rfl) rfl dX4_readItem_119 (fun H locs hP hD hS => ?_)
          refine lv_iconst (v := 1) hx hb dX4_readItem_122 (by decide) ?_
          replace hf := Option.some.inj hf
          subst hf
          exact hret H locs _ ls dX4_readItem_123 hP hD hS
        · replace hf := ite_f c7 hf
          refine lv_iconst (v := 0) hx hb dX4_readItem_114 (by decide) ?_
          replace hf := Option.some.inj hf
          subst hf
          exact hret H locs _ ls dX4_readItem_115 hP hD hS
      refine lpd_ind (P := fun s5 => ∀ (H : Heap) (locs : List Loc) (ls : Array Slot), va_P D vwCl [(qr, .inr (4, [.ref qb, .int r_length, .int s5.2.1, .int s5.2.2.1, .int s5.2.2.2.1, .int s5.2.2.2.2.1, .int r_yearsTold, .int r_beginTold, .int r_quorumTold, .ref qr_numbers])), rI cI qr_numbers 5 s5.2.2.2.2.2, rI cI qb 200 b, (qt, .inr (5, [.int t_years, .int t_states, .int t_begin, .int t_trials, .int t_deeds, .int t_quorum, .ref qt_lean, .ref qt_dead, .ref qt_becomes, .ref qt_trialYear, .ref qt_juryFrom, .ref qt_juryTo, .ref qt_deedFrom, .ref qt_deedTo])), rI cI qt_lean 6 t_lean, rI cI qt_dead 6 t_dead, rI cI qt_becomes 18 t_becomes, rI cI qt_trialYear 3 t_trialYear, rI cI qt_juryFrom 3 t_juryFrom, rI cI qt_juryTo 3 t_juryTo, rI cI qt_deedFrom 4 t_deedFrom, rI cI qt_deedTo 4 t_deedTo] H → va_D A [(qr, .inr (4, [.ref qb, .int r_length, .int s5.2.1, .int s5.2.2.1, .int s5.2.2.2.1, .int s5.2.2.2.2.1, .int r_yearsTold, .int r_beginTold, .int r_quorumTold, .ref qr_numbers])), rI cI qr_numbers 5 s5.2.2.2.2.2, rI cI qb 200 b, (qt, .inr (5, [.int t_years, .int t_states, .int t_begin, .int t_trials, .int t_deeds, .int t_quorum, .ref qt_lean, .ref qt_dead, .ref qt_becomes, .ref qt_trialYear, .ref qt_juryFrom, .ref qt_juryTo, .ref qt_deedFrom, .ref qt_deedTo])), rI cI qt_lean 6 t_lean, rI cI qt_dead 6 t_dead, rI cI qt_becomes 18 t_becomes, rI cI qt_trialYear 3 t_trialYear, rI cI qt_juryFrom 3 t_juryFrom, rI cI qt_juryTo 3 t_juryTo, rI cI qt_deedFrom 4 t_deedFrom, rI cI qt_deedTo 4 t_deedTo] → va_S A s.heap H locs → lv_has ls 5 [(0, .ref qr), (1, .ref qt), (2, .int x1), (3, .int r4), (4, .int s5.1)] → W p l e ({ frames := 3, cells := 0, slots := 0, locals := 61 } : Room) s m args below meth c H locs 0 0 Q (F0 m 36 ls [])) e5 ?_ _ _ he5 H locs ls hP hD hS (lv_sub hl [3, 4, 2, 1, 0] rfl)
      intro s5 r5 hf ih5 hq5 H locs ls hP hD hS hl
      unfold sX4_readItem_36 at hf
      refine lv_iload hx hb dX4_readItem_36 (lv_at hl 4 rfl) ?_
      refine lv_iload_n hx hb dX4_readItem_38 rfl (lv_at hl 3 rfl) ?_
      refine lv_icmp_ge (tgt := 102) hx hb dX4_readItem_39 (by decide) (fun c9 => ?_) (fun c9 => ?_)
      · replace hf := ite_t c9 hf
        exact hx5_1 _ (hq5 _ (Option.some.inj hf).symm) H locs ls hP hD hS (lv_sub hl [0, 1, 2] rfl)
      · replace hf := ite_f c9 hf
        refine lv_aload_n hx hb dX4_readItem_42 rfl (lv_at hl 0 rfl) ?_
        obtain ⟨r10, hr10, hf⟩ := bnd hf
        refine k_callV X hP hD hS [(qr, .inr (4, [.ref qb, .int r_length, .int r10.1, .int r10.2.1, .int r10.2.2.1, .int r10.2.2.2, .int r_yearsTold, .int r_beginTold, .int r_quorumTold, .ref qr_numbers])), rI cI qr_numbers 5 s5.2.2.2.2.2, rI cI qb 200 b, (qt, .inr (5, [.int t_years, .int t_states, .int t_begin, .int t_trials, .int t_deeds, .int t_quorum, .ref qt_lean, .ref qt_dead, .ref qt_becomes, .ref qt_trialYear, .ref qt_juryFrom, .ref qt_juryTo, .ref qt_deedFrom, .ref qt_deedTo])), rI cI qt_lean 6 t_lean, rI cI qt_dead 6 t_dead, rI cI qt_becomes 18 t_becomes, rI cI qt_trialYear 3 t_trialYear, rI cI qt_juryFrom 3 t_juryFrom, rI cI qt_juryTo 3 t_juryTo, rI cI qt_deedFrom 4 t_deedFrom, rI cI qt_deedTo 4 t_deedTo] (ctX4_nextToken l D cI cZ cD cH qr qr_numbers qb r_length s5.2.1 s5.2.2.1 s5.2.2.2.1 s5.2.2.2.2.1 r_yearsTold r_beginTold r_quorumTold s5.2.2.2.2.2 b r10 hr10) ml_RX4_50 im_yX4_nextToken se_yX4_nextToken in_RX4 cd_yX4_nextToken rfl rfl hd_yX4_nextToken ⟨by decide, by decide⟩ ⟨Nat.zero_le _, Nat.zero_le _⟩ [0, 1, 2] [some 0, some 1, some 2, none, none, none, none, none, none, none, none, none] rfl (by decide +kernel) rfl (by decide +kernel) rfl rfl (q0 := 0) rfl rfl rfl hl.1 rfl rfl (Nat.le_of_ble_eq_true rfl) rfl dX4_readItem_43 (fun H locs hP hD hS => ?_)
        refine lv_aload_n hx hb dX4_readItem_46 rfl (lv_at hl 0 rfl) ?_
        refine k_get X hP 0 rfl rfl inX4 3 (by decide) fl_RX4_22 rfl rfl dX4_readItem_47 ?_
        refine lv_iconst (v := 2) hx hb dX4_readItem_50 (by decide) ?_
        refine lv_icmp_ne (tgt := 83) hx hb dX4_readItem_51 (by decide) (fun c11 => ?_) (fun c11 => ?_)
        · replace hf := ite_f c11 hf
          exact hx5_0 _ (hq5 _ (Option.some.inj hf).symm) H locs ls hP hD hS (lv_sub hl [] rfl)
        · replace hf := ite_t c11 hf
          refine lv_aload_n hx hb dX4_readItem_54 rfl (lv_at hl 0 rfl) ?_
          refine k_get X hP 0 rfl rfl inX4 5 (by decide) fl_RX4_28 rfl rfl dX4_readItem_55 ?_
          refine lv_aload_n hx hb dX4_readItem_58 rfl (lv_at hl 0 rfl) ?_
          refine lv_iload_n hx hb dX4_readItem_59 rfl (lv_at hl 2 rfl) ?_
          refine lv_iload hx hb dX4_readItem_60 (lv_at hl 4 rfl) ?_
          refine lv_aload_n hx hb dX4_readItem_62 rfl (lv_at hl 1 rfl) ?_
          obtain ⟨r12, hr12, hf⟩ := bnd hf
          refine k_callV X hP hD hS [(qr, .inr (4, [.ref qb, .int r_length, .int r10.1, .int r10.2.1, .int r10.2.2.1, .int r10.2.2.2, .int r_yearsTold, .int r_beginTold, .int r_quorumTold, .ref qr_numbers])), rI cI qr_numbers 5 s5.2.2.2.2.2, rI cI qb 200 b, (qt, .inr (5, [.int t_years, .int t_states, .int t_begin, .int t_trials, .int t_deeds, .int t_quorum, .ref qt_lean, .ref qt_dead, .ref qt_becomes, .ref qt_trialYear, .ref qt_juryFrom, .ref qt_juryTo, .ref qt_deedFrom, .ref qt_deedTo])), rI cI qt_lean 6 t_lean, rI cI qt_dead 6 t_dead, rI cI qt_becomes 18 t_becomes, rI cI qt_trialYear 3 t_trialYear, rI cI qt_juryFrom 3 t_juryFrom, rI cI qt_juryTo 3 t_juryTo, rI cI qt_deedFrom 4 t_deedFrom, rI cI qt_deedTo 4 t_deedTo] (ctX4_least l D cI cZ cD cH qr qr_numbers qt qt_lean qt_dead qt_becomes qt_trialYear qt_juryFrom qt_juryTo qt_deedFrom qt_deedTo x1 s5.1 qb r_length r10.1 r10.2.1 r10.2.2.1 r10.2.2.2 r_yearsTold r_beginTold r_quorumTold s5.2.2.2.2.2 t_years t_states t_begin t_trials t_deeds t_quorum t_lean t_dead t_becomes t_trialYear t_juryFrom t_juryTo t_deedFrom t_deedTo r12 hr12) ml_RX4_65 im_yX4_least se_yX4_least in_RX4 cd_yX4_least rfl rfl hd_yX4_least ⟨by decide, by decide⟩ ⟨Nat.zero_le _, Nat.zero_le _⟩ [0, 1, 3, 4, 5, 6, 7, 8, 9, 10, 11] [some 0, some 1, none, some 2, some 3, some 4, some 5, some 6, some 7, some 8, some 9, some 10] rfl (by decide +kernel) rfl (by decide +kernel) rfl rfl (q0 := 0) rfl rfl rfl hl.1 rfl rfl (Nat.le_of_ble_eq_true rfl) rfl dX4_readItem_63 (fun H locs hP hD hS => ?_)
          refine lv_icmp_lt (tgt := 83) hx hb dX4_readItem_66 (by decide) (fun c13 => ?_) (fun c13 => ?_)
          · replace hf := ite_t c13 hf
            exact hx5_0 _ (hq5 _ (Option.some.inj hf).symm) H locs ls hP hD hS (lv_sub hl [] rfl)
          · replace hf := ite_f c13 hf
            refine lv_aload_n hx hb dX4_readItem_69 rfl (lv_at hl 0 rfl) ?_
            refine k_get X hP 0 rfl rfl inX4 5 (by decide) fl_RX4_28 rfl rfl dX4_readItem_70 ?_
            refine lv_iload_n hx hb dX4_readItem_73 rfl (lv_at hl 2 rfl) ?_
            refine lv_iload hx hb dX4_readItem_74 (lv_at hl 4 rfl) ?_
            refine lv_aload_n hx hb dX4_readItem_76 rfl (lv_at hl 1 rfl) ?_
            obtain ⟨r14, hr14, hf⟩ := bnd hf
            refine k_callS X hP hD hS [(qr, .inr (4, [.ref qb, .int r_length, .int r10.1, .int r10.2.1, .int r10.2.2.1, .int r10.2.2.2, .int r_yearsTold, .int r_beginTold, .int r_quorumTold, .ref qr_numbers])), rI cI qr_numbers 5 s5.2.2.2.2.2, rI cI qb 200 b, (qt, .inr (5, [.int t_years, .int t_states, .int t_begin, .int t_trials, .int t_deeds, .int t_quorum, .ref qt_lean, .ref qt_dead, .ref qt_becomes, .ref qt_trialYear, .ref qt_juryFrom, .ref qt_juryTo, .ref qt_deedFrom, .ref qt_deedTo])), rI cI qt_lean 6 t_lean, rI cI qt_dead 6 t_dead, rI cI qt_becomes 18 t_becomes, rI cI qt_trialYear 3 t_trialYear, rI cI qt_juryFrom 3 t_juryFrom, rI cI qt_juryTo 3 t_juryTo, rI cI qt_deedFrom 4 t_deedFrom, rI cI qt_deedTo 4 t_deedTo] (ctX4_most l D cI cZ cD cH qt qt_lean qt_dead qt_becomes qt_trialYear qt_juryFrom qt_juryTo qt_deedFrom qt_deedTo x1 s5.1 t_years t_states t_begin t_trials t_deeds t_quorum t_lean t_dead t_becomes t_trialYear t_juryFrom t_juryTo t_deedFrom t_deedTo r14 hr14) ml_RX4_69 sm_yX4_most in_RX4 cd_yX4_most rfl rfl hd_yX4_most ⟨by decide, by decide⟩ ⟨Nat.zero_le _, Nat.zero_le _⟩ [3, 4, 5, 6, 7, 8, 9, 10, 11] [none, none, none, some 0, some 1, some 2, some 3, some 4, some 5, some 6, some 7, some 8] rfl (by decide +kernel) rfl (by decide +kernel) rfl rfl hl.1 rfl rfl (Nat.le_of_ble_eq_true rfl) rfl dX4_readItem_77 (fun H locs hP hD hS => ?_)
            refine lv_icmp_le (tgt := 85) hx hb dX4_readItem_80 (by decide) (fun c15 => ?_) (fun c15 => ?_)
            · replace hf := ite_t c15 hf
              refine lv_aload_n hx hb dX4_readItem_85 rfl (lv_at hl 0 rfl) ?_
              refine k_get X hP 0 rfl rfl inX4 9 (by decide) fl_RX4_41 rfl rfl dX4_readItem_86 ?_
              refine lv_iload hx hb dX4_readItem_89 (lv_at hl 4 rfl) ?_
              refine lv_aload_n hx hb dX4_readItem_91 rfl (lv_at hl 0 rfl) ?_
              refine k_get X hP 0 rfl rfl inX4 5 (by decide) fl_RX4_28 rfl rfl dX4_readItem_92 ?_
              obtain ⟨h16, hf⟩ := ck_t hf
              refine k_iast X hP hD hS [(qr, .inr (4, [.ref qb, .int r_length, .int r10.1, .int r10.2.1, .int r10.2.2.1, .int r10.2.2.2, .int r_yearsTold, .int r_beginTold, .int r_quorumTold, .ref qr_numbers])), rI cI qr_numbers 5 (upd s5.2.2.2.2.2 s5.1.toNatClampNeg r10.2.2.2), rI cI qb 200 b, (qt, .inr (5, [.int t_years, .int t_states, .int t_begin, .int t_trials, .int t_deeds, .int t_quorum, .ref qt_lean, .ref qt_dead, .ref qt_becomes, .ref qt_trialYear, .ref qt_juryFrom, .ref qt_juryTo, .ref qt_deedFrom, .ref qt_deedTo])), rI cI qt_lean 6 t_lean, rI cI qt_dead 6 t_dead, rI cI qt_becomes 18 t_becomes, rI cI qt_trialYear 3 t_trialYear, rI cI qt_juryFrom 3 t_juryFrom, rI cI qt_juryTo 3 t_juryTo, rI cI qt_deedFrom 4 t_deedFrom, rI cI qt_deedTo 4 t_deedTo] 1 0 rfl rfl h16 rfl dX4_readItem_95 (fun H locs hP hD hS => ?_)
              refine lv_iinc (v := s5.1 + 1) (lv' := [(4, .int (s5.1 + 1)), (0, .ref qr), (1, .ref qt), (2, .int x1), (3, .int r4)]) hx hb dX4_readItem_96 hl (k := 4) rfl rfl (by decide) rfl (fun ls hl => ?_)
              refine lv_goto (tgt := 36) hx hb dX4_readItem_99 (by decide) ?_
              exact ih5 _ (Option.some.inj hf).symm H locs ls hP hD hS (lv_sub hl [1, 2, 3, 4, 0] rfl)
            · replace hf := ite_f c15 hf
              exact hx5_0 _ (hq5 _ (Option.some.inj hf).symm) H locs ls hP hD hS (lv_sub hl [] rfl)
    · replace hf := ite_t c3 hf
      refine lv_iconst (v := 0) hx hb dX4_readItem_26 (by decide) ?_
      replace hf := Option.some.inj hf
      subst hf
      exact hret H locs _ ls dX4_readItem_27 hP hD hS
  refine lv_icmp_ne (tgt := 15) hx hb dX4_readItem_5 (by decide) (fun c17 => ?_) (fun c17 => ?_)
  · replace hf := ite_f c17 hf
    refine lv_iconst (v := 0) hx hb dX4_readItem_15 (by decide) ?_
    exact hj1 _ H locs ls hf hP hD hS hl
  · replace hf := ite_t c17 hf
    refine lv_aload_n hx hb dX4_readItem_8 rfl (lv_at hl 0 rfl) ?_
    refine k_get X hP 0 rfl rfl inX4 5 (by decide) fl_RX4_28 rfl rfl dX4_readItem_9 ?_
    refine lv_goto (tgt := 16) hx hb dX4_readItem_12 (by decide) ?_
    exact hj1 _ H locs ls hf hP hD hS hl

def sX4_readAll_38 (r_length : Int32) (b : Nat → Int32) (v4 : Int32) (r_place : Int32) (r_token : Int32) (r_tokenPlace : Int32) (r_tokenValue : Int32) (r_yearsTold : Int32) (r_beginTold : Int32) (r_quorumTold : Int32) (r_numbers : Nat → Int32) (t_years : Int32) (t_states : Int32) (t_begin : Int32) (t_trials : Int32) (t_deeds : Int32) (t_quorum : Int32) (t_lean : Nat → Int32) (t_dead : Nat → Int32) (t_becomes : Nat → Int32) (t_trialYear : Nat → Int32) (t_juryFrom : Nat → Int32) (t_juryTo : Nat → Int32) (t_deedFrom : Nat → Int32) (t_deedTo : Nat → Int32) : Option ((Int32 × Int32 × Int32 × Int32 × Int32 × Int32 × Int32 × Int32 × (Nat → Int32) × Int32 × Int32 × Int32 × Int32 × Int32 × Int32 × (Nat → Int32) × (Nat → Int32) × (Nat → Int32) × (Nat → Int32) × (Nat → Int32) × (Nat → Int32) × (Nat → Int32) × (Nat → Int32)) ⊕ ((Int32 × Int32 × Int32 × Int32 × Int32 × Int32 × Int32 × Int32 × (Nat → Int32) × Int32 × Int32 × Int32 × Int32 × Int32 × Int32 × (Nat → Int32) × (Nat → Int32) × (Nat → Int32) × (Nat → Int32) × (Nat → Int32) × (Nat → Int32) × (Nat → Int32) × (Nat → Int32)) ⊕ (Int32 × Int32 × Int32 × Int32 × Int32 × Int32 × Int32 × (Nat → Int32) × Int32 × Int32 × Int32 × Int32 × Int32 × Int32 × (Nat → Int32) × (Nat → Int32) × (Nat → Int32) × (Nat → Int32) × (Nat → Int32) × (Nat → Int32) × (Nat → Int32) × (Nat → Int32)) ⊕ (Int32 × Int32 × Int32 × Int32 × Int32 × Int32 × Int32 × (Nat → Int32) × Int32 × Int32 × Int32 × Int32 × Int32 × Int32 × (Nat → Int32) × (Nat → Int32) × (Nat → Int32) × (Nat → Int32) × (Nat → Int32) × (Nat → Int32) × (Nat → Int32) × (Nat → Int32)))) :=
  if r_length < v4 then some (.inr (Sum.inr (Sum.inr (r_place, r_token, r_tokenPlace, r_tokenValue, r_yearsTold, r_beginTold, r_quorumTold, r_numbers, t_years, t_states, t_begin, t_trials, t_deeds, t_quorum, t_lean, t_dead, t_becomes, t_trialYear, t_juryFrom, t_juryTo, t_deedFrom, t_deedTo)))) else (fX4_nextToken r_length r_place b).bind (fun r3 => if r3.2.1 = 0 then some (.inr (Sum.inl (v4, r3.1, r3.2.1, r3.2.2.1, r3.2.2.2, r_yearsTold, r_beginTold, r_quorumTold, r_numbers, t_years, t_states, t_begin, t_trials, t_deeds, t_quorum, t_lean, t_dead, t_becomes, t_trialYear, t_juryFrom, t_juryTo, t_deedFrom, t_deedTo))) else (fX4_readItem r_length r3.1 r3.2.1 r3.2.2.1 r3.2.2.2 r_yearsTold r_beginTold r_quorumTold r_numbers b t_years t_states t_begin t_trials t_deeds t_quorum t_lean t_dead t_becomes t_trialYear t_juryFrom t_juryTo t_deedFrom t_deedTo).bind (fun r5 => if (bI r5.1) = 0 then some (.inr (Sum.inr (Sum.inl (r5.2.1, r5.2.2.1, r5.2.2.2.1, r5.2.2.2.2.1, r5.2.2.2.2.2.1, r5.2.2.2.2.2.2.1, r5.2.2.2.2.2.2.2.1, r5.2.2.2.2.2.2.2.2.1, r5.2.2.2.2.2.2.2.2.2.1, r5.2.2.2.2.2.2.2.2.2.2.1, r5.2.2.2.2.2.2.2.2.2.2.2.1, r5.2.2.2.2.2.2.2.2.2.2.2.2.1, r5.2.2.2.2.2.2.2.2.2.2.2.2.2.1, r5.2.2.2.2.2.2.2.2.2.2.2.2.2.2.1, r5.2.2.2.2.2.2.2.2.2.2.2.2.2.2.2.1, r5.2.2.2.2.2.2.2.2.2.2.2.2.2.2.2.2.1, r5.2.2.2.2.2.2.2.2.2.2.2.2.2.2.2.2.2.1, r5.2.2.2.2.2.2.2.2.2.2.2.2.2.2.2.2.2.2.1, r5.2.2.2.2.2.2.2.2.2.2.2.2.2.2.2.2.2.2.2.1, r5.2.2.2.2.2.2.2.2.2.2.2.2.2.2.2.2.2.2.2.2.1, r5.2.2.2.2.2.2.2.2.2.2.2.2.2.2.2.2.2.2.2.2.2.1, r5.2.2.2.2.2.2.2.2.2.2.2.2.2.2.2.2.2.2.2.2.2.2)))) else some (.inl (v4 + 1, r5.2.1, r5.2.2.1, r5.2.2.2.1, r5.2.2.2.2.1, r5.2.2.2.2.2.1, r5.2.2.2.2.2.2.1, r5.2.2.2.2.2.2.2.1, r5.2.2.2.2.2.2.2.2.1, r5.2.2.2.2.2.2.2.2.2.1, r5.2.2.2.2.2.2.2.2.2.2.1, r5.2.2.2.2.2.2.2.2.2.2.2.1, r5.2.2.2.2.2.2.2.2.2.2.2.2.1, r5.2.2.2.2.2.2.2.2.2.2.2.2.2.1, r5.2.2.2.2.2.2.2.2.2.2.2.2.2.2.1, r5.2.2.2.2.2.2.2.2.2.2.2.2.2.2.2.1, r5.2.2.2.2.2.2.2.2.2.2.2.2.2.2.2.2.1, r5.2.2.2.2.2.2.2.2.2.2.2.2.2.2.2.2.2.1, r5.2.2.2.2.2.2.2.2.2.2.2.2.2.2.2.2.2.2.1, r5.2.2.2.2.2.2.2.2.2.2.2.2.2.2.2.2.2.2.2.1, r5.2.2.2.2.2.2.2.2.2.2.2.2.2.2.2.2.2.2.2.2.1, r5.2.2.2.2.2.2.2.2.2.2.2.2.2.2.2.2.2.2.2.2.2.1, r5.2.2.2.2.2.2.2.2.2.2.2.2.2.2.2.2.2.2.2.2.2.2))))
def fX4_readAll (a1 : Int32) (r_token : Int32) (r_tokenPlace : Int32) (r_tokenValue : Int32) (r_numbers : Nat → Int32) (b : Nat → Int32) (t_years : Int32) (t_states : Int32) (t_begin : Int32) (t_trials : Int32) (t_deeds : Int32) (t_quorum : Int32) (t_lean : Nat → Int32) (t_dead : Nat → Int32) (t_becomes : Nat → Int32) (t_trialYear : Nat → Int32) (t_juryFrom : Nat → Int32) (t_juryTo : Nat → Int32) (t_deedFrom : Nat → Int32) (t_deedTo : Nat → Int32) : Option (Int32 × Int32 × Int32 × Int32 × Int32 × Int32 × Int32 × Int32 × Int32 × (Nat → Int32) × Int32 × Int32 × Int32 × Int32 × Int32 × Int32 × (Nat → Int32) × (Nat → Int32) × (Nat → Int32) × (Nat → Int32) × (Nat → Int32) × (Nat → Int32) × (Nat → Int32) × (Nat → Int32)) :=
  (lpd (fun s1 => sX4_readAll_38 (if 200 < a1 then 200 else a1) b s1.1 s1.2.1 s1.2.2.1 s1.2.2.2.1 s1.2.2.2.2.1 s1.2.2.2.2.2.1 s1.2.2.2.2.2.2.1 s1.2.2.2.2.2.2.2.1 s1.2.2.2.2.2.2.2.2.1 s1.2.2.2.2.2.2.2.2.2.1 s1.2.2.2.2.2.2.2.2.2.2.1 s1.2.2.2.2.2.2.2.2.2.2.2.1 s1.2.2.2.2.2.2.2.2.2.2.2.2.1 s1.2.2.2.2.2.2.2.2.2.2.2.2.2.1 s1.2.2.2.2.2.2.2.2.2.2.2.2.2.2.1 s1.2.2.2.2.2.2.2.2.2.2.2.2.2.2.2.1 s1.2.2.2.2.2.2.2.2.2.2.2.2.2.2.2.2.1 s1.2.2.2.2.2.2.2.2.2.2.2.2.2.2.2.2.2.1 s1.2.2.2.2.2.2.2.2.2.2.2.2.2.2.2.2.2.2.1 s1.2.2.2.2.2.2.2.2.2.2.2.2.2.2.2.2.2.2.2.1 s1.2.2.2.2.2.2.2.2.2.2.2.2.2.2.2.2.2.2.2.2.1 s1.2.2.2.2.2.2.2.2.2.2.2.2.2.2.2.2.2.2.2.2.2.1 s1.2.2.2.2.2.2.2.2.2.2.2.2.2.2.2.2.2.2.2.2.2.2) FU (0, 0, r_token, r_tokenPlace, r_tokenValue, 0, 0, 0, r_numbers, t_years, t_states, t_begin, t_trials, t_deeds, t_quorum, t_lean, t_dead, t_becomes, t_trialYear, t_juryFrom, t_juryTo, t_deedFrom, t_deedTo)).bind (Sum.elim (fun (y1_0 : Int32 × Int32 × Int32 × Int32 × Int32 × Int32 × Int32 × Int32 × (Nat → Int32) × Int32 × Int32 × Int32 × Int32 × Int32 × Int32 × (Nat → Int32) × (Nat → Int32) × (Nat → Int32) × (Nat → Int32) × (Nat → Int32) × (Nat → Int32) × (Nat → Int32) × (Nat → Int32)) => some (y1_0.1, if 200 < a1 then 200 else a1, y1_0.2.1, y1_0.2.2.1, y1_0.2.2.2.1, y1_0.2.2.2.2.1, y1_0.2.2.2.2.2.1, y1_0.2.2.2.2.2.2.1, y1_0.2.2.2.2.2.2.2.1, y1_0.2.2.2.2.2.2.2.2.1, y1_0.2.2.2.2.2.2.2.2.2.1, y1_0.2.2.2.2.2.2.2.2.2.2.1, y1_0.2.2.2.2.2.2.2.2.2.2.2.1, y1_0.2.2.2.2.2.2.2.2.2.2.2.2.1, y1_0.2.2.2.2.2.2.2.2.2.2.2.2.2.1, y1_0.2.2.2.2.2.2.2.2.2.2.2.2.2.2.1, y1_0.2.2.2.2.2.2.2.2.2.2.2.2.2.2.2.1, y1_0.2.2.2.2.2.2.2.2.2.2.2.2.2.2.2.2.1, y1_0.2.2.2.2.2.2.2.2.2.2.2.2.2.2.2.2.2.1, y1_0.2.2.2.2.2.2.2.2.2.2.2.2.2.2.2.2.2.2.1, y1_0.2.2.2.2.2.2.2.2.2.2.2.2.2.2.2.2.2.2.2.1, y1_0.2.2.2.2.2.2.2.2.2.2.2.2.2.2.2.2.2.2.2.2.1, y1_0.2.2.2.2.2.2.2.2.2.2.2.2.2.2.2.2.2.2.2.2.2.1, y1_0.2.2.2.2.2.2.2.2.2.2.2.2.2.2.2.2.2.2.2.2.2.2)) (Sum.elim (fun (y1_1 : Int32 × Int32 × Int32 × Int32 × Int32 × Int32 × Int32 × (Nat → Int32) × Int32 × Int32 × Int32 × Int32 × Int32 × Int32 × (Nat → Int32) × (Nat → Int32) × (Nat → Int32) × (Nat → Int32) × (Nat → Int32) × (Nat → Int32) × (Nat → Int32) × (Nat → Int32)) => some ((-10) - y1_1.2.2.1, if 200 < a1 then 200 else a1, y1_1.1, y1_1.2.1, y1_1.2.2.1, y1_1.2.2.2.1, y1_1.2.2.2.2.1, y1_1.2.2.2.2.2.1, y1_1.2.2.2.2.2.2.1, y1_1.2.2.2.2.2.2.2.1, y1_1.2.2.2.2.2.2.2.2.1, y1_1.2.2.2.2.2.2.2.2.2.1, y1_1.2.2.2.2.2.2.2.2.2.2.1, y1_1.2.2.2.2.2.2.2.2.2.2.2.1, y1_1.2.2.2.2.2.2.2.2.2.2.2.2.1, y1_1.2.2.2.2.2.2.2.2.2.2.2.2.2.1, y1_1.2.2.2.2.2.2.2.2.2.2.2.2.2.2.1, y1_1.2.2.2.2.2.2.2.2.2.2.2.2.2.2.2.1, y1_1.2.2.2.2.2.2.2.2.2.2.2.2.2.2.2.2.1, y1_1.2.2.2.2.2.2.2.2.2.2.2.2.2.2.2.2.2.1, y1_1.2.2.2.2.2.2.2.2.2.2.2.2.2.2.2.2.2.2.1, y1_1.2.2.2.2.2.2.2.2.2.2.2.2.2.2.2.2.2.2.2.1, y1_1.2.2.2.2.2.2.2.2.2.2.2.2.2.2.2.2.2.2.2.2.1, y1_1.2.2.2.2.2.2.2.2.2.2.2.2.2.2.2.2.2.2.2.2.2)) (fun (y1_2 : Int32 × Int32 × Int32 × Int32 × Int32 × Int32 × Int32 × (Nat → Int32) × Int32 × Int32 × Int32 × Int32 × Int32 × Int32 × (Nat → Int32) × (Nat → Int32) × (Nat → Int32) × (Nat → Int32) × (Nat → Int32) × (Nat → Int32) × (Nat → Int32) × (Nat → Int32)) => some ((-10) - y1_2.2.2.1, if 200 < a1 then 200 else a1, y1_2.1, y1_2.2.1, y1_2.2.2.1, y1_2.2.2.2.1, y1_2.2.2.2.2.1, y1_2.2.2.2.2.2.1, y1_2.2.2.2.2.2.2.1, y1_2.2.2.2.2.2.2.2.1, y1_2.2.2.2.2.2.2.2.2.1, y1_2.2.2.2.2.2.2.2.2.2.1, y1_2.2.2.2.2.2.2.2.2.2.2.1, y1_2.2.2.2.2.2.2.2.2.2.2.2.1, y1_2.2.2.2.2.2.2.2.2.2.2.2.2.1, y1_2.2.2.2.2.2.2.2.2.2.2.2.2.2.1, y1_2.2.2.2.2.2.2.2.2.2.2.2.2.2.2.1, y1_2.2.2.2.2.2.2.2.2.2.2.2.2.2.2.2.1, y1_2.2.2.2.2.2.2.2.2.2.2.2.2.2.2.2.2.1, y1_2.2.2.2.2.2.2.2.2.2.2.2.2.2.2.2.2.2.1, y1_2.2.2.2.2.2.2.2.2.2.2.2.2.2.2.2.2.2.2.1, y1_2.2.2.2.2.2.2.2.2.2.2.2.2.2.2.2.2.2.2.2.1, y1_2.2.2.2.2.2.2.2.2.2.2.2.2.2.2.2.2.2.2.2.2.1, y1_2.2.2.2.2.2.2.2.2.2.2.2.2.2.2.2.2.2.2.2.2.2))))
set_option maxHeartbeats 4000000 in
set_option maxRecDepth 100000 in
theorem ctX4_readAll (l : Launch) (D : va_G) (cI cZ cD cH : ClassId) (qr : Nat) (qr_numbers : Nat) (qb : Nat) (qt : Nat) (qt_lean : Nat) (qt_dead : Nat) (qt_becomes : Nat) (qt_trialYear : Nat) (qt_juryFrom : Nat) (qt_juryTo : Nat) (qt_deedFrom : Nat) (qt_deedTo : Nat) (a1 : Int32) (r_bytes : Nat) (r_length : Int32) (r_place : Int32) (r_token : Int32) (r_tokenPlace : Int32) (r_tokenValue : Int32) (r_yearsTold : Int32) (r_beginTold : Int32) (r_quorumTold : Int32) (r_numbers : Nat → Int32) (b : Nat → Int32) (t_years : Int32) (t_states : Int32) (t_begin : Int32) (t_trials : Int32) (t_deeds : Int32) (t_quorum : Int32) (t_lean : Nat → Int32) (t_dead : Nat → Int32) (t_becomes : Nat → Int32) (t_trialYear : Nat → Int32) (t_juryFrom : Nat → Int32) (t_juryTo : Nat → Int32) (t_deedFrom : Nat → Int32) (t_deedTo : Nat → Int32) (o : Int32 × Int32 × Int32 × Int32 × Int32 × Int32 × Int32 × Int32 × Int32 × (Nat → Int32) × Int32 × Int32 × Int32 × Int32 × Int32 × Int32 × (Nat → Int32) × (Nat → Int32) × (Nat → Int32) × (Nat → Int32) × (Nat → Int32) × (Nat → Int32) × (Nat → Int32) × (Nat → Int32)) (hf : fX4_readAll a1 r_token r_tokenPlace r_tokenValue r_numbers b t_years t_states t_begin t_trials t_deeds t_quorum t_lean t_dead t_becomes t_trialYear t_juryFrom t_juryTo t_deedFrom t_deedTo = some o) : Ct l yX4_readAll cX4_readAll 5 (some .int) { frames := 4, cells := 0, slots := 0, locals := 85 } D (Tys cI cZ cD cH) [.ref qr, .ref qb, .int a1, .ref qt] [(qr, .inr (4, [.ref r_bytes, .int r_length, .int r_place, .int r_token, .int r_tokenPlace, .int r_tokenValue, .int r_yearsTold, .int r_beginTold, .int r_quorumTold, .ref qr_numbers])), rI cI qr_numbers 5 r_numbers, rI cI qb 200 b, (qt, .inr (5, [.int t_years, .int t_states, .int t_begin, .int t_trials, .int t_deeds, .int t_quorum, .ref qt_lean, .ref qt_dead, .ref qt_becomes, .ref qt_trialYear, .ref qt_juryFrom, .ref qt_juryTo, .ref qt_deedFrom, .ref qt_deedTo])), rI cI qt_lean 6 t_lean, rI cI qt_dead 6 t_dead, rI cI qt_becomes 18 t_becomes, rI cI qt_trialYear 3 t_trialYear, rI cI qt_juryFrom 3 t_juryFrom, rI cI qt_juryTo 3 t_juryTo, rI cI qt_deedFrom 4 t_deedFrom, rI cI qt_deedTo 4 t_deedTo] [(qr, .inr (4, [.ref qb, .int o.2.1, .int o.2.2.1, .int o.2.2.2.1, .int o.2.2.2.2.1, .int o.2.2.2.2.2.1, .int o.2.2.2.2.2.2.1, .int o.2.2.2.2.2.2.2.1, .int o.2.2.2.2.2.2.2.2.1, .ref qr_numbers])), rI cI qr_numbers 5 o.2.2.2.2.2.2.2.2.2.1, rI cI qb 200 b, (qt, .inr (5, [.int o.2.2.2.2.2.2.2.2.2.2.1, .int o.2.2.2.2.2.2.2.2.2.2.2.1, .int o.2.2.2.2.2.2.2.2.2.2.2.2.1, .int o.2.2.2.2.2.2.2.2.2.2.2.2.2.1, .int o.2.2.2.2.2.2.2.2.2.2.2.2.2.2.1, .int o.2.2.2.2.2.2.2.2.2.2.2.2.2.2.2.1, .ref qt_lean, .ref qt_dead, .ref qt_becomes, .ref qt_trialYear, .ref qt_juryFrom, .ref qt_juryTo, .ref qt_deedFrom, .ref qt_deedTo])), rI cI qt_lean 6 o.2.2.2.2.2.2.2.2.2.2.2.2.2.2.2.2.1, rI cI qt_dead 6 o.2.2.2.2.2.2.2.2.2.2.2.2.2.2.2.2.2.1, rI cI qt_becomes 18 o.2.2.2.2.2.2.2.2.2.2.2.2.2.2.2.2.2.2.1, rI cI qt_trialYear 3 o.2.2.2.2.2.2.2.2.2.2.2.2.2.2.2.2.2.2.2.1, rI cI qt_juryFrom 3 o.2.2.2.2.2.2.2.2.2.2.2.2.2.2.2.2.2.2.2.2.1, rI cI qt_juryTo 3 o.2.2.2.2.2.2.2.2.2.2.2.2.2.2.2.2.2.2.2.2.2.1, rI cI qt_deedFrom 4 o.2.2.2.2.2.2.2.2.2.2.2.2.2.2.2.2.2.2.2.2.2.2.1, rI cI qt_deedTo 4 o.2.2.2.2.2.2.2.2.2.2.2.2.2.2.2.2.2.2.2.2.2.2.2] (some (.int o.1)) 0 0 := by
  refine mkI (by decide) (Nat.le_of_ble_eq_true rfl) ?_
  intro p e s m args below meth c A Q X hret ls hl H locs hP hD hS
  replace X : Cx p s m args c D (Tys cI cZ cD cH) A cX4_readAll RX4 5 := X
  obtain ⟨hx, hb, hml, hown, hts, hK, hZ, hA⟩ := id X
  have hl : lv_has ls 5 [(0, .ref qr), (1, .ref qb), (2, .int a1), (3, .ref qt)] := hl
  unfold fX4_readAll at hf
  refine lv_aload_n hx hb dX4_readAll_0 rfl (lv_at hl 0 rfl) ?_
  refine lv_aload_n hx hb dX4_readAll_1 rfl (lv_at hl 1 rfl) ?_
  refine k_put X hP hD hS [(qr, .inr (4, [.ref qb, .int r_length, .int r_place, .int r_token, .int r_tokenPlace, .int r_tokenValue, .int r_yearsTold, .int r_beginTold, .int r_quorumTold, .ref qr_numbers])), rI cI qr_numbers 5 r_numbers, rI cI qb 200 b, (qt, .inr (5, [.int t_years, .int t_states, .int t_begin, .int t_trials, .int t_deeds, .int t_quorum, .ref qt_lean, .ref qt_dead, .ref qt_becomes, .ref qt_trialYear, .ref qt_juryFrom, .ref qt_juryTo, .ref qt_deedFrom, .ref qt_deedTo])), rI cI qt_lean 6 t_lean, rI cI qt_dead 6 t_dead, rI cI qt_becomes 18 t_becomes, rI cI qt_trialYear 3 t_trialYear, rI cI qt_juryFrom 3 t_juryFrom, rI cI qt_juryTo 3 t_juryTo, rI cI qt_deedFrom 4 t_deedFrom, rI cI qt_deedTo 4 t_deedTo] 0 rfl rfl inX4 tyX4_ok nmX4 0 (by decide) fl_RX4_9 rfl rfl rfl rfl (Nat.le_of_ble_eq_true rfl) rfl dX4_readAll_2 (fun H locs hP hD hS => ?_)
  refine lv_aload_n hx hb dX4_readAll_5 rfl (lv_at hl 0 rfl) ?_
  refine lv_iload_n hx hb dX4_readAll_6 rfl (lv_at hl 2 rfl) ?_
  refine lv_aload_n hx hb dX4_readAll_7 rfl (lv_at hl 1 rfl) ?_
  refine va_alen hx hb hK hP 2 0 rfl (v := 200) rfl rfl dX4_readAll_8 ?_
  refine va_mmin hx hb (by rw [hml]; exact hl.1.symm) hown (hts _ ml_RX4_44) (hts _ sm_yJ9_min_7cf53) (hts _ in_RJ9) (hts _ cd_yJ9_min_7cf53) (by decide) (Nat.le_of_ble_eq_true rfl) (Nat.zero_le _) (Nat.zero_le _) dX4_readAll_9 ?_
  refine k_put X hP hD hS [(qr, .inr (4, [.ref qb, .int (if 200 < a1 then 200 else a1), .int r_place, .int r_token, .int r_tokenPlace, .int r_tokenValue, .int r_yearsTold, .int r_beginTold, .int r_quorumTold, .ref qr_numbers])), rI cI qr_numbers 5 r_numbers, rI cI qb 200 b, (qt, .inr (5, [.int t_years, .int t_states, .int t_begin, .int t_trials, .int t_deeds, .int t_quorum, .ref qt_lean, .ref qt_dead, .ref qt_becomes, .ref qt_trialYear, .ref qt_juryFrom, .ref qt_juryTo, .ref qt_deedFrom, .ref qt_deedTo])), rI cI qt_lean 6 t_lean, rI cI qt_dead 6 t_dead, rI cI qt_becomes 18 t_becomes, rI cI qt_trialYear 3 t_trialYear, rI cI qt_juryFrom 3 t_juryFrom, rI cI qt_juryTo 3 t_juryTo, rI cI qt_deedFrom 4 t_deedFrom, rI cI qt_deedTo 4 t_deedTo] 0 rfl rfl inX4 tyX4_ok nmX4 1 (by decide) fl_RX4_15 rfl rfl rfl rfl (Nat.le_of_ble_eq_true rfl) rfl dX4_readAll_12 (fun H locs hP hD hS => ?_)
  refine lv_aload_n hx hb dX4_readAll_15 rfl (lv_at hl 0 rfl) ?_
  refine lv_iconst (v := 0) hx hb dX4_readAll_16 (by decide) ?_
  refine k_put X hP hD hS [(qr, .inr (4, [.ref qb, .int (if 200 < a1 then 200 else a1), .int 0, .int r_token, .int r_tokenPlace, .int r_tokenValue, .int r_yearsTold, .int r_beginTold, .int r_quorumTold, .ref qr_numbers])), rI cI qr_numbers 5 r_numbers, rI cI qb 200 b, (qt, .inr (5, [.int t_years, .int t_states, .int t_begin, .int t_trials, .int t_deeds, .int t_quorum, .ref qt_lean, .ref qt_dead, .ref qt_becomes, .ref qt_trialYear, .ref qt_juryFrom, .ref qt_juryTo, .ref qt_deedFrom, .ref qt_deedTo])), rI cI qt_lean 6 t_lean, rI cI qt_dead 6 t_dead, rI cI qt_becomes 18 t_becomes, rI cI qt_trialYear 3 t_trialYear, rI cI qt_juryFrom 3 t_juryFrom, rI cI qt_juryTo 3 t_juryTo, rI cI qt_deedFrom 4 t_deedFrom, rI cI qt_deedTo 4 t_deedTo] 0 rfl rfl inX4 tyX4_ok nmX4 2 (by decide) fl_RX4_19 rfl rfl rfl rfl (Nat.le_of_ble_eq_true rfl) rfl dX4_readAll_17 (fun H locs hP hD hS => ?_)
  refine lv_aload_n hx hb dX4_readAll_20 rfl (lv_at hl 0 rfl) ?_
  refine lv_iconst (v := 0) hx hb dX4_readAll_21 (by decide) ?_
  refine k_put X hP hD hS [(qr, .inr (4, [.ref qb, .int (if 200 < a1 then 200 else a1), .int 0, .int r_token, .int r_tokenPlace, .int r_tokenValue, .int 0, .int r_beginTold, .int r_quorumTold, .ref qr_numbers])), rI cI qr_numbers 5 r_numbers, rI cI qb 200 b, (qt, .inr (5, [.int t_years, .int t_states, .int t_begin, .int t_trials, .int t_deeds, .int t_quorum, .ref qt_lean, .ref qt_dead, .ref qt_becomes, .ref qt_trialYear, .ref qt_juryFrom, .ref qt_juryTo, .ref qt_deedFrom, .ref qt_deedTo])), rI cI qt_lean 6 t_lean, rI cI qt_dead 6 t_dead, rI cI qt_becomes 18 t_becomes, rI cI qt_trialYear 3 t_trialYear, rI cI qt_juryFrom 3 t_juryFrom, rI cI qt_juryTo 3 t_juryTo, rI cI qt_deedFrom 4 t_deedFrom, rI cI qt_deedTo 4 t_deedTo] 0 rfl rfl inX4 tyX4_ok nmX4 6 (by decide) fl_RX4_31 rfl rfl (by first | rfl | decide) (by first | rfl | decide) (Nat.le_of_ble_eq_true rfl) rfl dX4_readAll_22 (fun H locs hP hD hS => ?_)
  refine lv_aload_n hx hb dX4_readAll_25 rfl (lv_at hl 0 rfl) ?_
  refine lv_iconst (v := 0) hx hb dX4_readAll_26 (by decide) ?_
  refine k_put X hP hD hS [(qr, .inr (4, [.ref qb, .int (if 200 < a1 then 200 else a1), .int 0, .int r_token, .int r_tokenPlace, .int r_tokenValue, .int 0, .int 0, .int r_quorumTold, .ref qr_numbers])), rI cI qr_numbers 5 r_numbers, rI cI qb 200 b, (qt, .inr (5, [.int t_years, .int t_states, .int t_begin, .int t_trials, .int t_deeds, .int t_quorum, .ref qt_lean, .ref qt_dead, .ref qt_becomes, .ref qt_trialYear, .ref qt_juryFrom, .ref qt_juryTo, .ref qt_deedFrom, .ref qt_deedTo])), rI cI qt_lean 6 t_lean, rI cI qt_dead 6 t_dead, rI cI qt_becomes 18 t_becomes, rI cI qt_trialYear 3 t_trialYear, rI cI qt_juryFrom 3 t_juryFrom, rI cI qt_juryTo 3 t_juryTo, rI cI qt_deedFrom 4 t_deedFrom, rI cI qt_deedTo 4 t_deedTo] 0 rfl rfl inX4 tyX4_ok nmX4 7 (by decide) fl_RX4_35 rfl rfl (by first | rfl | decide) (by first | rfl | decide) (Nat.le_of_ble_eq_true rfl) rfl dX4_readAll_27 (fun H locs hP hD hS => ?_)
  refine lv_aload_n hx hb dX4_readAll_30 rfl (lv_at hl 0 rfl) ?_
  refine lv_iconst (v := 0) hx hb dX4_readAll_31 (by decide) ?_
  refine k_put X hP hD hS [(qr, .inr (4, [.ref qb, .int (if 200 < a1 then 200 else a1), .int 0, .int r_token, .int r_tokenPlace, .int r_tokenValue, .int 0, .int 0, .int 0, .ref qr_numbers])), rI cI qr_numbers 5 r_numbers, rI cI qb 200 b, (qt, .inr (5, [.int t_years, .int t_states, .int t_begin, .int t_trials, .int t_deeds, .int t_quorum, .ref qt_lean, .ref qt_dead, .ref qt_becomes, .ref qt_trialYear, .ref qt_juryFrom, .ref qt_juryTo, .ref qt_deedFrom, .ref qt_deedTo])), rI cI qt_lean 6 t_lean, rI cI qt_dead 6 t_dead, rI cI qt_becomes 18 t_becomes, rI cI qt_trialYear 3 t_trialYear, rI cI qt_juryFrom 3 t_juryFrom, rI cI qt_juryTo 3 t_juryTo, rI cI qt_deedFrom 4 t_deedFrom, rI cI qt_deedTo 4 t_deedTo] 0 rfl rfl inX4 tyX4_ok nmX4 8 (by decide) fl_RX4_38 rfl rfl (by first | rfl | decide) (by first | rfl | decide) (Nat.le_of_ble_eq_true rfl) rfl dX4_readAll_32 (fun H locs hP hD hS => ?_)
  refine lv_iconst (v := 0) hx hb dX4_readAll_35 (by decide) ?_
  refine lv_istore (lv' := [(4, .int 0), (0, .ref qr), (1, .ref qb), (2, .int a1), (3, .ref qt)]) hx hb dX4_readAll_36 hl (by decide) rfl (fun ls hl => ?_)
  obtain ⟨e1, he1, hf⟩ := bnd hf
  have hx1_0 : ∀ (y1_0 : Int32 × Int32 × Int32 × Int32 × Int32 × Int32 × Int32 × Int32 × (Nat → Int32) × Int32 × Int32 × Int32 × Int32 × Int32 × Int32 × (Nat → Int32) × (Nat → Int32) × (Nat → Int32) × (Nat → Int32) × (Nat → Int32) × (Nat → Int32) × (Nat → Int32) × (Nat → Int32)), (Sum.inl y1_0) = e1 → ∀ (H : Heap) (locs : List Loc) (ls : Array Slot), va_P D vwCl [(qr, .inr (4, [.ref qb, .int (if 200 < a1 then 200 else a1), .int y1_0.2.1, .int y1_0.2.2.1, .int y1_0.2.2.2.1, .int y1_0.2.2.2.2.1, .int y1_0.2.2.2.2.2.1, .int y1_0.2.2.2.2.2.2.1, .int y1_0.2.2.2.2.2.2.2.1, .ref qr_numbers])), rI cI qr_numbers 5 y1_0.2.2.2.2.2.2.2.2.1, rI cI qb 200 b, (qt, .inr (5, [.int y1_0.2.2.2.2.2.2.2.2.2.1, .int y1_0.2.2.2.2.2.2.2.2.2.2.1, .int y1_0.2.2.2.2.2.2.2.2.2.2.2.1, .int y1_0.2.2.2.2.2.2.2.2.2.2.2.2.1, .int y1_0.2.2.2.2.2.2.2.2.2.2.2.2.2.1, .int y1_0.2.2.2.2.2.2.2.2.2.2.2.2.2.2.1, .ref qt_lean, .ref qt_dead, .ref qt_becomes, .ref qt_trialYear, .ref qt_juryFrom, .ref qt_juryTo, .ref qt_deedFrom, .ref qt_deedTo])), rI cI qt_lean 6 y1_0.2.2.2.2.2.2.2.2.2.2.2.2.2.2.2.1, rI cI qt_dead 6 y1_0.2.2.2.2.2.2.2.2.2.2.2.2.2.2.2.2.1, rI cI qt_becomes 18 y1_0.2.2.2.2.2.2.2.2.2.2.2.2.2.2.2.2.2.1, rI cI qt_trialYear 3 y1_0.2.2.2.2.2.2.2.2.2.2.2.2.2.2.2.2.2.2.1, rI cI qt_juryFrom 3 y1_0.2.2.2.2.2.2.2.2.2.2.2.2.2.2.2.2.2.2.2.1, rI cI qt_juryTo 3 y1_0.2.2.2.2.2.2.2.2.2.2.2.2.2.2.2.2.2.2.2.2.1, rI cI qt_deedFrom 4 y1_0.2.2.2.2.2.2.2.2.2.2.2.2.2.2.2.2.2.2.2.2.2.1, rI cI qt_deedTo 4 y1_0.2.2.2.2.2.2.2.2.2.2.2.2.2.2.2.2.2.2.2.2.2.2] H → va_D A [(qr, .inr (4, [.ref qb, .int (if 200 < a1 then 200 else a1), .int y1_0.2.1, .int y1_0.2.2.1, .int y1_0.2.2.2.1, .int y1_0.2.2.2.2.1, .int y1_0.2.2.2.2.2.1, .int y1_0.2.2.2.2.2.2.1, .int y1_0.2.2.2.2.2.2.2.1, .ref qr_numbers])), rI cI qr_numbers 5 y1_0.2.2.2.2.2.2.2.2.1, rI cI qb 200 b, (qt, .inr (5, [.int y1_0.2.2.2.2.2.2.2.2.2.1, .int y1_0.2.2.2.2.2.2.2.2.2.2.1, .int y1_0.2.2.2.2.2.2.2.2.2.2.2.1, .int y1_0.2.2.2.2.2.2.2.2.2.2.2.2.1, .int y1_0.2.2.2.2.2.2.2.2.2.2.2.2.2.1, .int y1_0.2.2.2.2.2.2.2.2.2.2.2.2.2.2.1, .ref qt_lean, .ref qt_dead, .ref qt_becomes, .ref qt_trialYear, .ref qt_juryFrom, .ref qt_juryTo, .ref qt_deedFrom, .ref qt_deedTo])), rI cI qt_lean 6 y1_0.2.2.2.2.2.2.2.2.2.2.2.2.2.2.2.1, rI cI qt_dead 6 y1_0.2.2.2.2.2.2.2.2.2.2.2.2.2.2.2.2.1, rI cI qt_becomes 18 y1_0.2.2.2.2.2.2.2.2.2.2.2.2.2.2.2.2.2.1, rI cI qt_trialYear 3 y1_0.2.2.2.2.2.2.2.2.2.2.2.2.2.2.2.2.2.2.1, rI cI qt_juryFrom 3 y1_0.2.2.2.2.2.2.2.2.2.2.2.2.2.2.2.2.2.2.2.1, rI cI qt_juryTo 3 y1_0.2.2.2.2.2.2.2.2.2.2.2.2.2.2.2.2.2.2.2.2.1, rI cI qt_deedFrom 4 y1_0.2.2.2.2.2.2.2.2.2.2.2.2.2.2.2.2.2.2.2.2.2.1, rI cI qt_deedTo 4 y1_0.2.2.2.2.2.2.2.2.2.2.2.2.2.2.2.2.2.2.2.2.2.2] → va_S A s.heap H locs → lv_has ls 5 [(4, .int y1_0.1)] → W p l e ({ frames := 4, cells := 0, slots := 0, locals := 85 } : Room) s m args below meth c H locs 0 0 Q (F0 m 58 ls []) := by
    intro y1_0 heq H locs ls hP hD hS hl
    subst heq
    replace hf := se_l hf
    refine lv_iload hx hb dX4_readAll_58 (lv_at hl 0 rfl) ?_
    replace hf := Option.some.inj hf
    subst hf
    exact hret H locs _ ls dX4_readAll_60 hP hD hS
  have hx1_1 : ∀ (y1_1 : Int32 × Int32 × Int32 × Int32 × Int32 × Int32 × Int32 × (Nat → Int32) × Int32 × Int32 × Int32 × Int32 × Int32 × Int32 × (Nat → Int32) × (Nat → Int32) × (Nat → Int32) × (Nat → Int32) × (Nat → Int32) × (Nat → Int32) × (Nat → Int32) × (Nat → Int32)), (Sum.inr (Sum.inl y1_1)) = e1 → ∀ (H : Heap) (locs : List Loc) (ls : Array Slot), va_P D vwCl [(qr, .inr (4, [.ref qb, .int (if 200 < a1 then 200 else a1), .int y1_1.1, .int y1_1.2.1, .int y1_1.2.2.1, .int y1_1.2.2.2.1, .int y1_1.2.2.2.2.1, .int y1_1.2.2.2.2.2.1, .int y1_1.2.2.2.2.2.2.1, .ref qr_numbers])), rI cI qr_numbers 5 y1_1.2.2.2.2.2.2.2.1, rI cI qb 200 b, (qt, .inr (5, [.int y1_1.2.2.2.2.2.2.2.2.1, .int y1_1.2.2.2.2.2.2.2.2.2.1, .int y1_1.2.2.2.2.2.2.2.2.2.2.1, .int y1_1.2.2.2.2.2.2.2.2.2.2.2.1, .int y1_1.2.2.2.2.2.2.2.2.2.2.2.2.1, .int y1_1.2.2.2.2.2.2.2.2.2.2.2.2.2.1, .ref qt_lean, .ref qt_dead, .ref qt_becomes, .ref qt_trialYear, .ref qt_juryFrom, .ref qt_juryTo, .ref qt_deedFrom, .ref qt_deedTo])), rI cI qt_lean 6 y1_1.2.2.2.2.2.2.2.2.2.2.2.2.2.2.1, rI cI qt_dead 6 y1_1.2.2.2.2.2.2.2.2.2.2.2.2.2.2.2.1, rI cI qt_becomes 18 y1_1.2.2.2.2.2.2.2.2.2.2.2.2.2.2.2.2.1, rI cI qt_trialYear 3 y1_1.2.2.2.2.2.2.2.2.2.2.2.2.2.2.2.2.2.1, rI cI qt_juryFrom 3 y1_1.2.2.2.2.2.2.2.2.2.2.2.2.2.2.2.2.2.2.1, rI cI qt_juryTo 3 y1_1.2.2.2.2.2.2.2.2.2.2.2.2.2.2.2.2.2.2.2.1, rI cI qt_deedFrom 4 y1_1.2.2.2.2.2.2.2.2.2.2.2.2.2.2.2.2.2.2.2.2.1, rI cI qt_deedTo 4 y1_1.2.2.2.2.2.2.2.2.2.2.2.2.2.2.2.2.2.2.2.2.2] H → va_D A [(qr, .inr (4, [.ref qb, .int (if 200 < a1 then 200 else a1), .int y1_1.1, .int y1_1.2.1, .int y1_1.2.2.1, .int y1_1.2.2.2.1, .int y1_1.2.2.2.2.1, .int y1_1.2.2.2.2.2.1, .int y1_1.2.2.2.2.2.2.1, .ref qr_numbers])), rI cI qr_numbers 5 y1_1.2.2.2.2.2.2.2.1, rI cI qb 200 b, (qt, .inr (5, [.int y1_1.2.2.2.2.2.2.2.2.1, .int y1_1.2.2.2.2.2.2.2.2.2.1, .int y1_1.2.2.2.2.2.2.2.2.2.2.1, .int y1_1.2.2.2.2.2.2.2.2.2.2.2.1, .int y1_1.2.2.2.2.2.2.2.2.2.2.2.2.1, .int y1_1.2.2.2.2.2.2.2.2.2.2.2.2.2.1, .ref qt_lean, .ref qt_dead, .ref qt_becomes, .ref qt_trialYear, .ref qt_juryFrom, .ref qt_juryTo, .ref qt_deedFrom, .ref qt_deedTo])), rI cI qt_lean 6 y1_1.2.2.2.2.2.2.2.2.2.2.2.2.2.2.1, rI cI qt_dead 6 y1_1.2.2.2.2.2.2.2.2.2.2.2.2.2.2.2.1, rI cI qt_becomes 18 y1_1.2.2.2.2.2.2.2.2.2.2.2.2.2.2.2.2.1, rI cI qt_trialYear 3 y1_1.2.2.2.2.2.2.2.2.2.2.2.2.2.2.2.2.2.1, rI cI qt_juryFrom 3 y1_1.2.2.2.2.2.2.2.2.2.2.2.2.2.2.2.2.2.2.1, rI cI qt_juryTo 3 y1_1.2.2.2.2.2.2.2.2.2.2.2.2.2.2.2.2.2.2.2.1, rI cI qt_deedFrom 4 y1_1.2.2.2.2.2.2.2.2.2.2.2.2.2.2.2.2.2.2.2.2.1, rI cI qt_deedTo 4 y1_1.2.2.2.2.2.2.2.2.2.2.2.2.2.2.2.2.2.2.2.2.2] → va_S A s.heap H locs → lv_has ls 5 [(0, .ref qr)] → W p l e ({ frames := 4, cells := 0, slots := 0, locals := 85 } : Room) s m args below meth c H locs 0 0 Q (F0 m 69 ls []) := by
    intro y1_1 heq H locs ls hP hD hS hl
    subst heq
    replace hf := se_r hf
    replace hf := se_l hf
    refine lv_bipush (v := (-10)) hx hb dX4_readAll_69 (by decide) ?_
    refine lv_aload_n hx hb dX4_readAll_71 rfl (lv_at hl 0 rfl) ?_
    refine k_get X hP 0 rfl rfl inX4 4 (by decide) fl_RX4_25 rfl rfl dX4_readAll_72 ?_
    refine lv_isub hx hb dX4_readAll_75 ?_
    replace hf := Option.some.inj hf
    subst hf
    exact hret H locs _ ls dX4_readAll_76 hP hD hS
  have hx1_2 : ∀ (y1_2 : Int32 × Int32 × Int32 × Int32 × Int32 × Int32 × Int32 × (Nat → Int32) × Int32 × Int32 × Int32 × Int32 × Int32 × Int32 × (Nat → Int32) × (Nat → Int32) × (Nat → Int32) × (Nat → Int32) × (Nat → Int32) × (Nat → Int32) × (Nat → Int32) × (Nat → Int32)), (Sum.inr (Sum.inr y1_2)) = e1 → ∀ (H : Heap) (locs : List Loc) (ls : Array Slot), va_P D vwCl [(qr, .inr (4, [.ref qb, .int (if 200 < a1 then 200 else a1), .int y1_2.1, .int y1_2.2.1, .int y1_2.2.2.1, .int y1_2.2.2.2.1, .int y1_2.2.2.2.2.1, .int y1_2.2.2.2.2.2.1, .int y1_2.2.2.2.2.2.2.1, .ref qr_numbers])), rI cI qr_numbers 5 y1_2.2.2.2.2.2.2.2.1, rI cI qb 200 b, (qt, .inr (5, [.int y1_2.2.2.2.2.2.2.2.2.1, .int y1_2.2.2.2.2.2.2.2.2.2.1, .int y1_2.2.2.2.2.2.2.2.2.2.2.1, .int y1_2.2.2.2.2.2.2.2.2.2.2.2.1, .int y1_2.2.2.2.2.2.2.2.2.2.2.2.2.1, .int y1_2.2.2.2.2.2.2.2.2.2.2.2.2.2.1, .ref qt_lean, .ref qt_dead, .ref qt_becomes, .ref qt_trialYear, .ref qt_juryFrom, .ref qt_juryTo, .ref qt_deedFrom, .ref qt_deedTo])), rI cI qt_lean 6 y1_2.2.2.2.2.2.2.2.2.2.2.2.2.2.2.1, rI cI qt_dead 6 y1_2.2.2.2.2.2.2.2.2.2.2.2.2.2.2.2.1, rI cI qt_becomes 18 y1_2.2.2.2.2.2.2.2.2.2.2.2.2.2.2.2.2.1, rI cI qt_trialYear 3 y1_2.2.2.2.2.2.2.2.2.2.2.2.2.2.2.2.2.2.1, rI cI qt_juryFrom 3 y1_2.2.2.2.2.2.2.2.2.2.2.2.2.2.2.2.2.2.2.1, rI cI qt_juryTo 3 y1_2.2.2.2.2.2.2.2.2.2.2.2.2.2.2.2.2.2.2.2.1, rI cI qt_deedFrom 4 y1_2.2.2.2.2.2.2.2.2.2.2.2.2.2.2.2.2.2.2.2.2.1, rI cI qt_deedTo 4 y1_2.2.2.2.2.2.2.2.2.2.2.2.2.2.2.2.2.2.2.2.2.2] H → va_D A [(qr, .inr (4, [.ref qb, .int (if 200 < a1 then 200 else a1), .int y1_2.1, .int y1_2.2.1, .int y1_2.2.2.1, .int y1_2.2.2.2.1, .int y1_2.2.2.2.2.1, .int y1_2.2.2.2.2.2.1, .int y1_2.2.2.2.2.2.2.1, .ref qr_numbers])), rI cI qr_numbers 5 y1_2.2.2.2.2.2.2.2.1, rI cI qb 200 b, (qt, .inr (5, [.int y1_2.2.2.2.2.2.2.2.2.1, .int y1_2.2.2.2.2.2.2.2.2.2.1, .int y1_2.2.2.2.2.2.2.2.2.2.2.1, .int y1_2.2.2.2.2.2.2.2.2.2.2.2.1, .int y1_2.2.2.2.2.2.2.2.2.2.2.2.2.1, .int y1_2.2.2.2.2.2.2.2.2.2.2.2.2.2.1, .ref qt_lean, .ref qt_dead, .ref qt_becomes, .ref qt_trialYear, .ref qt_juryFrom, .ref qt_juryTo, .ref qt_deedFrom, .ref qt_deedTo])), rI cI qt_lean 6 y1_2.2.2.2.2.2.2.2.2.2.2.2.2.2.2.1, rI cI qt_dead 6 y1_2.2.2.2.2.2.2.2.2.2.2.2.2.2.2.2.1, rI cI qt_becomes 18 y1_2.2.2.2.2.2.2.2.2.2.2.2.2.2.2.2.2.1, rI cI qt_trialYear 3 y1_2.2.2.2.2.2.2.2.2.2.2.2.2.2.2.2.2.2.1, rI cI qt_juryFrom 3 y1_2.2.2.2.2.2.2.2.2.2.2.2.2.2.2.2.2.2.2.1, rI cI qt_juryTo 3 y1_2.2.2.2.2.2.2.2.2.2.2.2.2.2.2.2.2.2.2.2.1, rI cI qt_deedFrom 4 y1_2.2.2.2.2.2.2.2.2.2.2.2.2.2.2.2.2.2.2.2.2.1, rI cI qt_deedTo 4 y1_2.2.2.2.2.2.2.2.2.2.2.2.2.2.2.2.2.2.2.2.2.2] → va_S A s.heap H locs → lv_has ls 5 [(0, .ref qr)] → W p l e ({ frames := 4, cells := 0, slots := 0, locals := 85 } : Room) s m args below meth c H locs 0 0 Q (F0 m 83 ls []) := by
    intro y1_2 heq H locs ls hP hD hS hl
    subst heq
    replace hf := se_r hf
    replace hf := se_r hf
    refine lv_bipush (v := (-10)) hx hb dX4_readAll_83 (by decide) ?_
    refine lv_aload_n hx hb dX4_readAll_85 rfl (lv_at hl 0 rfl) ?_
    refine k_get X hP 0 rfl rfl inX4 4 (by decide) fl_RX4_25 rfl rfl dX4_readAll_86 ?_
    refine lv_isub hx hb dX4_readAll_89 ?_
    replace hf := Option.some.inj hf
    subst hf
    exact hret H locs _ ls dX4_readAll_90 hP hD hS
  refine lpd_ind (P := fun s1 => ∀ (H : Heap) (locs : List Loc) (ls : Array Slot), va_P D vwCl [(qr, .inr (4, [.ref qb, .int (if 200 < a1 then 200 else a1), .int s1.2.1, .int s1.2.2.1, .int s1.2.2.2.1, .int s1.2.2.2.2.1, .int s1.2.2.2.2.2.1, .int s1.2.2.2.2.2.2.1, .int s1.2.2.2.2.2.2.2.1, .ref qr_numbers])), rI cI qr_numbers 5 s1.2.2.2.2.2.2.2.2.1, rI cI qb 200 b, (qt, .inr (5, [.int s1.2.2.2.2.2.2.2.2.2.1, .int s1.2.2.2.2.2.2.2.2.2.2.1, .int s1.2.2.2.2.2.2.2.2.2.2.2.1, .int s1.2.2.2.2.2.2.2.2.2.2.2.2.1, .int s1.2.2.2.2.2.2.2.2.2.2.2.2.2.1, .int s1.2.2.2.2.2.2.2.2.2.2.2.2.2.2.1, .ref qt_lean, .ref qt_dead, .ref qt_becomes, .ref qt_trialYear, .ref qt_juryFrom, .ref qt_juryTo, .ref qt_deedFrom, .ref qt_deedTo])), rI cI qt_lean 6 s1.2.2.2.2.2.2.2.2.2.2.2.2.2.2.2.1, rI cI qt_dead 6 s1.2.2.2.2.2.2.2.2.2.2.2.2.2.2.2.2.1, rI cI qt_becomes 18 s1.2.2.2.2.2.2.2.2.2.2.2.2.2.2.2.2.2.1, rI cI qt_trialYear 3 s1.2.2.2.2.2.2.2.2.2.2.2.2.2.2.2.2.2.2.1, rI cI qt_juryFrom 3 s1.2.2.2.2.2.2.2.2.2.2.2.2.2.2.2.2.2.2.2.1, rI cI qt_juryTo 3 s1.2.2.2.2.2.2.2.2.2.2.2.2.2.2.2.2.2.2.2.2.1, rI cI qt_deedFrom 4 s1.2.2.2.2.2.2.2.2.2.2.2.2.2.2.2.2.2.2.2.2.2.1, rI cI qt_deedTo 4 s1.2.2.2.2.2.2.2.2.2.2.2.2.2.2.2.2.2.2.2.2.2.2] H → va_D A [(qr, .inr (4, [.ref qb, .int (if 200 < a1 then 200 else a1), .int s1.2.1, .int s1.2.2.1, .int s1.2.2.2.1, .int s1.2.2.2.2.1, .int s1.2.2.2.2.2.1, .int s1.2.2.2.2.2.2.1, .int s1.2.2.2.2.2.2.2.1, .ref qr_numbers])), rI cI qr_numbers 5 s1.2.2.2.2.2.2.2.2.1, rI cI qb 200 b, (qt, .inr (5, [.int s1.2.2.2.2.2.2.2.2.2.1, .int s1.2.2.2.2.2.2.2.2.2.2.1, .int s1.2.2.2.2.2.2.2.2.2.2.2.1, .int s1.2.2.2.2.2.2.2.2.2.2.2.2.1, .int s1.2.2.2.2.2.2.2.2.2.2.2.2.2.1, .int s1.2.2.2.2.2.2.2.2.2.2.2.2.2.2.1, .ref qt_lean, .ref qt_dead, .ref qt_becomes, .ref qt_trialYear, .ref qt_juryFrom, .ref qt_juryTo, .ref qt_deedFrom, .ref qt_deedTo])), rI cI qt_lean 6 s1.2.2.2.2.2.2.2.2.2.2.2.2.2.2.2.1, rI cI qt_dead 6 s1.2.2.2.2.2.2.2.2.2.2.2.2.2.2.2.2.1, rI cI qt_becomes 18 s1.2.2.2.2.2.2.2.2.2.2.2.2.2.2.2.2.2.1, rI cI qt_trialYear 3 s1.2.2.2.2.2.2.2.2.2.2.2.2.2.2.2.2.2.2.1, rI cI qt_juryFrom 3 s1.2.2.2.2.2.2.2.2.2.2.2.2.2.2.2.2.2.2.2.1, rI cI qt_juryTo 3 s1.2.2.2.2.2.2.2.2.2.2.2.2.2.2.2.2.2.2.2.2.1, rI cI qt_deedFrom 4 s1.2.2.2.2.2.2.2.2.2.2.2.2.2.2.2.2.2.2.2.2.2.1, rI cI qt_deedTo 4 s1.2.2.2.2.2.2.2.2.2.2.2.2.2.2.2.2.2.2.2.2.2.2] → va_S A s.heap H locs → lv_has ls 5 [(0, .ref qr), (3, .ref qt), (4, .int s1.1)] → W p l e ({ frames := 4, cells := 0, slots := 0, locals := 85 } : Room) s m args below meth c H locs 0 0 Q (F0 m 38 ls [])) e1 ?_ _ _ he1 H locs ls hP hD hS (lv_sub hl [1, 4, 0] rfl)
  intro s1 r1 hf ih1 hq1 H locs ls hP hD hS hl
  unfold sX4_readAll_38 at hf
  refine lv_iload hx hb dX4_readAll_38 (lv_at hl 2 rfl) ?_
  refine lv_aload_n hx hb dX4_readAll_40 rfl (lv_at hl 0 rfl) ?_
  refine k_get X hP 0 rfl rfl inX4 1 (by decide) fl_RX4_15 rfl rfl dX4_readAll_41 ?_
  refine lv_icmp_gt (tgt := 83) hx hb dX4_readAll_44 (by decide) (fun c2 => ?_) (fun c2 => ?_)
  · replace hf := ite_t c2 hf
    exact hx1_2 _ (hq1 _ (Option.some.inj hf).symm) H locs ls hP hD hS (lv_sub hl [0] rfl)
  · replace hf := ite_f c2 hf
    refine lv_aload_n hx hb dX4_readAll_47 rfl (lv_at hl 0 rfl) ?_
    obtain ⟨r3, hr3, hf⟩ := bnd hf
    refine k_callV X hP hD hS [(qr, .inr (4, [.ref qb, .int (if 200 < a1 then 200 else a1), .int r3.1, .int r3.2.1, .int r3.2.2.1, .int r3.2.2.2, .int s1.2.2.2.2.2.1, .int s1.2.2.2.2.2.2.1, .int s1.2.2.2.2.2.2.2.1, .ref qr_numbers])), rI cI qr_numbers 5 s1.2.2.2.2.2.2.2.2.1, rI cI qb 200 b, (qt, .inr (5, [.int s1.2.2.2.2.2.2.2.2.2.1, .int s1.2.2.2.2.2.2.2.2.2.2.1, .int s1.2.2.2.2.2.2.2.2.2.2.2.1, .int s1.2.2.2.2.2.2.2.2.2.2.2.2.1, .int s1.2.2.2.2.2.2.2.2.2.2.2.2.2.1, .int s1.2.2.2.2.2.2.2.2.2.2.2.2.2.2.1, .ref qt_lean, .ref qt_dead, .ref qt_becomes, .ref qt_trialYear, .ref qt_juryFrom, .ref qt_juryTo, .ref qt_deedFrom, .ref qt_deedTo])), rI cI qt_lean 6 s1.2.2.2.2.2.2.2.2.2.2.2.2.2.2.2.1, rI cI qt_dead 6 s1.2.2.2.2.2.2.2.2.2.2.2.2.2.2.2.2.1, rI cI qt_becomes 18 s1.2.2.2.2.2.2.2.2.2.2.2.2.2.2.2.2.2.1, rI cI qt_trialYear 3 s1.2.2.2.2.2.2.2.2.2.2.2.2.2.2.2.2.2.2.1, rI cI qt_juryFrom 3 s1.2.2.2.2.2.2.2.2.2.2.2.2.2.2.2.2.2.2.2.1, rI cI qt_juryTo 3 s1.2.2.2.2.2.2.2.2.2.2.2.2.2.2.2.2.2.2.2.2.1, rI cI qt_deedFrom 4 s1.2.2.2.2.2.2.2.2.2.2.2.2.2.2.2.2.2.2.2.2.2.1, rI cI qt_deedTo 4 s1.2.2.2.2.2.2.2.2.2.2.2.2.2.2.2.2.2.2.2.2.2.2] (ctX4_nextToken l D cI cZ cD cH qr qr_numbers qb (if 200 < a1 then 200 else a1) s1.2.1 s1.2.2.1 s1.2.2.2.1 s1.2.2.2.2.1 s1.2.2.2.2.2.1 s1.2.2.2.2.2.2.1 s1.2.2.2.2.2.2.2.1 s1.2.2.2.2.2.2.2.2.1 b r3 hr3) ml_RX4_50 im_yX4_nextToken se_yX4_nextToken in_RX4 cd_yX4_nextToken rfl rfl hd_yX4_nextToken ⟨by decide, by decide⟩ ⟨Nat.zero_le _, Nat.zero_le _⟩ [0, 1, 2] [some 0, some 1, some 2, none, none, none, none, none, none, none, none, none] rfl (by decide +kernel) rfl (by decide +kernel) rfl rfl (q0 := 0) rfl rfl rfl hl.1 rfl rfl (Nat.le_of_ble_eq_true rfl) rfl dX4_readAll_48 (fun H locs hP hD hS => ?_)
    refine lv_aload_n hx hb dX4_readAll_51 rfl (lv_at hl 0 rfl) ?_
    refine k_get X hP 0 rfl rfl inX4 3 (by decide) fl_RX4_22 rfl rfl dX4_readAll_52 ?_
    refine lv_if_ne (tgt := 61) hx hb dX4_readAll_55 (by decide) (fun c4 => ?_) (fun c4 => ?_)
    · replace hf := ite_f c4 hf
      refine lv_aload_n hx hb dX4_readAll_61 rfl (lv_at hl 0 rfl) ?_
      refine lv_aload_n hx hb dX4_readAll_62 rfl (lv_at hl 1 rfl) ?_
      obtain ⟨r5, hr5, hf⟩ := bnd hf
      refine k_callV X hP hD hS [(qr, .inr (4, [.ref qb, .int (if 200 < a1 then 200 else a1), .int r5.2.1, .int r5.2.2.1, .int r5.2.2.2.1, .int r5.2.2.2.2.1, .int r5.2.2.2.2.2.1, .int r5.2.2.2.2.2.2.1, .int r5.2.2.2.2.2.2.2.1, .ref qr_numbers])), rI cI qr_numbers 5 r5.2.2.2.2.2.2.2.2.1, rI cI qb 200 b, (qt, .inr (5, [.int r5.2.2.2.2.2.2.2.2.2.1, .int r5.2.2.2.2.2.2.2.2.2.2.1, .int r5.2.2.2.2.2.2.2.2.2.2.2.1, .int r5.2.2.2.2.2.2.2.2.2.2.2.2.1, .int r5.2.2.2.2.2.2.2.2.2.2.2.2.2.1, .int r5.2.2.2.2.2.2.2.2.2.2.2.2.2.2.1, .ref qt_lean, .ref qt_dead, .ref qt_becomes, .ref qt_trialYear, .ref qt_juryFrom, .ref qt_juryTo, .ref qt_deedFrom, .ref qt_deedTo])), rI cI qt_lean 6 r5.2.2.2.2.2.2.2.2.2.2.2.2.2.2.2.1, rI cI qt_dead 6 r5.2.2.2.2.2.2.2.2.2.2.2.2.2.2.2.2.1, rI cI qt_becomes 18 r5.2.2.2.2.2.2.2.2.2.2.2.2.2.2.2.2.2.1, rI cI qt_trialYear 3 r5.2.2.2.2.2.2.2.2.2.2.2.2.2.2.2.2.2.2.1, rI cI qt_juryFrom 3 r5.2.2.2.2.2.2.2.2.2.2.2.2.2.2.2.2.2.2.2.1, rI cI qt_juryTo 3 r5.2.2.2.2.2.2.2.2.2.2.2.2.2.2.2.2.2.2.2.2.1, rI cI qt_deedFrom 4 r5.2.2.2.2.2.2.2.2.2.2.2.2.2.2.2.2.2.2.2.2.2.1, rI cI qt_deedTo 4 r5.2.2.2.2.2.2.2.2.2.2.2.2.2.2.2.2.2.2.2.2.2.2] (ctX4_readItem l D cI cZ cD cH qr qr_numbers qb qt qt_lean qt_dead qt_becomes qt_trialYear qt_juryFrom qt_juryTo qt_deedFrom qt_deedTo (if 200 < a1 then 200 else a1) r3.1 r3.2.1 r3.2.2.1 r3.2.2.2 s1.2.2.2.2.2.1 s1.2.2.2.2.2.2.1 s1.2.2.2.2.2.2.2.1 s1.2.2.2.2.2.2.2.2.1 b s1.2.2.2.2.2.2.2.2.2.1 s1.2.2.2.2.2.2.2.2.2.2.1 s1.2.2.2.2.2.2.2.2.2.2.2.1 s1.2.2.2.2.2.2.2.2.2.2.2.2.1 s1.2.2.2.2.2.2.2.2.2.2.2.2.2.1 s1.2.2.2.2.2.2.2.2.2.2.2.2.2.2.1 s1.2.2.2.2.2.2.2.2.2.2.2.2.2.2.2.1 s1.2.2.2.2.2.2.2.2.2.2.2.2.2.2.2.2.1 s1.2.2.2.2.2.2.2.2.2.2.2.2.2.2.2.2.2.1 s1.2.2.2.2.2.2.2.2.2.2.2.2.2.2.2.2.2.2.1 s1.2.2.2.2.2.2.2.2.2.2.2.2.2.2.2.2.2.2.2.1 s1.2.2.2.2.2.2.2.2.2.2.2.2.2.2.2.2.2.2.2.2.1 s1.2.2.2.2.2.2.2.2.2.2.2.2.2.2.2.2.2.2.2.2.2.1 s1.2.2.2.2.2.2.2.2.2.2.2.2.2.2.2.2.2.2.2.2.2.2 r5 hr5) ml_RX4_53 im_yX4_readItem se_yX4_readItem in_RX4 cd_yX4_readItem rfl rfl hd_yX4_readItem ⟨by decide, by decide⟩ ⟨Nat.zero_le _, Nat.zero_le _⟩ [0, 1, 2, 3, 4, 5, 6, 7, 8, 9, 10, 11] [some 0, some 1, some 2, some 3, some 4, some 5, some 6, some 7, some 8, some 9, some 10, some 11] rfl (by decide +kernel) rfl (by decide +kernel) rfl rfl (q0 := 0) rfl rfl rfl hl.1 rfl rfl (Nat.le_of_ble_eq_true rfl) rfl dX4_readAll_63 (fun H locs hP hD hS => ?_)
      refine lv_if_ne (tgt := 77) hx hb dX4_readAll_66 (by decide) (fun c6 => ?_) (fun c6 => ?_)
      · replace hf := ite_f c6 hf
        refine lv_iinc (v := s1.1 + 1) (lv' := [(4, .int (s1.1 + 1)), (0, .ref qr), (3, .ref qt)]) hx hb dX4_readAll_77 hl (k := 2) rfl rfl (by decide) rfl (fun ls hl => ?_)
        refine lv_goto (tgt := 38) hx hb dX4_readAll_80 (by decide) ?_
        exact ih1 _ (Option.some.inj hf).symm H locs ls hP hD hS (lv_sub hl [1, 2, 0] rfl)
      · replace hf := ite_t c6 hf
        exact hx1_1 _ (hq1 _ (Option.some.inj hf).symm) H locs ls hP hD hS (lv_sub hl [0] rfl)
    · replace hf := ite_t c4 hf
      exact hx1_0 _ (hq1 _ (Option.some.inj hf).symm) H locs ls hP hD hS (lv_sub hl [2] rfl)
