def sX7_figure_7 (v1 : Int32) (v3 : Int32) (v4 : Int32) : Option ((Int32 × Int32) ⊕ ((Int32))) :=
  if v4 ≤ v1 then some (.inr v3) else some (.inl (v3 / 3, v4 + (-1)))
def fX7_figure (a1 : Int32) (a2 : Int32) (a3 : Int32) : Option (Int32) :=
  (lpd (fun s1 => sX7_figure_7 a2 s1.1 s1.2) FU (a1, a3 - 1)).bind (fun (y1_0 : Int32) => some (y1_0 - y1_0 / 3 * 3))
set_option maxHeartbeats 4000000 in
set_option maxRecDepth 100000 in
theorem ctX7_figure (l : Launch) (D : va_G) (cI cZ cD cH : ClassId) (a1 : Int32) (a2 : Int32) (a3 : Int32) (o : Int32) (hf : fX7_figure a1 a2 a3 = some o) : Ct l yX7_figure cX7_figure 5 (some .int) { frames := 0, cells := 0, slots := 0, locals := 0 } D (Tys cI cZ cD cH) [.int a1, .int a2, .int a3] [] [] (some (.int o)) 0 0 := by
  refine mkI (by decide) (Nat.le_of_ble_eq_true rfl) ?_
  intro p e s m args below meth c A Q X hret ls hl H locs hP hD hS
  replace X : Cx p s m args c D (Tys cI cZ cD cH) A cX7_figure RX7 5 := X
  obtain ⟨hx, hb, hml, hown, hts, hK, hZ, hA⟩ := id X
  have hl : lv_has ls 5 [(0, .int a1), (1, .int a2), (2, .int a3)] := hl
  unfold fX7_figure at hf
  refine lv_iload_n hx hb dX7_figure_0 rfl (lv_at hl 0 rfl) ?_
  refine lv_istore_n (lv' := [(3, .int a1), (0, .int a1), (1, .int a2), (2, .int a3)]) hx hb dX7_figure_1 rfl hl (by decide) rfl (fun ls hl => ?_)
  refine lv_iload_n hx hb dX7_figure_2 rfl (lv_at hl 3 rfl) ?_
  refine lv_iconst (v := 1) hx hb dX7_figure_3 (by decide) ?_
  refine lv_isub hx hb dX7_figure_4 ?_
  refine lv_istore (lv' := [(4, .int (a3 - 1)), (3, .int a1), (0, .int a1), (1, .int a2), (2, .int a3)]) hx hb dX7_figure_5 hl (by decide) rfl (fun ls hl => ?_)
  obtain ⟨e1, he1, hf⟩ := bnd hf
  have hx1_0 : ∀ (y1_0 : Int32), y1_0 = e1 → ∀ (H : Heap) (locs : List Loc) (ls : Array Slot), va_P D vwCl [] H → va_D A [] → va_S A s.heap H locs → lv_has ls 5 [(3, .int y1_0)] → W p l e ({ frames := 0, cells := 0, slots := 0, locals := 0 } : Room) s m args below meth c H locs 0 0 Q (F0 m 23 ls []) := by
    intro y1_0 heq H locs ls hP hD hS hl
    subst heq
    refine lv_iload_n hx hb dX7_figure_23 rfl (lv_at hl 0 rfl) ?_
    refine lv_iconst (v := 3) hx hb dX7_figure_24 (by decide) ?_
    refine lv_irem hx hb dX7_figure_25 (by decide) ?_
    replace hf := Option.some.inj hf
    subst hf
    exact hret H locs _ ls dX7_figure_26 hP hD hS
  refine lpd_ind (P := fun s1 => ∀ (H : Heap) (locs : List Loc) (ls : Array Slot), va_P D vwCl [] H → va_D A [] → va_S A s.heap H locs → lv_has ls 5 [(1, .int a2), (3, .int s1.1), (4, .int s1.2)] → W p l e ({ frames := 0, cells := 0, slots := 0, locals := 0 } : Room) s m args below meth c H locs 0 0 Q (F0 m 7 ls [])) e1 ?_ _ _ he1 H locs ls hP hD hS (lv_sub hl [3, 1, 0] rfl)
  intro s1 r1 hf ih1 hq1 H locs ls hP hD hS hl
  unfold sX7_figure_7 at hf
  refine lv_iload hx hb dX7_figure_7 (lv_at hl 2 rfl) ?_
  refine lv_iload_n hx hb dX7_figure_9 rfl (lv_at hl 0 rfl) ?_
  refine lv_icmp_le (tgt := 23) hx hb dX7_figure_10 (by decide) (fun c2 => ?_) (fun c2 => ?_)
  · replace hf := ite_t c2 hf
    exact hx1_0 _ (hq1 _ (Option.some.inj hf).symm) H locs ls hP hD hS (lv_sub hl [1] rfl)
  · replace hf := ite_f c2 hf
    refine lv_iload_n hx hb dX7_figure_13 rfl (lv_at hl 1 rfl) ?_
    refine lv_iconst (v := 3) hx hb dX7_figure_14 (by decide) ?_
    refine lv_idiv hx hb dX7_figure_15 (by decide) ?_
    refine lv_istore_n (lv' := [(3, .int (s1.1 / 3)), (1, .int a2), (4, .int s1.2)]) hx hb dX7_figure_16 rfl hl (by decide) rfl (fun ls hl => ?_)
    refine lv_iinc (v := s1.2 + (-1)) (lv' := [(4, .int (s1.2 + (-1))), (3, .int (s1.1 / 3)), (1, .int a2)]) hx hb dX7_figure_17 hl (k := 2) rfl rfl (by decide) rfl (fun ls hl => ?_)
    refine lv_goto (tgt := 7) hx hb dX7_figure_20 (by decide) ?_
    exact ih1 _ (Option.some.inj hf).symm H locs ls hP hD hS (lv_sub hl [2, 1, 0] rfl)

def sX7_goes_27 (v1 : Int32) (v4 : Int32) (g_life : Nat → Int32) (v5 : Int32) (v6 : Int32) : Option ((Int32 × Int32) ⊕ ((Int32))) :=
  if inb 3 55 = true then if (g_life (3 : Int32).toNatClampNeg) ≤ v6 then some (.inr v5) else if inb (38 + (3 * v6)) 55 = true then if (g_life (38 + (3 * v6)).toNatClampNeg) = (v4 - 1) then if inb 3 55 = true then (fX7_figure v1 v6 (g_life (3 : Int32).toNatClampNeg)).bind (fun r10 => some (.inl (r10, v6 + 1))) else none else some (.inl (v5, v6 + 1)) else none else none
def sX7_goes_112 (v4 : Int32) (g_dones : Int32) (g_life : Nat → Int32) (g_done : Nat → Int32) (v3 : Int32) (v5 : Int32) : Option ((Int32 × Int32) ⊕ ((Int32))) :=
  if g_dones ≤ v5 then some (.inr v3) else if inb ((2 * v5) + 1) 16 = true then if inb (2 * v5) 16 = true then jn (fun (x8 : Int32) => if x8 = 0 then some (.inl (v3, v5 + 1)) else if inb ((47 + (2 * (g_done ((2 * v5) + 1).toNatClampNeg))) + 1) 55 = true then some (.inl (g_life ((47 + (2 * (g_done ((2 * v5) + 1).toNatClampNeg))) + 1).toNatClampNeg, v5 + 1)) else none) (fun K8 => jn (fun (x11 : Unit) => K8 0) (fun K11 => if (g_done (2 * v5).toNatClampNeg) = v4 then if inb (47 + (2 * (g_done ((2 * v5) + 1).toNatClampNeg))) 55 = true then if (g_life (47 + (2 * (g_done ((2 * v5) + 1).toNatClampNeg))).toNatClampNeg) = v3 then if inb ((47 + (2 * (g_done ((2 * v5) + 1).toNatClampNeg))) + 1) 55 = true then (fX7_isState (g_life ((47 + (2 * (g_done ((2 * v5) + 1).toNatClampNeg))) + 1).toNatClampNeg) g_life).bind (fun r16 => if (bI r16) = 0 then K11 () else K8 1) else none else K11 () else none else K11 ())) else none else none
def sX7_goes_5 (v1 : Int32) (g_dones : Int32) (g_life : Nat → Int32) (g_done : Nat → Int32) (v3 : Int32) (v4 : Int32) (g_selves : Nat → Int32) : Option ((Int32 × Int32 × (Nat → Int32)) ⊕ (((Nat → Int32)))) :=
  if inb 0 55 = true then if (g_life (0 : Int32).toNatClampNeg) ≤ v4 then some (.inr g_selves) else jn (fun (x4 : Int32) => (lpd (fun s5 => sX7_goes_112 v4 g_dones g_life g_done s5.1 s5.2) FU (x4, 0)).bind (fun (y5_0 : Int32) => if inb v4 16 = true then some (.inl (y5_0, v4 + 1, upd g_selves v4.toNatClampNeg y5_0)) else none)) (fun K4 => if v4 ≤ 0 then K4 v3 else (lpd (fun s21 => sX7_goes_27 v1 v4 g_life s21.1 s21.2) FU (0, 0)).bind (fun (y21_0 : Int32) => (fX7_of v3 (2 + y21_0) g_life).bind (fun r22 => (fX7_isState r22 g_life).bind (fun r23 => jn (fun (x24 : Int32) => K4 x24) (fun K24 => if (bI r23) = 0 then K24 v3 else K24 r22))))) else none
def fX7_goes (a1 : Int32) (a2 : Int32) (g_dones : Int32) (g_life : Nat → Int32) (g_done : Nat → Int32) (g_selves : Nat → Int32) : Option ((Nat → Int32)) :=
  (lpd (fun s1 => sX7_goes_5 a1 g_dones g_life g_done s1.1 s1.2.1 s1.2.2) FU (a2, 0, g_selves)).bind (fun (y1_0 : (Nat → Int32)) => some y1_0)
set_option maxHeartbeats 4000000 in
set_option maxRecDepth 100000 in
theorem ctX7_goes (l : Launch) (D : va_G) (cI cZ cD cH : ClassId) (qg : Nat) (qg_text : Nat) (qg_read : Nat) (qg_life : Nat) (qg_done : Nat) (qg_undone : Nat) (qg_selves : Nat) (qg_when : Nat) (qg_jury : Nat) (qg_years : Nat) (qg_states : Nat) (qg_kept : Nat) (a1 : Int32) (a2 : Int32) (g_size : Int32) (g_at : Int32) (g_begin : Int32) (g_token : Int32) (g_told : Int32) (g_dones : Int32) (g_undos : Int32) (g_seens : Int32) (g_trace : Int64) (g_text : Nat → Int32) (g_read : Nat → Int32) (g_life : Nat → Int32) (g_done : Nat → Int32) (g_undone : Nat → Int32) (g_selves : Nat → Int32) (g_when : Nat → Int32) (g_jury : Nat → Int32) (g_years : Nat → Int32) (g_states : Nat → Int32) (g_kept : Nat → Int32) (o : (Nat → Int32)) (hf : fX7_goes a1 a2 g_dones g_life g_done g_selves = some o) : Ct l yX7_goes cX7_goes 8 none { frames := 2, cells := 0, slots := 0, locals := 46 } D (Tys cI cZ cD cH) [.ref qg, .int a1, .int a2] [(qg, .inr (7, [.ref qg_text, .int g_size, .int g_at, .int g_begin, .int g_token, .int g_told, .ref qg_read, .ref qg_life, .int g_dones, .ref qg_done, .int g_undos, .ref qg_undone, .ref qg_selves, .ref qg_when, .ref qg_jury, .int g_seens, .ref qg_years, .ref qg_states, .long g_trace, .ref qg_kept])), rI cI qg_text 200 g_text, rI cI qg_read 55 g_read, rI cI qg_life 55 g_life, rI cI qg_done 16 g_done, rI cI qg_undone 130 g_undone, rI cI qg_selves 16 g_selves, rI cI qg_when 27 g_when, rI cI qg_jury 16 g_jury, rI cI qg_years 6 g_years, rI cI qg_states 6 g_states, rI cI qg_kept 290 g_kept] [(qg, .inr (7, [.ref qg_text, .int g_size, .int g_at, .int g_begin, .int g_token, .int g_told, .ref qg_read, .ref qg_life, .int g_dones, .ref qg_done, .int g_undos, .ref qg_undone, .ref qg_selves, .ref qg_when, .ref qg_jury, .int g_seens, .ref qg_years, .ref qg_states, .long g_trace, .ref qg_kept])), rI cI qg_text 200 g_text, rI cI qg_read 55 g_read, rI cI qg_life 55 g_life, rI cI qg_done 16 g_done, rI cI qg_undone 130 g_undone, rI cI qg_selves 16 o, rI cI qg_when 27 g_when, rI cI qg_jury 16 g_jury, rI cI qg_years 6 g_years, rI cI qg_states 6 g_states, rI cI qg_kept 290 g_kept] none 0 0 := by
  refine mkV (by decide) (Nat.le_of_ble_eq_true rfl) ?_
  intro p e s m args below meth c A Q X hnm hret ls hl H locs hP hD hS
  replace X : Cx p s m args c D (Tys cI cZ cD cH) A cX7_goes RX7 8 := X
  obtain ⟨hx, hb, hml, hown, hts, hK, hZ, hA⟩ := id X
  have hl : lv_has ls 8 [(0, .ref qg), (1, .int a1), (2, .int a2)] := hl
  unfold fX7_goes at hf
  refine lv_iload_n hx hb dX7_goes_0 rfl (lv_at hl 2 rfl) ?_
  refine lv_istore_n (lv' := [(3, .int a2), (0, .ref qg), (1, .int a1), (2, .int a2)]) hx hb dX7_goes_1 rfl hl (by decide) rfl (fun ls hl => ?_)
  refine lv_iconst (v := 0) hx hb dX7_goes_2 (by decide) ?_
  refine lv_istore (lv' := [(4, .int 0), (3, .int a2), (0, .ref qg), (1, .int a1), (2, .int a2)]) hx hb dX7_goes_3 hl (by decide) rfl (fun ls hl => ?_)
  obtain ⟨e1, he1, hf⟩ := bnd hf
  have hx1_0 : ∀ (y1_0 : (Nat → Int32)), y1_0 = e1 → ∀ (H : Heap) (locs : List Loc) (ls : Array Slot), va_P D vwCl [(qg, .inr (7, [.ref qg_text, .int g_size, .int g_at, .int g_begin, .int g_token, .int g_told, .ref qg_read, .ref qg_life, .int g_dones, .ref qg_done, .int g_undos, .ref qg_undone, .ref qg_selves, .ref qg_when, .ref qg_jury, .int g_seens, .ref qg_years, .ref qg_states, .long g_trace, .ref qg_kept])), rI cI qg_text 200 g_text, rI cI qg_read 55 g_read, rI cI qg_life 55 g_life, rI cI qg_done 16 g_done, rI cI qg_undone 130 g_undone, rI cI qg_selves 16 y1_0, rI cI qg_when 27 g_when, rI cI qg_jury 16 g_jury, rI cI qg_years 6 g_years, rI cI qg_states 6 g_states, rI cI qg_kept 290 g_kept] H → va_D A [(qg, .inr (7, [.ref qg_text, .int g_size, .int g_at, .int g_begin, .int g_token, .int g_told, .ref qg_read, .ref qg_life, .int g_dones, .ref qg_done, .int g_undos, .ref qg_undone, .ref qg_selves, .ref qg_when, .ref qg_jury, .int g_seens, .ref qg_years, .ref qg_states, .long g_trace, .ref qg_kept])), rI cI qg_text 200 g_text, rI cI qg_read 55 g_read, rI cI qg_life 55 g_life, rI cI qg_done 16 g_done, rI cI qg_undone 130 g_undone, rI cI qg_selves 16 y1_0, rI cI qg_when 27 g_when, rI cI qg_jury 16 g_jury, rI cI qg_years 6 g_years, rI cI qg_states 6 g_states, rI cI qg_kept 290 g_kept] → va_S A s.heap H locs → lv_has ls 8 [] → W p l e ({ frames := 2, cells := 0, slots := 0, locals := 46 } : Room) s m args below meth c H locs 0 0 Q (F0 m 226 ls []) := by
    intro y1_0 heq H locs ls hP hD hS hl
    subst heq
    replace hf := Option.some.inj hf
    subst hf
    exact hret H locs _ ls dX7_goes_226 hP hD hS
  refine lpd_ind (P := fun s1 => ∀ (H : Heap) (locs : List Loc) (ls : Array Slot), va_P D vwCl [(qg, .inr (7, [.ref qg_text, .int g_size, .int g_at, .int g_begin, .int g_token, .int g_told, .ref qg_read, .ref qg_life, .int g_dones, .ref qg_done, .int g_undos, .ref qg_undone, .ref qg_selves, .ref qg_when, .ref qg_jury, .int g_seens, .ref qg_years, .ref qg_states, .long g_trace, .ref qg_kept])), rI cI qg_text 200 g_text, rI cI qg_read 55 g_read, rI cI qg_life 55 g_life, rI cI qg_done 16 g_done, rI cI qg_undone 130 g_undone, rI cI qg_selves 16 s1.2.2, rI cI qg_when 27 g_when, rI cI qg_jury 16 g_jury, rI cI qg_years 6 g_years, rI cI qg_states 6 g_states, rI cI qg_kept 290 g_kept] H → va_D A [(qg, .inr (7, [.ref qg_text, .int g_size, .int g_at, .int g_begin, .int g_token, .int g_told, .ref qg_read, .ref qg_life, .int g_dones, .ref qg_done, .int g_undos, .ref qg_undone, .ref qg_selves, .ref qg_when, .ref qg_jury, .int g_seens, .ref qg_years, .ref qg_states, .long g_trace, .ref qg_kept])), rI cI qg_text 200 g_text, rI cI qg_read 55 g_read, rI cI qg_life 55 g_life, rI cI qg_done 16 g_done, rI cI qg_undone 130 g_undone, rI cI qg_selves 16 s1.2.2, rI cI qg_when 27 g_when, rI cI qg_jury 16 g_jury, rI cI qg_years 6 g_years, rI cI qg_states 6 g_states, rI cI qg_kept 290 g_kept] → va_S A s.heap H locs → lv_has ls 8 [(0, .ref qg), (1, .int a1), (3, .int s1.1), (4, .int s1.2.1)] → W p l e ({ frames := 2, cells := 0, slots := 0, locals := 46 } : Room) s m args below meth c H locs 0 0 Q (F0 m 5 ls [])) e1 ?_ _ _ he1 H locs ls hP hD hS (lv_sub hl [2, 3, 1, 0] rfl)
  intro s1 r1 hf ih1 hq1 H locs ls hP hD hS hl
  unfold sX7_goes_5 at hf
  refine lv_iload hx hb dX7_goes_5 (lv_at hl 3 rfl) ?_
  refine lv_aload_n hx hb dX7_goes_7 rfl (lv_at hl 0 rfl) ?_
  refine k_get X hP 0 rfl rfl inX7 7 (by decide) fl_RX7_16 rfl rfl dX7_goes_8 ?_
  refine lv_iconst (v := 0) hx hb dX7_goes_11 (by decide) ?_
  obtain ⟨h2, hf⟩ := ck_t hf
  refine k_iald X hP 3 0 rfl rfl h2 dX7_goes_12 ?_
  refine lv_icmp_ge (tgt := 226) hx hb dX7_goes_13 (by decide) (fun c3 => ?_) (fun c3 => ?_)
  · replace hf := ite_t c3 hf
    exact hx1_0 _ (hq1 _ (Option.some.inj hf).symm) H locs ls hP hD hS (lv_sub hl [] rfl)
  · replace hf := ite_f c3 hf
    refine lv_iload hx hb dX7_goes_16 (lv_at hl 3 rfl) ?_
    refine jn_e hf (fun K4 hf hk4 => ?_)
    have hj4 : ∀ (x4 : Int32) (H : Heap) (locs : List Loc) (ls : Array Slot), K4 x4 = some r1 → va_P D vwCl [(qg, .inr (7, [.ref qg_text, .int g_size, .int g_at, .int g_begin, .int g_token, .int g_told, .ref qg_read, .ref qg_life, .int g_dones, .ref qg_done, .int g_undos, .ref qg_undone, .ref qg_selves, .ref qg_when, .ref qg_jury, .int g_seens, .ref qg_years, .ref qg_states, .long g_trace, .ref qg_kept])), rI cI qg_text 200 g_text, rI cI qg_read 55 g_read, rI cI qg_life 55 g_life, rI cI qg_done 16 g_done, rI cI qg_undone 130 g_undone, rI cI qg_selves 16 s1.2.2, rI cI qg_when 27 g_when, rI cI qg_jury 16 g_jury, rI cI qg_years 6 g_years, rI cI qg_states 6 g_states, rI cI qg_kept 290 g_kept] H → va_D A [(qg, .inr (7, [.ref qg_text, .int g_size, .int g_at, .int g_begin, .int g_token, .int g_told, .ref qg_read, .ref qg_life, .int g_dones, .ref qg_done, .int g_undos, .ref qg_undone, .ref qg_selves, .ref qg_when, .ref qg_jury, .int g_seens, .ref qg_years, .ref qg_states, .long g_trace, .ref qg_kept])), rI cI qg_text 200 g_text, rI cI qg_read 55 g_read, rI cI qg_life 55 g_life, rI cI qg_done 16 g_done, rI cI qg_undone 130 g_undone, rI cI qg_selves 16 s1.2.2, rI cI qg_when 27 g_when, rI cI qg_jury 16 g_jury, rI cI qg_years 6 g_years, rI cI qg_states 6 g_states, rI cI qg_kept 290 g_kept] → va_S A s.heap H locs → lv_has ls 8 [(0, .ref qg), (1, .int a1), (3, .int x4), (4, .int s1.2.1)] → W p l e ({ frames := 2, cells := 0, slots := 0, locals := 46 } : Room) s m args below meth c H locs 0 0 Q (F0 m 109 ls []) := by
      intro x4 H locs ls hf hP hD hS hl
      replace hf := hk4 x4 hf
      refine lv_iconst (v := 0) hx hb dX7_goes_109 (by decide) ?_
      refine lv_istore (lv' := [(5, .int 0), (0, .ref qg), (1, .int a1), (3, .int x4), (4, .int s1.2.1)]) hx hb dX7_goes_110 hl (by decide) rfl (fun ls hl => ?_)
      obtain ⟨e5, he5, hf⟩ := bnd hf
      have hx5_0 : ∀ (y5_0 : Int32), y5_0 = e5 → ∀ (H : Heap) (locs : List Loc) (ls : Array Slot), va_P D vwCl [(qg, .inr (7, [.ref qg_text, .int g_size, .int g_at, .int g_begin, .int g_token, .int g_told, .ref qg_read, .ref qg_life, .int g_dones, .ref qg_done, .int g_undos, .ref qg_undone, .ref qg_selves, .ref qg_when, .ref qg_jury, .int g_seens, .ref qg_years, .ref qg_states, .long g_trace, .ref qg_kept])), rI cI qg_text 200 g_text, rI cI qg_read 55 g_read, rI cI qg_life 55 g_life, rI cI qg_done 16 g_done, rI cI qg_undone 130 g_undone, rI cI qg_selves 16 s1.2.2, rI cI qg_when 27 g_when, rI cI qg_jury 16 g_jury, rI cI qg_years 6 g_years, rI cI qg_states 6 g_states, rI cI qg_kept 290 g_kept] H → va_D A [(qg, .inr (7, [.ref qg_text, .int g_size, .int g_at, .int g_begin, .int g_token, .int g_told, .ref qg_read, .ref qg_life, .int g_dones, .ref qg_done, .int g_undos, .ref qg_undone, .ref qg_selves, .ref qg_when, .ref qg_jury, .int g_seens, .ref qg_years, .ref qg_states, .long g_trace, .ref qg_kept])), rI cI qg_text 200 g_text, rI cI qg_read 55 g_read, rI cI qg_life 55 g_life, rI cI qg_done 16 g_done, rI cI qg_undone 130 g_undone, rI cI qg_selves 16 s1.2.2, rI cI qg_when 27 g_when, rI cI qg_jury 16 g_jury, rI cI qg_years 6 g_years, rI cI qg_states 6 g_states, rI cI qg_kept 290 g_kept] → va_S A s.heap H locs → lv_has ls 8 [(0, .ref qg), (1, .int a1), (3, .int y5_0), (4, .int s1.2.1)] → W p l e ({ frames := 2, cells := 0, slots := 0, locals := 46 } : Room) s m args below meth c H locs 0 0 Q (F0 m 212 ls []) := by
        intro y5_0 heq H locs ls hP hD hS hl
        subst heq
        refine lv_aload_n hx hb dX7_goes_212 rfl (lv_at hl 0 rfl) ?_
        refine k_get X hP 0 rfl rfl inX7 12 (by decide) fl_RX7_25 rfl rfl dX7_goes_213 ?_
        refine lv_iload hx hb dX7_goes_216 (lv_at hl 3 rfl) ?_
        refine lv_iload_n hx hb dX7_goes_218 rfl (lv_at hl 2 rfl) ?_
        obtain ⟨h6, hf⟩ := ck_t hf
        refine k_iast X hP hD hS [(qg, .inr (7, [.ref qg_text, .int g_size, .int g_at, .int g_begin, .int g_token, .int g_told, .ref qg_read, .ref qg_life, .int g_dones, .ref qg_done, .int g_undos, .ref qg_undone, .ref qg_selves, .ref qg_when, .ref qg_jury, .int g_seens, .ref qg_years, .ref qg_states, .long g_trace, .ref qg_kept])), rI cI qg_text 200 g_text, rI cI qg_read 55 g_read, rI cI qg_life 55 g_life, rI cI qg_done 16 g_done, rI cI qg_undone 130 g_undone, rI cI qg_selves 16 (upd s1.2.2 s1.2.1.toNatClampNeg y5_0), rI cI qg_when 27 g_when, rI cI qg_jury 16 g_jury, rI cI qg_years 6 g_years, rI cI qg_states 6 g_states, rI cI qg_kept 290 g_kept] 6 0 rfl rfl h6 rfl dX7_goes_219 (fun H locs hP hD hS => ?_)
        refine lv_iinc (v := s1.2.1 + 1) (lv' := [(4, .int (s1.2.1 + 1)), (0, .ref qg), (1, .int a1), (3, .int y5_0)]) hx hb dX7_goes_220 hl (k := 3) rfl rfl (by decide) rfl (fun ls hl => ?_)
        refine lv_goto (tgt := 5) hx hb dX7_goes_223 (by decide) ?_
        exact ih1 _ (Option.some.inj hf).symm H locs ls hP hD hS (lv_sub hl [1, 2, 3, 0] rfl)
      refine lpd_ind (P := fun s5 => ∀ (H : Heap) (locs : List Loc) (ls : Array Slot), va_P D vwCl [(qg, .inr (7, [.ref qg_text, .int g_size, .int g_at, .int g_begin, .int g_token, .int g_told, .ref qg_read, .ref qg_life, .int g_dones, .ref qg_done, .int g_undos, .ref qg_undone, .ref qg_selves, .ref qg_when, .ref qg_jury, .int g_seens, .ref qg_years, .ref qg_states, .long g_trace, .ref qg_kept])), rI cI qg_text 200 g_text, rI cI qg_read 55 g_read, rI cI qg_life 55 g_life, rI cI qg_done 16 g_done, rI cI qg_undone 130 g_undone, rI cI qg_selves 16 s1.2.2, rI cI qg_when 27 g_when, rI cI qg_jury 16 g_jury, rI cI qg_years 6 g_years, rI cI qg_states 6 g_states, rI cI qg_kept 290 g_kept] H → va_D A [(qg, .inr (7, [.ref qg_text, .int g_size, .int g_at, .int g_begin, .int g_token, .int g_told, .ref qg_read, .ref qg_life, .int g_dones, .ref qg_done, .int g_undos, .ref qg_undone, .ref qg_selves, .ref qg_when, .ref qg_jury, .int g_seens, .ref qg_years, .ref qg_states, .long g_trace, .ref qg_kept])), rI cI qg_text 200 g_text, rI cI qg_read 55 g_read, rI cI qg_life 55 g_life, rI cI qg_done 16 g_done, rI cI qg_undone 130 g_undone, rI cI qg_selves 16 s1.2.2, rI cI qg_when 27 g_when, rI cI qg_jury 16 g_jury, rI cI qg_years 6 g_years, rI cI qg_states 6 g_states, rI cI qg_kept 290 g_kept] → va_S A s.heap H locs → lv_has ls 8 [(0, .ref qg), (1, .int a1), (3, .int s5.1), (4, .int s1.2.1), (5, .int s5.2)] → W p l e ({ frames := 2, cells := 0, slots := 0, locals := 46 } : Room) s m args below meth c H locs 0 0 Q (F0 m 112 ls [])) e5 ?_ _ _ he5 H locs ls hP hD hS (lv_sub hl [1, 2, 3, 4, 0] rfl)
      intro s5 r5 hf ih5 hq5 H locs ls hP hD hS hl
      unfold sX7_goes_112 at hf
      refine lv_iload hx hb dX7_goes_112 (lv_at hl 4 rfl) ?_
      refine lv_aload_n hx hb dX7_goes_114 rfl (lv_at hl 0 rfl) ?_
      refine k_get X hP 0 rfl rfl inX7 8 (by decide) fl_RX7_119 rfl rfl dX7_goes_115 ?_
      refine lv_icmp_ge (tgt := 212) hx hb dX7_goes_118 (by decide) (fun c7 => ?_) (fun c7 => ?_)
      · replace hf := ite_t c7 hf
        exact hx5_0 _ (hq5 _ (Option.some.inj hf).symm) H locs ls hP hD hS (lv_sub hl [0, 1, 2, 3] rfl)
      · replace hf := ite_f c7 hf
        refine lv_bipush (v := 47) hx hb dX7_goes_121 (by decide) ?_
        refine lv_iconst (v := 2) hx hb dX7_goes_123 (by decide) ?_
        refine lv_aload_n hx hb dX7_goes_124 rfl (lv_at hl 0 rfl) ?_
        refine k_get X hP 0 rfl rfl inX7 9 (by decide) fl_RX7_19 rfl rfl dX7_goes_125 ?_
        refine lv_iconst (v := 2) hx hb dX7_goes_128 (by decide) ?_
        refine lv_iload hx hb dX7_goes_129 (lv_at hl 4 rfl) ?_
        refine lv_imul hx hb dX7_goes_131 ?_
        refine lv_iconst (v := 1) hx hb dX7_goes_132 (by decide) ?_
        refine lv_iadd hx hb dX7_goes_133 ?_
        obtain ⟨h8, hf⟩ := ck_t hf
        refine k_iald X hP 4 0 rfl rfl h8 dX7_goes_134 ?_
        refine lv_imul hx hb dX7_goes_135 ?_
        refine lv_iadd hx hb dX7_goes_136 ?_
        refine lv_istore (lv' := [(6, .int (47 + (2 * (g_done ((2 * s5.2) + 1).toNatClampNeg)))), (0, .ref qg), (1, .int a1), (3, .int s5.1), (4, .int s1.2.1), (5, .int s5.2)]) hx hb dX7_goes_137 hl (by decide) rfl (fun ls hl => ?_)
        refine lv_aload_n hx hb dX7_goes_139 rfl (lv_at hl 1 rfl) ?_
        refine k_get X hP 0 rfl rfl inX7 9 (by decide) fl_RX7_19 rfl rfl dX7_goes_140 ?_
        refine lv_iconst (v := 2) hx hb dX7_goes_143 (by decide) ?_
        refine lv_iload hx hb dX7_goes_144 (lv_at hl 5 rfl) ?_
        refine lv_imul hx hb dX7_goes_146 ?_
        obtain ⟨h9, hf⟩ := ck_t hf
        refine k_iald X hP 4 0 rfl rfl h9 dX7_goes_147 ?_
        refine lv_iload hx hb dX7_goes_148 (lv_at hl 4 rfl) ?_
        refine jn_e hf (fun K10 hf hk10 => ?_)
        have hj10 : ∀ (x10 : Int32) (H : Heap) (locs : List Loc) (ls : Array Slot), K10 x10 = some r5 → va_P D vwCl [(qg, .inr (7, [.ref qg_text, .int g_size, .int g_at, .int g_begin, .int g_token, .int g_told, .ref qg_read, .ref qg_life, .int g_dones, .ref qg_done, .int g_undos, .ref qg_undone, .ref qg_selves, .ref qg_when, .ref qg_jury, .int g_seens, .ref qg_years, .ref qg_states, .long g_trace, .ref qg_kept])), rI cI qg_text 200 g_text, rI cI qg_read 55 g_read, rI cI qg_life 55 g_life, rI cI qg_done 16 g_done, rI cI qg_undone 130 g_undone, rI cI qg_selves 16 s1.2.2, rI cI qg_when 27 g_when, rI cI qg_jury 16 g_jury, rI cI qg_years 6 g_years, rI cI qg_states 6 g_states, rI cI qg_kept 290 g_kept] H → va_D A [(qg, .inr (7, [.ref qg_text, .int g_size, .int g_at, .int g_begin, .int g_token, .int g_told, .ref qg_read, .ref qg_life, .int g_dones, .ref qg_done, .int g_undos, .ref qg_undone, .ref qg_selves, .ref qg_when, .ref qg_jury, .int g_seens, .ref qg_years, .ref qg_states, .long g_trace, .ref qg_kept])), rI cI qg_text 200 g_text, rI cI qg_read 55 g_read, rI cI qg_life 55 g_life, rI cI qg_done 16 g_done, rI cI qg_undone 130 g_undone, rI cI qg_selves 16 s1.2.2, rI cI qg_when 27 g_when, rI cI qg_jury 16 g_jury, rI cI qg_years 6 g_years, rI cI qg_states 6 g_states, rI cI qg_kept 290 g_kept] → va_S A s.heap H locs → lv_has ls 8 [(0, .ref qg), (1, .int a1), (3, .int s5.1), (4, .int s1.2.1), (5, .int s5.2), (6, .int (47 + (2 * (g_done ((2 * s5.2) + 1).toNatClampNeg))))] → W p l e ({ frames := 2, cells := 0, slots := 0, locals := 46 } : Room) s m args below meth c H locs 0 0 Q (F0 m 185 ls [.int x10]) := by
          intro x10 H locs ls hf hP hD hS hl
          replace hf := hk10 x10 hf
          refine lv_istore (lv' := [(7, .int x10), (0, .ref qg), (1, .int a1), (3, .int s5.1), (4, .int s1.2.1), (5, .int s5.2), (6, .int (47 + (2 * (g_done ((2 * s5.2) + 1).toNatClampNeg))))]) hx hb dX7_goes_185 hl (by decide) rfl (fun ls hl => ?_)
          refine lv_iload hx hb dX7_goes_187 (lv_at hl 0 rfl) ?_
          refine lv_if_eq (tgt := 204) hx hb dX7_goes_189 (by decide) (fun c11 => ?_) (fun c11 => ?_)
          · replace hf := ite_t c11 hf
            refine lv_iload_n hx hb dX7_goes_204 rfl (lv_at hl 3 rfl) ?_
            refine lv_istore_n (lv' := [(3, .int s5.1), (7, .int x10), (0, .ref qg), (1, .int a1), (4, .int s1.2.1), (5, .int s5.2), (6, .int (47 + (2 * (g_done ((2 * s5.2) + 1).toNatClampNeg))))]) hx hb dX7_goes_205 rfl hl (by decide) rfl (fun ls hl => ?_)
            refine lv_iinc (v := s5.2 + 1) (lv' := [(5, .int (s5.2 + 1)), (3, .int s5.1), (7, .int x10), (0, .ref qg), (1, .int a1), (4, .int s1.2.1), (6, .int (47 + (2 * (g_done ((2 * s5.2) + 1).toNatClampNeg))))]) hx hb dX7_goes_206 hl (k := 5) rfl rfl (by decide) rfl (fun ls hl => ?_)
            refine lv_goto (tgt := 112) hx hb dX7_goes_209 (by decide) ?_
            exact ih5 _ (Option.some.inj hf).symm H locs ls hP hD hS (lv_sub hl [3, 4, 1, 5, 0] rfl)
          · replace hf := ite_f c11 hf
            refine lv_aload_n hx hb dX7_goes_192 rfl (lv_at hl 1 rfl) ?_
            refine k_get X hP 0 rfl rfl inX7 7 (by decide) fl_RX7_16 rfl rfl dX7_goes_193 ?_
            refine lv_iload hx hb dX7_goes_196 (lv_at hl 6 rfl) ?_
            refine lv_iconst (v := 1) hx hb dX7_goes_198 (by decide) ?_
            refine lv_iadd hx hb dX7_goes_199 ?_
            obtain ⟨h12, hf⟩ := ck_t hf
            refine k_iald X hP 3 0 rfl rfl h12 dX7_goes_200 ?_
            refine lv_goto (tgt := 205) hx hb dX7_goes_201 (by decide) ?_
            refine lv_istore_n (lv' := [(3, .int (g_life ((47 + (2 * (g_done ((2 * s5.2) + 1).toNatClampNeg))) + 1).toNatClampNeg)), (7, .int x10), (0, .ref qg), (1, .int a1), (4, .int s1.2.1), (5, .int s5.2), (6, .int (47 + (2 * (g_done ((2 * s5.2) + 1).toNatClampNeg))))]) hx hb dX7_goes_205 rfl hl (by decide) rfl (fun ls hl => ?_)
            refine lv_iinc (v := s5.2 + 1) (lv' := [(5, .int (s5.2 + 1)), (3, .int (g_life ((47 + (2 * (g_done ((2 * s5.2) + 1).toNatClampNeg))) + 1).toNatClampNeg)), (7, .int x10), (0, .ref qg), (1, .int a1), (4, .int s1.2.1), (6, .int (47 + (2 * (g_done ((2 * s5.2) + 1).toNatClampNeg))))]) hx hb dX7_goes_206 hl (k := 5) rfl rfl (by decide) rfl (fun ls hl => ?_)
            refine lv_goto (tgt := 112) hx hb dX7_goes_209 (by decide) ?_
            exact ih5 _ (Option.some.inj hf).symm H locs ls hP hD hS (lv_sub hl [3, 4, 1, 5, 0] rfl)
        refine jn_e hf (fun K13 hf hk13 => ?_)
        have hj13 : ∀ (x13 : Unit) (H : Heap) (locs : List Loc) (ls : Array Slot), K13 x13 = some r5 → va_P D vwCl [(qg, .inr (7, [.ref qg_text, .int g_size, .int g_at, .int g_begin, .int g_token, .int g_told, .ref qg_read, .ref qg_life, .int g_dones, .ref qg_done, .int g_undos, .ref qg_undone, .ref qg_selves, .ref qg_when, .ref qg_jury, .int g_seens, .ref qg_years, .ref qg_states, .long g_trace, .ref qg_kept])), rI cI qg_text 200 g_text, rI cI qg_read 55 g_read, rI cI qg_life 55 g_life, rI cI qg_done 16 g_done, rI cI qg_undone 130 g_undone, rI cI qg_selves 16 s1.2.2, rI cI qg_when 27 g_when, rI cI qg_jury 16 g_jury, rI cI qg_years 6 g_years, rI cI qg_states 6 g_states, rI cI qg_kept 290 g_kept] H → va_D A [(qg, .inr (7, [.ref qg_text, .int g_size, .int g_at, .int g_begin, .int g_token, .int g_told, .ref qg_read, .ref qg_life, .int g_dones, .ref qg_done, .int g_undos, .ref qg_undone, .ref qg_selves, .ref qg_when, .ref qg_jury, .int g_seens, .ref qg_years, .ref qg_states, .long g_trace, .ref qg_kept])), rI cI qg_text 200 g_text, rI cI qg_read 55 g_read, rI cI qg_life 55 g_life, rI cI qg_done 16 g_done, rI cI qg_undone 130 g_undone, rI cI qg_selves 16 s1.2.2, rI cI qg_when 27 g_when, rI cI qg_jury 16 g_jury, rI cI qg_years 6 g_years, rI cI qg_states 6 g_states, rI cI qg_kept 290 g_kept] → va_S A s.heap H locs → lv_has ls 8 [(0, .ref qg), (1, .int a1), (3, .int s5.1), (4, .int s1.2.1), (5, .int s5.2), (6, .int (47 + (2 * (g_done ((2 * s5.2) + 1).toNatClampNeg))))] → W p l e ({ frames := 2, cells := 0, slots := 0, locals := 46 } : Room) s m args below meth c H locs 0 0 Q (F0 m 184 ls []) := by
          intro x13 H locs ls hf hP hD hS hl
          replace hf := hk13 x13 hf
          refine lv_iconst (v := 0) hx hb dX7_goes_184 (by decide) ?_
          exact hj10 _ H locs ls hf hP hD hS hl
        refine lv_icmp_ne (tgt := 184) hx hb dX7_goes_150 (by decide) (fun c14 => ?_) (fun c14 => ?_)
        · replace hf := ite_f c14 hf
          exact hj13 _ H locs ls hf hP hD hS (lv_sub hl [1, 2, 3, 4, 5, 0] rfl)
        · replace hf := ite_t c14 hf
          refine lv_aload_n hx hb dX7_goes_153 rfl (lv_at hl 1 rfl) ?_
          refine k_get X hP 0 rfl rfl inX7 7 (by decide) fl_RX7_16 rfl rfl dX7_goes_154 ?_
          refine lv_iload hx hb dX7_goes_157 (lv_at hl 0 rfl) ?_
          obtain ⟨h15, hf⟩ := ck_t hf
          refine k_iald X hP 3 0 rfl rfl h15 dX7_goes_159 ?_
          refine lv_iload_n hx hb dX7_goes_160 rfl (lv_at hl 3 rfl) ?_
          refine lv_icmp_ne (tgt := 184) hx hb dX7_goes_161 (by decide) (fun c16 => ?_) (fun c16 => ?_)
          · replace hf := ite_f c16 hf
            exact hj13 _ H locs ls hf hP hD hS (lv_sub hl [1, 2, 3, 4, 5, 0] rfl)
          · replace hf := ite_t c16 hf
            refine lv_aload_n hx hb dX7_goes_164 rfl (lv_at hl 1 rfl) ?_
            refine lv_aload_n hx hb dX7_goes_165 rfl (lv_at hl 1 rfl) ?_
            refine k_get X hP 0 rfl rfl inX7 7 (by decide) fl_RX7_16 rfl rfl dX7_goes_166 ?_
            refine lv_iload hx hb dX7_goes_169 (lv_at hl 0 rfl) ?_
            refine lv_iconst (v := 1) hx hb dX7_goes_171 (by decide) ?_
            refine lv_iadd hx hb dX7_goes_172 ?_
            obtain ⟨h17, hf⟩ := ck_t hf
            refine k_iald X hP 3 0 rfl rfl h17 dX7_goes_173 ?_
            obtain ⟨r18, hr18, hf⟩ := bnd hf
            refine k_callV X hP hD hS [(qg, .inr (7, [.ref qg_text, .int g_size, .int g_at, .int g_begin, .int g_token, .int g_told, .ref qg_read, .ref qg_life, .int g_dones, .ref qg_done, .int g_undos, .ref qg_undone, .ref qg_selves, .ref qg_when, .ref qg_jury, .int g_seens, .ref qg_years, .ref qg_states, .long g_trace, .ref qg_kept])), rI cI qg_text 200 g_text, rI cI qg_read 55 g_read, rI cI qg_life 55 g_life, rI cI qg_done 16 g_done, rI cI qg_undone 130 g_undone, rI cI qg_selves 16 s1.2.2, rI cI qg_when 27 g_when, rI cI qg_jury 16 g_jury, rI cI qg_years 6 g_years, rI cI qg_states 6 g_states, rI cI qg_kept 290 g_kept] (ctX7_isState l D cI cZ cD cH qg qg_text qg_read qg_life qg_done qg_undone qg_selves qg_when qg_jury qg_years qg_states qg_kept (g_life ((47 + (2 * (g_done ((2 * s5.2) + 1).toNatClampNeg))) + 1).toNatClampNeg) g_size g_at g_begin g_token g_told g_dones g_undos g_seens g_trace g_text g_read g_life g_done g_undone s1.2.2 g_when g_jury g_years g_states g_kept r18 hr18) ml_RX7_132 im_yX7_isState se_yX7_isState in_RX7 cd_yX7_isState rfl rfl hd_yX7_isState ⟨by decide, by decide⟩ ⟨Nat.zero_le _, Nat.zero_le _⟩ [0, 1, 2, 3, 4, 5, 6, 7, 8, 9, 10, 11] [some 0, some 1, some 2, some 3, some 4, some 5, some 6, some 7, some 8, some 9, some 10, some 11] rfl (by decide +kernel) rfl (by decide +kernel) rfl rfl (q0 := 0) rfl rfl rfl hl.1 rfl rfl (Nat.le_of_ble_eq_true rfl) rfl dX7_goes_174 (fun H locs hP hD hS => ?_)
            refine lv_if_eq (tgt := 184) hx hb dX7_goes_177 (by decide) (fun c19 => ?_) (fun c19 => ?_)
            · replace hf := ite_t c19 hf
              exact hj13 _ H locs ls hf hP hD hS (lv_sub hl [1, 2, 3, 4, 5, 0] rfl)
            · replace hf := ite_f c19 hf
              refine lv_iconst (v := 1) hx hb dX7_goes_180 (by decide) ?_
              refine lv_goto (tgt := 185) hx hb dX7_goes_181 (by decide) ?_
              exact hj10 _ H locs ls hf hP hD hS (lv_sub hl [1, 2, 3, 4, 5, 0] rfl)
    refine lv_if_le (tgt := 109) hx hb dX7_goes_18 (by decide) (fun c20 => ?_) (fun c20 => ?_)
    · replace hf := ite_t c20 hf
      exact hj4 _ H locs ls hf hP hD hS hl
    · replace hf := ite_f c20 hf
      refine lv_iconst (v := 0) hx hb dX7_goes_21 (by decide) ?_
      refine lv_istore (lv' := [(5, .int 0), (0, .ref qg), (1, .int a1), (3, .int s1.1), (4, .int s1.2.1)]) hx hb dX7_goes_22 hl (by decide) rfl (fun ls hl => ?_)
      refine lv_iconst (v := 0) hx hb dX7_goes_24 (by decide) ?_
      refine lv_istore (lv' := [(6, .int 0), (5, .int 0), (0, .ref qg), (1, .int a1), (3, .int s1.1), (4, .int s1.2.1)]) hx hb dX7_goes_25 hl (by decide) rfl (fun ls hl => ?_)
      obtain ⟨e21, he21, hf⟩ := bnd hf
      have hx21_0 : ∀ (y21_0 : Int32), y21_0 = e21 → ∀ (H : Heap) (locs : List Loc) (ls : Array Slot), va_P D vwCl [(qg, .inr (7, [.ref qg_text, .int g_size, .int g_at, .int g_begin, .int g_token, .int g_told, .ref qg_read, .ref qg_life, .int g_dones, .ref qg_done, .int g_undos, .ref qg_undone, .ref qg_selves, .ref qg_when, .ref qg_jury, .int g_seens, .ref qg_years, .ref qg_states, .long g_trace, .ref qg_kept])), rI cI qg_text 200 g_text, rI cI qg_read 55 g_read, rI cI qg_life 55 g_life, rI cI qg_done 16 g_done, rI cI qg_undone 130 g_undone, rI cI qg_selves 16 s1.2.2, rI cI qg_when 27 g_when, rI cI qg_jury 16 g_jury, rI cI qg_years 6 g_years, rI cI qg_states 6 g_states, rI cI qg_kept 290 g_kept] H → va_D A [(qg, .inr (7, [.ref qg_text, .int g_size, .int g_at, .int g_begin, .int g_token, .int g_told, .ref qg_read, .ref qg_life, .int g_dones, .ref qg_done, .int g_undos, .ref qg_undone, .ref qg_selves, .ref qg_when, .ref qg_jury, .int g_seens, .ref qg_years, .ref qg_states, .long g_trace, .ref qg_kept])), rI cI qg_text 200 g_text, rI cI qg_read 55 g_read, rI cI qg_life 55 g_life, rI cI qg_done 16 g_done, rI cI qg_undone 130 g_undone, rI cI qg_selves 16 s1.2.2, rI cI qg_when 27 g_when, rI cI qg_jury 16 g_jury, rI cI qg_years 6 g_years, rI cI qg_states 6 g_states, rI cI qg_kept 290 g_kept] → va_S A s.heap H locs → lv_has ls 8 [(0, .ref qg), (1, .int a1), (3, .int s1.1), (4, .int s1.2.1), (5, .int y21_0)] → W p l e ({ frames := 2, cells := 0, slots := 0, locals := 46 } : Room) s m args below meth c H locs 0 0 Q (F0 m 82 ls []) := by
        intro y21_0 heq H locs ls hP hD hS hl
        subst heq
        refine lv_aload_n hx hb dX7_goes_82 rfl (lv_at hl 0 rfl) ?_
        refine lv_iload_n hx hb dX7_goes_83 rfl (lv_at hl 2 rfl) ?_
        refine lv_iconst (v := 2) hx hb dX7_goes_84 (by decide) ?_
        refine lv_iload hx hb dX7_goes_85 (lv_at hl 4 rfl) ?_
        refine lv_iadd hx hb dX7_goes_87 ?_
        obtain ⟨r22, hr22, hf⟩ := bnd hf
        refine k_callV X hP hD hS [(qg, .inr (7, [.ref qg_text, .int g_size, .int g_at, .int g_begin, .int g_token, .int g_told, .ref qg_read, .ref qg_life, .int g_dones, .ref qg_done, .int g_undos, .ref qg_undone, .ref qg_selves, .ref qg_when, .ref qg_jury, .int g_seens, .ref qg_years, .ref qg_states, .long g_trace, .ref qg_kept])), rI cI qg_text 200 g_text, rI cI qg_read 55 g_read, rI cI qg_life 55 g_life, rI cI qg_done 16 g_done, rI cI qg_undone 130 g_undone, rI cI qg_selves 16 s1.2.2, rI cI qg_when 27 g_when, rI cI qg_jury 16 g_jury, rI cI qg_years 6 g_years, rI cI qg_states 6 g_states, rI cI qg_kept 290 g_kept] (ctX7_of l D cI cZ cD cH qg qg_text qg_read qg_life qg_done qg_undone qg_selves qg_when qg_jury qg_years qg_states qg_kept s1.1 (2 + y21_0) g_size g_at g_begin g_token g_told g_dones g_undos g_seens g_trace g_text g_read g_life g_done g_undone s1.2.2 g_when g_jury g_years g_states g_kept r22 hr22) ml_RX7_128 im_yX7_of se_yX7_of in_RX7 cd_yX7_of rfl rfl hd_yX7_of ⟨by decide, by decide⟩ ⟨Nat.zero_le _, Nat.zero_le _⟩ [0, 1, 2, 3, 4, 5, 6, 7, 8, 9, 10, 11] [some 0, some 1, some 2, some 3, some 4, some 5, some 6, some 7, some 8, some 9, some 10, some 11] rfl (by decide +kernel) rfl (by decide +kernel) rfl rfl (q0 := 0) rfl rfl rfl hl.1 rfl rfl (Nat.le_of_ble_eq_true rfl) rfl dX7_goes_88 (fun H locs hP hD hS => ?_)
        refine lv_istore (lv' := [(6, .int r22), (0, .ref qg), (1, .int a1), (3, .int s1.1), (4, .int s1.2.1), (5, .int y21_0)]) hx hb dX7_goes_91 hl (by decide) rfl (fun ls hl => ?_)
        refine lv_aload_n hx hb dX7_goes_93 rfl (lv_at hl 1 rfl) ?_
        refine lv_iload hx hb dX7_goes_94 (lv_at hl 0 rfl) ?_
        obtain ⟨r23, hr23, hf⟩ := bnd hf
        refine k_callV X hP hD hS [(qg, .inr (7, [.ref qg_text, .int g_size, .int g_at, .int g_begin, .int g_token, .int g_told, .ref qg_read, .ref qg_life, .int g_dones, .ref qg_done, .int g_undos, .ref qg_undone, .ref qg_selves, .ref qg_when, .ref qg_jury, .int g_seens, .ref qg_years, .ref qg_states, .long g_trace, .ref qg_kept])), rI cI qg_text 200 g_text, rI cI qg_read 55 g_read, rI cI qg_life 55 g_life, rI cI qg_done 16 g_done, rI cI qg_undone 130 g_undone, rI cI qg_selves 16 s1.2.2, rI cI qg_when 27 g_when, rI cI qg_jury 16 g_jury, rI cI qg_years 6 g_years, rI cI qg_states 6 g_states, rI cI qg_kept 290 g_kept] (ctX7_isState l D cI cZ cD cH qg qg_text qg_read qg_life qg_done qg_undone qg_selves qg_when qg_jury qg_years qg_states qg_kept r22 g_size g_at g_begin g_token g_told g_dones g_undos g_seens g_trace g_text g_read g_life g_done g_undone s1.2.2 g_when g_jury g_years g_states g_kept r23 hr23) ml_RX7_132 im_yX7_isState se_yX7_isState in_RX7 cd_yX7_isState rfl rfl hd_yX7_isState ⟨by decide, by decide⟩ ⟨Nat.zero_le _, Nat.zero_le _⟩ [0, 1, 2, 3, 4, 5, 6, 7, 8, 9, 10, 11] [some 0, some 1, some 2, some 3, some 4, some 5, some 6, some 7, some 8, some 9, some 10, some 11] rfl (by decide +kernel) rfl (by decide +kernel) rfl rfl (q0 := 0) rfl rfl rfl hl.1 rfl rfl (Nat.le_of_ble_eq_true rfl) rfl dX7_goes_96 (fun H locs hP hD hS => ?_)
        refine jn_e hf (fun K24 hf hk24 => ?_)
        have hj24 : ∀ (x24 : Int32) (H : Heap) (locs : List Loc) (ls : Array Slot), K24 x24 = some r1 → va_P D vwCl [(qg, .inr (7, [.ref qg_text, .int g_size, .int g_at, .int g_begin, .int g_token, .int g_told, .ref qg_read, .ref qg_life, .int g_dones, .ref qg_done, .int g_undos, .ref qg_undone, .ref qg_selves, .ref qg_when, .ref qg_jury, .int g_seens, .ref qg_years, .ref qg_states, .long g_trace, .ref qg_kept])), rI cI qg_text 200 g_text, rI cI qg_read 55 g_read, rI cI qg_life 55 g_life, rI cI qg_done 16 g_done, rI cI qg_undone 130 g_undone, rI cI qg_selves 16 s1.2.2, rI cI qg_when 27 g_when, rI cI qg_jury 16 g_jury, rI cI qg_years 6 g_years, rI cI qg_states 6 g_states, rI cI qg_kept 290 g_kept] H → va_D A [(qg, .inr (7, [.ref qg_text, .int g_size, .int g_at, .int g_begin, .int g_token, .int g_told, .ref qg_read, .ref qg_life, .int g_dones, .ref qg_done, .int g_undos, .ref qg_undone, .ref qg_selves, .ref qg_when, .ref qg_jury, .int g_seens, .ref qg_years, .ref qg_states, .long g_trace, .ref qg_kept])), rI cI qg_text 200 g_text, rI cI qg_read 55 g_read, rI cI qg_life 55 g_life, rI cI qg_done 16 g_done, rI cI qg_undone 130 g_undone, rI cI qg_selves 16 s1.2.2, rI cI qg_when 27 g_when, rI cI qg_jury 16 g_jury, rI cI qg_years 6 g_years, rI cI qg_states 6 g_states, rI cI qg_kept 290 g_kept] → va_S A s.heap H locs → lv_has ls 8 [(0, .ref qg), (1, .int a1), (4, .int s1.2.1)] → W p l e ({ frames := 2, cells := 0, slots := 0, locals := 46 } : Room) s m args below meth c H locs 0 0 Q (F0 m 108 ls [.int x24]) := by
          intro x24 H locs ls hf hP hD hS hl
          replace hf := hk24 x24 hf
          refine lv_istore_n (lv' := [(3, .int x24), (0, .ref qg), (1, .int a1), (4, .int s1.2.1)]) hx hb dX7_goes_108 rfl hl (by decide) rfl (fun ls hl => ?_)
          exact hj4 _ H locs ls hf hP hD hS (lv_sub hl [1, 2, 0, 3] rfl)
        refine lv_if_eq (tgt := 107) hx hb dX7_goes_99 (by decide) (fun c25 => ?_) (fun c25 => ?_)
        · replace hf := ite_t c25 hf
          refine lv_iload_n hx hb dX7_goes_107 rfl (lv_at hl 3 rfl) ?_
          exact hj24 _ H locs ls hf hP hD hS (lv_sub hl [1, 2, 4] rfl)
        · replace hf := ite_f c25 hf
          refine lv_iload hx hb dX7_goes_102 (lv_at hl 0 rfl) ?_
          refine lv_goto (tgt := 108) hx hb dX7_goes_104 (by decide) ?_
          exact hj24 _ H locs ls hf hP hD hS (lv_sub hl [1, 2, 4] rfl)
      refine lpd_ind (P := fun s21 => ∀ (H : Heap) (locs : List Loc) (ls : Array Slot), va_P D vwCl [(qg, .inr (7, [.ref qg_text, .int g_size, .int g_at, .int g_begin, .int g_token, .int g_told, .ref qg_read, .ref qg_life, .int g_dones, .ref qg_done, .int g_undos, .ref qg_undone, .ref qg_selves, .ref qg_when, .ref qg_jury, .int g_seens, .ref qg_years, .ref qg_states, .long g_trace, .ref qg_kept])), rI cI qg_text 200 g_text, rI cI qg_read 55 g_read, rI cI qg_life 55 g_life, rI cI qg_done 16 g_done, rI cI qg_undone 130 g_undone, rI cI qg_selves 16 s1.2.2, rI cI qg_when 27 g_when, rI cI qg_jury 16 g_jury, rI cI qg_years 6 g_years, rI cI qg_states 6 g_states, rI cI qg_kept 290 g_kept] H → va_D A [(qg, .inr (7, [.ref qg_text, .int g_size, .int g_at, .int g_begin, .int g_token, .int g_told, .ref qg_read, .ref qg_life, .int g_dones, .ref qg_done, .int g_undos, .ref qg_undone, .ref qg_selves, .ref qg_when, .ref qg_jury, .int g_seens, .ref qg_years, .ref qg_states, .long g_trace, .ref qg_kept])), rI cI qg_text 200 g_text, rI cI qg_read 55 g_read, rI cI qg_life 55 g_life, rI cI qg_done 16 g_done, rI cI qg_undone 130 g_undone, rI cI qg_selves 16 s1.2.2, rI cI qg_when 27 g_when, rI cI qg_jury 16 g_jury, rI cI qg_years 6 g_years, rI cI qg_states 6 g_states, rI cI qg_kept 290 g_kept] → va_S A s.heap H locs → lv_has ls 8 [(0, .ref qg), (1, .int a1), (3, .int s1.1), (4, .int s1.2.1), (5, .int s21.1), (6, .int s21.2)] → W p l e ({ frames := 2, cells := 0, slots := 0, locals := 46 } : Room) s m args below meth c H locs 0 0 Q (F0 m 27 ls [])) e21 ?_ _ _ he21 H locs ls hP hD hS (lv_sub hl [2, 3, 4, 5, 1, 0] rfl)
      intro s21 r21 hf ih21 hq21 H locs ls hP hD hS hl
      unfold sX7_goes_27 at hf
      refine lv_iload hx hb dX7_goes_27 (lv_at hl 5 rfl) ?_
      refine lv_aload_n hx hb dX7_goes_29 rfl (lv_at hl 0 rfl) ?_
      refine k_get X hP 0 rfl rfl inX7 7 (by decide) fl_RX7_16 rfl rfl dX7_goes_30 ?_
      refine lv_iconst (v := 3) hx hb dX7_goes_33 (by decide) ?_
      obtain ⟨h26, hf⟩ := ck_t hf
      refine k_iald X hP 3 0 rfl rfl h26 dX7_goes_34 ?_
      refine lv_icmp_ge (tgt := 82) hx hb dX7_goes_35 (by decide) (fun c27 => ?_) (fun c27 => ?_)
      · replace hf := ite_t c27 hf
        exact hx21_0 _ (hq21 _ (Option.some.inj hf).symm) H locs ls hP hD hS (lv_sub hl [0, 1, 2, 3, 4] rfl)
      · replace hf := ite_f c27 hf
        refine lv_aload_n hx hb dX7_goes_38 rfl (lv_at hl 0 rfl) ?_
        refine k_get X hP 0 rfl rfl inX7 7 (by decide) fl_RX7_16 rfl rfl dX7_goes_39 ?_
        refine lv_bipush (v := 38) hx hb dX7_goes_42 (by decide) ?_
        refine lv_iconst (v := 3) hx hb dX7_goes_44 (by decide) ?_
        refine lv_iload hx hb dX7_goes_45 (lv_at hl 5 rfl) ?_
        refine lv_imul hx hb dX7_goes_47 ?_
        refine lv_iadd hx hb dX7_goes_48 ?_
        obtain ⟨h28, hf⟩ := ck_t hf
        refine k_iald X hP 3 0 rfl rfl h28 dX7_goes_49 ?_
        refine lv_iload hx hb dX7_goes_50 (lv_at hl 3 rfl) ?_
        refine lv_iconst (v := 1) hx hb dX7_goes_52 (by decide) ?_
        refine lv_isub hx hb dX7_goes_53 ?_
        refine lv_icmp_ne (tgt := 72) hx hb dX7_goes_54 (by decide) (fun c29 => ?_) (fun c29 => ?_)
        · replace hf := ite_f c29 hf
          refine lv_iload hx hb dX7_goes_72 (lv_at hl 4 rfl) ?_
          refine lv_istore (lv' := [(5, .int s21.1), (0, .ref qg), (1, .int a1), (3, .int s1.1), (4, .int s1.2.1), (6, .int s21.2)]) hx hb dX7_goes_74 hl (by decide) rfl (fun ls hl => ?_)
          refine lv_iinc (v := s21.2 + 1) (lv' := [(6, .int (s21.2 + 1)), (5, .int s21.1), (0, .ref qg), (1, .int a1), (3, .int s1.1), (4, .int s1.2.1)]) hx hb dX7_goes_76 hl (k := 5) rfl rfl (by decide) rfl (fun ls hl => ?_)
          refine lv_goto (tgt := 27) hx hb dX7_goes_79 (by decide) ?_
          exact ih21 _ (Option.some.inj hf).symm H locs ls hP hD hS (lv_sub hl [2, 3, 4, 5, 1, 0] rfl)
        · replace hf := ite_t c29 hf
          refine lv_iload_n hx hb dX7_goes_57 rfl (lv_at hl 1 rfl) ?_
          refine lv_iload hx hb dX7_goes_58 (lv_at hl 5 rfl) ?_
          refine lv_aload_n hx hb dX7_goes_60 rfl (lv_at hl 0 rfl) ?_
          refine k_get X hP 0 rfl rfl inX7 7 (by decide) fl_RX7_16 rfl rfl dX7_goes_61 ?_
          refine lv_iconst (v := 3) hx hb dX7_goes_64 (by decide) ?_
          obtain ⟨h30, hf⟩ := ck_t hf
          refine k_iald X hP 3 0 rfl rfl h30 dX7_goes_65 ?_
          obtain ⟨r31, hr31, hf⟩ := bnd hf
          refine k_callS X hP hD hS [(qg, .inr (7, [.ref qg_text, .int g_size, .int g_at, .int g_begin, .int g_token, .int g_told, .ref qg_read, .ref qg_life, .int g_dones, .ref qg_done, .int g_undos, .ref qg_undone, .ref qg_selves, .ref qg_when, .ref qg_jury, .int g_seens, .ref qg_years, .ref qg_states, .long g_trace, .ref qg_kept])), rI cI qg_text 200 g_text, rI cI qg_read 55 g_read, rI cI qg_life 55 g_life, rI cI qg_done 16 g_done, rI cI qg_undone 130 g_undone, rI cI qg_selves 16 s1.2.2, rI cI qg_when 27 g_when, rI cI qg_jury 16 g_jury, rI cI qg_years 6 g_years, rI cI qg_states 6 g_states, rI cI qg_kept 290 g_kept] (ctX7_figure l D cI cZ cD cH a1 s21.2 (g_life (3 : Int32).toNatClampNeg) r31 hr31) ml_RX7_157 sm_yX7_figure in_RX7 cd_yX7_figure rfl rfl hd_yX7_figure ⟨by decide, by decide⟩ ⟨Nat.zero_le _, Nat.zero_le _⟩ [] [none, none, none, none, none, none, none, none, none, none, none, none] rfl (by decide +kernel) rfl (by decide +kernel) rfl rfl hl.1 rfl rfl (Nat.le_of_ble_eq_true rfl) rfl dX7_goes_66 (fun H locs hP hD hS => ?_)
          refine lv_goto (tgt := 74) hx hb dX7_goes_69 (by decide) ?_
          refine lv_istore (lv' := [(5, .int r31), (0, .ref qg), (1, .int a1), (3, .int s1.1), (4, .int s1.2.1), (6, .int s21.2)]) hx hb dX7_goes_74 hl (by decide) rfl (fun ls hl => ?_)
          refine lv_iinc (v := s21.2 + 1) (lv' := [(6, .int (s21.2 + 1)), (5, .int r31), (0, .ref qg), (1, .int a1), (3, .int s1.1), (4, .int s1.2.1)]) hx hb dX7_goes_76 hl (k := 5) rfl rfl (by decide) rfl (fun ls hl => ?_)
          refine lv_goto (tgt := 27) hx hb dX7_goes_79 (by decide) ?_
          exact ih21 _ (Option.some.inj hf).symm H locs ls hP hD hS (lv_sub hl [2, 3, 4, 5, 1, 0] rfl)

def sX7_word_20 (v1 : Int32) (g_life : Nat → Int32) (g_selves : Nat → Int32) (v3 : Int32) (v4 : Int32) (v5 : Int32) : Option ((Int32 × Int32 × Int32) ⊕ ((Int32 × Int32))) :=
  if inb ((38 + (3 * v1)) + 2) 55 = true then if (g_life ((38 + (3 * v1)) + 2).toNatClampNeg) < v5 then some (.inr (v3, v4)) else if inb v5 16 = true then (fX7_of (g_selves v5.toNatClampNeg) 1 g_life).bind (fun r6 => jn (fun (x7 : Int32) => jn (fun (x8 : Int32) => if x7 = 0 then some (.inl (v3 + x8, v4 + 0, v5 + 1)) else if inb v5 16 = true then (fX7_lean (g_selves v5.toNatClampNeg) g_life).bind (fun r11 => some (.inl (v3 + x8, v4 + r11, v5 + 1))) else none) (fun K8 => if x7 = 0 then K8 0 else K8 1)) (fun K7 => if r6 = 0 then K7 1 else K7 0)) else none else none
def fX7_word (a1 : Int32) (a2 : Int32) (g_life : Nat → Int32) (g_selves : Nat → Int32) : Option (Int32) :=
  if inb ((38 + (3 * a1)) + 1) 55 = true then (lpd (fun s2 => sX7_word_20 a1 g_life g_selves s2.1 s2.2.1 s2.2.2) FU (0, 0, g_life ((38 + (3 * a1)) + 1).toNatClampNeg)).bind (fun (y2_0 : Int32 × Int32) => if a2 ≤ y2_0.1 then if y2_0.2 < 0 then some 1 else some 2 else some 0) else none
set_option maxHeartbeats 4000000 in
set_option maxRecDepth 100000 in
theorem ctX7_word (l : Launch) (D : va_G) (cI cZ cD cH : ClassId) (qg : Nat) (qg_text : Nat) (qg_read : Nat) (qg_life : Nat) (qg_done : Nat) (qg_undone : Nat) (qg_selves : Nat) (qg_when : Nat) (qg_jury : Nat) (qg_years : Nat) (qg_states : Nat) (qg_kept : Nat) (a1 : Int32) (a2 : Int32) (g_size : Int32) (g_at : Int32) (g_begin : Int32) (g_token : Int32) (g_told : Int32) (g_dones : Int32) (g_undos : Int32) (g_seens : Int32) (g_trace : Int64) (g_text : Nat → Int32) (g_read : Nat → Int32) (g_life : Nat → Int32) (g_done : Nat → Int32) (g_undone : Nat → Int32) (g_selves : Nat → Int32) (g_when : Nat → Int32) (g_jury : Nat → Int32) (g_years : Nat → Int32) (g_states : Nat → Int32) (g_kept : Nat → Int32) (o : Int32) (hf : fX7_word a1 a2 g_life g_selves = some o) : Ct l yX7_word cX7_word 7 (some .int) { frames := 2, cells := 0, slots := 0, locals := 43 } D (Tys cI cZ cD cH) [.ref qg, .int a1, .int a2] [(qg, .inr (7, [.ref qg_text, .int g_size, .int g_at, .int g_begin, .int g_token, .int g_told, .ref qg_read, .ref qg_life, .int g_dones, .ref qg_done, .int g_undos, .ref qg_undone, .ref qg_selves, .ref qg_when, .ref qg_jury, .int g_seens, .ref qg_years, .ref qg_states, .long g_trace, .ref qg_kept])), rI cI qg_text 200 g_text, rI cI qg_read 55 g_read, rI cI qg_life 55 g_life, rI cI qg_done 16 g_done, rI cI qg_undone 130 g_undone, rI cI qg_selves 16 g_selves, rI cI qg_when 27 g_when, rI cI qg_jury 16 g_jury, rI cI qg_years 6 g_years, rI cI qg_states 6 g_states, rI cI qg_kept 290 g_kept] [(qg, .inr (7, [.ref qg_text, .int g_size, .int g_at, .int g_begin, .int g_token, .int g_told, .ref qg_read, .ref qg_life, .int g_dones, .ref qg_done, .int g_undos, .ref qg_undone, .ref qg_selves, .ref qg_when, .ref qg_jury, .int g_seens, .ref qg_years, .ref qg_states, .long g_trace, .ref qg_kept])), rI cI qg_text 200 g_text, rI cI qg_read 55 g_read, rI cI qg_life 55 g_life, rI cI qg_done 16 g_done, rI cI qg_undone 130 g_undone, rI cI qg_selves 16 g_selves, rI cI qg_when 27 g_when, rI cI qg_jury 16 g_jury, rI cI qg_years 6 g_years, rI cI qg_states 6 g_states, rI cI qg_kept 290 g_kept] (some (.int o)) 0 0 := by
  refine mkI (by decide) (Nat.le_of_ble_eq_true rfl) ?_
  intro p e s m args below meth c A Q X hret ls hl H locs hP hD hS
  replace X : Cx p s m args c D (Tys cI cZ cD cH) A cX7_word RX7 7 := X
  obtain ⟨hx, hb, hml, hown, hts, hK, hZ, hA⟩ := id X
  have hl : lv_has ls 7 [(0, .ref qg), (1, .int a1), (2, .int a2)] := hl
  unfold fX7_word at hf
  refine lv_iconst (v := 0) hx hb dX7_word_0 (by decide) ?_
  refine lv_istore_n (lv' := [(3, .int 0), (0, .ref qg), (1, .int a1), (2, .int a2)]) hx hb dX7_word_1 rfl hl (by decide) rfl (fun ls hl => ?_)
  refine lv_iconst (v := 0) hx hb dX7_word_2 (by decide) ?_
  refine lv_istore (lv' := [(4, .int 0), (3, .int 0), (0, .ref qg), (1, .int a1), (2, .int a2)]) hx hb dX7_word_3 hl (by decide) rfl (fun ls hl => ?_)
  refine lv_aload_n hx hb dX7_word_5 rfl (lv_at hl 2 rfl) ?_
  refine k_get X hP 0 rfl rfl inX7 7 (by decide) fl_RX7_16 rfl rfl dX7_word_6 ?_
  refine lv_bipush (v := 38) hx hb dX7_word_9 (by decide) ?_
  refine lv_iconst (v := 3) hx hb dX7_word_11 (by decide) ?_
  refine lv_iload_n hx hb dX7_word_12 rfl (lv_at hl 3 rfl) ?_
  refine lv_imul hx hb dX7_word_13 ?_
  refine lv_iadd hx hb dX7_word_14 ?_
  refine lv_iconst (v := 1) hx hb dX7_word_15 (by decide) ?_
  refine lv_iadd hx hb dX7_word_16 ?_
  obtain ⟨h1, hf⟩ := ck_t hf
  refine k_iald X hP 3 0 rfl rfl h1 dX7_word_17 ?_
  refine lv_istore (lv' := [(5, .int (g_life ((38 + (3 * a1)) + 1).toNatClampNeg)), (4, .int 0), (3, .int 0), (0, .ref qg), (1, .int a1), (2, .int a2)]) hx hb dX7_word_18 hl (by decide) rfl (fun ls hl => ?_)
  obtain ⟨e2, he2, hf⟩ := bnd hf
  have hx2_0 : ∀ (y2_0 : Int32 × Int32), y2_0 = e2 → ∀ (H : Heap) (locs : List Loc) (ls : Array Slot), va_P D vwCl [(qg, .inr (7, [.ref qg_text, .int g_size, .int g_at, .int g_begin, .int g_token, .int g_told, .ref qg_read, .ref qg_life, .int g_dones, .ref qg_done, .int g_undos, .ref qg_undone, .ref qg_selves, .ref qg_when, .ref qg_jury, .int g_seens, .ref qg_years, .ref qg_states, .long g_trace, .ref qg_kept])), rI cI qg_text 200 g_text, rI cI qg_read 55 g_read, rI cI qg_life 55 g_life, rI cI qg_done 16 g_done, rI cI qg_undone 130 g_undone, rI cI qg_selves 16 g_selves, rI cI qg_when 27 g_when, rI cI qg_jury 16 g_jury, rI cI qg_years 6 g_years, rI cI qg_states 6 g_states, rI cI qg_kept 290 g_kept] H → va_D A [(qg, .inr (7, [.ref qg_text, .int g_size, .int g_at, .int g_begin, .int g_token, .int g_told, .ref qg_read, .ref qg_life, .int g_dones, .ref qg_done, .int g_undos, .ref qg_undone, .ref qg_selves, .ref qg_when, .ref qg_jury, .int g_seens, .ref qg_years, .ref qg_states, .long g_trace, .ref qg_kept])), rI cI qg_text 200 g_text, rI cI qg_read 55 g_read, rI cI qg_life 55 g_life, rI cI qg_done 16 g_done, rI cI qg_undone 130 g_undone, rI cI qg_selves 16 g_selves, rI cI qg_when 27 g_when, rI cI qg_jury 16 g_jury, rI cI qg_years 6 g_years, rI cI qg_states 6 g_states, rI cI qg_kept 290 g_kept] → va_S A s.heap H locs → lv_has ls 7 [(2, .int a2), (3, .int y2_0.1), (4, .int y2_0.2)] → W p l e ({ frames := 2, cells := 0, slots := 0, locals := 43 } : Room) s m args below meth c H locs 0 0 Q (F0 m 104 ls []) := by
    intro y2_0 heq H locs ls hP hD hS hl
    subst heq
    refine lv_iload_n hx hb dX7_word_104 rfl (lv_at hl 1 rfl) ?_
    refine lv_iload_n hx hb dX7_word_105 rfl (lv_at hl 0 rfl) ?_
    refine lv_icmp_ge (tgt := 113) hx hb dX7_word_106 (by decide) (fun c3 => ?_) (fun c3 => ?_)
    · replace hf := ite_t c3 hf
      refine lv_iload hx hb dX7_word_113 (lv_at hl 2 rfl) ?_
      refine lv_if_lt (tgt := 122) hx hb dX7_word_115 (by decide) (fun c4 => ?_) (fun c4 => ?_)
      · replace hf := ite_t c4 hf
        refine lv_iconst (v := 1) hx hb dX7_word_122 (by decide) ?_
        replace hf := Option.some.inj hf
        subst hf
        exact hret H locs _ ls dX7_word_123 hP hD hS
      · replace hf := ite_f c4 hf
        refine lv_iconst (v := 2) hx hb dX7_word_118 (by decide) ?_
        refine lv_goto (tgt := 123) hx hb dX7_word_119 (by decide) ?_
        replace hf := Option.some.inj hf
        subst hf
        exact hret H locs _ ls dX7_word_123 hP hD hS
    · replace hf := ite_f c3 hf
      refine lv_iconst (v := 0) hx hb dX7_word_109 (by decide) ?_
      refine lv_goto (tgt := 123) hx hb dX7_word_110 (by decide) ?_
      replace hf := Option.some.inj hf
      subst hf
      exact hret H locs _ ls dX7_word_123 hP hD hS
  refine lpd_ind (P := fun s2 => ∀ (H : Heap) (locs : List Loc) (ls : Array Slot), va_P D vwCl [(qg, .inr (7, [.ref qg_text, .int g_size, .int g_at, .int g_begin, .int g_token, .int g_told, .ref qg_read, .ref qg_life, .int g_dones, .ref qg_done, .int g_undos, .ref qg_undone, .ref qg_selves, .ref qg_when, .ref qg_jury, .int g_seens, .ref qg_years, .ref qg_states, .long g_trace, .ref qg_kept])), rI cI qg_text 200 g_text, rI cI qg_read 55 g_read, rI cI qg_life 55 g_life, rI cI qg_done 16 g_done, rI cI qg_undone 130 g_undone, rI cI qg_selves 16 g_selves, rI cI qg_when 27 g_when, rI cI qg_jury 16 g_jury, rI cI qg_years 6 g_years, rI cI qg_states 6 g_states, rI cI qg_kept 290 g_kept] H → va_D A [(qg, .inr (7, [.ref qg_text, .int g_size, .int g_at, .int g_begin, .int g_token, .int g_told, .ref qg_read, .ref qg_life, .int g_dones, .ref qg_done, .int g_undos, .ref qg_undone, .ref qg_selves, .ref qg_when, .ref qg_jury, .int g_seens, .ref qg_years, .ref qg_states, .long g_trace, .ref qg_kept])), rI cI qg_text 200 g_text, rI cI qg_read 55 g_read, rI cI qg_life 55 g_life, rI cI qg_done 16 g_done, rI cI qg_undone 130 g_undone, rI cI qg_selves 16 g_selves, rI cI qg_when 27 g_when, rI cI qg_jury 16 g_jury, rI cI qg_years 6 g_years, rI cI qg_states 6 g_states, rI cI qg_kept 290 g_kept] → va_S A s.heap H locs → lv_has ls 7 [(0, .ref qg), (1, .int a1), (2, .int a2), (3, .int s2.1), (4, .int s2.2.1), (5, .int s2.2.2)] → W p l e ({ frames := 2, cells := 0, slots := 0, locals := 43 } : Room) s m args below meth c H locs 0 0 Q (F0 m 20 ls [])) e2 ?_ _ _ he2 H locs ls hP hD hS (lv_sub hl [3, 4, 5, 2, 1, 0] rfl)
  intro s2 r2 hf ih2 hq2 H locs ls hP hD hS hl
  unfold sX7_word_20 at hf
  refine lv_iload hx hb dX7_word_20 (lv_at hl 5 rfl) ?_
  refine lv_aload_n hx hb dX7_word_22 rfl (lv_at hl 0 rfl) ?_
  refine k_get X hP 0 rfl rfl inX7 7 (by decide) fl_RX7_16 rfl rfl dX7_word_23 ?_
  refine lv_bipush (v := 38) hx hb dX7_word_26 (by decide) ?_
  refine lv_iconst (v := 3) hx hb dX7_word_28 (by decide) ?_
  refine lv_iload_n hx hb dX7_word_29 rfl (lv_at hl 1 rfl) ?_
  refine lv_imul hx hb dX7_word_30 ?_
  refine lv_iadd hx hb dX7_word_31 ?_
  refine lv_iconst (v := 2) hx hb dX7_word_32 (by decide) ?_
  refine lv_iadd hx hb dX7_word_33 ?_
  obtain ⟨h5, hf⟩ := ck_t hf
  refine k_iald X hP 3 0 rfl rfl h5 dX7_word_34 ?_
  refine lv_icmp_gt (tgt := 104) hx hb dX7_word_35 (by decide) (fun c6 => ?_) (fun c6 => ?_)
  · replace hf := ite_t c6 hf
    exact hx2_0 _ (hq2 _ (Option.some.inj hf).symm) H locs ls hP hD hS (lv_sub hl [2, 3, 4] rfl)
  · replace hf := ite_f c6 hf
    refine lv_aload_n hx hb dX7_word_38 rfl (lv_at hl 0 rfl) ?_
    refine lv_aload_n hx hb dX7_word_39 rfl (lv_at hl 0 rfl) ?_
    refine k_get X hP 0 rfl rfl inX7 12 (by decide) fl_RX7_25 rfl rfl dX7_word_40 ?_
    refine lv_iload hx hb dX7_word_43 (lv_at hl 5 rfl) ?_
    obtain ⟨h7, hf⟩ := ck_t hf
    refine k_iald X hP 6 0 rfl rfl h7 dX7_word_45 ?_
    refine lv_iconst (v := 1) hx hb dX7_word_46 (by decide) ?_
    obtain ⟨r8, hr8, hf⟩ := bnd hf
    refine k_callV X hP hD hS [(qg, .inr (7, [.ref qg_text, .int g_size, .int g_at, .int g_begin, .int g_token, .int g_told, .ref qg_read, .ref qg_life, .int g_dones, .ref qg_done, .int g_undos, .ref qg_undone, .ref qg_selves, .ref qg_when, .ref qg_jury, .int g_seens, .ref qg_years, .ref qg_states, .long g_trace, .ref qg_kept])), rI cI qg_text 200 g_text, rI cI qg_read 55 g_read, rI cI qg_life 55 g_life, rI cI qg_done 16 g_done, rI cI qg_undone 130 g_undone, rI cI qg_selves 16 g_selves, rI cI qg_when 27 g_when, rI cI qg_jury 16 g_jury, rI cI qg_years 6 g_years, rI cI qg_states 6 g_states, rI cI qg_kept 290 g_kept] (ctX7_of l D cI cZ cD cH qg qg_text qg_read qg_life qg_done qg_undone qg_selves qg_when qg_jury qg_years qg_states qg_kept (g_selves s2.2.2.toNatClampNeg) 1 g_size g_at g_begin g_token g_told g_dones g_undos g_seens g_trace g_text g_read g_life g_done g_undone g_selves g_when g_jury g_years g_states g_kept r8 hr8) ml_RX7_128 im_yX7_of se_yX7_of in_RX7 cd_yX7_of rfl rfl hd_yX7_of ⟨by decide, by decide⟩ ⟨Nat.zero_le _, Nat.zero_le _⟩ [0, 1, 2, 3, 4, 5, 6, 7, 8, 9, 10, 11] [some 0, some 1, some 2, some 3, some 4, some 5, some 6, some 7, some 8, some 9, some 10, some 11] rfl (by decide +kernel) rfl (by decide +kernel) rfl rfl (q0 := 0) rfl rfl rfl hl.1 rfl rfl (Nat.le_of_ble_eq_true rfl) rfl dX7_word_47 (fun H locs hP hD hS => ?_)
    refine jn_e hf (fun K9 hf hk9 => ?_)
    have hj9 : ∀ (x9 : Int32) (H : Heap) (locs : List Loc) (ls : Array Slot), K9 x9 = some r2 → va_P D vwCl [(qg, .inr (7, [.ref qg_text, .int g_size, .int g_at, .int g_begin, .int g_token, .int g_told, .ref qg_read, .ref qg_life, .int g_dones, .ref qg_done, .int g_undos, .ref qg_undone, .ref qg_selves, .ref qg_when, .ref qg_jury, .int g_seens, .ref qg_years, .ref qg_states, .long g_trace, .ref qg_kept])), rI cI qg_text 200 g_text, rI cI qg_read 55 g_read, rI cI qg_life 55 g_life, rI cI qg_done 16 g_done, rI cI qg_undone 130 g_undone, rI cI qg_selves 16 g_selves, rI cI qg_when 27 g_when, rI cI qg_jury 16 g_jury, rI cI qg_years 6 g_years, rI cI qg_states 6 g_states, rI cI qg_kept 290 g_kept] H → va_D A [(qg, .inr (7, [.ref qg_text, .int g_size, .int g_at, .int g_begin, .int g_token, .int g_told, .ref qg_read, .ref qg_life, .int g_dones, .ref qg_done, .int g_undos, .ref qg_undone, .ref qg_selves, .ref qg_when, .ref qg_jury, .int g_seens, .ref qg_years, .ref qg_states, .long g_trace, .ref qg_kept])), rI cI qg_text 200 g_text, rI cI qg_read 55 g_read, rI cI qg_life 55 g_life, rI cI qg_done 16 g_done, rI cI qg_undone 130 g_undone, rI cI qg_selves 16 g_selves, rI cI qg_when 27 g_when, rI cI qg_jury 16 g_jury, rI cI qg_years 6 g_years, rI cI qg_states 6 g_states, rI cI qg_kept 290 g_kept] → va_S A s.heap H locs → lv_has ls 7 [(0, .ref qg), (1, .int a1), (2, .int a2), (3, .int s2.1), (4, .int s2.2.1), (5, .int s2.2.2)] → W p l e ({ frames := 2, cells := 0, slots := 0, locals := 43 } : Room) s m args below meth c H locs 0 0 Q (F0 m 58 ls [.int x9]) := by
      intro x9 H locs ls hf hP hD hS hl
      replace hf := hk9 x9 hf
      refine lv_istore (lv' := [(6, .int x9), (0, .ref qg), (1, .int a1), (2, .int a2), (3, .int s2.1), (4, .int s2.2.1), (5, .int s2.2.2)]) hx hb dX7_word_58 hl (by decide) rfl (fun ls hl => ?_)
      refine lv_iload_n hx hb dX7_word_60 rfl (lv_at hl 4 rfl) ?_
      refine lv_iload hx hb dX7_word_61 (lv_at hl 0 rfl) ?_
      refine jn_e hf (fun K10 hf hk10 => ?_)
      have hj10 : ∀ (x10 : Int32) (H : Heap) (locs : List Loc) (ls : Array Slot), K10 x10 = some r2 → va_P D vwCl [(qg, .inr (7, [.ref qg_text, .int g_size, .int g_at, .int g_begin, .int g_token, .int g_told, .ref qg_read, .ref qg_life, .int g_dones, .ref qg_done, .int g_undos, .ref qg_undone, .ref qg_selves, .ref qg_when, .ref qg_jury, .int g_seens, .ref qg_years, .ref qg_states, .long g_trace, .ref qg_kept])), rI cI qg_text 200 g_text, rI cI qg_read 55 g_read, rI cI qg_life 55 g_life, rI cI qg_done 16 g_done, rI cI qg_undone 130 g_undone, rI cI qg_selves 16 g_selves, rI cI qg_when 27 g_when, rI cI qg_jury 16 g_jury, rI cI qg_years 6 g_years, rI cI qg_states 6 g_states, rI cI qg_kept 290 g_kept] H → va_D A [(qg, .inr (7, [.ref qg_text, .int g_size, .int g_at, .int g_begin, .int g_token, .int g_told, .ref qg_read, .ref qg_life, .int g_dones, .ref qg_done, .int g_undos, .ref qg_undone, .ref qg_selves, .ref qg_when, .ref qg_jury, .int g_seens, .ref qg_years, .ref qg_states, .long g_trace, .ref qg_kept])), rI cI qg_text 200 g_text, rI cI qg_read 55 g_read, rI cI qg_life 55 g_life, rI cI qg_done 16 g_done, rI cI qg_undone 130 g_undone, rI cI qg_selves 16 g_selves, rI cI qg_when 27 g_when, rI cI qg_jury 16 g_jury, rI cI qg_years 6 g_years, rI cI qg_states 6 g_states, rI cI qg_kept 290 g_kept] → va_S A s.heap H locs → lv_has ls 7 [(0, .ref qg), (1, .int a1), (2, .int a2), (4, .int s2.2.1), (5, .int s2.2.2), (6, .int x9)] → W p l e ({ frames := 2, cells := 0, slots := 0, locals := 43 } : Room) s m args below meth c H locs 0 0 Q (F0 m 71 ls [.int x10, .int s2.1]) := by
        intro x10 H locs ls hf hP hD hS hl
        replace hf := hk10 x10 hf
        refine lv_iadd hx hb dX7_word_71 ?_
        refine lv_istore_n (lv' := [(3, .int (s2.1 + x10)), (0, .ref qg), (1, .int a1), (2, .int a2), (4, .int s2.2.1), (5, .int s2.2.2), (6, .int x9)]) hx hb dX7_word_72 rfl hl (by decide) rfl (fun ls hl => ?_)
        refine lv_iload hx hb dX7_word_73 (lv_at hl 4 rfl) ?_
        refine lv_iload hx hb dX7_word_75 (lv_at hl 6 rfl) ?_
        refine lv_if_eq (tgt := 94) hx hb dX7_word_77 (by decide) (fun c11 => ?_) (fun c11 => ?_)
        · replace hf := ite_t c11 hf
          refine lv_iconst (v := 0) hx hb dX7_word_94 (by decide) ?_
          refine lv_iadd hx hb dX7_word_95 ?_
          refine lv_istore (lv' := [(4, .int (s2.2.1 + 0)), (3, .int (s2.1 + x10)), (0, .ref qg), (1, .int a1), (2, .int a2), (5, .int s2.2.2), (6, .int x9)]) hx hb dX7_word_96 hl (by decide) rfl (fun ls hl => ?_)
          refine lv_iinc (v := s2.2.2 + 1) (lv' := [(5, .int (s2.2.2 + 1)), (4, .int (s2.2.1 + 0)), (3, .int (s2.1 + x10)), (0, .ref qg), (1, .int a1), (2, .int a2), (6, .int x9)]) hx hb dX7_word_98 hl (k := 5) rfl rfl (by decide) rfl (fun ls hl => ?_)
          refine lv_goto (tgt := 20) hx hb dX7_word_101 (by decide) ?_
          exact ih2 _ (Option.some.inj hf).symm H locs ls hP hD hS (lv_sub hl [3, 4, 5, 2, 1, 0] rfl)
        · replace hf := ite_f c11 hf
          refine lv_aload_n hx hb dX7_word_80 rfl (lv_at hl 1 rfl) ?_
          refine lv_aload_n hx hb dX7_word_81 rfl (lv_at hl 1 rfl) ?_
          refine k_get X hP 0 rfl rfl inX7 12 (by decide) fl_RX7_25 rfl rfl dX7_word_82 ?_
          refine lv_iload hx hb dX7_word_85 (lv_at hl 5 rfl) ?_
          obtain ⟨h12, hf⟩ := ck_t hf
          refine k_iald X hP 6 0 rfl rfl h12 dX7_word_87 ?_
          obtain ⟨r13, hr13, hf⟩ := bnd hf
          refine k_callV X hP hD hS [(qg, .inr (7, [.ref qg_text, .int g_size, .int g_at, .int g_begin, .int g_token, .int g_told, .ref qg_read, .ref qg_life, .int g_dones, .ref qg_done, .int g_undos, .ref qg_undone, .ref qg_selves, .ref qg_when, .ref qg_jury, .int g_seens, .ref qg_years, .ref qg_states, .long g_trace, .ref qg_kept])), rI cI qg_text 200 g_text, rI cI qg_read 55 g_read, rI cI qg_life 55 g_life, rI cI qg_done 16 g_done, rI cI qg_undone 130 g_undone, rI cI qg_selves 16 g_selves, rI cI qg_when 27 g_when, rI cI qg_jury 16 g_jury, rI cI qg_years 6 g_years, rI cI qg_states 6 g_states, rI cI qg_kept 290 g_kept] (ctX7_lean l D cI cZ cD cH qg qg_text qg_read qg_life qg_done qg_undone qg_selves qg_when qg_jury qg_years qg_states qg_kept (g_selves s2.2.2.toNatClampNeg) g_size g_at g_begin g_token g_told g_dones g_undos g_seens g_trace g_text g_read g_life g_done g_undone g_selves g_when g_jury g_years g_states g_kept r13 hr13) ml_RX7_137 im_yX7_lean se_yX7_lean in_RX7 cd_yX7_lean rfl rfl hd_yX7_lean ⟨by decide, by decide⟩ ⟨Nat.zero_le _, Nat.zero_le _⟩ [0, 1, 2, 3, 4, 5, 6, 7, 8, 9, 10, 11] [some 0, some 1, some 2, some 3, some 4, some 5, some 6, some 7, some 8, some 9, some 10, some 11] rfl (by decide +kernel) rfl (by decide +kernel) rfl rfl (q0 := 0) rfl rfl rfl hl.1 rfl rfl (Nat.le_of_ble_eq_true rfl) rfl dX7_word_88 (fun H locs hP hD hS => ?_)
          refine lv_goto (tgt := 95) hx hb dX7_word_91 (by decide) ?_
          refine lv_iadd hx hb dX7_word_95 ?_
          refine lv_istore (lv' := [(4, .int (s2.2.1 + r13)), (3, .int (s2.1 + x10)), (0, .ref qg), (1, .int a1), (2, .int a2), (5, .int s2.2.2), (6, .int x9)]) hx hb dX7_word_96 hl (by decide) rfl (fun ls hl => ?_)
          refine lv_iinc (v := s2.2.2 + 1) (lv' := [(5, .int (s2.2.2 + 1)), (4, .int (s2.2.1 + r13)), (3, .int (s2.1 + x10)), (0, .ref qg), (1, .int a1), (2, .int a2), (6, .int x9)]) hx hb dX7_word_98 hl (k := 5) rfl rfl (by decide) rfl (fun ls hl => ?_)
          refine lv_goto (tgt := 20) hx hb dX7_word_101 (by decide) ?_
          exact ih2 _ (Option.some.inj hf).symm H locs ls hP hD hS (lv_sub hl [3, 4, 5, 2, 1, 0] rfl)
      refine lv_if_eq (tgt := 70) hx hb dX7_word_63 (by decide) (fun c14 => ?_) (fun c14 => ?_)
      · replace hf := ite_t c14 hf
        refine lv_iconst (v := 0) hx hb dX7_word_70 (by decide) ?_
        exact hj10 _ H locs ls hf hP hD hS (lv_sub hl [1, 2, 3, 5, 6, 0] rfl)
      · replace hf := ite_f c14 hf
        refine lv_iconst (v := 1) hx hb dX7_word_66 (by decide) ?_
        refine lv_goto (tgt := 71) hx hb dX7_word_67 (by decide) ?_
        exact hj10 _ H locs ls hf hP hD hS (lv_sub hl [1, 2, 3, 5, 6, 0] rfl)
    refine lv_if_ne (tgt := 57) hx hb dX7_word_50 (by decide) (fun c15 => ?_) (fun c15 => ?_)
    · replace hf := ite_f c15 hf
      refine lv_iconst (v := 0) hx hb dX7_word_57 (by decide) ?_
      exact hj9 _ H locs ls hf hP hD hS hl
    · replace hf := ite_t c15 hf
      refine lv_iconst (v := 1) hx hb dX7_word_53 (by decide) ?_
      refine lv_goto (tgt := 58) hx hb dX7_word_54 (by decide) ?_
      exact hj9 _ H locs ls hf hP hD hS hl

def sX7_words_4 (v1 : Int32) (g_life : Nat → Int32) (g_selves : Nat → Int32) (v2 : Int32) (v3 : Int32) : Option ((Int32 × Int32) ⊕ ((Int32))) :=
  if inb 3 55 = true then if (g_life (3 : Int32).toNatClampNeg) ≤ v3 then some (.inr v2) else (fX7_word v3 v1 g_life g_selves).bind (fun r4 => some (.inl ((3 * v2) + r4, v3 + 1))) else none
def fX7_words (a1 : Int32) (g_life : Nat → Int32) (g_selves : Nat → Int32) : Option (Int32) :=
  (lpd (fun s1 => sX7_words_4 a1 g_life g_selves s1.1 s1.2) FU (0, 0)).bind (fun (y1_0 : Int32) => some y1_0)
set_option maxHeartbeats 4000000 in
set_option maxRecDepth 100000 in
theorem ctX7_words (l : Launch) (D : va_G) (cI cZ cD cH : ClassId) (qg : Nat) (qg_text : Nat) (qg_read : Nat) (qg_life : Nat) (qg_done : Nat) (qg_undone : Nat) (qg_selves : Nat) (qg_when : Nat) (qg_jury : Nat) (qg_years : Nat) (qg_states : Nat) (qg_kept : Nat) (a1 : Int32) (g_size : Int32) (g_at : Int32) (g_begin : Int32) (g_token : Int32) (g_told : Int32) (g_dones : Int32) (g_undos : Int32) (g_seens : Int32) (g_trace : Int64) (g_text : Nat → Int32) (g_read : Nat → Int32) (g_life : Nat → Int32) (g_done : Nat → Int32) (g_undone : Nat → Int32) (g_selves : Nat → Int32) (g_when : Nat → Int32) (g_jury : Nat → Int32) (g_years : Nat → Int32) (g_states : Nat → Int32) (g_kept : Nat → Int32) (o : Int32) (hf : fX7_words a1 g_life g_selves = some o) : Ct l yX7_words cX7_words 4 (some .int) { frames := 3, cells := 0, slots := 0, locals := 69 } D (Tys cI cZ cD cH) [.ref qg, .int a1] [(qg, .inr (7, [.ref qg_text, .int g_size, .int g_at, .int g_begin, .int g_token, .int g_told, .ref qg_read, .ref qg_life, .int g_dones, .ref qg_done, .int g_undos, .ref qg_undone, .ref qg_selves, .ref qg_when, .ref qg_jury, .int g_seens, .ref qg_years, .ref qg_states, .long g_trace, .ref qg_kept])), rI cI qg_text 200 g_text, rI cI qg_read 55 g_read, rI cI qg_life 55 g_life, rI cI qg_done 16 g_done, rI cI qg_undone 130 g_undone, rI cI qg_selves 16 g_selves, rI cI qg_when 27 g_when, rI cI qg_jury 16 g_jury, rI cI qg_years 6 g_years, rI cI qg_states 6 g_states, rI cI qg_kept 290 g_kept] [(qg, .inr (7, [.ref qg_text, .int g_size, .int g_at, .int g_begin, .int g_token, .int g_told, .ref qg_read, .ref qg_life, .int g_dones, .ref qg_done, .int g_undos, .ref qg_undone, .ref qg_selves, .ref qg_when, .ref qg_jury, .int g_seens, .ref qg_years, .ref qg_states, .long g_trace, .ref qg_kept])), rI cI qg_text 200 g_text, rI cI qg_read 55 g_read, rI cI qg_life 55 g_life, rI cI qg_done 16 g_done, rI cI qg_undone 130 g_undone, rI cI qg_selves 16 g_selves, rI cI qg_when 27 g_when, rI cI qg_jury 16 g_jury, rI cI qg_years 6 g_years, rI cI qg_states 6 g_states, rI cI qg_kept 290 g_kept] (some (.int o)) 0 0 := by
  refine mkI (by decide) (Nat.le_of_ble_eq_true rfl) ?_
  intro p e s m args below meth c A Q X hret ls hl H locs hP hD hS
  replace X : Cx p s m args c D (Tys cI cZ cD cH) A cX7_words RX7 4 := X
  obtain ⟨hx, hb, hml, hown, hts, hK, hZ, hA⟩ := id X
  have hl : lv_has ls 4 [(0, .ref qg), (1, .int a1)] := hl
  unfold fX7_words at hf
  refine lv_iconst (v := 0) hx hb dX7_words_0 (by decide) ?_
  refine lv_istore_n (lv' := [(2, .int 0), (0, .ref qg), (1, .int a1)]) hx hb dX7_words_1 rfl hl (by decide) rfl (fun ls hl => ?_)
  refine lv_iconst (v := 0) hx hb dX7_words_2 (by decide) ?_
  refine lv_istore_n (lv' := [(3, .int 0), (2, .int 0), (0, .ref qg), (1, .int a1)]) hx hb dX7_words_3 rfl hl (by decide) rfl (fun ls hl => ?_)
  obtain ⟨e1, he1, hf⟩ := bnd hf
  have hx1_0 : ∀ (y1_0 : Int32), y1_0 = e1 → ∀ (H : Heap) (locs : List Loc) (ls : Array Slot), va_P D vwCl [(qg, .inr (7, [.ref qg_text, .int g_size, .int g_at, .int g_begin, .int g_token, .int g_told, .ref qg_read, .ref qg_life, .int g_dones, .ref qg_done, .int g_undos, .ref qg_undone, .ref qg_selves, .ref qg_when, .ref qg_jury, .int g_seens, .ref qg_years, .ref qg_states, .long g_trace, .ref qg_kept])), rI cI qg_text 200 g_text, rI cI qg_read 55 g_read, rI cI qg_life 55 g_life, rI cI qg_done 16 g_done, rI cI qg_undone 130 g_undone, rI cI qg_selves 16 g_selves, rI cI qg_when 27 g_when, rI cI qg_jury 16 g_jury, rI cI qg_years 6 g_years, rI cI qg_states 6 g_states, rI cI qg_kept 290 g_kept] H → va_D A [(qg, .inr (7, [.ref qg_text, .int g_size, .int g_at, .int g_begin, .int g_token, .int g_told, .ref qg_read, .ref qg_life, .int g_dones, .ref qg_done, .int g_undos, .ref qg_undone, .ref qg_selves, .ref qg_when, .ref qg_jury, .int g_seens, .ref qg_years, .ref qg_states, .long g_trace, .ref qg_kept])), rI cI qg_text 200 g_text, rI cI qg_read 55 g_read, rI cI qg_life 55 g_life, rI cI qg_done 16 g_done, rI cI qg_undone 130 g_undone, rI cI qg_selves 16 g_selves, rI cI qg_when 27 g_when, rI cI qg_jury 16 g_jury, rI cI qg_years 6 g_years, rI cI qg_states 6 g_states, rI cI qg_kept 290 g_kept] → va_S A s.heap H locs → lv_has ls 4 [(2, .int y1_0)] → W p l e ({ frames := 3, cells := 0, slots := 0, locals := 69 } : Room) s m args below meth c H locs 0 0 Q (F0 m 31 ls []) := by
    intro y1_0 heq H locs ls hP hD hS hl
    subst heq
    refine lv_iload_n hx hb dX7_words_31 rfl (lv_at hl 0 rfl) ?_
    replace hf := Option.some.inj hf
    subst hf
    exact hret H locs _ ls dX7_words_32 hP hD hS
  refine lpd_ind (P := fun s1 => ∀ (H : Heap) (locs : List Loc) (ls : Array Slot), va_P D vwCl [(qg, .inr (7, [.ref qg_text, .int g_size, .int g_at, .int g_begin, .int g_token, .int g_told, .ref qg_read, .ref qg_life, .int g_dones, .ref qg_done, .int g_undos, .ref qg_undone, .ref qg_selves, .ref qg_when, .ref qg_jury, .int g_seens, .ref qg_years, .ref qg_states, .long g_trace, .ref qg_kept])), rI cI qg_text 200 g_text, rI cI qg_read 55 g_read, rI cI qg_life 55 g_life, rI cI qg_done 16 g_done, rI cI qg_undone 130 g_undone, rI cI qg_selves 16 g_selves, rI cI qg_when 27 g_when, rI cI qg_jury 16 g_jury, rI cI qg_years 6 g_years, rI cI qg_states 6 g_states, rI cI qg_kept 290 g_kept] H → va_D A [(qg, .inr (7, [.ref qg_text, .int g_size, .int g_at, .int g_begin, .int g_token, .int g_told, .ref qg_read, .ref qg_life, .int g_dones, .ref qg_done, .int g_undos, .ref qg_undone, .ref qg_selves, .ref qg_when, .ref qg_jury, .int g_seens, .ref qg_years, .ref qg_states, .long g_trace, .ref qg_kept])), rI cI qg_text 200 g_text, rI cI qg_read 55 g_read, rI cI qg_life 55 g_life, rI cI qg_done 16 g_done, rI cI qg_undone 130 g_undone, rI cI qg_selves 16 g_selves, rI cI qg_when 27 g_when, rI cI qg_jury 16 g_jury, rI cI qg_years 6 g_years, rI cI qg_states 6 g_states, rI cI qg_kept 290 g_kept] → va_S A s.heap H locs → lv_has ls 4 [(0, .ref qg), (1, .int a1), (2, .int s1.1), (3, .int s1.2)] → W p l e ({ frames := 3, cells := 0, slots := 0, locals := 69 } : Room) s m args below meth c H locs 0 0 Q (F0 m 4 ls [])) e1 ?_ _ _ he1 H locs ls hP hD hS (lv_sub hl [2, 3, 1, 0] rfl)
  intro s1 r1 hf ih1 hq1 H locs ls hP hD hS hl
  unfold sX7_words_4 at hf
  refine lv_iload_n hx hb dX7_words_4 rfl (lv_at hl 3 rfl) ?_
  refine lv_aload_n hx hb dX7_words_5 rfl (lv_at hl 0 rfl) ?_
  refine k_get X hP 0 rfl rfl inX7 7 (by decide) fl_RX7_16 rfl rfl dX7_words_6 ?_
  refine lv_iconst (v := 3) hx hb dX7_words_9 (by decide) ?_
  obtain ⟨h2, hf⟩ := ck_t hf
  refine k_iald X hP 3 0 rfl rfl h2 dX7_words_10 ?_
  refine lv_icmp_ge (tgt := 31) hx hb dX7_words_11 (by decide) (fun c3 => ?_) (fun c3 => ?_)
  · replace hf := ite_t c3 hf
    exact hx1_0 _ (hq1 _ (Option.some.inj hf).symm) H locs ls hP hD hS (lv_sub hl [2] rfl)
  · replace hf := ite_f c3 hf
    refine lv_iconst (v := 3) hx hb dX7_words_14 (by decide) ?_
    refine lv_iload_n hx hb dX7_words_15 rfl (lv_at hl 2 rfl) ?_
    refine lv_imul hx hb dX7_words_16 ?_
    refine lv_aload_n hx hb dX7_words_17 rfl (lv_at hl 0 rfl) ?_
    refine lv_iload_n hx hb dX7_words_18 rfl (lv_at hl 3 rfl) ?_
    refine lv_iload_n hx hb dX7_words_19 rfl (lv_at hl 1 rfl) ?_
    obtain ⟨r4, hr4, hf⟩ := bnd hf
    refine k_callV X hP hD hS [(qg, .inr (7, [.ref qg_text, .int g_size, .int g_at, .int g_begin, .int g_token, .int g_told, .ref qg_read, .ref qg_life, .int g_dones, .ref qg_done, .int g_undos, .ref qg_undone, .ref qg_selves, .ref qg_when, .ref qg_jury, .int g_seens, .ref qg_years, .ref qg_states, .long g_trace, .ref qg_kept])), rI cI qg_text 200 g_text, rI cI qg_read 55 g_read, rI cI qg_life 55 g_life, rI cI qg_done 16 g_done, rI cI qg_undone 130 g_undone, rI cI qg_selves 16 g_selves, rI cI qg_when 27 g_when, rI cI qg_jury 16 g_jury, rI cI qg_years 6 g_years, rI cI qg_states 6 g_states, rI cI qg_kept 290 g_kept] (ctX7_word l D cI cZ cD cH qg qg_text qg_read qg_life qg_done qg_undone qg_selves qg_when qg_jury qg_years qg_states qg_kept s1.2 a1 g_size g_at g_begin g_token g_told g_dones g_undos g_seens g_trace g_text g_read g_life g_done g_undone g_selves g_when g_jury g_years g_states g_kept r4 hr4) ml_RX7_161 im_yX7_word se_yX7_word in_RX7 cd_yX7_word rfl rfl hd_yX7_word ⟨by decide, by decide⟩ ⟨Nat.zero_le _, Nat.zero_le _⟩ [0, 1, 2, 3, 4, 5, 6, 7, 8, 9, 10, 11] [some 0, some 1, some 2, some 3, some 4, some 5, some 6, some 7, some 8, some 9, some 10, some 11] rfl (by decide +kernel) rfl (by decide +kernel) rfl rfl (q0 := 0) rfl rfl rfl hl.1 rfl rfl (Nat.le_of_ble_eq_true rfl) rfl dX7_words_20 (fun H locs hP hD hS => ?_)
    refine lv_iadd hx hb dX7_words_23 ?_
    refine lv_istore_n (lv' := [(2, .int ((3 * s1.1) + r4)), (0, .ref qg), (1, .int a1), (3, .int s1.2)]) hx hb dX7_words_24 rfl hl (by decide) rfl (fun ls hl => ?_)
    refine lv_iinc (v := s1.2 + 1) (lv' := [(3, .int (s1.2 + 1)), (2, .int ((3 * s1.1) + r4)), (0, .ref qg), (1, .int a1)]) hx hb dX7_words_25 hl (k := 3) rfl rfl (by decide) rfl (fun ls hl => ?_)
    refine lv_goto (tgt := 4) hx hb dX7_words_28 (by decide) ?_
    exact ih1 _ (Option.some.inj hf).symm H locs ls hP hD hS (lv_sub hl [2, 3, 1, 0] rfl)

def sX7_rows_17 (g_life : Nat → Int32) (v1 : Int32) (v2 : Int32) : Option ((Int32 × Int32) ⊕ ((Int32))) :=
  if inb 3 55 = true then if (g_life (3 : Int32).toNatClampNeg) ≤ v2 then some (.inr v1) else some (.inl (v1 * 3, v2 + 1)) else none
def fX7_rows (g_life : Nat → Int32) : Option (Int32) :=
  if inb 1 55 = true then jn (fun (x2 : Int32) => (lpd (fun s3 => sX7_rows_17 g_life s3.1 s3.2) FU (x2, 0)).bind (fun (y3_0 : Int32) => some y3_0)) (fun K2 => if (g_life (1 : Int32).toNatClampNeg) = 0 then K2 0 else K2 1) else none
set_option maxHeartbeats 4000000 in
set_option maxRecDepth 100000 in
theorem ctX7_rows (l : Launch) (D : va_G) (cI cZ cD cH : ClassId) (qg : Nat) (qg_text : Nat) (qg_read : Nat) (qg_life : Nat) (qg_done : Nat) (qg_undone : Nat) (qg_selves : Nat) (qg_when : Nat) (qg_jury : Nat) (qg_years : Nat) (qg_states : Nat) (qg_kept : Nat) (g_size : Int32) (g_at : Int32) (g_begin : Int32) (g_token : Int32) (g_told : Int32) (g_dones : Int32) (g_undos : Int32) (g_seens : Int32) (g_trace : Int64) (g_text : Nat → Int32) (g_read : Nat → Int32) (g_life : Nat → Int32) (g_done : Nat → Int32) (g_undone : Nat → Int32) (g_selves : Nat → Int32) (g_when : Nat → Int32) (g_jury : Nat → Int32) (g_years : Nat → Int32) (g_states : Nat → Int32) (g_kept : Nat → Int32) (o : Int32) (hf : fX7_rows g_life = some o) : Ct l yX7_rows cX7_rows 3 (some .int) { frames := 0, cells := 0, slots := 0, locals := 0 } D (Tys cI cZ cD cH) [.ref qg] [(qg, .inr (7, [.ref qg_text, .int g_size, .int g_at, .int g_begin, .int g_token, .int g_told, .ref qg_read, .ref qg_life, .int g_dones, .ref qg_done, .int g_undos, .ref qg_undone, .ref qg_selves, .ref qg_when, .ref qg_jury, .int g_seens, .ref qg_years, .ref qg_states, .long g_trace, .ref qg_kept])), rI cI qg_text 200 g_text, rI cI qg_read 55 g_read, rI cI qg_life 55 g_life, rI cI qg_done 16 g_done, rI cI qg_undone 130 g_undone, rI cI qg_selves 16 g_selves, rI cI qg_when 27 g_when, rI cI qg_jury 16 g_jury, rI cI qg_years 6 g_years, rI cI qg_states 6 g_states, rI cI qg_kept 290 g_kept] [(qg, .inr (7, [.ref qg_text, .int g_size, .int g_at, .int g_begin, .int g_token, .int g_told, .ref qg_read, .ref qg_life, .int g_dones, .ref qg_done, .int g_undos, .ref qg_undone, .ref qg_selves, .ref qg_when, .ref qg_jury, .int g_seens, .ref qg_years, .ref qg_states, .long g_trace, .ref qg_kept])), rI cI qg_text 200 g_text, rI cI qg_read 55 g_read, rI cI qg_life 55 g_life, rI cI qg_done 16 g_done, rI cI qg_undone 130 g_undone, rI cI qg_selves 16 g_selves, rI cI qg_when 27 g_when, rI cI qg_jury 16 g_jury, rI cI qg_years 6 g_years, rI cI qg_states 6 g_states, rI cI qg_kept 290 g_kept] (some (.int o)) 0 0 := by
  refine mkI (by decide) (Nat.le_of_ble_eq_true rfl) ?_
  intro p e s m args below meth c A Q X hret ls hl H locs hP hD hS
  replace X : Cx p s m args c D (Tys cI cZ cD cH) A cX7_rows RX7 3 := X
  obtain ⟨hx, hb, hml, hown, hts, hK, hZ, hA⟩ := id X
  have hl : lv_has ls 3 [(0, .ref qg)] := hl
  unfold fX7_rows at hf
  refine lv_aload_n hx hb dX7_rows_0 rfl (lv_at hl 0 rfl) ?_
  refine k_get X hP 0 rfl rfl inX7 7 (by decide) fl_RX7_16 rfl rfl dX7_rows_1 ?_
  refine lv_iconst (v := 1) hx hb dX7_rows_4 (by decide) ?_
  obtain ⟨h1, hf⟩ := ck_t hf
  refine k_iald X hP 3 0 rfl rfl h1 dX7_rows_5 ?_
  refine jn_e hf (fun K2 hf hk2 => ?_)
  have hj2 : ∀ (x2 : Int32) (H : Heap) (locs : List Loc) (ls : Array Slot), K2 x2 = some o → va_P D vwCl [(qg, .inr (7, [.ref qg_text, .int g_size, .int g_at, .int g_begin, .int g_token, .int g_told, .ref qg_read, .ref qg_life, .int g_dones, .ref qg_done, .int g_undos, .ref qg_undone, .ref qg_selves, .ref qg_when, .ref qg_jury, .int g_seens, .ref qg_years, .ref qg_states, .long g_trace, .ref qg_kept])), rI cI qg_text 200 g_text, rI cI qg_read 55 g_read, rI cI qg_life 55 g_life, rI cI qg_done 16 g_done, rI cI qg_undone 130 g_undone, rI cI qg_selves 16 g_selves, rI cI qg_when 27 g_when, rI cI qg_jury 16 g_jury, rI cI qg_years 6 g_years, rI cI qg_states 6 g_states, rI cI qg_kept 290 g_kept] H → va_D A [(qg, .inr (7, [.ref qg_text, .int g_size, .int g_at, .int g_begin, .int g_token, .int g_told, .ref qg_read, .ref qg_life, .int g_dones, .ref qg_done, .int g_undos, .ref qg_undone, .ref qg_selves, .ref qg_when, .ref qg_jury, .int g_seens, .ref qg_years, .ref qg_states, .long g_trace, .ref qg_kept])), rI cI qg_text 200 g_text, rI cI qg_read 55 g_read, rI cI qg_life 55 g_life, rI cI qg_done 16 g_done, rI cI qg_undone 130 g_undone, rI cI qg_selves 16 g_selves, rI cI qg_when 27 g_when, rI cI qg_jury 16 g_jury, rI cI qg_years 6 g_years, rI cI qg_states 6 g_states, rI cI qg_kept 290 g_kept] → va_S A s.heap H locs → lv_has ls 3 [(0, .ref qg)] → W p l e ({ frames := 0, cells := 0, slots := 0, locals := 0 } : Room) s m args below meth c H locs 0 0 Q (F0 m 14 ls [.int x2]) := by
    intro x2 H locs ls hf hP hD hS hl
    replace hf := hk2 x2 hf
    refine lv_istore_n (lv' := [(1, .int x2), (0, .ref qg)]) hx hb dX7_rows_14 rfl hl (by decide) rfl (fun ls hl => ?_)
    refine lv_iconst (v := 0) hx hb dX7_rows_15 (by decide) ?_
    refine lv_istore_n (lv' := [(2, .int 0), (1, .int x2), (0, .ref qg)]) hx hb dX7_rows_16 rfl hl (by decide) rfl (fun ls hl => ?_)
    obtain ⟨e3, he3, hf⟩ := bnd hf
    have hx3_0 : ∀ (y3_0 : Int32), y3_0 = e3 → ∀ (H : Heap) (locs : List Loc) (ls : Array Slot), va_P D vwCl [(qg, .inr (7, [.ref qg_text, .int g_size, .int g_at, .int g_begin, .int g_token, .int g_told, .ref qg_read, .ref qg_life, .int g_dones, .ref qg_done, .int g_undos, .ref qg_undone, .ref qg_selves, .ref qg_when, .ref qg_jury, .int g_seens, .ref qg_years, .ref qg_states, .long g_trace, .ref qg_kept])), rI cI qg_text 200 g_text, rI cI qg_read 55 g_read, rI cI qg_life 55 g_life, rI cI qg_done 16 g_done, rI cI qg_undone 130 g_undone, rI cI qg_selves 16 g_selves, rI cI qg_when 27 g_when, rI cI qg_jury 16 g_jury, rI cI qg_years 6 g_years, rI cI qg_states 6 g_states, rI cI qg_kept 290 g_kept] H → va_D A [(qg, .inr (7, [.ref qg_text, .int g_size, .int g_at, .int g_begin, .int g_token, .int g_told, .ref qg_read, .ref qg_life, .int g_dones, .ref qg_done, .int g_undos, .ref qg_undone, .ref qg_selves, .ref qg_when, .ref qg_jury, .int g_seens, .ref qg_years, .ref qg_states, .long g_trace, .ref qg_kept])), rI cI qg_text 200 g_text, rI cI qg_read 55 g_read, rI cI qg_life 55 g_life, rI cI qg_done 16 g_done, rI cI qg_undone 130 g_undone, rI cI qg_selves 16 g_selves, rI cI qg_when 27 g_when, rI cI qg_jury 16 g_jury, rI cI qg_years 6 g_years, rI cI qg_states 6 g_states, rI cI qg_kept 290 g_kept] → va_S A s.heap H locs → lv_has ls 3 [(1, .int y3_0)] → W p l e ({ frames := 0, cells := 0, slots := 0, locals := 0 } : Room) s m args below meth c H locs 0 0 Q (F0 m 37 ls []) := by
      intro y3_0 heq H locs ls hP hD hS hl
      subst heq
      refine lv_iload_n hx hb dX7_rows_37 rfl (lv_at hl 0 rfl) ?_
      replace hf := Option.some.inj hf
      subst hf
      exact hret H locs _ ls dX7_rows_38 hP hD hS
    refine lpd_ind (P := fun s3 => ∀ (H : Heap) (locs : List Loc) (ls : Array Slot), va_P D vwCl [(qg, .inr (7, [.ref qg_text, .int g_size, .int g_at, .int g_begin, .int g_token, .int g_told, .ref qg_read, .ref qg_life, .int g_dones, .ref qg_done, .int g_undos, .ref qg_undone, .ref qg_selves, .ref qg_when, .ref qg_jury, .int g_seens, .ref qg_years, .ref qg_states, .long g_trace, .ref qg_kept])), rI cI qg_text 200 g_text, rI cI qg_read 55 g_read, rI cI qg_life 55 g_life, rI cI qg_done 16 g_done, rI cI qg_undone 130 g_undone, rI cI qg_selves 16 g_selves, rI cI qg_when 27 g_when, rI cI qg_jury 16 g_jury, rI cI qg_years 6 g_years, rI cI qg_states 6 g_states, rI cI qg_kept 290 g_kept] H → va_D A [(qg, .inr (7, [.ref qg_text, .int g_size, .int g_at, .int g_begin, .int g_token, .int g_told, .ref qg_read, .ref qg_life, .int g_dones, .ref qg_done, .int g_undos, .ref qg_undone, .ref qg_selves, .ref qg_when, .ref qg_jury, .int g_seens, .ref qg_years, .ref qg_states, .long g_trace, .ref qg_kept])), rI cI qg_text 200 g_text, rI cI qg_read 55 g_read, rI cI qg_life 55 g_life, rI cI qg_done 16 g_done, rI cI qg_undone 130 g_undone, rI cI qg_selves 16 g_selves, rI cI qg_when 27 g_when, rI cI qg_jury 16 g_jury, rI cI qg_years 6 g_years, rI cI qg_states 6 g_states, rI cI qg_kept 290 g_kept] → va_S A s.heap H locs → lv_has ls 3 [(0, .ref qg), (1, .int s3.1), (2, .int s3.2)] → W p l e ({ frames := 0, cells := 0, slots := 0, locals := 0 } : Room) s m args below meth c H locs 0 0 Q (F0 m 17 ls [])) e3 ?_ _ _ he3 H locs ls hP hD hS (lv_sub hl [2, 1, 0] rfl)
    intro s3 r3 hf ih3 hq3 H locs ls hP hD hS hl
    unfold sX7_rows_17 at hf
    refine lv_iload_n hx hb dX7_rows_17 rfl (lv_at hl 2 rfl) ?_
    refine lv_aload_n hx hb dX7_rows_18 rfl (lv_at hl 0 rfl) ?_
    refine k_get X hP 0 rfl rfl inX7 7 (by decide) fl_RX7_16 rfl rfl dX7_rows_19 ?_
    refine lv_iconst (v := 3) hx hb dX7_rows_22 (by decide) ?_
    obtain ⟨h4, hf⟩ := ck_t hf
    refine k_iald X hP 3 0 rfl rfl h4 dX7_rows_23 ?_
    refine lv_icmp_ge (tgt := 37) hx hb dX7_rows_24 (by decide) (fun c5 => ?_) (fun c5 => ?_)
    · replace hf := ite_t c5 hf
      exact hx3_0 _ (hq3 _ (Option.some.inj hf).symm) H locs ls hP hD hS (lv_sub hl [1] rfl)
    · replace hf := ite_f c5 hf
      refine lv_iload_n hx hb dX7_rows_27 rfl (lv_at hl 1 rfl) ?_
      refine lv_iconst (v := 3) hx hb dX7_rows_28 (by decide) ?_
      refine lv_imul hx hb dX7_rows_29 ?_
      refine lv_istore_n (lv' := [(1, .int (s3.1 * 3)), (0, .ref qg), (2, .int s3.2)]) hx hb dX7_rows_30 rfl hl (by decide) rfl (fun ls hl => ?_)
      refine lv_iinc (v := s3.2 + 1) (lv' := [(2, .int (s3.2 + 1)), (1, .int (s3.1 * 3)), (0, .ref qg)]) hx hb dX7_rows_31 hl (k := 2) rfl rfl (by decide) rfl (fun ls hl => ?_)
      refine lv_goto (tgt := 17) hx hb dX7_rows_34 (by decide) ?_
      exact ih3 _ (Option.some.inj hf).symm H locs ls hP hD hS (lv_sub hl [2, 1, 0] rfl)
  refine lv_if_ne (tgt := 13) hx hb dX7_rows_6 (by decide) (fun c6 => ?_) (fun c6 => ?_)
  · replace hf := ite_f c6 hf
    refine lv_iconst (v := 1) hx hb dX7_rows_13 (by decide) ?_
    exact hj2 _ H locs ls hf hP hD hS hl
  · replace hf := ite_t c6 hf
    refine lv_iconst (v := 0) hx hb dX7_rows_9 (by decide) ?_
    refine lv_goto (tgt := 14) hx hb dX7_rows_10 (by decide) ?_
    exact hj2 _ H locs ls hf hP hD hS hl

def fX7_isLife (a1 : Int32) (a2 : Int32) (a3 : Int32) (g_dones : Int32) (g_life : Nat → Int32) (g_done : Nat → Int32) (g_selves : Nat → Int32) : Option (Bool × (Nat → Int32)) :=
  (fX7_goes a1 a2 g_dones g_life g_done g_selves).bind (fun r1 => (fX7_words a3 g_life r1).bind (fun r2 => if r2 = a1 then some (true, r1) else some (false, r1)))
set_option maxHeartbeats 4000000 in
set_option maxRecDepth 100000 in
theorem ctX7_isLife (l : Launch) (D : va_G) (cI cZ cD cH : ClassId) (qg : Nat) (qg_text : Nat) (qg_read : Nat) (qg_life : Nat) (qg_done : Nat) (qg_undone : Nat) (qg_selves : Nat) (qg_when : Nat) (qg_jury : Nat) (qg_years : Nat) (qg_states : Nat) (qg_kept : Nat) (a1 : Int32) (a2 : Int32) (a3 : Int32) (g_size : Int32) (g_at : Int32) (g_begin : Int32) (g_token : Int32) (g_told : Int32) (g_dones : Int32) (g_undos : Int32) (g_seens : Int32) (g_trace : Int64) (g_text : Nat → Int32) (g_read : Nat → Int32) (g_life : Nat → Int32) (g_done : Nat → Int32) (g_undone : Nat → Int32) (g_selves : Nat → Int32) (g_when : Nat → Int32) (g_jury : Nat → Int32) (g_years : Nat → Int32) (g_states : Nat → Int32) (g_kept : Nat → Int32) (o : Bool × (Nat → Int32)) (hf : fX7_isLife a1 a2 a3 g_dones g_life g_done g_selves = some o) : Ct l yX7_isLife cX7_isLife 4 (some .boolean) { frames := 4, cells := 0, slots := 0, locals := 92 } D (Tys cI cZ cD cH) [.ref qg, .int a1, .int a2, .int a3] [(qg, .inr (7, [.ref qg_text, .int g_size, .int g_at, .int g_begin, .int g_token, .int g_told, .ref qg_read, .ref qg_life, .int g_dones, .ref qg_done, .int g_undos, .ref qg_undone, .ref qg_selves, .ref qg_when, .ref qg_jury, .int g_seens, .ref qg_years, .ref qg_states, .long g_trace, .ref qg_kept])), rI cI qg_text 200 g_text, rI cI qg_read 55 g_read, rI cI qg_life 55 g_life, rI cI qg_done 16 g_done, rI cI qg_undone 130 g_undone, rI cI qg_selves 16 g_selves, rI cI qg_when 27 g_when, rI cI qg_jury 16 g_jury, rI cI qg_years 6 g_years, rI cI qg_states 6 g_states, rI cI qg_kept 290 g_kept] [(qg, .inr (7, [.ref qg_text, .int g_size, .int g_at, .int g_begin, .int g_token, .int g_told, .ref qg_read, .ref qg_life, .int g_dones, .ref qg_done, .int g_undos, .ref qg_undone, .ref qg_selves, .ref qg_when, .ref qg_jury, .int g_seens, .ref qg_years, .ref qg_states, .long g_trace, .ref qg_kept])), rI cI qg_text 200 g_text, rI cI qg_read 55 g_read, rI cI qg_life 55 g_life, rI cI qg_done 16 g_done, rI cI qg_undone 130 g_undone, rI cI qg_selves 16 o.2, rI cI qg_when 27 g_when, rI cI qg_jury 16 g_jury, rI cI qg_years 6 g_years, rI cI qg_states 6 g_states, rI cI qg_kept 290 g_kept] (some (.int (bI o.1))) 0 0 := by
  refine mkZ (by decide) (Nat.le_of_ble_eq_true rfl) ?_
  intro p e s m args below meth c A Q X hret ls hl H locs hP hD hS
  replace X : Cx p s m args c D (Tys cI cZ cD cH) A cX7_isLife RX7 4 := X
  obtain ⟨hx, hb, hml, hown, hts, hK, hZ, hA⟩ := id X
  have hl : lv_has ls 4 [(0, .ref qg), (1, .int a1), (2, .int a2), (3, .int a3)] := hl
  unfold fX7_isLife at hf
  refine lv_aload_n hx hb dX7_isLife_0 rfl (lv_at hl 0 rfl) ?_
  refine lv_iload_n hx hb dX7_isLife_1 rfl (lv_at hl 1 rfl) ?_
  refine lv_iload_n hx hb dX7_isLife_2 rfl (lv_at hl 2 rfl) ?_
  obtain ⟨r1, hr1, hf⟩ := bnd hf
  refine k_callV X hP hD hS [(qg, .inr (7, [.ref qg_text, .int g_size, .int g_at, .int g_begin, .int g_token, .int g_told, .ref qg_read, .ref qg_life, .int g_dones, .ref qg_done, .int g_undos, .ref qg_undone, .ref qg_selves, .ref qg_when, .ref qg_jury, .int g_seens, .ref qg_years, .ref qg_states, .long g_trace, .ref qg_kept])), rI cI qg_text 200 g_text, rI cI qg_read 55 g_read, rI cI qg_life 55 g_life, rI cI qg_done 16 g_done, rI cI qg_undone 130 g_undone, rI cI qg_selves 16 r1, rI cI qg_when 27 g_when, rI cI qg_jury 16 g_jury, rI cI qg_years 6 g_years, rI cI qg_states 6 g_states, rI cI qg_kept 290 g_kept] (ctX7_goes l D cI cZ cD cH qg qg_text qg_read qg_life qg_done qg_undone qg_selves qg_when qg_jury qg_years qg_states qg_kept a1 a2 g_size g_at g_begin g_token g_told g_dones g_undos g_seens g_trace g_text g_read g_life g_done g_undone g_selves g_when g_jury g_years g_states g_kept r1 hr1) ml_RX7_164 im_yX7_goes se_yX7_goes in_RX7 cd_yX7_goes rfl rfl hd_yX7_goes ⟨by decide, by decide⟩ ⟨Nat.zero_le _, Nat.zero_le _⟩ [0, 1, 2, 3, 4, 5, 6, 7, 8, 9, 10, 11] [some 0, some 1, some 2, some 3, some 4, some 5, some 6, some 7, some 8, some 9, some 10, some 11] rfl (by decide +kernel) rfl (by decide +kernel) rfl rfl (q0 := 0) rfl rfl rfl hl.1 rfl rfl (Nat.le_of_ble_eq_true rfl) rfl dX7_isLife_3 (fun H locs hP hD hS => ?_)
  refine lv_aload_n hx hb dX7_isLife_6 rfl (lv_at hl 0 rfl) ?_
  refine lv_iload_n hx hb dX7_isLife_7 rfl (lv_at hl 3 rfl) ?_
  obtain ⟨r2, hr2, hf⟩ := bnd hf
  refine k_callV X hP hD hS [(qg, .inr (7, [.ref qg_text, .int g_size, .int g_at, .int g_begin, .int g_token, .int g_told, .ref qg_read, .ref qg_life, .int g_dones, .ref qg_done, .int g_undos, .ref qg_undone, .ref qg_selves, .ref qg_when, .ref qg_jury, .int g_seens, .ref qg_years, .ref qg_states, .long g_trace, .ref qg_kept])), rI cI qg_text 200 g_text, rI cI qg_read 55 g_read, rI cI qg_life 55 g_life, rI cI qg_done 16 g_done, rI cI qg_undone 130 g_undone, rI cI qg_selves 16 r1, rI cI qg_when 27 g_when, rI cI qg_jury 16 g_jury, rI cI qg_years 6 g_years, rI cI qg_states 6 g_states, rI cI qg_kept 290 g_kept] (ctX7_words l D cI cZ cD cH qg qg_text qg_read qg_life qg_done qg_undone qg_selves qg_when qg_jury qg_years qg_states qg_kept a3 g_size g_at g_begin g_token g_told g_dones g_undos g_seens g_trace g_text g_read g_life g_done g_undone r1 g_when g_jury g_years g_states g_kept r2 hr2) ml_RX7_167 im_yX7_words se_yX7_words in_RX7 cd_yX7_words rfl rfl hd_yX7_words ⟨by decide, by decide⟩ ⟨Nat.zero_le _, Nat.zero_le _⟩ [0, 1, 2, 3, 4, 5, 6, 7, 8, 9, 10, 11] [some 0, some 1, some 2, some 3, some 4, some 5, some 6, some 7, some 8, some 9, some 10, some 11] rfl (by decide +kernel) rfl (by decide +kernel) rfl rfl (q0 := 0) rfl rfl rfl hl.1 rfl rfl (Nat.le_of_ble_eq_true rfl) rfl dX7_isLife_8 (fun H locs hP hD hS => ?_)
  refine lv_iload_n hx hb dX7_isLife_11 rfl (lv_at hl 1 rfl) ?_
  refine lv_icmp_ne (tgt := 19) hx hb dX7_isLife_12 (by decide) (fun c3 => ?_) (fun c3 => ?_)
  · replace hf := ite_f c3 hf
    refine lv_iconst (v := 0) hx hb dX7_isLife_19 (by decide) ?_
    replace hf := Option.some.inj hf
    subst hf
    exact hret H locs _ ls dX7_isLife_20 hP hD hS
  · replace hf := ite_t c3 hf
    refine lv_iconst (v := 1) hx hb dX7_isLife_15 (by decide) ?_
    refine lv_goto (tgt := 20) hx hb dX7_isLife_16 (by decide) ?_
    replace hf := Option.some.inj hf
    subst hf
    exact hret H locs _ ls dX7_isLife_20 hP hD hS

def sX7_livesFrom_5 (v1 : Int32) (v2 : Int32) (g_dones : Int32) (g_life : Nat → Int32) (g_done : Nat → Int32) (v3 : Int32) (v4 : Int32) (g_selves : Nat → Int32) : Option ((Int32 × Int32 × (Nat → Int32)) ⊕ ((Int32 × (Nat → Int32)))) :=
  (fX7_rows g_life).bind (fun r2 => if r2 ≤ v4 then some (.inr (v3, g_selves)) else (fX7_isLife v4 v1 v2 g_dones g_life g_done g_selves).bind (fun r4 => if (bI r4.1) = 0 then some (.inl (v3 + 0, v4 + 1, r4.2)) else some (.inl (v3 + 1, v4 + 1, r4.2))))
def fX7_livesFrom (a1 : Int32) (a2 : Int32) (g_dones : Int32) (g_life : Nat → Int32) (g_done : Nat → Int32) (g_selves : Nat → Int32) : Option (Int32 × (Nat → Int32)) :=
  (lpd (fun s1 => sX7_livesFrom_5 a1 a2 g_dones g_life g_done s1.1 s1.2.1 s1.2.2) FU (0, 0, g_selves)).bind (fun (y1_0 : Int32 × (Nat → Int32)) => some (y1_0.1, y1_0.2))
set_option maxHeartbeats 4000000 in
set_option maxRecDepth 100000 in
theorem ctX7_livesFrom (l : Launch) (D : va_G) (cI cZ cD cH : ClassId) (qg : Nat) (qg_text : Nat) (qg_read : Nat) (qg_life : Nat) (qg_done : Nat) (qg_undone : Nat) (qg_selves : Nat) (qg_when : Nat) (qg_jury : Nat) (qg_years : Nat) (qg_states : Nat) (qg_kept : Nat) (a1 : Int32) (a2 : Int32) (g_size : Int32) (g_at : Int32) (g_begin : Int32) (g_token : Int32) (g_told : Int32) (g_dones : Int32) (g_undos : Int32) (g_seens : Int32) (g_trace : Int64) (g_text : Nat → Int32) (g_read : Nat → Int32) (g_life : Nat → Int32) (g_done : Nat → Int32) (g_undone : Nat → Int32) (g_selves : Nat → Int32) (g_when : Nat → Int32) (g_jury : Nat → Int32) (g_years : Nat → Int32) (g_states : Nat → Int32) (g_kept : Nat → Int32) (o : Int32 × (Nat → Int32)) (hf : fX7_livesFrom a1 a2 g_dones g_life g_done g_selves = some o) : Ct l yX7_livesFrom cX7_livesFrom 5 (some .int) { frames := 5, cells := 0, slots := 0, locals := 115 } D (Tys cI cZ cD cH) [.ref qg, .int a1, .int a2] [(qg, .inr (7, [.ref qg_text, .int g_size, .int g_at, .int g_begin, .int g_token, .int g_told, .ref qg_read, .ref qg_life, .int g_dones, .ref qg_done, .int g_undos, .ref qg_undone, .ref qg_selves, .ref qg_when, .ref qg_jury, .int g_seens, .ref qg_years, .ref qg_states, .long g_trace, .ref qg_kept])), rI cI qg_text 200 g_text, rI cI qg_read 55 g_read, rI cI qg_life 55 g_life, rI cI qg_done 16 g_done, rI cI qg_undone 130 g_undone, rI cI qg_selves 16 g_selves, rI cI qg_when 27 g_when, rI cI qg_jury 16 g_jury, rI cI qg_years 6 g_years, rI cI qg_states 6 g_states, rI cI qg_kept 290 g_kept] [(qg, .inr (7, [.ref qg_text, .int g_size, .int g_at, .int g_begin, .int g_token, .int g_told, .ref qg_read, .ref qg_life, .int g_dones, .ref qg_done, .int g_undos, .ref qg_undone, .ref qg_selves, .ref qg_when, .ref qg_jury, .int g_seens, .ref qg_years, .ref qg_states, .long g_trace, .ref qg_kept])), rI cI qg_text 200 g_text, rI cI qg_read 55 g_read, rI cI qg_life 55 g_life, rI cI qg_done 16 g_done, rI cI qg_undone 130 g_undone, rI cI qg_selves 16 o.2, rI cI qg_when 27 g_when, rI cI qg_jury 16 g_jury, rI cI qg_years 6 g_years, rI cI qg_states 6 g_states, rI cI qg_kept 290 g_kept] (some (.int o.1)) 0 0 := by
  refine mkI (by decide) (Nat.le_of_ble_eq_true rfl) ?_
  intro p e s m args below meth c A Q X hret ls hl H locs hP hD hS
  replace X : Cx p s m args c D (Tys cI cZ cD cH) A cX7_livesFrom RX7 5 := X
  obtain ⟨hx, hb, hml, hown, hts, hK, hZ, hA⟩ := id X
  have hl : lv_has ls 5 [(0, .ref qg), (1, .int a1), (2, .int a2)] := hl
  unfold fX7_livesFrom at hf
  refine lv_iconst (v := 0) hx hb dX7_livesFrom_0 (by decide) ?_
  refine lv_istore_n (lv' := [(3, .int 0), (0, .ref qg), (1, .int a1), (2, .int a2)]) hx hb dX7_livesFrom_1 rfl hl (by decide) rfl (fun ls hl => ?_)
  refine lv_iconst (v := 0) hx hb dX7_livesFrom_2 (by decide) ?_
  refine lv_istore (lv' := [(4, .int 0), (3, .int 0), (0, .ref qg), (1, .int a1), (2, .int a2)]) hx hb dX7_livesFrom_3 hl (by decide) rfl (fun ls hl => ?_)
  obtain ⟨e1, he1, hf⟩ := bnd hf
  have hx1_0 : ∀ (y1_0 : Int32 × (Nat → Int32)), y1_0 = e1 → ∀ (H : Heap) (locs : List Loc) (ls : Array Slot), va_P D vwCl [(qg, .inr (7, [.ref qg_text, .int g_size, .int g_at, .int g_begin, .int g_token, .int g_told, .ref qg_read, .ref qg_life, .int g_dones, .ref qg_done, .int g_undos, .ref qg_undone, .ref qg_selves, .ref qg_when, .ref qg_jury, .int g_seens, .ref qg_years, .ref qg_states, .long g_trace, .ref qg_kept])), rI cI qg_text 200 g_text, rI cI qg_read 55 g_read, rI cI qg_life 55 g_life, rI cI qg_done 16 g_done, rI cI qg_undone 130 g_undone, rI cI qg_selves 16 y1_0.2, rI cI qg_when 27 g_when, rI cI qg_jury 16 g_jury, rI cI qg_years 6 g_years, rI cI qg_states 6 g_states, rI cI qg_kept 290 g_kept] H → va_D A [(qg, .inr (7, [.ref qg_text, .int g_size, .int g_at, .int g_begin, .int g_token, .int g_told, .ref qg_read, .ref qg_life, .int g_dones, .ref qg_done, .int g_undos, .ref qg_undone, .ref qg_selves, .ref qg_when, .ref qg_jury, .int g_seens, .ref qg_years, .ref qg_states, .long g_trace, .ref qg_kept])), rI cI qg_text 200 g_text, rI cI qg_read 55 g_read, rI cI qg_life 55 g_life, rI cI qg_done 16 g_done, rI cI qg_undone 130 g_undone, rI cI qg_selves 16 y1_0.2, rI cI qg_when 27 g_when, rI cI qg_jury 16 g_jury, rI cI qg_years 6 g_years, rI cI qg_states 6 g_states, rI cI qg_kept 290 g_kept] → va_S A s.heap H locs → lv_has ls 5 [(3, .int y1_0.1)] → W p l e ({ frames := 5, cells := 0, slots := 0, locals := 115 } : Room) s m args below meth c H locs 0 0 Q (F0 m 39 ls []) := by
    intro y1_0 heq H locs ls hP hD hS hl
    subst heq
    refine lv_iload_n hx hb dX7_livesFrom_39 rfl (lv_at hl 0 rfl) ?_
    replace hf := Option.some.inj hf
    subst hf
    exact hret H locs _ ls dX7_livesFrom_40 hP hD hS
  refine lpd_ind (P := fun s1 => ∀ (H : Heap) (locs : List Loc) (ls : Array Slot), va_P D vwCl [(qg, .inr (7, [.ref qg_text, .int g_size, .int g_at, .int g_begin, .int g_token, .int g_told, .ref qg_read, .ref qg_life, .int g_dones, .ref qg_done, .int g_undos, .ref qg_undone, .ref qg_selves, .ref qg_when, .ref qg_jury, .int g_seens, .ref qg_years, .ref qg_states, .long g_trace, .ref qg_kept])), rI cI qg_text 200 g_text, rI cI qg_read 55 g_read, rI cI qg_life 55 g_life, rI cI qg_done 16 g_done, rI cI qg_undone 130 g_undone, rI cI qg_selves 16 s1.2.2, rI cI qg_when 27 g_when, rI cI qg_jury 16 g_jury, rI cI qg_years 6 g_years, rI cI qg_states 6 g_states, rI cI qg_kept 290 g_kept] H → va_D A [(qg, .inr (7, [.ref qg_text, .int g_size, .int g_at, .int g_begin, .int g_token, .int g_told, .ref qg_read, .ref qg_life, .int g_dones, .ref qg_done, .int g_undos, .ref qg_undone, .ref qg_selves, .ref qg_when, .ref qg_jury, .int g_seens, .ref qg_years, .ref qg_states, .long g_trace, .ref qg_kept])), rI cI qg_text 200 g_text, rI cI qg_read 55 g_read, rI cI qg_life 55 g_life, rI cI qg_done 16 g_done, rI cI qg_undone 130 g_undone, rI cI qg_selves 16 s1.2.2, rI cI qg_when 27 g_when, rI cI qg_jury 16 g_jury, rI cI qg_years 6 g_years, rI cI qg_states 6 g_states, rI cI qg_kept 290 g_kept] → va_S A s.heap H locs → lv_has ls 5 [(0, .ref qg), (1, .int a1), (2, .int a2), (3, .int s1.1), (4, .int s1.2.1)] → W p l e ({ frames := 5, cells := 0, slots := 0, locals := 115 } : Room) s m args below meth c H locs 0 0 Q (F0 m 5 ls [])) e1 ?_ _ _ he1 H locs ls hP hD hS (lv_sub hl [2, 3, 4, 1, 0] rfl)
  intro s1 r1 hf ih1 hq1 H locs ls hP hD hS hl
  unfold sX7_livesFrom_5 at hf
  refine lv_iload hx hb dX7_livesFrom_5 (lv_at hl 4 rfl) ?_
  refine lv_aload_n hx hb dX7_livesFrom_7 rfl (lv_at hl 0 rfl) ?_
  obtain ⟨r2, hr2, hf⟩ := bnd hf
  refine k_callV X hP hD hS [(qg, .inr (7, [.ref qg_text, .int g_size, .int g_at, .int g_begin, .int g_token, .int g_told, .ref qg_read, .ref qg_life, .int g_dones, .ref qg_done, .int g_undos, .ref qg_undone, .ref qg_selves, .ref qg_when, .ref qg_jury, .int g_seens, .ref qg_years, .ref qg_states, .long g_trace, .ref qg_kept])), rI cI qg_text 200 g_text, rI cI qg_read 55 g_read, rI cI qg_life 55 g_life, rI cI qg_done 16 g_done, rI cI qg_undone 130 g_undone, rI cI qg_selves 16 s1.2.2, rI cI qg_when 27 g_when, rI cI qg_jury 16 g_jury, rI cI qg_years 6 g_years, rI cI qg_states 6 g_states, rI cI qg_kept 290 g_kept] (ctX7_rows l D cI cZ cD cH qg qg_text qg_read qg_life qg_done qg_undone qg_selves qg_when qg_jury qg_years qg_states qg_kept g_size g_at g_begin g_token g_told g_dones g_undos g_seens g_trace g_text g_read g_life g_done g_undone s1.2.2 g_when g_jury g_years g_states g_kept r2 hr2) ml_RX7_170 im_yX7_rows se_yX7_rows in_RX7 cd_yX7_rows rfl rfl hd_yX7_rows ⟨by decide, by decide⟩ ⟨Nat.zero_le _, Nat.zero_le _⟩ [0, 1, 2, 3, 4, 5, 6, 7, 8, 9, 10, 11] [some 0, some 1, some 2, some 3, some 4, some 5, some 6, some 7, some 8, some 9, some 10, some 11] rfl (by decide +kernel) rfl (by decide +kernel) rfl rfl (q0 := 0) rfl rfl rfl hl.1 rfl rfl (Nat.le_of_ble_eq_true rfl) rfl dX7_livesFrom_8 (fun H locs hP hD hS => ?_)
  refine lv_icmp_ge (tgt := 39) hx hb dX7_livesFrom_11 (by decide) (fun c3 => ?_) (fun c3 => ?_)
  · replace hf := ite_t c3 hf
    exact hx1_0 _ (hq1 _ (Option.some.inj hf).symm) H locs ls hP hD hS (lv_sub hl [3] rfl)
  · replace hf := ite_f c3 hf
    refine lv_iload_n hx hb dX7_livesFrom_14 rfl (lv_at hl 3 rfl) ?_
    refine lv_aload_n hx hb dX7_livesFrom_15 rfl (lv_at hl 0 rfl) ?_
    refine lv_iload hx hb dX7_livesFrom_16 (lv_at hl 4 rfl) ?_
    refine lv_iload_n hx hb dX7_livesFrom_18 rfl (lv_at hl 1 rfl) ?_
    refine lv_iload_n hx hb dX7_livesFrom_19 rfl (lv_at hl 2 rfl) ?_
    obtain ⟨r4, hr4, hf⟩ := bnd hf
    refine k_callV X hP hD hS [(qg, .inr (7, [.ref qg_text, .int g_size, .int g_at, .int g_begin, .int g_token, .int g_told, .ref qg_read, .ref qg_life, .int g_dones, .ref qg_done, .int g_undos, .ref qg_undone, .ref qg_selves, .ref qg_when, .ref qg_jury, .int g_seens, .ref qg_years, .ref qg_states, .long g_trace, .ref qg_kept])), rI cI qg_text 200 g_text, rI cI qg_read 55 g_read, rI cI qg_life 55 g_life, rI cI qg_done 16 g_done, rI cI qg_undone 130 g_undone, rI cI qg_selves 16 r4.2, rI cI qg_when 27 g_when, rI cI qg_jury 16 g_jury, rI cI qg_years 6 g_years, rI cI qg_states 6 g_states, rI cI qg_kept 290 g_kept] (ctX7_isLife l D cI cZ cD cH qg qg_text qg_read qg_life qg_done qg_undone qg_selves qg_when qg_jury qg_years qg_states qg_kept s1.2.1 a1 a2 g_size g_at g_begin g_token g_told g_dones g_undos g_seens g_trace g_text g_read g_life g_done g_undone s1.2.2 g_when g_jury g_years g_states g_kept r4 hr4) ml_RX7_174 im_yX7_isLife se_yX7_isLife in_RX7 cd_yX7_isLife rfl rfl hd_yX7_isLife ⟨by decide, by decide⟩ ⟨Nat.zero_le _, Nat.zero_le _⟩ [0, 1, 2, 3, 4, 5, 6, 7, 8, 9, 10, 11] [some 0, some 1, some 2, some 3, some 4, some 5, some 6, some 7, some 8, some 9, some 10, some 11] rfl (by decide +kernel) rfl (by decide +kernel) rfl rfl (q0 := 0) rfl rfl rfl hl.1 rfl rfl (Nat.le_of_ble_eq_true rfl) rfl dX7_livesFrom_20 (fun H locs hP hD hS => ?_)
    refine lv_if_eq (tgt := 30) hx hb dX7_livesFrom_23 (by decide) (fun c5 => ?_) (fun c5 => ?_)
    · replace hf := ite_t c5 hf
      refine lv_iconst (v := 0) hx hb dX7_livesFrom_30 (by decide) ?_
      refine lv_iadd hx hb dX7_livesFrom_31 ?_
      refine lv_istore_n (lv' := [(3, .int (s1.1 + 0)), (0, .ref qg), (1, .int a1), (2, .int a2), (4, .int s1.2.1)]) hx hb dX7_livesFrom_32 rfl hl (by decide) rfl (fun ls hl => ?_)
      refine lv_iinc (v := s1.2.1 + 1) (lv' := [(4, .int (s1.2.1 + 1)), (3, .int (s1.1 + 0)), (0, .ref qg), (1, .int a1), (2, .int a2)]) hx hb dX7_livesFrom_33 hl (k := 4) rfl rfl (by decide) rfl (fun ls hl => ?_)
      refine lv_goto (tgt := 5) hx hb dX7_livesFrom_36 (by decide) ?_
      exact ih1 _ (Option.some.inj hf).symm H locs ls hP hD hS (lv_sub hl [2, 3, 4, 1, 0] rfl)
    · replace hf := ite_f c5 hf
      refine lv_iconst (v := 1) hx hb dX7_livesFrom_26 (by decide) ?_
      refine lv_goto (tgt := 31) hx hb dX7_livesFrom_27 (by decide) ?_
      refine lv_iadd hx hb dX7_livesFrom_31 ?_
      refine lv_istore_n (lv' := [(3, .int (s1.1 + 1)), (0, .ref qg), (1, .int a1), (2, .int a2), (4, .int s1.2.1)]) hx hb dX7_livesFrom_32 rfl hl (by decide) rfl (fun ls hl => ?_)
      refine lv_iinc (v := s1.2.1 + 1) (lv' := [(4, .int (s1.2.1 + 1)), (3, .int (s1.1 + 1)), (0, .ref qg), (1, .int a1), (2, .int a2)]) hx hb dX7_livesFrom_33 hl (k := 4) rfl rfl (by decide) rfl (fun ls hl => ?_)
      refine lv_goto (tgt := 5) hx hb dX7_livesFrom_36 (by decide) ?_
      exact ih1 _ (Option.some.inj hf).symm H locs ls hP hD hS (lv_sub hl [2, 3, 4, 1, 0] rfl)

def fX7_lives (g_dones : Int32) (g_life : Nat → Int32) (g_done : Nat → Int32) (g_selves : Nat → Int32) : Option (Int32 × (Nat → Int32)) :=
  (fX7_beginning g_life).bind (fun r1 => if inb 4 55 = true then (fX7_livesFrom r1 (g_life (4 : Int32).toNatClampNeg) g_dones g_life g_done g_selves).bind (fun r3 => some (r3.1, r3.2)) else none)
set_option maxHeartbeats 4000000 in
set_option maxRecDepth 100000 in
theorem ctX7_lives (l : Launch) (D : va_G) (cI cZ cD cH : ClassId) (qg : Nat) (qg_text : Nat) (qg_read : Nat) (qg_life : Nat) (qg_done : Nat) (qg_undone : Nat) (qg_selves : Nat) (qg_when : Nat) (qg_jury : Nat) (qg_years : Nat) (qg_states : Nat) (qg_kept : Nat) (g_size : Int32) (g_at : Int32) (g_begin : Int32) (g_token : Int32) (g_told : Int32) (g_dones : Int32) (g_undos : Int32) (g_seens : Int32) (g_trace : Int64) (g_text : Nat → Int32) (g_read : Nat → Int32) (g_life : Nat → Int32) (g_done : Nat → Int32) (g_undone : Nat → Int32) (g_selves : Nat → Int32) (g_when : Nat → Int32) (g_jury : Nat → Int32) (g_years : Nat → Int32) (g_states : Nat → Int32) (g_kept : Nat → Int32) (o : Int32 × (Nat → Int32)) (hf : fX7_lives g_dones g_life g_done g_selves = some o) : Ct l yX7_lives cX7_lives 1 (some .int) { frames := 6, cells := 0, slots := 0, locals := 139 } D (Tys cI cZ cD cH) [.ref qg] [(qg, .inr (7, [.ref qg_text, .int g_size, .int g_at, .int g_begin, .int g_token, .int g_told, .ref qg_read, .ref qg_life, .int g_dones, .ref qg_done, .int g_undos, .ref qg_undone, .ref qg_selves, .ref qg_when, .ref qg_jury, .int g_seens, .ref qg_years, .ref qg_states, .long g_trace, .ref qg_kept])), rI cI qg_text 200 g_text, rI cI qg_read 55 g_read, rI cI qg_life 55 g_life, rI cI qg_done 16 g_done, rI cI qg_undone 130 g_undone, rI cI qg_selves 16 g_selves, rI cI qg_when 27 g_when, rI cI qg_jury 16 g_jury, rI cI qg_years 6 g_years, rI cI qg_states 6 g_states, rI cI qg_kept 290 g_kept] [(qg, .inr (7, [.ref qg_text, .int g_size, .int g_at, .int g_begin, .int g_token, .int g_told, .ref qg_read, .ref qg_life, .int g_dones, .ref qg_done, .int g_undos, .ref qg_undone, .ref qg_selves, .ref qg_when, .ref qg_jury, .int g_seens, .ref qg_years, .ref qg_states, .long g_trace, .ref qg_kept])), rI cI qg_text 200 g_text, rI cI qg_read 55 g_read, rI cI qg_life 55 g_life, rI cI qg_done 16 g_done, rI cI qg_undone 130 g_undone, rI cI qg_selves 16 o.2, rI cI qg_when 27 g_when, rI cI qg_jury 16 g_jury, rI cI qg_years 6 g_years, rI cI qg_states 6 g_states, rI cI qg_kept 290 g_kept] (some (.int o.1)) 0 0 := by
  refine mkI (by decide) (Nat.le_of_ble_eq_true rfl) ?_
  intro p e s m args below meth c A Q X hret ls hl H locs hP hD hS
  replace X : Cx p s m args c D (Tys cI cZ cD cH) A cX7_lives RX7 1 := X
  obtain ⟨hx, hb, hml, hown, hts, hK, hZ, hA⟩ := id X
  have hl : lv_has ls 1 [(0, .ref qg)] := hl
  unfold fX7_lives at hf
  refine lv_aload_n hx hb dX7_lives_0 rfl (lv_at hl 0 rfl) ?_
  refine lv_aload_n hx hb dX7_lives_1 rfl (lv_at hl 0 rfl) ?_
  obtain ⟨r1, hr1, hf⟩ := bnd hf
  refine k_callV X hP hD hS [(qg, .inr (7, [.ref qg_text, .int g_size, .int g_at, .int g_begin, .int g_token, .int g_told, .ref qg_read, .ref qg_life, .int g_dones, .ref qg_done, .int g_undos, .ref qg_undone, .ref qg_selves, .ref qg_when, .ref qg_jury, .int g_seens, .ref qg_years, .ref qg_states, .long g_trace, .ref qg_kept])), rI cI qg_text 200 g_text, rI cI qg_read 55 g_read, rI cI qg_life 55 g_life, rI cI qg_done 16 g_done, rI cI qg_undone 130 g_undone, rI cI qg_selves 16 g_selves, rI cI qg_when 27 g_when, rI cI qg_jury 16 g_jury, rI cI qg_years 6 g_years, rI cI qg_states 6 g_states, rI cI qg_kept 290 g_kept] (ctX7_beginning l D cI cZ cD cH qg qg_text qg_read qg_life qg_done qg_undone qg_selves qg_when qg_jury qg_years qg_states qg_kept g_size g_at g_begin g_token g_told g_dones g_undos g_seens g_trace g_text g_read g_life g_done g_undone g_selves g_when g_jury g_years g_states g_kept r1 hr1) ml_RX7_178 im_yX7_beginning se_yX7_beginning in_RX7 cd_yX7_beginning rfl rfl hd_yX7_beginning ⟨by decide, by decide⟩ ⟨Nat.zero_le _, Nat.zero_le _⟩ [0, 1, 2, 3, 4, 5, 6, 7, 8, 9, 10, 11] [some 0, some 1, some 2, some 3, some 4, some 5, some 6, some 7, some 8, some 9, some 10, some 11] rfl (by decide +kernel) rfl (by decide +kernel) rfl rfl (q0 := 0) rfl rfl rfl hl.1 rfl rfl (Nat.le_of_ble_eq_true rfl) rfl dX7_lives_2 (fun H locs hP hD hS => ?_)
  refine lv_aload_n hx hb dX7_lives_5 rfl (lv_at hl 0 rfl) ?_
  refine k_get X hP 0 rfl rfl inX7 7 (by decide) fl_RX7_16 rfl rfl dX7_lives_6 ?_
  refine lv_iconst (v := 4) hx hb dX7_lives_9 (by decide) ?_
  obtain ⟨h2, hf⟩ := ck_t hf
  refine k_iald X hP 3 0 rfl rfl h2 dX7_lives_10 ?_
  obtain ⟨r3, hr3, hf⟩ := bnd hf
  refine k_callV X hP hD hS [(qg, .inr (7, [.ref qg_text, .int g_size, .int g_at, .int g_begin, .int g_token, .int g_told, .ref qg_read, .ref qg_life, .int g_dones, .ref qg_done, .int g_undos, .ref qg_undone, .ref qg_selves, .ref qg_when, .ref qg_jury, .int g_seens, .ref qg_years, .ref qg_states, .long g_trace, .ref qg_kept])), rI cI qg_text 200 g_text, rI cI qg_read 55 g_read, rI cI qg_life 55 g_life, rI cI qg_done 16 g_done, rI cI qg_undone 130 g_undone, rI cI qg_selves 16 r3.2, rI cI qg_when 27 g_when, rI cI qg_jury 16 g_jury, rI cI qg_years 6 g_years, rI cI qg_states 6 g_states, rI cI qg_kept 290 g_kept] (ctX7_livesFrom l D cI cZ cD cH qg qg_text qg_read qg_life qg_done qg_undone qg_selves qg_when qg_jury qg_years qg_states qg_kept r1 (g_life (4 : Int32).toNatClampNeg) g_size g_at g_begin g_token g_told g_dones g_undos g_seens g_trace g_text g_read g_life g_done g_undone g_selves g_when g_jury g_years g_states g_kept r3 hr3) ml_RX7_181 im_yX7_livesFrom se_yX7_livesFrom in_RX7 cd_yX7_livesFrom rfl rfl hd_yX7_livesFrom ⟨by decide, by decide⟩ ⟨Nat.zero_le _, Nat.zero_le _⟩ [0, 1, 2, 3, 4, 5, 6, 7, 8, 9, 10, 11] [some 0, some 1, some 2, some 3, some 4, some 5, some 6, some 7, some 8, some 9, some 10, some 11] rfl (by decide +kernel) rfl (by decide +kernel) rfl rfl (q0 := 0) rfl rfl rfl hl.1 rfl rfl (Nat.le_of_ble_eq_true rfl) rfl dX7_lives_11 (fun H locs hP hD hS => ?_)
  replace hf := Option.some.inj hf
  subst hf
  exact hret H locs _ ls dX7_lives_14 hP hD hS

def sX7_gone_4 (v1 : Int32) (g_dones : Int32) (g_life : Nat → Int32) (g_done : Nat → Int32) (v2 : Int32) (v3 : Int32) (g_selves : Nat → Int32) : Option ((Int32 × Int32 × (Nat → Int32)) ⊕ ((Int32 × (Nat → Int32)) ⊕ ((Nat → Int32)))) :=
  (fX7_rows g_life).bind (fun r2 => if r2 ≤ v3 then some (.inr (Sum.inr g_selves)) else (fX7_beginning g_life).bind (fun r4 => if inb 4 55 = true then (fX7_isLife v3 r4 (g_life (4 : Int32).toNatClampNeg) g_dones g_life g_done g_selves).bind (fun r6 => if (bI r6.1) = 0 then some (.inl (v2, v3 + 1, r6.2)) else if v2 = v1 then some (.inr (Sum.inl (v3, r6.2))) else some (.inl (v2 + 1, v3 + 1, r6.2))) else none))
def fX7_gone (a1 : Int32) (g_dones : Int32) (g_life : Nat → Int32) (g_done : Nat → Int32) (g_selves : Nat → Int32) : Option (Int32 × (Nat → Int32)) :=
  (lpd (fun s1 => sX7_gone_4 a1 g_dones g_life g_done s1.1 s1.2.1 s1.2.2) FU (0, 0, g_selves)).bind (Sum.elim (fun (y1_0 : Int32 × (Nat → Int32)) => some (y1_0.1, y1_0.2)) (fun (y1_1 : (Nat → Int32)) => some ((-1), y1_1)))
set_option maxHeartbeats 4000000 in
set_option maxRecDepth 100000 in
theorem ctX7_gone (l : Launch) (D : va_G) (cI cZ cD cH : ClassId) (qg : Nat) (qg_text : Nat) (qg_read : Nat) (qg_life : Nat) (qg_done : Nat) (qg_undone : Nat) (qg_selves : Nat) (qg_when : Nat) (qg_jury : Nat) (qg_years : Nat) (qg_states : Nat) (qg_kept : Nat) (a1 : Int32) (g_size : Int32) (g_at : Int32) (g_begin : Int32) (g_token : Int32) (g_told : Int32) (g_dones : Int32) (g_undos : Int32) (g_seens : Int32) (g_trace : Int64) (g_text : Nat → Int32) (g_read : Nat → Int32) (g_life : Nat → Int32) (g_done : Nat → Int32) (g_undone : Nat → Int32) (g_selves : Nat → Int32) (g_when : Nat → Int32) (g_jury : Nat → Int32) (g_years : Nat → Int32) (g_states : Nat → Int32) (g_kept : Nat → Int32) (o : Int32 × (Nat → Int32)) (hf : fX7_gone a1 g_dones g_life g_done g_selves = some o) : Ct l yX7_gone cX7_gone 4 (some .int) { frames := 5, cells := 0, slots := 0, locals := 115 } D (Tys cI cZ cD cH) [.ref qg, .int a1] [(qg, .inr (7, [.ref qg_text, .int g_size, .int g_at, .int g_begin, .int g_token, .int g_told, .ref qg_read, .ref qg_life, .int g_dones, .ref qg_done, .int g_undos, .ref qg_undone, .ref qg_selves, .ref qg_when, .ref qg_jury, .int g_seens, .ref qg_years, .ref qg_states, .long g_trace, .ref qg_kept])), rI cI qg_text 200 g_text, rI cI qg_read 55 g_read, rI cI qg_life 55 g_life, rI cI qg_done 16 g_done, rI cI qg_undone 130 g_undone, rI cI qg_selves 16 g_selves, rI cI qg_when 27 g_when, rI cI qg_jury 16 g_jury, rI cI qg_years 6 g_years, rI cI qg_states 6 g_states, rI cI qg_kept 290 g_kept] [(qg, .inr (7, [.ref qg_text, .int g_size, .int g_at, .int g_begin, .int g_token, .int g_told, .ref qg_read, .ref qg_life, .int g_dones, .ref qg_done, .int g_undos, .ref qg_undone, .ref qg_selves, .ref qg_when, .ref qg_jury, .int g_seens, .ref qg_years, .ref qg_states, .long g_trace, .ref qg_kept])), rI cI qg_text 200 g_text, rI cI qg_read 55 g_read, rI cI qg_life 55 g_life, rI cI qg_done 16 g_done, rI cI qg_undone 130 g_undone, rI cI qg_selves 16 o.2, rI cI qg_when 27 g_when, rI cI qg_jury 16 g_jury, rI cI qg_years 6 g_years, rI cI qg_states 6 g_states, rI cI qg_kept 290 g_kept] (some (.int o.1)) 0 0 := by
  refine mkI (by decide) (Nat.le_of_ble_eq_true rfl) ?_
  intro p e s m args below meth c A Q X hret ls hl H locs hP hD hS
  replace X : Cx p s m args c D (Tys cI cZ cD cH) A cX7_gone RX7 4 := X
  obtain ⟨hx, hb, hml, hown, hts, hK, hZ, hA⟩ := id X
  have hl : lv_has ls 4 [(0, .ref qg), (1, .int a1)] := hl
  unfold fX7_gone at hf
  refine lv_iconst (v := 0) hx hb dX7_gone_0 (by decide) ?_
  refine lv_istore_n (lv' := [(2, .int 0), (0, .ref qg), (1, .int a1)]) hx hb dX7_gone_1 rfl hl (by decide) rfl (fun ls hl => ?_)
  refine lv_iconst (v := 0) hx hb dX7_gone_2 (by decide) ?_
  refine lv_istore_n (lv' := [(3, .int 0), (2, .int 0), (0, .ref qg), (1, .int a1)]) hx hb dX7_gone_3 rfl hl (by decide) rfl (fun ls hl => ?_)
  obtain ⟨e1, he1, hf⟩ := bnd hf
  have hx1_0 : ∀ (y1_0 : Int32 × (Nat → Int32)), (Sum.inl y1_0) = e1 → ∀ (H : Heap) (locs : List Loc) (ls : Array Slot), va_P D vwCl [(qg, .inr (7, [.ref qg_text, .int g_size, .int g_at, .int g_begin, .int g_token, .int g_told, .ref qg_read, .ref qg_life, .int g_dones, .ref qg_done, .int g_undos, .ref qg_undone, .ref qg_selves, .ref qg_when, .ref qg_jury, .int g_seens, .ref qg_years, .ref qg_states, .long g_trace, .ref qg_kept])), rI cI qg_text 200 g_text, rI cI qg_read 55 g_read, rI cI qg_life 55 g_life, rI cI qg_done 16 g_done, rI cI qg_undone 130 g_undone, rI cI qg_selves 16 y1_0.2, rI cI qg_when 27 g_when, rI cI qg_jury 16 g_jury, rI cI qg_years 6 g_years, rI cI qg_states 6 g_states, rI cI qg_kept 290 g_kept] H → va_D A [(qg, .inr (7, [.ref qg_text, .int g_size, .int g_at, .int g_begin, .int g_token, .int g_told, .ref qg_read, .ref qg_life, .int g_dones, .ref qg_done, .int g_undos, .ref qg_undone, .ref qg_selves, .ref qg_when, .ref qg_jury, .int g_seens, .ref qg_years, .ref qg_states, .long g_trace, .ref qg_kept])), rI cI qg_text 200 g_text, rI cI qg_read 55 g_read, rI cI qg_life 55 g_life, rI cI qg_done 16 g_done, rI cI qg_undone 130 g_undone, rI cI qg_selves 16 y1_0.2, rI cI qg_when 27 g_when, rI cI qg_jury 16 g_jury, rI cI qg_years 6 g_years, rI cI qg_states 6 g_states, rI cI qg_kept 290 g_kept] → va_S A s.heap H locs → lv_has ls 4 [(3, .int y1_0.1)] → W p l e ({ frames := 5, cells := 0, slots := 0, locals := 115 } : Room) s m args below meth c H locs 0 0 Q (F0 m 35 ls []) := by
    intro y1_0 heq H locs ls hP hD hS hl
    subst heq
    replace hf := se_l hf
    refine lv_iload_n hx hb dX7_gone_35 rfl (lv_at hl 0 rfl) ?_
    replace hf := Option.some.inj hf
    subst hf
    exact hret H locs _ ls dX7_gone_36 hP hD hS
  have hx1_1 : ∀ (y1_1 : (Nat → Int32)), (Sum.inr y1_1) = e1 → ∀ (H : Heap) (locs : List Loc) (ls : Array Slot), va_P D vwCl [(qg, .inr (7, [.ref qg_text, .int g_size, .int g_at, .int g_begin, .int g_token, .int g_told, .ref qg_read, .ref qg_life, .int g_dones, .ref qg_done, .int g_undos, .ref qg_undone, .ref qg_selves, .ref qg_when, .ref qg_jury, .int g_seens, .ref qg_years, .ref qg_states, .long g_trace, .ref qg_kept])), rI cI qg_text 200 g_text, rI cI qg_read 55 g_read, rI cI qg_life 55 g_life, rI cI qg_done 16 g_done, rI cI qg_undone 130 g_undone, rI cI qg_selves 16 y1_1, rI cI qg_when 27 g_when, rI cI qg_jury 16 g_jury, rI cI qg_years 6 g_years, rI cI qg_states 6 g_states, rI cI qg_kept 290 g_kept] H → va_D A [(qg, .inr (7, [.ref qg_text, .int g_size, .int g_at, .int g_begin, .int g_token, .int g_told, .ref qg_read, .ref qg_life, .int g_dones, .ref qg_done, .int g_undos, .ref qg_undone, .ref qg_selves, .ref qg_when, .ref qg_jury, .int g_seens, .ref qg_years, .ref qg_states, .long g_trace, .ref qg_kept])), rI cI qg_text 200 g_text, rI cI qg_read 55 g_read, rI cI qg_life 55 g_life, rI cI qg_done 16 g_done, rI cI qg_undone 130 g_undone, rI cI qg_selves 16 y1_1, rI cI qg_when 27 g_when, rI cI qg_jury 16 g_jury, rI cI qg_years 6 g_years, rI cI qg_states 6 g_states, rI cI qg_kept 290 g_kept] → va_S A s.heap H locs → lv_has ls 4 [] → W p l e ({ frames := 5, cells := 0, slots := 0, locals := 115 } : Room) s m args below meth c H locs 0 0 Q (F0 m 46 ls []) := by
    intro y1_1 heq H locs ls hP hD hS hl
    subst heq
    replace hf := se_r hf
    refine lv_iconst (v := (-1)) hx hb dX7_gone_46 (by decide) ?_
    replace hf := Option.some.inj hf
    subst hf
    exact hret H locs _ ls dX7_gone_47 hP hD hS
  refine lpd_ind (P := fun s1 => ∀ (H : Heap) (locs : List Loc) (ls : Array Slot), va_P D vwCl [(qg, .inr (7, [.ref qg_text, .int g_size, .int g_at, .int g_begin, .int g_token, .int g_told, .ref qg_read, .ref qg_life, .int g_dones, .ref qg_done, .int g_undos, .ref qg_undone, .ref qg_selves, .ref qg_when, .ref qg_jury, .int g_seens, .ref qg_years, .ref qg_states, .long g_trace, .ref qg_kept])), rI cI qg_text 200 g_text, rI cI qg_read 55 g_read, rI cI qg_life 55 g_life, rI cI qg_done 16 g_done, rI cI qg_undone 130 g_undone, rI cI qg_selves 16 s1.2.2, rI cI qg_when 27 g_when, rI cI qg_jury 16 g_jury, rI cI qg_years 6 g_years, rI cI qg_states 6 g_states, rI cI qg_kept 290 g_kept] H → va_D A [(qg, .inr (7, [.ref qg_text, .int g_size, .int g_at, .int g_begin, .int g_token, .int g_told, .ref qg_read, .ref qg_life, .int g_dones, .ref qg_done, .int g_undos, .ref qg_undone, .ref qg_selves, .ref qg_when, .ref qg_jury, .int g_seens, .ref qg_years, .ref qg_states, .long g_trace, .ref qg_kept])), rI cI qg_text 200 g_text, rI cI qg_read 55 g_read, rI cI qg_life 55 g_life, rI cI qg_done 16 g_done, rI cI qg_undone 130 g_undone, rI cI qg_selves 16 s1.2.2, rI cI qg_when 27 g_when, rI cI qg_jury 16 g_jury, rI cI qg_years 6 g_years, rI cI qg_states 6 g_states, rI cI qg_kept 290 g_kept] → va_S A s.heap H locs → lv_has ls 4 [(0, .ref qg), (1, .int a1), (2, .int s1.1), (3, .int s1.2.1)] → W p l e ({ frames := 5, cells := 0, slots := 0, locals := 115 } : Room) s m args below meth c H locs 0 0 Q (F0 m 4 ls [])) e1 ?_ _ _ he1 H locs ls hP hD hS (lv_sub hl [2, 3, 1, 0] rfl)
  intro s1 r1 hf ih1 hq1 H locs ls hP hD hS hl
  unfold sX7_gone_4 at hf
  refine lv_iload_n hx hb dX7_gone_4 rfl (lv_at hl 3 rfl) ?_
  refine lv_aload_n hx hb dX7_gone_5 rfl (lv_at hl 0 rfl) ?_
  obtain ⟨r2, hr2, hf⟩ := bnd hf
  refine k_callV X hP hD hS [(qg, .inr (7, [.ref qg_text, .int g_size, .int g_at, .int g_begin, .int g_token, .int g_told, .ref qg_read, .ref qg_life, .int g_dones, .ref qg_done, .int g_undos, .ref qg_undone, .ref qg_selves, .ref qg_when, .ref qg_jury, .int g_seens, .ref qg_years, .ref qg_states, .long g_trace, .ref qg_kept])), rI cI qg_text 200 g_text, rI cI qg_read 55 g_read, rI cI qg_life 55 g_life, rI cI qg_done 16 g_done, rI cI qg_undone 130 g_undone, rI cI qg_selves 16 s1.2.2, rI cI qg_when 27 g_when, rI cI qg_jury 16 g_jury, rI cI qg_years 6 g_years, rI cI qg_states 6 g_states, rI cI qg_kept 290 g_kept] (ctX7_rows l D cI cZ cD cH qg qg_text qg_read qg_life qg_done qg_undone qg_selves qg_when qg_jury qg_years qg_states qg_kept g_size g_at g_begin g_token g_told g_dones g_undos g_seens g_trace g_text g_read g_life g_done g_undone s1.2.2 g_when g_jury g_years g_states g_kept r2 hr2) ml_RX7_170 im_yX7_rows se_yX7_rows in_RX7 cd_yX7_rows rfl rfl hd_yX7_rows ⟨by decide, by decide⟩ ⟨Nat.zero_le _, Nat.zero_le _⟩ [0, 1, 2, 3, 4, 5, 6, 7, 8, 9, 10, 11] [some 0, some 1, some 2, some 3, some 4, some 5, some 6, some 7, some 8, some 9, some 10, some 11] rfl (by decide +kernel) rfl (by decide +kernel) rfl rfl (q0 := 0) rfl rfl rfl hl.1 rfl rfl (Nat.le_of_ble_eq_true rfl) rfl dX7_gone_6 (fun H locs hP hD hS => ?_)
  refine lv_icmp_ge (tgt := 46) hx hb dX7_gone_9 (by decide) (fun c3 => ?_) (fun c3 => ?_)
  · replace hf := ite_t c3 hf
    exact hx1_1 _ (hq1 _ (Option.some.inj hf).symm) H locs ls hP hD hS (lv_sub hl [] rfl)
  · replace hf := ite_f c3 hf
    refine lv_aload_n hx hb dX7_gone_12 rfl (lv_at hl 0 rfl) ?_
    refine lv_iload_n hx hb dX7_gone_13 rfl (lv_at hl 3 rfl) ?_
    refine lv_aload_n hx hb dX7_gone_14 rfl (lv_at hl 0 rfl) ?_
    obtain ⟨r4, hr4, hf⟩ := bnd hf
    refine k_callV X hP hD hS [(qg, .inr (7, [.ref qg_text, .int g_size, .int g_at, .int g_begin, .int g_token, .int g_told, .ref qg_read, .ref qg_life, .int g_dones, .ref qg_done, .int g_undos, .ref qg_undone, .ref qg_selves, .ref qg_when, .ref qg_jury, .int g_seens, .ref qg_years, .ref qg_states, .long g_trace, .ref qg_kept])), rI cI qg_text 200 g_text, rI cI qg_read 55 g_read, rI cI qg_life 55 g_life, rI cI qg_done 16 g_done, rI cI qg_undone 130 g_undone, rI cI qg_selves 16 s1.2.2, rI cI qg_when 27 g_when, rI cI qg_jury 16 g_jury, rI cI qg_years 6 g_years, rI cI qg_states 6 g_states, rI cI qg_kept 290 g_kept] (ctX7_beginning l D cI cZ cD cH qg qg_text qg_read qg_life qg_done qg_undone qg_selves qg_when qg_jury qg_years qg_states qg_kept g_size g_at g_begin g_token g_told g_dones g_undos g_seens g_trace g_text g_read g_life g_done g_undone s1.2.2 g_when g_jury g_years g_states g_kept r4 hr4) ml_RX7_178 im_yX7_beginning se_yX7_beginning in_RX7 cd_yX7_beginning rfl rfl hd_yX7_beginning ⟨by decide, by decide⟩ ⟨Nat.zero_le _, Nat.zero_le _⟩ [0, 1, 2, 3, 4, 5, 6, 7, 8, 9, 10, 11] [some 0, some 1, some 2, some 3, some 4, some 5, some 6, some 7, some 8, some 9, some 10, some 11] rfl (by decide +kernel) rfl (by decide +kernel) rfl rfl (q0 := 0) rfl rfl rfl hl.1 rfl rfl (Nat.le_of_ble_eq_true rfl) rfl dX7_gone_15 (fun H locs hP hD hS => ?_)
    refine lv_aload_n hx hb dX7_gone_18 rfl (lv_at hl 0 rfl) ?_
    refine k_get X hP 0 rfl rfl inX7 7 (by decide) fl_RX7_16 rfl rfl dX7_gone_19 ?_
    refine lv_iconst (v := 4) hx hb dX7_gone_22 (by decide) ?_
    obtain ⟨h5, hf⟩ := ck_t hf
    refine k_iald X hP 3 0 rfl rfl h5 dX7_gone_23 ?_
    obtain ⟨r6, hr6, hf⟩ := bnd hf
    refine k_callV X hP hD hS [(qg, .inr (7, [.ref qg_text, .int g_size, .int g_at, .int g_begin, .int g_token, .int g_told, .ref qg_read, .ref qg_life, .int g_dones, .ref qg_done, .int g_undos, .ref qg_undone, .ref qg_selves, .ref qg_when, .ref qg_jury, .int g_seens, .ref qg_years, .ref qg_states, .long g_trace, .ref qg_kept])), rI cI qg_text 200 g_text, rI cI qg_read 55 g_read, rI cI qg_life 55 g_life, rI cI qg_done 16 g_done, rI cI qg_undone 130 g_undone, rI cI qg_selves 16 r6.2, rI cI qg_when 27 g_when, rI cI qg_jury 16 g_jury, rI cI qg_years 6 g_years, rI cI qg_states 6 g_states, rI cI qg_kept 290 g_kept] (ctX7_isLife l D cI cZ cD cH qg qg_text qg_read qg_life qg_done qg_undone qg_selves qg_when qg_jury qg_years qg_states qg_kept s1.2.1 r4 (g_life (4 : Int32).toNatClampNeg) g_size g_at g_begin g_token g_told g_dones g_undos g_seens g_trace g_text g_read g_life g_done g_undone s1.2.2 g_when g_jury g_years g_states g_kept r6 hr6) ml_RX7_174 im_yX7_isLife se_yX7_isLife in_RX7 cd_yX7_isLife rfl rfl hd_yX7_isLife ⟨by decide, by decide⟩ ⟨Nat.zero_le _, Nat.zero_le _⟩ [0, 1, 2, 3, 4, 5, 6, 7, 8, 9, 10, 11] [some 0, some 1, some 2, some 3, some 4, some 5, some 6, some 7, some 8, some 9, some 10, some 11] rfl (by decide +kernel) rfl (by decide +kernel) rfl rfl (q0 := 0) rfl rfl rfl hl.1 rfl rfl (Nat.le_of_ble_eq_true rfl) rfl dX7_gone_24 (fun H locs hP hD hS => ?_)
    refine lv_if_eq (tgt := 40) hx hb dX7_gone_27 (by decide) (fun c7 => ?_) (fun c7 => ?_)
    · replace hf := ite_t c7 hf
      refine lv_iinc (v := s1.2.1 + 1) (lv' := [(3, .int (s1.2.1 + 1)), (0, .ref qg), (1, .int a1), (2, .int s1.1)]) hx hb dX7_gone_40 hl (k := 3) rfl rfl (by decide) rfl (fun ls hl => ?_)
      refine lv_goto (tgt := 4) hx hb dX7_gone_43 (by decide) ?_
      exact ih1 _ (Option.some.inj hf).symm H locs ls hP hD hS (lv_sub hl [1, 2, 3, 0] rfl)
    · replace hf := ite_f c7 hf
      refine lv_iload_n hx hb dX7_gone_30 rfl (lv_at hl 2 rfl) ?_
      refine lv_iload_n hx hb dX7_gone_31 rfl (lv_at hl 1 rfl) ?_
      refine lv_icmp_ne (tgt := 37) hx hb dX7_gone_32 (by decide) (fun c8 => ?_) (fun c8 => ?_)
      · replace hf := ite_f c8 hf
        refine lv_iinc (v := s1.1 + 1) (lv' := [(2, .int (s1.1 + 1)), (0, .ref qg), (1, .int a1), (3, .int s1.2.1)]) hx hb dX7_gone_37 hl (k := 2) rfl rfl (by decide) rfl (fun ls hl => ?_)
        refine lv_iinc (v := s1.2.1 + 1) (lv' := [(3, .int (s1.2.1 + 1)), (2, .int (s1.1 + 1)), (0, .ref qg), (1, .int a1)]) hx hb dX7_gone_40 hl (k := 3) rfl rfl (by decide) rfl (fun ls hl => ?_)
        refine lv_goto (tgt := 4) hx hb dX7_gone_43 (by decide) ?_
        exact ih1 _ (Option.some.inj hf).symm H locs ls hP hD hS (lv_sub hl [2, 3, 1, 0] rfl)
      · replace hf := ite_t c8 hf
        exact hx1_0 _ (hq1 _ (Option.some.inj hf).symm) H locs ls hP hD hS (lv_sub hl [3] rfl)

def fX7_verdict (a1 : Int32) (a2 : Int32) (g_dones : Int32) (g_life : Nat → Int32) (g_done : Nat → Int32) (g_selves : Nat → Int32) : Option (Int32 × (Nat → Int32)) :=
  (fX7_isTrial a2 g_life).bind (fun r1 => jn (fun (x2 : Int32 × (Nat → Int32)) => if 0 ≤ x2.1 then if inb 3 55 = true then (fX7_figure x2.1 a2 (g_life (3 : Int32).toNatClampNeg)).bind (fun r5 => some (r5, x2.2)) else none else some ((-1), x2.2)) (fun K2 => if (bI r1) = 0 then K2 ((-1), g_selves) else (fX7_gone a1 g_dones g_life g_done g_selves).bind (fun r7 => K2 (r7.1, r7.2))))
set_option maxHeartbeats 4000000 in
set_option maxRecDepth 100000 in
theorem ctX7_verdict (l : Launch) (D : va_G) (cI cZ cD cH : ClassId) (qg : Nat) (qg_text : Nat) (qg_read : Nat) (qg_life : Nat) (qg_done : Nat) (qg_undone : Nat) (qg_selves : Nat) (qg_when : Nat) (qg_jury : Nat) (qg_years : Nat) (qg_states : Nat) (qg_kept : Nat) (a1 : Int32) (a2 : Int32) (g_size : Int32) (g_at : Int32) (g_begin : Int32) (g_token : Int32) (g_told : Int32) (g_dones : Int32) (g_undos : Int32) (g_seens : Int32) (g_trace : Int64) (g_text : Nat → Int32) (g_read : Nat → Int32) (g_life : Nat → Int32) (g_done : Nat → Int32) (g_undone : Nat → Int32) (g_selves : Nat → Int32) (g_when : Nat → Int32) (g_jury : Nat → Int32) (g_years : Nat → Int32) (g_states : Nat → Int32) (g_kept : Nat → Int32) (o : Int32 × (Nat → Int32)) (hf : fX7_verdict a1 a2 g_dones g_life g_done g_selves = some o) : Ct l yX7_verdict cX7_verdict 4 (some .int) { frames := 6, cells := 0, slots := 0, locals := 138 } D (Tys cI cZ cD cH) [.ref qg, .int a1, .int a2] [(qg, .inr (7, [.ref qg_text, .int g_size, .int g_at, .int g_begin, .int g_token, .int g_told, .ref qg_read, .ref qg_life, .int g_dones, .ref qg_done, .int g_undos, .ref qg_undone, .ref qg_selves, .ref qg_when, .ref qg_jury, .int g_seens, .ref qg_years, .ref qg_states, .long g_trace, .ref qg_kept])), rI cI qg_text 200 g_text, rI cI qg_read 55 g_read, rI cI qg_life 55 g_life, rI cI qg_done 16 g_done, rI cI qg_undone 130 g_undone, rI cI qg_selves 16 g_selves, rI cI qg_when 27 g_when, rI cI qg_jury 16 g_jury, rI cI qg_years 6 g_years, rI cI qg_states 6 g_states, rI cI qg_kept 290 g_kept] [(qg, .inr (7, [.ref qg_text, .int g_size, .int g_at, .int g_begin, .int g_token, .int g_told, .ref qg_read, .ref qg_life, .int g_dones, .ref qg_done, .int g_undos, .ref qg_undone, .ref qg_selves, .ref qg_when, .ref qg_jury, .int g_seens, .ref qg_years, .ref qg_states, .long g_trace, .ref qg_kept])), rI cI qg_text 200 g_text, rI cI qg_read 55 g_read, rI cI qg_life 55 g_life, rI cI qg_done 16 g_done, rI cI qg_undone 130 g_undone, rI cI qg_selves 16 o.2, rI cI qg_when 27 g_when, rI cI qg_jury 16 g_jury, rI cI qg_years 6 g_years, rI cI qg_states 6 g_states, rI cI qg_kept 290 g_kept] (some (.int o.1)) 0 0 := by
  refine mkI (by decide) (Nat.le_of_ble_eq_true rfl) ?_
  intro p e s m args below meth c A Q X hret ls hl H locs hP hD hS
  replace X : Cx p s m args c D (Tys cI cZ cD cH) A cX7_verdict RX7 4 := X
  obtain ⟨hx, hb, hml, hown, hts, hK, hZ, hA⟩ := id X
  have hl : lv_has ls 4 [(0, .ref qg), (1, .int a1), (2, .int a2)] := hl
  unfold fX7_verdict at hf
  refine lv_aload_n hx hb dX7_verdict_0 rfl (lv_at hl 0 rfl) ?_
  refine lv_iload_n hx hb dX7_verdict_1 rfl (lv_at hl 2 rfl) ?_
  obtain ⟨r1, hr1, hf⟩ := bnd hf
  refine k_callV X hP hD hS [(qg, .inr (7, [.ref qg_text, .int g_size, .int g_at, .int g_begin, .int g_token, .int g_told, .ref qg_read, .ref qg_life, .int g_dones, .ref qg_done, .int g_undos, .ref qg_undone, .ref qg_selves, .ref qg_when, .ref qg_jury, .int g_seens, .ref qg_years, .ref qg_states, .long g_trace, .ref qg_kept])), rI cI qg_text 200 g_text, rI cI qg_read 55 g_read, rI cI qg_life 55 g_life, rI cI qg_done 16 g_done, rI cI qg_undone 130 g_undone, rI cI qg_selves 16 g_selves, rI cI qg_when 27 g_when, rI cI qg_jury 16 g_jury, rI cI qg_years 6 g_years, rI cI qg_states 6 g_states, rI cI qg_kept 290 g_kept] (ctX7_isTrial l D cI cZ cD cH qg qg_text qg_read qg_life qg_done qg_undone qg_selves qg_when qg_jury qg_years qg_states qg_kept a2 g_size g_at g_begin g_token g_told g_dones g_undos g_seens g_trace g_text g_read g_life g_done g_undone g_selves g_when g_jury g_years g_states g_kept r1 hr1) ml_RX7_142 im_yX7_isTrial se_yX7_isTrial in_RX7 cd_yX7_isTrial rfl rfl hd_yX7_isTrial ⟨by decide, by decide⟩ ⟨Nat.zero_le _, Nat.zero_le _⟩ [0, 1, 2, 3, 4, 5, 6, 7, 8, 9, 10, 11] [some 0, some 1, some 2, some 3, some 4, some 5, some 6, some 7, some 8, some 9, some 10, some 11] rfl (by decide +kernel) rfl (by decide +kernel) rfl rfl (q0 := 0) rfl rfl rfl hl.1 rfl rfl (Nat.le_of_ble_eq_true rfl) rfl dX7_verdict_2 (fun H locs hP hD hS => ?_)
  refine jn_e hf (fun K2 hf hk2 => ?_)
  have hj2 : ∀ (x2 : Int32 × (Nat → Int32)) (H : Heap) (locs : List Loc) (ls : Array Slot), K2 x2 = some o → va_P D vwCl [(qg, .inr (7, [.ref qg_text, .int g_size, .int g_at, .int g_begin, .int g_token, .int g_told, .ref qg_read, .ref qg_life, .int g_dones, .ref qg_done, .int g_undos, .ref qg_undone, .ref qg_selves, .ref qg_when, .ref qg_jury, .int g_seens, .ref qg_years, .ref qg_states, .long g_trace, .ref qg_kept])), rI cI qg_text 200 g_text, rI cI qg_read 55 g_read, rI cI qg_life 55 g_life, rI cI qg_done 16 g_done, rI cI qg_undone 130 g_undone, rI cI qg_selves 16 x2.2, rI cI qg_when 27 g_when, rI cI qg_jury 16 g_jury, rI cI qg_years 6 g_years, rI cI qg_states 6 g_states, rI cI qg_kept 290 g_kept] H → va_D A [(qg, .inr (7, [.ref qg_text, .int g_size, .int g_at, .int g_begin, .int g_token, .int g_told, .ref qg_read, .ref qg_life, .int g_dones, .ref qg_done, .int g_undos, .ref qg_undone, .ref qg_selves, .ref qg_when, .ref qg_jury, .int g_seens, .ref qg_years, .ref qg_states, .long g_trace, .ref qg_kept])), rI cI qg_text 200 g_text, rI cI qg_read 55 g_read, rI cI qg_life 55 g_life, rI cI qg_done 16 g_done, rI cI qg_undone 130 g_undone, rI cI qg_selves 16 x2.2, rI cI qg_when 27 g_when, rI cI qg_jury 16 g_jury, rI cI qg_years 6 g_years, rI cI qg_states 6 g_states, rI cI qg_kept 290 g_kept] → va_S A s.heap H locs → lv_has ls 4 [(0, .ref qg), (2, .int a2)] → W p l e ({ frames := 6, cells := 0, slots := 0, locals := 138 } : Room) s m args below meth c H locs 0 0 Q (F0 m 17 ls [.int x2.1]) := by
    intro x2 H locs ls hf hP hD hS hl
    replace hf := hk2 x2 hf
    refine lv_istore_n (lv' := [(3, .int x2.1), (0, .ref qg), (2, .int a2)]) hx hb dX7_verdict_17 rfl hl (by decide) rfl (fun ls hl => ?_)
    refine lv_iload_n hx hb dX7_verdict_18 rfl (lv_at hl 0 rfl) ?_
    refine lv_if_ge (tgt := 26) hx hb dX7_verdict_19 (by decide) (fun c3 => ?_) (fun c3 => ?_)
    · replace hf := ite_t c3 hf
      refine lv_iload_n hx hb dX7_verdict_26 rfl (lv_at hl 0 rfl) ?_
      refine lv_iload_n hx hb dX7_verdict_27 rfl (lv_at hl 2 rfl) ?_
      refine lv_aload_n hx hb dX7_verdict_28 rfl (lv_at hl 1 rfl) ?_
      refine k_get X hP 0 rfl rfl inX7 7 (by decide) fl_RX7_16 rfl rfl dX7_verdict_29 ?_
      refine lv_iconst (v := 3) hx hb dX7_verdict_32 (by decide) ?_
      obtain ⟨h4, hf⟩ := ck_t hf
      refine k_iald X hP 3 0 rfl rfl h4 dX7_verdict_33 ?_
      obtain ⟨r5, hr5, hf⟩ := bnd hf
      refine k_callS X hP hD hS [(qg, .inr (7, [.ref qg_text, .int g_size, .int g_at, .int g_begin, .int g_token, .int g_told, .ref qg_read, .ref qg_life, .int g_dones, .ref qg_done, .int g_undos, .ref qg_undone, .ref qg_selves, .ref qg_when, .ref qg_jury, .int g_seens, .ref qg_years, .ref qg_states, .long g_trace, .ref qg_kept])), rI cI qg_text 200 g_text, rI cI qg_read 55 g_read, rI cI qg_life 55 g_life, rI cI qg_done 16 g_done, rI cI qg_undone 130 g_undone, rI cI qg_selves 16 x2.2, rI cI qg_when 27 g_when, rI cI qg_jury 16 g_jury, rI cI qg_years 6 g_years, rI cI qg_states 6 g_states, rI cI qg_kept 290 g_kept] (ctX7_figure l D cI cZ cD cH x2.1 a2 (g_life (3 : Int32).toNatClampNeg) r5 hr5) ml_RX7_157 sm_yX7_figure in_RX7 cd_yX7_figure rfl rfl hd_yX7_figure ⟨by decide, by decide⟩ ⟨Nat.zero_le _, Nat.zero_le _⟩ [] [none, none, none, none, none, none, none, none, none, none, none, none] rfl (by decide +kernel) rfl (by decide +kernel) rfl rfl hl.1 rfl rfl (Nat.le_of_ble_eq_true rfl) rfl dX7_verdict_34 (fun H locs hP hD hS => ?_)
      replace hf := Option.some.inj hf
      subst hf
      exact hret H locs _ ls dX7_verdict_37 hP hD hS
    · replace hf := ite_f c3 hf
      refine lv_iconst (v := (-1)) hx hb dX7_verdict_22 (by decide) ?_
      refine lv_goto (tgt := 37) hx hb dX7_verdict_23 (by decide) ?_
      replace hf := Option.some.inj hf
      subst hf
      exact hret H locs _ ls dX7_verdict_37 hP hD hS
  refine lv_if_eq (tgt := 16) hx hb dX7_verdict_5 (by decide) (fun c6 => ?_) (fun c6 => ?_)
  · replace hf := ite_t c6 hf
    refine lv_iconst (v := (-1)) hx hb dX7_verdict_16 (by decide) ?_
    exact hj2 _ H locs ls hf hP hD hS (lv_sub hl [0, 2] rfl)
  · replace hf := ite_f c6 hf
    refine lv_aload_n hx hb dX7_verdict_8 rfl (lv_at hl 0 rfl) ?_
    refine lv_iload_n hx hb dX7_verdict_9 rfl (lv_at hl 1 rfl) ?_
    obtain ⟨r7, hr7, hf⟩ := bnd hf
    refine k_callV X hP hD hS [(qg, .inr (7, [.ref qg_text, .int g_size, .int g_at, .int g_begin, .int g_token, .int g_told, .ref qg_read, .ref qg_life, .int g_dones, .ref qg_done, .int g_undos, .ref qg_undone, .ref qg_selves, .ref qg_when, .ref qg_jury, .int g_seens, .ref qg_years, .ref qg_states, .long g_trace, .ref qg_kept])), rI cI qg_text 200 g_text, rI cI qg_read 55 g_read, rI cI qg_life 55 g_life, rI cI qg_done 16 g_done, rI cI qg_undone 130 g_undone, rI cI qg_selves 16 r7.2, rI cI qg_when 27 g_when, rI cI qg_jury 16 g_jury, rI cI qg_years 6 g_years, rI cI qg_states 6 g_states, rI cI qg_kept 290 g_kept] (ctX7_gone l D cI cZ cD cH qg qg_text qg_read qg_life qg_done qg_undone qg_selves qg_when qg_jury qg_years qg_states qg_kept a1 g_size g_at g_begin g_token g_told g_dones g_undos g_seens g_trace g_text g_read g_life g_done g_undone g_selves g_when g_jury g_years g_states g_kept r7 hr7) ml_RX7_184 im_yX7_gone se_yX7_gone in_RX7 cd_yX7_gone rfl rfl hd_yX7_gone ⟨by decide, by decide⟩ ⟨Nat.zero_le _, Nat.zero_le _⟩ [0, 1, 2, 3, 4, 5, 6, 7, 8, 9, 10, 11] [some 0, some 1, some 2, some 3, some 4, some 5, some 6, some 7, some 8, some 9, some 10, some 11] rfl (by decide +kernel) rfl (by decide +kernel) rfl rfl (q0 := 0) rfl rfl rfl hl.1 rfl rfl (Nat.le_of_ble_eq_true rfl) rfl dX7_verdict_10 (fun H locs hP hD hS => ?_)
    refine lv_goto (tgt := 17) hx hb dX7_verdict_13 (by decide) ?_
    exact hj2 _ H locs ls hf hP hD hS (lv_sub hl [0, 2] rfl)

def fX7_self (a1 : Int32) (a2 : Int32) (g_dones : Int32) (g_life : Nat → Int32) (g_done : Nat → Int32) (g_selves : Nat → Int32) : Option (Int32 × (Nat → Int32)) :=
  (fX7_isYear a2 g_life).bind (fun r1 => if (bI r1) = 0 then some ((-1), g_selves) else (fX7_gone a1 g_dones g_life g_done g_selves).bind (fun r3 => if r3.1 < 0 then some ((-1), r3.2) else if inb a2 16 = true then some (r3.2 a2.toNatClampNeg, r3.2) else none))
set_option maxHeartbeats 4000000 in
set_option maxRecDepth 100000 in
theorem ctX7_self (l : Launch) (D : va_G) (cI cZ cD cH : ClassId) (qg : Nat) (qg_text : Nat) (qg_read : Nat) (qg_life : Nat) (qg_done : Nat) (qg_undone : Nat) (qg_selves : Nat) (qg_when : Nat) (qg_jury : Nat) (qg_years : Nat) (qg_states : Nat) (qg_kept : Nat) (a1 : Int32) (a2 : Int32) (g_size : Int32) (g_at : Int32) (g_begin : Int32) (g_token : Int32) (g_told : Int32) (g_dones : Int32) (g_undos : Int32) (g_seens : Int32) (g_trace : Int64) (g_text : Nat → Int32) (g_read : Nat → Int32) (g_life : Nat → Int32) (g_done : Nat → Int32) (g_undone : Nat → Int32) (g_selves : Nat → Int32) (g_when : Nat → Int32) (g_jury : Nat → Int32) (g_years : Nat → Int32) (g_states : Nat → Int32) (g_kept : Nat → Int32) (o : Int32 × (Nat → Int32)) (hf : fX7_self a1 a2 g_dones g_life g_done g_selves = some o) : Ct l yX7_self cX7_self 3 (some .int) { frames := 6, cells := 0, slots := 0, locals := 138 } D (Tys cI cZ cD cH) [.ref qg, .int a1, .int a2] [(qg, .inr (7, [.ref qg_text, .int g_size, .int g_at, .int g_begin, .int g_token, .int g_told, .ref qg_read, .ref qg_life, .int g_dones, .ref qg_done, .int g_undos, .ref qg_undone, .ref qg_selves, .ref qg_when, .ref qg_jury, .int g_seens, .ref qg_years, .ref qg_states, .long g_trace, .ref qg_kept])), rI cI qg_text 200 g_text, rI cI qg_read 55 g_read, rI cI qg_life 55 g_life, rI cI qg_done 16 g_done, rI cI qg_undone 130 g_undone, rI cI qg_selves 16 g_selves, rI cI qg_when 27 g_when, rI cI qg_jury 16 g_jury, rI cI qg_years 6 g_years, rI cI qg_states 6 g_states, rI cI qg_kept 290 g_kept] [(qg, .inr (7, [.ref qg_text, .int g_size, .int g_at, .int g_begin, .int g_token, .int g_told, .ref qg_read, .ref qg_life, .int g_dones, .ref qg_done, .int g_undos, .ref qg_undone, .ref qg_selves, .ref qg_when, .ref qg_jury, .int g_seens, .ref qg_years, .ref qg_states, .long g_trace, .ref qg_kept])), rI cI qg_text 200 g_text, rI cI qg_read 55 g_read, rI cI qg_life 55 g_life, rI cI qg_done 16 g_done, rI cI qg_undone 130 g_undone, rI cI qg_selves 16 o.2, rI cI qg_when 27 g_when, rI cI qg_jury 16 g_jury, rI cI qg_years 6 g_years, rI cI qg_states 6 g_states, rI cI qg_kept 290 g_kept] (some (.int o.1)) 0 0 := by
  refine mkI (by decide) (Nat.le_of_ble_eq_true rfl) ?_
  intro p e s m args below meth c A Q X hret ls hl H locs hP hD hS
  replace X : Cx p s m args c D (Tys cI cZ cD cH) A cX7_self RX7 3 := X
  obtain ⟨hx, hb, hml, hown, hts, hK, hZ, hA⟩ := id X
  have hl : lv_has ls 3 [(0, .ref qg), (1, .int a1), (2, .int a2)] := hl
  unfold fX7_self at hf
  refine lv_aload_n hx hb dX7_self_0 rfl (lv_at hl 0 rfl) ?_
  refine lv_iload_n hx hb dX7_self_1 rfl (lv_at hl 2 rfl) ?_
  obtain ⟨r1, hr1, hf⟩ := bnd hf
  refine k_callV X hP hD hS [(qg, .inr (7, [.ref qg_text, .int g_size, .int g_at, .int g_begin, .int g_token, .int g_told, .ref qg_read, .ref qg_life, .int g_dones, .ref qg_done, .int g_undos, .ref qg_undone, .ref qg_selves, .ref qg_when, .ref qg_jury, .int g_seens, .ref qg_years, .ref qg_states, .long g_trace, .ref qg_kept])), rI cI qg_text 200 g_text, rI cI qg_read 55 g_read, rI cI qg_life 55 g_life, rI cI qg_done 16 g_done, rI cI qg_undone 130 g_undone, rI cI qg_selves 16 g_selves, rI cI qg_when 27 g_when, rI cI qg_jury 16 g_jury, rI cI qg_years 6 g_years, rI cI qg_states 6 g_states, rI cI qg_kept 290 g_kept] (ctX7_isYear l D cI cZ cD cH qg qg_text qg_read qg_life qg_done qg_undone qg_selves qg_when qg_jury qg_years qg_states qg_kept a2 g_size g_at g_begin g_token g_told g_dones g_undos g_seens g_trace g_text g_read g_life g_done g_undone g_selves g_when g_jury g_years g_states g_kept r1 hr1) ml_RX7_147 im_yX7_isYear se_yX7_isYear in_RX7 cd_yX7_isYear rfl rfl hd_yX7_isYear ⟨by decide, by decide⟩ ⟨Nat.zero_le _, Nat.zero_le _⟩ [0, 1, 2, 3, 4, 5, 6, 7, 8, 9, 10, 11] [some 0, some 1, some 2, some 3, some 4, some 5, some 6, some 7, some 8, some 9, some 10, some 11] rfl (by decide +kernel) rfl (by decide +kernel) rfl rfl (q0 := 0) rfl rfl rfl hl.1 rfl rfl (Nat.le_of_ble_eq_true rfl) rfl dX7_self_2 (fun H locs hP hD hS => ?_)
  refine lv_if_eq (tgt := 25) hx hb dX7_self_5 (by decide) (fun c2 => ?_) (fun c2 => ?_)
  · replace hf := ite_t c2 hf
    refine lv_iconst (v := (-1)) hx hb dX7_self_25 (by decide) ?_
    replace hf := Option.some.inj hf
    subst hf
    exact hret H locs _ ls dX7_self_26 hP hD hS
  · replace hf := ite_f c2 hf
    refine lv_aload_n hx hb dX7_self_8 rfl (lv_at hl 0 rfl) ?_
    refine lv_iload_n hx hb dX7_self_9 rfl (lv_at hl 1 rfl) ?_
    obtain ⟨r3, hr3, hf⟩ := bnd hf
    refine k_callV X hP hD hS [(qg, .inr (7, [.ref qg_text, .int g_size, .int g_at, .int g_begin, .int g_token, .int g_told, .ref qg_read, .ref qg_life, .int g_dones, .ref qg_done, .int g_undos, .ref qg_undone, .ref qg_selves, .ref qg_when, .ref qg_jury, .int g_seens, .ref qg_years, .ref qg_states, .long g_trace, .ref qg_kept])), rI cI qg_text 200 g_text, rI cI qg_read 55 g_read, rI cI qg_life 55 g_life, rI cI qg_done 16 g_done, rI cI qg_undone 130 g_undone, rI cI qg_selves 16 r3.2, rI cI qg_when 27 g_when, rI cI qg_jury 16 g_jury, rI cI qg_years 6 g_years, rI cI qg_states 6 g_states, rI cI qg_kept 290 g_kept] (ctX7_gone l D cI cZ cD cH qg qg_text qg_read qg_life qg_done qg_undone qg_selves qg_when qg_jury qg_years qg_states qg_kept a1 g_size g_at g_begin g_token g_told g_dones g_undos g_seens g_trace g_text g_read g_life g_done g_undone g_selves g_when g_jury g_years g_states g_kept r3 hr3) ml_RX7_184 im_yX7_gone se_yX7_gone in_RX7 cd_yX7_gone rfl rfl hd_yX7_gone ⟨by decide, by decide⟩ ⟨Nat.zero_le _, Nat.zero_le _⟩ [0, 1, 2, 3, 4, 5, 6, 7, 8, 9, 10, 11] [some 0, some 1, some 2, some 3, some 4, some 5, some 6, some 7, some 8, some 9, some 10, some 11] rfl (by decide +kernel) rfl (by decide +kernel) rfl rfl (q0 := 0) rfl rfl rfl hl.1 rfl rfl (Nat.le_of_ble_eq_true rfl) rfl dX7_self_10 (fun H locs hP hD hS => ?_)
    refine lv_if_lt (tgt := 25) hx hb dX7_self_13 (by decide) (fun c4 => ?_) (fun c4 => ?_)
    · replace hf := ite_t c4 hf
      refine lv_iconst (v := (-1)) hx hb dX7_self_25 (by decide) ?_
      replace hf := Option.some.inj hf
      subst hf
      exact hret H locs _ ls dX7_self_26 hP hD hS
    · replace hf := ite_f c4 hf
      refine lv_aload_n hx hb dX7_self_16 rfl (lv_at hl 0 rfl) ?_
      refine k_get X hP 0 rfl rfl inX7 12 (by decide) fl_RX7_25 rfl rfl dX7_self_17 ?_
      refine lv_iload_n hx hb dX7_self_20 rfl (lv_at hl 2 rfl) ?_
      obtain ⟨h5, hf⟩ := ck_t hf
      refine k_iald X hP 6 0 rfl rfl h5 dX7_self_21 ?_
      refine lv_goto (tgt := 26) hx hb dX7_self_22 (by decide) ?_
      replace hf := Option.some.inj hf
      subst hf
      exact hret H locs _ ls dX7_self_26 hP hD hS

def sX7_sureFrom_6 (v1 : Int32) (v2 : Int32) (g_dones : Int32) (g_life : Nat → Int32) (g_done : Nat → Int32) (v3 : Int32) (v4 : Int32) (g_selves : Nat → Int32) : Option ((Int32 × Int32 × (Nat → Int32)) ⊕ ((Int32 × (Nat → Int32)))) :=
  (fX7_rows g_life).bind (fun r2 => if r2 ≤ v4 then some (.inr (v3, g_selves)) else if inb 4 55 = true then (fX7_isLife v4 v2 (g_life (4 : Int32).toNatClampNeg) g_dones g_life g_done g_selves).bind (fun r5 => if (bI r5.1) = 0 then some (.inl (v3, v4 + 1, r5.2)) else if inb 3 55 = true then (fX7_figure v4 v1 (g_life (3 : Int32).toNatClampNeg)).bind (fun r8 => if v3 = (-9) then some (.inl (r8, v4 + 1, r5.2)) else if v3 = r8 then some (.inl (r8, v4 + 1, r5.2)) else some (.inl ((-5), v4 + 1, r5.2))) else none) else none)
def fX7_sureFrom (a1 : Int32) (a2 : Int32) (g_dones : Int32) (g_life : Nat → Int32) (g_done : Nat → Int32) (g_selves : Nat → Int32) : Option (Int32 × (Nat → Int32)) :=
  (lpd (fun s1 => sX7_sureFrom_6 a1 a2 g_dones g_life g_done s1.1 s1.2.1 s1.2.2) FU ((-9), 0, g_selves)).bind (fun (y1_0 : Int32 × (Nat → Int32)) => some (y1_0.1, y1_0.2))
set_option maxHeartbeats 4000000 in
set_option maxRecDepth 100000 in
theorem ctX7_sureFrom (l : Launch) (D : va_G) (cI cZ cD cH : ClassId) (qg : Nat) (qg_text : Nat) (qg_read : Nat) (qg_life : Nat) (qg_done : Nat) (qg_undone : Nat) (qg_selves : Nat) (qg_when : Nat) (qg_jury : Nat) (qg_years : Nat) (qg_states : Nat) (qg_kept : Nat) (a1 : Int32) (a2 : Int32) (g_size : Int32) (g_at : Int32) (g_begin : Int32) (g_token : Int32) (g_told : Int32) (g_dones : Int32) (g_undos : Int32) (g_seens : Int32) (g_trace : Int64) (g_text : Nat → Int32) (g_read : Nat → Int32) (g_life : Nat → Int32) (g_done : Nat → Int32) (g_undone : Nat → Int32) (g_selves : Nat → Int32) (g_when : Nat → Int32) (g_jury : Nat → Int32) (g_years : Nat → Int32) (g_states : Nat → Int32) (g_kept : Nat → Int32) (o : Int32 × (Nat → Int32)) (hf : fX7_sureFrom a1 a2 g_dones g_life g_done g_selves = some o) : Ct l yX7_sureFrom cX7_sureFrom 6 (some .int) { frames := 5, cells := 0, slots := 0, locals := 115 } D (Tys cI cZ cD cH) [.ref qg, .int a1, .int a2] [(qg, .inr (7, [.ref qg_text, .int g_size, .int g_at, .int g_begin, .int g_token, .int g_told, .ref qg_read, .ref qg_life, .int g_dones, .ref qg_done, .int g_undos, .ref qg_undone, .ref qg_selves, .ref qg_when, .ref qg_jury, .int g_seens, .ref qg_years, .ref qg_states, .long g_trace, .ref qg_kept])), rI cI qg_text 200 g_text, rI cI qg_read 55 g_read, rI cI qg_life 55 g_life, rI cI qg_done 16 g_done, rI cI qg_undone 130 g_undone, rI cI qg_selves 16 g_selves, rI cI qg_when 27 g_when, rI cI qg_jury 16 g_jury, rI cI qg_years 6 g_years, rI cI qg_states 6 g_states, rI cI qg_kept 290 g_kept] [(qg, .inr (7, [.ref qg_text, .int g_size, .int g_at, .int g_begin, .int g_token, .int g_told, .ref qg_read, .ref qg_life, .int g_dones, .ref qg_done, .int g_undos, .ref qg_undone, .ref qg_selves, .ref qg_when, .ref qg_jury, .int g_seens, .ref qg_years, .ref qg_states, .long g_trace, .ref qg_kept])), rI cI qg_text 200 g_text, rI cI qg_read 55 g_read, rI cI qg_life 55 g_life, rI cI qg_done 16 g_done, rI cI qg_undone 130 g_undone, rI cI qg_selves 16 o.2, rI cI qg_when 27 g_when, rI cI qg_jury 16 g_jury, rI cI qg_years 6 g_years, rI cI qg_states 6 g_states, rI cI qg_kept 290 g_kept] (some (.int o.1)) 0 0 := by
  refine mkI (by decide) (Nat.le_of_ble_eq_true rfl) ?_
  intro p e s m args below meth c A Q X hret ls hl H locs hP hD hS
  replace X : Cx p s m args c D (Tys cI cZ cD cH) A cX7_sureFrom RX7 6 := X
  obtain ⟨hx, hb, hml, hown, hts, hK, hZ, hA⟩ := id X
  have hl : lv_has ls 6 [(0, .ref qg), (1, .int a1), (2, .int a2)] := hl
  unfold fX7_sureFrom at hf
  refine lv_bipush (v := (-9)) hx hb dX7_sureFrom_0 (by decide) ?_
  refine lv_istore_n (lv' := [(3, .int (-9)), (0, .ref qg), (1, .int a1), (2, .int a2)]) hx hb dX7_sureFrom_2 rfl hl (by decide) rfl (fun ls hl => ?_)
  refine lv_iconst (v := 0) hx hb dX7_sureFrom_3 (by decide) ?_
  refine lv_istore (lv' := [(4, .int 0), (3, .int (-9)), (0, .ref qg), (1, .int a1), (2, .int a2)]) hx hb dX7_sureFrom_4 hl (by decide) rfl (fun ls hl => ?_)
  obtain ⟨e1, he1, hf⟩ := bnd hf
  have hx1_0 : ∀ (y1_0 : Int32 × (Nat → Int32)), y1_0 = e1 → ∀ (H : Heap) (locs : List Loc) (ls : Array Slot), va_P D vwCl [(qg, .inr (7, [.ref qg_text, .int g_size, .int g_at, .int g_begin, .int g_token, .int g_told, .ref qg_read, .ref qg_life, .int g_dones, .ref qg_done, .int g_undos, .ref qg_undone, .ref qg_selves, .ref qg_when, .ref qg_jury, .int g_seens, .ref qg_years, .ref qg_states, .long g_trace, .ref qg_kept])), rI cI qg_text 200 g_text, rI cI qg_read 55 g_read, rI cI qg_life 55 g_life, rI cI qg_done 16 g_done, rI cI qg_undone 130 g_undone, rI cI qg_selves 16 y1_0.2, rI cI qg_when 27 g_when, rI cI qg_jury 16 g_jury, rI cI qg_years 6 g_years, rI cI qg_states 6 g_states, rI cI qg_kept 290 g_kept] H → va_D A [(qg, .inr (7, [.ref qg_text, .int g_size, .int g_at, .int g_begin, .int g_token, .int g_told, .ref qg_read, .ref qg_life, .int g_dones, .ref qg_done, .int g_undos, .ref qg_undone, .ref qg_selves, .ref qg_when, .ref qg_jury, .int g_seens, .ref qg_years, .ref qg_states, .long g_trace, .ref qg_kept])), rI cI qg_text 200 g_text, rI cI qg_read 55 g_read, rI cI qg_life 55 g_life, rI cI qg_done 16 g_done, rI cI qg_undone 130 g_undone, rI cI qg_selves 16 y1_0.2, rI cI qg_when 27 g_when, rI cI qg_jury 16 g_jury, rI cI qg_years 6 g_years, rI cI qg_states 6 g_states, rI cI qg_kept 290 g_kept] → va_S A s.heap H locs → lv_has ls 6 [(3, .int y1_0.1)] → W p l e ({ frames := 5, cells := 0, slots := 0, locals := 115 } : Room) s m args below meth c H locs 0 0 Q (F0 m 71 ls []) := by
    intro y1_0 heq H locs ls hP hD hS hl
    subst heq
    refine lv_iload_n hx hb dX7_sureFrom_71 rfl (lv_at hl 0 rfl) ?_
    replace hf := Option.some.inj hf
    subst hf
    exact hret H locs _ ls dX7_sureFrom_72 hP hD hS
  refine lpd_ind (P := fun s1 => ∀ (H : Heap) (locs : List Loc) (ls : Array Slot), va_P D vwCl [(qg, .inr (7, [.ref qg_text, .int g_size, .int g_at, .int g_begin, .int g_token, .int g_told, .ref qg_read, .ref qg_life, .int g_dones, .ref qg_done, .int g_undos, .ref qg_undone, .ref qg_selves, .ref qg_when, .ref qg_jury, .int g_seens, .ref qg_years, .ref qg_states, .long g_trace, .ref qg_kept])), rI cI qg_text 200 g_text, rI cI qg_read 55 g_read, rI cI qg_life 55 g_life, rI cI qg_done 16 g_done, rI cI qg_undone 130 g_undone, rI cI qg_selves 16 s1.2.2, rI cI qg_when 27 g_when, rI cI qg_jury 16 g_jury, rI cI qg_years 6 g_years, rI cI qg_states 6 g_states, rI cI qg_kept 290 g_kept] H → va_D A [(qg, .inr (7, [.ref qg_text, .int g_size, .int g_at, .int g_begin, .int g_token, .int g_told, .ref qg_read, .ref qg_life, .int g_dones, .ref qg_done, .int g_undos, .ref qg_undone, .ref qg_selves, .ref qg_when, .ref qg_jury, .int g_seens, .ref qg_years, .ref qg_states, .long g_trace, .ref qg_kept])), rI cI qg_text 200 g_text, rI cI qg_read 55 g_read, rI cI qg_life 55 g_life, rI cI qg_done 16 g_done, rI cI qg_undone 130 g_undone, rI cI qg_selves 16 s1.2.2, rI cI qg_when 27 g_when, rI cI qg_jury 16 g_jury, rI cI qg_years 6 g_years, rI cI qg_states 6 g_states, rI cI qg_kept 290 g_kept] → va_S A s.heap H locs → lv_has ls 6 [(0, .ref qg), (1, .int a1), (2, .int a2), (3, .int s1.1), (4, .int s1.2.1)] → W p l e ({ frames := 5, cells := 0, slots := 0, locals := 115 } : Room) s m args below meth c H locs 0 0 Q (F0 m 6 ls [])) e1 ?_ _ _ he1 H locs ls hP hD hS (lv_sub hl [2, 3, 4, 1, 0] rfl)
  intro s1 r1 hf ih1 hq1 H locs ls hP hD hS hl
  unfold sX7_sureFrom_6 at hf
  refine lv_iload hx hb dX7_sureFrom_6 (lv_at hl 4 rfl) ?_
  refine lv_aload_n hx hb dX7_sureFrom_8 rfl (lv_at hl 0 rfl) ?_
  obtain ⟨r2, hr2, hf⟩ := bnd hf
  refine k_callV X hP hD hS [(qg, .inr (7, [.ref qg_text, .int g_size, .int g_at, .int g_begin, .int g_token, .int g_told, .ref qg_read, .ref qg_life, .int g_dones, .ref qg_done, .int g_undos, .ref qg_undone, .ref qg_selves, .ref qg_when, .ref qg_jury, .int g_seens, .ref qg_years, .ref qg_states, .long g_trace, .ref qg_kept])), rI cI qg_text 200 g_text, rI cI qg_read 55 g_read, rI cI qg_life 55 g_life, rI cI qg_done 16 g_done, rI cI qg_undone 130 g_undone, rI cI qg_selves 16 s1.2.2, rI cI qg_when 27 g_when, rI cI qg_jury 16 g_jury, rI cI qg_years 6 g_years, rI cI qg_states 6 g_states, rI cI qg_kept 290 g_kept] (ctX7_rows l D cI cZ cD cH qg qg_text qg_read qg_life qg_done qg_undone qg_selves qg_when qg_jury qg_years qg_states qg_kept g_size g_at g_begin g_token g_told g_dones g_undos g_seens g_trace g_text g_read g_life g_done g_undone s1.2.2 g_when g_jury g_years g_states g_kept r2 hr2) ml_RX7_170 im_yX7_rows se_yX7_rows in_RX7 cd_yX7_rows rfl rfl hd_yX7_rows ⟨by decide, by decide⟩ ⟨Nat.zero_le _, Nat.zero_le _⟩ [0, 1, 2, 3, 4, 5, 6, 7, 8, 9, 10, 11] [some 0, some 1, some 2, some 3, some 4, some 5, some 6, some 7, some 8, some 9, some 10, some 11] rfl (by decide +kernel) rfl (by decide +kernel) rfl rfl (q0 := 0) rfl rfl rfl hl.1 rfl rfl (Nat.le_of_ble_eq_true rfl) rfl dX7_sureFrom_9 (fun H locs hP hD hS => ?_)
  refine lv_icmp_ge (tgt := 71) hx hb dX7_sureFrom_12 (by decide) (fun c3 => ?_) (fun c3 => ?_)
  · replace hf := ite_t c3 hf
    exact hx1_0 _ (hq1 _ (Option.some.inj hf).symm) H locs ls hP hD hS (lv_sub hl [3] rfl)
  · replace hf := ite_f c3 hf
    refine lv_aload_n hx hb dX7_sureFrom_15 rfl (lv_at hl 0 rfl) ?_
    refine lv_iload hx hb dX7_sureFrom_16 (lv_at hl 4 rfl) ?_
    refine lv_iload_n hx hb dX7_sureFrom_18 rfl (lv_at hl 2 rfl) ?_
    refine lv_aload_n hx hb dX7_sureFrom_19 rfl (lv_at hl 0 rfl) ?_
    refine k_get X hP 0 rfl rfl inX7 7 (by decide) fl_RX7_16 rfl rfl dX7_sureFrom_20 ?_
    refine lv_iconst (v := 4) hx hb dX7_sureFrom_23 (by decide) ?_
    obtain ⟨h4, hf⟩ := ck_t hf
    refine k_iald X hP 3 0 rfl rfl h4 dX7_sureFrom_24 ?_
    obtain ⟨r5, hr5, hf⟩ := bnd hf
    refine k_callV X hP hD hS [(qg, .inr (7, [.ref qg_text, .int g_size, .int g_at, .int g_begin, .int g_token, .int g_told, .ref qg_read, .ref qg_life, .int g_dones, .ref qg_done, .int g_undos, .ref qg_undone, .ref qg_selves, .ref qg_when, .ref qg_jury, .int g_seens, .ref qg_years, .ref qg_states, .long g_trace, .ref qg_kept])), rI cI qg_text 200 g_text, rI cI qg_read 55 g_read, rI cI qg_life 55 g_life, rI cI qg_done 16 g_done, rI cI qg_undone 130 g_undone, rI cI qg_selves 16 r5.2, rI cI qg_when 27 g_when, rI cI qg_jury 16 g_jury, rI cI qg_years 6 g_years, rI cI qg_states 6 g_states, rI cI qg_kept 290 g_kept] (ctX7_isLife l D cI cZ cD cH qg qg_text qg_read qg_life qg_done qg_undone qg_selves qg_when qg_jury qg_years qg_states qg_kept s1.2.1 a2 (g_life (4 : Int32).toNatClampNeg) g_size g_at g_begin g_token g_told g_dones g_undos g_seens g_trace g_text g_read g_life g_done g_undone s1.2.2 g_when g_jury g_years g_states g_kept r5 hr5) ml_RX7_174 im_yX7_isLife se_yX7_isLife in_RX7 cd_yX7_isLife rfl rfl hd_yX7_isLife ⟨by decide, by decide⟩ ⟨Nat.zero_le _, Nat.zero_le _⟩ [0, 1, 2, 3, 4, 5, 6, 7, 8, 9, 10, 11] [some 0, some 1, some 2, some 3, some 4, some 5, some 6, some 7, some 8, some 9, some 10, some 11] rfl (by decide +kernel) rfl (by decide +kernel) rfl rfl (q0 := 0) rfl rfl rfl hl.1 rfl rfl (Nat.le_of_ble_eq_true rfl) rfl dX7_sureFrom_25 (fun H locs hP hD hS => ?_)
    refine lv_if_eq (tgt := 65) hx hb dX7_sureFrom_28 (by decide) (fun c6 => ?_) (fun c6 => ?_)
    · replace hf := ite_t c6 hf
      refine lv_iinc (v := s1.2.1 + 1) (lv' := [(4, .int (s1.2.1 + 1)), (0, .ref qg), (1, .int a1), (2, .int a2), (3, .int s1.1)]) hx hb dX7_sureFrom_65 hl (k := 4) rfl rfl (by decide) rfl (fun ls hl => ?_)
      refine lv_goto (tgt := 6) hx hb dX7_sureFrom_68 (by decide) ?_
      exact ih1 _ (Option.some.inj hf).symm H locs ls hP hD hS (lv_sub hl [1, 2, 3, 4, 0] rfl)
    · replace hf := ite_f c6 hf
      refine lv_iload hx hb dX7_sureFrom_31 (lv_at hl 4 rfl) ?_
      refine lv_iload_n hx hb dX7_sureFrom_33 rfl (lv_at hl 1 rfl) ?_
      refine lv_aload_n hx hb dX7_sureFrom_34 rfl (lv_at hl 0 rfl) ?_
      refine k_get X hP 0 rfl rfl inX7 7 (by decide) fl_RX7_16 rfl rfl dX7_sureFrom_35 ?_
      refine lv_iconst (v := 3) hx hb dX7_sureFrom_38 (by decide) ?_
      obtain ⟨h7, hf⟩ := ck_t hf
      refine k_iald X hP 3 0 rfl rfl h7 dX7_sureFrom_39 ?_
      obtain ⟨r8, hr8, hf⟩ := bnd hf
      refine k_callS X hP hD hS [(qg, .inr (7, [.ref qg_text, .int g_size, .int g_at, .int g_begin, .int g_token, .int g_told, .ref qg_read, .ref qg_life, .int g_dones, .ref qg_done, .int g_undos, .ref qg_undone, .ref qg_selves, .ref qg_when, .ref qg_jury, .int g_seens, .ref qg_years, .ref qg_states, .long g_trace, .ref qg_kept])), rI cI qg_text 200 g_text, rI cI qg_read 55 g_read, rI cI qg_life 55 g_life, rI cI qg_done 16 g_done, rI cI qg_undone 130 g_undone, rI cI qg_selves 16 r5.2, rI cI qg_when 27 g_when, rI cI qg_jury 16 g_jury, rI cI qg_years 6 g_years, rI cI qg_states 6 g_states, rI cI qg_kept 290 g_kept] (ctX7_figure l D cI cZ cD cH s1.2.1 a1 (g_life (3 : Int32).toNatClampNeg) r8 hr8) ml_RX7_157 sm_yX7_figure in_RX7 cd_yX7_figure rfl rfl hd_yX7_figure ⟨by decide, by decide⟩ ⟨Nat.zero_le _, Nat.zero_le _⟩ [] [none, none, none, none, none, none, none, none, none, none, none, none] rfl (by decide +kernel) rfl (by decide +kernel) rfl rfl hl.1 rfl rfl (Nat.le_of_ble_eq_true rfl) rfl dX7_sureFrom_40 (fun H locs hP hD hS => ?_)
      refine lv_istore (lv' := [(5, .int r8), (0, .ref qg), (1, .int a1), (2, .int a2), (3, .int s1.1), (4, .int s1.2.1)]) hx hb dX7_sureFrom_43 hl (by decide) rfl (fun ls hl => ?_)
      refine lv_iload_n hx hb dX7_sureFrom_45 rfl (lv_at hl 4 rfl) ?_
      refine lv_bipush (v := (-9)) hx hb dX7_sureFrom_46 (by decide) ?_
      refine lv_icmp_eq (tgt := 57) hx hb dX7_sureFrom_48 (by decide) (fun c9 => ?_) (fun c9 => ?_)
      · replace hf := ite_t c9 hf
        refine lv_iload hx hb dX7_sureFrom_57 (lv_at hl 0 rfl) ?_
        refine lv_goto (tgt := 64) hx hb dX7_sureFrom_59 (by decide) ?_
        refine lv_istore_n (lv' := [(3, .int r8), (5, .int r8), (0, .ref qg), (1, .int a1), (2, .int a2), (4, .int s1.2.1)]) hx hb dX7_sureFrom_64 rfl hl (by decide) rfl (fun ls hl => ?_)
        refine lv_iinc (v := s1.2.1 + 1) (lv' := [(4, .int (s1.2.1 + 1)), (3, .int r8), (5, .int r8), (0, .ref qg), (1, .int a1), (2, .int a2)]) hx hb dX7_sureFrom_65 hl (k := 5) rfl rfl (by decide) rfl (fun ls hl => ?_)
        refine lv_goto (tgt := 6) hx hb dX7_sureFrom_68 (by decide) ?_
        exact ih1 _ (Option.some.inj hf).symm H locs ls hP hD hS (lv_sub hl [3, 4, 5, 1, 0] rfl)
      · replace hf := ite_f c9 hf
        refine lv_iload_n hx hb dX7_sureFrom_51 rfl (lv_at hl 4 rfl) ?_
        refine lv_iload hx hb dX7_sureFrom_52 (lv_at hl 0 rfl) ?_
        refine lv_icmp_ne (tgt := 62) hx hb dX7_sureFrom_54 (by decide) (fun c10 => ?_) (fun c10 => ?_)
        · replace hf := ite_f c10 hf
          refine lv_bipush (v := (-5)) hx hb dX7_sureFrom_62 (by decide) ?_
          refine lv_istore_n (lv' := [(3, .int (-5)), (5, .int r8), (0, .ref qg), (1, .int a1), (2, .int a2), (4, .int s1.2.1)]) hx hb dX7_sureFrom_64 rfl hl (by decide) rfl (fun ls hl => ?_)
          refine lv_iinc (v := s1.2.1 + 1) (lv' := [(4, .int (s1.2.1 + 1)), (3, .int (-5)), (5, .int r8), (0, .ref qg), (1, .int a1), (2, .int a2)]) hx hb dX7_sureFrom_65 hl (k := 5) rfl rfl (by decide) rfl (fun ls hl => ?_)
          refine lv_goto (tgt := 6) hx hb dX7_sureFrom_68 (by decide) ?_
          exact ih1 _ (Option.some.inj hf).symm H locs ls hP hD hS (lv_sub hl [3, 4, 5, 1, 0] rfl)
        · replace hf := ite_t c10 hf
          refine lv_iload hx hb dX7_sureFrom_57 (lv_at hl 0 rfl) ?_
          refine lv_goto (tgt := 64) hx hb dX7_sureFrom_59 (by decide) ?_
          refine lv_istore_n (lv' := [(3, .int r8), (5, .int r8), (0, .ref qg), (1, .int a1), (2, .int a2), (4, .int s1.2.1)]) hx hb dX7_sureFrom_64 rfl hl (by decide) rfl (fun ls hl => ?_)
          refine lv_iinc (v := s1.2.1 + 1) (lv' := [(4, .int (s1.2.1 + 1)), (3, .int r8), (5, .int r8), (0, .ref qg), (1, .int a1), (2, .int a2)]) hx hb dX7_sureFrom_65 hl (k := 5) rfl rfl (by decide) rfl (fun ls hl => ?_)
          refine lv_goto (tgt := 6) hx hb dX7_sureFrom_68 (by decide) ?_
          exact ih1 _ (Option.some.inj hf).symm H locs ls hP hD hS (lv_sub hl [3, 4, 5, 1, 0] rfl)

def fX7_sure (a1 : Int32) (g_dones : Int32) (g_life : Nat → Int32) (g_done : Nat → Int32) (g_selves : Nat → Int32) : Option (Int32 × (Nat → Int32)) :=
  (fX7_isTrial a1 g_life).bind (fun r1 => if (bI r1) = 0 then some ((-1), g_selves) else (fX7_beginning g_life).bind (fun r3 => (fX7_sureFrom a1 r3 g_dones g_life g_done g_selves).bind (fun r4 => some (r4.1, r4.2))))
set_option maxHeartbeats 4000000 in
set_option maxRecDepth 100000 in
theorem ctX7_sure (l : Launch) (D : va_G) (cI cZ cD cH : ClassId) (qg : Nat) (qg_text : Nat) (qg_read : Nat) (qg_life : Nat) (qg_done : Nat) (qg_undone : Nat) (qg_selves : Nat) (qg_when : Nat) (qg_jury : Nat) (qg_years : Nat) (qg_states : Nat) (qg_kept : Nat) (a1 : Int32) (g_size : Int32) (g_at : Int32) (g_begin : Int32) (g_token : Int32) (g_told : Int32) (g_dones : Int32) (g_undos : Int32) (g_seens : Int32) (g_trace : Int64) (g_text : Nat → Int32) (g_read : Nat → Int32) (g_life : Nat → Int32) (g_done : Nat → Int32) (g_undone : Nat → Int32) (g_selves : Nat → Int32) (g_when : Nat → Int32) (g_jury : Nat → Int32) (g_years : Nat → Int32) (g_states : Nat → Int32) (g_kept : Nat → Int32) (o : Int32 × (Nat → Int32)) (hf : fX7_sure a1 g_dones g_life g_done g_selves = some o) : Ct l yX7_sure cX7_sure 2 (some .int) { frames := 6, cells := 0, slots := 0, locals := 140 } D (Tys cI cZ cD cH) [.ref qg, .int a1] [(qg, .inr (7, [.ref qg_text, .int g_size, .int g_at, .int g_begin, .int g_token, .int g_told, .ref qg_read, .ref qg_life, .int g_dones, .ref qg_done, .int g_undos, .ref qg_undone, .ref qg_selves, .ref qg_when, .ref qg_jury, .int g_seens, .ref qg_years, .ref qg_states, .long g_trace, .ref qg_kept])), rI cI qg_text 200 g_text, rI cI qg_read 55 g_read, rI cI qg_life 55 g_life, rI cI qg_done 16 g_done, rI cI qg_undone 130 g_undone, rI cI qg_selves 16 g_selves, rI cI qg_when 27 g_when, rI cI qg_jury 16 g_jury, rI cI qg_years 6 g_years, rI cI qg_states 6 g_states, rI cI qg_kept 290 g_kept] [(qg, .inr (7, [.ref qg_text, .int g_size, .int g_at, .int g_begin, .int g_token, .int g_told, .ref qg_read, .ref qg_life, .int g_dones, .ref qg_done, .int g_undos, .ref qg_undone, .ref qg_selves, .ref qg_when, .ref qg_jury, .int g_seens, .ref qg_years, .ref qg_states, .long g_trace, .ref qg_kept])), rI cI qg_text 200 g_text, rI cI qg_read 55 g_read, rI cI qg_life 55 g_life, rI cI qg_done 16 g_done, rI cI qg_undone 130 g_undone, rI cI qg_selves 16 o.2, rI cI qg_when 27 g_when, rI cI qg_jury 16 g_jury, rI cI qg_years 6 g_years, rI cI qg_states 6 g_states, rI cI qg_kept 290 g_kept] (some (.int o.1)) 0 0 := by
  refine mkI (by decide) (Nat.le_of_ble_eq_true rfl) ?_
  intro p e s m args below meth c A Q X hret ls hl H locs hP hD hS
  replace X : Cx p s m args c D (Tys cI cZ cD cH) A cX7_sure RX7 2 := X
  obtain ⟨hx, hb, hml, hown, hts, hK, hZ, hA⟩ := id X
  have hl : lv_has ls 2 [(0, .ref qg), (1, .int a1)] := hl
  unfold fX7_sure at hf
  refine lv_aload_n hx hb dX7_sure_0 rfl (lv_at hl 0 rfl) ?_
  refine lv_iload_n hx hb dX7_sure_1 rfl (lv_at hl 1 rfl) ?_
  obtain ⟨r1, hr1, hf⟩ := bnd hf
  refine k_callV X hP hD hS [(qg, .inr (7, [.ref qg_text, .int g_size, .int g_at, .int g_begin, .int g_token, .int g_told, .ref qg_read, .ref qg_life, .int g_dones, .ref qg_done, .int g_undos, .ref qg_undone, .ref qg_selves, .ref qg_when, .ref qg_jury, .int g_seens, .ref qg_years, .ref qg_states, .long g_trace, .ref qg_kept])), rI cI qg_text 200 g_text, rI cI qg_read 55 g_read, rI cI qg_life 55 g_life, rI cI qg_done 16 g_done, rI cI qg_undone 130 g_undone, rI cI qg_selves 16 g_selves, rI cI qg_when 27 g_when, rI cI qg_jury 16 g_jury, rI cI qg_years 6 g_years, rI cI qg_states 6 g_states, rI cI qg_kept 290 g_kept] (ctX7_isTrial l D cI cZ cD cH qg qg_text qg_read qg_life qg_done qg_undone qg_selves qg_when qg_jury qg_years qg_states qg_kept a1 g_size g_at g_begin g_token g_told g_dones g_undos g_seens g_trace g_text g_read g_life g_done g_undone g_selves g_when g_jury g_years g_states g_kept r1 hr1) ml_RX7_142 im_yX7_isTrial se_yX7_isTrial in_RX7 cd_yX7_isTrial rfl rfl hd_yX7_isTrial ⟨by decide, by decide⟩ ⟨Nat.zero_le _, Nat.zero_le _⟩ [0, 1, 2, 3, 4, 5, 6, 7, 8, 9, 10, 11] [some 0, some 1, some 2, some 3, some 4, some 5, some 6, some 7, some 8, some 9, some 10, some 11] rfl (by decide +kernel) rfl (by decide +kernel) rfl rfl (q0 := 0) rfl rfl rfl hl.1 rfl rfl (Nat.le_of_ble_eq_true rfl) rfl dX7_sure_2 (fun H locs hP hD hS => ?_)
  refine lv_if_eq (tgt := 20) hx hb dX7_sure_5 (by decide) (fun c2 => ?_) (fun c2 => ?_)
  · replace hf := ite_t c2 hf
    refine lv_iconst (v := (-1)) hx hb dX7_sure_20 (by decide) ?_
    replace hf := Option.some.inj hf
    subst hf
    exact hret H locs _ ls dX7_sure_21 hP hD hS
  · replace hf := ite_f c2 hf
    refine lv_aload_n hx hb dX7_sure_8 rfl (lv_at hl 0 rfl) ?_
    refine lv_iload_n hx hb dX7_sure_9 rfl (lv_at hl 1 rfl) ?_
    refine lv_aload_n hx hb dX7_sure_10 rfl (lv_at hl 0 rfl) ?_
    obtain ⟨r3, hr3, hf⟩ := bnd hf
    refine k_callV X hP hD hS [(qg, .inr (7, [.ref qg_text, .int g_size, .int g_at, .int g_begin, .int g_token, .int g_told, .ref qg_read, .ref qg_life, .int g_dones, .ref qg_done, .int g_undos, .ref qg_undone, .ref qg_selves, .ref qg_when, .ref qg_jury, .int g_seens, .ref qg_years, .ref qg_states, .long g_trace, .ref qg_kept])), rI cI qg_text 200 g_text, rI cI qg_read 55 g_read, rI cI qg_life 55 g_life, rI cI qg_done 16 g_done, rI cI qg_undone 130 g_undone, rI cI qg_selves 16 g_selves, rI cI qg_when 27 g_when, rI cI qg_jury 16 g_jury, rI cI qg_years 6 g_years, rI cI qg_states 6 g_states, rI cI qg_kept 290 g_kept] (ctX7_beginning l D cI cZ cD cH qg qg_text qg_read qg_life qg_done qg_undone qg_selves qg_when qg_jury qg_years qg_states qg_kept g_size g_at g_begin g_token g_told g_dones g_undos g_seens g_trace g_text g_read g_life g_done g_undone g_selves g_when g_jury g_years g_states g_kept r3 hr3) ml_RX7_178 im_yX7_beginning se_yX7_beginning in_RX7 cd_yX7_beginning rfl rfl hd_yX7_beginning ⟨by decide, by decide⟩ ⟨Nat.zero_le _, Nat.zero_le _⟩ [0, 1, 2, 3, 4, 5, 6, 7, 8, 9, 10, 11] [some 0, some 1, some 2, some 3, some 4, some 5, some 6, some 7, some 8, some 9, some 10, some 11] rfl (by decide +kernel) rfl (by decide +kernel) rfl rfl (q0 := 0) rfl rfl rfl hl.1 rfl rfl (Nat.le_of_ble_eq_true rfl) rfl dX7_sure_11 (fun H locs hP hD hS => ?_)
    obtain ⟨r4, hr4, hf⟩ := bnd hf
    refine k_callV X hP hD hS [(qg, .inr (7, [.ref qg_text, .int g_size, .int g_at, .int g_begin, .int g_token, .int g_told, .ref qg_read, .ref qg_life, .int g_dones, .ref qg_done, .int g_undos, .ref qg_undone, .ref qg_selves, .ref qg_when, .ref qg_jury, .int g_seens, .ref qg_years, .ref qg_states, .long g_trace, .ref qg_kept])), rI cI qg_text 200 g_text, rI cI qg_read 55 g_read, rI cI qg_life 55 g_life, rI cI qg_done 16 g_done, rI cI qg_undone 130 g_undone, rI cI qg_selves 16 r4.2, rI cI qg_when 27 g_when, rI cI qg_jury 16 g_jury, rI cI qg_years 6 g_years, rI cI qg_states 6 g_states, rI cI qg_kept 290 g_kept] (ctX7_sureFrom l D cI cZ cD cH qg qg_text qg_read qg_life qg_done qg_undone qg_selves qg_when qg_jury qg_years qg_states qg_kept a1 r3 g_size g_at g_begin g_token g_told g_dones g_undos g_seens g_trace g_text g_read g_life g_done g_undone g_selves g_when g_jury g_years g_states g_kept r4 hr4) ml_RX7_187 im_yX7_sureFrom se_yX7_sureFrom in_RX7 cd_yX7_sureFrom rfl rfl hd_yX7_sureFrom ⟨by decide, by decide⟩ ⟨Nat.zero_le _, Nat.zero_le _⟩ [0, 1, 2, 3, 4, 5, 6, 7, 8, 9, 10, 11] [some 0, some 1, some 2, some 3, some 4, some 5, some 6, some 7, some 8, some 9, some 10, some 11] rfl (by decide +kernel) rfl (by decide +kernel) rfl rfl (q0 := 0) rfl rfl rfl hl.1 rfl rfl (Nat.le_of_ble_eq_true rfl) rfl dX7_sure_14 (fun H locs hP hD hS => ?_)
    refine lv_goto (tgt := 21) hx hb dX7_sure_17 (by decide) ?_
    replace hf := Option.some.inj hf
    subst hf
    exact hret H locs _ ls dX7_sure_21 hP hD hS

def sX7_who_14 (v1 : Int32) (g_dones : Int32) (g_life : Nat → Int32) (g_done : Nat → Int32) (v2 : Int32) (v3 : Int32) (g_selves : Nat → Int32) : Option ((Int32 × Int32 × (Nat → Int32)) ⊕ ((Int32 × (Nat → Int32)))) :=
  (fX7_rows g_life).bind (fun r4 => if r4 ≤ v3 then some (.inr (v2, g_selves)) else (fX7_beginning g_life).bind (fun r6 => if inb 4 55 = true then (fX7_isLife v3 r6 (g_life (4 : Int32).toNatClampNeg) g_dones g_life g_done g_selves).bind (fun r8 => if (bI r8.1) = 0 then some (.inl (v2 ||| 0, v3 + 1, r8.2)) else if inb v1 16 = true then some (.inl (v2 ||| (1 <<< ((r8.2 v1.toNatClampNeg) &&& 31)), v3 + 1, r8.2)) else none) else none))
def fX7_who (a1 : Int32) (g_dones : Int32) (g_life : Nat → Int32) (g_done : Nat → Int32) (g_selves : Nat → Int32) : Option (Int32 × (Nat → Int32)) :=
  (fX7_isYear a1 g_life).bind (fun r1 => if (bI r1) = 0 then some ((-1), g_selves) else (lpd (fun s3 => sX7_who_14 a1 g_dones g_life g_done s3.1 s3.2.1 s3.2.2) FU (0, 0, g_selves)).bind (fun (y3_0 : Int32 × (Nat → Int32)) => some (y3_0.1, y3_0.2)))
set_option maxHeartbeats 4000000 in
set_option maxRecDepth 100000 in
theorem ctX7_who (l : Launch) (D : va_G) (cI cZ cD cH : ClassId) (qg : Nat) (qg_text : Nat) (qg_read : Nat) (qg_life : Nat) (qg_done : Nat) (qg_undone : Nat) (qg_selves : Nat) (qg_when : Nat) (qg_jury : Nat) (qg_years : Nat) (qg_states : Nat) (qg_kept : Nat) (a1 : Int32) (g_size : Int32) (g_at : Int32) (g_begin : Int32) (g_token : Int32) (g_told : Int32) (g_dones : Int32) (g_undos : Int32) (g_seens : Int32) (g_trace : Int64) (g_text : Nat → Int32) (g_read : Nat → Int32) (g_life : Nat → Int32) (g_done : Nat → Int32) (g_undone : Nat → Int32) (g_selves : Nat → Int32) (g_when : Nat → Int32) (g_jury : Nat → Int32) (g_years : Nat → Int32) (g_states : Nat → Int32) (g_kept : Nat → Int32) (o : Int32 × (Nat → Int32)) (hf : fX7_who a1 g_dones g_life g_done g_selves = some o) : Ct l yX7_who cX7_who 4 (some .int) { frames := 5, cells := 0, slots := 0, locals := 115 } D (Tys cI cZ cD cH) [.ref qg, .int a1] [(qg, .inr (7, [.ref qg_text, .int g_size, .int g_at, .int g_begin, .int g_token, .int g_told, .ref qg_read, .ref qg_life, .int g_dones, .ref qg_done, .int g_undos, .ref qg_undone, .ref qg_selves, .ref qg_when, .ref qg_jury, .int g_seens, .ref qg_years, .ref qg_states, .long g_trace, .ref qg_kept])), rI cI qg_text 200 g_text, rI cI qg_read 55 g_read, rI cI qg_life 55 g_life, rI cI qg_done 16 g_done, rI cI qg_undone 130 g_undone, rI cI qg_selves 16 g_selves, rI cI qg_when 27 g_when, rI cI qg_jury 16 g_jury, rI cI qg_years 6 g_years, rI cI qg_states 6 g_states, rI cI qg_kept 290 g_kept] [(qg, .inr (7, [.ref qg_text, .int g_size, .int g_at, .int g_begin, .int g_token, .int g_told, .ref qg_read, .ref qg_life, .int g_dones, .ref qg_done, .int g_undos, .ref qg_undone, .ref qg_selves, .ref qg_when, .ref qg_jury, .int g_seens, .ref qg_years, .ref qg_states, .long g_trace, .ref qg_kept])), rI cI qg_text 200 g_text, rI cI qg_read 55 g_read, rI cI qg_life 55 g_life, rI cI qg_done 16 g_done, rI cI qg_undone 130 g_undone, rI cI qg_selves 16 o.2, rI cI qg_when 27 g_when, rI cI qg_jury 16 g_jury, rI cI qg_years 6 g_years, rI cI qg_states 6 g_states, rI cI qg_kept 290 g_kept] (some (.int o.1)) 0 0 := by
  refine mkI (by decide) (Nat.le_of_ble_eq_true rfl) ?_
  intro p e s m args below meth c A Q X hret ls hl H locs hP hD hS
  replace X : Cx p s m args c D (Tys cI cZ cD cH) A cX7_who RX7 4 := X
  obtain ⟨hx, hb, hml, hown, hts, hK, hZ, hA⟩ := id X
  have hl : lv_has ls 4 [(0, .ref qg), (1, .int a1)] := hl
  unfold fX7_who at hf
  refine lv_aload_n hx hb dX7_who_0 rfl (lv_at hl 0 rfl) ?_
  refine lv_iload_n hx hb dX7_who_1 rfl (lv_at hl 1 rfl) ?_
  obtain ⟨r1, hr1, hf⟩ := bnd hf
  refine k_callV X hP hD hS [(qg, .inr (7, [.ref qg_text, .int g_size, .int g_at, .int g_begin, .int g_token, .int g_told, .ref qg_read, .ref qg_life, .int g_dones, .ref qg_done, .int g_undos, .ref qg_undone, .ref qg_selves, .ref qg_when, .ref qg_jury, .int g_seens, .ref qg_years, .ref qg_states, .long g_trace, .ref qg_kept])), rI cI qg_text 200 g_text, rI cI qg_read 55 g_read, rI cI qg_life 55 g_life, rI cI qg_done 16 g_done, rI cI qg_undone 130 g_undone, rI cI qg_selves 16 g_selves, rI cI qg_when 27 g_when, rI cI qg_jury 16 g_jury, rI cI qg_years 6 g_years, rI cI qg_states 6 g_states, rI cI qg_kept 290 g_kept] (ctX7_isYear l D cI cZ cD cH qg qg_text qg_read qg_life qg_done qg_undone qg_selves qg_when qg_jury qg_years qg_states qg_kept a1 g_size g_at g_begin g_token g_told g_dones g_undos g_seens g_trace g_text g_read g_life g_done g_undone g_selves g_when g_jury g_years g_states g_kept r1 hr1) ml_RX7_147 im_yX7_isYear se_yX7_isYear in_RX7 cd_yX7_isYear rfl rfl hd_yX7_isYear ⟨by decide, by decide⟩ ⟨Nat.zero_le _, Nat.zero_le _⟩ [0, 1, 2, 3, 4, 5, 6, 7, 8, 9, 10, 11] [some 0, some 1, some 2, some 3, some 4, some 5, some 6, some 7, some 8, some 9, some 10, some 11] rfl (by decide +kernel) rfl (by decide +kernel) rfl rfl (q0 := 0) rfl rfl rfl hl.1 rfl rfl (Nat.le_of_ble_eq_true rfl) rfl dX7_who_2 (fun H locs hP hD hS => ?_)
  refine lv_if_ne (tgt := 10) hx hb dX7_who_5 (by decide) (fun c2 => ?_) (fun c2 => ?_)
  · replace hf := ite_f c2 hf
    refine lv_iconst (v := 0) hx hb dX7_who_10 (by decide) ?_
    refine lv_istore_n (lv' := [(2, .int 0), (0, .ref qg), (1, .int a1)]) hx hb dX7_who_11 rfl hl (by decide) rfl (fun ls hl => ?_)
    refine lv_iconst (v := 0) hx hb dX7_who_12 (by decide) ?_
    refine lv_istore_n (lv' := [(3, .int 0), (2, .int 0), (0, .ref qg), (1, .int a1)]) hx hb dX7_who_13 rfl hl (by decide) rfl (fun ls hl => ?_)
    obtain ⟨e3, he3, hf⟩ := bnd hf
    have hx3_0 : ∀ (y3_0 : Int32 × (Nat → Int32)), y3_0 = e3 → ∀ (H : Heap) (locs : List Loc) (ls : Array Slot), va_P D vwCl [(qg, .inr (7, [.ref qg_text, .int g_size, .int g_at, .int g_begin, .int g_token, .int g_told, .ref qg_read, .ref qg_life, .int g_dones, .ref qg_done, .int g_undos, .ref qg_undone, .ref qg_selves, .ref qg_when, .ref qg_jury, .int g_seens, .ref qg_years, .ref qg_states, .long g_trace, .ref qg_kept])), rI cI qg_text 200 g_text, rI cI qg_read 55 g_read, rI cI qg_life 55 g_life, rI cI qg_done 16 g_done, rI cI qg_undone 130 g_undone, rI cI qg_selves 16 y3_0.2, rI cI qg_when 27 g_when, rI cI qg_jury 16 g_jury, rI cI qg_years 6 g_years, rI cI qg_states 6 g_states, rI cI qg_kept 290 g_kept] H → va_D A [(qg, .inr (7, [.ref qg_text, .int g_size, .int g_at, .int g_begin, .int g_token, .int g_told, .ref qg_read, .ref qg_life, .int g_dones, .ref qg_done, .int g_undos, .ref qg_undone, .ref qg_selves, .ref qg_when, .ref qg_jury, .int g_seens, .ref qg_years, .ref qg_states, .long g_trace, .ref qg_kept])), rI cI qg_text 200 g_text, rI cI qg_read 55 g_read, rI cI qg_life 55 g_life, rI cI qg_done 16 g_done, rI cI qg_undone 130 g_undone, rI cI qg_selves 16 y3_0.2, rI cI qg_when 27 g_when, rI cI qg_jury 16 g_jury, rI cI qg_years 6 g_years, rI cI qg_states 6 g_states, rI cI qg_kept 290 g_kept] → va_S A s.heap H locs → lv_has ls 4 [(2, .int y3_0.1)] → W p l e ({ frames := 5, cells := 0, slots := 0, locals := 115 } : Room) s m args below meth c H locs 0 0 Q (F0 m 61 ls []) := by
      intro y3_0 heq H locs ls hP hD hS hl
      subst heq
      refine lv_iload_n hx hb dX7_who_61 rfl (lv_at hl 0 rfl) ?_
      replace hf := Option.some.inj hf
      subst hf
      exact hret H locs _ ls dX7_who_62 hP hD hS
    refine lpd_ind (P := fun s3 => ∀ (H : Heap) (locs : List Loc) (ls : Array Slot), va_P D vwCl [(qg, .inr (7, [.ref qg_text, .int g_size, .int g_at, .int g_begin, .int g_token, .int g_told, .ref qg_read, .ref qg_life, .int g_dones, .ref qg_done, .int g_undos, .ref qg_undone, .ref qg_selves, .ref qg_when, .ref qg_jury, .int g_seens, .ref qg_years, .ref qg_states, .long g_trace, .ref qg_kept])), rI cI qg_text 200 g_text, rI cI qg_read 55 g_read, rI cI qg_life 55 g_life, rI cI qg_done 16 g_done, rI cI qg_undone 130 g_undone, rI cI qg_selves 16 s3.2.2, rI cI qg_when 27 g_when, rI cI qg_jury 16 g_jury, rI cI qg_years 6 g_years, rI cI qg_states 6 g_states, rI cI qg_kept 290 g_kept] H → va_D A [(qg, .inr (7, [.ref qg_text, .int g_size, .int g_at, .int g_begin, .int g_token, .int g_told, .ref qg_read, .ref qg_life, .int g_dones, .ref qg_done, .int g_undos, .ref qg_undone, .ref qg_selves, .ref qg_when, .ref qg_jury, .int g_seens, .ref qg_years, .ref qg_states, .long g_trace, .ref qg_kept])), rI cI qg_text 200 g_text, rI cI qg_read 55 g_read, rI cI qg_life 55 g_life, rI cI qg_done 16 g_done, rI cI qg_undone 130 g_undone, rI cI qg_selves 16 s3.2.2, rI cI qg_when 27 g_when, rI cI qg_jury 16 g_jury, rI cI qg_years 6 g_years, rI cI qg_states 6 g_states, rI cI qg_kept 290 g_kept] → va_S A s.heap H locs → lv_has ls 4 [(0, .ref qg), (1, .int a1), (2, .int s3.1), (3, .int s3.2.1)] → W p l e ({ frames := 5, cells := 0, slots := 0, locals := 115 } : Room) s m args below meth c H locs 0 0 Q (F0 m 14 ls [])) e3 ?_ _ _ he3 H locs ls hP hD hS (lv_sub hl [2, 3, 1, 0] rfl)
    intro s3 r3 hf ih3 hq3 H locs ls hP hD hS hl
    unfold sX7_who_14 at hf
    refine lv_iload_n hx hb dX7_who_14 rfl (lv_at hl 3 rfl) ?_
    refine lv_aload_n hx hb dX7_who_15 rfl (lv_at hl 0 rfl) ?_
    obtain ⟨r4, hr4, hf⟩ := bnd hf
    refine k_callV X hP hD hS [(qg, .inr (7, [.ref qg_text, .int g_size, .int g_at, .int g_begin, .int g_token, .int g_told, .ref qg_read, .ref qg_life, .int g_dones, .ref qg_done, .int g_undos, .ref qg_undone, .ref qg_selves, .ref qg_when, .ref qg_jury, .int g_seens, .ref qg_years, .ref qg_states, .long g_trace, .ref qg_kept])), rI cI qg_text 200 g_text, rI cI qg_read 55 g_read, rI cI qg_life 55 g_life, rI cI qg_done 16 g_done, rI cI qg_undone 130 g_undone, rI cI qg_selves 16 s3.2.2, rI cI qg_when 27 g_when, rI cI qg_jury 16 g_jury, rI cI qg_years 6 g_years, rI cI qg_states 6 g_states, rI cI qg_kept 290 g_kept] (ctX7_rows l D cI cZ cD cH qg qg_text qg_read qg_life qg_done qg_undone qg_selves qg_when qg_jury qg_years qg_states qg_kept g_size g_at g_begin g_token g_told g_dones g_undos g_seens g_trace g_text g_read g_life g_done g_undone s3.2.2 g_when g_jury g_years g_states g_kept r4 hr4) ml_RX7_170 im_yX7_rows se_yX7_rows in_RX7 cd_yX7_rows rfl rfl hd_yX7_rows ⟨by decide, by decide⟩ ⟨Nat.zero_le _, Nat.zero_le _⟩ [0, 1, 2, 3, 4, 5, 6, 7, 8, 9, 10, 11] [some 0, some 1, some 2, some 3, some 4, some 5, some 6, some 7, some 8, some 9, some 10, some 11] rfl (by decide +kernel) rfl (by decide +kernel) rfl rfl (q0 := 0) rfl rfl rfl hl.1 rfl rfl (Nat.le_of_ble_eq_true rfl) rfl dX7_who_16 (fun H locs hP hD hS => ?_)
    refine lv_icmp_ge (tgt := 61) hx hb dX7_who_19 (by decide) (fun c5 => ?_) (fun c5 => ?_)
    · replace hf := ite_t c5 hf
      exact hx3_0 _ (hq3 _ (Option.some.inj hf).symm) H locs ls hP hD hS (lv_sub hl [2] rfl)
    · replace hf := ite_f c5 hf
      refine lv_iload_n hx hb dX7_who_22 rfl (lv_at hl 2 rfl) ?_
      refine lv_aload_n hx hb dX7_who_23 rfl (lv_at hl 0 rfl) ?_
      refine lv_iload_n hx hb dX7_who_24 rfl (lv_at hl 3 rfl) ?_
      refine lv_aload_n hx hb dX7_who_25 rfl (lv_at hl 0 rfl) ?_
      obtain ⟨r6, hr6, hf⟩ := bnd hf
      refine k_callV X hP hD hS [(qg, .inr (7, [.ref qg_text, .int g_size, .int g_at, .int g_begin, .int g_token, .int g_told, .ref qg_read, .ref qg_life, .int g_dones, .ref qg_done, .int g_undos, .ref qg_undone, .ref qg_selves, .ref qg_when, .ref qg_jury, .int g_seens, .ref qg_years, .ref qg_states, .long g_trace, .ref qg_kept])), rI cI qg_text 200 g_text, rI cI qg_read 55 g_read, rI cI qg_life 55 g_life, rI cI qg_done 16 g_done, rI cI qg_undone 130 g_undone, rI cI qg_selves 16 s3.2.2, rI cI qg_when 27 g_when, rI cI qg_jury 16 g_jury, rI cI qg_years 6 g_years, rI cI qg_states 6 g_states, rI cI qg_kept 290 g_kept] (ctX7_beginning l D cI cZ cD cH qg qg_text qg_read qg_life qg_done qg_undone qg_selves qg_when qg_jury qg_years qg_states qg_kept g_size g_at g_begin g_token g_told g_dones g_undos g_seens g_trace g_text g_read g_life g_done g_undone s3.2.2 g_when g_jury g_years g_states g_kept r6 hr6) ml_RX7_178 im_yX7_beginning se_yX7_beginning in_RX7 cd_yX7_beginning rfl rfl hd_yX7_beginning ⟨by decide, by decide⟩ ⟨Nat.zero_le _, Nat.zero_le _⟩ [0, 1, 2, 3, 4, 5, 6, 7, 8, 9, 10, 11] [some 0, some 1, some 2, some 3, some 4, some 5, some 6, some 7, some 8, some 9, some 10, some 11] rfl (by decide +kernel) rfl (by decide +kernel) rfl rfl (q0 := 0) rfl rfl rfl hl.1 rfl rfl (Nat.le_of_ble_eq_true rfl) rfl dX7_who_26 (fun H locs hP hD hS => ?_)
      refine lv_aload_n hx hb dX7_who_29 rfl (lv_at hl 0 rfl) ?_
      refine k_get X hP 0 rfl rfl inX7 7 (by decide) fl_RX7_16 rfl rfl dX7_who_30 ?_
      refine lv_iconst (v := 4) hx hb dX7_who_33 (by decide) ?_
      obtain ⟨h7, hf⟩ := ck_t hf
      refine k_iald X hP 3 0 rfl rfl h7 dX7_who_34 ?_
      obtain ⟨r8, hr8, hf⟩ := bnd hf
      refine k_callV X hP hD hS [(qg, .inr (7, [.ref qg_text, .int g_size, .int g_at, .int g_begin, .int g_token, .int g_told, .ref qg_read, .ref qg_life, .int g_dones, .ref qg_done, .int g_undos, .ref qg_undone, .ref qg_selves, .ref qg_when, .ref qg_jury, .int g_seens, .ref qg_years, .ref qg_states, .long g_trace, .ref qg_kept])), rI cI qg_text 200 g_text, rI cI qg_read 55 g_read, rI cI qg_life 55 g_life, rI cI qg_done 16 g_done, rI cI qg_undone 130 g_undone, rI cI qg_selves 16 r8.2, rI cI qg_when 27 g_when, rI cI qg_jury 16 g_jury, rI cI qg_years 6 g_years, rI cI qg_states 6 g_states, rI cI qg_kept 290 g_kept] (ctX7_isLife l D cI cZ cD cH qg qg_text qg_read qg_life qg_done qg_undone qg_selves qg_when qg_jury qg_years qg_states qg_kept s3.2.1 r6 (g_life (4 : Int32).toNatClampNeg) g_size g_at g_begin g_token g_told g_dones g_undos g_seens g_trace g_text g_read g_life g_done g_undone s3.2.2 g_when g_jury g_years g_states g_kept r8 hr8) ml_RX7_174 im_yX7_isLife se_yX7_isLife in_RX7 cd_yX7_isLife rfl rfl hd_yX7_isLife ⟨by decide, by decide⟩ ⟨Nat.zero_le _, Nat.zero_le _⟩ [0, 1, 2, 3, 4, 5, 6, 7, 8, 9, 10, 11] [some 0, some 1, some 2, some 3, some 4, some 5, some 6, some 7, some 8, some 9, some 10, some 11] rfl (by decide +kernel) rfl (by decide +kernel) rfl rfl (q0 := 0) rfl rfl rfl hl.1 rfl rfl (Nat.le_of_ble_eq_true rfl) rfl dX7_who_35 (fun H locs hP hD hS => ?_)
      refine lv_if_eq (tgt := 52) hx hb dX7_who_38 (by decide) (fun c9 => ?_) (fun c9 => ?_)
      · replace hf := ite_t c9 hf
        refine lv_iconst (v := 0) hx hb dX7_who_52 (by decide) ?_
        refine lv_ior hx hb dX7_who_53 ?_
        refine lv_istore_n (lv' := [(2, .int (s3.1 ||| 0)), (0, .ref qg), (1, .int a1), (3, .int s3.2.1)]) hx hb dX7_who_54 rfl hl (by decide) rfl (fun ls hl => ?_)
        refine lv_iinc (v := s3.2.1 + 1) (lv' := [(3, .int (s3.2.1 + 1)), (2, .int (s3.1 ||| 0)), (0, .ref qg), (1, .int a1)]) hx hb dX7_who_55 hl (k := 3) rfl rfl (by decide) rfl (fun ls hl => ?_)
        refine lv_goto (tgt := 14) hx hb dX7_who_58 (by decide) ?_
        exact ih3 _ (Option.some.inj hf).symm H locs ls hP hD hS (lv_sub hl [2, 3, 1, 0] rfl)
      · replace hf := ite_f c9 hf
        refine lv_iconst (v := 1) hx hb dX7_who_41 (by decide) ?_
        refine lv_aload_n hx hb dX7_who_42 rfl (lv_at hl 0 rfl) ?_
        refine k_get X hP 0 rfl rfl inX7 12 (by decide) fl_RX7_25 rfl rfl dX7_who_43 ?_
        refine lv_iload_n hx hb dX7_who_46 rfl (lv_at hl 1 rfl) ?_
        obtain ⟨h10, hf⟩ := ck_t hf
        refine k_iald X hP 6 0 rfl rfl h10 dX7_who_47 ?_
        refine lv_ishl hx hb dX7_who_48 ?_
        refine lv_goto (tgt := 53) hx hb dX7_who_49 (by decide) ?_
        refine lv_ior hx hb dX7_who_53 ?_
        refine lv_istore_n (lv' := [(2, .int (s3.1 ||| (1 <<< ((r8.2 a1.toNatClampNeg) &&& 31)))), (0, .ref qg), (1, .int a1), (3, .int s3.2.1)]) hx hb dX7_who_54 rfl hl (by decide) rfl (fun ls hl => ?_)
        refine lv_iinc (v := s3.2.1 + 1) (lv' := [(3, .int (s3.2.1 + 1)), (2, .int (s3.1 ||| (1 <<< ((r8.2 a1.toNatClampNeg) &&& 31)))), (0, .ref qg), (1, .int a1)]) hx hb dX7_who_55 hl (k := 3) rfl rfl (by decide) rfl (fun ls hl => ?_)
        refine lv_goto (tgt := 14) hx hb dX7_who_58 (by decide) ?_
        exact ih3 _ (Option.some.inj hf).symm H locs ls hP hD hS (lv_sub hl [2, 3, 1, 0] rfl)
  · replace hf := ite_t c2 hf
    refine lv_iconst (v := (-1)) hx hb dX7_who_8 (by decide) ?_
    replace hf := Option.some.inj hf
    subst hf
    exact hret H locs _ ls dX7_who_9 hP hD hS

def sX7_ring_25 (v2 : Int32) (g_when : Nat → Int32) : Option ((Int32 × (Nat → Int32)) ⊕ (((Nat → Int32)))) :=
  if 27 ≤ v2 then some (.inr g_when) else if inb v2 27 = true then some (.inl (v2 + 1, upd g_when v2.toNatClampNeg (-1))) else none
def sX7_ring_48 (g_dones : Int32) (g_life : Nat → Int32) (g_done : Nat → Int32) (v2 : Int32) (v3 : Int32) (g_selves : Nat → Int32) (g_when : Nat → Int32) : Option ((Int32 × Int32 × (Nat → Int32) × (Nat → Int32)) ⊕ ((Int32 × Int32 × (Nat → Int32) × (Nat → Int32)))) :=
  if inb v2 27 = true then if 0 ≤ (g_when v2.toNatClampNeg) then some (.inr (v2, v3, g_selves, g_when)) else if inb v2 27 = true then (fX7_beginning g_life).bind (fun r10 => (fX7_goes v2 r10 g_dones g_life g_done g_selves).bind (fun r11 => if inb 4 55 = true then (fX7_words (g_life (4 : Int32).toNatClampNeg) g_life r11).bind (fun r13 => some (.inl (r13, v3 + 1, r11, upd g_when v2.toNatClampNeg v3))) else none)) else none else none
def fX7_ring (a1 : Int32) (g_dones : Int32) (g_life : Nat → Int32) (g_done : Nat → Int32) (g_selves : Nat → Int32) (g_when : Nat → Int32) : Option (Int32 × (Nat → Int32) × (Nat → Int32)) :=
  (fX7_in a1.toInt64 0 1).bind (fun r1 => if (bI r1) = 0 then some ((-1), g_selves, g_when) else if inb 1 55 = true then if (g_life (1 : Int32).toNatClampNeg) = 0 then some (0, g_selves, g_when) else (lpd (fun s5 => sX7_ring_25 s5.1 s5.2) FU (0, g_when)).bind (fun (y5_0 : (Nat → Int32)) => (lpd (fun s6 => sX7_ring_48 g_dones g_life g_done s6.1 s6.2.1 s6.2.2.1 s6.2.2.2) FU (0, 0, g_selves, y5_0)).bind (fun (y6_0 : Int32 × Int32 × (Nat → Int32) × (Nat → Int32)) => if a1 = 0 then if inb y6_0.1 27 = true then some (y6_0.2.2.2 y6_0.1.toNatClampNeg, y6_0.2.2.1, y6_0.2.2.2) else none else if inb y6_0.1 27 = true then some (y6_0.2.1 - (y6_0.2.2.2 y6_0.1.toNatClampNeg), y6_0.2.2.1, y6_0.2.2.2) else none)) else none)
set_option maxHeartbeats 4000000 in
set_option maxRecDepth 100000 in
theorem ctX7_ring (l : Launch) (D : va_G) (cI cZ cD cH : ClassId) (qg : Nat) (qg_text : Nat) (qg_read : Nat) (qg_life : Nat) (qg_done : Nat) (qg_undone : Nat) (qg_selves : Nat) (qg_when : Nat) (qg_jury : Nat) (qg_years : Nat) (qg_states : Nat) (qg_kept : Nat) (a1 : Int32) (g_size : Int32) (g_at : Int32) (g_begin : Int32) (g_token : Int32) (g_told : Int32) (g_dones : Int32) (g_undos : Int32) (g_seens : Int32) (g_trace : Int64) (g_text : Nat → Int32) (g_read : Nat → Int32) (g_life : Nat → Int32) (g_done : Nat → Int32) (g_undone : Nat → Int32) (g_selves : Nat → Int32) (g_when : Nat → Int32) (g_jury : Nat → Int32) (g_years : Nat → Int32) (g_states : Nat → Int32) (g_kept : Nat → Int32) (o : Int32 × (Nat → Int32) × (Nat → Int32)) (hf : fX7_ring a1 g_dones g_life g_done g_selves g_when = some o) : Ct l yX7_ring cX7_ring 4 (some .int) { frames := 4, cells := 0, slots := 0, locals := 92 } D (Tys cI cZ cD cH) [.ref qg, .int a1] [(qg, .inr (7, [.ref qg_text, .int g_size, .int g_at, .int g_begin, .int g_token, .int g_told, .ref qg_read, .ref qg_life, .int g_dones, .ref qg_done, .int g_undos, .ref qg_undone, .ref qg_selves, .ref qg_when, .ref qg_jury, .int g_seens, .ref qg_years, .ref qg_states, .long g_trace, .ref qg_kept])), rI cI qg_text 200 g_text, rI cI qg_read 55 g_read, rI cI qg_life 55 g_life, rI cI qg_done 16 g_done, rI cI qg_undone 130 g_undone, rI cI qg_selves 16 g_selves, rI cI qg_when 27 g_when, rI cI qg_jury 16 g_jury, rI cI qg_years 6 g_years, rI cI qg_states 6 g_states, rI cI qg_kept 290 g_kept] [(qg, .inr (7, [.ref qg_text, .int g_size, .int g_at, .int g_begin, .int g_token, .int g_told, .ref qg_read, .ref qg_life, .int g_dones, .ref qg_done, .int g_undos, .ref qg_undone, .ref qg_selves, .ref qg_when, .ref qg_jury, .int g_seens, .ref qg_years, .ref qg_states, .long g_trace, .ref qg_kept])), rI cI qg_text 200 g_text, rI cI qg_read 55 g_read, rI cI qg_life 55 g_life, rI cI qg_done 16 g_done, rI cI qg_undone 130 g_undone, rI cI qg_selves 16 o.2.1, rI cI qg_when 27 o.2.2, rI cI qg_jury 16 g_jury, rI cI qg_years 6 g_years, rI cI qg_states 6 g_states, rI cI qg_kept 290 g_kept] (some (.int o.1)) 0 0 := by
  refine mkI (by decide) (Nat.le_of_ble_eq_true rfl) ?_
  intro p e s m args below meth c A Q X hret ls hl H locs hP hD hS
  replace X : Cx p s m args c D (Tys cI cZ cD cH) A cX7_ring RX7 4 := X
  obtain ⟨hx, hb, hml, hown, hts, hK, hZ, hA⟩ := id X
  have hl : lv_has ls 4 [(0, .ref qg), (1, .int a1)] := hl
  unfold fX7_ring at hf
  refine lv_iload_n hx hb dX7_ring_0 rfl (lv_at hl 1 rfl) ?_
  refine lv_i2l (v := a1.toInt64) hx hb dX7_ring_1 rfl ?_
  refine lv_lconst (v := 0) hx hb dX7_ring_2 (by decide) ?_
  refine lv_lconst (v := 1) hx hb dX7_ring_3 (by decide) ?_
  obtain ⟨r1, hr1, hf⟩ := bnd hf
  refine k_callS X hP hD hS [(qg, .inr (7, [.ref qg_text, .int g_size, .int g_at, .int g_begin, .int g_token, .int g_told, .ref qg_read, .ref qg_life, .int g_dones, .ref qg_done, .int g_undos, .ref qg_undone, .ref qg_selves, .ref qg_when, .ref qg_jury, .int g_seens, .ref qg_years, .ref qg_states, .long g_trace, .ref qg_kept])), rI cI qg_text 200 g_text, rI cI qg_read 55 g_read, rI cI qg_life 55 g_life, rI cI qg_done 16 g_done, rI cI qg_undone 130 g_undone, rI cI qg_selves 16 g_selves, rI cI qg_when 27 g_when, rI cI qg_jury 16 g_jury, rI cI qg_years 6 g_years, rI cI qg_states 6 g_states, rI cI qg_kept 290 g_kept] (ctX7_in l D cI cZ cD cH a1.toInt64 0 1 r1 hr1) ml_RX7_51 sm_yX7_in in_RX7 cd_yX7_in rfl rfl hd_yX7_in ⟨by decide, by decide⟩ ⟨Nat.zero_le _, Nat.zero_le _⟩ [] [none, none, none, none, none, none, none, none, none, none, none, none] rfl (by decide +kernel) rfl (by decide +kernel) rfl rfl hl.1 rfl rfl (Nat.le_of_ble_eq_true rfl) rfl dX7_ring_4 (fun H locs hP hD hS => ?_)
  refine lv_if_ne (tgt := 12) hx hb dX7_ring_7 (by decide) (fun c2 => ?_) (fun c2 => ?_)
  · replace hf := ite_f c2 hf
    refine lv_aload_n hx hb dX7_ring_12 rfl (lv_at hl 0 rfl) ?_
    refine k_get X hP 0 rfl rfl inX7 7 (by decide) fl_RX7_16 rfl rfl dX7_ring_13 ?_
    refine lv_iconst (v := 1) hx hb dX7_ring_16 (by decide) ?_
    obtain ⟨h3, hf⟩ := ck_t hf
    refine k_iald X hP 3 0 rfl rfl h3 dX7_ring_17 ?_
    refine lv_if_ne (tgt := 23) hx hb dX7_ring_18 (by decide) (fun c4 => ?_) (fun c4 => ?_)
    · replace hf := ite_f c4 hf
      refine lv_iconst (v := 0) hx hb dX7_ring_23 (by decide) ?_
      refine lv_istore_n (lv' := [(2, .int 0), (0, .ref qg), (1, .int a1)]) hx hb dX7_ring_24 rfl hl (by decide) rfl (fun ls hl => ?_)
      obtain ⟨e5, he5, hf⟩ := bnd hf
      have hx5_0 : ∀ (y5_0 : (Nat → Int32)), y5_0 = e5 → ∀ (H : Heap) (locs : List Loc) (ls : Array Slot), va_P D vwCl [(qg, .inr (7, [.ref qg_text, .int g_size, .int g_at, .int g_begin, .int g_token, .int g_told, .ref qg_read, .ref qg_life, .int g_dones, .ref qg_done, .int g_undos, .ref qg_undone, .ref qg_selves, .ref qg_when, .ref qg_jury, .int g_seens, .ref qg_years, .ref qg_states, .long g_trace, .ref qg_kept])), rI cI qg_text 200 g_text, rI cI qg_read 55 g_read, rI cI qg_life 55 g_life, rI cI qg_done 16 g_done, rI cI qg_undone 130 g_undone, rI cI qg_selves 16 g_selves, rI cI qg_when 27 y5_0, rI cI qg_jury 16 g_jury, rI cI qg_years 6 g_years, rI cI qg_states 6 g_states, rI cI qg_kept 290 g_kept] H → va_D A [(qg, .inr (7, [.ref qg_text, .int g_size, .int g_at, .int g_begin, .int g_token, .int g_told, .ref qg_read, .ref qg_life, .int g_dones, .ref qg_done, .int g_undos, .ref qg_undone, .ref qg_selves, .ref qg_when, .ref qg_jury, .int g_seens, .ref qg_years, .ref qg_states, .long g_trace, .ref qg_kept])), rI cI qg_text 200 g_text, rI cI qg_read 55 g_read, rI cI qg_life 55 g_life, rI cI qg_done 16 g_done, rI cI qg_undone 130 g_undone, rI cI qg_selves 16 g_selves, rI cI qg_when 27 y5_0, rI cI qg_jury 16 g_jury, rI cI qg_years 6 g_years, rI cI qg_states 6 g_states, rI cI qg_kept 290 g_kept] → va_S A s.heap H locs → lv_has ls 4 [(0, .ref qg), (1, .int a1)] → W p l e ({ frames := 4, cells := 0, slots := 0, locals := 92 } : Room) s m args below meth c H locs 0 0 Q (F0 m 44 ls []) := by
        intro y5_0 heq H locs ls hP hD hS hl
        subst heq
        refine lv_iconst (v := 0) hx hb dX7_ring_44 (by decide) ?_
        refine lv_istore_n (lv' := [(2, .int 0), (0, .ref qg), (1, .int a1)]) hx hb dX7_ring_45 rfl hl (by decide) rfl (fun ls hl => ?_)
        refine lv_iconst (v := 0) hx hb dX7_ring_46 (by decide) ?_
        refine lv_istore_n (lv' := [(3, .int 0), (2, .int 0), (0, .ref qg), (1, .int a1)]) hx hb dX7_ring_47 rfl hl (by decide) rfl (fun ls hl => ?_)
        obtain ⟨e6, he6, hf⟩ := bnd hf
        have hx6_0 : ∀ (y6_0 : Int32 × Int32 × (Nat → Int32) × (Nat → Int32)), y6_0 = e6 → ∀ (H : Heap) (locs : List Loc) (ls : Array Slot), va_P D vwCl [(qg, .inr (7, [.ref qg_text, .int g_size, .int g_at, .int g_begin, .int g_token, .int g_told, .ref qg_read, .ref qg_life, .int g_dones, .ref qg_done, .int g_undos, .ref qg_undone, .ref qg_selves, .ref qg_when, .ref qg_jury, .int g_seens, .ref qg_years, .ref qg_states, .long g_trace, .ref qg_kept])), rI cI qg_text 200 g_text, rI cI qg_read 55 g_read, rI cI qg_life 55 g_life, rI cI qg_done 16 g_done, rI cI qg_undone 130 g_undone, rI cI qg_selves 16 y6_0.2.2.1, rI cI qg_when 27 y6_0.2.2.2, rI cI qg_jury 16 g_jury, rI cI qg_years 6 g_years, rI cI qg_states 6 g_states, rI cI qg_kept 290 g_kept] H → va_D A [(qg, .inr (7, [.ref qg_text, .int g_size, .int g_at, .int g_begin, .int g_token, .int g_told, .ref qg_read, .ref qg_life, .int g_dones, .ref qg_done, .int g_undos, .ref qg_undone, .ref qg_selves, .ref qg_when, .ref qg_jury, .int g_seens, .ref qg_years, .ref qg_states, .long g_trace, .ref qg_kept])), rI cI qg_text 200 g_text, rI cI qg_read 55 g_read, rI cI qg_life 55 g_life, rI cI qg_done 16 g_done, rI cI qg_undone 130 g_undone, rI cI qg_selves 16 y6_0.2.2.1, rI cI qg_when 27 y6_0.2.2.2, rI cI qg_jury 16 g_jury, rI cI qg_years 6 g_years, rI cI qg_states 6 g_states, rI cI qg_kept 290 g_kept] → va_S A s.heap H locs → lv_has ls 4 [(0, .ref qg), (1, .int a1), (2, .int y6_0.1), (3, .int y6_0.2.1)] → W p l e ({ frames := 4, cells := 0, slots := 0, locals := 92 } : Room) s m args below meth c H locs 0 0 Q (F0 m 90 ls []) := by
          intro y6_0 heq H locs ls hP hD hS hl
          subst heq
          refine lv_iload_n hx hb dX7_ring_90 rfl (lv_at hl 1 rfl) ?_
          refine lv_if_ne (tgt := 103) hx hb dX7_ring_91 (by decide) (fun c7 => ?_) (fun c7 => ?_)
          · replace hf := ite_f c7 hf
            refine lv_iload_n hx hb dX7_ring_103 rfl (lv_at hl 3 rfl) ?_
            refine lv_aload_n hx hb dX7_ring_104 rfl (lv_at hl 0 rfl) ?_
            refine k_get X hP 0 rfl rfl inX7 13 (by decide) fl_RX7_28 rfl rfl dX7_ring_105 ?_
            refine lv_iload_n hx hb dX7_ring_108 rfl (lv_at hl 2 rfl) ?_
            obtain ⟨h8, hf⟩ := ck_t hf
            refine k_iald X hP 7 0 rfl rfl h8 dX7_ring_109 ?_
            refine lv_isub hx hb dX7_ring_110 ?_
            replace hf := Option.some.inj hf
            subst hf
            exact hret H locs _ ls dX7_ring_111 hP hD hS
          · replace hf := ite_t c7 hf
            refine lv_aload_n hx hb dX7_ring_94 rfl (lv_at hl 0 rfl) ?_
            refine k_get X hP 0 rfl rfl inX7 13 (by decide) fl_RX7_28 rfl rfl dX7_ring_95 ?_
            refine lv_iload_n hx hb dX7_ring_98 rfl (lv_at hl 2 rfl) ?_
            obtain ⟨h9, hf⟩ := ck_t hf
            refine k_iald X hP 7 0 rfl rfl h9 dX7_ring_99 ?_
            refine lv_goto (tgt := 111) hx hb dX7_ring_100 (by decide) ?_
            replace hf := Option.some.inj hf
            subst hf
            exact hret H locs _ ls dX7_ring_111 hP hD hS
        refine lpd_ind (P := fun s6 => ∀ (H : Heap) (locs : List Loc) (ls : Array Slot), va_P D vwCl [(qg, .inr (7, [.ref qg_text, .int g_size, .int g_at, .int g_begin, .int g_token, .int g_told, .ref qg_read, .ref qg_life, .int g_dones, .ref qg_done, .int g_undos, .ref qg_undone, .ref qg_selves, .ref qg_when, .ref qg_jury, .int g_seens, .ref qg_years, .ref qg_states, .long g_trace, .ref qg_kept])), rI cI qg_text 200 g_text, rI cI qg_read 55 g_read, rI cI qg_life 55 g_life, rI cI qg_done 16 g_done, rI cI qg_undone 130 g_undone, rI cI qg_selves 16 s6.2.2.1, rI cI qg_when 27 s6.2.2.2, rI cI qg_jury 16 g_jury, rI cI qg_years 6 g_years, rI cI qg_states 6 g_states, rI cI qg_kept 290 g_kept] H → va_D A [(qg, .inr (7, [.ref qg_text, .int g_size, .int g_at, .int g_begin, .int g_token, .int g_told, .ref qg_read, .ref qg_life, .int g_dones, .ref qg_done, .int g_undos, .ref qg_undone, .ref qg_selves, .ref qg_when, .ref qg_jury, .int g_seens, .ref qg_years, .ref qg_states, .long g_trace, .ref qg_kept])), rI cI qg_text 200 g_text, rI cI qg_read 55 g_read, rI cI qg_life 55 g_life, rI cI qg_done 16 g_done, rI cI qg_undone 130 g_undone, rI cI qg_selves 16 s6.2.2.1, rI cI qg_when 27 s6.2.2.2, rI cI qg_jury 16 g_jury, rI cI qg_years 6 g_years, rI cI qg_states 6 g_states, rI cI qg_kept 290 g_kept] → va_S A s.heap H locs → lv_has ls 4 [(0, .ref qg), (1, .int a1), (2, .int s6.1), (3, .int s6.2.1)] → W p l e ({ frames := 4, cells := 0, slots := 0, locals := 92 } : Room) s m args below meth c H locs 0 0 Q (F0 m 48 ls [])) e6 ?_ _ _ he6 H locs ls hP hD hS (lv_sub hl [2, 3, 1, 0] rfl)
        intro s6 r6 hf ih6 hq6 H locs ls hP hD hS hl
        unfold sX7_ring_48 at hf
        refine lv_aload_n hx hb dX7_ring_48 rfl (lv_at hl 0 rfl) ?_
        refine k_get X hP 0 rfl rfl inX7 13 (by decide) fl_RX7_28 rfl rfl dX7_ring_49 ?_
        refine lv_iload_n hx hb dX7_ring_52 rfl (lv_at hl 2 rfl) ?_
        obtain ⟨h10, hf⟩ := ck_t hf
        refine k_iald X hP 7 0 rfl rfl h10 dX7_ring_53 ?_
        refine lv_if_ge (tgt := 90) hx hb dX7_ring_54 (by decide) (fun c11 => ?_) (fun c11 => ?_)
        · replace hf := ite_t c11 hf
          exact hx6_0 _ (hq6 _ (Option.some.inj hf).symm) H locs ls hP hD hS hl
        · replace hf := ite_f c11 hf
          refine lv_aload_n hx hb dX7_ring_57 rfl (lv_at hl 0 rfl) ?_
          refine k_get X hP 0 rfl rfl inX7 13 (by decide) fl_RX7_28 rfl rfl dX7_ring_58 ?_
          refine lv_iload_n hx hb dX7_ring_61 rfl (lv_at hl 2 rfl) ?_
          refine lv_iload_n hx hb dX7_ring_62 rfl (lv_at hl 3 rfl) ?_
          obtain ⟨h12, hf⟩ := ck_t hf
          refine k_iast X hP hD hS [(qg, .inr (7, [.ref qg_text, .int g_size, .int g_at, .int g_begin, .int g_token, .int g_told, .ref qg_read, .ref qg_life, .int g_dones, .ref qg_done, .int g_undos, .ref qg_undone, .ref qg_selves, .ref qg_when, .ref qg_jury, .int g_seens, .ref qg_years, .ref qg_states, .long g_trace, .ref qg_kept])), rI cI qg_text 200 g_text, rI cI qg_read 55 g_read, rI cI qg_life 55 g_life, rI cI qg_done 16 g_done, rI cI qg_undone 130 g_undone, rI cI qg_selves 16 s6.2.2.1, rI cI qg_when 27 (upd s6.2.2.2 s6.1.toNatClampNeg s6.2.1), rI cI qg_jury 16 g_jury, rI cI qg_years 6 g_years, rI cI qg_states 6 g_states, rI cI qg_kept 290 g_kept] 7 0 rfl rfl h12 rfl dX7_ring_63 (fun H locs hP hD hS => ?_)
          refine lv_iinc (v := s6.2.1 + 1) (lv' := [(3, .int (s6.2.1 + 1)), (0, .ref qg), (1, .int a1), (2, .int s6.1)]) hx hb dX7_ring_64 hl (k := 3) rfl rfl (by decide) rfl (fun ls hl => ?_)
          refine lv_aload_n hx hb dX7_ring_67 rfl (lv_at hl 1 rfl) ?_
          refine lv_iload_n hx hb dX7_ring_68 rfl (lv_at hl 3 rfl) ?_
          refine lv_aload_n hx hb dX7_ring_69 rfl (lv_at hl 1 rfl) ?_
          obtain ⟨r13, hr13, hf⟩ := bnd hf
          refine k_callV X hP hD hS [(qg, .inr (7, [.ref qg_text, .int g_size, .int g_at, .int g_begin, .int g_token, .int g_told, .ref qg_read, .ref qg_life, .int g_dones, .ref qg_done, .int g_undos, .ref qg_undone, .ref qg_selves, .ref qg_when, .ref qg_jury, .int g_seens, .ref qg_years, .ref qg_states, .long g_trace, .ref qg_kept])), rI cI qg_text 200 g_text, rI cI qg_read 55 g_read, rI cI qg_life 55 g_life, rI cI qg_done 16 g_done, rI cI qg_undone 130 g_undone, rI cI qg_selves 16 s6.2.2.1, rI cI qg_when 27 (upd s6.2.2.2 s6.1.toNatClampNeg s6.2.1), rI cI qg_jury 16 g_jury, rI cI qg_years 6 g_years, rI cI qg_states 6 g_states, rI cI qg_kept 290 g_kept] (ctX7_beginning l D cI cZ cD cH qg qg_text qg_read qg_life qg_done qg_undone qg_selves qg_when qg_jury qg_years qg_states qg_kept g_size g_at g_begin g_token g_told g_dones g_undos g_seens g_trace g_text g_read g_life g_done g_undone s6.2.2.1 (upd s6.2.2.2 s6.1.toNatClampNeg s6.2.1) g_jury g_years g_states g_kept r13 hr13) ml_RX7_178 im_yX7_beginning se_yX7_beginning in_RX7 cd_yX7_beginning rfl rfl hd_yX7_beginning ⟨by decide, by decide⟩ ⟨Nat.zero_le _, Nat.zero_le _⟩ [0, 1, 2, 3, 4, 5, 6, 7, 8, 9, 10, 11] [some 0, some 1, some 2, some 3, some 4, some 5, some 6, some 7, some 8, some 9, some 10, some 11] rfl (by decide +kernel) rfl (by decide +kernel) rfl rfl (q0 := 0) rfl rfl rfl hl.1 rfl rfl (Nat.le_of_ble_eq_true rfl) rfl dX7_ring_70 (fun H locs hP hD hS => ?_)
          obtain ⟨r14, hr14, hf⟩ := bnd hf
          refine k_callV X hP hD hS [(qg, .inr (7, [.ref qg_text, .int g_size, .int g_at, .int g_begin, .int g_token, .int g_told, .ref qg_read, .ref qg_life, .int g_dones, .ref qg_done, .int g_undos, .ref qg_undone, .ref qg_selves, .ref qg_when, .ref qg_jury, .int g_seens, .ref qg_years, .ref qg_states, .long g_trace, .ref qg_kept])), rI cI qg_text 200 g_text, rI cI qg_read 55 g_read, rI cI qg_life 55 g_life, rI cI qg_done 16 g_done, rI cI qg_undone 130 g_undone, rI cI qg_selves 16 r14, rI cI qg_when 27 (upd s6.2.2.2 s6.1.toNatClampNeg s6.2.1), rI cI qg_jury 16 g_jury, rI cI qg_years 6 g_years, rI cI qg_states 6 g_states, rI cI qg_kept 290 g_kept] (ctX7_goes l D cI cZ cD cH qg qg_text qg_read qg_life qg_done qg_undone qg_selves qg_when qg_jury qg_years qg_states qg_kept s6.1 r13 g_size g_at g_begin g_token g_told g_dones g_undos g_seens g_trace g_text g_read g_life g_done g_undone s6.2.2.1 (upd s6.2.2.2 s6.1.toNatClampNeg s6.2.1) g_jury g_years g_states g_kept r14 hr14) ml_RX7_164 im_yX7_goes se_yX7_goes in_RX7 cd_yX7_goes rfl rfl hd_yX7_goes ⟨by decide, by decide⟩ ⟨Nat.zero_le _, Nat.zero_le _⟩ [0, 1, 2, 3, 4, 5, 6, 7, 8, 9, 10, 11] [some 0, some 1, some 2, some 3, some 4, some 5, some 6, some 7, some 8, some 9, some 10, some 11] rfl (by decide +kernel) rfl (by decide +kernel) rfl rfl (q0 := 0) rfl rfl rfl hl.1 rfl rfl (Nat.le_of_ble_eq_true rfl) rfl dX7_ring_73 (fun H locs hP hD hS => ?_)
          refine lv_aload_n hx hb dX7_ring_76 rfl (lv_at hl 1 rfl) ?_
          refine lv_aload_n hx hb dX7_ring_77 rfl (lv_at hl 1 rfl) ?_
          refine k_get X hP 0 rfl rfl inX7 7 (by decide) fl_RX7_16 rfl rfl dX7_ring_78 ?_
          refine lv_iconst (v := 4) hx hb dX7_ring_81 (by decide) ?_
          obtain ⟨h15, hf⟩ := ck_t hf
          refine k_iald X hP 3 0 rfl rfl h15 dX7_ring_82 ?_
          obtain ⟨r16, hr16, hf⟩ := bnd hf
          refine k_callV X hP hD hS [(qg, .inr (7, [.ref qg_text, .int g_size, .int g_at, .int g_begin, .int g_token, .int g_told, .ref qg_read, .ref qg_life, .int g_dones, .ref qg_done, .int g_undos, .ref qg_undone, .ref qg_selves, .ref qg_when, .ref qg_jury, .int g_seens, .ref qg_years, .ref qg_states, .long g_trace, .ref qg_kept])), rI cI qg_text 200 g_text, rI cI qg_read 55 g_read, rI cI qg_life 55 g_life, rI cI qg_done 16 g_done, rI cI qg_undone 130 g_undone, rI cI qg_selves 16 r14, rI cI qg_when 27 (upd s6.2.2.2 s6.1.toNatClampNeg s6.2.1), rI cI qg_jury 16 g_jury, rI cI qg_years 6 g_years, rI cI qg_states 6 g_states, rI cI qg_kept 290 g_kept] (ctX7_words l D cI cZ cD cH qg qg_text qg_read qg_life qg_done qg_undone qg_selves qg_when qg_jury qg_years qg_states qg_kept (g_life (4 : Int32).toNatClampNeg) g_size g_at g_begin g_token g_told g_dones g_undos g_seens g_trace g_text g_read g_life g_done g_undone r14 (upd s6.2.2.2 s6.1.toNatClampNeg s6.2.1) g_jury g_years g_states g_kept r16 hr16) ml_RX7_167 im_yX7_words se_yX7_words in_RX7 cd_yX7_words rfl rfl hd_yX7_words ⟨by decide, by decide⟩ ⟨Nat.zero_le _, Nat.zero_le _⟩ [0, 1, 2, 3, 4, 5, 6, 7, 8, 9, 10, 11] [some 0, some 1, some 2, some 3, some 4, some 5, some 6, some 7, some 8, some 9, some 10, some 11] rfl (by decide +kernel) rfl (by decide +kernel) rfl rfl (q0 := 0) rfl rfl rfl hl.1 rfl rfl (Nat.le_of_ble_eq_true rfl) rfl dX7_ring_83 (fun H locs hP hD hS => ?_)
          refine lv_istore_n (lv' := [(2, .int r16), (3, .int (s6.2.1 + 1)), (0, .ref qg), (1, .int a1)]) hx hb dX7_ring_86 rfl hl (by decide) rfl (fun ls hl => ?_)
          refine lv_goto (tgt := 48) hx hb dX7_ring_87 (by decide) ?_
          exact ih6 _ (Option.some.inj hf).symm H locs ls hP hD hS (lv_sub hl [2, 3, 0, 1] rfl)
      refine lpd_ind (P := fun s5 => ∀ (H : Heap) (locs : List Loc) (ls : Array Slot), va_P D vwCl [(qg, .inr (7, [.ref qg_text, .int g_size, .int g_at, .int g_begin, .int g_token, .int g_told, .ref qg_read, .ref qg_life, .int g_dones, .ref qg_done, .int g_undos, .ref qg_undone, .ref qg_selves, .ref qg_when, .ref qg_jury, .int g_seens, .ref qg_years, .ref qg_states, .long g_trace, .ref qg_kept])), rI cI qg_text 200 g_text, rI cI qg_read 55 g_read, rI cI qg_life 55 g_life, rI cI qg_done 16 g_done, rI cI qg_undone 130 g_undone, rI cI qg_selves 16 g_selves, rI cI qg_when 27 s5.2, rI cI qg_jury 16 g_jury, rI cI qg_years 6 g_years, rI cI qg_states 6 g_states, rI cI qg_kept 290 g_kept] H → va_D A [(qg, .inr (7, [.ref qg_text, .int g_size, .int g_at, .int g_begin, .int g_token, .int g_told, .ref qg_read, .ref qg_life, .int g_dones, .ref qg_done, .int g_undos, .ref qg_undone, .ref qg_selves, .ref qg_when, .ref qg_jury, .int g_seens, .ref qg_years, .ref qg_states, .long g_trace, .ref qg_kept])), rI cI qg_text 200 g_text, rI cI qg_read 55 g_read, rI cI qg_life 55 g_life, rI cI qg_done 16 g_done, rI cI qg_undone 130 g_undone, rI cI qg_selves 16 g_selves, rI cI qg_when 27 s5.2, rI cI qg_jury 16 g_jury, rI cI qg_years 6 g_years, rI cI qg_states 6 g_states, rI cI qg_kept 290 g_kept] → va_S A s.heap H locs → lv_has ls 4 [(0, .ref qg), (1, .int a1), (2, .int s5.1)] → W p l e ({ frames := 4, cells := 0, slots := 0, locals := 92 } : Room) s m args below meth c H locs 0 0 Q (F0 m 25 ls [])) e5 ?_ _ _ he5 H locs ls hP hD hS (lv_sub hl [1, 2, 0] rfl)
      intro s5 r5 hf ih5 hq5 H locs ls hP hD hS hl
      unfold sX7_ring_25 at hf
      refine lv_iload_n hx hb dX7_ring_25 rfl (lv_at hl 2 rfl) ?_
      refine lv_bipush (v := 27) hx hb dX7_ring_26 (by decide) ?_
      refine lv_icmp_ge (tgt := 44) hx hb dX7_ring_28 (by decide) (fun c17 => ?_) (fun c17 => ?_)
      · replace hf := ite_t c17 hf
        exact hx5_0 _ (hq5 _ (Option.some.inj hf).symm) H locs ls hP hD hS (lv_sub hl [0, 1] rfl)
      · replace hf := ite_f c17 hf
        refine lv_aload_n hx hb dX7_ring_31 rfl (lv_at hl 0 rfl) ?_
        refine k_get X hP 0 rfl rfl inX7 13 (by decide) fl_RX7_28 rfl rfl dX7_ring_32 ?_
        refine lv_iload_n hx hb dX7_ring_35 rfl (lv_at hl 2 rfl) ?_
        refine lv_iconst (v := (-1)) hx hb dX7_ring_36 (by decide) ?_
        obtain ⟨h18, hf⟩ := ck_t hf
        refine k_iast X hP hD hS [(qg, .inr (7, [.ref qg_text, .int g_size, .int g_at, .int g_begin, .int g_token, .int g_told, .ref qg_read, .ref qg_life, .int g_dones, .ref qg_done, .int g_undos, .ref qg_undone, .ref qg_selves, .ref qg_when, .ref qg_jury, .int g_seens, .ref qg_years, .ref qg_states, .long g_trace, .ref qg_kept])), rI cI qg_text 200 g_text, rI cI qg_read 55 g_read, rI cI qg_life 55 g_life, rI cI qg_done 16 g_done, rI cI qg_undone 130 g_undone, rI cI qg_selves 16 g_selves, rI cI qg_when 27 (upd s5.2 s5.1.toNatClampNeg (-1)), rI cI qg_jury 16 g_jury, rI cI qg_years 6 g_years, rI cI qg_states 6 g_states, rI cI qg_kept 290 g_kept] 7 0 rfl rfl h18 rfl dX7_ring_37 (fun H locs hP hD hS => ?_)
        refine lv_iinc (v := s5.1 + 1) (lv' := [(2, .int (s5.1 + 1)), (0, .ref qg), (1, .int a1)]) hx hb dX7_ring_38 hl (k := 2) rfl rfl (by decide) rfl (fun ls hl => ?_)
        refine lv_goto (tgt := 25) hx hb dX7_ring_41 (by decide) ?_
        exact ih5 _ (Option.some.inj hf).symm H locs ls hP hD hS (lv_sub hl [1, 2, 0] rfl)
    · replace hf := ite_t c4 hf
      refine lv_iconst (v := 0) hx hb dX7_ring_21 (by decide) ?_
      replace hf := Option.some.inj hf
      subst hf
      exact hret H locs _ ls dX7_ring_22 hP hD hS
  · replace hf := ite_t c2 hf
    refine lv_iconst (v := (-1)) hx hb dX7_ring_10 (by decide) ?_
    replace hf := Option.some.inj hf
    subst hf
    exact hret H locs _ ls dX7_ring_11 hP hD hS
