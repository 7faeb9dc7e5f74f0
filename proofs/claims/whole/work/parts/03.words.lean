def gt : List Cond := lw_tbl.filter goodWord
theorem lt_in {w : Cond} (i : Nat) (h : tables_1[i]? = some w) (hg : goodWord w = true) : w ∈ gt := List.mem_filter.mpr ⟨List.mem_append_right _ (List.mem_of_getElem? h), hg⟩
theorem lu_in {w : Cond} (i : Nat) (h : tables_1[i]? = some w) : w ∈ lw_tbl := List.mem_append_right _ (List.mem_of_getElem? h)
theorem gt_good : ∀ w ∈ gt, goodWord w = true := fun w h => (List.mem_filter.mp h).2
theorem lt_c1 {w : Cond} (h : w ∈ tables_1_1) (hg : goodWord w = true) : w ∈ gt := List.mem_filter.mpr ⟨List.mem_append_right _ (show w ∈ tables_1_1 ++ (tables_1_2 ++ (tables_1_3 ++ (tables_1_4 ++ tables_1_5))) from (List.mem_append_left _ h)), hg⟩
theorem lt_c2 {w : Cond} (h : w ∈ tables_1_2) (hg : goodWord w = true) : w ∈ gt := List.mem_filter.mpr ⟨List.mem_append_right _ (show w ∈ tables_1_1 ++ (tables_1_2 ++ (tables_1_3 ++ (tables_1_4 ++ tables_1_5))) from (List.mem_append_right _ (List.mem_append_left _ h))), hg⟩
theorem lt_c3 {w : Cond} (h : w ∈ tables_1_3) (hg : goodWord w = true) : w ∈ gt := List.mem_filter.mpr ⟨List.mem_append_right _ (show w ∈ tables_1_1 ++ (tables_1_2 ++ (tables_1_3 ++ (tables_1_4 ++ tables_1_5))) from (List.mem_append_right _ (List.mem_append_right _ (List.mem_append_left _ h)))), hg⟩
theorem lt_c4 {w : Cond} (h : w ∈ tables_1_4) (hg : goodWord w = true) : w ∈ gt := List.mem_filter.mpr ⟨List.mem_append_right _ (show w ∈ tables_1_1 ++ (tables_1_2 ++ (tables_1_3 ++ (tables_1_4 ++ tables_1_5))) from (List.mem_append_right _ (List.mem_append_right _ (List.mem_append_right _ (List.mem_append_left _ h))))), hg⟩
theorem lt_c5 {w : Cond} (h : w ∈ tables_1_5) (hg : goodWord w = true) : w ∈ gt := List.mem_filter.mpr ⟨List.mem_append_right _ (show w ∈ tables_1_1 ++ (tables_1_2 ++ (tables_1_3 ++ (tables_1_4 ++ tables_1_5))) from (List.mem_append_right _ (List.mem_append_right _ (List.mem_append_right _ (List.mem_append_right _ h))))), hg⟩
theorem inX0 : ∀ w ∈ wsX00, w ∈ gt := by decide +kernel
theorem inX1 : ∀ w ∈ wsX10, w ∈ gt := by decide +kernel
theorem inX2 : ∀ w ∈ wsX20, w ∈ gt := by decide +kernel
theorem inX3 : ∀ w ∈ wsX30, w ∈ gt := by decide +kernel
theorem inX4 : ∀ w ∈ wsX40, w ∈ gt := by decide +kernel
theorem inX5 : ∀ w ∈ wsX50, w ∈ gt := by decide +kernel
theorem inX6 : ∀ w ∈ wsX60, w ∈ gt := by decide +kernel
theorem inX7 : ∀ w ∈ wsX70, w ∈ gt := by decide +kernel
theorem in_RL : Cond.initialized RL ∈ gt := lt_in 0 (by decide +kernel) rfl
theorem in_RX6 : Cond.initialized RX6 ∈ gt := lt_in 1 (by decide +kernel) rfl
theorem in_RX5 : Cond.initialized RX5 ∈ gt := lt_in 2 (by decide +kernel) rfl
theorem in_RX4 : Cond.initialized RX4 ∈ gt := lt_in 3 (by decide +kernel) rfl
theorem in_RX3 : Cond.initialized RX3 ∈ gt := lt_in 4 (by decide +kernel) rfl
theorem in_RX1 : Cond.initialized RX1 ∈ gt := lt_in 5 (by decide +kernel) rfl
theorem in_RX2 : Cond.initialized RX2 ∈ gt := lt_in 6 (by decide +kernel) rfl
theorem in_RX0 : Cond.initialized RX0 ∈ gt := lt_in 7 (by decide +kernel) rfl
theorem in_RX7 : Cond.initialized RX7 ∈ gt := lt_in 8 (by decide +kernel) rfl
theorem in_RJ9 : Cond.initialized RJ9 ∈ gt := lt_in 9 (by decide +kernel) rfl
theorem in_RJ6 : Cond.initialized RJ6 ∈ gt := lt_in 10 (by decide +kernel) rfl
theorem cc_RL_7 : Cond.classLink RL 7 RX6 ∈ gt := lt_in 11 (by decide +kernel) rfl
theorem ia_RX6 : Cond.instantiable RX6 14 ∈ gt := lt_in 12 (by decide +kernel) rfl
theorem ml_RL_9 : Cond.methodLink RL 9 yX6_init ∈ gt := lt_in 13 (by decide +kernel) rfl
theorem im_yX6_init : Cond.instanceMethod yX6_init ∈ gt := lt_in 14 (by decide +kernel) rfl
theorem cd_yX6_init : Cond.code yX6_init cX6_init 2 none ∈ gt := lt_c1 (List.mem_of_getElem? (i := 15) rfl) rfl
theorem ml_RX6_1 : Cond.methodLink RX6 1 objectInit ∈ gt := lt_in 16 (by decide +kernel) rfl
theorem im_objectInit : Cond.instanceMethod objectInit ∈ gt := lt_in 17 (by decide +kernel) rfl
theorem cd_objectInit : Cond.code objectInit ⟨#[0xb1]⟩ 1 none ∈ gt := lt_c1 (List.mem_of_getElem? (i := 18) rfl) rfl
theorem cc_RX6_17 : Cond.classLink RX6 17 RX5 ∈ gt := lt_in 19 (by decide +kernel) rfl
theorem ia_RX5 : Cond.instantiable RX5 14 ∈ gt := lt_in 20 (by decide +kernel) rfl
theorem mn_RX6_19 : Cond.methodLinkNest RX6 19 yX5_init "LaterJury" ∈ lw_tbl := lu_in 21 (by decide +kernel)
theorem im_yX5_init : Cond.instanceMethod yX5_init ∈ gt := lt_in 22 (by decide +kernel) rfl
theorem cd_yX5_init : Cond.code yX5_init cX5_init 1 none ∈ gt := lt_c1 (List.mem_of_getElem? (i := 23) rfl) rfl
theorem ml_RX5_3 : Cond.methodLink RX5 3 objectInit ∈ gt := lt_in 24 (by decide +kernel) rfl
theorem fl_RX5_9 : Cond.fieldLink RX5 9 RX5 (TX5 0).2.1 (TX5 0).2.2.1 ∈ gt := lt_in 25 (by decide +kernel) rfl
theorem fl_RX3_74 : Cond.fieldLink RX3 74 RX5 (TX5 0).2.1 (TX5 0).2.2.1 ∈ gt := lt_in 26 (by decide +kernel) rfl
theorem fl_RX1_75 : Cond.fieldLink RX1 75 RX5 (TX5 0).2.1 (TX5 0).2.2.1 ∈ gt := lt_in 27 (by decide +kernel) rfl
theorem fl_RX4_94 : Cond.fieldLink RX4 94 RX5 (TX5 0).2.1 (TX5 0).2.2.1 ∈ gt := lt_in 28 (by decide +kernel) rfl
theorem fl_RX6_254 : Cond.fieldLink RX6 254 RX5 (TX5 0).2.1 (TX5 0).2.2.1 ∈ gt := lt_in 29 (by decide +kernel) rfl
theorem fl_RX5_15 : Cond.fieldLink RX5 15 RX5 (TX5 1).2.1 (TX5 1).2.2.1 ∈ gt := lt_in 30 (by decide +kernel) rfl
theorem fl_RX3_49 : Cond.fieldLink RX3 49 RX5 (TX5 1).2.1 (TX5 1).2.2.1 ∈ gt := lt_in 31 (by decide +kernel) rfl
theorem fl_RX4_81 : Cond.fieldLink RX4 81 RX5 (TX5 1).2.1 (TX5 1).2.2.1 ∈ gt := lt_in 32 (by decide +kernel) rfl
theorem fl_RX1_67 : Cond.fieldLink RX1 67 RX5 (TX5 1).2.1 (TX5 1).2.2.1 ∈ gt := lt_in 33 (by decide +kernel) rfl
theorem fl_RX6_211 : Cond.fieldLink RX6 211 RX5 (TX5 1).2.1 (TX5 1).2.2.1 ∈ gt := lt_in 34 (by decide +kernel) rfl
theorem fl_RX5_18 : Cond.fieldLink RX5 18 RX5 (TX5 2).2.1 (TX5 2).2.2.1 ∈ gt := lt_in 35 (by decide +kernel) rfl
theorem fl_RX4_97 : Cond.fieldLink RX4 97 RX5 (TX5 2).2.1 (TX5 2).2.2.1 ∈ gt := lt_in 36 (by decide +kernel) rfl
theorem fl_RX5_21 : Cond.fieldLink RX5 21 RX5 (TX5 3).2.1 (TX5 3).2.2.1 ∈ gt := lt_in 37 (by decide +kernel) rfl
theorem fl_RX4_76 : Cond.fieldLink RX4 76 RX5 (TX5 3).2.1 (TX5 3).2.2.1 ∈ gt := lt_in 38 (by decide +kernel) rfl
theorem fl_RX3_86 : Cond.fieldLink RX3 86 RX5 (TX5 3).2.1 (TX5 3).2.2.1 ∈ gt := lt_in 39 (by decide +kernel) rfl
theorem fl_RX6_257 : Cond.fieldLink RX6 257 RX5 (TX5 3).2.1 (TX5 3).2.2.1 ∈ gt := lt_in 40 (by decide +kernel) rfl
theorem fl_RX5_24 : Cond.fieldLink RX5 24 RX5 (TX5 4).2.1 (TX5 4).2.2.1 ∈ gt := lt_in 41 (by decide +kernel) rfl
theorem fl_RX4_84 : Cond.fieldLink RX4 84 RX5 (TX5 4).2.1 (TX5 4).2.2.1 ∈ gt := lt_in 42 (by decide +kernel) rfl
theorem fl_RX1_82 : Cond.fieldLink RX1 82 RX5 (TX5 4).2.1 (TX5 4).2.2.1 ∈ gt := lt_in 43 (by decide +kernel) rfl
theorem fl_RX6_260 : Cond.fieldLink RX6 260 RX5 (TX5 4).2.1 (TX5 4).2.2.1 ∈ gt := lt_in 44 (by decide +kernel) rfl
theorem fl_RX5_27 : Cond.fieldLink RX5 27 RX5 (TX5 5).2.1 (TX5 5).2.2.1 ∈ gt := lt_in 45 (by decide +kernel) rfl
theorem fl_RX3_48 : Cond.fieldLink RX3 48 RX5 (TX5 5).2.1 (TX5 5).2.2.1 ∈ gt := lt_in 46 (by decide +kernel) rfl
theorem fl_RX4_100 : Cond.fieldLink RX4 100 RX5 (TX5 5).2.1 (TX5 5).2.2.1 ∈ gt := lt_in 47 (by decide +kernel) rfl
theorem fl_RX6_266 : Cond.fieldLink RX6 266 RX5 (TX5 5).2.1 (TX5 5).2.2.1 ∈ gt := lt_in 48 (by decide +kernel) rfl
theorem fl_RX5_30 : Cond.fieldLink RX5 30 RX5 (TX5 6).2.1 (TX5 6).2.2.1 ∈ gt := lt_in 49 (by decide +kernel) rfl
theorem fl_RX6_92 : Cond.fieldLink RX6 92 RX5 (TX5 6).2.1 (TX5 6).2.2.1 ∈ gt := lt_in 50 (by decide +kernel) rfl
theorem fl_RX4_113 : Cond.fieldLink RX4 113 RX5 (TX5 6).2.1 (TX5 6).2.2.1 ∈ gt := lt_in 51 (by decide +kernel) rfl
theorem fl_RX3_122 : Cond.fieldLink RX3 122 RX5 (TX5 6).2.1 (TX5 6).2.2.1 ∈ gt := lt_in 52 (by decide +kernel) rfl
theorem fl_RX5_34 : Cond.fieldLink RX5 34 RX5 (TX5 7).2.1 (TX5 7).2.2.1 ∈ gt := lt_in 53 (by decide +kernel) rfl
theorem fl_RX6_95 : Cond.fieldLink RX6 95 RX5 (TX5 7).2.1 (TX5 7).2.2.1 ∈ gt := lt_in 54 (by decide +kernel) rfl
theorem fl_RX4_116 : Cond.fieldLink RX4 116 RX5 (TX5 7).2.1 (TX5 7).2.2.1 ∈ gt := lt_in 55 (by decide +kernel) rfl
theorem fl_RX3_119 : Cond.fieldLink RX3 119 RX5 (TX5 7).2.1 (TX5 7).2.2.1 ∈ gt := lt_in 56 (by decide +kernel) rfl
theorem fl_RX5_37 : Cond.fieldLink RX5 37 RX5 (TX5 8).2.1 (TX5 8).2.2.1 ∈ gt := lt_in 57 (by decide +kernel) rfl
theorem fl_RX3_71 : Cond.fieldLink RX3 71 RX5 (TX5 8).2.1 (TX5 8).2.2.1 ∈ gt := lt_in 58 (by decide +kernel) rfl
theorem fl_RX6_98 : Cond.fieldLink RX6 98 RX5 (TX5 8).2.1 (TX5 8).2.2.1 ∈ gt := lt_in 59 (by decide +kernel) rfl
theorem fl_RX4_119 : Cond.fieldLink RX4 119 RX5 (TX5 8).2.1 (TX5 8).2.2.1 ∈ gt := lt_in 60 (by decide +kernel) rfl
theorem fl_RX5_40 : Cond.fieldLink RX5 40 RX5 (TX5 9).2.1 (TX5 9).2.2.1 ∈ gt := lt_in 61 (by decide +kernel) rfl
theorem fl_RX6_104 : Cond.fieldLink RX6 104 RX5 (TX5 9).2.1 (TX5 9).2.2.1 ∈ gt := lt_in 62 (by decide +kernel) rfl
theorem fl_RX4_91 : Cond.fieldLink RX4 91 RX5 (TX5 9).2.1 (TX5 9).2.2.1 ∈ gt := lt_in 63 (by decide +kernel) rfl
theorem fl_RX3_110 : Cond.fieldLink RX3 110 RX5 (TX5 9).2.1 (TX5 9).2.2.1 ∈ gt := lt_in 64 (by decide +kernel) rfl
theorem fl_RX5_43 : Cond.fieldLink RX5 43 RX5 (TX5 10).2.1 (TX5 10).2.2.1 ∈ gt := lt_in 65 (by decide +kernel) rfl
theorem fl_RX6_107 : Cond.fieldLink RX6 107 RX5 (TX5 10).2.1 (TX5 10).2.2.1 ∈ gt := lt_in 66 (by decide +kernel) rfl
theorem fl_RX4_122 : Cond.fieldLink RX4 122 RX5 (TX5 10).2.1 (TX5 10).2.2.1 ∈ gt := lt_in 67 (by decide +kernel) rfl
theorem fl_RX3_113 : Cond.fieldLink RX3 113 RX5 (TX5 10).2.1 (TX5 10).2.2.1 ∈ gt := lt_in 68 (by decide +kernel) rfl
theorem fl_RX5_46 : Cond.fieldLink RX5 46 RX5 (TX5 11).2.1 (TX5 11).2.2.1 ∈ gt := lt_in 69 (by decide +kernel) rfl
theorem fl_RX6_110 : Cond.fieldLink RX6 110 RX5 (TX5 11).2.1 (TX5 11).2.2.1 ∈ gt := lt_in 70 (by decide +kernel) rfl
theorem fl_RX4_125 : Cond.fieldLink RX4 125 RX5 (TX5 11).2.1 (TX5 11).2.2.1 ∈ gt := lt_in 71 (by decide +kernel) rfl
theorem fl_RX3_116 : Cond.fieldLink RX3 116 RX5 (TX5 11).2.1 (TX5 11).2.2.1 ∈ gt := lt_in 72 (by decide +kernel) rfl
theorem fl_RX5_49 : Cond.fieldLink RX5 49 RX5 (TX5 12).2.1 (TX5 12).2.2.1 ∈ gt := lt_in 73 (by decide +kernel) rfl
theorem fl_RX3_77 : Cond.fieldLink RX3 77 RX5 (TX5 12).2.1 (TX5 12).2.2.1 ∈ gt := lt_in 74 (by decide +kernel) rfl
theorem fl_RX1_59 : Cond.fieldLink RX1 59 RX5 (TX5 12).2.1 (TX5 12).2.2.1 ∈ gt := lt_in 75 (by decide +kernel) rfl
theorem fl_RX6_116 : Cond.fieldLink RX6 116 RX5 (TX5 12).2.1 (TX5 12).2.2.1 ∈ gt := lt_in 76 (by decide +kernel) rfl
theorem fl_RX4_128 : Cond.fieldLink RX4 128 RX5 (TX5 12).2.1 (TX5 12).2.2.1 ∈ gt := lt_in 77 (by decide +kernel) rfl
theorem fl_RX5_52 : Cond.fieldLink RX5 52 RX5 (TX5 13).2.1 (TX5 13).2.2.1 ∈ gt := lt_in 78 (by decide +kernel) rfl
theorem fl_RX3_80 : Cond.fieldLink RX3 80 RX5 (TX5 13).2.1 (TX5 13).2.2.1 ∈ gt := lt_in 79 (by decide +kernel) rfl
theorem fl_RX1_64 : Cond.fieldLink RX1 64 RX5 (TX5 13).2.1 (TX5 13).2.2.1 ∈ gt := lt_in 80 (by decide +kernel) rfl
theorem fl_RX6_119 : Cond.fieldLink RX6 119 RX5 (TX5 13).2.1 (TX5 13).2.2.1 ∈ gt := lt_in 81 (by decide +kernel) rfl
theorem fl_RX4_131 : Cond.fieldLink RX4 131 RX5 (TX5 13).2.1 (TX5 13).2.2.1 ∈ gt := lt_in 82 (by decide +kernel) rfl
theorem ac_int : Cond.arrayClass .int ∈ gt := lt_in 112 (by decide +kernel) rfl
theorem cc_RX6_27 : Cond.classLink RX6 27 RX4 ∈ gt := lt_in 113 (by decide +kernel) rfl
theorem ia_RX4 : Cond.instantiable RX4 10 ∈ gt := lt_in 114 (by decide +kernel) rfl
theorem mn_RX6_29 : Cond.methodLinkNest RX6 29 yX4_init "LaterJury" ∈ lw_tbl := lu_in 115 (by decide +kernel)
theorem im_yX4_init : Cond.instanceMethod yX4_init ∈ gt := lt_in 116 (by decide +kernel) rfl
theorem cd_yX4_init : Cond.code yX4_init cX4_init 1 none ∈ gt := lt_c1 (List.mem_of_getElem? (i := 117) rfl) rfl
theorem ml_RX4_3 : Cond.methodLink RX4 3 objectInit ∈ gt := lt_in 118 (by decide +kernel) rfl
theorem fl_RX4_9 : Cond.fieldLink RX4 9 RX4 (TX4 0).2.1 (TX4 0).2.2.1 ∈ gt := lt_in 119 (by decide +kernel) rfl
theorem fl_RX4_15 : Cond.fieldLink RX4 15 RX4 (TX4 1).2.1 (TX4 1).2.2.1 ∈ gt := lt_in 120 (by decide +kernel) rfl
theorem fl_RX4_19 : Cond.fieldLink RX4 19 RX4 (TX4 2).2.1 (TX4 2).2.2.1 ∈ gt := lt_in 121 (by decide +kernel) rfl
theorem fl_RX4_22 : Cond.fieldLink RX4 22 RX4 (TX4 3).2.1 (TX4 3).2.2.1 ∈ gt := lt_in 122 (by decide +kernel) rfl
theorem fl_RX4_25 : Cond.fieldLink RX4 25 RX4 (TX4 4).2.1 (TX4 4).2.2.1 ∈ gt := lt_in 123 (by decide +kernel) rfl
theorem fl_RX4_28 : Cond.fieldLink RX4 28 RX4 (TX4 5).2.1 (TX4 5).2.2.1 ∈ gt := lt_in 124 (by decide +kernel) rfl
theorem fl_RX4_31 : Cond.fieldLink RX4 31 RX4 (TX4 6).2.1 (TX4 6).2.2.1 ∈ gt := lt_in 125 (by decide +kernel) rfl
theorem fl_RX4_35 : Cond.fieldLink RX4 35 RX4 (TX4 7).2.1 (TX4 7).2.2.1 ∈ gt := lt_in 126 (by decide +kernel) rfl
theorem fl_RX4_38 : Cond.fieldLink RX4 38 RX4 (TX4 8).2.1 (TX4 8).2.2.1 ∈ gt := lt_in 127 (by decide +kernel) rfl
theorem fl_RX4_41 : Cond.fieldLink RX4 41 RX4 (TX4 9).2.1 (TX4 9).2.2.1 ∈ gt := lt_in 128 (by decide +kernel) rfl
theorem cc_RX6_34 : Cond.classLink RX6 34 RX3 ∈ gt := lt_in 150 (by decide +kernel) rfl
theorem ia_RX3 : Cond.instantiable RX3 9 ∈ gt := lt_in 151 (by decide +kernel) rfl
theorem mn_RX6_36 : Cond.methodLinkNest RX6 36 yX3_init "LaterJury" ∈ lw_tbl := lu_in 152 (by decide +kernel)
theorem im_yX3_init : Cond.instanceMethod yX3_init ∈ gt := lt_in 153 (by decide +kernel) rfl
theorem cd_yX3_init : Cond.code yX3_init cX3_init 1 none ∈ gt := lt_c1 (List.mem_of_getElem? (i := 154) rfl) rfl
theorem ml_RX3_3 : Cond.methodLink RX3 3 objectInit ∈ gt := lt_in 155 (by decide +kernel) rfl
theorem cc_RX3_9 : Cond.classLink RX3 9 RX5 ∈ gt := lt_in 156 (by decide +kernel) rfl
theorem mn_RX3_11 : Cond.methodLinkNest RX3 11 yX5_init "LaterJury" ∈ lw_tbl := lu_in 157 (by decide +kernel)
theorem fl_RX3_12 : Cond.fieldLink RX3 12 RX3 (TX3 0).2.1 (TX3 0).2.2.1 ∈ gt := lt_in 158 (by decide +kernel) rfl
theorem fl_RX1_71 : Cond.fieldLink RX1 71 RX3 (TX3 0).2.1 (TX3 0).2.2.1 ∈ gt := lt_in 159 (by decide +kernel) rfl
theorem fl_RX3_18 : Cond.fieldLink RX3 18 RX3 (TX3 1).2.1 (TX3 1).2.2.1 ∈ gt := lt_in 160 (by decide +kernel) rfl
theorem fl_RX6_222 : Cond.fieldLink RX6 222 RX3 (TX3 1).2.1 (TX3 1).2.2.1 ∈ gt := lt_in 161 (by decide +kernel) rfl
theorem fl_RX3_22 : Cond.fieldLink RX3 22 RX3 (TX3 2).2.1 (TX3 2).2.2.1 ∈ gt := lt_in 162 (by decide +kernel) rfl
theorem fl_RX6_229 : Cond.fieldLink RX6 229 RX3 (TX3 2).2.1 (TX3 2).2.2.1 ∈ gt := lt_in 163 (by decide +kernel) rfl
theorem fl_RX3_25 : Cond.fieldLink RX3 25 RX3 (TX3 3).2.1 (TX3 3).2.2.1 ∈ gt := lt_in 164 (by decide +kernel) rfl
theorem fl_RX3_29 : Cond.fieldLink RX3 29 RX3 (TX3 4).2.1 (TX3 4).2.2.1 ∈ gt := lt_in 165 (by decide +kernel) rfl
theorem fl_RX3_32 : Cond.fieldLink RX3 32 RX3 (TX3 5).2.1 (TX3 5).2.2.1 ∈ gt := lt_in 166 (by decide +kernel) rfl
theorem fl_RX6_171 : Cond.fieldLink RX6 171 RX3 (TX3 5).2.1 (TX3 5).2.2.1 ∈ gt := lt_in 167 (by decide +kernel) rfl
theorem fl_RX3_35 : Cond.fieldLink RX3 35 RX3 (TX3 6).2.1 (TX3 6).2.2.1 ∈ gt := lt_in 168 (by decide +kernel) rfl
theorem fl_RX6_168 : Cond.fieldLink RX6 168 RX3 (TX3 6).2.1 (TX3 6).2.2.1 ∈ gt := lt_in 169 (by decide +kernel) rfl
theorem fl_RX3_38 : Cond.fieldLink RX3 38 RX3 (TX3 7).2.1 (TX3 7).2.2.1 ∈ gt := lt_in 170 (by decide +kernel) rfl
theorem fl_RX3_41 : Cond.fieldLink RX3 41 RX3 (TX3 8).2.1 (TX3 8).2.2.1 ∈ gt := lt_in 171 (by decide +kernel) rfl
theorem cc_RX6_41 : Cond.classLink RX6 41 RX1 ∈ gt := lt_in 191 (by decide +kernel) rfl
theorem ia_RX1 : Cond.instantiable RX1 8 ∈ gt := lt_in 192 (by decide +kernel) rfl
theorem mn_RX6_43 : Cond.methodLinkNest RX6 43 yX1_init "LaterJury" ∈ lw_tbl := lu_in 193 (by decide +kernel)
theorem im_yX1_init : Cond.instanceMethod yX1_init ∈ gt := lt_in 194 (by decide +kernel) rfl
theorem cd_yX1_init : Cond.code yX1_init cX1_init 1 none ∈ gt := lt_c1 (List.mem_of_getElem? (i := 195) rfl) rfl
theorem ml_RX1_3 : Cond.methodLink RX1 3 objectInit ∈ gt := lt_in 196 (by decide +kernel) rfl
theorem fl_RX1_9 : Cond.fieldLink RX1 9 RX1 (TX1 0).2.1 (TX1 0).2.2.1 ∈ gt := lt_in 197 (by decide +kernel) rfl
theorem fl_RX6_187 : Cond.fieldLink RX6 187 RX1 (TX1 0).2.1 (TX1 0).2.2.1 ∈ gt := lt_in 198 (by decide +kernel) rfl
theorem fl_RX1_15 : Cond.fieldLink RX1 15 RX1 (TX1 1).2.1 (TX1 1).2.2.1 ∈ gt := lt_in 199 (by decide +kernel) rfl
theorem fl_RX6_193 : Cond.fieldLink RX6 193 RX1 (TX1 1).2.1 (TX1 1).2.2.1 ∈ gt := lt_in 200 (by decide +kernel) rfl
theorem fl_RX1_19 : Cond.fieldLink RX1 19 RX1 (TX1 2).2.1 (TX1 2).2.2.1 ∈ gt := lt_in 201 (by decide +kernel) rfl
theorem fl_RX6_195 : Cond.fieldLink RX6 195 RX1 (TX1 2).2.1 (TX1 2).2.2.1 ∈ gt := lt_in 202 (by decide +kernel) rfl
theorem fl_RX1_22 : Cond.fieldLink RX1 22 RX1 (TX1 3).2.1 (TX1 3).2.2.1 ∈ gt := lt_in 203 (by decide +kernel) rfl
theorem fl_RX6_198 : Cond.fieldLink RX6 198 RX1 (TX1 3).2.1 (TX1 3).2.2.1 ∈ gt := lt_in 204 (by decide +kernel) rfl
theorem fl_RX1_25 : Cond.fieldLink RX1 25 RX1 (TX1 4).2.1 (TX1 4).2.2.1 ∈ gt := lt_in 205 (by decide +kernel) rfl
theorem fl_RX1_28 : Cond.fieldLink RX1 28 RX1 (TX1 5).2.1 (TX1 5).2.2.1 ∈ gt := lt_in 206 (by decide +kernel) rfl
theorem fl_RX1_31 : Cond.fieldLink RX1 31 RX1 (TX1 6).2.1 (TX1 6).2.2.1 ∈ gt := lt_in 207 (by decide +kernel) rfl
theorem fl_RX1_34 : Cond.fieldLink RX1 34 RX1 (TX1 7).2.1 (TX1 7).2.2.1 ∈ gt := lt_in 208 (by decide +kernel) rfl
theorem ac_boolean : Cond.arrayClass .boolean ∈ gt := lt_in 226 (by decide +kernel) rfl
theorem cc_RX6_48 : Cond.classLink RX6 48 RX2 ∈ gt := lt_in 227 (by decide +kernel) rfl
theorem ia_RX2 : Cond.instantiable RX2 3 ∈ gt := lt_in 228 (by decide +kernel) rfl
theorem ml_RX6_50 : Cond.methodLink RX6 50 yX2_init ∈ gt := lt_in 229 (by decide +kernel) rfl
theorem im_yX2_init : Cond.instanceMethod yX2_init ∈ gt := lt_in 230 (by decide +kernel) rfl
theorem cd_yX2_init : Cond.code yX2_init cX2_init 2 none ∈ gt := lt_c1 (List.mem_of_getElem? (i := 231) rfl) rfl
theorem ml_RX2_3 : Cond.methodLink RX2 3 objectInit ∈ gt := lt_in 232 (by decide +kernel) rfl
theorem cc_RX2_9 : Cond.classLink RX2 9 RX0 ∈ gt := lt_in 233 (by decide +kernel) rfl
theorem ia_RX0 : Cond.instantiable RX0 3 ∈ gt := lt_in 234 (by decide +kernel) rfl
theorem mn_RX2_11 : Cond.methodLinkNest RX2 11 yX0_init "LaterJury" ∈ lw_tbl := lu_in 235 (by decide +kernel)
theorem im_yX0_init : Cond.instanceMethod yX0_init ∈ gt := lt_in 236 (by decide +kernel) rfl
theorem cd_yX0_init : Cond.code yX0_init cX0_init 1 none ∈ gt := lt_c1 (List.mem_of_getElem? (i := 237) rfl) rfl
theorem ml_RX0_3 : Cond.methodLink RX0 3 objectInit ∈ gt := lt_in 238 (by decide +kernel) rfl
theorem fl_RX0_9 : Cond.fieldLink RX0 9 RX0 (TX0 0).2.1 (TX0 0).2.2.1 ∈ gt := lt_in 239 (by decide +kernel) rfl
theorem fl_RX2_26 : Cond.fieldLink RX2 26 RX0 (TX0 0).2.1 (TX0 0).2.2.1 ∈ gt := lt_in 240 (by decide +kernel) rfl
theorem fl_RX3_56 : Cond.fieldLink RX3 56 RX0 (TX0 0).2.1 (TX0 0).2.2.1 ∈ gt := lt_in 241 (by decide +kernel) rfl
theorem fl_RX6_129 : Cond.fieldLink RX6 129 RX0 (TX0 0).2.1 (TX0 0).2.2.1 ∈ gt := lt_in 242 (by decide +kernel) rfl
theorem fl_RX0_15 : Cond.fieldLink RX0 15 RX0 (TX0 1).2.1 (TX0 1).2.2.1 ∈ gt := lt_in 243 (by decide +kernel) rfl
theorem fl_RX3_61 : Cond.fieldLink RX3 61 RX0 (TX0 1).2.1 (TX0 1).2.2.1 ∈ gt := lt_in 244 (by decide +kernel) rfl
theorem fl_RX6_145 : Cond.fieldLink RX6 145 RX0 (TX0 1).2.1 (TX0 1).2.2.1 ∈ gt := lt_in 245 (by decide +kernel) rfl
theorem fl_RX0_19 : Cond.fieldLink RX0 19 RX0 (TX0 2).2.1 (TX0 2).2.2.1 ∈ gt := lt_in 246 (by decide +kernel) rfl
theorem fl_RX3_64 : Cond.fieldLink RX3 64 RX0 (TX0 2).2.1 (TX0 2).2.2.1 ∈ gt := lt_in 247 (by decide +kernel) rfl
theorem fl_RX6_148 : Cond.fieldLink RX6 148 RX0 (TX0 2).2.1 (TX0 2).2.2.1 ∈ gt := lt_in 248 (by decide +kernel) rfl
theorem ao_RX0 : Cond.arrayOver (.object RX0) ∈ lw_tbl := lu_in 256 (by decide +kernel)
theorem fl_RX2_12 : Cond.fieldLink RX2 12 RX2 (TX2 0).2.1 (TX2 0).2.2.1 ∈ gt := lt_in 257 (by decide +kernel) rfl
theorem fl_RX6_125 : Cond.fieldLink RX6 125 RX2 (TX2 0).2.1 (TX2 0).2.2.1 ∈ gt := lt_in 258 (by decide +kernel) rfl
theorem fl_RX2_18 : Cond.fieldLink RX2 18 RX2 (TX2 1).2.1 (TX2 1).2.2.1 ∈ gt := lt_in 259 (by decide +kernel) rfl
theorem fl_RX2_22 : Cond.fieldLink RX2 22 RX2 (TX2 2).2.1 (TX2 2).2.2.1 ∈ gt := lt_in 260 (by decide +kernel) rfl
theorem fl_RX6_151 : Cond.fieldLink RX6 151 RX2 (TX2 2).2.1 (TX2 2).2.2.1 ∈ gt := lt_in 261 (by decide +kernel) rfl
theorem ao_RX2 : Cond.arrayOver (.object RX2) ∈ lw_tbl := lu_in 269 (by decide +kernel)
theorem fl_RX6_9 : Cond.fieldLink RX6 9 RX6 (TX6 0).2.1 (TX6 0).2.2.1 ∈ gt := lt_in 270 (by decide +kernel) rfl
theorem fl_RX6_13 : Cond.fieldLink RX6 13 RX6 (TX6 1).2.1 (TX6 1).2.2.1 ∈ gt := lt_in 271 (by decide +kernel) rfl
theorem fl_RX6_20 : Cond.fieldLink RX6 20 RX6 (TX6 2).2.1 (TX6 2).2.2.1 ∈ gt := lt_in 272 (by decide +kernel) rfl
theorem fl_RX6_24 : Cond.fieldLink RX6 24 RX6 (TX6 3).2.1 (TX6 3).2.2.1 ∈ gt := lt_in 273 (by decide +kernel) rfl
theorem fl_RX6_30 : Cond.fieldLink RX6 30 RX6 (TX6 4).2.1 (TX6 4).2.2.1 ∈ gt := lt_in 274 (by decide +kernel) rfl
theorem fl_RX6_37 : Cond.fieldLink RX6 37 RX6 (TX6 5).2.1 (TX6 5).2.2.1 ∈ gt := lt_in 275 (by decide +kernel) rfl
theorem fl_RX6_44 : Cond.fieldLink RX6 44 RX6 (TX6 6).2.1 (TX6 6).2.2.1 ∈ gt := lt_in 276 (by decide +kernel) rfl
theorem fl_RX6_51 : Cond.fieldLink RX6 51 RX6 (TX6 7).2.1 (TX6 7).2.2.1 ∈ gt := lt_in 277 (by decide +kernel) rfl
theorem fl_RX6_55 : Cond.fieldLink RX6 55 RX6 (TX6 8).2.1 (TX6 8).2.2.1 ∈ gt := lt_in 278 (by decide +kernel) rfl
theorem fl_RX6_59 : Cond.fieldLink RX6 59 RX6 (TX6 9).2.1 (TX6 9).2.2.1 ∈ gt := lt_in 279 (by decide +kernel) rfl
theorem fl_RX6_63 : Cond.fieldLink RX6 63 RX6 (TX6 10).2.1 (TX6 10).2.2.1 ∈ gt := lt_in 280 (by decide +kernel) rfl
theorem fl_RX6_66 : Cond.fieldLink RX6 66 RX6 (TX6 11).2.1 (TX6 11).2.2.1 ∈ gt := lt_in 281 (by decide +kernel) rfl
theorem fl_RX6_69 : Cond.fieldLink RX6 69 RX6 (TX6 12).2.1 (TX6 12).2.2.1 ∈ gt := lt_in 282 (by decide +kernel) rfl
theorem fl_RX6_72 : Cond.fieldLink RX6 72 RX6 (TX6 13).2.1 (TX6 13).2.2.1 ∈ gt := lt_in 283 (by decide +kernel) rfl
theorem ml_RL_13 : Cond.methodLink RL 13 yX6_type ∈ gt := lt_in 313 (by decide +kernel) rfl
theorem im_yX6_type : Cond.instanceMethod yX6_type ∈ gt := lt_in 314 (by decide +kernel) rfl
theorem se_yX6_type : Cond.selects RX6 yX6_type yX6_type ∈ gt := lt_in 315 (by decide +kernel) rfl
theorem cd_yX6_type : Cond.code yX6_type cX6_type 2 (some .int) ∈ gt := lt_c2 (List.mem_of_getElem? (i := 76) rfl) rfl
theorem ml_RL_18 : Cond.methodLink RL 18 yX6_clear ∈ gt := lt_in 317 (by decide +kernel) rfl
theorem im_yX6_clear : Cond.instanceMethod yX6_clear ∈ gt := lt_in 318 (by decide +kernel) rfl
theorem se_yX6_clear : Cond.selects RX6 yX6_clear yX6_clear ∈ gt := lt_in 319 (by decide +kernel) rfl
theorem cd_yX6_clear : Cond.code yX6_clear cX6_clear 2 (some .int) ∈ gt := lt_c2 (List.mem_of_getElem? (i := 80) rfl) rfl
theorem ml_RL_23 : Cond.methodLink RL 23 yX6_court ∈ gt := lt_in 321 (by decide +kernel) rfl
theorem im_yX6_court : Cond.instanceMethod yX6_court ∈ gt := lt_in 322 (by decide +kernel) rfl
theorem se_yX6_court : Cond.selects RX6 yX6_court yX6_court ∈ gt := lt_in 323 (by decide +kernel) rfl
theorem cd_yX6_court : Cond.code yX6_court cX6_court 4 (some .int) ∈ gt := lt_c2 (List.mem_of_getElem? (i := 84) rfl) rfl
theorem ml_RX6_76 : Cond.methodLink RX6 76 yX5_reset ∈ gt := lt_in 325 (by decide +kernel) rfl
theorem im_yX5_reset : Cond.instanceMethod yX5_reset ∈ gt := lt_in 326 (by decide +kernel) rfl
theorem se_yX5_reset : Cond.selects RX5 yX5_reset yX5_reset ∈ gt := lt_in 327 (by decide +kernel) rfl
theorem cd_yX5_reset : Cond.code yX5_reset cX5_reset 1 none ∈ gt := lt_c2 (List.mem_of_getElem? (i := 88) rfl) rfl
theorem ml_RX6_79 : Cond.methodLink RX6 79 yX4_readAll ∈ gt := lt_in 329 (by decide +kernel) rfl
theorem im_yX4_readAll : Cond.instanceMethod yX4_readAll ∈ gt := lt_in 330 (by decide +kernel) rfl
theorem se_yX4_readAll : Cond.selects RX4 yX4_readAll yX4_readAll ∈ gt := lt_in 331 (by decide +kernel) rfl
theorem cd_yX4_readAll : Cond.code yX4_readAll cX4_readAll 5 (some .int) ∈ gt := lt_c2 (List.mem_of_getElem? (i := 92) rfl) rfl
theorem ml_RX4_44 : Cond.methodLink RX4 44 yJ9_min_7cf53 ∈ gt := lt_in 333 (by decide +kernel) rfl
theorem sm_yJ9_min_7cf53 : Cond.static yJ9_min_7cf53 ∈ gt := lt_in 334 (by decide +kernel) rfl
theorem cd_yJ9_min_7cf53 : Cond.code yJ9_min_7cf53 cJ9_min_7cf53 2 (some .int) ∈ gt := lt_c2 (List.mem_of_getElem? (i := 95) rfl) rfl
theorem ml_RX4_50 : Cond.methodLink RX4 50 yX4_nextToken ∈ gt := lt_in 336 (by decide +kernel) rfl
theorem im_yX4_nextToken : Cond.instanceMethod yX4_nextToken ∈ gt := lt_in 337 (by decide +kernel) rfl
theorem se_yX4_nextToken : Cond.selects RX4 yX4_nextToken yX4_nextToken ∈ gt := lt_in 338 (by decide +kernel) rfl
theorem cd_yX4_nextToken : Cond.code yX4_nextToken cX4_nextToken 1 none ∈ gt := lt_c2 (List.mem_of_getElem? (i := 99) rfl) rfl
theorem ml_RX4_134 : Cond.methodLink RX4 134 yX4_isLetter ∈ gt := lt_in 340 (by decide +kernel) rfl
theorem sm_yX4_isLetter : Cond.static yX4_isLetter ∈ gt := lt_in 341 (by decide +kernel) rfl
theorem cd_yX4_isLetter : Cond.code yX4_isLetter cX4_isLetter 1 (some .boolean) ∈ gt := lt_c2 (List.mem_of_getElem? (i := 102) rfl) rfl
theorem ml_RX4_138 : Cond.methodLink RX4 138 yX4_readLetters ∈ gt := lt_in 343 (by decide +kernel) rfl
theorem im_yX4_readLetters : Cond.instanceMethod yX4_readLetters ∈ gt := lt_in 344 (by decide +kernel) rfl
theorem se_yX4_readLetters : Cond.selects RX4 yX4_readLetters yX4_readLetters ∈ gt := lt_in 345 (by decide +kernel) rfl
theorem cd_yX4_readLetters : Cond.code yX4_readLetters cX4_readLetters 1 none ∈ gt := lt_c2 (List.mem_of_getElem? (i := 106) rfl) rfl
theorem ml_RX4_141 : Cond.methodLink RX4 141 yX4_isDigit ∈ gt := lt_in 347 (by decide +kernel) rfl
theorem sm_yX4_isDigit : Cond.static yX4_isDigit ∈ gt := lt_in 348 (by decide +kernel) rfl
theorem cd_yX4_isDigit : Cond.code yX4_isDigit cX4_isDigit 1 (some .boolean) ∈ gt := lt_c2 (List.mem_of_getElem? (i := 109) rfl) rfl
theorem ml_RX4_144 : Cond.methodLink RX4 144 yX4_readNumber ∈ gt := lt_in 350 (by decide +kernel) rfl
theorem im_yX4_readNumber : Cond.instanceMethod yX4_readNumber ∈ gt := lt_in 351 (by decide +kernel) rfl
theorem se_yX4_readNumber : Cond.selects RX4 yX4_readNumber yX4_readNumber ∈ gt := lt_in 352 (by decide +kernel) rfl
theorem cd_yX4_readNumber : Cond.code yX4_readNumber cX4_readNumber 2 none ∈ gt := lt_c2 (List.mem_of_getElem? (i := 113) rfl) rfl
theorem ml_RX4_53 : Cond.methodLink RX4 53 yX4_readItem ∈ gt := lt_in 354 (by decide +kernel) rfl
theorem im_yX4_readItem : Cond.instanceMethod yX4_readItem ∈ gt := lt_in 355 (by decide +kernel) rfl
theorem se_yX4_readItem : Cond.selects RX4 yX4_readItem yX4_readItem ∈ gt := lt_in 356 (by decide +kernel) rfl
theorem cd_yX4_readItem : Cond.code yX4_readItem cX4_readItem 5 (some .boolean) ∈ gt := lt_c2 (List.mem_of_getElem? (i := 117) rfl) rfl
theorem ml_RX4_57 : Cond.methodLink RX4 57 yX4_mayBegin ∈ gt := lt_in 358 (by decide +kernel) rfl
theorem im_yX4_mayBegin : Cond.instanceMethod yX4_mayBegin ∈ gt := lt_in 359 (by decide +kernel) rfl
theorem se_yX4_mayBegin : Cond.selects RX4 yX4_mayBegin yX4_mayBegin ∈ gt := lt_in 360 (by decide +kernel) rfl
theorem cd_yX4_mayBegin : Cond.code yX4_mayBegin cX4_mayBegin 3 (some .boolean) ∈ gt := lt_c2 (List.mem_of_getElem? (i := 121) rfl) rfl
theorem ml_RX4_61 : Cond.methodLink RX4 61 yX4_numbersOf ∈ gt := lt_in 362 (by decide +kernel) rfl
theorem sm_yX4_numbersOf : Cond.static yX4_numbersOf ∈ gt := lt_in 363 (by decide +kernel) rfl
theorem cd_yX4_numbersOf : Cond.code yX4_numbersOf cX4_numbersOf 1 (some .int) ∈ gt := lt_c2 (List.mem_of_getElem? (i := 124) rfl) rfl
theorem ml_RX4_65 : Cond.methodLink RX4 65 yX4_least ∈ gt := lt_in 365 (by decide +kernel) rfl
theorem im_yX4_least : Cond.instanceMethod yX4_least ∈ gt := lt_in 366 (by decide +kernel) rfl
theorem se_yX4_least : Cond.selects RX4 yX4_least yX4_least ∈ gt := lt_in 367 (by decide +kernel) rfl
theorem cd_yX4_least : Cond.code yX4_least cX4_least 4 (some .int) ∈ gt := lt_c2 (List.mem_of_getElem? (i := 128) rfl) rfl
theorem ml_RX4_87 : Cond.methodLink RX4 87 yX4_leastOfTrial ∈ gt := lt_in 369 (by decide +kernel) rfl
theorem im_yX4_leastOfTrial : Cond.instanceMethod yX4_leastOfTrial ∈ gt := lt_in 370 (by decide +kernel) rfl
theorem se_yX4_leastOfTrial : Cond.selects RX4 yX4_leastOfTrial yX4_leastOfTrial ∈ gt := lt_in 371 (by decide +kernel) rfl
theorem cd_yX4_leastOfTrial : Cond.code yX4_leastOfTrial cX4_leastOfTrial 3 (some .int) ∈ gt := lt_c2 (List.mem_of_getElem? (i := 132) rfl) rfl
theorem ml_RX4_69 : Cond.methodLink RX4 69 yX4_most ∈ gt := lt_in 373 (by decide +kernel) rfl
theorem sm_yX4_most : Cond.static yX4_most ∈ gt := lt_in 374 (by decide +kernel) rfl
theorem cd_yX4_most : Cond.code yX4_most cX4_most 3 (some .int) ∈ gt := lt_c2 (List.mem_of_getElem? (i := 135) rfl) rfl
theorem ml_RX4_72 : Cond.methodLink RX4 72 yX4_take ∈ gt := lt_in 376 (by decide +kernel) rfl
theorem im_yX4_take : Cond.instanceMethod yX4_take ∈ gt := lt_in 377 (by decide +kernel) rfl
theorem se_yX4_take : Cond.selects RX4 yX4_take yX4_take ∈ gt := lt_in 378 (by decide +kernel) rfl
theorem cd_yX4_take : Cond.code yX4_take cX4_take 3 none ∈ gt := lt_c2 (List.mem_of_getElem? (i := 139) rfl) rfl
theorem ml_RX4_103 : Cond.methodLink RX4 103 yX4_takeState ∈ gt := lt_in 380 (by decide +kernel) rfl
theorem im_yX4_takeState : Cond.instanceMethod yX4_takeState ∈ gt := lt_in 381 (by decide +kernel) rfl
theorem se_yX4_takeState : Cond.selects RX4 yX4_takeState yX4_takeState ∈ gt := lt_in 382 (by decide +kernel) rfl
theorem cd_yX4_takeState : Cond.code yX4_takeState cX4_takeState 4 none ∈ gt := lt_c2 (List.mem_of_getElem? (i := 143) rfl) rfl
theorem ml_RX4_107 : Cond.methodLink RX4 107 yX4_takeTrial ∈ gt := lt_in 384 (by decide +kernel) rfl
theorem im_yX4_takeTrial : Cond.instanceMethod yX4_takeTrial ∈ gt := lt_in 385 (by decide +kernel) rfl
theorem se_yX4_takeTrial : Cond.selects RX4 yX4_takeTrial yX4_takeTrial ∈ gt := lt_in 386 (by decide +kernel) rfl
theorem cd_yX4_takeTrial : Cond.code yX4_takeTrial cX4_takeTrial 3 none ∈ gt := lt_c2 (List.mem_of_getElem? (i := 147) rfl) rfl
theorem ml_RX4_110 : Cond.methodLink RX4 110 yX4_takeDeed ∈ gt := lt_in 388 (by decide +kernel) rfl
theorem im_yX4_takeDeed : Cond.instanceMethod yX4_takeDeed ∈ gt := lt_in 389 (by decide +kernel) rfl
theorem se_yX4_takeDeed : Cond.selects RX4 yX4_takeDeed yX4_takeDeed ∈ gt := lt_in 390 (by decide +kernel) rfl
theorem cd_yX4_takeDeed : Cond.code yX4_takeDeed cX4_takeDeed 3 none ∈ gt := lt_c2 (List.mem_of_getElem? (i := 151) rfl) rfl
theorem ml_RX6_83 : Cond.methodLink RX6 83 yX2_reset ∈ gt := lt_in 392 (by decide +kernel) rfl
theorem im_yX2_reset : Cond.instanceMethod yX2_reset ∈ gt := lt_in 393 (by decide +kernel) rfl
theorem se_yX2_reset : Cond.selects RX2 yX2_reset yX2_reset ∈ gt := lt_in 394 (by decide +kernel) rfl
theorem cd_yX2_reset : Cond.code yX2_reset cX2_reset 1 none ∈ gt := lt_c2 (List.mem_of_getElem? (i := 155) rfl) rfl
theorem ml_RX6_84 : Cond.methodLink RX6 84 yX1_forgetAnswers ∈ gt := lt_in 396 (by decide +kernel) rfl
theorem im_yX1_forgetAnswers : Cond.instanceMethod yX1_forgetAnswers ∈ gt := lt_in 397 (by decide +kernel) rfl
theorem se_yX1_forgetAnswers : Cond.selects RX1 yX1_forgetAnswers yX1_forgetAnswers ∈ gt := lt_in 398 (by decide +kernel) rfl
theorem cd_yX1_forgetAnswers : Cond.code yX1_forgetAnswers cX1_forgetAnswers 2 none ∈ gt := lt_c2 (List.mem_of_getElem? (i := 159) rfl) rfl
theorem ml_RL_27 : Cond.methodLink RL 27 yX6_state ∈ gt := lt_in 400 (by decide +kernel) rfl
theorem im_yX6_state : Cond.instanceMethod yX6_state ∈ gt := lt_in 401 (by decide +kernel) rfl
theorem se_yX6_state : Cond.selects RX6 yX6_state yX6_state ∈ gt := lt_in 402 (by decide +kernel) rfl
theorem cd_yX6_state : Cond.code yX6_state cX6_state 3 (some .int) ∈ gt := lt_c2 (List.mem_of_getElem? (i := 163) rfl) rfl
theorem ml_RX6_87 : Cond.methodLink RX6 87 yX6_isState ∈ gt := lt_in 404 (by decide +kernel) rfl
theorem im_yX6_isState : Cond.instanceMethod yX6_isState ∈ gt := lt_in 406 (by decide +kernel) rfl
theorem cd_yX6_isState : Cond.code yX6_isState cX6_isState 2 (some .boolean) ∈ gt := lt_c2 (List.mem_of_getElem? (i := 167) rfl) rfl
theorem ck_RX6_91 : Cond.constant RX6 91 (-1000000) ∈ gt := lt_in 408 (by decide +kernel) rfl
theorem ml_RL_32 : Cond.methodLink RL 32 yX6_trial ∈ gt := lt_in 409 (by decide +kernel) rfl
theorem im_yX6_trial : Cond.instanceMethod yX6_trial ∈ gt := lt_in 410 (by decide +kernel) rfl
theorem se_yX6_trial : Cond.selects RX6 yX6_trial yX6_trial ∈ gt := lt_in 411 (by decide +kernel) rfl
theorem cd_yX6_trial : Cond.code yX6_trial cX6_trial 3 (some .int) ∈ gt := lt_c2 (List.mem_of_getElem? (i := 172) rfl) rfl
theorem ml_RX6_101 : Cond.methodLink RX6 101 yX6_isTrial ∈ gt := lt_in 413 (by decide +kernel) rfl
theorem im_yX6_isTrial : Cond.instanceMethod yX6_isTrial ∈ gt := lt_in 415 (by decide +kernel) rfl
theorem cd_yX6_isTrial : Cond.code yX6_isTrial cX6_isTrial 2 (some .boolean) ∈ gt := lt_c2 (List.mem_of_getElem? (i := 176) rfl) rfl
theorem ml_RL_36 : Cond.methodLink RL 36 yX6_deed ∈ gt := lt_in 417 (by decide +kernel) rfl
theorem im_yX6_deed : Cond.instanceMethod yX6_deed ∈ gt := lt_in 418 (by decide +kernel) rfl
theorem se_yX6_deed : Cond.selects RX6 yX6_deed yX6_deed ∈ gt := lt_in 419 (by decide +kernel) rfl
theorem cd_yX6_deed : Cond.code yX6_deed cX6_deed 3 (some .int) ∈ gt := lt_c2 (List.mem_of_getElem? (i := 180) rfl) rfl
theorem ml_RX6_113 : Cond.methodLink RX6 113 yX6_isDeed ∈ gt := lt_in 421 (by decide +kernel) rfl
theorem im_yX6_isDeed : Cond.instanceMethod yX6_isDeed ∈ gt := lt_in 423 (by decide +kernel) rfl
theorem cd_yX6_isDeed : Cond.code yX6_isDeed cX6_isDeed 2 (some .boolean) ∈ gt := lt_c2 (List.mem_of_getElem? (i := 184) rfl) rfl
theorem ml_RL_40 : Cond.methodLink RL 40 yX6_does ∈ gt := lt_in 425 (by decide +kernel) rfl
theorem im_yX6_does : Cond.instanceMethod yX6_does ∈ gt := lt_in 426 (by decide +kernel) rfl
theorem se_yX6_does : Cond.selects RX6 yX6_does yX6_does ∈ gt := lt_in 427 (by decide +kernel) rfl
theorem cd_yX6_does : Cond.code yX6_does cX6_does 3 (some .int) ∈ gt := lt_c2 (List.mem_of_getElem? (i := 188) rfl) rfl
theorem ml_RX6_122 : Cond.methodLink RX6 122 yX6_isYear ∈ gt := lt_in 429 (by decide +kernel) rfl
theorem im_yX6_isYear : Cond.instanceMethod yX6_isYear ∈ gt := lt_in 431 (by decide +kernel) rfl
theorem cd_yX6_isYear : Cond.code yX6_isYear cX6_isYear 2 (some .boolean) ∈ gt := lt_c2 (List.mem_of_getElem? (i := 192) rfl) rfl
theorem ml_RX6_134 : Cond.methodLink RX6 134 yX2_remember ∈ gt := lt_in 433 (by decide +kernel) rfl
theorem im_yX2_remember : Cond.instanceMethod yX2_remember ∈ gt := lt_in 434 (by decide +kernel) rfl
theorem se_yX2_remember : Cond.selects RX2 yX2_remember yX2_remember ∈ gt := lt_in 435 (by decide +kernel) rfl
theorem cd_yX2_remember : Cond.code yX2_remember cX2_remember 1 none ∈ gt := lt_c2 (List.mem_of_getElem? (i := 196) rfl) rfl
theorem ml_RX2_29 : Cond.methodLink RX2 29 yX2_loseOldest ∈ gt := lt_in 437 (by decide +kernel) rfl
theorem im_yX2_loseOldest : Cond.instanceMethod yX2_loseOldest ∈ gt := lt_in 438 (by decide +kernel) rfl
theorem se_yX2_loseOldest : Cond.selects RX2 yX2_loseOldest yX2_loseOldest ∈ gt := lt_in 439 (by decide +kernel) rfl
theorem cd_yX2_loseOldest : Cond.code yX2_loseOldest cX2_loseOldest 3 none ∈ gt := lt_c2 (List.mem_of_getElem? (i := 200) rfl) rfl
theorem ml_RX2_32 : Cond.methodLink RX2 32 yX0_copyFrom ∈ gt := lt_in 441 (by decide +kernel) rfl
theorem im_yX0_copyFrom : Cond.instanceMethod yX0_copyFrom ∈ gt := lt_in 442 (by decide +kernel) rfl
theorem se_yX0_copyFrom : Cond.selects RX0 yX0_copyFrom yX0_copyFrom ∈ gt := lt_in 443 (by decide +kernel) rfl
theorem cd_yX0_copyFrom : Cond.code yX0_copyFrom cX0_copyFrom 3 none ∈ gt := lt_c2 (List.mem_of_getElem? (i := 204) rfl) rfl
theorem ml_RX6_137 : Cond.methodLink RX6 137 yX0_append ∈ gt := lt_in 445 (by decide +kernel) rfl
theorem im_yX0_append : Cond.instanceMethod yX0_append ∈ gt := lt_in 446 (by decide +kernel) rfl
theorem se_yX0_append : Cond.selects RX0 yX0_append yX0_append ∈ gt := lt_in 447 (by decide +kernel) rfl
theorem cd_yX0_append : Cond.code yX0_append cX0_append 3 none ∈ gt := lt_c2 (List.mem_of_getElem? (i := 208) rfl) rfl
theorem ml_RL_44 : Cond.methodLink RL 44 yX6_takes ∈ gt := lt_in 449 (by decide +kernel) rfl
theorem im_yX6_takes : Cond.instanceMethod yX6_takes ∈ gt := lt_in 450 (by decide +kernel) rfl
theorem se_yX6_takes : Cond.selects RX6 yX6_takes yX6_takes ∈ gt := lt_in 451 (by decide +kernel) rfl
theorem cd_yX6_takes : Cond.code yX6_takes cX6_takes 2 (some .int) ∈ gt := lt_c2 (List.mem_of_getElem? (i := 212) rfl) rfl
theorem ml_RX6_141 : Cond.methodLink RX6 141 yX0_removeAt ∈ gt := lt_in 453 (by decide +kernel) rfl
theorem im_yX0_removeAt : Cond.instanceMethod yX0_removeAt ∈ gt := lt_in 454 (by decide +kernel) rfl
theorem se_yX0_removeAt : Cond.selects RX0 yX0_removeAt yX0_removeAt ∈ gt := lt_in 455 (by decide +kernel) rfl
theorem cd_yX0_removeAt : Cond.code yX0_removeAt cX0_removeAt 3 none ∈ gt := lt_c2 (List.mem_of_getElem? (i := 216) rfl) rfl
theorem ml_RL_48 : Cond.methodLink RL 48 yX6_done ∈ gt := lt_in 457 (by decide +kernel) rfl
theorem im_yX6_done : Cond.instanceMethod yX6_done ∈ gt := lt_in 458 (by decide +kernel) rfl
theorem se_yX6_done : Cond.selects RX6 yX6_done yX6_done ∈ gt := lt_in 459 (by decide +kernel) rfl
theorem cd_yX6_done : Cond.code yX6_done cX6_done 3 (some .int) ∈ gt := lt_c2 (List.mem_of_getElem? (i := 220) rfl) rfl
theorem ml_RL_52 : Cond.methodLink RL 52 yX6_undo ∈ gt := lt_in 461 (by decide +kernel) rfl
theorem im_yX6_undo : Cond.instanceMethod yX6_undo ∈ gt := lt_in 462 (by decide +kernel) rfl
theorem se_yX6_undo : Cond.selects RX6 yX6_undo yX6_undo ∈ gt := lt_in 463 (by decide +kernel) rfl
theorem cd_yX6_undo : Cond.code yX6_undo cX6_undo 1 (some .int) ∈ gt := lt_c2 (List.mem_of_getElem? (i := 224) rfl) rfl
theorem ml_RX6_154 : Cond.methodLink RX6 154 yX2_goBack ∈ gt := lt_in 465 (by decide +kernel) rfl
theorem im_yX2_goBack : Cond.instanceMethod yX2_goBack ∈ gt := lt_in 466 (by decide +kernel) rfl
theorem se_yX2_goBack : Cond.selects RX2 yX2_goBack yX2_goBack ∈ gt := lt_in 467 (by decide +kernel) rfl
theorem cd_yX2_goBack : Cond.code yX2_goBack cX2_goBack 1 none ∈ gt := lt_c2 (List.mem_of_getElem? (i := 228) rfl) rfl
theorem ml_RL_56 : Cond.methodLink RL 56 yX6_lives ∈ gt := lt_in 469 (by decide +kernel) rfl
theorem im_yX6_lives : Cond.instanceMethod yX6_lives ∈ gt := lt_in 470 (by decide +kernel) rfl
theorem se_yX6_lives : Cond.selects RX6 yX6_lives yX6_lives ∈ gt := lt_in 471 (by decide +kernel) rfl
theorem cd_yX6_lives : Cond.code yX6_lives cX6_lives 1 (some .int) ∈ gt := lt_c2 (List.mem_of_getElem? (i := 232) rfl) rfl
theorem ml_RX6_157 : Cond.methodLink RX6 157 yX3_prepare ∈ gt := lt_in 473 (by decide +kernel) rfl
theorem im_yX3_prepare : Cond.instanceMethod yX3_prepare ∈ gt := lt_in 474 (by decide +kernel) rfl
theorem se_yX3_prepare : Cond.selects RX3 yX3_prepare yX3_prepare ∈ gt := lt_in 475 (by decide +kernel) rfl
theorem cd_yX3_prepare : Cond.code yX3_prepare cX3_prepare 4 none ∈ gt := lt_c2 (List.mem_of_getElem? (i := 236) rfl) rfl
theorem ml_RX3_44 : Cond.methodLink RX3 44 yX5_beginning ∈ gt := lt_in 477 (by decide +kernel) rfl
theorem im_yX5_beginning : Cond.instanceMethod yX5_beginning ∈ gt := lt_in 478 (by decide +kernel) rfl
theorem se_yX5_beginning : Cond.selects RX5 yX5_beginning yX5_beginning ∈ gt := lt_in 479 (by decide +kernel) rfl
theorem cd_yX5_beginning : Cond.code yX5_beginning cX5_beginning 1 (some .int) ∈ gt := lt_c3 (List.mem_of_getElem? (i := 0) rfl) rfl
theorem ml_RX3_52 : Cond.methodLink RX3 52 yX3_prepareState ∈ gt := lt_in 481 (by decide +kernel) rfl
theorem im_yX3_prepareState : Cond.instanceMethod yX3_prepareState ∈ gt := lt_in 482 (by decide +kernel) rfl
theorem se_yX3_prepareState : Cond.selects RX3 yX3_prepareState yX3_prepareState ∈ gt := lt_in 483 (by decide +kernel) rfl
theorem cd_yX3_prepareState : Cond.code yX3_prepareState cX3_prepareState 4 none ∈ gt := lt_c3 (List.mem_of_getElem? (i := 4) rfl) rfl
theorem ml_RX3_67 : Cond.methodLink RX3 67 yX3_addDeed ∈ gt := lt_in 485 (by decide +kernel) rfl
theorem im_yX3_addDeed : Cond.instanceMethod yX3_addDeed ∈ gt := lt_in 486 (by decide +kernel) rfl
theorem se_yX3_addDeed : Cond.selects RX3 yX3_addDeed yX3_addDeed ∈ gt := lt_in 487 (by decide +kernel) rfl
theorem cd_yX3_addDeed : Cond.code yX3_addDeed cX3_addDeed 7 none ∈ gt := lt_c3 (List.mem_of_getElem? (i := 8) rfl) rfl
theorem ml_RX6_161 : Cond.methodLink RX6 161 yX3_howMany ∈ gt := lt_in 489 (by decide +kernel) rfl
theorem im_yX3_howMany : Cond.instanceMethod yX3_howMany ∈ gt := lt_in 490 (by decide +kernel) rfl
theorem se_yX3_howMany : Cond.selects RX3 yX3_howMany yX3_howMany ∈ gt := lt_in 491 (by decide +kernel) rfl
theorem cd_yX3_howMany : Cond.code yX3_howMany cX3_howMany 4 (some .int) ∈ gt := lt_c3 (List.mem_of_getElem? (i := 12) rfl) rfl
theorem ml_RX3_89 : Cond.methodLink RX3 89 yX3_rows ∈ gt := lt_in 493 (by decide +kernel) rfl
theorem im_yX3_rows : Cond.instanceMethod yX3_rows ∈ gt := lt_in 494 (by decide +kernel) rfl
theorem se_yX3_rows : Cond.selects RX3 yX3_rows yX3_rows ∈ gt := lt_in 495 (by decide +kernel) rfl
theorem cd_yX3_rows : Cond.code yX3_rows cX3_rows 1 (some .int) ∈ gt := lt_c3 (List.mem_of_getElem? (i := 16) rfl) rfl
theorem fn_RX3_83 : Cond.fieldLinkNest RX3 83 "LaterJury" "ROWS_BY_TRIALS" "[I" "LaterJury" ∈ lw_tbl := lu_in 497 (by decide +kernel)
theorem ls_rows : Cond.laysStatic "LaterJury" "ROWS_BY_TRIALS" "[I" ∈ lw_tbl := lu_in 498 (by decide +kernel)
theorem ml_RX3_92 : Cond.methodLink RX3 92 yX3_isLife ∈ gt := lt_in 499 (by decide +kernel) rfl
theorem im_yX3_isLife : Cond.instanceMethod yX3_isLife ∈ gt := lt_in 500 (by decide +kernel) rfl
theorem se_yX3_isLife : Cond.selects RX3 yX3_isLife yX3_isLife ∈ gt := lt_in 501 (by decide +kernel) rfl
theorem cd_yX3_isLife : Cond.code yX3_isLife cX3_isLife 2 (some .boolean) ∈ gt := lt_c3 (List.mem_of_getElem? (i := 22) rfl) rfl
theorem ml_RX3_96 : Cond.methodLink RX3 96 yX3_giveVerdicts ∈ gt := lt_in 503 (by decide +kernel) rfl
theorem im_yX3_giveVerdicts : Cond.instanceMethod yX3_giveVerdicts ∈ gt := lt_in 504 (by decide +kernel) rfl
theorem se_yX3_giveVerdicts : Cond.selects RX3 yX3_giveVerdicts yX3_giveVerdicts ∈ gt := lt_in 505 (by decide +kernel) rfl
theorem cd_yX3_giveVerdicts : Cond.code yX3_giveVerdicts cX3_giveVerdicts 4 none ∈ gt := lt_c3 (List.mem_of_getElem? (i := 26) rfl) rfl
theorem ml_RX3_99 : Cond.methodLink RX3 99 yX3_holds ∈ gt := lt_in 507 (by decide +kernel) rfl
theorem im_yX3_holds : Cond.instanceMethod yX3_holds ∈ gt := lt_in 508 (by decide +kernel) rfl
theorem se_yX3_holds : Cond.selects RX3 yX3_holds yX3_holds ∈ gt := lt_in 509 (by decide +kernel) rfl
theorem cd_yX3_holds : Cond.code yX3_holds cX3_holds 2 (some .boolean) ∈ gt := lt_c3 (List.mem_of_getElem? (i := 30) rfl) rfl
theorem ml_RX3_103 : Cond.methodLink RX3 103 yX3_live ∈ gt := lt_in 511 (by decide +kernel) rfl
theorem im_yX3_live : Cond.instanceMethod yX3_live ∈ gt := lt_in 512 (by decide +kernel) rfl
theorem se_yX3_live : Cond.selects RX3 yX3_live yX3_live ∈ gt := lt_in 513 (by decide +kernel) rfl
theorem cd_yX3_live : Cond.code yX3_live cX3_live 5 none ∈ gt := lt_c3 (List.mem_of_getElem? (i := 34) rfl) rfl
theorem ml_RX3_106 : Cond.methodLink RX3 106 yX3_juryWord ∈ gt := lt_in 515 (by decide +kernel) rfl
theorem im_yX3_juryWord : Cond.instanceMethod yX3_juryWord ∈ gt := lt_in 516 (by decide +kernel) rfl
theorem se_yX3_juryWord : Cond.selects RX3 yX3_juryWord yX3_juryWord ∈ gt := lt_in 517 (by decide +kernel) rfl
theorem cd_yX3_juryWord : Cond.code yX3_juryWord cX3_juryWord 6 (some .int) ∈ gt := lt_c3 (List.mem_of_getElem? (i := 38) rfl) rfl
theorem ml_RL_60 : Cond.methodLink RL 60 yX6_verdict ∈ gt := lt_in 519 (by decide +kernel) rfl
theorem im_yX6_verdict : Cond.instanceMethod yX6_verdict ∈ gt := lt_in 520 (by decide +kernel) rfl
theorem se_yX6_verdict : Cond.selects RX6 yX6_verdict yX6_verdict ∈ gt := lt_in 521 (by decide +kernel) rfl
theorem cd_yX6_verdict : Cond.code yX6_verdict cX6_verdict 3 (some .int) ∈ gt := lt_c3 (List.mem_of_getElem? (i := 42) rfl) rfl
theorem ml_RX6_165 : Cond.methodLink RX6 165 yX6_findLife ∈ gt := lt_in 523 (by decide +kernel) rfl
theorem im_yX6_findLife : Cond.instanceMethod yX6_findLife ∈ gt := lt_in 525 (by decide +kernel) rfl
theorem cd_yX6_findLife : Cond.code yX6_findLife cX6_findLife 2 (some .boolean) ∈ gt := lt_c3 (List.mem_of_getElem? (i := 46) rfl) rfl
theorem ml_RX6_267 : Cond.methodLink RX6 267 yX3_find ∈ gt := lt_in 527 (by decide +kernel) rfl
theorem im_yX3_find : Cond.instanceMethod yX3_find ∈ gt := lt_in 528 (by decide +kernel) rfl
theorem se_yX3_find : Cond.selects RX3 yX3_find yX3_find ∈ gt := lt_in 529 (by decide +kernel) rfl
theorem cd_yX3_find : Cond.code yX3_find cX3_find 5 (some .boolean) ∈ gt := lt_c3 (List.mem_of_getElem? (i := 50) rfl) rfl
theorem ml_RL_64 : Cond.methodLink RL 64 yX6_self ∈ gt := lt_in 531 (by decide +kernel) rfl
theorem im_yX6_self : Cond.instanceMethod yX6_self ∈ gt := lt_in 532 (by decide +kernel) rfl
theorem se_yX6_self : Cond.selects RX6 yX6_self yX6_self ∈ gt := lt_in 533 (by decide +kernel) rfl
theorem cd_yX6_self : Cond.code yX6_self cX6_self 3 (some .int) ∈ gt := lt_c3 (List.mem_of_getElem? (i := 54) rfl) rfl
theorem ml_RL_68 : Cond.methodLink RL 68 yX6_sure ∈ gt := lt_in 535 (by decide +kernel) rfl
theorem im_yX6_sure : Cond.instanceMethod yX6_sure ∈ gt := lt_in 536 (by decide +kernel) rfl
theorem se_yX6_sure : Cond.selects RX6 yX6_sure yX6_sure ∈ gt := lt_in 537 (by decide +kernel) rfl
theorem cd_yX6_sure : Cond.code yX6_sure cX6_sure 2 (some .int) ∈ gt := lt_c3 (List.mem_of_getElem? (i := 58) rfl) rfl
theorem ml_RX6_174 : Cond.methodLink RX6 174 yX3_sureVerdict ∈ gt := lt_in 539 (by decide +kernel) rfl
theorem im_yX3_sureVerdict : Cond.instanceMethod yX3_sureVerdict ∈ gt := lt_in 540 (by decide +kernel) rfl
theorem se_yX3_sureVerdict : Cond.selects RX3 yX3_sureVerdict yX3_sureVerdict ∈ gt := lt_in 541 (by decide +kernel) rfl
theorem cd_yX3_sureVerdict : Cond.code yX3_sureVerdict cX3_sureVerdict 5 (some .int) ∈ gt := lt_c3 (List.mem_of_getElem? (i := 62) rfl) rfl
theorem ml_RL_72 : Cond.methodLink RL 72 yX6_who ∈ gt := lt_in 543 (by decide +kernel) rfl
theorem im_yX6_who : Cond.instanceMethod yX6_who ∈ gt := lt_in 544 (by decide +kernel) rfl
theorem se_yX6_who : Cond.selects RX6 yX6_who yX6_who ∈ gt := lt_in 545 (by decide +kernel) rfl
theorem cd_yX6_who : Cond.code yX6_who cX6_who 5 (some .int) ∈ gt := lt_c3 (List.mem_of_getElem? (i := 66) rfl) rfl
theorem ml_RX6_178 : Cond.methodLink RX6 178 yX3_rows ∈ gt := lt_in 547 (by decide +kernel) rfl
theorem ml_RX6_181 : Cond.methodLink RX6 181 yX3_isLife ∈ gt := lt_in 548 (by decide +kernel) rfl
theorem ml_RL_76 : Cond.methodLink RL 76 yX6_ring ∈ gt := lt_in 549 (by decide +kernel) rfl
theorem im_yX6_ring : Cond.instanceMethod yX6_ring ∈ gt := lt_in 550 (by decide +kernel) rfl
theorem se_yX6_ring : Cond.selects RX6 yX6_ring yX6_ring ∈ gt := lt_in 551 (by decide +kernel) rfl
theorem cd_yX6_ring : Cond.code yX6_ring cX6_ring 2 (some .int) ∈ gt := lt_c3 (List.mem_of_getElem? (i := 72) rfl) rfl
theorem ml_RX6_184 : Cond.methodLink RX6 184 yX3_ringPart ∈ gt := lt_in 553 (by decide +kernel) rfl
theorem im_yX3_ringPart : Cond.instanceMethod yX3_ringPart ∈ gt := lt_in 554 (by decide +kernel) rfl
theorem se_yX3_ringPart : Cond.selects RX3 yX3_ringPart yX3_ringPart ∈ gt := lt_in 555 (by decide +kernel) rfl
theorem cd_yX3_ringPart : Cond.code yX3_ringPart cX3_ringPart 5 (some .int) ∈ gt := lt_c3 (List.mem_of_getElem? (i := 76) rfl) rfl
theorem ml_RX3_129 : Cond.methodLink RX3 129 yX3_rowOfWords ∈ gt := lt_in 557 (by decide +kernel) rfl
theorem im_yX3_rowOfWords : Cond.instanceMethod yX3_rowOfWords ∈ gt := lt_in 558 (by decide +kernel) rfl
theorem se_yX3_rowOfWords : Cond.selects RX3 yX3_rowOfWords yX3_rowOfWords ∈ gt := lt_in 559 (by decide +kernel) rfl
theorem cd_yX3_rowOfWords : Cond.code yX3_rowOfWords cX3_rowOfWords 4 (some .int) ∈ gt := lt_c3 (List.mem_of_getElem? (i := 80) rfl) rfl
theorem ml_RL_80 : Cond.methodLink RL 80 yX6_help ∈ gt := lt_in 561 (by decide +kernel) rfl
theorem im_yX6_help : Cond.instanceMethod yX6_help ∈ gt := lt_in 562 (by decide +kernel) rfl
theorem se_yX6_help : Cond.selects RX6 yX6_help yX6_help ∈ gt := lt_in 563 (by decide +kernel) rfl
theorem cd_yX6_help : Cond.code yX6_help cX6_help 3 (some .int) ∈ gt := lt_c3 (List.mem_of_getElem? (i := 84) rfl) rfl
theorem ml_RX6_189 : Cond.methodLink RX6 189 yX1_search ∈ gt := lt_in 565 (by decide +kernel) rfl
theorem im_yX1_search : Cond.instanceMethod yX1_search ∈ gt := lt_in 566 (by decide +kernel) rfl
theorem se_yX1_search : Cond.selects RX1 yX1_search yX1_search ∈ gt := lt_in 567 (by decide +kernel) rfl
theorem cd_yX1_search : Cond.code yX1_search cX1_search 3 none ∈ gt := lt_c3 (List.mem_of_getElem? (i := 88) rfl) rfl
theorem ml_RX1_37 : Cond.methodLink RX1 37 yX1_answer ∈ gt := lt_in 569 (by decide +kernel) rfl
theorem im_yX1_answer : Cond.instanceMethod yX1_answer ∈ gt := lt_in 570 (by decide +kernel) rfl
theorem se_yX1_answer : Cond.selects RX1 yX1_answer yX1_answer ∈ gt := lt_in 571 (by decide +kernel) rfl
theorem cd_yX1_answer : Cond.code yX1_answer cX1_answer 5 none ∈ gt := lt_c3 (List.mem_of_getElem? (i := 92) rfl) rfl
theorem ml_RX1_41 : Cond.methodLink RX1 41 yX3_surelyAcquitted ∈ gt := lt_in 573 (by decide +kernel) rfl
theorem im_yX3_surelyAcquitted : Cond.instanceMethod yX3_surelyAcquitted ∈ gt := lt_in 574 (by decide +kernel) rfl
theorem se_yX3_surelyAcquitted : Cond.selects RX3 yX3_surelyAcquitted yX3_surelyAcquitted ∈ gt := lt_in 575 (by decide +kernel) rfl
theorem cd_yX3_surelyAcquitted : Cond.code yX3_surelyAcquitted cX3_surelyAcquitted 2 (some .boolean) ∈ gt := lt_c3 (List.mem_of_getElem? (i := 96) rfl) rfl
theorem ml_RX3_125 : Cond.methodLink RX3 125 yX3_someLife ∈ gt := lt_in 577 (by decide +kernel) rfl
theorem im_yX3_someLife : Cond.instanceMethod yX3_someLife ∈ gt := lt_in 578 (by decide +kernel) rfl
theorem se_yX3_someLife : Cond.selects RX3 yX3_someLife yX3_someLife ∈ gt := lt_in 579 (by decide +kernel) rfl
theorem cd_yX3_someLife : Cond.code yX3_someLife cX3_someLife 5 (some .boolean) ∈ gt := lt_c3 (List.mem_of_getElem? (i := 100) rfl) rfl
theorem ml_RX1_47 : Cond.methodLink RX1 47 yX3_reach ∈ gt := lt_in 581 (by decide +kernel) rfl
theorem im_yX3_reach : Cond.instanceMethod yX3_reach ∈ gt := lt_in 582 (by decide +kernel) rfl
theorem se_yX3_reach : Cond.selects RX3 yX3_reach yX3_reach ∈ gt := lt_in 583 (by decide +kernel) rfl
theorem cd_yX3_reach : Cond.code yX3_reach cX3_reach 6 none ∈ gt := lt_c3 (List.mem_of_getElem? (i := 104) rfl) rfl
theorem ml_RX3_132 : Cond.methodLink RX3 132 yX3_reachNext ∈ gt := lt_in 585 (by decide +kernel) rfl
theorem im_yX3_reachNext : Cond.instanceMethod yX3_reachNext ∈ gt := lt_in 586 (by decide +kernel) rfl
theorem se_yX3_reachNext : Cond.selects RX3 yX3_reachNext yX3_reachNext ∈ gt := lt_in 587 (by decide +kernel) rfl
theorem cd_yX3_reachNext : Cond.code yX3_reachNext cX3_reachNext 7 (some .int) ∈ gt := lt_c3 (List.mem_of_getElem? (i := 108) rfl) rfl
theorem ml_RX1_51 : Cond.methodLink RX1 51 yX1_searchOne ∈ gt := lt_in 589 (by decide +kernel) rfl
theorem im_yX1_searchOne : Cond.instanceMethod yX1_searchOne ∈ gt := lt_in 590 (by decide +kernel) rfl
theorem se_yX1_searchOne : Cond.selects RX1 yX1_searchOne yX1_searchOne ∈ gt := lt_in 591 (by decide +kernel) rfl
theorem cd_yX1_searchOne : Cond.code yX1_searchOne cX1_searchOne 7 (some .boolean) ∈ gt := lt_c3 (List.mem_of_getElem? (i := 112) rfl) rfl
theorem ml_RX1_78 : Cond.methodLink RX1 78 yX3_saveYear ∈ gt := lt_in 593 (by decide +kernel) rfl
theorem im_yX3_saveYear : Cond.instanceMethod yX3_saveYear ∈ gt := lt_in 594 (by decide +kernel) rfl
theorem se_yX3_saveYear : Cond.selects RX3 yX3_saveYear yX3_saveYear ∈ gt := lt_in 595 (by decide +kernel) rfl
theorem cd_yX3_saveYear : Cond.code yX3_saveYear cX3_saveYear 4 none ∈ gt := lt_c3 (List.mem_of_getElem? (i := 116) rfl) rfl
theorem ml_RX1_85 : Cond.methodLink RX1 85 yX1_changesSomebody ∈ gt := lt_in 597 (by decide +kernel) rfl
theorem sm_yX1_changesSomebody : Cond.static yX1_changesSomebody ∈ gt := lt_in 598 (by decide +kernel) rfl
theorem cd_yX1_changesSomebody : Cond.code yX1_changesSomebody cX1_changesSomebody 5 (some .boolean) ∈ gt := lt_c3 (List.mem_of_getElem? (i := 119) rfl) rfl
theorem ml_RX1_89 : Cond.methodLink RX1 89 yX3_addDeed ∈ gt := lt_in 600 (by decide +kernel) rfl
theorem ml_RX1_93 : Cond.methodLink RX1 93 yX3_restoreYear ∈ gt := lt_in 601 (by decide +kernel) rfl
theorem im_yX3_restoreYear : Cond.instanceMethod yX3_restoreYear ∈ gt := lt_in 602 (by decide +kernel) rfl
theorem se_yX3_restoreYear : Cond.selects RX3 yX3_restoreYear yX3_restoreYear ∈ gt := lt_in 603 (by decide +kernel) rfl
theorem cd_yX3_restoreYear : Cond.code yX3_restoreYear cX3_restoreYear 4 none ∈ gt := lt_c3 (List.mem_of_getElem? (i := 124) rfl) rfl
theorem ml_RX1_96 : Cond.methodLink RX1 96 yX1_code ∈ gt := lt_in 605 (by decide +kernel) rfl
theorem sm_yX1_code : Cond.static yX1_code ∈ gt := lt_in 606 (by decide +kernel) rfl
theorem cd_yX1_code : Cond.code yX1_code cX1_code 2 (some .int) ∈ gt := lt_c3 (List.mem_of_getElem? (i := 127) rfl) rfl
theorem ml_RX1_55 : Cond.methodLink RX1 55 yX1_searchTwo ∈ gt := lt_in 608 (by decide +kernel) rfl
theorem im_yX1_searchTwo : Cond.instanceMethod yX1_searchTwo ∈ gt := lt_in 609 (by decide +kernel) rfl
theorem se_yX1_searchTwo : Cond.selects RX1 yX1_searchTwo yX1_searchTwo ∈ gt := lt_in 610 (by decide +kernel) rfl
theorem cd_yX1_searchTwo : Cond.code yX1_searchTwo cX1_searchTwo 7 none ∈ gt := lt_c3 (List.mem_of_getElem? (i := 131) rfl) rfl
theorem ml_RX1_100 : Cond.methodLink RX1 100 yX1_searchSecond ∈ gt := lt_in 612 (by decide +kernel) rfl
theorem im_yX1_searchSecond : Cond.instanceMethod yX1_searchSecond ∈ gt := lt_in 613 (by decide +kernel) rfl
theorem se_yX1_searchSecond : Cond.selects RX1 yX1_searchSecond yX1_searchSecond ∈ gt := lt_in 614 (by decide +kernel) rfl
theorem cd_yX1_searchSecond : Cond.code yX1_searchSecond cX1_searchSecond 9 (some .boolean) ∈ gt := lt_c3 (List.mem_of_getElem? (i := 135) rfl) rfl
theorem ml_RL_84 : Cond.methodLink RL 84 yX6_strikes ∈ gt := lt_in 616 (by decide +kernel) rfl
theorem im_yX6_strikes : Cond.instanceMethod yX6_strikes ∈ gt := lt_in 617 (by decide +kernel) rfl
theorem se_yX6_strikes : Cond.selects RX6 yX6_strikes yX6_strikes ∈ gt := lt_in 618 (by decide +kernel) rfl
theorem cd_yX6_strikes : Cond.code yX6_strikes cX6_strikes 5 (some .int) ∈ gt := lt_c3 (List.mem_of_getElem? (i := 139) rfl) rfl
theorem ml_RX6_201 : Cond.methodLink RX6 201 yX3_seatJury ∈ gt := lt_in 620 (by decide +kernel) rfl
theorem im_yX3_seatJury : Cond.instanceMethod yX3_seatJury ∈ gt := lt_in 621 (by decide +kernel) rfl
theorem se_yX3_seatJury : Cond.selects RX3 yX3_seatJury yX3_seatJury ∈ gt := lt_in 622 (by decide +kernel) rfl
theorem cd_yX3_seatJury : Cond.code yX3_seatJury cX3_seatJury 6 (some .int) ∈ gt := lt_c3 (List.mem_of_getElem? (i := 143) rfl) rfl
theorem ml_RX6_204 : Cond.methodLink RX6 204 yX3_leanBehindStrikes ∈ gt := lt_in 624 (by decide +kernel) rfl
theorem im_yX3_leanBehindStrikes : Cond.instanceMethod yX3_leanBehindStrikes ∈ gt := lt_in 625 (by decide +kernel) rfl
theorem se_yX3_leanBehindStrikes : Cond.selects RX3 yX3_leanBehindStrikes yX3_leanBehindStrikes ∈ gt := lt_in 626 (by decide +kernel) rfl
theorem cd_yX3_leanBehindStrikes : Cond.code yX3_leanBehindStrikes cX3_leanBehindStrikes 6 (some .int) ∈ gt := lt_c3 (List.mem_of_getElem? (i := 147) rfl) rfl
theorem ml_RL_89 : Cond.methodLink RL 89 yX6_innocent ∈ gt := lt_in 628 (by decide +kernel) rfl
theorem im_yX6_innocent : Cond.instanceMethod yX6_innocent ∈ gt := lt_in 629 (by decide +kernel) rfl
theorem se_yX6_innocent : Cond.selects RX6 yX6_innocent yX6_innocent ∈ gt := lt_in 630 (by decide +kernel) rfl
theorem cd_yX6_innocent : Cond.code yX6_innocent cX6_innocent 2 (some .int) ∈ gt := lt_c3 (List.mem_of_getElem? (i := 151) rfl) rfl
theorem ml_RX6_208 : Cond.methodLink RX6 208 yX6_innocentBits ∈ gt := lt_in 632 (by decide +kernel) rfl
theorem im_yX6_innocentBits : Cond.instanceMethod yX6_innocentBits ∈ gt := lt_in 634 (by decide +kernel) rfl
theorem cd_yX6_innocentBits : Cond.code yX6_innocentBits cX6_innocentBits 4 (some .int) ∈ gt := lt_c3 (List.mem_of_getElem? (i := 155) rfl) rfl
theorem ml_RX6_270 : Cond.methodLink RX6 270 yX3_surelyAcquitted ∈ gt := lt_in 636 (by decide +kernel) rfl
theorem ml_RL_93 : Cond.methodLink RL 93 yX6_odds ∈ gt := lt_in 637 (by decide +kernel) rfl
theorem im_yX6_odds : Cond.instanceMethod yX6_odds ∈ gt := lt_in 638 (by decide +kernel) rfl
theorem se_yX6_odds : Cond.selects RX6 yX6_odds yX6_odds ∈ gt := lt_in 639 (by decide +kernel) rfl
theorem cd_yX6_odds : Cond.code yX6_odds cX6_odds 5 (some .int) ∈ gt := lt_c3 (List.mem_of_getElem? (i := 160) rfl) rfl
theorem ml_RX6_214 : Cond.methodLink RX6 214 yJ6_bitCount_0f7a4 ∈ gt := lt_in 641 (by decide +kernel) rfl
theorem sm_yJ6_bitCount_0f7a4 : Cond.static yJ6_bitCount_0f7a4 ∈ gt := lt_in 642 (by decide +kernel) rfl
theorem cd_yJ6_bitCount_0f7a4 : Cond.code yJ6_bitCount_0f7a4 cJ6_bitCount_0f7a4 1 (some .int) ∈ gt := lt_c3 (List.mem_of_getElem? (i := 163) rfl) rfl
theorem ck_RJ6_265 : Cond.constant RJ6 265 (1431655765) ∈ gt := lt_in 644 (by decide +kernel) rfl
theorem ck_RJ6_266 : Cond.constant RJ6 266 (858993459) ∈ gt := lt_in 645 (by decide +kernel) rfl
theorem ck_RJ6_267 : Cond.constant RJ6 267 (252645135) ∈ gt := lt_in 646 (by decide +kernel) rfl
theorem ml_RX6_219 : Cond.methodLink RX6 219 yX6_commonDivisor ∈ gt := lt_in 647 (by decide +kernel) rfl
theorem sm_yX6_commonDivisor : Cond.static yX6_commonDivisor ∈ gt := lt_in 648 (by decide +kernel) rfl
theorem cd_yX6_commonDivisor : Cond.code yX6_commonDivisor cX6_commonDivisor 6 (some .int) ∈ gt := lt_c3 (List.mem_of_getElem? (i := 169) rfl) rfl
theorem ml_RL_97 : Cond.methodLink RL 97 yX6_saw ∈ gt := lt_in 650 (by decide +kernel) rfl
theorem im_yX6_saw : Cond.instanceMethod yX6_saw ∈ gt := lt_in 651 (by decide +kernel) rfl
theorem se_yX6_saw : Cond.selects RX6 yX6_saw yX6_saw ∈ gt := lt_in 652 (by decide +kernel) rfl
theorem cd_yX6_saw : Cond.code yX6_saw cX6_saw 3 (some .int) ∈ gt := lt_c3 (List.mem_of_getElem? (i := 173) rfl) rfl
theorem ml_RL_101 : Cond.methodLink RL 101 yX6_forget ∈ gt := lt_in 654 (by decide +kernel) rfl
theorem im_yX6_forget : Cond.instanceMethod yX6_forget ∈ gt := lt_in 655 (by decide +kernel) rfl
theorem se_yX6_forget : Cond.selects RX6 yX6_forget yX6_forget ∈ gt := lt_in 656 (by decide +kernel) rfl
theorem cd_yX6_forget : Cond.code yX6_forget cX6_forget 2 (some .int) ∈ gt := lt_c3 (List.mem_of_getElem? (i := 177) rfl) rfl
theorem ml_RL_105 : Cond.methodLink RL 105 yX6_fits ∈ gt := lt_in 658 (by decide +kernel) rfl
theorem im_yX6_fits : Cond.instanceMethod yX6_fits ∈ gt := lt_in 659 (by decide +kernel) rfl
theorem se_yX6_fits : Cond.selects RX6 yX6_fits yX6_fits ∈ gt := lt_in 660 (by decide +kernel) rfl
theorem cd_yX6_fits : Cond.code yX6_fits cX6_fits 3 (some .int) ∈ gt := lt_c3 (List.mem_of_getElem? (i := 181) rfl) rfl
theorem ml_RX6_225 : Cond.methodLink RX6 225 yX6_someLifeFits ∈ gt := lt_in 662 (by decide +kernel) rfl
theorem im_yX6_someLifeFits : Cond.instanceMethod yX6_someLifeFits ∈ gt := lt_in 664 (by decide +kernel) rfl
theorem cd_yX6_someLifeFits : Cond.code yX6_someLifeFits cX6_someLifeFits 3 (some .boolean) ∈ gt := lt_c3 (List.mem_of_getElem? (i := 185) rfl) rfl
theorem ml_RX6_273 : Cond.methodLink RX6 273 yX6_allSeenIsSo ∈ gt := lt_in 666 (by decide +kernel) rfl
theorem im_yX6_allSeenIsSo : Cond.instanceMethod yX6_allSeenIsSo ∈ gt := lt_in 668 (by decide +kernel) rfl
theorem cd_yX6_allSeenIsSo : Cond.code yX6_allSeenIsSo cX6_allSeenIsSo 2 (some .boolean) ∈ gt := lt_c3 (List.mem_of_getElem? (i := 189) rfl) rfl
theorem ml_RL_109 : Cond.methodLink RL 109 yX6_quorum ∈ gt := lt_in 670 (by decide +kernel) rfl
theorem im_yX6_quorum : Cond.instanceMethod yX6_quorum ∈ gt := lt_in 671 (by decide +kernel) rfl
theorem se_yX6_quorum : Cond.selects RX6 yX6_quorum yX6_quorum ∈ gt := lt_in 672 (by decide +kernel) rfl
theorem cd_yX6_quorum : Cond.code yX6_quorum cX6_quorum 2 (some .int) ∈ gt := lt_c3 (List.mem_of_getElem? (i := 193) rfl) rfl
theorem ml_RL_113 : Cond.methodLink RL 113 yX6_mark ∈ gt := lt_in 674 (by decide +kernel) rfl
theorem im_yX6_mark : Cond.instanceMethod yX6_mark ∈ gt := lt_in 675 (by decide +kernel) rfl
theorem se_yX6_mark : Cond.selects RX6 yX6_mark yX6_mark ∈ gt := lt_in 676 (by decide +kernel) rfl
theorem cd_yX6_mark : Cond.code yX6_mark cX6_mark 3 (some .int) ∈ gt := lt_c3 (List.mem_of_getElem? (i := 197) rfl) rfl
theorem ml_RX6_232 : Cond.methodLink RX6 232 yX6_markOfSelf ∈ gt := lt_in 678 (by decide +kernel) rfl
theorem im_yX6_markOfSelf : Cond.instanceMethod yX6_markOfSelf ∈ gt := lt_in 680 (by decide +kernel) rfl
theorem cd_yX6_markOfSelf : Cond.code yX6_markOfSelf cX6_markOfSelf 2 (some .int) ∈ gt := lt_c3 (List.mem_of_getElem? (i := 201) rfl) rfl
theorem ml_RX6_235 : Cond.methodLink RX6 235 yX6_markOfChild ∈ gt := lt_in 682 (by decide +kernel) rfl
theorem im_yX6_markOfChild : Cond.instanceMethod yX6_markOfChild ∈ gt := lt_in 684 (by decide +kernel) rfl
theorem cd_yX6_markOfChild : Cond.code yX6_markOfChild cX6_markOfChild 2 (some .int) ∈ gt := lt_c3 (List.mem_of_getElem? (i := 205) rfl) rfl
theorem cl_RX6_276 : Cond.constantLong RX6 276 (10) ∈ gt := lt_in 686 (by decide +kernel) rfl
theorem ml_RX6_238 : Cond.methodLink RX6 238 yX6_markOfElder ∈ gt := lt_in 687 (by decide +kernel) rfl
theorem im_yX6_markOfElder : Cond.instanceMethod yX6_markOfElder ∈ gt := lt_in 689 (by decide +kernel) rfl
theorem cd_yX6_markOfElder : Cond.code yX6_markOfElder cX6_markOfElder 2 (some .int) ∈ gt := lt_c3 (List.mem_of_getElem? (i := 210) rfl) rfl
theorem cl_RX6_278 : Cond.constantLong RX6 278 (100) ∈ gt := lt_in 691 (by decide +kernel) rfl
theorem ml_RX6_241 : Cond.methodLink RX6 241 yX6_markOfBitter ∈ gt := lt_in 692 (by decide +kernel) rfl
theorem im_yX6_markOfBitter : Cond.instanceMethod yX6_markOfBitter ∈ gt := lt_in 694 (by decide +kernel) rfl
theorem cd_yX6_markOfBitter : Cond.code yX6_markOfBitter cX6_markOfBitter 2 (some .int) ∈ gt := lt_c3 (List.mem_of_getElem? (i := 215) rfl) rfl
theorem cl_RX6_280 : Cond.constantLong RX6 280 (1000) ∈ gt := lt_in 696 (by decide +kernel) rfl
theorem ml_RX6_244 : Cond.methodLink RX6 244 yX6_markOfLenient ∈ gt := lt_in 697 (by decide +kernel) rfl
theorem im_yX6_markOfLenient : Cond.instanceMethod yX6_markOfLenient ∈ gt := lt_in 699 (by decide +kernel) rfl
theorem cd_yX6_markOfLenient : Cond.code yX6_markOfLenient cX6_markOfLenient 2 (some .int) ∈ gt := lt_c3 (List.mem_of_getElem? (i := 220) rfl) rfl
theorem cl_RX6_282 : Cond.constantLong RX6 282 (10000) ∈ gt := lt_in 701 (by decide +kernel) rfl
theorem ml_RX6_247 : Cond.methodLink RX6 247 yX6_markOfGhost ∈ gt := lt_in 702 (by decide +kernel) rfl
theorem im_yX6_markOfGhost : Cond.instanceMethod yX6_markOfGhost ∈ gt := lt_in 704 (by decide +kernel) rfl
theorem cd_yX6_markOfGhost : Cond.code yX6_markOfGhost cX6_markOfGhost 2 (some .int) ∈ gt := lt_c3 (List.mem_of_getElem? (i := 225) rfl) rfl
theorem cl_RX6_284 : Cond.constantLong RX6 284 (100000) ∈ gt := lt_in 706 (by decide +kernel) rfl
theorem ml_RL_117 : Cond.methodLink RL 117 yX6_keep ∈ gt := lt_in 707 (by decide +kernel) rfl
theorem im_yX6_keep : Cond.instanceMethod yX6_keep ∈ gt := lt_in 708 (by decide +kernel) rfl
theorem se_yX6_keep : Cond.selects RX6 yX6_keep yX6_keep ∈ gt := lt_in 709 (by decide +kernel) rfl
theorem cd_yX6_keep : Cond.code yX6_keep cX6_keep 2 (some .int) ∈ gt := lt_c3 (List.mem_of_getElem? (i := 230) rfl) rfl
theorem ml_RX6_250 : Cond.methodLink RX6 250 yX2_copyFrom ∈ gt := lt_in 711 (by decide +kernel) rfl
theorem im_yX2_copyFrom : Cond.instanceMethod yX2_copyFrom ∈ gt := lt_in 712 (by decide +kernel) rfl
theorem se_yX2_copyFrom : Cond.selects RX2 yX2_copyFrom yX2_copyFrom ∈ gt := lt_in 713 (by decide +kernel) rfl
theorem cd_yX2_copyFrom : Cond.code yX2_copyFrom cX2_copyFrom 3 none ∈ gt := lt_c3 (List.mem_of_getElem? (i := 234) rfl) rfl
theorem ml_RL_121 : Cond.methodLink RL 121 yX6_back ∈ gt := lt_in 715 (by decide +kernel) rfl
theorem im_yX6_back : Cond.instanceMethod yX6_back ∈ gt := lt_in 716 (by decide +kernel) rfl
theorem se_yX6_back : Cond.selects RX6 yX6_back yX6_back ∈ gt := lt_in 717 (by decide +kernel) rfl
theorem cd_yX6_back : Cond.code yX6_back cX6_back 2 (some .int) ∈ gt := lt_c3 (List.mem_of_getElem? (i := 238) rfl) rfl
theorem ml_RL_125 : Cond.methodLink RL 125 yX6_count ∈ gt := lt_in 719 (by decide +kernel) rfl
theorem im_yX6_count : Cond.instanceMethod yX6_count ∈ gt := lt_in 720 (by decide +kernel) rfl
theorem se_yX6_count : Cond.selects RX6 yX6_count yX6_count ∈ gt := lt_in 721 (by decide +kernel) rfl
theorem cd_yX6_count : Cond.code yX6_count cX6_count 2 (some .int) ∈ gt := lt_c4 (List.mem_of_getElem? (i := 2) rfl) rfl
theorem ml_RX6_263 : Cond.methodLink RX6 263 yX5_beginning ∈ gt := lt_in 723 (by decide +kernel) rfl
theorem ml_RL_129 : Cond.methodLink RL 129 yX6_trace ∈ gt := lt_in 724 (by decide +kernel) rfl
theorem im_yX6_trace : Cond.instanceMethod yX6_trace ∈ gt := lt_in 725 (by decide +kernel) rfl
theorem se_yX6_trace : Cond.selects RX6 yX6_trace yX6_trace ∈ gt := lt_in 726 (by decide +kernel) rfl
theorem cd_yX6_trace : Cond.code yX6_trace cX6_trace 1 (some .long) ∈ gt := lt_c4 (List.mem_of_getElem? (i := 7) rfl) rfl
theorem cc_RL_10 : Cond.classLink RL 10 RX7 ∈ gt := lt_in 728 (by decide +kernel) rfl
theorem ia_RX7 : Cond.instantiable RX7 20 ∈ gt := lt_in 729 (by decide +kernel) rfl
theorem ml_RL_12 : Cond.methodLink RL 12 yX7_init ∈ gt := lt_in 730 (by decide +kernel) rfl
theorem im_yX7_init : Cond.instanceMethod yX7_init ∈ gt := lt_in 731 (by decide +kernel) rfl
theorem cd_yX7_init : Cond.code yX7_init cX7_init 1 none ∈ gt := lt_c4 (List.mem_of_getElem? (i := 12) rfl) rfl
theorem ml_RX7_1 : Cond.methodLink RX7 1 objectInit ∈ gt := lt_in 733 (by decide +kernel) rfl
theorem ml_RX7_43 : Cond.methodLink RX7 43 yX7_plain ∈ gt := lt_in 734 (by decide +kernel) rfl
theorem im_yX7_plain : Cond.instanceMethod yX7_plain ∈ gt := lt_in 736 (by decide +kernel) rfl
theorem cd_yX7_plain : Cond.code yX7_plain cX7_plain 2 none ∈ gt := lt_c4 (List.mem_of_getElem? (i := 17) rfl) rfl
theorem ml_RX7_46 : Cond.methodLink RX7 46 yX7_takesIt ∈ gt := lt_in 738 (by decide +kernel) rfl
theorem im_yX7_takesIt : Cond.instanceMethod yX7_takesIt ∈ gt := lt_in 740 (by decide +kernel) rfl
theorem cd_yX7_takesIt : Cond.code yX7_takesIt cX7_takesIt 2 none ∈ gt := lt_c4 (List.mem_of_getElem? (i := 21) rfl) rfl
theorem fl_RX7_7 : Cond.fieldLink RX7 7 RX7 (TX7 0).2.1 (TX7 0).2.2.1 ∈ gt := lt_in 742 (by decide +kernel) rfl
theorem fl_RX7_55 : Cond.fieldLink RX7 55 RX7 (TX7 1).2.1 (TX7 1).2.2.1 ∈ gt := lt_in 743 (by decide +kernel) rfl
theorem fl_RX7_67 : Cond.fieldLink RX7 67 RX7 (TX7 2).2.1 (TX7 2).2.2.1 ∈ gt := lt_in 744 (by decide +kernel) rfl
theorem fl_RX7_77 : Cond.fieldLink RX7 77 RX7 (TX7 3).2.1 (TX7 3).2.2.1 ∈ gt := lt_in 745 (by decide +kernel) rfl
theorem fl_RX7_80 : Cond.fieldLink RX7 80 RX7 (TX7 4).2.1 (TX7 4).2.2.1 ∈ gt := lt_in 746 (by decide +kernel) rfl
theorem fl_RX7_70 : Cond.fieldLink RX7 70 RX7 (TX7 5).2.1 (TX7 5).2.2.1 ∈ gt := lt_in 747 (by decide +kernel) rfl
theorem fl_RX7_13 : Cond.fieldLink RX7 13 RX7 (TX7 6).2.1 (TX7 6).2.2.1 ∈ gt := lt_in 748 (by decide +kernel) rfl
theorem fl_RX7_16 : Cond.fieldLink RX7 16 RX7 (TX7 7).2.1 (TX7 7).2.2.1 ∈ gt := lt_in 749 (by decide +kernel) rfl
theorem fl_RX7_119 : Cond.fieldLink RX7 119 RX7 (TX7 8).2.1 (TX7 8).2.2.1 ∈ gt := lt_in 750 (by decide +kernel) rfl
theorem fl_RX7_19 : Cond.fieldLink RX7 19 RX7 (TX7 9).2.1 (TX7 9).2.2.1 ∈ gt := lt_in 751 (by decide +kernel) rfl
theorem fl_RX7_122 : Cond.fieldLink RX7 122 RX7 (TX7 10).2.1 (TX7 10).2.2.1 ∈ gt := lt_in 752 (by decide +kernel) rfl
theorem fl_RX7_22 : Cond.fieldLink RX7 22 RX7 (TX7 11).2.1 (TX7 11).2.2.1 ∈ gt := lt_in 753 (by decide +kernel) rfl
theorem fl_RX7_25 : Cond.fieldLink RX7 25 RX7 (TX7 12).2.1 (TX7 12).2.2.1 ∈ gt := lt_in 754 (by decide +kernel) rfl
theorem fl_RX7_28 : Cond.fieldLink RX7 28 RX7 (TX7 13).2.1 (TX7 13).2.2.1 ∈ gt := lt_in 755 (by decide +kernel) rfl
theorem fl_RX7_31 : Cond.fieldLink RX7 31 RX7 (TX7 14).2.1 (TX7 14).2.2.1 ∈ gt := lt_in 756 (by decide +kernel) rfl
theorem fl_RX7_125 : Cond.fieldLink RX7 125 RX7 (TX7 15).2.1 (TX7 15).2.2.1 ∈ gt := lt_in 757 (by decide +kernel) rfl
theorem fl_RX7_34 : Cond.fieldLink RX7 34 RX7 (TX7 16).2.1 (TX7 16).2.2.1 ∈ gt := lt_in 758 (by decide +kernel) rfl
theorem fl_RX7_37 : Cond.fieldLink RX7 37 RX7 (TX7 17).2.1 (TX7 17).2.2.1 ∈ gt := lt_in 759 (by decide +kernel) rfl
theorem fl_RX7_203 : Cond.fieldLink RX7 203 RX7 (TX7 18).2.1 (TX7 18).2.2.1 ∈ gt := lt_in 760 (by decide +kernel) rfl
theorem fl_RX7_40 : Cond.fieldLink RX7 40 RX7 (TX7 19).2.1 (TX7 19).2.2.1 ∈ gt := lt_in 761 (by decide +kernel) rfl
theorem ml_RL_17 : Cond.methodLink RL 17 yX7_type ∈ gt := lt_in 803 (by decide +kernel) rfl
theorem im_yX7_type : Cond.instanceMethod yX7_type ∈ gt := lt_in 804 (by decide +kernel) rfl
theorem se_yX7_type : Cond.selects RX7 yX7_type yX7_type ∈ gt := lt_in 805 (by decide +kernel) rfl
theorem cd_yX7_type : Cond.code yX7_type cX7_type 2 (some .int) ∈ gt := lt_c4 (List.mem_of_getElem? (i := 86) rfl) rfl
theorem cl_RX7_49 : Cond.constantLong RX7 49 (255) ∈ gt := lt_in 807 (by decide +kernel) rfl
theorem ml_RX7_51 : Cond.methodLink RX7 51 yX7_in ∈ gt := lt_in 808 (by decide +kernel) rfl
theorem sm_yX7_in : Cond.static yX7_in ∈ gt := lt_in 809 (by decide +kernel) rfl
theorem cd_yX7_in : Cond.code yX7_in cX7_in 6 (some .boolean) ∈ gt := lt_c4 (List.mem_of_getElem? (i := 90) rfl) rfl
theorem ml_RL_22 : Cond.methodLink RL 22 yX7_clear ∈ gt := lt_in 811 (by decide +kernel) rfl
theorem im_yX7_clear : Cond.instanceMethod yX7_clear ∈ gt := lt_in 812 (by decide +kernel) rfl
theorem se_yX7_clear : Cond.selects RX7 yX7_clear yX7_clear ∈ gt := lt_in 813 (by decide +kernel) rfl
theorem cd_yX7_clear : Cond.code yX7_clear cX7_clear 2 (some .int) ∈ gt := lt_c4 (List.mem_of_getElem? (i := 94) rfl) rfl
theorem ml_RL_26 : Cond.methodLink RL 26 yX7_court ∈ gt := lt_in 815 (by decide +kernel) rfl
theorem im_yX7_court : Cond.instanceMethod yX7_court ∈ gt := lt_in 816 (by decide +kernel) rfl
theorem se_yX7_court : Cond.selects RX7 yX7_court yX7_court ∈ gt := lt_in 817 (by decide +kernel) rfl
theorem cd_yX7_court : Cond.code yX7_court cX7_court 2 (some .int) ∈ gt := lt_c4 (List.mem_of_getElem? (i := 98) rfl) rfl
theorem ml_RX7_92 : Cond.methodLink RX7 92 yX7_reads ∈ gt := lt_in 819 (by decide +kernel) rfl
theorem im_yX7_reads : Cond.instanceMethod yX7_reads ∈ gt := lt_in 821 (by decide +kernel) rfl
theorem cd_yX7_reads : Cond.code yX7_reads cX7_reads 1 none ∈ gt := lt_c4 (List.mem_of_getElem? (i := 102) rfl) rfl
theorem ml_RX7_73 : Cond.methodLink RX7 73 yX7_isLetter ∈ gt := lt_in 823 (by decide +kernel) rfl
theorem sm_yX7_isLetter : Cond.static yX7_isLetter ∈ gt := lt_in 824 (by decide +kernel) rfl
theorem cd_yX7_isLetter : Cond.code yX7_isLetter cX7_isLetter 1 (some .boolean) ∈ gt := lt_c4 (List.mem_of_getElem? (i := 105) rfl) rfl
theorem cl_RX7_59 : Cond.constantLong RX7 59 (97) ∈ gt := lt_in 826 (by decide +kernel) rfl
theorem cl_RX7_61 : Cond.constantLong RX7 61 (122) ∈ gt := lt_in 827 (by decide +kernel) rfl
theorem ml_RX7_86 : Cond.methodLink RX7 86 yX7_readLetters ∈ gt := lt_in 828 (by decide +kernel) rfl
theorem im_yX7_readLetters : Cond.instanceMethod yX7_readLetters ∈ gt := lt_in 830 (by decide +kernel) rfl
theorem cd_yX7_readLetters : Cond.code yX7_readLetters cX7_readLetters 2 none ∈ gt := lt_c4 (List.mem_of_getElem? (i := 111) rfl) rfl
theorem ml_RX7_83 : Cond.methodLink RX7 83 yX7_isFigure ∈ gt := lt_in 832 (by decide +kernel) rfl
theorem sm_yX7_isFigure : Cond.static yX7_isFigure ∈ gt := lt_in 833 (by decide +kernel) rfl
theorem cd_yX7_isFigure : Cond.code yX7_isFigure cX7_isFigure 1 (some .boolean) ∈ gt := lt_c4 (List.mem_of_getElem? (i := 114) rfl) rfl
theorem cl_RX7_63 : Cond.constantLong RX7 63 (48) ∈ gt := lt_in 835 (by decide +kernel) rfl
theorem cl_RX7_65 : Cond.constantLong RX7 65 (57) ∈ gt := lt_in 836 (by decide +kernel) rfl
theorem ml_RX7_89 : Cond.methodLink RX7 89 yX7_readNumber ∈ gt := lt_in 837 (by decide +kernel) rfl
theorem im_yX7_readNumber : Cond.instanceMethod yX7_readNumber ∈ gt := lt_in 839 (by decide +kernel) rfl
theorem cd_yX7_readNumber : Cond.code yX7_readNumber cX7_readNumber 2 none ∈ gt := lt_c4 (List.mem_of_getElem? (i := 120) rfl) rfl
theorem ml_RX7_116 : Cond.methodLink RX7 116 yX7_readItem ∈ gt := lt_in 841 (by decide +kernel) rfl
theorem im_yX7_readItem : Cond.instanceMethod yX7_readItem ∈ gt := lt_in 843 (by decide +kernel) rfl
theorem cd_yX7_readItem : Cond.code yX7_readItem cX7_readItem 1 (some .boolean) ∈ gt := lt_c4 (List.mem_of_getElem? (i := 124) rfl) rfl
theorem ml_RX7_103 : Cond.methodLink RX7 103 yX7_once ∈ gt := lt_in 845 (by decide +kernel) rfl
theorem im_yX7_once : Cond.instanceMethod yX7_once ∈ gt := lt_in 847 (by decide +kernel) rfl
theorem cd_yX7_once : Cond.code yX7_once cX7_once 5 (some .boolean) ∈ gt := lt_c4 (List.mem_of_getElem? (i := 128) rfl) rfl
theorem ml_RX7_95 : Cond.methodLink RX7 95 yX7_number ∈ gt := lt_in 849 (by decide +kernel) rfl
theorem im_yX7_number : Cond.instanceMethod yX7_number ∈ gt := lt_in 851 (by decide +kernel) rfl
theorem cd_yX7_number : Cond.code yX7_number cX7_number 3 (some .boolean) ∈ gt := lt_c4 (List.mem_of_getElem? (i := 132) rfl) rfl
theorem ml_RX7_99 : Cond.methodLink RX7 99 yX7_ends ∈ gt := lt_in 853 (by decide +kernel) rfl
theorem im_yX7_ends : Cond.instanceMethod yX7_ends ∈ gt := lt_in 855 (by decide +kernel) rfl
theorem cd_yX7_ends : Cond.code yX7_ends cX7_ends 1 (some .boolean) ∈ gt := lt_c4 (List.mem_of_getElem? (i := 136) rfl) rfl
theorem ml_RX7_107 : Cond.methodLink RX7 107 yX7_readState ∈ gt := lt_in 857 (by decide +kernel) rfl
theorem im_yX7_readState : Cond.instanceMethod yX7_readState ∈ gt := lt_in 859 (by decide +kernel) rfl
theorem cd_yX7_readState : Cond.code yX7_readState cX7_readState 3 (some .boolean) ∈ gt := lt_c4 (List.mem_of_getElem? (i := 140) rfl) rfl
theorem ml_RX7_110 : Cond.methodLink RX7 110 yX7_readTrial ∈ gt := lt_in 861 (by decide +kernel) rfl
theorem im_yX7_readTrial : Cond.instanceMethod yX7_readTrial ∈ gt := lt_in 863 (by decide +kernel) rfl
theorem cd_yX7_readTrial : Cond.code yX7_readTrial cX7_readTrial 2 (some .boolean) ∈ gt := lt_c4 (List.mem_of_getElem? (i := 144) rfl) rfl
theorem ml_RX7_113 : Cond.methodLink RX7 113 yX7_readDeed ∈ gt := lt_in 865 (by decide +kernel) rfl
theorem im_yX7_readDeed : Cond.instanceMethod yX7_readDeed ∈ gt := lt_in 867 (by decide +kernel) rfl
theorem cd_yX7_readDeed : Cond.code yX7_readDeed cX7_readDeed 1 (some .boolean) ∈ gt := lt_c4 (List.mem_of_getElem? (i := 148) rfl) rfl
theorem ml_RL_31 : Cond.methodLink RL 31 yX7_state ∈ gt := lt_in 869 (by decide +kernel) rfl
theorem im_yX7_state : Cond.instanceMethod yX7_state ∈ gt := lt_in 870 (by decide +kernel) rfl
theorem se_yX7_state : Cond.selects RX7 yX7_state yX7_state ∈ gt := lt_in 871 (by decide +kernel) rfl
theorem cd_yX7_state : Cond.code yX7_state cX7_state 3 (some .int) ∈ gt := lt_c4 (List.mem_of_getElem? (i := 152) rfl) rfl
theorem ml_RX7_132 : Cond.methodLink RX7 132 yX7_isState ∈ gt := lt_in 873 (by decide +kernel) rfl
theorem im_yX7_isState : Cond.instanceMethod yX7_isState ∈ gt := lt_in 875 (by decide +kernel) rfl
theorem cd_yX7_isState : Cond.code yX7_isState cX7_isState 2 (some .boolean) ∈ gt := lt_c4 (List.mem_of_getElem? (i := 156) rfl) rfl
theorem cl_RX7_135 : Cond.constantLong RX7 135 (4) ∈ gt := lt_in 877 (by decide +kernel) rfl
theorem ml_RX7_137 : Cond.methodLink RX7 137 yX7_lean ∈ gt := lt_in 878 (by decide +kernel) rfl
theorem im_yX7_lean : Cond.instanceMethod yX7_lean ∈ gt := lt_in 880 (by decide +kernel) rfl
theorem cd_yX7_lean : Cond.code yX7_lean cX7_lean 2 (some .int) ∈ gt := lt_c4 (List.mem_of_getElem? (i := 161) rfl) rfl
theorem ml_RX7_128 : Cond.methodLink RX7 128 yX7_of ∈ gt := lt_in 882 (by decide +kernel) rfl
theorem im_yX7_of : Cond.instanceMethod yX7_of ∈ gt := lt_in 884 (by decide +kernel) rfl
theorem cd_yX7_of : Cond.code yX7_of cX7_of 3 (some .int) ∈ gt := lt_c4 (List.mem_of_getElem? (i := 165) rfl) rfl
theorem ck_RX7_141 : Cond.constant RX7 141 (-1000000) ∈ gt := lt_in 886 (by decide +kernel) rfl
theorem ml_RL_35 : Cond.methodLink RL 35 yX7_trial ∈ gt := lt_in 887 (by decide +kernel) rfl
theorem im_yX7_trial : Cond.instanceMethod yX7_trial ∈ gt := lt_in 888 (by decide +kernel) rfl
theorem se_yX7_trial : Cond.selects RX7 yX7_trial yX7_trial ∈ gt := lt_in 889 (by decide +kernel) rfl
theorem cd_yX7_trial : Cond.code yX7_trial cX7_trial 3 (some .int) ∈ gt := lt_c4 (List.mem_of_getElem? (i := 170) rfl) rfl
theorem ml_RX7_142 : Cond.methodLink RX7 142 yX7_isTrial ∈ gt := lt_in 891 (by decide +kernel) rfl
theorem im_yX7_isTrial : Cond.instanceMethod yX7_isTrial ∈ gt := lt_in 893 (by decide +kernel) rfl
theorem cd_yX7_isTrial : Cond.code yX7_isTrial cX7_isTrial 2 (some .boolean) ∈ gt := lt_c4 (List.mem_of_getElem? (i := 174) rfl) rfl
theorem cl_RX7_145 : Cond.constantLong RX7 145 (2) ∈ gt := lt_in 895 (by decide +kernel) rfl
theorem ml_RL_39 : Cond.methodLink RL 39 yX7_deed ∈ gt := lt_in 896 (by decide +kernel) rfl
theorem im_yX7_deed : Cond.instanceMethod yX7_deed ∈ gt := lt_in 897 (by decide +kernel) rfl
theorem se_yX7_deed : Cond.selects RX7 yX7_deed yX7_deed ∈ gt := lt_in 898 (by decide +kernel) rfl
theorem cd_yX7_deed : Cond.code yX7_deed cX7_deed 3 (some .int) ∈ gt := lt_c4 (List.mem_of_getElem? (i := 179) rfl) rfl
theorem ml_RL_43 : Cond.methodLink RL 43 yX7_does ∈ gt := lt_in 900 (by decide +kernel) rfl
theorem im_yX7_does : Cond.instanceMethod yX7_does ∈ gt := lt_in 901 (by decide +kernel) rfl
theorem se_yX7_does : Cond.selects RX7 yX7_does yX7_does ∈ gt := lt_in 902 (by decide +kernel) rfl
theorem cd_yX7_does : Cond.code yX7_does cX7_does 3 (some .int) ∈ gt := lt_c4 (List.mem_of_getElem? (i := 183) rfl) rfl
theorem ml_RX7_147 : Cond.methodLink RX7 147 yX7_isYear ∈ gt := lt_in 904 (by decide +kernel) rfl
theorem im_yX7_isYear : Cond.instanceMethod yX7_isYear ∈ gt := lt_in 906 (by decide +kernel) rfl
theorem cd_yX7_isYear : Cond.code yX7_isYear cX7_isYear 2 (some .boolean) ∈ gt := lt_c4 (List.mem_of_getElem? (i := 187) rfl) rfl
theorem ml_RX7_150 : Cond.methodLink RX7 150 yX7_notes ∈ gt := lt_in 908 (by decide +kernel) rfl
theorem im_yX7_notes : Cond.instanceMethod yX7_notes ∈ gt := lt_in 910 (by decide +kernel) rfl
theorem cd_yX7_notes : Cond.code yX7_notes cX7_notes 2 none ∈ gt := lt_c4 (List.mem_of_getElem? (i := 191) rfl) rfl
theorem ml_RX7_153 : Cond.methodLink RX7 153 yX7_adds ∈ gt := lt_in 912 (by decide +kernel) rfl
theorem im_yX7_adds : Cond.instanceMethod yX7_adds ∈ gt := lt_in 914 (by decide +kernel) rfl
theorem cd_yX7_adds : Cond.code yX7_adds cX7_adds 3 none ∈ gt := lt_c4 (List.mem_of_getElem? (i := 195) rfl) rfl
theorem ml_RL_47 : Cond.methodLink RL 47 yX7_takes ∈ gt := lt_in 916 (by decide +kernel) rfl
theorem im_yX7_takes : Cond.instanceMethod yX7_takes ∈ gt := lt_in 917 (by decide +kernel) rfl
theorem se_yX7_takes : Cond.selects RX7 yX7_takes yX7_takes ∈ gt := lt_in 918 (by decide +kernel) rfl
theorem cd_yX7_takes : Cond.code yX7_takes cX7_takes 3 (some .int) ∈ gt := lt_c4 (List.mem_of_getElem? (i := 199) rfl) rfl
theorem ml_RL_51 : Cond.methodLink RL 51 yX7_done ∈ gt := lt_in 920 (by decide +kernel) rfl
theorem im_yX7_done : Cond.instanceMethod yX7_done ∈ gt := lt_in 921 (by decide +kernel) rfl
theorem se_yX7_done : Cond.selects RX7 yX7_done yX7_done ∈ gt := lt_in 922 (by decide +kernel) rfl
theorem cd_yX7_done : Cond.code yX7_done cX7_done 3 (some .int) ∈ gt := lt_c4 (List.mem_of_getElem? (i := 203) rfl) rfl
theorem ml_RL_55 : Cond.methodLink RL 55 yX7_undo ∈ gt := lt_in 924 (by decide +kernel) rfl
theorem im_yX7_undo : Cond.instanceMethod yX7_undo ∈ gt := lt_in 925 (by decide +kernel) rfl
theorem se_yX7_undo : Cond.selects RX7 yX7_undo yX7_undo ∈ gt := lt_in 926 (by decide +kernel) rfl
theorem cd_yX7_undo : Cond.code yX7_undo cX7_undo 2 (some .int) ∈ gt := lt_c4 (List.mem_of_getElem? (i := 207) rfl) rfl
theorem ml_RL_59 : Cond.methodLink RL 59 yX7_lives ∈ gt := lt_in 928 (by decide +kernel) rfl
theorem im_yX7_lives : Cond.instanceMethod yX7_lives ∈ gt := lt_in 929 (by decide +kernel) rfl
theorem se_yX7_lives : Cond.selects RX7 yX7_lives yX7_lives ∈ gt := lt_in 930 (by decide +kernel) rfl
theorem cd_yX7_lives : Cond.code yX7_lives cX7_lives 1 (some .int) ∈ gt := lt_c4 (List.mem_of_getElem? (i := 211) rfl) rfl
theorem ml_RX7_178 : Cond.methodLink RX7 178 yX7_beginning ∈ gt := lt_in 932 (by decide +kernel) rfl
theorem im_yX7_beginning : Cond.instanceMethod yX7_beginning ∈ gt := lt_in 934 (by decide +kernel) rfl
theorem cd_yX7_beginning : Cond.code yX7_beginning cX7_beginning 1 (some .int) ∈ gt := lt_c4 (List.mem_of_getElem? (i := 215) rfl) rfl
theorem ml_RX7_181 : Cond.methodLink RX7 181 yX7_livesFrom ∈ gt := lt_in 936 (by decide +kernel) rfl
theorem im_yX7_livesFrom : Cond.instanceMethod yX7_livesFrom ∈ gt := lt_in 938 (by decide +kernel) rfl
theorem cd_yX7_livesFrom : Cond.code yX7_livesFrom cX7_livesFrom 5 (some .int) ∈ gt := lt_c4 (List.mem_of_getElem? (i := 219) rfl) rfl
theorem ml_RX7_170 : Cond.methodLink RX7 170 yX7_rows ∈ gt := lt_in 940 (by decide +kernel) rfl
theorem im_yX7_rows : Cond.instanceMethod yX7_rows ∈ gt := lt_in 942 (by decide +kernel) rfl
theorem cd_yX7_rows : Cond.code yX7_rows cX7_rows 3 (some .int) ∈ gt := lt_c4 (List.mem_of_getElem? (i := 223) rfl) rfl
theorem ml_RX7_174 : Cond.methodLink RX7 174 yX7_isLife ∈ gt := lt_in 944 (by decide +kernel) rfl
theorem im_yX7_isLife : Cond.instanceMethod yX7_isLife ∈ gt := lt_in 946 (by decide +kernel) rfl
theorem cd_yX7_isLife : Cond.code yX7_isLife cX7_isLife 4 (some .boolean) ∈ gt := lt_c4 (List.mem_of_getElem? (i := 227) rfl) rfl
theorem ml_RX7_164 : Cond.methodLink RX7 164 yX7_goes ∈ gt := lt_in 948 (by decide +kernel) rfl
theorem im_yX7_goes : Cond.instanceMethod yX7_goes ∈ gt := lt_in 950 (by decide +kernel) rfl
theorem cd_yX7_goes : Cond.code yX7_goes cX7_goes 8 none ∈ gt := lt_c4 (List.mem_of_getElem? (i := 231) rfl) rfl
theorem ml_RX7_157 : Cond.methodLink RX7 157 yX7_figure ∈ gt := lt_in 952 (by decide +kernel) rfl
theorem sm_yX7_figure : Cond.static yX7_figure ∈ gt := lt_in 953 (by decide +kernel) rfl
theorem cd_yX7_figure : Cond.code yX7_figure cX7_figure 5 (some .int) ∈ gt := lt_c4 (List.mem_of_getElem? (i := 234) rfl) rfl
theorem ml_RX7_167 : Cond.methodLink RX7 167 yX7_words ∈ gt := lt_in 955 (by decide +kernel) rfl
theorem im_yX7_words : Cond.instanceMethod yX7_words ∈ gt := lt_in 957 (by decide +kernel) rfl
theorem cd_yX7_words : Cond.code yX7_words cX7_words 4 (some .int) ∈ gt := lt_c4 (List.mem_of_getElem? (i := 238) rfl) rfl
theorem ml_RX7_161 : Cond.methodLink RX7 161 yX7_word ∈ gt := lt_in 959 (by decide +kernel) rfl
theorem im_yX7_word : Cond.instanceMethod yX7_word ∈ gt := lt_in 961 (by decide +kernel) rfl
theorem cd_yX7_word : Cond.code yX7_word cX7_word 7 (some .int) ∈ gt := lt_c5 (List.mem_of_getElem? (i := 2) rfl) rfl
theorem ml_RL_63 : Cond.methodLink RL 63 yX7_verdict ∈ gt := lt_in 963 (by decide +kernel) rfl
theorem im_yX7_verdict : Cond.instanceMethod yX7_verdict ∈ gt := lt_in 964 (by decide +kernel) rfl
theorem se_yX7_verdict : Cond.selects RX7 yX7_verdict yX7_verdict ∈ gt := lt_in 965 (by decide +kernel) rfl
theorem cd_yX7_verdict : Cond.code yX7_verdict cX7_verdict 4 (some .int) ∈ gt := lt_c5 (List.mem_of_getElem? (i := 6) rfl) rfl
theorem ml_RX7_184 : Cond.methodLink RX7 184 yX7_gone ∈ gt := lt_in 967 (by decide +kernel) rfl
theorem im_yX7_gone : Cond.instanceMethod yX7_gone ∈ gt := lt_in 969 (by decide +kernel) rfl
theorem cd_yX7_gone : Cond.code yX7_gone cX7_gone 4 (some .int) ∈ gt := lt_c5 (List.mem_of_getElem? (i := 10) rfl) rfl
theorem ml_RL_67 : Cond.methodLink RL 67 yX7_self ∈ gt := lt_in 971 (by decide +kernel) rfl
theorem im_yX7_self : Cond.instanceMethod yX7_self ∈ gt := lt_in 972 (by decide +kernel) rfl
theorem se_yX7_self : Cond.selects RX7 yX7_self yX7_self ∈ gt := lt_in 973 (by decide +kernel) rfl
theorem cd_yX7_self : Cond.code yX7_self cX7_self 3 (some .int) ∈ gt := lt_c5 (List.mem_of_getElem? (i := 14) rfl) rfl
theorem ml_RL_71 : Cond.methodLink RL 71 yX7_sure ∈ gt := lt_in 975 (by decide +kernel) rfl
theorem im_yX7_sure : Cond.instanceMethod yX7_sure ∈ gt := lt_in 976 (by decide +kernel) rfl
theorem se_yX7_sure : Cond.selects RX7 yX7_sure yX7_sure ∈ gt := lt_in 977 (by decide +kernel) rfl
theorem cd_yX7_sure : Cond.code yX7_sure cX7_sure 2 (some .int) ∈ gt := lt_c5 (List.mem_of_getElem? (i := 18) rfl) rfl
theorem ml_RX7_187 : Cond.methodLink RX7 187 yX7_sureFrom ∈ gt := lt_in 979 (by decide +kernel) rfl
theorem im_yX7_sureFrom : Cond.instanceMethod yX7_sureFrom ∈ gt := lt_in 981 (by decide +kernel) rfl
theorem cd_yX7_sureFrom : Cond.code yX7_sureFrom cX7_sureFrom 6 (some .int) ∈ gt := lt_c5 (List.mem_of_getElem? (i := 22) rfl) rfl
theorem ml_RL_75 : Cond.methodLink RL 75 yX7_who ∈ gt := lt_in 983 (by decide +kernel) rfl
theorem im_yX7_who : Cond.instanceMethod yX7_who ∈ gt := lt_in 984 (by decide +kernel) rfl
theorem se_yX7_who : Cond.selects RX7 yX7_who yX7_who ∈ gt := lt_in 985 (by decide +kernel) rfl
theorem cd_yX7_who : Cond.code yX7_who cX7_who 4 (some .int) ∈ gt := lt_c5 (List.mem_of_getElem? (i := 26) rfl) rfl
theorem ml_RL_79 : Cond.methodLink RL 79 yX7_ring ∈ gt := lt_in 987 (by decide +kernel) rfl
theorem im_yX7_ring : Cond.instanceMethod yX7_ring ∈ gt := lt_in 988 (by decide +kernel) rfl
theorem se_yX7_ring : Cond.selects RX7 yX7_ring yX7_ring ∈ gt := lt_in 989 (by decide +kernel) rfl
theorem cd_yX7_ring : Cond.code yX7_ring cX7_ring 4 (some .int) ∈ gt := lt_c5 (List.mem_of_getElem? (i := 30) rfl) rfl
theorem ml_RL_83 : Cond.methodLink RL 83 yX7_help ∈ gt := lt_in 991 (by decide +kernel) rfl
theorem im_yX7_help : Cond.instanceMethod yX7_help ∈ gt := lt_in 992 (by decide +kernel) rfl
theorem se_yX7_help : Cond.selects RX7 yX7_help yX7_help ∈ gt := lt_in 993 (by decide +kernel) rfl
theorem cd_yX7_help : Cond.code yX7_help cX7_help 9 (some .int) ∈ gt := lt_c5 (List.mem_of_getElem? (i := 34) rfl) rfl
theorem ml_RL_88 : Cond.methodLink RL 88 yX7_strikes ∈ gt := lt_in 995 (by decide +kernel) rfl
theorem im_yX7_strikes : Cond.instanceMethod yX7_strikes ∈ gt := lt_in 996 (by decide +kernel) rfl
theorem se_yX7_strikes : Cond.selects RX7 yX7_strikes yX7_strikes ∈ gt := lt_in 997 (by decide +kernel) rfl
theorem cd_yX7_strikes : Cond.code yX7_strikes cX7_strikes 9 (some .int) ∈ gt := lt_c5 (List.mem_of_getElem? (i := 38) rfl) rfl
theorem cl_RX7_190 : Cond.constantLong RX7 190 (9) ∈ gt := lt_in 999 (by decide +kernel) rfl
theorem ml_RL_92 : Cond.methodLink RL 92 yX7_innocent ∈ gt := lt_in 1000 (by decide +kernel) rfl
theorem im_yX7_innocent : Cond.instanceMethod yX7_innocent ∈ gt := lt_in 1001 (by decide +kernel) rfl
theorem se_yX7_innocent : Cond.selects RX7 yX7_innocent yX7_innocent ∈ gt := lt_in 1002 (by decide +kernel) rfl
theorem cd_yX7_innocent : Cond.code yX7_innocent cX7_innocent 4 (some .int) ∈ gt := lt_c5 (List.mem_of_getElem? (i := 43) rfl) rfl
theorem ml_RL_96 : Cond.methodLink RL 96 yX7_odds ∈ gt := lt_in 1004 (by decide +kernel) rfl
theorem im_yX7_odds : Cond.instanceMethod yX7_odds ∈ gt := lt_in 1005 (by decide +kernel) rfl
theorem se_yX7_odds : Cond.selects RX7 yX7_odds yX7_odds ∈ gt := lt_in 1006 (by decide +kernel) rfl
theorem cd_yX7_odds : Cond.code yX7_odds cX7_odds 5 (some .int) ∈ gt := lt_c5 (List.mem_of_getElem? (i := 47) rfl) rfl
theorem ml_RX7_192 : Cond.methodLink RX7 192 yX7_innocent ∈ gt := lt_in 1008 (by decide +kernel) rfl
theorem ml_RX7_195 : Cond.methodLink RX7 195 yX7_many ∈ gt := lt_in 1009 (by decide +kernel) rfl
theorem sm_yX7_many : Cond.static yX7_many ∈ gt := lt_in 1010 (by decide +kernel) rfl
theorem cd_yX7_many : Cond.code yX7_many cX7_many 3 (some .int) ∈ gt := lt_c5 (List.mem_of_getElem? (i := 51) rfl) rfl
theorem ml_RX7_198 : Cond.methodLink RX7 198 yX7_common ∈ gt := lt_in 1012 (by decide +kernel) rfl
theorem sm_yX7_common : Cond.static yX7_common ∈ gt := lt_in 1013 (by decide +kernel) rfl
theorem cd_yX7_common : Cond.code yX7_common cX7_common 5 (some .int) ∈ gt := lt_c5 (List.mem_of_getElem? (i := 54) rfl) rfl
theorem ml_RL_100 : Cond.methodLink RL 100 yX7_saw ∈ gt := lt_in 1015 (by decide +kernel) rfl
theorem im_yX7_saw : Cond.instanceMethod yX7_saw ∈ gt := lt_in 1016 (by decide +kernel) rfl
theorem se_yX7_saw : Cond.selects RX7 yX7_saw yX7_saw ∈ gt := lt_in 1017 (by decide +kernel) rfl
theorem cd_yX7_saw : Cond.code yX7_saw cX7_saw 3 (some .int) ∈ gt := lt_c5 (List.mem_of_getElem? (i := 58) rfl) rfl
theorem ml_RL_104 : Cond.methodLink RL 104 yX7_forget ∈ gt := lt_in 1019 (by decide +kernel) rfl
theorem im_yX7_forget : Cond.instanceMethod yX7_forget ∈ gt := lt_in 1020 (by decide +kernel) rfl
theorem se_yX7_forget : Cond.selects RX7 yX7_forget yX7_forget ∈ gt := lt_in 1021 (by decide +kernel) rfl
theorem cd_yX7_forget : Cond.code yX7_forget cX7_forget 2 (some .int) ∈ gt := lt_c5 (List.mem_of_getElem? (i := 62) rfl) rfl
theorem ml_RL_108 : Cond.methodLink RL 108 yX7_fits ∈ gt := lt_in 1023 (by decide +kernel) rfl
theorem im_yX7_fits : Cond.instanceMethod yX7_fits ∈ gt := lt_in 1024 (by decide +kernel) rfl
theorem se_yX7_fits : Cond.selects RX7 yX7_fits yX7_fits ∈ gt := lt_in 1025 (by decide +kernel) rfl
theorem cd_yX7_fits : Cond.code yX7_fits cX7_fits 6 (some .int) ∈ gt := lt_c5 (List.mem_of_getElem? (i := 66) rfl) rfl
theorem ml_RL_112 : Cond.methodLink RL 112 yX7_quorum ∈ gt := lt_in 1027 (by decide +kernel) rfl
theorem im_yX7_quorum : Cond.instanceMethod yX7_quorum ∈ gt := lt_in 1028 (by decide +kernel) rfl
theorem se_yX7_quorum : Cond.selects RX7 yX7_quorum yX7_quorum ∈ gt := lt_in 1029 (by decide +kernel) rfl
theorem cd_yX7_quorum : Cond.code yX7_quorum cX7_quorum 2 (some .int) ∈ gt := lt_c5 (List.mem_of_getElem? (i := 70) rfl) rfl
theorem ml_RL_116 : Cond.methodLink RL 116 yX7_mark ∈ gt := lt_in 1031 (by decide +kernel) rfl
theorem im_yX7_mark : Cond.instanceMethod yX7_mark ∈ gt := lt_in 1032 (by decide +kernel) rfl
theorem se_yX7_mark : Cond.selects RX7 yX7_mark yX7_mark ∈ gt := lt_in 1033 (by decide +kernel) rfl
theorem cd_yX7_mark : Cond.code yX7_mark cX7_mark 3 (some .int) ∈ gt := lt_c5 (List.mem_of_getElem? (i := 74) rfl) rfl
theorem cl_RX7_201 : Cond.constantLong RX7 201 (5) ∈ gt := lt_in 1035 (by decide +kernel) rfl
theorem cl_RX7_207 : Cond.constantLong RX7 207 (11) ∈ gt := lt_in 1036 (by decide +kernel) rfl
theorem cl_RX7_209 : Cond.constantLong RX7 209 (101) ∈ gt := lt_in 1037 (by decide +kernel) rfl
theorem cl_RX7_211 : Cond.constantLong RX7 211 (1011) ∈ gt := lt_in 1038 (by decide +kernel) rfl
theorem cl_RX7_213 : Cond.constantLong RX7 213 (10101) ∈ gt := lt_in 1039 (by decide +kernel) rfl
theorem cl_RX7_215 : Cond.constantLong RX7 215 (100001) ∈ gt := lt_in 1040 (by decide +kernel) rfl
theorem ml_RL_133 : Cond.methodLink RL 133 yX7_trace ∈ gt := lt_in 1041 (by decide +kernel) rfl
theorem im_yX7_trace : Cond.instanceMethod yX7_trace ∈ gt := lt_in 1042 (by decide +kernel) rfl
theorem se_yX7_trace : Cond.selects RX7 yX7_trace yX7_trace ∈ gt := lt_in 1043 (by decide +kernel) rfl
theorem cd_yX7_trace : Cond.code yX7_trace cX7_trace 1 (some .long) ∈ gt := lt_c5 (List.mem_of_getElem? (i := 84) rfl) rfl
theorem ml_RL_120 : Cond.methodLink RL 120 yX7_keep ∈ gt := lt_in 1045 (by decide +kernel) rfl
theorem im_yX7_keep : Cond.instanceMethod yX7_keep ∈ gt := lt_in 1046 (by decide +kernel) rfl
theorem se_yX7_keep : Cond.selects RX7 yX7_keep yX7_keep ∈ gt := lt_in 1047 (by decide +kernel) rfl
theorem cd_yX7_keep : Cond.code yX7_keep cX7_keep 4 (some .int) ∈ gt := lt_c5 (List.mem_of_getElem? (i := 88) rfl) rfl
theorem ml_RL_124 : Cond.methodLink RL 124 yX7_back ∈ gt := lt_in 1049 (by decide +kernel) rfl
theorem im_yX7_back : Cond.instanceMethod yX7_back ∈ gt := lt_in 1050 (by decide +kernel) rfl
theorem se_yX7_back : Cond.selects RX7 yX7_back yX7_back ∈ gt := lt_in 1051 (by decide +kernel) rfl
theorem cd_yX7_back : Cond.code yX7_back cX7_back 4 (some .int) ∈ gt := lt_c5 (List.mem_of_getElem? (i := 92) rfl) rfl
theorem ml_RL_128 : Cond.methodLink RL 128 yX7_count ∈ gt := lt_in 1053 (by decide +kernel) rfl
theorem im_yX7_count : Cond.instanceMethod yX7_count ∈ gt := lt_in 1054 (by decide +kernel) rfl
theorem se_yX7_count : Cond.selects RX7 yX7_count yX7_count ∈ gt := lt_in 1055 (by decide +kernel) rfl
theorem cd_yX7_count : Cond.code yX7_count cX7_count 2 (some .int) ∈ gt := lt_c5 (List.mem_of_getElem? (i := 96) rfl) rfl
theorem se_yX6_isState : Cond.selects RX6 yX6_isState yX6_isState ∈ gt := List.mem_filter.mpr ⟨List.mem_append_left _ (List.mem_of_getElem? (i := 0) (by decide +kernel)), rfl⟩
theorem se_yX6_isTrial : Cond.selects RX6 yX6_isTrial yX6_isTrial ∈ gt := List.mem_filter.mpr ⟨List.mem_append_left _ (List.mem_of_getElem? (i := 1) (by decide +kernel)), rfl⟩
theorem se_yX6_isDeed : Cond.selects RX6 yX6_isDeed yX6_isDeed ∈ gt := List.mem_filter.mpr ⟨List.mem_append_left _ (List.mem_of_getElem? (i := 2) (by decide +kernel)), rfl⟩
theorem se_yX6_isYear : Cond.selects RX6 yX6_isYear yX6_isYear ∈ gt := List.mem_filter.mpr ⟨List.mem_append_left _ (List.mem_of_getElem? (i := 3) (by decide +kernel)), rfl⟩
theorem se_yX6_findLife : Cond.selects RX6 yX6_findLife yX6_findLife ∈ gt := List.mem_filter.mpr ⟨List.mem_append_left _ (List.mem_of_getElem? (i := 4) (by decide +kernel)), rfl⟩
theorem se_yX6_innocentBits : Cond.selects RX6 yX6_innocentBits yX6_innocentBits ∈ gt := List.mem_filter.mpr ⟨List.mem_append_left _ (List.mem_of_getElem? (i := 5) (by decide +kernel)), rfl⟩
theorem se_yX6_someLifeFits : Cond.selects RX6 yX6_someLifeFits yX6_someLifeFits ∈ gt := List.mem_filter.mpr ⟨List.mem_append_left _ (List.mem_of_getElem? (i := 6) (by decide +kernel)), rfl⟩
theorem se_yX6_allSeenIsSo : Cond.selects RX6 yX6_allSeenIsSo yX6_allSeenIsSo ∈ gt := List.mem_filter.mpr ⟨List.mem_append_left _ (List.mem_of_getElem? (i := 7) (by decide +kernel)), rfl⟩
theorem se_yX6_markOfSelf : Cond.selects RX6 yX6_markOfSelf yX6_markOfSelf ∈ gt := List.mem_filter.mpr ⟨List.mem_append_left _ (List.mem_of_getElem? (i := 8) (by decide +kernel)), rfl⟩
theorem se_yX6_markOfChild : Cond.selects RX6 yX6_markOfChild yX6_markOfChild ∈ gt := List.mem_filter.mpr ⟨List.mem_append_left _ (List.mem_of_getElem? (i := 9) (by decide +kernel)), rfl⟩
theorem se_yX6_markOfElder : Cond.selects RX6 yX6_markOfElder yX6_markOfElder ∈ gt := List.mem_filter.mpr ⟨List.mem_append_left _ (List.mem_of_getElem? (i := 10) (by decide +kernel)), rfl⟩
theorem se_yX6_markOfBitter : Cond.selects RX6 yX6_markOfBitter yX6_markOfBitter ∈ gt := List.mem_filter.mpr ⟨List.mem_append_left _ (List.mem_of_getElem? (i := 11) (by decide +kernel)), rfl⟩
theorem se_yX6_markOfLenient : Cond.selects RX6 yX6_markOfLenient yX6_markOfLenient ∈ gt := List.mem_filter.mpr ⟨List.mem_append_left _ (List.mem_of_getElem? (i := 12) (by decide +kernel)), rfl⟩
theorem se_yX6_markOfGhost : Cond.selects RX6 yX6_markOfGhost yX6_markOfGhost ∈ gt := List.mem_filter.mpr ⟨List.mem_append_left _ (List.mem_of_getElem? (i := 13) (by decide +kernel)), rfl⟩
theorem se_yX7_plain : Cond.selects RX7 yX7_plain yX7_plain ∈ gt := List.mem_filter.mpr ⟨List.mem_append_left _ (List.mem_of_getElem? (i := 14) (by decide +kernel)), rfl⟩
theorem se_yX7_takesIt : Cond.selects RX7 yX7_takesIt yX7_takesIt ∈ gt := List.mem_filter.mpr ⟨List.mem_append_left _ (List.mem_of_getElem? (i := 15) (by decide +kernel)), rfl⟩
theorem se_yX7_reads : Cond.selects RX7 yX7_reads yX7_reads ∈ gt := List.mem_filter.mpr ⟨List.mem_append_left _ (List.mem_of_getElem? (i := 16) (by decide +kernel)), rfl⟩
theorem se_yX7_readLetters : Cond.selects RX7 yX7_readLetters yX7_readLetters ∈ gt := List.mem_filter.mpr ⟨List.mem_append_left _ (List.mem_of_getElem? (i := 17) (by decide +kernel)), rfl⟩
theorem se_yX7_readNumber : Cond.selects RX7 yX7_readNumber yX7_readNumber ∈ gt := List.mem_filter.mpr ⟨List.mem_append_left _ (List.mem_of_getElem? (i := 18) (by decide +kernel)), rfl⟩
theorem se_yX7_readItem : Cond.selects RX7 yX7_readItem yX7_readItem ∈ gt := List.mem_filter.mpr ⟨List.mem_append_left _ (List.mem_of_getElem? (i := 19) (by decide +kernel)), rfl⟩
theorem se_yX7_once : Cond.selects RX7 yX7_once yX7_once ∈ gt := List.mem_filter.mpr ⟨List.mem_append_left _ (List.mem_of_getElem? (i := 20) (by decide +kernel)), rfl⟩
theorem se_yX7_number : Cond.selects RX7 yX7_number yX7_number ∈ gt := List.mem_filter.mpr ⟨List.mem_append_left _ (List.mem_of_getElem? (i := 21) (by decide +kernel)), rfl⟩
theorem se_yX7_ends : Cond.selects RX7 yX7_ends yX7_ends ∈ gt := List.mem_filter.mpr ⟨List.mem_append_left _ (List.mem_of_getElem? (i := 22) (by decide +kernel)), rfl⟩
theorem se_yX7_readState : Cond.selects RX7 yX7_readState yX7_readState ∈ gt := List.mem_filter.mpr ⟨List.mem_append_left _ (List.mem_of_getElem? (i := 23) (by decide +kernel)), rfl⟩
theorem se_yX7_readTrial : Cond.selects RX7 yX7_readTrial yX7_readTrial ∈ gt := List.mem_filter.mpr ⟨List.mem_append_left _ (List.mem_of_getElem? (i := 24) (by decide +kernel)), rfl⟩
theorem se_yX7_readDeed : Cond.selects RX7 yX7_readDeed yX7_readDeed ∈ gt := List.mem_filter.mpr ⟨List.mem_append_left _ (List.mem_of_getElem? (i := 25) (by decide +kernel)), rfl⟩
theorem se_yX7_isState : Cond.selects RX7 yX7_isState yX7_isState ∈ gt := List.mem_filter.mpr ⟨List.mem_append_left _ (List.mem_of_getElem? (i := 26) (by decide +kernel)), rfl⟩
theorem se_yX7_lean : Cond.selects RX7 yX7_lean yX7_lean ∈ gt := List.mem_filter.mpr ⟨List.mem_append_left _ (List.mem_of_getElem? (i := 27) (by decide +kernel)), rfl⟩
theorem se_yX7_of : Cond.selects RX7 yX7_of yX7_of ∈ gt := List.mem_filter.mpr ⟨List.mem_append_left _ (List.mem_of_getElem? (i := 28) (by decide +kernel)), rfl⟩
theorem se_yX7_isTrial : Cond.selects RX7 yX7_isTrial yX7_isTrial ∈ gt := List.mem_filter.mpr ⟨List.mem_append_left _ (List.mem_of_getElem? (i := 29) (by decide +kernel)), rfl⟩
theorem se_yX7_isYear : Cond.selects RX7 yX7_isYear yX7_isYear ∈ gt := List.mem_filter.mpr ⟨List.mem_append_left _ (List.mem_of_getElem? (i := 30) (by decide +kernel)), rfl⟩
theorem se_yX7_notes : Cond.selects RX7 yX7_notes yX7_notes ∈ gt := List.mem_filter.mpr ⟨List.mem_append_left _ (List.mem_of_getElem? (i := 31) (by decide +kernel)), rfl⟩
theorem se_yX7_adds : Cond.selects RX7 yX7_adds yX7_adds ∈ gt := List.mem_filter.mpr ⟨List.mem_append_left _ (List.mem_of_getElem? (i := 32) (by decide +kernel)), rfl⟩
theorem se_yX7_beginning : Cond.selects RX7 yX7_beginning yX7_beginning ∈ gt := List.mem_filter.mpr ⟨List.mem_append_left _ (List.mem_of_getElem? (i := 33) (by decide +kernel)), rfl⟩
theorem se_yX7_livesFrom : Cond.selects RX7 yX7_livesFrom yX7_livesFrom ∈ gt := List.mem_filter.mpr ⟨List.mem_append_left _ (List.mem_of_getElem? (i := 34) (by decide +kernel)), rfl⟩
theorem se_yX7_rows : Cond.selects RX7 yX7_rows yX7_rows ∈ gt := List.mem_filter.mpr ⟨List.mem_append_left _ (List.mem_of_getElem? (i := 35) (by decide +kernel)), rfl⟩
theorem se_yX7_isLife : Cond.selects RX7 yX7_isLife yX7_isLife ∈ gt := List.mem_filter.mpr ⟨List.mem_append_left _ (List.mem_of_getElem? (i := 36) (by decide +kernel)), rfl⟩
theorem se_yX7_goes : Cond.selects RX7 yX7_goes yX7_goes ∈ gt := List.mem_filter.mpr ⟨List.mem_append_left _ (List.mem_of_getElem? (i := 37) (by decide +kernel)), rfl⟩
theorem se_yX7_words : Cond.selects RX7 yX7_words yX7_words ∈ gt := List.mem_filter.mpr ⟨List.mem_append_left _ (List.mem_of_getElem? (i := 38) (by decide +kernel)), rfl⟩
theorem se_yX7_word : Cond.selects RX7 yX7_word yX7_word ∈ gt := List.mem_filter.mpr ⟨List.mem_append_left _ (List.mem_of_getElem? (i := 39) (by decide +kernel)), rfl⟩
theorem se_yX7_gone : Cond.selects RX7 yX7_gone yX7_gone ∈ gt := List.mem_filter.mpr ⟨List.mem_append_left _ (List.mem_of_getElem? (i := 40) (by decide +kernel)), rfl⟩
theorem se_yX7_sureFrom : Cond.selects RX7 yX7_sureFrom yX7_sureFrom ∈ gt := List.mem_filter.mpr ⟨List.mem_append_left _ (List.mem_of_getElem? (i := 41) (by decide +kernel)), rfl⟩
