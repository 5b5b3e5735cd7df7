/-! THE LAW'S WORDS AMONG THE TABLES' -/
def pkw (q : Nat × Nat) : Option Cond := match q.1 with
  | 0 => (k2_sels lw_privs)[q.2]?
  | 1 => tables_1_1[q.2]?
  | 2 => tables_1_2[q.2]?
  | 3 => tables_1_3[q.2]?
  | 4 => tables_1_4[q.2]?
  | _ => tables_1_5[q.2]?
theorem pkw_in {q : Nat × Nat} {w : Cond} (h : pkw q = some w) : w ∈ lw_tbl := by
  unfold pkw at h
  unfold lw_tbl tables_1
  split at h
  · exact List.mem_append_left _ (List.mem_of_getElem? h)
  · exact List.mem_append_right _ (List.mem_append_left _ (List.mem_of_getElem? h))
  · exact List.mem_append_right _ (List.mem_append_right _ (List.mem_append_left _ (List.mem_of_getElem? h)))
  · exact List.mem_append_right _ (List.mem_append_right _ (List.mem_append_right _ (List.mem_append_left _ (List.mem_of_getElem? h))))
  · exact List.mem_append_right _ (List.mem_append_right _ (List.mem_append_right _ (List.mem_append_right _ (List.mem_append_left _ (List.mem_of_getElem? h)))))
  · exact List.mem_append_right _ (List.mem_append_right _ (List.mem_append_right _ (List.mem_append_right _ (List.mem_append_right _ (List.mem_of_getElem? h)))))
theorem pkw_all {ws : List Cond} (ps : List (Nat × Nat)) (hp : ws = ps.filterMap pkw) : ∀ w ∈ ws, w ∈ lw_tbl := by
  intro w hw
  rw [hp] at hw
  obtain ⟨q, -, hq⟩ := List.mem_filterMap.mp hw
  exact pkw_in hq
set_option maxRecDepth 20000 in
theorem lin_X0 : ∀ w ∈ wsX00, w ∈ lw_tbl := pkw_all [(1, 109), (1, 111), (1, 113), (1, 115), (1, 117)] (by decide +kernel)
set_option maxRecDepth 20000 in
theorem lin_X1 : ∀ w ∈ wsX10, w ∈ lw_tbl := pkw_all [(1, 160), (1, 162)] (by decide +kernel)
set_option maxRecDepth 20000 in
theorem lin_X2 : ∀ w ∈ wsX20, w ∈ lw_tbl := pkw_all [(1, 128), (1, 130)] (by decide +kernel)
set_option maxRecDepth 20000 in
theorem lin_X3 : ∀ w ∈ wsX30, w ∈ lw_tbl := pkw_all [(1, 143), (1, 145), (1, 147)] (by decide +kernel)
set_option maxRecDepth 20000 in
theorem lin_X4 : ∀ w ∈ wsX40, w ∈ lw_tbl := pkw_all [(1, 63), (1, 65), (1, 67), (1, 69), (1, 71)] (by decide +kernel)
set_option maxRecDepth 20000 in
theorem lin_X5 : ∀ w ∈ wsX50, w ∈ lw_tbl := pkw_all [(1, 176), (1, 178), (1, 180)] (by decide +kernel)
set_option maxRecDepth 20000 in
theorem lin_X6 : ∀ w ∈ wsX60, w ∈ lw_tbl := pkw_all [(1, 83), (1, 85), (1, 87), (1, 89), (1, 91)] (by decide +kernel)
set_option maxRecDepth 20000 in
theorem lin_X7 : ∀ w ∈ wsX70, w ∈ lw_tbl := pkw_all [(1, 194), (1, 196), (1, 198), (1, 200), (1, 202), (1, 204), (1, 206), (1, 208), (1, 210), (1, 212), (1, 214)] (by decide +kernel)
set_option maxRecDepth 20000 in
theorem lin_X8 : ∀ w ∈ wsX80, w ∈ lw_tbl := pkw_all [(4, 80), (4, 82), (4, 84), (4, 86), (4, 88), (4, 90), (4, 92), (4, 94), (4, 96), (4, 98), (4, 100), (4, 102), (4, 104), (4, 106), (4, 108), (4, 110), (4, 112), (4, 114), (4, 116), (4, 118), (4, 120), (4, 122), (4, 124)] (by decide +kernel)
theorem tw_inst0 : (.instantiable RX0 5 : Cond) ∈ lw_tbl := pkw_in (q := (1, 98)) (by decide +kernel)
theorem tw_inst1 : (.instantiable RX1 2 : Cond) ∈ lw_tbl := pkw_in (q := (1, 151)) (by decide +kernel)
theorem tw_inst2 : (.instantiable RX2 2 : Cond) ∈ lw_tbl := pkw_in (q := (1, 121)) (by decide +kernel)
theorem tw_inst3 : (.instantiable RX3 3 : Cond) ∈ lw_tbl := pkw_in (q := (1, 134)) (by decide +kernel)
theorem tw_inst4 : (.instantiable RX4 5 : Cond) ∈ lw_tbl := pkw_in (q := (1, 36)) (by decide +kernel)
theorem tw_inst5 : (.instantiable RX5 3 : Cond) ∈ lw_tbl := pkw_in (q := (1, 165)) (by decide +kernel)
theorem tw_inst6 : (.instantiable RX6 5 : Cond) ∈ lw_tbl := pkw_in (q := (1, 30)) (by decide +kernel)
theorem tw_inst7 : (.instantiable RX7 11 : Cond) ∈ lw_tbl := pkw_in (q := (1, 20)) (by decide +kernel)
theorem tw_inst8 : (.instantiable RX8 23 : Cond) ∈ lw_tbl := pkw_in (q := (4, 52)) (by decide +kernel)
theorem tw_ini7 : (.initialized RX7 : Cond) ∈ lw_tbl := pkw_in (q := (1, 1)) (by decide +kernel)
theorem tw_cl7 : (.classLink RL 7 RX7 : Cond) ∈ lw_tbl := pkw_in (q := (1, 19)) (by decide +kernel)
theorem tw_ml7 : (.methodLink RL 9 yX7_init : Cond) ∈ lw_tbl := pkw_in (q := (1, 21)) (by decide +kernel)
theorem tw_im7 : (.instanceMethod yX7_init : Cond) ∈ lw_tbl := pkw_in (q := (1, 22)) (by decide +kernel)
theorem tw_ini8 : (.initialized RX8 : Cond) ∈ lw_tbl := pkw_in (q := (1, 9)) (by decide +kernel)
theorem tw_cl8 : (.classLink RL 10 RX8 : Cond) ∈ lw_tbl := pkw_in (q := (4, 51)) (by decide +kernel)
theorem tw_ml8 : (.methodLink RL 12 yX8_init : Cond) ∈ lw_tbl := pkw_in (q := (4, 53)) (by decide +kernel)
theorem tw_im8 : (.instanceMethod yX8_init : Cond) ∈ lw_tbl := pkw_in (q := (4, 54)) (by decide +kernel)
theorem tw_arrI : (.arrayClass .int : Cond) ∈ lw_tbl := pkw_in (q := (1, 74)) (by decide +kernel)
theorem tw_nest6_17 : (.methodLinkNest RX6 17 yX4_init "NicheSaints" : Cond) ∈ lw_tbl := pkw_in (q := (1, 37)) (by decide +kernel)
theorem tw_nest7_17 : (.methodLinkNest RX7 17 yX6_init "NicheSaints" : Cond) ∈ lw_tbl := pkw_in (q := (1, 31)) (by decide +kernel)
theorem tw_nest7_24 : (.methodLinkNest RX7 24 yX4_init "NicheSaints" : Cond) ∈ lw_tbl := pkw_in (q := (1, 95)) (by decide +kernel)
theorem tw_nest7_38 : (.methodLinkNest RX7 38 yX0_init "NicheSaints" : Cond) ∈ lw_tbl := pkw_in (q := (1, 99)) (by decide +kernel)
theorem tw_nest7_45 : (.methodLinkNest RX7 45 yX2_init "NicheSaints" : Cond) ∈ lw_tbl := pkw_in (q := (1, 122)) (by decide +kernel)
theorem tw_nest7_52 : (.methodLinkNest RX7 52 yX3_init "NicheSaints" : Cond) ∈ lw_tbl := pkw_in (q := (1, 135)) (by decide +kernel)
theorem tw_nest7_59 : (.methodLinkNest RX7 59 yX1_init "NicheSaints" : Cond) ∈ lw_tbl := pkw_in (q := (1, 152)) (by decide +kernel)
theorem tw_nest7_68 : (.methodLinkNest RX7 68 yX5_init "NicheSaints" : Cond) ∈ lw_tbl := pkw_in (q := (1, 166)) (by decide +kernel)
theorem tw_ao5 : (.arrayOver (.object RX5) : Cond) ∈ lw_tbl := pkw_in (q := (1, 28)) (by decide +kernel)
theorem tw_ao4 : (.arrayOver (.object RX4) : Cond) ∈ lw_tbl := pkw_in (q := (1, 96)) (by decide +kernel)
theorem tw_fn1 : (.fieldLinkNest RX1 24 "NicheSaints" "SIZE_BODY" "[I" "NicheSaints" : Cond) ∈ lw_tbl := pkw_in (q := (4, 21)) (by decide +kernel)
theorem tw_fn2 : (.fieldLinkNest RX1 27 "NicheSaints" "MARK_BODY" "[I" "NicheSaints" : Cond) ∈ lw_tbl := pkw_in (q := (4, 23)) (by decide +kernel)
theorem tw_str : (.stringRef RX6 76 "gspho" : Cond) ∈ lw_tbl := pkw_in (q := (2, 88)) (by decide +kernel)
theorem tw_ls4 : (.laysStatic "java/lang/String" "COMPACT_STRINGS" "Z" : Cond) ∈ lw_tbl := pkw_in (q := (2, 102)) (by decide +kernel)
theorem tw_iniS : (.initialized "java/lang/String" : Cond) ∈ lw_tbl := pkw_in (q := (1, 13)) (by decide +kernel)
theorem tw_iniN : (.initialized "NicheSaints" : Cond) ∈ lw_tbl := pkw_in (q := (1, 1)) (by decide +kernel)
theorem tw_ls0 : (.laysStatic "NicheSaints" "WIDER" "[I" : Cond) ∈ lw_tbl := pkw_in (q := (4, 12)) (by decide +kernel)
theorem tw_ls1 : (.laysStatic "NicheSaints" "SIZE_BODY" "[I" : Cond) ∈ lw_tbl := pkw_in (q := (4, 22)) (by decide +kernel)
theorem tw_ls2 : (.laysStatic "NicheSaints" "MARK_BODY" "[I" : Cond) ∈ lw_tbl := pkw_in (q := (4, 24)) (by decide +kernel)
