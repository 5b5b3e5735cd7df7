section Rules2
variable {d : Nat} {y : MethodName} {cc : ByteArray} {nL : Nat} {ret : Option FieldType} {ws : List Cond} {pc : Nat} {lv : List (Nat × Value)} {st : List Value} {M : Mm} {Q : Int32 → Mm → Prop}
theorem wl_obj (G : Gg) (M : Mm) {o : Nat} (ho : o < 65) (hc : ob_c o < 9) : (wl G M)[o]? = some (G.2.2 o, .inr (ob_c o, (List.range (ob_nf (ob_c o))).map (ob_f G o (M o)))) := by
  rw [wl_get G M ho, ob_e_o G (M o) hc]
theorem wl_int (G : Gg) (M : Mm) {o : Nat} (ho : o < 65) (hc : ob_c o = 9) : (wl G M)[o]? = some (G.2.2 o, .inl (G.2.1 0, ob_n o, .inl (M o))) := by
  rw [wl_get G M ho, ob_e_i G (M o) hc]
theorem wl_ref (G : Gg) (M : Mm) {o : Nat} (ho : o < 65) (hc : 9 < ob_c o) : (wl G M)[o]? = some (G.2.2 o, .inl (G.2.1 (ob_c o - 9), ob_n o, .inr (.inr (.inr (.inr (fun j => (ob_r o j).map G.2.2)))))) := by
  rw [wl_get G M ho, ob_e_r G (M o) hc]
theorem wl_upd_f (G : Gg) {M : Mm} {o j : Nat} {x : Int32} (ho : o < 65) (hc : ob_c o < 9) (hr : ob_r o j = none) : (wl G M).set o (G.2.2 o, .inr (ob_c o, ((List.range (ob_nf (ob_c o))).map (ob_f G o (M o))).set j (.int x))) = wl G (upd2 M o j x) := by
  refine wl_set G ho ?_ (fun i hi => upd2_ne hi)
  rw [ob_e_o G _ hc, upd2_eq, ob_put G hr]
theorem wl_upd_a (G : Gg) {M : Mm} {o j : Nat} {x : Int32} (ho : o < 65) (hc : ob_c o = 9) : (wl G M).set o (G.2.2 o, .inl (G.2.1 0, ob_n o, .inl (upd (M o) j x))) = wl G (upd2 M o j x) := by
  refine wl_set G ho ?_ (fun i hi => upd2_ne hi)
  rw [ob_e_i G _ hc, upd2_eq]
theorem wl_upd_r (G : Gg) {M : Mm} {o : Nat} {f : Nat → Int32} (ho : o < 65) (hc : ob_c o = 9) : (wl G M).set o (G.2.2 o, .inl (G.2.1 0, ob_n o, .inl f)) = wl G (setR M o f) := by
  refine wl_set G ho ?_ (fun i hi => setR_ne hi)
  rw [ob_e_i G _ hc, setR_eq]
/-- getfield of object o's slot j -/
theorem B_getf {Cn : String} {T : u_T} {N index : Nat} (o j : Nat) {v : Value} (hd : decode cc pc = .ok (.getfield index, 3)) (hin : ∀ w ∈ u_ws Cn T N, w ∈ ws) (hlk : Cond.fieldLink y.cls index (T j).1 (T j).2.1 (T j).2.2.1 ∈ ws)
    (ho : o < 65) (hc9 : ob_c o < 9) (hcl : vwCl[ob_c o]? = some (Cn, T, N)) (hN : ob_nf (ob_c o) = N) (hj : j < N) (hv : ob_v M o j = v) (k : Bd d y cc nL ret ws (pc + 3) lv (v :: st) M Q) : Bd d y cc nL ret ws pc lv (.ref o :: st) M Q := by
  intro p l e s m args below meth c G A C H locs ls hP hD hS hl
  have he := wl_obj G M ho hc9
  refine va_get (C := Cn) (T := T) (N := N) (v := tv G v) C.1 C.2.1 C.2.2.2.2.2.1 hin C.2.2.2.2.1 C.2.2.2.2.2.2.2.1 hP o he hcl j hj (C.2.2.2.2.2.1 _ hlk) (fun _ h => h) ?_ hd (k p l e s m args below meth c G A C H locs ls hP hD hS hl)
  rw [← hv, tv_ob, List.getElem?_map, List.getElem?_range (by rw [hN]; exact hj)]
  rfl
/-- putfield of an int -/
theorem B_putf {Cn : String} {T : u_T} {N index : Nat} (o j : Nat) {x : Int32} (ty0 : Nat → FieldType) (hty : ∀ k, k < N → parseFieldDescriptor (T k).2.2.1 = some (ty0 k)) (hnm : ∀ a, a < N → ∀ b, b < N → a ≠ b → (T a).2.1 ≠ (T b).2.1)
    (hd : decode cc pc = .ok (.putfield index, 3)) (hin : ∀ w ∈ u_ws Cn T N, w ∈ ws) (hlk : Cond.fieldLink y.cls index (T j).1 (T j).2.1 (T j).2.2.1 ∈ ws)
    (ho : o < 65) (hc9 : ob_c o < 9) (hcl : vwCl[ob_c o]? = some (Cn, T, N)) (hN : ob_nf (ob_c o) = N) (hj : j < N) (hr : ob_r o j = none) (hfin : (T j).2.2.2 = false) (htj : parseFieldDescriptor (T j).2.2.1 = some .int)
    (k : Bd d y cc nL ret ws (pc + 3) lv st (upd2 M o j x) Q) : Bd d y cc nL ret ws pc lv (.int x :: .ref o :: st) M Q := by
  intro p l e s m args below meth c G A C H locs ls hP hD hS hl
  have he := wl_obj G M ho hc9
  refine va_put (C := Cn) (T := T) (N := N) (v := .int x) (ty := .int) C.1 C.2.1 C.2.2.2.2.2.1 hin ty0 hty hnm C.2.2.2.2.1 C.2.2.2.2.2.2.2.1 hP hD hS o he hcl j hj (C.2.2.2.2.2.1 _ hlk) (fun _ h => h) hfin htj rfl rfl (by simp [hN, hj]) hd (fun H1 locs1 hP1 hD1 hS1 => ?_)
  rw [wl_upd_f G ho hc9 hr] at hP1 hD1
  exact k p l e s m args below meth c G A C H1 locs1 ls hP1 hD1 hS1 hl
theorem B_iald {n : Nat} (o : Nat) {i : Int32} (hd : decode cc pc = .ok (.iaload, 1)) (ho : o < 65) (hc : ob_c o = 9) (hn : ob_n o = n) (hi : vp_in i n) (k : Bd d y cc nL ret ws (pc + 1) lv (.int (M o i.toNatClampNeg) :: st) M Q) : Bd d y cc nL ret ws pc lv (.int i :: .ref o :: st) M Q := by
  intro p l e s m args below meth c G A C H locs ls hP hD hS hl
  exact va_iald C.1 C.2.1 C.2.2.2.2.2.2.2.1 hP o 0 (wl_int G M ho hc) rfl (by rw [hn]; exact hi) hd (k p l e s m args below meth c G A C H locs ls hP hD hS hl)
theorem B_iast {n : Nat} (o : Nat) {i x : Int32} (hd : decode cc pc = .ok (.iastore, 1)) (ho : o < 65) (hc : ob_c o = 9) (hn : ob_n o = n) (hi : vp_in i n) (k : Bd d y cc nL ret ws (pc + 1) lv st (upd2 M o i.toNatClampNeg x) Q) : Bd d y cc nL ret ws pc lv (.int x :: .int i :: .ref o :: st) M Q := by
  intro p l e s m args below meth c G A C H locs ls hP hD hS hl
  refine va_iast C.1 C.2.1 C.2.2.2.2.2.2.2.1 hP hD hS o 0 (wl_int G M ho hc) rfl (by rw [hn]; exact hi) hd (fun H1 locs1 hP1 hD1 hS1 => ?_)
  rw [wl_upd_a G ho hc] at hP1 hD1
  exact k p l e s m args below meth c G A C H1 locs1 ls hP1 hD1 hS1 hl
theorem B_alen (o : Nat) {v : Int32} (hd : decode cc pc = .ok (.arraylength, 1)) (ho : o < 65) (hc : ob_c o = 9) (hv : Int32.ofNat (ob_n o) = v) (k : Bd d y cc nL ret ws (pc + 1) lv (.int v :: st) M Q) : Bd d y cc nL ret ws pc lv (.ref o :: st) M Q := by
  intro p l e s m args below meth c G A C H locs ls hP hD hS hl
  exact va_alen C.1 C.2.1 C.2.2.2.2.2.2.2.1 hP o 0 (wl_int G M ho hc) (ty := .int) rfl hv hd (k p l e s m args below meth c G A C H locs ls hP hD hS hl)
/-- a place of an array of references -/
theorem B_aald (o t : Nat) {i : Int32} (hd : decode cc pc = .ok (.aaload, 1)) (ho : o < 65) (Cn : String) (hc : (ob_c o = 10 ∧ Cn = "NicheSaints$Ring") ∨ (ob_c o = 11 ∧ Cn = "NicheSaints$Shelf")) (hi : vp_in i (ob_n o)) (ht : ob_r o i.toNatClampNeg = some t) (k : Bd d y cc nL ret ws (pc + 1) lv (.ref t :: st) M Q) : Bd d y cc nL ret ws pc lv (.int i :: .ref o :: st) M Q := by
  intro p l e s m args below meth c G A C H locs ls hP hD hS hl
  have h9 : 9 < ob_c o := by rcases hc with h | h <;> omega
  have hk := k p l e s m args below meth c G A C H locs ls hP hD hS hl
  refine va_aldq (C := Cn) C.1 C.2.1 C.2.2.2.2.2.2.2.1 hP o (ob_c o - 9) (wl_ref G M ho h9) ?_ hi hd ?_
  · rcases hc with ⟨h1, h2⟩ | ⟨h1, h2⟩ <;> rw [h1, h2] <;> rfl
  · rw [ht]; exact hk
theorem B_aaS {i : Int32} (hd : decode cc pc = .ok (.aaload, 1)) (hi : vp_in i 8) (k : Bd d y cc nL ret ws (pc + 1) lv (.ref (sh i) :: st) M Q) : Bd d y cc nL ret ws pc lv (.int i :: .ref 1 :: st) M Q :=
  B_aald 1 (sh i) hd (by decide) "NicheSaints$Shelf" (Or.inr ⟨rfl, rfl⟩) hi (ob_r_sh (Nat.not_le.mp fun q => hi (Or.inr q))) k
theorem B_aaR {i : Int32} (hd : decode cc pc = .ok (.aaload, 1)) (hi : vp_in i 2) (k : Bd d y cc nL ret ws (pc + 1) lv (.ref (im i) :: st) M Q) : Bd d y cc nL ret ws pc lv (.int i :: .ref 29 :: st) M Q :=
  B_aald 29 (im i) hd (by decide) "NicheSaints$Ring" (Or.inl ⟨rfl, rfl⟩) hi (ob_r_im (Nat.not_le.mp fun q => hi (Or.inr q))) k
/-- static arrays -/
theorem B_gets (i : Nat) {index : Nat} (hd : decode cc pc = .ok (.getstatic index, 3)) (hi : i < 3) (hlk : Cond.fieldLink y.cls index "NicheSaints" (stN i) "[I" ∈ ws) (k : Bd d y cc nL ret ws (pc + 3) lv (.ref (1000 + i) :: st) M Q) : Bd d y cc nL ret ws pc lv st M Q := by
  intro p l e s m args below meth c G A C H locs ls hP hD hS hl
  exact va_gets C.1 C.2.1 (C.2.2.2.2.2.2.2.2.2.1 i hi).1 hS C.2.2.2.2.1 (C.2.2.2.2.2.1 _ hlk) (fun _ h => h) hd (k p l e s m args below meth c G A C H locs ls hP hD hS hl)
theorem B_getsN (i : Nat) {index : Nat} (hd : decode cc pc = .ok (.getstatic index, 3)) (hi : i < 3) (hlk : ∀ (G : Gg) (A : Nat → Prop) (s : State), Sx G A s s.heap → va_Nw (.fieldLinkNest y.cls index "NicheSaints" (stN i) "[I" "NicheSaints") s) (k : Bd d y cc nL ret ws (pc + 3) lv (.ref (1000 + i) :: st) M Q) : Bd d y cc nL ret ws pc lv st M Q := by
  intro p l e s m args below meth c G A C H locs ls hP hD hS hl
  exact va_getsN C.1 C.2.1 (C.2.2.2.2.2.2.2.2.2.1 i hi).1 hS C.2.2.2.2.1 (va_Nw.use rfl (hlk G A s C.2.2.2.2.2.2.2.2.2)) (fun _ h => h) hd (k p l e s m args below meth c G A C H locs ls hP hD hS hl)
theorem B_ti (i : Nat) {j v : Int32} (hd : decode cc pc = .ok (.iaload, 1)) (hi : i < 3) (hj : vp_in j (stL i).length) (hv : (stL i).getD j.toNatClampNeg 0 = v) (k : Bd d y cc nL ret ws (pc + 1) lv (.int v :: st) M Q) : Bd d y cc nL ret ws pc lv (.int j :: .ref (1000 + i) :: st) M Q := by
  intro p l e s m args below meth c G A C H locs ls hP hD hS hl
  exact va_ti C.1 C.2.1 (C.2.2.2.2.2.2.2.2.2.1 i hi).2 hS hj (v := .int v) (by rw [hv]) hd (k p l e s m args below meth c G A C H locs ls hP hD hS hl)
theorem B_tlen (i : Nat) {v : Int32} (hd : decode cc pc = .ok (.arraylength, 1)) (hi : i < 3) (hv : Int32.ofNat (stL i).length = v) (k : Bd d y cc nL ret ws (pc + 1) lv (.int v :: st) M Q) : Bd d y cc nL ret ws pc lv (.ref (1000 + i) :: st) M Q := by
  intro p l e s m args below meth c G A C H locs ls hP hD hS hl
  exact va_tlen C.1 C.2.1 (C.2.2.2.2.2.2.2.2.2.1 i hi).2 hS hv hd (k p l e s m args below meth c G A C H locs ls hP hD hS hl)
/-- the one text -/
theorem B_ldcS (hd : decode cc pc = .ok (.ldc 76, 2)) (hy : y.cls = RX6) (k : Bd d y cc nL ret ws (pc + 2) lv (.ref 1004 :: st) M Q) : Bd d y cc nL ret ws pc lv st M Q := by
  intro p l e s m args below meth c G A C H locs ls hP hD hS hl
  exact va_ldcS C.1 C.2.1 C.2.2.2.2.1 (by rw [hy]; exact C.2.2.2.2.2.2.2.2.2.2.2.1) hd (k p l e s m args below meth c G A C H locs ls hP hD hS hl)
theorem B_strV {index : Nat} (hd : decode cc pc = .ok (.getfield index, 3)) (hlk : Cond.fieldLink y.cls index "java/lang/String" "value" "[B" ∈ ws) (k : Bd d y cc nL ret ws (pc + 3) lv (.ref 1005 :: st) M Q) : Bd d y cc nL ret ws pc lv (.ref 1004 :: st) M Q := by
  intro p l e s m args below meth c G A C H locs ls hP hD hS hl
  exact vk_getf (v := .ref (G.2.2 1005)) C.1 C.2.1 (C.2.2.2.2.2.2.2.2.2.2.2.2.1.1 0 (by decide)).2.2.1 hS C.2.2.2.2.1 (C.2.2.2.2.2.1 _ hlk) (fun _ h => h) hd (k p l e s m args below meth c G A C H locs ls hP hD hS hl)
theorem B_strC {index : Nat} (hd : decode cc pc = .ok (.getfield index, 3)) (hlk : Cond.fieldLink y.cls index "java/lang/String" "coder" "B" ∈ ws) (k : Bd d y cc nL ret ws (pc + 3) lv (.int 0 :: st) M Q) : Bd d y cc nL ret ws pc lv (.ref 1004 :: st) M Q := by
  intro p l e s m args below meth c G A C H locs ls hP hD hS hl
  exact vk_getf (v := .int 0) C.1 C.2.1 (C.2.2.2.2.2.2.2.2.2.2.2.2.1.1 0 (by decide)).2.1 hS C.2.2.2.2.1 (C.2.2.2.2.2.1 _ hlk) (fun _ h => h) hd (k p l e s m args below meth c G A C H locs ls hP hD hS hl)
theorem B_strX {index : Nat} (hd : decode cc pc = .ok (.getstatic index, 3)) (hlk : Cond.fieldLink y.cls index "java/lang/String" "COMPACT_STRINGS" "Z" ∈ ws) (k : Bd d y cc nL ret ws (pc + 3) lv (.int 1 :: st) M Q) : Bd d y cc nL ret ws pc lv st M Q := by
  intro p l e s m args below meth c G A C H locs ls hP hD hS hl
  exact va_gets (v := .int 1) C.1 C.2.1 C.2.2.2.2.2.2.2.2.2.2.1 hS C.2.2.2.2.1 (C.2.2.2.2.2.1 _ hlk) (fun _ h => h) hd (k p l e s m args below meth c G A C H locs ls hP hD hS hl)
theorem B_strB {j v : Int32} (hd : decode cc pc = .ok (.baload, 1)) (hj : vp_in j 5) (hv : ([103, 115, 112, 104, 111] : List Int32).getD j.toNatClampNeg 0 = v) (k : Bd d y cc nL ret ws (pc + 1) lv (.int v :: st) M Q) : Bd d y cc nL ret ws pc lv (.int j :: .ref 1005 :: st) M Q := by
  intro p l e s m args below meth c G A C H locs ls hP hD hS hl
  exact va_tb C.1 C.2.1 (C.2.2.2.2.2.2.2.2.2.2.2.2.1.1 0 (by decide)).2.2.2 hS hj (v := .int v) (by rw [← hv]; rfl) hd (k p l e s m args below meth c G A C H locs ls hP hD hS hl)
theorem B_strL (hd : decode cc pc = .ok (.arraylength, 1)) (k : Bd d y cc nL ret ws (pc + 1) lv (.int 5 :: st) M Q) : Bd d y cc nL ret ws pc lv (.ref 1005 :: st) M Q := by
  intro p l e s m args below meth c G A C H locs ls hP hD hS hl
  exact va_tlen C.1 C.2.1 (C.2.2.2.2.2.2.2.2.2.2.2.2.1.1 0 (by decide)).2.2.2 hS (v := 5) rfl hd (k p l e s m args below meth c G A C H locs ls hP hD hS hl)
/-- switches -/
theorem B_tabIn {dflt lo hi : Int} {offs : Array Int} {len : Nat} {x : Int32} {off : Int} {tgt : Nat} (hd : decode cc pc = .ok (.tableswitch dflt lo hi offs, len)) (h1 : ¬ x.toInt < lo) (h2 : ¬ hi < x.toInt) (ho : offs[(x.toInt - lo).toNat]? = some off) (ht : (pc : Int) + off = (tgt : Int)) (k : Bd d y cc nL ret ws tgt lv st M Q) : Bd d y cc nL ret ws pc lv (.int x :: st) M Q := by
  intro p l e s m args below meth c G A C H locs ls hP hD hS hl
  exact lv_tableIn C.1 C.2.1 hd h1 h2 ho ht (k p l e s m args below meth c G A C H locs ls hP hD hS hl)
theorem B_tabOut {dflt lo hi : Int} {offs : Array Int} {len : Nat} {x : Int32} {tgt : Nat} (hd : decode cc pc = .ok (.tableswitch dflt lo hi offs, len)) (h : x.toInt < lo ∨ hi < x.toInt) (ht : (pc : Int) + dflt = (tgt : Int)) (k : Bd d y cc nL ret ws tgt lv st M Q) : Bd d y cc nL ret ws pc lv (.int x :: st) M Q := by
  intro p l e s m args below meth c G A C H locs ls hP hD hS hl
  exact lv_tableOut C.1 C.2.1 hd h ht (k p l e s m args below meth c G A C H locs ls hP hD hS hl)
theorem B_look {dflt : Int} {ps : Array (Int × Int)} {len : Nat} {x : Int32} {off : Int} {tgt : Nat} (hd : decode cc pc = .ok (.lookupswitch dflt ps, len)) (hp : (ps.toList.zip (ps.toList.drop 1)).all (fun (a, next) => a.1 < next.1) = true) (ho : Op.lookupswitch.offset ps.toList dflt x.toInt = off) (ht : (pc : Int) + off = (tgt : Int)) (k : Bd d y cc nL ret ws tgt lv st M Q) : Bd d y cc nL ret ws pc lv (.int x :: st) M Q := by
  intro p l e s m args below meth c G A C H locs ls hP hD hS hl
  exact lv_lookup C.1 C.2.1 hd hp ho ht (k p l e s m args below meth c G A C H locs ls hP hD hS hl)
/-- returns -/
theorem B_iret {v : Int32} (hd : decode cc pc = .ok (.ireturn, 1)) (h : Q v M) : Bd d y cc nL (some .int) ws pc lv [.int v] M Q := by
  intro p l e s m args below meth c G A C H locs ls hP hD hS hl
  exact W.iret (v := v) C.1 C.2.1 C.2.2.1 (fun t ht hW => ⟨⟨v, M, rfl, h, by rw [ht]; exact hP, hD⟩, hS.F ht⟩) hS.2.2 hd C.2.2.2.2.2.2.1
theorem B_zret {v : Int32} (hd : decode cc pc = .ok (.ireturn, 1)) (hv : v = 0 ∨ v = 1) (h : Q v M) : Bd d y cc nL (some .boolean) ws pc lv [.int v] M Q := by
  intro p l e s m args below meth c G A C H locs ls hP hD hS hl
  exact W.zret (v := v) (ty := .boolean) C.1 C.2.1 C.2.2.1 (by rcases hv with rfl | rfl <;> rfl) (fun t ht hW => ⟨⟨v, M, rfl, h, by rw [ht]; exact hP, hD⟩, hS.F ht⟩) hS.2.2 hd C.2.2.2.2.2.2.1
theorem B_nret {v : Int32} {ty : FieldType} (hd : decode cc pc = .ok (.ireturn, 1)) (hv : narrow ty (.int v) = .int v) (h : Q v M) : Bd d y cc nL (some ty) ws pc lv [.int v] M Q := by
  intro p l e s m args below meth c G A C H locs ls hP hD hS hl
  exact W.zret (v := v) (ty := ty) C.1 C.2.1 C.2.2.1 hv (fun t ht hW => ⟨⟨v, M, rfl, h, by rw [ht]; exact hP, hD⟩, hS.F ht⟩) hS.2.2 hd C.2.2.2.2.2.2.1
theorem B_vret (hd : decode cc pc = .ok (.return_, 1)) (h : Q 0 M) : Bd d y cc nL none ws pc lv [] M Q := by
  intro p l e s m args below meth c G A C H locs ls hP hD hS hl
  exact W.vret C.1 C.2.1 C.2.2.1 (fun t ht hW => ⟨⟨0, M, rfl, h, by rw [ht]; exact hP, hD⟩, hS.F ht⟩) hS.2.2 hd C.2.2.2.2.2.2.1
/-- what a call's start needs -/
theorem CB_blind (G : Gg) (M : Mm) (sz : Nat) (av : List Value) : FrameBlind (va_Pc av (CB G M sz)) := by
  intro a U g mk h
  obtain ⟨q0, q1, q2, q3, q4, q5⟩ := h
  exact ⟨q0, q1, q2, va_K.moved (u := U) (U := U.calling g mk a) (Vm.Alike.refl U.vm) q3, q4, q5.same rfl⟩
theorem CB_at {G : Gg} {M : Mm} {A : Nat → Prop} {s U : State} {H : Heap} {locs : List Loc} (hK : va_K G.1 vwCl (tyl G) s) (hA : ∀ q, s.heap.size ≤ q → A q) (hX : Sx G A s s.heap) (hP : va_P G.1 vwCl (wl G M) H) (hD : va_D A (wl G M)) (hS : va_S A s.heap H locs) (hU : U.heap = H) (hW : s.WarmedH U.vm) : CB G M H.size U := by
  have hF : ∀ q, va_A (wl G M) H.size q → A q := by
    intro q hq
    rcases hq with ⟨k, e, hk⟩ | hq
    · exact hD.2 k _ hk
    · exact hA q (Nat.le_trans hS.1 hq)
  exact ⟨by rw [hU], by rw [hU]; exact hP, va_K.moved hW.alike hK, hD.weaken (fun _ _ _ _ => trivial), hX.go hW (fun a h1 h2 => by rw [hU]; exact hS.2.1 a h1 h2) hF⟩
/-- behind a call -/
theorem W_back {p : Program} {l : Launch} {e : Env} {R : Room} {s : State} {m : MethodId} {args : Array Value} {below : List Frame} {meth : Method} {c : Code} {H : Heap} {locs : List Loc} {Q0 : State → Prop} {ls : Array Slot} {st0 rest : List Value} {a : Array Value} {G : Gg} {A : Nat → Prop} {rt : Option FieldType} {Q1 : Int32 → Mm → Prop}
    (hr : va_Run p l e R s m args below meth c H locs 0 0 0 0 (F0 m pc ls st0) rest (QC G rt (va_A (wl G M) H.size) Q1 a) (va_A (wl G M) H.size)) (hD : va_D A (wl G M)) (hA : ∀ q, s.heap.size ≤ q → A q) (hS : va_S A s.heap H locs)
    (kk : ∀ (r : Int32) (M' : Mm) (H1 : Heap) (locs1 : List Loc), Q1 r M' → va_P G.1 vwCl (wl G M') H1 → va_D A (wl G M') → va_S A s.heap H1 locs1 → W p l e R s m args below meth c H1 locs1 0 0 Q0 (F0 m (pc + 3) ls ((rtv rt r).toList ++ rest))) : W p l e R s m args below meth c H locs 0 0 Q0 (F0 m pc ls st0) := by
  have hF : ∀ q, va_A (wl G M) H.size q → A q := by
    intro q hq
    rcases hq with ⟨k, e, hk⟩ | hq
    · exact hD.2 k _ hk
    · exact hA q (Nat.le_trans hS.1 hq)
  intro T hT X
  obtain ⟨v, st₀, t, T', L, h0, X', hL, e1, e2, ⟨⟨r, M', hv, hq, hP1, hD1⟩, hz, hk⟩, stp⟩ := hr T hT X
  have hv' : v = rtv rt r := by injection hv
  subst hv'
  rw [h0] at hz hk
  obtain ⟨t2, a1, b1⟩ := kk r M' T'.heap (locs ++ L) hq (by rw [e1]; exact hP1) (hD1.weaken (fun _ _ _ h => hF _ h))
    ⟨Nat.le_trans hS.1 (by rw [e1]; exact hz), fun q h1 h2 => by rw [e1, hk q (Nat.lt_of_lt_of_le h1 hS.1) (fun z => h2 (hF q z))]; exact hS.2.1 q h1 h2, fun q hq => by
      rcases List.mem_append.mp hq with h | h
      · exact hS.2.2 q h
      · exact hF _ (hL q h)⟩ T' rfl X'
  exact ⟨t2, stp t2 a1, b1⟩
theorem tv_psh (G : Gg) (rt : Option FieldType) (r : Int32) (st : List Value) : (rtv rt r).toList ++ st.map (tv G) = (psh rt r st).map (tv G) := by
  cases rt <;> rfl
/-- a call of an object's method -/
theorem B_callV {y1 : MethodName} {cc1 : ByteArray} {nL1 index : Nat} {ret1 : Option FieldType} {ws1 ws1' : List Cond} {Cn : String} (o : Nat) (As : List Value) (hd : decode cc pc = .ok (.invokevirtual index, 3)) (hg : GoodIn ws (wsV y.cls index Cn y1 ws1)) (hw : ws1 = Cond.code y1 cc1 nL1 ret1 :: ws1')
    (hy : y1.cls = Cn ∧ y1.cls ≠ "java/lang/invoke/MethodHandle" ∧ y1.cls ≠ "java/lang/invoke/VarHandle" ∧ (parseMethodDescriptor y1.desc).map (fun d => d.parameters.length) = some As.length) (ho : o < 65) (hc9 : ob_c o < 9) (T : u_T) (N : Nat) (hcl : vwCl[ob_c o]? = some (Cn, T, N)) (hnL : nL1 ≤ 45) (hst : (st.map fun v => v.category).sum ≤ 8) {stk : List Value} (hstk : As.reverse ++ .ref o :: st = stk)
    (k : Ct d y1 ret1 ws1 (.ref o :: As) M (fun r M' => Bd (d + 1) y cc nL ret ws (pc + 3) lv (psh ret1 r st) M' Q)) : Bd (d + 1) y cc nL ret ws pc lv stk M Q := by
  subst hstk
  intro p l e s m args below meth c G A C H locs ls hP hD hS hl
  obtain ⟨d0, hd0, hM⟩ := k
  have he := wl_obj G M ho hc9
  refine W_back (va_runV (As := As.map (tv G)) (rest := st.map (tv G)) (nL := nL) (n := As.length) (b := G.2.2 o) ⟨C.1, C.2.1, C.2.2.2.1, C.2.2.2.2.1, C.2.2.2.2.2.1⟩ (hM l G H.size) (cwV As.length C.2.2.2.2.2.1 hg hw rfl rfl hy ⟨?_, ?_⟩) ⟨CB_blind G M H.size _, va_recv C.2.2.2.2.2.2.2.1 hP hcl he, fun U hU hW => ⟨rfl, CB_at C.2.2.2.2.2.2.2.1 C.2.2.2.2.2.2.2.2.1 C.2.2.2.2.2.2.2.2.2 hP hD hS hU hW⟩⟩ rfl (by simp) hl.1 ?_ (lv_room (by rw [tl_sum]; exact hst)) hd ⟨Nat.le_refl 0, Nat.le_refl 0⟩) hD C.2.2.2.2.2.2.2.2.1 hS (fun r M' H1 locs1 hq hP1 hD1 hS1 => ?_)
  · show d0 + 1 ≤ d + 1
    omega
  · show 8 + (nL1 + 11) + 64 * d0 ≤ 64 * (d + 1)
    omega
  · simp [tv]
  · rw [tv_psh]
    exact hq p l e s m args below meth c G A C H1 locs1 ls hP1 hD1 hS1 hl
/-- a call of the text's own method -/
theorem B_callT {y1 : MethodName} {cc1 : ByteArray} {nL1 index : Nat} {ret1 : Option FieldType} {ws1 ws1' : List Cond} (As : List Value) (hd : decode cc pc = .ok (.invokevirtual index, 3)) (hg : GoodIn ws (wsV y.cls index "java/lang/String" y1 ws1)) (hw : ws1 = Cond.code y1 cc1 nL1 ret1 :: ws1')
    (hy : y1.cls = "java/lang/String" ∧ y1.cls ≠ "java/lang/invoke/MethodHandle" ∧ y1.cls ≠ "java/lang/invoke/VarHandle" ∧ (parseMethodDescriptor y1.desc).map (fun d => d.parameters.length) = some As.length) (hnL : nL1 ≤ 45) (hst : (st.map fun v => v.category).sum ≤ 8) {stk : List Value} (hstk : As.reverse ++ .ref 1004 :: st = stk)
    (k : Ct d y1 ret1 ws1 (.ref 1004 :: As) M (fun r M' => Bd (d + 1) y cc nL ret ws (pc + 3) lv (psh ret1 r st) M' Q)) : Bd (d + 1) y cc nL ret ws pc lv stk M Q := by
  subst hstk
  intro p l e s m args below meth c G A C H locs ls hP hD hS hl
  obtain ⟨d0, hd0, hM⟩ := k
  refine W_back (va_runV (As := As.map (tv G)) (rest := st.map (tv G)) (nL := nL) (n := As.length) (b := G.2.2 1004) ⟨C.1, C.2.1, C.2.2.2.1, C.2.2.2.2.1, C.2.2.2.2.2.1⟩ (hM l G H.size) (cwV As.length C.2.2.2.2.2.1 hg hw rfl rfl hy ⟨?_, ?_⟩) ⟨CB_blind G M H.size _, vk_recv (i := 0) C.2.2.2.2.2.2.2.2.2.2.2.2.1 (by decide) hS, fun U hU hW => ⟨rfl, CB_at C.2.2.2.2.2.2.2.1 C.2.2.2.2.2.2.2.2.1 C.2.2.2.2.2.2.2.2.2 hP hD hS hU hW⟩⟩ rfl (by simp) hl.1 ?_ (lv_room (by rw [tl_sum]; exact hst)) hd ⟨Nat.le_refl 0, Nat.le_refl 0⟩) hD C.2.2.2.2.2.2.2.2.1 hS (fun r M' H1 locs1 hq hP1 hD1 hS1 => ?_)
  · show d0 + 1 ≤ d + 1
    omega
  · show 8 + (nL1 + 11) + 64 * d0 ≤ 64 * (d + 1)
    omega
  · simp [tv]
  · rw [tv_psh]
    exact hq p l e s m args below meth c G A C H1 locs1 ls hP1 hD1 hS1 hl
/-- a call of a static method -/
theorem B_callS {y1 : MethodName} {cc1 : ByteArray} {nL1 index : Nat} {ret1 : Option FieldType} {ws1 ws1' : List Cond} (As : List Value) (hd : decode cc pc = .ok (.invokestatic index, 3)) (hg : GoodIn ws (va_wsS y.cls index y1 ws1)) (hw : ws1 = Cond.code y1 cc1 nL1 ret1 :: ws1')
    (hy : y1.cls ≠ "java/lang/invoke/MethodHandle" ∧ y1.cls ≠ "java/lang/invoke/VarHandle" ∧ (parseMethodDescriptor y1.desc).map (fun d => d.parameters.length) = some As.length) (hnL : nL1 ≤ 45) (hst : (st.map fun v => v.category).sum ≤ 8) {stk : List Value} (hstk : As.reverse ++ st = stk)
    (k : Ct d y1 ret1 ws1 As M (fun r M' => Bd (d + 1) y cc nL ret ws (pc + 3) lv (psh ret1 r st) M' Q)) : Bd (d + 1) y cc nL ret ws pc lv stk M Q := by
  subst hstk
  intro p l e s m args below meth c G A C H locs ls hP hD hS hl
  obtain ⟨d0, hd0, hM⟩ := k
  refine W_back (va_runS (As := As.map (tv G)) (rest := st.map (tv G)) (nL := nL) (n := As.length) ⟨C.1, C.2.1, C.2.2.2.1, C.2.2.2.2.1, C.2.2.2.2.2.1⟩ (hM l G H.size) (va_cwS As.length C.2.2.2.2.2.1 hg hw rfl rfl hy ⟨?_, ?_⟩) ⟨CB_blind G M H.size _, fun U hU hW => ⟨rfl, CB_at C.2.2.2.2.2.2.2.1 C.2.2.2.2.2.2.2.2.1 C.2.2.2.2.2.2.2.2.2 hP hD hS hU hW⟩⟩ rfl (by simp) hl.1 ?_ (lv_room (by rw [tl_sum]; exact hst)) hd ⟨Nat.le_refl 0, Nat.le_refl 0⟩) hD C.2.2.2.2.2.2.2.2.1 hS (fun r M' H1 locs1 hq hP1 hD1 hS1 => ?_)
  · show d0 + 1 ≤ d + 1
    omega
  · show 8 + (nL1 + 11) + 64 * d0 ≤ 64 * (d + 1)
    omega
  · simp
  · rw [tv_psh]
    exact hq p l e s m args below meth c G A C H1 locs1 ls hP1 hD1 hS1 hl
/-- Math.max -/
theorem B_max {index : Nat} {x z : Int32} (hd : decode cc pc = .ok (.invokestatic index, 3)) (h1 : Cond.methodLink y.cls index Lib.Math.max.name ∈ ws) (h2 : Cond.static Lib.Math.max.name ∈ ws) (h3 : Cond.initialized "java/lang/Math" ∈ ws) (h4 : Cond.code Lib.Math.max.name Lib.Math.max.code 2 (some .int) ∈ ws) (hst : (st.map fun v => v.category).sum ≤ 8)
    (k : Bd (d + 1) y cc nL ret ws (pc + 3) lv (.int (imax x z) :: st) M Q) : Bd (d + 1) y cc nL ret ws pc lv (.int z :: .int x :: st) M Q := by
  intro p l e s m args below meth c G A C H locs ls hP hD hS hl
  refine va_mmax C.1 C.2.1 (by rw [C.2.2.2.1]; exact hl.1.symm) C.2.2.2.2.1 (C.2.2.2.2.2.1 _ h1) (C.2.2.2.2.2.1 _ h2) (C.2.2.2.2.2.1 _ h3) (C.2.2.2.2.2.1 _ h4) ?_ ?_ (Nat.le_refl 0) (Nat.le_refl 0) hd (k p l e s m args below meth c G A C H locs ls hP hD hS hl)
  · show 1 ≤ d + 1
    omega
  · rw [tl_sum]
    show _ + 13 ≤ 64 * (d + 1)
    omega
/-- Math.min -/
theorem B_min {index : Nat} {x z : Int32} (hd : decode cc pc = .ok (.invokestatic index, 3)) (h1 : Cond.methodLink y.cls index Lib.Math.min.name ∈ ws) (h2 : Cond.static Lib.Math.min.name ∈ ws) (h3 : Cond.initialized "java/lang/Math" ∈ ws) (h4 : Cond.code Lib.Math.min.name Lib.Math.min.code 2 (some .int) ∈ ws) (hst : (st.map fun v => v.category).sum ≤ 8)
    (k : Bd (d + 1) y cc nL ret ws (pc + 3) lv (.int (imin x z) :: st) M Q) : Bd (d + 1) y cc nL ret ws pc lv (.int z :: .int x :: st) M Q := by
  intro p l e s m args below meth c G A C H locs ls hP hD hS hl
  refine va_mmin C.1 C.2.1 (by rw [C.2.2.2.1]; exact hl.1.symm) C.2.2.2.2.1 (C.2.2.2.2.2.1 _ h1) (C.2.2.2.2.2.1 _ h2) (C.2.2.2.2.2.1 _ h3) (C.2.2.2.2.2.1 _ h4) ?_ ?_ (Nat.le_refl 0) (Nat.le_refl 0) hd (k p l e s m args below meth c G A C H locs ls hP hD hS hl)
  · show 1 ≤ d + 1
    omega
  · rw [tl_sum]
    show _ + 13 ≤ 64 * (d + 1)
    omega
/-- System.arraycopy of ints -/
theorem B_copy {n0 n1 : Nat} {index : Nat} (o0 o1 : Nat) {sp dp n : Int32} (hd : decode cc pc = .ok (.invokestatic index, 3)) (h1 : Cond.methodLink y.cls index arraycopyName ∈ ws) (h2 : Cond.native arraycopyName ∈ ws) (h3 : Cond.static arraycopyName ∈ ws) (h4 : Cond.initialized "java/lang/System" ∈ ws) (ho0 : o0 < 65) (hc0 : ob_c o0 = 9) (hn0 : ob_n o0 = n0) (ho1 : o1 < 65) (hc1 : ob_c o1 = 9) (hn1 : ob_n o1 = n1)
    (g1 : ¬ sp < 0) (g2 : ¬ dp < 0) (g3 : ¬ n < 0) (g4 : sp.toNatClampNeg + n.toNatClampNeg ≤ n0) (g5 : dp.toNatClampNeg + n.toNatClampNeg ≤ n1) (hst : (st.map fun v => v.category).sum ≤ 8)
    (k : Bd (d + 1) y cc nL ret ws (pc + 3) lv st (setR M o1 (va_cpy (M o0) (M o1) sp.toNatClampNeg dp.toNatClampNeg n.toNatClampNeg)) Q) : Bd (d + 1) y cc nL ret ws pc lv (.int n :: .int dp :: .ref o1 :: .int sp :: .ref o0 :: st) M Q := by
  intro p l e s m args below meth c G A C H locs ls hP hD hS hl
  refine va_copyi C.1 C.2.1 (by rw [C.2.2.2.1]; exact hl.1.symm) C.2.2.2.2.1 (C.2.2.2.2.2.1 _ h1) (C.2.2.2.2.2.1 _ h2) (C.2.2.2.2.2.1 _ h3) (C.2.2.2.2.2.1 _ h4) C.2.2.2.2.2.2.2.1 hP hD hS o0 o1 0 0 (wl_int G M ho0 hc0) (wl_int G M ho1 hc1) (ty := .int) rfl rfl rfl g1 g2 g3 (by rw [hn0]; exact g4) (by rw [hn1]; exact g5) (fun _ _ => rfl) ?_ ?_ hd (fun H1 locs1 hP1 hD1 hS1 => ?_)
  · show 1 ≤ d + 1
    omega
  · rw [tl_sum]
    show _ + (nativeFrameWords "java/lang/System" "arraycopy" 5 + 11) ≤ 64 * (d + 1)
    have : nativeFrameWords "java/lang/System" "arraycopy" 5 ≤ 40 := by decide
    omega
  · rw [wl_upd_r G ho1 hc1] at hP1 hD1
    exact k p l e s m args below meth c G A C H1 locs1 ls hP1 hD1 hS1 hl
end Rules2
