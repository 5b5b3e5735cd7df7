/-! THE LAW: its switch and its loop -/
set_option maxHeartbeats 4000000 in
set_option maxRecDepth 100000 in
theorem law_switch {p : Program} {l : Launch} {e : Env} {s : State} {m : MethodId} {below : List Frame} {meth : Method} {c : Code} {b L : Nat} {xs : Nat → Int32} {G : Gg} (hL : L ≤ 3072) (C : LC p s m meth c b L xs G) {i : Nat} (hi : i + 6 ≤ L) {M : Mm} (hI : Inv M) (kk : ∀ M3, Inv M3 → LB p l e s m below meth c b G 1219 i M3) (x : Int32) {H : Heap} {locs : List Loc} {ls : Array Slot} (hP : va_P G.1 vwCl (wl G M) H) (hD : va_D (LA s) (wl G M)) (hS : va_S (LA s) s.heap H locs) (hl : lv_has ls 4 [(0, .ref b), (1, .ref (G.2.2 0)), (2, .ref (G.2.2 49)), (3, .int (nI i))]) : W p l e room_1 s m #[Value.ref b] below meth c H locs 65 1488 (lw_Z below #[Value.ref b] s) (F0 m 33 ls [.int x]) := by
  obtain ⟨hx, hb, hr, hml, hown, hts, hX, hbl, hlocks, hgv⟩ := C.1
  rcases (show (x.toInt < 0 ∨ 32 < x.toInt) ∨ (0 ≤ x.toInt ∧ x.toInt ≤ 32) by omega) with h | ⟨h1, h2⟩
  · exact lv_tableOut (tgt := 1219) hx hb dL_law_33 h (by decide) (kk M hI H locs ls hP hD hS hl)
  · rcases (show x.toInt = 0 ∨ x.toInt = 1 ∨ x.toInt = 2 ∨ x.toInt = 3 ∨ x.toInt = 4 ∨ x.toInt = 5 ∨ x.toInt = 6 ∨ x.toInt = 7 ∨ x.toInt = 8 ∨ x.toInt = 9 ∨ x.toInt = 10 ∨ x.toInt = 11 ∨ x.toInt = 12 ∨ x.toInt = 13 ∨ x.toInt = 14 ∨ x.toInt = 15 ∨ x.toInt = 16 ∨ x.toInt = 17 ∨ x.toInt = 18 ∨ x.toInt = 19 ∨ x.toInt = 20 ∨ x.toInt = 21 ∨ x.toInt = 22 ∨ x.toInt = 23 ∨ x.toInt = 24 ∨ x.toInt = 25 ∨ x.toInt = 26 ∨ x.toInt = 27 ∨ x.toInt = 28 ∨ x.toInt = 29 ∨ x.toInt = 30 ∨ x.toInt = 31 ∨ x.toInt = 32 by omega) with hk | hk | hk | hk | hk | hk | hk | hk | hk | hk | hk | hk | hk | hk | hk | hk | hk | hk | hk | hk | hk | hk | hk | hk | hk | hk | hk | hk | hk | hk | hk | hk | hk
    · exact lv_tableIn (off := 147) (tgt := 180) hx hb dL_law_33 (by rw [hk]; decide) (by rw [hk]; decide) (by rw [hk]; rfl) (by decide) (law_0 hL C hi hI kk H locs ls hP hD hS hl)
    · exact lv_tableIn (off := 190) (tgt := 223) hx hb dL_law_33 (by rw [hk]; decide) (by rw [hk]; decide) (by rw [hk]; rfl) (by decide) (law_1 hL C hi hI kk H locs ls hP hD hS hl)
    · exact lv_tableIn (off := 233) (tgt := 266) hx hb dL_law_33 (by rw [hk]; decide) (by rw [hk]; decide) (by rw [hk]; rfl) (by decide) (law_2 hL C hi hI kk H locs ls hP hD hS hl)
    · exact lv_tableIn (off := 296) (tgt := 329) hx hb dL_law_33 (by rw [hk]; decide) (by rw [hk]; decide) (by rw [hk]; rfl) (by decide) (law_3 hL C hi hI kk H locs ls hP hD hS hl)
    · exact lv_tableIn (off := 319) (tgt := 352) hx hb dL_law_33 (by rw [hk]; decide) (by rw [hk]; decide) (by rw [hk]; rfl) (by decide) (law_4 hL C hi hI kk H locs ls hP hD hS hl)
    · exact lv_tableIn (off := 342) (tgt := 375) hx hb dL_law_33 (by rw [hk]; decide) (by rw [hk]; decide) (by rw [hk]; rfl) (by decide) (law_5 hL C hi hI kk H locs ls hP hD hS hl)
    · exact lv_tableIn (off := 355) (tgt := 388) hx hb dL_law_33 (by rw [hk]; decide) (by rw [hk]; decide) (by rw [hk]; rfl) (by decide) (law_6 hL C hi hI kk H locs ls hP hD hS hl)
    · exact lv_tableIn (off := 368) (tgt := 401) hx hb dL_law_33 (by rw [hk]; decide) (by rw [hk]; decide) (by rw [hk]; rfl) (by decide) (law_7 hL C hi hI kk H locs ls hP hD hS hl)
    · exact lv_tableIn (off := 391) (tgt := 424) hx hb dL_law_33 (by rw [hk]; decide) (by rw [hk]; decide) (by rw [hk]; rfl) (by decide) (law_8 hL C hi hI kk H locs ls hP hD hS hl)
    · exact lv_tableIn (off := 424) (tgt := 457) hx hb dL_law_33 (by rw [hk]; decide) (by rw [hk]; decide) (by rw [hk]; rfl) (by decide) (law_9 hL C hi hI kk H locs ls hP hD hS hl)
    · exact lv_tableIn (off := 447) (tgt := 480) hx hb dL_law_33 (by rw [hk]; decide) (by rw [hk]; decide) (by rw [hk]; rfl) (by decide) (law_10 hL C hi hI kk H locs ls hP hD hS hl)
    · exact lv_tableIn (off := 460) (tgt := 493) hx hb dL_law_33 (by rw [hk]; decide) (by rw [hk]; decide) (by rw [hk]; rfl) (by decide) (law_11 hL C hi hI kk H locs ls hP hD hS hl)
    · exact lv_tableIn (off := 493) (tgt := 526) hx hb dL_law_33 (by rw [hk]; decide) (by rw [hk]; decide) (by rw [hk]; rfl) (by decide) (law_12 hL C hi hI kk H locs ls hP hD hS hl)
    · exact lv_tableIn (off := 516) (tgt := 549) hx hb dL_law_33 (by rw [hk]; decide) (by rw [hk]; decide) (by rw [hk]; rfl) (by decide) (law_13 hL C hi hI kk H locs ls hP hD hS hl)
    · exact lv_tableIn (off := 549) (tgt := 582) hx hb dL_law_33 (by rw [hk]; decide) (by rw [hk]; decide) (by rw [hk]; rfl) (by decide) (law_14 hL C hi hI kk H locs ls hP hD hS hl)
    · exact lv_tableIn (off := 582) (tgt := 615) hx hb dL_law_33 (by rw [hk]; decide) (by rw [hk]; decide) (by rw [hk]; rfl) (by decide) (law_15 hL C hi hI kk H locs ls hP hD hS hl)
    · exact lv_tableIn (off := 605) (tgt := 638) hx hb dL_law_33 (by rw [hk]; decide) (by rw [hk]; decide) (by rw [hk]; rfl) (by decide) (law_16 hL C hi hI kk H locs ls hP hD hS hl)
    · exact lv_tableIn (off := 618) (tgt := 651) hx hb dL_law_33 (by rw [hk]; decide) (by rw [hk]; decide) (by rw [hk]; rfl) (by decide) (law_17 hL C hi hI kk H locs ls hP hD hS hl)
    · exact lv_tableIn (off := 641) (tgt := 674) hx hb dL_law_33 (by rw [hk]; decide) (by rw [hk]; decide) (by rw [hk]; rfl) (by decide) (law_18 hL C hi hI kk H locs ls hP hD hS hl)
    · exact lv_tableIn (off := 684) (tgt := 717) hx hb dL_law_33 (by rw [hk]; decide) (by rw [hk]; decide) (by rw [hk]; rfl) (by decide) (law_19 hL C hi hI kk H locs ls hP hD hS hl)
    · exact lv_tableIn (off := 727) (tgt := 760) hx hb dL_law_33 (by rw [hk]; decide) (by rw [hk]; decide) (by rw [hk]; rfl) (by decide) (law_20 hL C hi hI kk H locs ls hP hD hS hl)
    · exact lv_tableIn (off := 770) (tgt := 803) hx hb dL_law_33 (by rw [hk]; decide) (by rw [hk]; decide) (by rw [hk]; rfl) (by decide) (law_21 hL C hi hI kk H locs ls hP hD hS hl)
    · exact lv_tableIn (off := 833) (tgt := 866) hx hb dL_law_33 (by rw [hk]; decide) (by rw [hk]; decide) (by rw [hk]; rfl) (by decide) (law_22 hL C hi hI kk H locs ls hP hD hS hl)
    · exact lv_tableIn (off := 896) (tgt := 929) hx hb dL_law_33 (by rw [hk]; decide) (by rw [hk]; decide) (by rw [hk]; rfl) (by decide) (law_23 hL C hi hI kk H locs ls hP hD hS hl)
    · exact lv_tableIn (off := 949) (tgt := 982) hx hb dL_law_33 (by rw [hk]; decide) (by rw [hk]; decide) (by rw [hk]; rfl) (by decide) (law_24 hL C hi hI kk H locs ls hP hD hS hl)
    · exact lv_tableIn (off := 992) (tgt := 1025) hx hb dL_law_33 (by rw [hk]; decide) (by rw [hk]; decide) (by rw [hk]; rfl) (by decide) (law_25 hL C hi hI kk H locs ls hP hD hS hl)
    · exact lv_tableIn (off := 1015) (tgt := 1048) hx hb dL_law_33 (by rw [hk]; decide) (by rw [hk]; decide) (by rw [hk]; rfl) (by decide) (law_26 hL C hi hI kk H locs ls hP hD hS hl)
    · exact lv_tableIn (off := 1038) (tgt := 1071) hx hb dL_law_33 (by rw [hk]; decide) (by rw [hk]; decide) (by rw [hk]; rfl) (by decide) (law_27 hL C hi hI kk H locs ls hP hD hS hl)
    · exact lv_tableIn (off := 1061) (tgt := 1094) hx hb dL_law_33 (by rw [hk]; decide) (by rw [hk]; decide) (by rw [hk]; rfl) (by decide) (law_28 hL C hi hI kk H locs ls hP hD hS hl)
    · exact lv_tableIn (off := 1094) (tgt := 1127) hx hb dL_law_33 (by rw [hk]; decide) (by rw [hk]; decide) (by rw [hk]; rfl) (by decide) (law_29 hL C hi hI kk H locs ls hP hD hS hl)
    · exact lv_tableIn (off := 1127) (tgt := 1160) hx hb dL_law_33 (by rw [hk]; decide) (by rw [hk]; decide) (by rw [hk]; rfl) (by decide) (law_30 hL C hi hI kk H locs ls hP hD hS hl)
    · exact lv_tableIn (off := 1150) (tgt := 1183) hx hb dL_law_33 (by rw [hk]; decide) (by rw [hk]; decide) (by rw [hk]; rfl) (by decide) (law_31 hL C hi hI kk H locs ls hP hD hS hl)
    · exact lv_tableIn (off := 1173) (tgt := 1206) hx hb dL_law_33 (by rw [hk]; decide) (by rw [hk]; decide) (by rw [hk]; rfl) (by decide) (law_32 hL C hi hI kk H locs ls hP hD hS hl)
theorem sub6 {i L : Nat} (hL : L ≤ 3072) (hi : i ≤ L) (h : ¬ Int32.ofNat L - 6 < nI i) : i + 6 ≤ L := by
  rw [Int32.lt_iff_toInt_lt, Int32.toInt_sub, nI_toInt (by omega), show Int32.ofNat L = nI L from rfl, nI_toInt (by omega), show (6 : Int32).toInt = 6 from by decide] at h
  rw [Int.bmod_eq_of_le (by omega) (by omega)] at h
  omega
set_option maxHeartbeats 4000000 in
set_option maxRecDepth 100000 in
theorem law_loop {p : Program} {l : Launch} {e : Env} {s : State} {m : MethodId} {below : List Frame} {meth : Method} {c : Code} {b L : Nat} {xs : Nat → Int32} {G : Gg} (hL : L ≤ 3072) (C : LC p s m meth c b L xs G) : ∀ (n i : Nat) (M : Mm), i ≤ L → L + 1 ≤ i + n → Inv M → LB p l e s m below meth c b G 18 i M := by
  obtain ⟨hx, hb, hr, hml, hown, hts, hX, hbl, hlocks, hgv⟩ := C.1
  have hbA : ¬ LA s b := Nat.not_le.mpr hbl
  intro n
  induction n with
  | zero =>
    intro i M h1 h2
    exact absurd h2 (by omega)
  | succ n ih =>
    intro i M h1 h2 hI H locs ls hP hD hS hl
    refine lv_iload_n hx hb dL_law_18 rfl (lv_at hl 3 rfl) ?_
    refine lv_aload_n hx hb dL_law_19 rfl (lv_at hl 0 rfl) ?_
    refine va_slen hx hb hX hbl hbA hS dL_law_20 ?_
    refine lv_bipush (v := 6) hx hb dL_law_21 (by decide) ?_
    refine lv_isub hx hb dL_law_23 ?_
    refine lv_icmp_gt (tgt := 1225) hx hb dL_law_24 (by decide) (fun _ => ?_) (fun c9 => ?_)
    · refine lv_iconst (v := 1) hx hb dL_law_1225 (by decide) ?_
      refine va_forget (fun q hq => hS.2.2 q hq) ?_
      refine W.widen (k := 600000) (n := 7302250) (Nat.le_of_ble_eq_true rfl) (Nat.le_of_ble_eq_true rfl) ?_
      exact lw_ret hx hb hr hlocks dL_law_1226
    · have hi : i + 6 ≤ L := sub6 hL h1 c9
      refine lv_aload_n hx hb dL_law_27 rfl (lv_at hl 0 rfl) ?_
      refine lv_iload_n hx hb dL_law_28 rfl (lv_at hl 3 rfl) ?_
      refine va_sld hx hb hX hbl hbA hS (sc_in (k := 0) hL (by decide) hi) dL_law_29 ?_
      refine lv_bipush (v := 63) hx hb dL_law_30 (by decide) ?_
      refine lv_iand hx hb dL_law_32 ?_
      refine law_switch hL C hi hI (fun M3 hI3 H locs ls hP hD hS hl => ?_) _ hP hD hS hl
      refine lv_iinc (v := nI (i + 6)) (lv' := [(3, .int (nI (i + 6))), (0, .ref b), (1, .ref (G.2.2 0)), (2, .ref (G.2.2 49))]) hx hb dL_law_1219 hl (k := 3) rfl (by rw [show Int32.ofInt 6 = nI 6 from by decide, nI_add]) (by decide) rfl (fun ls hl => ?_)
      refine lv_goto (tgt := 18) hx hb dL_law_1222 (by decide) ?_
      exact ih (i + 6) M3 (by omega) (by omega) hI3 H locs ls hP hD hS (lv_sub hl [1, 2, 3, 0] rfl)
