/-! THE LAW: its calls -/
theorem hyW_X7_saint : yX7_saint.cls = RX7 ∧ yX7_saint.cls ≠ "java/lang/invoke/MethodHandle" ∧ yX7_saint.cls ≠ "java/lang/invoke/VarHandle" ∧ (parseMethodDescriptor yX7_saint.desc).map (fun d => d.parameters.length) = some 2 := by decide +kernel
theorem hyW_X8_saint : yX8_saint.cls = RX8 ∧ yX8_saint.cls ≠ "java/lang/invoke/MethodHandle" ∧ yX8_saint.cls ≠ "java/lang/invoke/VarHandle" ∧ (parseMethodDescriptor yX8_saint.desc).map (fun d => d.parameters.length) = some 2 := by decide +kernel
set_option maxHeartbeats 4000000 in
set_option maxRecDepth 100000 in
theorem law_11 {p : Program} {l : Launch} {e : Env} {s : State} {m : MethodId} {below : List Frame} {meth : Method} {c : Code} {b L : Nat} {xs : Nat → Int32} {G : Gg} (hL : L ≤ 3072) (C : LC p s m meth c b L xs G) {i : Nat} (hi : i + 6 ≤ L) {M : Mm} (hI : Inv M) (kk : ∀ M3, Inv M3 → LB p l e s m below meth c b G 1219 i M3) : LB p l e s m below meth c b G 493 i M := by
  intro H locs ls hP hD hS hl
  obtain ⟨hx, hb, hr, hml, hown, hts, hX, hbl, hlocks, hgv⟩ := C.1
  have hbA : ¬ LA s b := Nat.not_le.mpr hbl
  refine lv_aload_n hx hb dL_law_493 rfl (lv_at hl 1 rfl) ?_
  refine lv_aload_n hx hb dL_law_494 rfl (lv_at hl 0 rfl) ?_
  refine lv_iload_n hx hb dL_law_495 rfl (lv_at hl 3 rfl) ?_
  refine lv_iconst (v := 1) hx hb dL_law_496 (by decide) ?_
  refine lv_iadd hx hb dL_law_497 ?_
  rw [show nI i + (1 : Int32) = nI (i + 1) from by rw [li_1, nI_add]]
  refine va_sld hx hb hX hbl hbA hS (sc_in hL (by decide) hi) dL_law_498 ?_
  refine lv_aload_n hx hb dL_law_499 rfl (lv_at hl 0 rfl) ?_
  refine lv_iload_n hx hb dL_law_500 rfl (lv_at hl 3 rfl) ?_
  refine lv_iconst (v := 2) hx hb dL_law_501 (by decide) ?_
  refine lv_iadd hx hb dL_law_502 ?_
  rw [show nI i + (2 : Int32) = nI (i + 2) from by rw [li_2, nI_add]]
  refine va_sld hx hb hX hbl hbA hS (sc_in hL (by decide) hi) dL_law_503 ?_
  refine law_call C 0 [.int (xs (nI (i + 1)).toNatClampNeg), .int (xs (nI (i + 2)).toNatClampNeg)] [] rfl dL_law_504 gW_X7_saint rfl hyW_X7_saint (by decide) (by decide) TX7 11 rfl (by decide) (Nat.le_of_ble_eq_true rfl) rfl hP hD hS hl.1 (L_saint (xs (nI (i + 1)).toNatClampNeg) (xs (nI (i + 2)).toNatClampNeg) M hI) (fun r1 M1 H locs h1 hP hD hS => ?_)
  refine lv_aload_n hx hb dL_law_507 rfl (lv_at hl 2 rfl) ?_
  refine lv_aload_n hx hb dL_law_508 rfl (lv_at hl 0 rfl) ?_
  refine lv_iload_n hx hb dL_law_509 rfl (lv_at hl 3 rfl) ?_
  refine lv_iconst (v := 1) hx hb dL_law_510 (by decide) ?_
  refine lv_iadd hx hb dL_law_511 ?_
  rw [show nI i + (1 : Int32) = nI (i + 1) from by rw [li_1, nI_add]]
  refine va_sld hx hb hX hbl hbA hS (sc_in hL (by decide) hi) dL_law_512 ?_
  refine lv_aload_n hx hb dL_law_513 rfl (lv_at hl 0 rfl) ?_
  refine lv_iload_n hx hb dL_law_514 rfl (lv_at hl 3 rfl) ?_
  refine lv_iconst (v := 2) hx hb dL_law_515 (by decide) ?_
  refine lv_iadd hx hb dL_law_516 ?_
  rw [show nI i + (2 : Int32) = nI (i + 2) from by rw [li_2, nI_add]]
  refine va_sld hx hb hX hbl hbA hS (sc_in hL (by decide) hi) dL_law_517 ?_
  refine law_call C 49 [.int (xs (nI (i + 1)).toNatClampNeg), .int (xs (nI (i + 2)).toNatClampNeg)] [.int r1] rfl dL_law_518 gW_X8_saint rfl hyW_X8_saint (by decide) (by decide) TX8 23 rfl (by decide) (Nat.le_of_ble_eq_true rfl) rfl hP hD hS hl.1 h1 (fun r2 M2 H locs h2 hP hD hS => ?_)
  exact lv_icmp_eq (tgt := 1219) hx hb dL_law_521 (by decide) (fun _ => kk M2 h2.2 H locs ls hP hD hS hl) (fun c9 => absurd h2.1 c9)
theorem hyW_X7_holder : yX7_holder.cls = RX7 ∧ yX7_holder.cls ≠ "java/lang/invoke/MethodHandle" ∧ yX7_holder.cls ≠ "java/lang/invoke/VarHandle" ∧ (parseMethodDescriptor yX7_holder.desc).map (fun d => d.parameters.length) = some 1 := by decide +kernel
theorem hyW_X8_holder : yX8_holder.cls = RX8 ∧ yX8_holder.cls ≠ "java/lang/invoke/MethodHandle" ∧ yX8_holder.cls ≠ "java/lang/invoke/VarHandle" ∧ (parseMethodDescriptor yX8_holder.desc).map (fun d => d.parameters.length) = some 1 := by decide +kernel
set_option maxHeartbeats 4000000 in
set_option maxRecDepth 100000 in
theorem law_12 {p : Program} {l : Launch} {e : Env} {s : State} {m : MethodId} {below : List Frame} {meth : Method} {c : Code} {b L : Nat} {xs : Nat → Int32} {G : Gg} (hL : L ≤ 3072) (C : LC p s m meth c b L xs G) {i : Nat} (hi : i + 6 ≤ L) {M : Mm} (hI : Inv M) (kk : ∀ M3, Inv M3 → LB p l e s m below meth c b G 1219 i M3) : LB p l e s m below meth c b G 526 i M := by
  intro H locs ls hP hD hS hl
  obtain ⟨hx, hb, hr, hml, hown, hts, hX, hbl, hlocks, hgv⟩ := C.1
  have hbA : ¬ LA s b := Nat.not_le.mpr hbl
  refine lv_aload_n hx hb dL_law_526 rfl (lv_at hl 1 rfl) ?_
  refine lv_aload_n hx hb dL_law_527 rfl (lv_at hl 0 rfl) ?_
  refine lv_iload_n hx hb dL_law_528 rfl (lv_at hl 3 rfl) ?_
  refine lv_iconst (v := 1) hx hb dL_law_529 (by decide) ?_
  refine lv_iadd hx hb dL_law_530 ?_
  rw [show nI i + (1 : Int32) = nI (i + 1) from by rw [li_1, nI_add]]
  refine va_sld hx hb hX hbl hbA hS (sc_in hL (by decide) hi) dL_law_531 ?_
  refine law_call C 0 [.int (xs (nI (i + 1)).toNatClampNeg)] [] rfl dL_law_532 gW_X7_holder rfl hyW_X7_holder (by decide) (by decide) TX7 11 rfl (by decide) (Nat.le_of_ble_eq_true rfl) rfl hP hD hS hl.1 (L_holder (xs (nI (i + 1)).toNatClampNeg) M hI) (fun r1 M1 H locs h1 hP hD hS => ?_)
  refine lv_aload_n hx hb dL_law_535 rfl (lv_at hl 2 rfl) ?_
  refine lv_aload_n hx hb dL_law_536 rfl (lv_at hl 0 rfl) ?_
  refine lv_iload_n hx hb dL_law_537 rfl (lv_at hl 3 rfl) ?_
  refine lv_iconst (v := 1) hx hb dL_law_538 (by decide) ?_
  refine lv_iadd hx hb dL_law_539 ?_
  rw [show nI i + (1 : Int32) = nI (i + 1) from by rw [li_1, nI_add]]
  refine va_sld hx hb hX hbl hbA hS (sc_in hL (by decide) hi) dL_law_540 ?_
  refine law_call C 49 [.int (xs (nI (i + 1)).toNatClampNeg)] [.int r1] rfl dL_law_541 gW_X8_holder rfl hyW_X8_holder (by decide) (by decide) TX8 23 rfl (by decide) (Nat.le_of_ble_eq_true rfl) rfl hP hD hS hl.1 h1 (fun r2 M2 H locs h2 hP hD hS => ?_)
  exact lv_icmp_eq (tgt := 1219) hx hb dL_law_544 (by decide) (fun _ => kk M2 h2.2 H locs ls hP hD hS hl) (fun c9 => absurd h2.1 c9)
theorem hyW_X7_ahead : yX7_ahead.cls = RX7 ∧ yX7_ahead.cls ≠ "java/lang/invoke/MethodHandle" ∧ yX7_ahead.cls ≠ "java/lang/invoke/VarHandle" ∧ (parseMethodDescriptor yX7_ahead.desc).map (fun d => d.parameters.length) = some 2 := by decide +kernel
theorem hyW_X8_ahead : yX8_ahead.cls = RX8 ∧ yX8_ahead.cls ≠ "java/lang/invoke/MethodHandle" ∧ yX8_ahead.cls ≠ "java/lang/invoke/VarHandle" ∧ (parseMethodDescriptor yX8_ahead.desc).map (fun d => d.parameters.length) = some 2 := by decide +kernel
set_option maxHeartbeats 4000000 in
set_option maxRecDepth 100000 in
theorem law_13 {p : Program} {l : Launch} {e : Env} {s : State} {m : MethodId} {below : List Frame} {meth : Method} {c : Code} {b L : Nat} {xs : Nat → Int32} {G : Gg} (hL : L ≤ 3072) (C : LC p s m meth c b L xs G) {i : Nat} (hi : i + 6 ≤ L) {M : Mm} (hI : Inv M) (kk : ∀ M3, Inv M3 → LB p l e s m below meth c b G 1219 i M3) : LB p l e s m below meth c b G 549 i M := by
  intro H locs ls hP hD hS hl
  obtain ⟨hx, hb, hr, hml, hown, hts, hX, hbl, hlocks, hgv⟩ := C.1
  have hbA : ¬ LA s b := Nat.not_le.mpr hbl
  refine lv_aload_n hx hb dL_law_549 rfl (lv_at hl 1 rfl) ?_
  refine lv_aload_n hx hb dL_law_550 rfl (lv_at hl 0 rfl) ?_
  refine lv_iload_n hx hb dL_law_551 rfl (lv_at hl 3 rfl) ?_
  refine lv_iconst (v := 1) hx hb dL_law_552 (by decide) ?_
  refine lv_iadd hx hb dL_law_553 ?_
  rw [show nI i + (1 : Int32) = nI (i + 1) from by rw [li_1, nI_add]]
  refine va_sld hx hb hX hbl hbA hS (sc_in hL (by decide) hi) dL_law_554 ?_
  refine lv_aload_n hx hb dL_law_555 rfl (lv_at hl 0 rfl) ?_
  refine lv_iload_n hx hb dL_law_556 rfl (lv_at hl 3 rfl) ?_
  refine lv_iconst (v := 2) hx hb dL_law_557 (by decide) ?_
  refine lv_iadd hx hb dL_law_558 ?_
  rw [show nI i + (2 : Int32) = nI (i + 2) from by rw [li_2, nI_add]]
  refine va_sld hx hb hX hbl hbA hS (sc_in hL (by decide) hi) dL_law_559 ?_
  refine law_call C 0 [.int (xs (nI (i + 1)).toNatClampNeg), .int (xs (nI (i + 2)).toNatClampNeg)] [] rfl dL_law_560 gW_X7_ahead rfl hyW_X7_ahead (by decide) (by decide) TX7 11 rfl (by decide) (Nat.le_of_ble_eq_true rfl) rfl hP hD hS hl.1 (L_ahead (xs (nI (i + 1)).toNatClampNeg) (xs (nI (i + 2)).toNatClampNeg) M hI) (fun r1 M1 H locs h1 hP hD hS => ?_)
  refine lv_aload_n hx hb dL_law_563 rfl (lv_at hl 2 rfl) ?_
  refine lv_aload_n hx hb dL_law_564 rfl (lv_at hl 0 rfl) ?_
  refine lv_iload_n hx hb dL_law_565 rfl (lv_at hl 3 rfl) ?_
  refine lv_iconst (v := 1) hx hb dL_law_566 (by decide) ?_
  refine lv_iadd hx hb dL_law_567 ?_
  rw [show nI i + (1 : Int32) = nI (i + 1) from by rw [li_1, nI_add]]
  refine va_sld hx hb hX hbl hbA hS (sc_in hL (by decide) hi) dL_law_568 ?_
  refine lv_aload_n hx hb dL_law_569 rfl (lv_at hl 0 rfl) ?_
  refine lv_iload_n hx hb dL_law_570 rfl (lv_at hl 3 rfl) ?_
  refine lv_iconst (v := 2) hx hb dL_law_571 (by decide) ?_
  refine lv_iadd hx hb dL_law_572 ?_
  rw [show nI i + (2 : Int32) = nI (i + 2) from by rw [li_2, nI_add]]
  refine va_sld hx hb hX hbl hbA hS (sc_in hL (by decide) hi) dL_law_573 ?_
  refine law_call C 49 [.int (xs (nI (i + 1)).toNatClampNeg), .int (xs (nI (i + 2)).toNatClampNeg)] [.int r1] rfl dL_law_574 gW_X8_ahead rfl hyW_X8_ahead (by decide) (by decide) TX8 23 rfl (by decide) (Nat.le_of_ble_eq_true rfl) rfl hP hD hS hl.1 h1 (fun r2 M2 H locs h2 hP hD hS => ?_)
  exact lv_icmp_eq (tgt := 1219) hx hb dL_law_577 (by decide) (fun _ => kk M2 h2.2 H locs ls hP hD hS hl) (fun c9 => absurd h2.1 c9)
theorem hyW_X7_when : yX7_when.cls = RX7 ∧ yX7_when.cls ≠ "java/lang/invoke/MethodHandle" ∧ yX7_when.cls ≠ "java/lang/invoke/VarHandle" ∧ (parseMethodDescriptor yX7_when.desc).map (fun d => d.parameters.length) = some 2 := by decide +kernel
theorem hyW_X8_when : yX8_when.cls = RX8 ∧ yX8_when.cls ≠ "java/lang/invoke/MethodHandle" ∧ yX8_when.cls ≠ "java/lang/invoke/VarHandle" ∧ (parseMethodDescriptor yX8_when.desc).map (fun d => d.parameters.length) = some 2 := by decide +kernel
set_option maxHeartbeats 4000000 in
set_option maxRecDepth 100000 in
theorem law_14 {p : Program} {l : Launch} {e : Env} {s : State} {m : MethodId} {below : List Frame} {meth : Method} {c : Code} {b L : Nat} {xs : Nat → Int32} {G : Gg} (hL : L ≤ 3072) (C : LC p s m meth c b L xs G) {i : Nat} (hi : i + 6 ≤ L) {M : Mm} (hI : Inv M) (kk : ∀ M3, Inv M3 → LB p l e s m below meth c b G 1219 i M3) : LB p l e s m below meth c b G 582 i M := by
  intro H locs ls hP hD hS hl
  obtain ⟨hx, hb, hr, hml, hown, hts, hX, hbl, hlocks, hgv⟩ := C.1
  have hbA : ¬ LA s b := Nat.not_le.mpr hbl
  refine lv_aload_n hx hb dL_law_582 rfl (lv_at hl 1 rfl) ?_
  refine lv_aload_n hx hb dL_law_583 rfl (lv_at hl 0 rfl) ?_
  refine lv_iload_n hx hb dL_law_584 rfl (lv_at hl 3 rfl) ?_
  refine lv_iconst (v := 1) hx hb dL_law_585 (by decide) ?_
  refine lv_iadd hx hb dL_law_586 ?_
  rw [show nI i + (1 : Int32) = nI (i + 1) from by rw [li_1, nI_add]]
  refine va_sld hx hb hX hbl hbA hS (sc_in hL (by decide) hi) dL_law_587 ?_
  refine lv_aload_n hx hb dL_law_588 rfl (lv_at hl 0 rfl) ?_
  refine lv_iload_n hx hb dL_law_589 rfl (lv_at hl 3 rfl) ?_
  refine lv_iconst (v := 2) hx hb dL_law_590 (by decide) ?_
  refine lv_iadd hx hb dL_law_591 ?_
  rw [show nI i + (2 : Int32) = nI (i + 2) from by rw [li_2, nI_add]]
  refine va_sld hx hb hX hbl hbA hS (sc_in hL (by decide) hi) dL_law_592 ?_
  refine law_call C 0 [.int (xs (nI (i + 1)).toNatClampNeg), .int (xs (nI (i + 2)).toNatClampNeg)] [] rfl dL_law_593 gW_X7_when rfl hyW_X7_when (by decide) (by decide) TX7 11 rfl (by decide) (Nat.le_of_ble_eq_true rfl) rfl hP hD hS hl.1 (L_when (xs (nI (i + 1)).toNatClampNeg) (xs (nI (i + 2)).toNatClampNeg) M hI) (fun r1 M1 H locs h1 hP hD hS => ?_)
  refine lv_aload_n hx hb dL_law_596 rfl (lv_at hl 2 rfl) ?_
  refine lv_aload_n hx hb dL_law_597 rfl (lv_at hl 0 rfl) ?_
  refine lv_iload_n hx hb dL_law_598 rfl (lv_at hl 3 rfl) ?_
  refine lv_iconst (v := 1) hx hb dL_law_599 (by decide) ?_
  refine lv_iadd hx hb dL_law_600 ?_
  rw [show nI i + (1 : Int32) = nI (i + 1) from by rw [li_1, nI_add]]
  refine va_sld hx hb hX hbl hbA hS (sc_in hL (by decide) hi) dL_law_601 ?_
  refine lv_aload_n hx hb dL_law_602 rfl (lv_at hl 0 rfl) ?_
  refine lv_iload_n hx hb dL_law_603 rfl (lv_at hl 3 rfl) ?_
  refine lv_iconst (v := 2) hx hb dL_law_604 (by decide) ?_
  refine lv_iadd hx hb dL_law_605 ?_
  rw [show nI i + (2 : Int32) = nI (i + 2) from by rw [li_2, nI_add]]
  refine va_sld hx hb hX hbl hbA hS (sc_in hL (by decide) hi) dL_law_606 ?_
  refine law_call C 49 [.int (xs (nI (i + 1)).toNatClampNeg), .int (xs (nI (i + 2)).toNatClampNeg)] [.int r1] rfl dL_law_607 gW_X8_when rfl hyW_X8_when (by decide) (by decide) TX8 23 rfl (by decide) (Nat.le_of_ble_eq_true rfl) rfl hP hD hS hl.1 h1 (fun r2 M2 H locs h2 hP hD hS => ?_)
  exact lv_icmp_eq (tgt := 1219) hx hb dL_law_610 (by decide) (fun _ => kk M2 h2.2 H locs ls hP hD hS hl) (fun c9 => absurd h2.1 c9)
theorem hyW_X7_pray : yX7_pray.cls = RX7 ∧ yX7_pray.cls ≠ "java/lang/invoke/MethodHandle" ∧ yX7_pray.cls ≠ "java/lang/invoke/VarHandle" ∧ (parseMethodDescriptor yX7_pray.desc).map (fun d => d.parameters.length) = some 1 := by decide +kernel
theorem hyW_X8_pray : yX8_pray.cls = RX8 ∧ yX8_pray.cls ≠ "java/lang/invoke/MethodHandle" ∧ yX8_pray.cls ≠ "java/lang/invoke/VarHandle" ∧ (parseMethodDescriptor yX8_pray.desc).map (fun d => d.parameters.length) = some 1 := by decide +kernel
set_option maxHeartbeats 4000000 in
set_option maxRecDepth 100000 in
theorem law_15 {p : Program} {l : Launch} {e : Env} {s : State} {m : MethodId} {below : List Frame} {meth : Method} {c : Code} {b L : Nat} {xs : Nat → Int32} {G : Gg} (hL : L ≤ 3072) (C : LC p s m meth c b L xs G) {i : Nat} (hi : i + 6 ≤ L) {M : Mm} (hI : Inv M) (kk : ∀ M3, Inv M3 → LB p l e s m below meth c b G 1219 i M3) : LB p l e s m below meth c b G 615 i M := by
  intro H locs ls hP hD hS hl
  obtain ⟨hx, hb, hr, hml, hown, hts, hX, hbl, hlocks, hgv⟩ := C.1
  have hbA : ¬ LA s b := Nat.not_le.mpr hbl
  refine lv_aload_n hx hb dL_law_615 rfl (lv_at hl 1 rfl) ?_
  refine lv_aload_n hx hb dL_law_616 rfl (lv_at hl 0 rfl) ?_
  refine lv_iload_n hx hb dL_law_617 rfl (lv_at hl 3 rfl) ?_
  refine lv_iconst (v := 1) hx hb dL_law_618 (by decide) ?_
  refine lv_iadd hx hb dL_law_619 ?_
  rw [show nI i + (1 : Int32) = nI (i + 1) from by rw [li_1, nI_add]]
  refine va_sld hx hb hX hbl hbA hS (sc_in hL (by decide) hi) dL_law_620 ?_
  refine law_call C 0 [.int (xs (nI (i + 1)).toNatClampNeg)] [] rfl dL_law_621 gW_X7_pray rfl hyW_X7_pray (by decide) (by decide) TX7 11 rfl (by decide) (Nat.le_of_ble_eq_true rfl) rfl hP hD hS hl.1 (L_pray (xs (nI (i + 1)).toNatClampNeg) M hI) (fun r1 M1 H locs h1 hP hD hS => ?_)
  refine lv_aload_n hx hb dL_law_624 rfl (lv_at hl 2 rfl) ?_
  refine lv_aload_n hx hb dL_law_625 rfl (lv_at hl 0 rfl) ?_
  refine lv_iload_n hx hb dL_law_626 rfl (lv_at hl 3 rfl) ?_
  refine lv_iconst (v := 1) hx hb dL_law_627 (by decide) ?_
  refine lv_iadd hx hb dL_law_628 ?_
  rw [show nI i + (1 : Int32) = nI (i + 1) from by rw [li_1, nI_add]]
  refine va_sld hx hb hX hbl hbA hS (sc_in hL (by decide) hi) dL_law_629 ?_
  refine law_call C 49 [.int (xs (nI (i + 1)).toNatClampNeg)] [.int r1] rfl dL_law_630 gW_X8_pray rfl hyW_X8_pray (by decide) (by decide) TX8 23 rfl (by decide) (Nat.le_of_ble_eq_true rfl) rfl hP hD hS hl.1 h1 (fun r2 M2 H locs h2 hP hD hS => ?_)
  exact lv_icmp_eq (tgt := 1219) hx hb dL_law_633 (by decide) (fun _ => kk M2 h2.2 H locs ls hP hD hS hl) (fun c9 => absurd h2.1 c9)
theorem hyW_X7_round : yX7_round.cls = RX7 ∧ yX7_round.cls ≠ "java/lang/invoke/MethodHandle" ∧ yX7_round.cls ≠ "java/lang/invoke/VarHandle" ∧ (parseMethodDescriptor yX7_round.desc).map (fun d => d.parameters.length) = some 0 := by decide +kernel
theorem hyW_X8_round : yX8_round.cls = RX8 ∧ yX8_round.cls ≠ "java/lang/invoke/MethodHandle" ∧ yX8_round.cls ≠ "java/lang/invoke/VarHandle" ∧ (parseMethodDescriptor yX8_round.desc).map (fun d => d.parameters.length) = some 0 := by decide +kernel
set_option maxHeartbeats 4000000 in
set_option maxRecDepth 100000 in
theorem law_16 {p : Program} {l : Launch} {e : Env} {s : State} {m : MethodId} {below : List Frame} {meth : Method} {c : Code} {b L : Nat} {xs : Nat → Int32} {G : Gg} (hL : L ≤ 3072) (C : LC p s m meth c b L xs G) {i : Nat} (hi : i + 6 ≤ L) {M : Mm} (hI : Inv M) (kk : ∀ M3, Inv M3 → LB p l e s m below meth c b G 1219 i M3) : LB p l e s m below meth c b G 638 i M := by
  intro H locs ls hP hD hS hl
  obtain ⟨hx, hb, hr, hml, hown, hts, hX, hbl, hlocks, hgv⟩ := C.1
  have hbA : ¬ LA s b := Nat.not_le.mpr hbl
  refine lv_aload_n hx hb dL_law_638 rfl (lv_at hl 1 rfl) ?_
  refine law_call C 0 [] [] rfl dL_law_639 gW_X7_round rfl hyW_X7_round (by decide) (by decide) TX7 11 rfl (by decide) (Nat.le_of_ble_eq_true rfl) rfl hP hD hS hl.1 (L_round  M hI) (fun r1 M1 H locs h1 hP hD hS => ?_)
  refine lv_aload_n hx hb dL_law_642 rfl (lv_at hl 2 rfl) ?_
  refine law_call C 49 [] [.int r1] rfl dL_law_643 gW_X8_round rfl hyW_X8_round (by decide) (by decide) TX8 23 rfl (by decide) (Nat.le_of_ble_eq_true rfl) rfl hP hD hS hl.1 h1 (fun r2 M2 H locs h2 hP hD hS => ?_)
  exact lv_icmp_eq (tgt := 1219) hx hb dL_law_646 (by decide) (fun _ => kk M2 h2.2 H locs ls hP hD hS hl) (fun c9 => absurd h2.1 c9)
theorem hyW_X7_home : yX7_home.cls = RX7 ∧ yX7_home.cls ≠ "java/lang/invoke/MethodHandle" ∧ yX7_home.cls ≠ "java/lang/invoke/VarHandle" ∧ (parseMethodDescriptor yX7_home.desc).map (fun d => d.parameters.length) = some 1 := by decide +kernel
theorem hyW_X8_home : yX8_home.cls = RX8 ∧ yX8_home.cls ≠ "java/lang/invoke/MethodHandle" ∧ yX8_home.cls ≠ "java/lang/invoke/VarHandle" ∧ (parseMethodDescriptor yX8_home.desc).map (fun d => d.parameters.length) = some 1 := by decide +kernel
set_option maxHeartbeats 4000000 in
set_option maxRecDepth 100000 in
theorem law_17 {p : Program} {l : Launch} {e : Env} {s : State} {m : MethodId} {below : List Frame} {meth : Method} {c : Code} {b L : Nat} {xs : Nat → Int32} {G : Gg} (hL : L ≤ 3072) (C : LC p s m meth c b L xs G) {i : Nat} (hi : i + 6 ≤ L) {M : Mm} (hI : Inv M) (kk : ∀ M3, Inv M3 → LB p l e s m below meth c b G 1219 i M3) : LB p l e s m below meth c b G 651 i M := by
  intro H locs ls hP hD hS hl
  obtain ⟨hx, hb, hr, hml, hown, hts, hX, hbl, hlocks, hgv⟩ := C.1
  have hbA : ¬ LA s b := Nat.not_le.mpr hbl
  refine lv_aload_n hx hb dL_law_651 rfl (lv_at hl 1 rfl) ?_
  refine lv_aload_n hx hb dL_law_652 rfl (lv_at hl 0 rfl) ?_
  refine lv_iload_n hx hb dL_law_653 rfl (lv_at hl 3 rfl) ?_
  refine lv_iconst (v := 1) hx hb dL_law_654 (by decide) ?_
  refine lv_iadd hx hb dL_law_655 ?_
  rw [show nI i + (1 : Int32) = nI (i + 1) from by rw [li_1, nI_add]]
  refine va_sld hx hb hX hbl hbA hS (sc_in hL (by decide) hi) dL_law_656 ?_
  refine law_call C 0 [.int (xs (nI (i + 1)).toNatClampNeg)] [] rfl dL_law_657 gW_X7_home rfl hyW_X7_home (by decide) (by decide) TX7 11 rfl (by decide) (Nat.le_of_ble_eq_true rfl) rfl hP hD hS hl.1 (L_home (xs (nI (i + 1)).toNatClampNeg) M hI) (fun r1 M1 H locs h1 hP hD hS => ?_)
  refine lv_aload_n hx hb dL_law_660 rfl (lv_at hl 2 rfl) ?_
  refine lv_aload_n hx hb dL_law_661 rfl (lv_at hl 0 rfl) ?_
  refine lv_iload_n hx hb dL_law_662 rfl (lv_at hl 3 rfl) ?_
  refine lv_iconst (v := 1) hx hb dL_law_663 (by decide) ?_
  refine lv_iadd hx hb dL_law_664 ?_
  rw [show nI i + (1 : Int32) = nI (i + 1) from by rw [li_1, nI_add]]
  refine va_sld hx hb hX hbl hbA hS (sc_in hL (by decide) hi) dL_law_665 ?_
  refine law_call C 49 [.int (xs (nI (i + 1)).toNatClampNeg)] [.int r1] rfl dL_law_666 gW_X8_home rfl hyW_X8_home (by decide) (by decide) TX8 23 rfl (by decide) (Nat.le_of_ble_eq_true rfl) rfl hP hD hS hl.1 h1 (fun r2 M2 H locs h2 hP hD hS => ?_)
  exact lv_icmp_eq (tgt := 1219) hx hb dL_law_669 (by decide) (fun _ => kk M2 h2.2 H locs ls hP hD hS hl) (fun c9 => absurd h2.1 c9)
theorem hyW_X7_swaps : yX7_swaps.cls = RX7 ∧ yX7_swaps.cls ≠ "java/lang/invoke/MethodHandle" ∧ yX7_swaps.cls ≠ "java/lang/invoke/VarHandle" ∧ (parseMethodDescriptor yX7_swaps.desc).map (fun d => d.parameters.length) = some 3 := by decide +kernel
theorem hyW_X8_swaps : yX8_swaps.cls = RX8 ∧ yX8_swaps.cls ≠ "java/lang/invoke/MethodHandle" ∧ yX8_swaps.cls ≠ "java/lang/invoke/VarHandle" ∧ (parseMethodDescriptor yX8_swaps.desc).map (fun d => d.parameters.length) = some 3 := by decide +kernel
set_option maxHeartbeats 4000000 in
set_option maxRecDepth 100000 in
theorem law_18 {p : Program} {l : Launch} {e : Env} {s : State} {m : MethodId} {below : List Frame} {meth : Method} {c : Code} {b L : Nat} {xs : Nat → Int32} {G : Gg} (hL : L ≤ 3072) (C : LC p s m meth c b L xs G) {i : Nat} (hi : i + 6 ≤ L) {M : Mm} (hI : Inv M) (kk : ∀ M3, Inv M3 → LB p l e s m below meth c b G 1219 i M3) : LB p l e s m below meth c b G 674 i M := by
  intro H locs ls hP hD hS hl
  obtain ⟨hx, hb, hr, hml, hown, hts, hX, hbl, hlocks, hgv⟩ := C.1
  have hbA : ¬ LA s b := Nat.not_le.mpr hbl
  refine lv_aload_n hx hb dL_law_674 rfl (lv_at hl 1 rfl) ?_
  refine lv_aload_n hx hb dL_law_675 rfl (lv_at hl 0 rfl) ?_
  refine lv_iload_n hx hb dL_law_676 rfl (lv_at hl 3 rfl) ?_
  refine lv_iconst (v := 1) hx hb dL_law_677 (by decide) ?_
  refine lv_iadd hx hb dL_law_678 ?_
  rw [show nI i + (1 : Int32) = nI (i + 1) from by rw [li_1, nI_add]]
  refine va_sld hx hb hX hbl hbA hS (sc_in hL (by decide) hi) dL_law_679 ?_
  refine lv_aload_n hx hb dL_law_680 rfl (lv_at hl 0 rfl) ?_
  refine lv_iload_n hx hb dL_law_681 rfl (lv_at hl 3 rfl) ?_
  refine lv_iconst (v := 2) hx hb dL_law_682 (by decide) ?_
  refine lv_iadd hx hb dL_law_683 ?_
  rw [show nI i + (2 : Int32) = nI (i + 2) from by rw [li_2, nI_add]]
  refine va_sld hx hb hX hbl hbA hS (sc_in hL (by decide) hi) dL_law_684 ?_
  refine lv_aload_n hx hb dL_law_685 rfl (lv_at hl 0 rfl) ?_
  refine lv_iload_n hx hb dL_law_686 rfl (lv_at hl 3 rfl) ?_
  refine lv_iconst (v := 3) hx hb dL_law_687 (by decide) ?_
  refine lv_iadd hx hb dL_law_688 ?_
  rw [show nI i + (3 : Int32) = nI (i + 3) from by rw [li_3, nI_add]]
  refine va_sld hx hb hX hbl hbA hS (sc_in hL (by decide) hi) dL_law_689 ?_
  refine law_call C 0 [.int (xs (nI (i + 1)).toNatClampNeg), .int (xs (nI (i + 2)).toNatClampNeg), .int (xs (nI (i + 3)).toNatClampNeg)] [] rfl dL_law_690 gW_X7_swaps rfl hyW_X7_swaps (by decide) (by decide) TX7 11 rfl (by decide) (Nat.le_of_ble_eq_true rfl) rfl hP hD hS hl.1 (L_swaps (xs (nI (i + 1)).toNatClampNeg) (xs (nI (i + 2)).toNatClampNeg) (xs (nI (i + 3)).toNatClampNeg) M hI) (fun r1 M1 H locs h1 hP hD hS => ?_)
  refine lv_aload_n hx hb dL_law_693 rfl (lv_at hl 2 rfl) ?_
  refine lv_aload_n hx hb dL_law_694 rfl (lv_at hl 0 rfl) ?_
  refine lv_iload_n hx hb dL_law_695 rfl (lv_at hl 3 rfl) ?_
  refine lv_iconst (v := 1) hx hb dL_law_696 (by decide) ?_
  refine lv_iadd hx hb dL_law_697 ?_
  rw [show nI i + (1 : Int32) = nI (i + 1) from by rw [li_1, nI_add]]
  refine va_sld hx hb hX hbl hbA hS (sc_in hL (by decide) hi) dL_law_698 ?_
  refine lv_aload_n hx hb dL_law_699 rfl (lv_at hl 0 rfl) ?_
  refine lv_iload_n hx hb dL_law_700 rfl (lv_at hl 3 rfl) ?_
  refine lv_iconst (v := 2) hx hb dL_law_701 (by decide) ?_
  refine lv_iadd hx hb dL_law_702 ?_
  rw [show nI i + (2 : Int32) = nI (i + 2) from by rw [li_2, nI_add]]
  refine va_sld hx hb hX hbl hbA hS (sc_in hL (by decide) hi) dL_law_703 ?_
  refine lv_aload_n hx hb dL_law_704 rfl (lv_at hl 0 rfl) ?_
  refine lv_iload_n hx hb dL_law_705 rfl (lv_at hl 3 rfl) ?_
  refine lv_iconst (v := 3) hx hb dL_law_706 (by decide) ?_
  refine lv_iadd hx hb dL_law_707 ?_
  rw [show nI i + (3 : Int32) = nI (i + 3) from by rw [li_3, nI_add]]
  refine va_sld hx hb hX hbl hbA hS (sc_in hL (by decide) hi) dL_law_708 ?_
  refine law_call C 49 [.int (xs (nI (i + 1)).toNatClampNeg), .int (xs (nI (i + 2)).toNatClampNeg), .int (xs (nI (i + 3)).toNatClampNeg)] [.int r1] rfl dL_law_709 gW_X8_swaps rfl hyW_X8_swaps (by decide) (by decide) TX8 23 rfl (by decide) (Nat.le_of_ble_eq_true rfl) rfl hP hD hS hl.1 h1 (fun r2 M2 H locs h2 hP hD hS => ?_)
  exact lv_icmp_eq (tgt := 1219) hx hb dL_law_712 (by decide) (fun _ => kk M2 h2.2 H locs ls hP hD hS hl) (fun c9 => absurd h2.1 c9)
theorem hyW_X7_sort : yX7_sort.cls = RX7 ∧ yX7_sort.cls ≠ "java/lang/invoke/MethodHandle" ∧ yX7_sort.cls ≠ "java/lang/invoke/VarHandle" ∧ (parseMethodDescriptor yX7_sort.desc).map (fun d => d.parameters.length) = some 3 := by decide +kernel
theorem hyW_X8_sort : yX8_sort.cls = RX8 ∧ yX8_sort.cls ≠ "java/lang/invoke/MethodHandle" ∧ yX8_sort.cls ≠ "java/lang/invoke/VarHandle" ∧ (parseMethodDescriptor yX8_sort.desc).map (fun d => d.parameters.length) = some 3 := by decide +kernel
set_option maxHeartbeats 4000000 in
set_option maxRecDepth 100000 in
theorem law_19 {p : Program} {l : Launch} {e : Env} {s : State} {m : MethodId} {below : List Frame} {meth : Method} {c : Code} {b L : Nat} {xs : Nat → Int32} {G : Gg} (hL : L ≤ 3072) (C : LC p s m meth c b L xs G) {i : Nat} (hi : i + 6 ≤ L) {M : Mm} (hI : Inv M) (kk : ∀ M3, Inv M3 → LB p l e s m below meth c b G 1219 i M3) : LB p l e s m below meth c b G 717 i M := by
  intro H locs ls hP hD hS hl
  obtain ⟨hx, hb, hr, hml, hown, hts, hX, hbl, hlocks, hgv⟩ := C.1
  have hbA : ¬ LA s b := Nat.not_le.mpr hbl
  refine lv_aload_n hx hb dL_law_717 rfl (lv_at hl 1 rfl) ?_
  refine lv_aload_n hx hb dL_law_718 rfl (lv_at hl 0 rfl) ?_
  refine lv_iload_n hx hb dL_law_719 rfl (lv_at hl 3 rfl) ?_
  refine lv_iconst (v := 1) hx hb dL_law_720 (by decide) ?_
  refine lv_iadd hx hb dL_law_721 ?_
  rw [show nI i + (1 : Int32) = nI (i + 1) from by rw [li_1, nI_add]]
  refine va_sld hx hb hX hbl hbA hS (sc_in hL (by decide) hi) dL_law_722 ?_
  refine lv_aload_n hx hb dL_law_723 rfl (lv_at hl 0 rfl) ?_
  refine lv_iload_n hx hb dL_law_724 rfl (lv_at hl 3 rfl) ?_
  refine lv_iconst (v := 2) hx hb dL_law_725 (by decide) ?_
  refine lv_iadd hx hb dL_law_726 ?_
  rw [show nI i + (2 : Int32) = nI (i + 2) from by rw [li_2, nI_add]]
  refine va_sld hx hb hX hbl hbA hS (sc_in hL (by decide) hi) dL_law_727 ?_
  refine lv_aload_n hx hb dL_law_728 rfl (lv_at hl 0 rfl) ?_
  refine lv_iload_n hx hb dL_law_729 rfl (lv_at hl 3 rfl) ?_
  refine lv_iconst (v := 3) hx hb dL_law_730 (by decide) ?_
  refine lv_iadd hx hb dL_law_731 ?_
  rw [show nI i + (3 : Int32) = nI (i + 3) from by rw [li_3, nI_add]]
  refine va_sld hx hb hX hbl hbA hS (sc_in hL (by decide) hi) dL_law_732 ?_
  refine law_call C 0 [.int (xs (nI (i + 1)).toNatClampNeg), .int (xs (nI (i + 2)).toNatClampNeg), .int (xs (nI (i + 3)).toNatClampNeg)] [] rfl dL_law_733 gW_X7_sort rfl hyW_X7_sort (by decide) (by decide) TX7 11 rfl (by decide) (Nat.le_of_ble_eq_true rfl) rfl hP hD hS hl.1 (L_sort (xs (nI (i + 1)).toNatClampNeg) (xs (nI (i + 2)).toNatClampNeg) (xs (nI (i + 3)).toNatClampNeg) M hI) (fun r1 M1 H locs h1 hP hD hS => ?_)
  refine lv_aload_n hx hb dL_law_736 rfl (lv_at hl 2 rfl) ?_
  refine lv_aload_n hx hb dL_law_737 rfl (lv_at hl 0 rfl) ?_
  refine lv_iload_n hx hb dL_law_738 rfl (lv_at hl 3 rfl) ?_
  refine lv_iconst (v := 1) hx hb dL_law_739 (by decide) ?_
  refine lv_iadd hx hb dL_law_740 ?_
  rw [show nI i + (1 : Int32) = nI (i + 1) from by rw [li_1, nI_add]]
  refine va_sld hx hb hX hbl hbA hS (sc_in hL (by decide) hi) dL_law_741 ?_
  refine lv_aload_n hx hb dL_law_742 rfl (lv_at hl 0 rfl) ?_
  refine lv_iload_n hx hb dL_law_743 rfl (lv_at hl 3 rfl) ?_
  refine lv_iconst (v := 2) hx hb dL_law_744 (by decide) ?_
  refine lv_iadd hx hb dL_law_745 ?_
  rw [show nI i + (2 : Int32) = nI (i + 2) from by rw [li_2, nI_add]]
  refine va_sld hx hb hX hbl hbA hS (sc_in hL (by decide) hi) dL_law_746 ?_
  refine lv_aload_n hx hb dL_law_747 rfl (lv_at hl 0 rfl) ?_
  refine lv_iload_n hx hb dL_law_748 rfl (lv_at hl 3 rfl) ?_
  refine lv_iconst (v := 3) hx hb dL_law_749 (by decide) ?_
  refine lv_iadd hx hb dL_law_750 ?_
  rw [show nI i + (3 : Int32) = nI (i + 3) from by rw [li_3, nI_add]]
  refine va_sld hx hb hX hbl hbA hS (sc_in hL (by decide) hi) dL_law_751 ?_
  refine law_call C 49 [.int (xs (nI (i + 1)).toNatClampNeg), .int (xs (nI (i + 2)).toNatClampNeg), .int (xs (nI (i + 3)).toNatClampNeg)] [.int r1] rfl dL_law_752 gW_X8_sort rfl hyW_X8_sort (by decide) (by decide) TX8 23 rfl (by decide) (Nat.le_of_ble_eq_true rfl) rfl hP hD hS hl.1 h1 (fun r2 M2 H locs h2 hP hD hS => ?_)
  exact lv_icmp_eq (tgt := 1219) hx hb dL_law_755 (by decide) (fun _ => kk M2 h2.2 H locs ls hP hD hS hl) (fun c9 => absurd h2.1 c9)
theorem hyW_X7_plan : yX7_plan.cls = RX7 ∧ yX7_plan.cls ≠ "java/lang/invoke/MethodHandle" ∧ yX7_plan.cls ≠ "java/lang/invoke/VarHandle" ∧ (parseMethodDescriptor yX7_plan.desc).map (fun d => d.parameters.length) = some 3 := by decide +kernel
theorem hyW_X8_plan : yX8_plan.cls = RX8 ∧ yX8_plan.cls ≠ "java/lang/invoke/MethodHandle" ∧ yX8_plan.cls ≠ "java/lang/invoke/VarHandle" ∧ (parseMethodDescriptor yX8_plan.desc).map (fun d => d.parameters.length) = some 3 := by decide +kernel
set_option maxHeartbeats 4000000 in
set_option maxRecDepth 100000 in
theorem law_20 {p : Program} {l : Launch} {e : Env} {s : State} {m : MethodId} {below : List Frame} {meth : Method} {c : Code} {b L : Nat} {xs : Nat → Int32} {G : Gg} (hL : L ≤ 3072) (C : LC p s m meth c b L xs G) {i : Nat} (hi : i + 6 ≤ L) {M : Mm} (hI : Inv M) (kk : ∀ M3, Inv M3 → LB p l e s m below meth c b G 1219 i M3) : LB p l e s m below meth c b G 760 i M := by
  intro H locs ls hP hD hS hl
  obtain ⟨hx, hb, hr, hml, hown, hts, hX, hbl, hlocks, hgv⟩ := C.1
  have hbA : ¬ LA s b := Nat.not_le.mpr hbl
  refine lv_aload_n hx hb dL_law_760 rfl (lv_at hl 1 rfl) ?_
  refine lv_aload_n hx hb dL_law_761 rfl (lv_at hl 0 rfl) ?_
  refine lv_iload_n hx hb dL_law_762 rfl (lv_at hl 3 rfl) ?_
  refine lv_iconst (v := 1) hx hb dL_law_763 (by decide) ?_
  refine lv_iadd hx hb dL_law_764 ?_
  rw [show nI i + (1 : Int32) = nI (i + 1) from by rw [li_1, nI_add]]
  refine va_sld hx hb hX hbl hbA hS (sc_in hL (by decide) hi) dL_law_765 ?_
  refine lv_aload_n hx hb dL_law_766 rfl (lv_at hl 0 rfl) ?_
  refine lv_iload_n hx hb dL_law_767 rfl (lv_at hl 3 rfl) ?_
  refine lv_iconst (v := 2) hx hb dL_law_768 (by decide) ?_
  refine lv_iadd hx hb dL_law_769 ?_
  rw [show nI i + (2 : Int32) = nI (i + 2) from by rw [li_2, nI_add]]
  refine va_sld hx hb hX hbl hbA hS (sc_in hL (by decide) hi) dL_law_770 ?_
  refine lv_aload_n hx hb dL_law_771 rfl (lv_at hl 0 rfl) ?_
  refine lv_iload_n hx hb dL_law_772 rfl (lv_at hl 3 rfl) ?_
  refine lv_iconst (v := 3) hx hb dL_law_773 (by decide) ?_
  refine lv_iadd hx hb dL_law_774 ?_
  rw [show nI i + (3 : Int32) = nI (i + 3) from by rw [li_3, nI_add]]
  refine va_sld hx hb hX hbl hbA hS (sc_in hL (by decide) hi) dL_law_775 ?_
  refine law_call C 0 [.int (xs (nI (i + 1)).toNatClampNeg), .int (xs (nI (i + 2)).toNatClampNeg), .int (xs (nI (i + 3)).toNatClampNeg)] [] rfl dL_law_776 gW_X7_plan rfl hyW_X7_plan (by decide) (by decide) TX7 11 rfl (by decide) (Nat.le_of_ble_eq_true rfl) rfl hP hD hS hl.1 (L_plan (xs (nI (i + 1)).toNatClampNeg) (xs (nI (i + 2)).toNatClampNeg) (xs (nI (i + 3)).toNatClampNeg) M hI) (fun r1 M1 H locs h1 hP hD hS => ?_)
  refine lv_aload_n hx hb dL_law_779 rfl (lv_at hl 2 rfl) ?_
  refine lv_aload_n hx hb dL_law_780 rfl (lv_at hl 0 rfl) ?_
  refine lv_iload_n hx hb dL_law_781 rfl (lv_at hl 3 rfl) ?_
  refine lv_iconst (v := 1) hx hb dL_law_782 (by decide) ?_
  refine lv_iadd hx hb dL_law_783 ?_
  rw [show nI i + (1 : Int32) = nI (i + 1) from by rw [li_1, nI_add]]
  refine va_sld hx hb hX hbl hbA hS (sc_in hL (by decide) hi) dL_law_784 ?_
  refine lv_aload_n hx hb dL_law_785 rfl (lv_at hl 0 rfl) ?_
  refine lv_iload_n hx hb dL_law_786 rfl (lv_at hl 3 rfl) ?_
  refine lv_iconst (v := 2) hx hb dL_law_787 (by decide) ?_
  refine lv_iadd hx hb dL_law_788 ?_
  rw [show nI i + (2 : Int32) = nI (i + 2) from by rw [li_2, nI_add]]
  refine va_sld hx hb hX hbl hbA hS (sc_in hL (by decide) hi) dL_law_789 ?_
  refine lv_aload_n hx hb dL_law_790 rfl (lv_at hl 0 rfl) ?_
  refine lv_iload_n hx hb dL_law_791 rfl (lv_at hl 3 rfl) ?_
  refine lv_iconst (v := 3) hx hb dL_law_792 (by decide) ?_
  refine lv_iadd hx hb dL_law_793 ?_
  rw [show nI i + (3 : Int32) = nI (i + 3) from by rw [li_3, nI_add]]
  refine va_sld hx hb hX hbl hbA hS (sc_in hL (by decide) hi) dL_law_794 ?_
  refine law_call C 49 [.int (xs (nI (i + 1)).toNatClampNeg), .int (xs (nI (i + 2)).toNatClampNeg), .int (xs (nI (i + 3)).toNatClampNeg)] [.int r1] rfl dL_law_795 gW_X8_plan rfl hyW_X8_plan (by decide) (by decide) TX8 23 rfl (by decide) (Nat.le_of_ble_eq_true rfl) rfl hP hD hS hl.1 h1 (fun r2 M2 H locs h2 hP hD hS => ?_)
  exact lv_icmp_eq (tgt := 1219) hx hb dL_law_798 (by decide) (fun _ => kk M2 h2.2 H locs ls hP hD hS hl) (fun c9 => absurd h2.1 c9)
theorem hyW_X7_fits : yX7_fits.cls = RX7 ∧ yX7_fits.cls ≠ "java/lang/invoke/MethodHandle" ∧ yX7_fits.cls ≠ "java/lang/invoke/VarHandle" ∧ (parseMethodDescriptor yX7_fits.desc).map (fun d => d.parameters.length) = some 5 := by decide +kernel
theorem hyW_X8_fits : yX8_fits.cls = RX8 ∧ yX8_fits.cls ≠ "java/lang/invoke/MethodHandle" ∧ yX8_fits.cls ≠ "java/lang/invoke/VarHandle" ∧ (parseMethodDescriptor yX8_fits.desc).map (fun d => d.parameters.length) = some 5 := by decide +kernel
set_option maxHeartbeats 4000000 in
set_option maxRecDepth 100000 in
theorem law_21 {p : Program} {l : Launch} {e : Env} {s : State} {m : MethodId} {below : List Frame} {meth : Method} {c : Code} {b L : Nat} {xs : Nat → Int32} {G : Gg} (hL : L ≤ 3072) (C : LC p s m meth c b L xs G) {i : Nat} (hi : i + 6 ≤ L) {M : Mm} (hI : Inv M) (kk : ∀ M3, Inv M3 → LB p l e s m below meth c b G 1219 i M3) : LB p l e s m below meth c b G 803 i M := by
  intro H locs ls hP hD hS hl
  obtain ⟨hx, hb, hr, hml, hown, hts, hX, hbl, hlocks, hgv⟩ := C.1
  have hbA : ¬ LA s b := Nat.not_le.mpr hbl
  refine lv_aload_n hx hb dL_law_803 rfl (lv_at hl 1 rfl) ?_
  refine lv_aload_n hx hb dL_law_804 rfl (lv_at hl 0 rfl) ?_
  refine lv_iload_n hx hb dL_law_805 rfl (lv_at hl 3 rfl) ?_
  refine lv_iconst (v := 1) hx hb dL_law_806 (by decide) ?_
  refine lv_iadd hx hb dL_law_807 ?_
  rw [show nI i + (1 : Int32) = nI (i + 1) from by rw [li_1, nI_add]]
  refine va_sld hx hb hX hbl hbA hS (sc_in hL (by decide) hi) dL_law_808 ?_
  refine lv_aload_n hx hb dL_law_809 rfl (lv_at hl 0 rfl) ?_
  refine lv_iload_n hx hb dL_law_810 rfl (lv_at hl 3 rfl) ?_
  refine lv_iconst (v := 2) hx hb dL_law_811 (by decide) ?_
  refine lv_iadd hx hb dL_law_812 ?_
  rw [show nI i + (2 : Int32) = nI (i + 2) from by rw [li_2, nI_add]]
  refine va_sld hx hb hX hbl hbA hS (sc_in hL (by decide) hi) dL_law_813 ?_
  refine lv_aload_n hx hb dL_law_814 rfl (lv_at hl 0 rfl) ?_
  refine lv_iload_n hx hb dL_law_815 rfl (lv_at hl 3 rfl) ?_
  refine lv_iconst (v := 3) hx hb dL_law_816 (by decide) ?_
  refine lv_iadd hx hb dL_law_817 ?_
  rw [show nI i + (3 : Int32) = nI (i + 3) from by rw [li_3, nI_add]]
  refine va_sld hx hb hX hbl hbA hS (sc_in hL (by decide) hi) dL_law_818 ?_
  refine lv_aload_n hx hb dL_law_819 rfl (lv_at hl 0 rfl) ?_
  refine lv_iload_n hx hb dL_law_820 rfl (lv_at hl 3 rfl) ?_
  refine lv_iconst (v := 4) hx hb dL_law_821 (by decide) ?_
  refine lv_iadd hx hb dL_law_822 ?_
  rw [show nI i + (4 : Int32) = nI (i + 4) from by rw [li_4, nI_add]]
  refine va_sld hx hb hX hbl hbA hS (sc_in hL (by decide) hi) dL_law_823 ?_
  refine lv_aload_n hx hb dL_law_824 rfl (lv_at hl 0 rfl) ?_
  refine lv_iload_n hx hb dL_law_825 rfl (lv_at hl 3 rfl) ?_
  refine lv_iconst (v := 5) hx hb dL_law_826 (by decide) ?_
  refine lv_iadd hx hb dL_law_827 ?_
  rw [show nI i + (5 : Int32) = nI (i + 5) from by rw [li_5, nI_add]]
  refine va_sld hx hb hX hbl hbA hS (sc_in hL (by decide) hi) dL_law_828 ?_
  refine law_call C 0 [.int (xs (nI (i + 1)).toNatClampNeg), .int (xs (nI (i + 2)).toNatClampNeg), .int (xs (nI (i + 3)).toNatClampNeg), .int (xs (nI (i + 4)).toNatClampNeg), .int (xs (nI (i + 5)).toNatClampNeg)] [] rfl dL_law_829 gW_X7_fits rfl hyW_X7_fits (by decide) (by decide) TX7 11 rfl (by decide) (Nat.le_of_ble_eq_true rfl) rfl hP hD hS hl.1 (L_fits (xs (nI (i + 1)).toNatClampNeg) (xs (nI (i + 2)).toNatClampNeg) (xs (nI (i + 3)).toNatClampNeg) (xs (nI (i + 4)).toNatClampNeg) (xs (nI (i + 5)).toNatClampNeg) M hI) (fun r1 M1 H locs h1 hP hD hS => ?_)
  refine lv_aload_n hx hb dL_law_832 rfl (lv_at hl 2 rfl) ?_
  refine lv_aload_n hx hb dL_law_833 rfl (lv_at hl 0 rfl) ?_
  refine lv_iload_n hx hb dL_law_834 rfl (lv_at hl 3 rfl) ?_
  refine lv_iconst (v := 1) hx hb dL_law_835 (by decide) ?_
  refine lv_iadd hx hb dL_law_836 ?_
  rw [show nI i + (1 : Int32) = nI (i + 1) from by rw [li_1, nI_add]]
  refine va_sld hx hb hX hbl hbA hS (sc_in hL (by decide) hi) dL_law_837 ?_
  refine lv_aload_n hx hb dL_law_838 rfl (lv_at hl 0 rfl) ?_
  refine lv_iload_n hx hb dL_law_839 rfl (lv_at hl 3 rfl) ?_
  refine lv_iconst (v := 2) hx hb dL_law_840 (by decide) ?_
  refine lv_iadd hx hb dL_law_841 ?_
  rw [show nI i + (2 : Int32) = nI (i + 2) from by rw [li_2, nI_add]]
  refine va_sld hx hb hX hbl hbA hS (sc_in hL (by decide) hi) dL_law_842 ?_
  refine lv_aload_n hx hb dL_law_843 rfl (lv_at hl 0 rfl) ?_
  refine lv_iload_n hx hb dL_law_844 rfl (lv_at hl 3 rfl) ?_
  refine lv_iconst (v := 3) hx hb dL_law_845 (by decide) ?_
  refine lv_iadd hx hb dL_law_846 ?_
  rw [show nI i + (3 : Int32) = nI (i + 3) from by rw [li_3, nI_add]]
  refine va_sld hx hb hX hbl hbA hS (sc_in hL (by decide) hi) dL_law_847 ?_
  refine lv_aload_n hx hb dL_law_848 rfl (lv_at hl 0 rfl) ?_
  refine lv_iload_n hx hb dL_law_849 rfl (lv_at hl 3 rfl) ?_
  refine lv_iconst (v := 4) hx hb dL_law_850 (by decide) ?_
  refine lv_iadd hx hb dL_law_851 ?_
  rw [show nI i + (4 : Int32) = nI (i + 4) from by rw [li_4, nI_add]]
  refine va_sld hx hb hX hbl hbA hS (sc_in hL (by decide) hi) dL_law_852 ?_
  refine lv_aload_n hx hb dL_law_853 rfl (lv_at hl 0 rfl) ?_
  refine lv_iload_n hx hb dL_law_854 rfl (lv_at hl 3 rfl) ?_
  refine lv_iconst (v := 5) hx hb dL_law_855 (by decide) ?_
  refine lv_iadd hx hb dL_law_856 ?_
  rw [show nI i + (5 : Int32) = nI (i + 5) from by rw [li_5, nI_add]]
  refine va_sld hx hb hX hbl hbA hS (sc_in hL (by decide) hi) dL_law_857 ?_
  refine law_call C 49 [.int (xs (nI (i + 1)).toNatClampNeg), .int (xs (nI (i + 2)).toNatClampNeg), .int (xs (nI (i + 3)).toNatClampNeg), .int (xs (nI (i + 4)).toNatClampNeg), .int (xs (nI (i + 5)).toNatClampNeg)] [.int r1] rfl dL_law_858 gW_X8_fits rfl hyW_X8_fits (by decide) (by decide) TX8 23 rfl (by decide) (Nat.le_of_ble_eq_true rfl) rfl hP hD hS hl.1 h1 (fun r2 M2 H locs h2 hP hD hS => ?_)
  exact lv_icmp_eq (tgt := 1219) hx hb dL_law_861 (by decide) (fun _ => kk M2 h2.2 H locs ls hP hD hS hl) (fun c9 => absurd h2.1 c9)
