set_option maxHeartbeats 4000000 in
set_option maxRecDepth 100000 in
theorem rX8_in (d : Nat) (v0 : Int64) (v2 : Int64) (v4 : Int64) (M : Mm) (Q : Int32 → Mm → Prop)
    (h : (((lg_cmp v0 v2) < 0 → Q (0 : Int32) M) ∧ (¬ (lg_cmp v0 v2) < 0 → ((0 < (lg_cmp v0 v4) → Q (0 : Int32) M) ∧ (¬ 0 < (lg_cmp v0 v4) → Q (1 : Int32) M))))) : kX8_in d v0 v2 v4 M Q := by
  refine Ct.of (cc := cX8_in) (nL := 6) (by decide) rfl (Nat.le_of_ble_eq_true rfl) ?_
  show BX8_in d 0 [(0, .long v0), (2, .long v2), (4, .long v4)] [] M Q
  refine B_lload_n dX8_in_0 0 rfl ?_
  refine B_lload_n dX8_in_1 1 rfl ?_
  refine B_lcmp dX8_in_2 ?_
  refine B_if_lt (tgt := 17) dX8_in_3 (by decide) (fun hc => ?_) (fun hc => ?_)
  · have h := h.1 hc
    refine B_iconst (v := 0) dX8_in_17 (by decide) ?_
    exact B_zret dX8_in_18 (Or.inl rfl) h
  · have h := h.2 hc
    refine B_lload_n dX8_in_6 0 rfl ?_
    refine B_lload dX8_in_7 2 rfl ?_
    refine B_lcmp dX8_in_9 ?_
    refine B_if_gt (tgt := 17) dX8_in_10 (by decide) (fun hc => ?_) (fun hc => ?_)
    · have h := h.1 hc
      refine B_iconst (v := 0) dX8_in_17 (by decide) ?_
      exact B_zret dX8_in_18 (Or.inl rfl) h
    · have h := h.2 hc
      refine B_iconst (v := 1) dX8_in_13 (by decide) ?_
      refine B_goto (tgt := 18) dX8_in_14 (by decide) ?_
      exact B_zret dX8_in_18 (Or.inr rfl) h
set_option maxHeartbeats 4000000 in
set_option maxRecDepth 100000 in
theorem rX8_has (d : Nat) (v0 : Int32) (v1 : Int32) (M : Mm) (Q : Int32 → Mm → Prop)
    (h : ((¬ ((ishr v0 v1) &&& (1 : Int32)) = (1 : Int32) → Q (0 : Int32) M) ∧ (((ishr v0 v1) &&& (1 : Int32)) = (1 : Int32) → Q (1 : Int32) M))) : kX8_has d v0 v1 M Q := by
  refine Ct.of (cc := cX8_has) (nL := 2) (by decide) rfl (Nat.le_of_ble_eq_true rfl) ?_
  show BX8_has d 0 [(0, .int v0), (1, .int v1)] [] M Q
  refine B_iload_n dX8_has_0 0 rfl ?_
  refine B_iload_n dX8_has_1 1 rfl ?_
  refine B_ishr dX8_has_2 ?_
  refine B_iconst (v := 1) dX8_has_3 (by decide) ?_
  refine B_iand dX8_has_4 ?_
  refine B_iconst (v := 1) dX8_has_5 (by decide) ?_
  refine B_icmp_ne (tgt := 13) dX8_has_6 (by decide) (fun hc => ?_) (fun hc => ?_)
  · have h := h.1 hc
    refine B_iconst (v := 0) dX8_has_13 (by decide) ?_
    exact B_zret dX8_has_14 (Or.inl rfl) h
  · have h := h.2 hc
    refine B_iconst (v := 1) dX8_has_9 (by decide) ?_
    refine B_goto (tgt := 14) dX8_has_10 (by decide) ?_
    exact B_zret dX8_has_14 (Or.inr rfl) h
set_option maxHeartbeats 4000000 in
set_option maxRecDepth 100000 in
theorem rX8_copyOf (d : Nat) (v1 : Int32) (v2 : Int32) (v3 : Int32) (M : Mm) (Q : Int32 → Mm → Prop)
    (h : BX8_copyOf d 3 [(0, .ref 49), (1, .int v1), (2, .int v2), (3, .int v3), (4, .int (0 : Int32))] [] M Q) : kX8_copyOf d v1 v2 v3 M Q := by
  refine Ct.of (cc := cX8_copyOf) (nL := 5) (by decide) rfl (Nat.le_of_ble_eq_true rfl) ?_
  show BX8_copyOf d 0 [(0, .ref 49), (1, .int v1), (2, .int v2), (3, .int v3)] [] M Q
  refine B_iconst (v := 0) dX8_copyOf_0 (by decide) ?_
  refine B_istore (lv1 := [(4, .int (0 : Int32)), (0, .ref 49), (1, .int v1), (2, .int v2), (3, .int v3)]) dX8_copyOf_1 (by decide) rfl ?_
  refine B_weak [1, 2, 3, 4, 0] rfl ?_
  exact h
set_option maxHeartbeats 4000000 in
set_option maxRecDepth 100000 in
theorem rX8_copyOf_3 (d : Nat) (v1 : Int32) (v2 : Int32) (v3 : Int32) (v4 : Int32) (M : Mm) (Q : Int32 → Mm → Prop)
    (h : ((v3 ≤ v4 → Q 0 M) ∧ (¬ v3 ≤ v4 → vp_in (v1 + v4) 301 ∧ vp_in (v2 + v4) 301 ∧ (∀ M1 : Mm, M1 = (upd2 M 50 (v2 + v4).toNatClampNeg (M 50 (v1 + v4).toNatClampNeg)) → BX8_copyOf d 3 [(0, .ref 49), (1, .int v1), (2, .int v2), (3, .int v3), (4, .int (v4 + (1 : Int32)))] [] M1 Q)))) : BX8_copyOf d 3 [(0, .ref 49), (1, .int v1), (2, .int v2), (3, .int v3), (4, .int v4)] [] M Q := by
  refine B_iload dX8_copyOf_3 4 rfl ?_
  refine B_iload_n dX8_copyOf_5 3 rfl ?_
  refine B_icmp_ge (tgt := 33) dX8_copyOf_6 (by decide) (fun hc => ?_) (fun hc => ?_)
  · have h := h.1 hc
    exact B_vret dX8_copyOf_33 h
  · have h := h.2 hc
    refine B_aload_n dX8_copyOf_9 0 rfl ?_
    refine B_getf (T := TX8) (N := 23) (v := .ref 50) 49 0 dX8_copyOf_10 inX8_copyOf_8 lkX8_copyOf_f7 (Nat.le_of_ble_eq_true rfl) (Nat.le_of_ble_eq_true rfl) rfl rfl (by decide) rfl ?_
    refine B_iload_n dX8_copyOf_13 2 rfl ?_
    refine B_iload dX8_copyOf_14 4 rfl ?_
    refine B_iadd dX8_copyOf_16 ?_
    refine B_aload_n dX8_copyOf_17 0 rfl ?_
    refine B_getf (T := TX8) (N := 23) (v := .ref 50) 49 0 dX8_copyOf_18 inX8_copyOf_8 lkX8_copyOf_f7 (Nat.le_of_ble_eq_true rfl) (Nat.le_of_ble_eq_true rfl) rfl rfl (by decide) rfl ?_
    refine B_iload_n dX8_copyOf_21 1 rfl ?_
    refine B_iload dX8_copyOf_22 4 rfl ?_
    refine B_iadd dX8_copyOf_24 ?_
    obtain ⟨hi, h⟩ := h
    refine B_iald (n := 301) 50 dX8_copyOf_25 (Nat.le_of_ble_eq_true rfl) rfl rfl hi ?_
    obtain ⟨hi, h⟩ := h
    refine B_iast (n := 301) 50 dX8_copyOf_26 (Nat.le_of_ble_eq_true rfl) rfl rfl hi ?_
    have h := h _ rfl
    generalize (upd2 M 50 (v2 + v4).toNatClampNeg (M 50 (v1 + v4).toNatClampNeg)) = M1 at h ⊢
    refine B_iinc (lv1 := [(4, .int (v4 + (1 : Int32))), (0, .ref 49), (1, .int v1), (2, .int v2), (3, .int v3)]) (v := (v4 + (1 : Int32))) dX8_copyOf_27 4 rfl rfl (by decide) rfl ?_
    refine B_goto (tgt := 3) dX8_copyOf_30 (by decide) ?_
    refine B_weak [1, 2, 3, 4, 0] rfl ?_
    exact h
set_option maxHeartbeats 4000000 in
set_option maxRecDepth 100000 in
theorem rX8_isSaint (d : Nat) (v1 : Int32) (M : Mm) (Q : Int32 → Mm → Prop)
    (h : vp_in (0 : Int32) 301 ∧ kX8_in d v1.toInt64 (0 : Int64) (((M 50 (0 : Int32).toNatClampNeg) - (1 : Int32)).toInt64) M (fun (r1 : Int32) (M1 : Mm) => ((r1 = 0 ∨ r1 = 1) ∧ Q r1 M1))) : kX8_isSaint (d + 1) v1 M Q := by
  refine Ct.of (cc := cX8_isSaint) (nL := 2) (by decide) rfl (Nat.le_of_ble_eq_true rfl) ?_
  show BX8_isSaint (d + 1) 0 [(0, .ref 49), (1, .int v1)] [] M Q
  refine B_iload_n dX8_isSaint_0 1 rfl ?_
  refine B_i2l dX8_isSaint_1 ?_
  refine B_lconst (v := 0) dX8_isSaint_2 (by decide) ?_
  refine B_aload_n dX8_isSaint_3 0 rfl ?_
  refine B_getf (T := TX8) (N := 23) (v := .ref 50) 49 0 dX8_isSaint_4 inX8_isSaint_8 lkX8_isSaint_f7 (Nat.le_of_ble_eq_true rfl) (Nat.le_of_ble_eq_true rfl) rfl rfl (by decide) rfl ?_
  refine B_iconst (v := 0) dX8_isSaint_7 (by decide) ?_
  obtain ⟨hi, h⟩ := h
  refine B_iald (n := 301) 50 dX8_isSaint_8 (Nat.le_of_ble_eq_true rfl) rfl rfl hi ?_
  refine B_iconst (v := 1) dX8_isSaint_9 (by decide) ?_
  refine B_isub dX8_isSaint_10 ?_
  refine B_i2l dX8_isSaint_11 ?_
  refine B_callS (st := []) [.long v1.toInt64, .long (0 : Int64), .long ((M 50 (0 : Int32).toNatClampNeg) - (1 : Int32)).toInt64] dX8_isSaint_12 gX8_isSaint_X8_in rfl hyX8_in (Nat.le_of_ble_eq_true rfl) (Nat.le_of_ble_eq_true rfl) rfl (Ct.mono h (Nat.le_refl _) (fun r1 M1 h => ?_))
  exact B_zret dX8_isSaint_15 h.1 h.2
set_option maxHeartbeats 4000000 in
set_option maxRecDepth 100000 in
theorem rX8_isRow (d : Nat) (v0 : Int32) (M : Mm) (Q : Int32 → Mm → Prop)
    (h : kX8_in d v0.toInt64 (0 : Int64) (7 : Int64) M (fun (r1 : Int32) (M1 : Mm) => ((r1 = 0 ∨ r1 = 1) ∧ Q r1 M1))) : kX8_isRow (d + 1) v0 M Q := by
  refine Ct.of (cc := cX8_isRow) (nL := 1) (by decide) rfl (Nat.le_of_ble_eq_true rfl) ?_
  show BX8_isRow (d + 1) 0 [(0, .int v0)] [] M Q
  refine B_iload_n dX8_isRow_0 0 rfl ?_
  refine B_i2l dX8_isRow_1 ?_
  refine B_lconst (v := 0) dX8_isRow_2 (by decide) ?_
  refine B_ldc2 (v := 7) dX8_isRow_3 lkX8_isRow_l59 ?_
  refine B_callS (st := []) [.long v0.toInt64, .long (0 : Int64), .long (7 : Int64)] dX8_isRow_6 gX8_isRow_X8_in rfl hyX8_in (Nat.le_of_ble_eq_true rfl) (Nat.le_of_ble_eq_true rfl) rfl (Ct.mono h (Nat.le_refl _) (fun r1 M1 h => ?_))
  exact B_zret dX8_isRow_9 h.1 h.2
set_option maxHeartbeats 4000000 in
set_option maxRecDepth 100000 in
theorem rX8_finds (d : Nat) (v1 : Int32) (M : Mm) (Q : Int32 → Mm → Prop)
    (h : (∀ M1 : Mm, M1 = (upd2 M 49 5 v1) → Q ((-1000010 : Int32) - v1) M1)) : kX8_finds d v1 M Q := by
  refine Ct.of (cc := cX8_finds) (nL := 2) (by decide) rfl (Nat.le_of_ble_eq_true rfl) ?_
  show BX8_finds d 0 [(0, .ref 49), (1, .int v1)] [] M Q
  refine B_aload_n dX8_finds_0 0 rfl ?_
  refine B_iload_n dX8_finds_1 1 rfl ?_
  refine B_putf (T := TX8) (N := 23) 49 5 tyX8 tyX8_ok nmX8 dX8_finds_2 inX8_finds_8 lkX8_finds_f61 (Nat.le_of_ble_eq_true rfl) (Nat.le_of_ble_eq_true rfl) rfl rfl (by decide) rfl rfl (by decide +kernel) ?_
  have h := h _ rfl
  generalize (upd2 M 49 5 v1) = M1 at h ⊢
  refine B_ldc (v := -1000010) dX8_finds_5 lkX8_finds_c65 ?_
  refine B_iload_n dX8_finds_7 1 rfl ?_
  refine B_isub dX8_finds_8 ?_
  exact B_iret dX8_finds_9 h
set_option maxHeartbeats 4000000 in
set_option maxRecDepth 100000 in
theorem rX8_against (d : Nat) (v1 : Int32) (v2 : Int32) (v3 : Int32) (M : Mm) (Q : Int32 → Mm → Prop)
    (h : vp_in v1 8 ∧ ((0 ≤ (M 52 v1.toNatClampNeg) → ((v2 < 0 → Q (2 : Int32) M) ∧ (¬ v2 < 0 → ((v3 < 0 → Q (2 : Int32) M) ∧ (¬ v3 < 0 → vp_in v1 8 ∧ (((lg_cmp (v2.toInt64 + v3.toInt64) ((M 52 v1.toNatClampNeg).toInt64)) ≤ 0 → Q (0 : Int32) M) ∧ (¬ (lg_cmp (v2.toInt64 + v3.toInt64) ((M 52 v1.toNatClampNeg).toInt64)) ≤ 0 → Q (2 : Int32) M))))))) ∧ (¬ 0 ≤ (M 52 v1.toNatClampNeg) → Q (1 : Int32) M))) : kX8_against d v1 v2 v3 M Q := by
  refine Ct.of (cc := cX8_against) (nL := 4) (by decide) rfl (Nat.le_of_ble_eq_true rfl) ?_
  show BX8_against d 0 [(0, .ref 49), (1, .int v1), (2, .int v2), (3, .int v3)] [] M Q
  refine B_aload_n dX8_against_0 0 rfl ?_
  refine B_getf (T := TX8) (N := 23) (v := .ref 52) 49 6 dX8_against_1 inX8_against_8 lkX8_against_f16 (Nat.le_of_ble_eq_true rfl) (Nat.le_of_ble_eq_true rfl) rfl rfl (by decide) rfl ?_
  refine B_iload_n dX8_against_4 1 rfl ?_
  obtain ⟨hi, h⟩ := h
  refine B_iald (n := 8) 52 dX8_against_5 (Nat.le_of_ble_eq_true rfl) rfl rfl hi ?_
  refine B_if_ge (tgt := 13) dX8_against_6 (by decide) (fun hc => ?_) (fun hc => ?_)
  · have h := h.1 hc
    refine B_iload_n dX8_against_13 2 rfl ?_
    refine B_if_lt (tgt := 37) dX8_against_14 (by decide) (fun hc => ?_) (fun hc => ?_)
    · have h := h.1 hc
      refine B_iconst (v := 2) dX8_against_37 (by decide) ?_
      refine B_goto (tgt := 42) dX8_against_38 (by decide) ?_
      exact B_iret dX8_against_42 h
    · have h := h.2 hc
      refine B_iload_n dX8_against_17 3 rfl ?_
      refine B_if_lt (tgt := 37) dX8_against_18 (by decide) (fun hc => ?_) (fun hc => ?_)
      · have h := h.1 hc
        refine B_iconst (v := 2) dX8_against_37 (by decide) ?_
        refine B_goto (tgt := 42) dX8_against_38 (by decide) ?_
        exact B_iret dX8_against_42 h
      · have h := h.2 hc
        refine B_iload_n dX8_against_21 2 rfl ?_
        refine B_i2l dX8_against_22 ?_
        refine B_iload_n dX8_against_23 3 rfl ?_
        refine B_i2l dX8_against_24 ?_
        refine B_ladd dX8_against_25 ?_
        refine B_aload_n dX8_against_26 0 rfl ?_
        refine B_getf (T := TX8) (N := 23) (v := .ref 52) 49 6 dX8_against_27 inX8_against_8 lkX8_against_f16 (Nat.le_of_ble_eq_true rfl) (Nat.le_of_ble_eq_true rfl) rfl rfl (by decide) rfl ?_
        refine B_iload_n dX8_against_30 1 rfl ?_
        obtain ⟨hi, h⟩ := h
        refine B_iald (n := 8) 52 dX8_against_31 (Nat.le_of_ble_eq_true rfl) rfl rfl hi ?_
        refine B_i2l dX8_against_32 ?_
        refine B_lcmp dX8_against_33 ?_
        refine B_if_le (tgt := 41) dX8_against_34 (by decide) (fun hc => ?_) (fun hc => ?_)
        · have h := h.1 hc
          refine B_iconst (v := 0) dX8_against_41 (by decide) ?_
          exact B_iret dX8_against_42 h
        · have h := h.2 hc
          refine B_iconst (v := 2) dX8_against_37 (by decide) ?_
          refine B_goto (tgt := 42) dX8_against_38 (by decide) ?_
          exact B_iret dX8_against_42 h
  · have h := h.2 hc
    refine B_iconst (v := 1) dX8_against_9 (by decide) ?_
    refine B_goto (tgt := 42) dX8_against_10 (by decide) ?_
    exact B_iret dX8_against_42 h
set_option maxHeartbeats 4000000 in
set_option maxRecDepth 100000 in
theorem rX8_row (d : Nat) (v1 : Int32) (v2 : Int32) (v3 : Int32) (M : Mm) (Q : Int32 → Mm → Prop)
    (h : kX8_isRow d v1 M (fun (r1 : Int32) (M1 : Mm) => ((r1 = 0 → Q (-1000001 : Int32) M1) ∧ (¬ r1 = 0 → kX8_in d v2.toInt64 (0 : Int64) (2 : Int64) M1 (fun (r2 : Int32) (M2 : Mm) => ((r2 = 0 → Q (-1000001 : Int32) M2) ∧ (¬ r2 = 0 → ((v3 ≤ (40 : Int32) → ((0 ≤ v3 → (∀ M3 : Mm, M3 = (upd2 M2 49 5 (0 : Int32)) → vp_in v1 8 ∧ (∀ M4 : Mm, M4 = (upd2 M3 52 v1.toNatClampNeg v3) → vp_in v1 8 ∧ (∀ M5 : Mm, M5 = (upd2 M4 53 v1.toNatClampNeg v2) → BX8_row (d + 1) 60 [(0, .ref 49), (1, .int v1), (3, .int v3), (4, .int (0 : Int32))] [] M5 Q)))) ∧ (¬ 0 ≤ v3 → kX8_finds d (4 : Int32) M2 (fun (r3 : Int32) (M6 : Mm) => Q r3 M6)))) ∧ (¬ v3 ≤ (40 : Int32) → Q (-1000001 : Int32) M2))))))))) : kX8_row (d + 1) v1 v2 v3 M Q := by
  refine Ct.of (cc := cX8_row) (nL := 5) (by decide) rfl (Nat.le_of_ble_eq_true rfl) ?_
  show BX8_row (d + 1) 0 [(0, .ref 49), (1, .int v1), (2, .int v2), (3, .int v3)] [] M Q
  refine B_iload_n dX8_row_0 1 rfl ?_
  refine B_callS (st := []) [.int v1] dX8_row_1 gX8_row_X8_isRow rfl hyX8_isRow (Nat.le_of_ble_eq_true rfl) (Nat.le_of_ble_eq_true rfl) rfl (Ct.mono h (Nat.le_refl _) (fun r1 M1 h => ?_))
  refine B_if_eq (tgt := 25) dX8_row_4 (by decide) (fun hc => ?_) (fun hc => ?_)
  · have h := h.1 hc
    refine B_ldc (v := -1000001) dX8_row_25 lkX8_row_c72 ?_
    exact B_iret dX8_row_27 h
  · have h := h.2 hc
    refine B_iload_n dX8_row_7 2 rfl ?_
    refine B_i2l dX8_row_8 ?_
    refine B_lconst (v := 0) dX8_row_9 (by decide) ?_
    refine B_ldc2 (v := 2) dX8_row_10 lkX8_row_l70 ?_
    refine B_callS (st := []) [.long v2.toInt64, .long (0 : Int64), .long (2 : Int64)] dX8_row_13 gX8_row_X8_in rfl hyX8_in (Nat.le_of_ble_eq_true rfl) (Nat.le_of_ble_eq_true rfl) rfl (Ct.mono h (Nat.le_refl _) (fun r2 M2 h => ?_))
    refine B_if_eq (tgt := 25) dX8_row_16 (by decide) (fun hc => ?_) (fun hc => ?_)
    · have h := h.1 hc
      refine B_ldc (v := -1000001) dX8_row_25 lkX8_row_c72 ?_
      exact B_iret dX8_row_27 h
    · have h := h.2 hc
      refine B_iload_n dX8_row_19 3 rfl ?_
      refine B_bipush (v := 40) dX8_row_20 (by decide) ?_
      refine B_icmp_le (tgt := 28) dX8_row_22 (by decide) (fun hc => ?_) (fun hc => ?_)
      · have h := h.1 hc
        refine B_iload_n dX8_row_28 3 rfl ?_
        refine B_if_ge (tgt := 38) dX8_row_29 (by decide) (fun hc => ?_) (fun hc => ?_)
        · have h := h.1 hc
          refine B_aload_n dX8_row_38 0 rfl ?_
          refine B_iconst (v := 0) dX8_row_39 (by decide) ?_
          refine B_putf (T := TX8) (N := 23) 49 5 tyX8 tyX8_ok nmX8 dX8_row_40 inX8_row_8 lkX8_row_f61 (Nat.le_of_ble_eq_true rfl) (Nat.le_of_ble_eq_true rfl) rfl rfl (by decide) rfl rfl (by decide +kernel) ?_
          have h := h _ rfl
          generalize (upd2 M2 49 5 (0 : Int32)) = M3 at h ⊢
          refine B_aload_n dX8_row_43 0 rfl ?_
          refine B_getf (T := TX8) (N := 23) (v := .ref 52) 49 6 dX8_row_44 inX8_row_8 lkX8_row_f16 (Nat.le_of_ble_eq_true rfl) (Nat.le_of_ble_eq_true rfl) rfl rfl (by decide) rfl ?_
          refine B_iload_n dX8_row_47 1 rfl ?_
          refine B_iload_n dX8_row_48 3 rfl ?_
          obtain ⟨hi, h⟩ := h
          refine B_iast (n := 8) 52 dX8_row_49 (Nat.le_of_ble_eq_true rfl) rfl rfl hi ?_
          have h := h _ rfl
          generalize (upd2 M3 52 v1.toNatClampNeg v3) = M4 at h ⊢
          refine B_aload_n dX8_row_50 0 rfl ?_
          refine B_getf (T := TX8) (N := 23) (v := .ref 53) 49 7 dX8_row_51 inX8_row_8 lkX8_row_f19 (Nat.le_of_ble_eq_true rfl) (Nat.le_of_ble_eq_true rfl) rfl rfl (by decide) rfl ?_
          refine B_iload_n dX8_row_54 1 rfl ?_
          refine B_iload_n dX8_row_55 2 rfl ?_
          obtain ⟨hi, h⟩ := h
          refine B_iast (n := 8) 53 dX8_row_56 (Nat.le_of_ble_eq_true rfl) rfl rfl hi ?_
          have h := h _ rfl
          generalize (upd2 M4 53 v1.toNatClampNeg v2) = M5 at h ⊢
          refine B_iconst (v := 0) dX8_row_57 (by decide) ?_
          refine B_istore (lv1 := [(4, .int (0 : Int32)), (0, .ref 49), (1, .int v1), (2, .int v2), (3, .int v3)]) dX8_row_58 (by decide) rfl ?_
          refine B_weak [1, 2, 4, 0] rfl ?_
          exact h
        · have h := h.2 hc
          refine B_aload_n dX8_row_32 0 rfl ?_
          refine B_iconst (v := 4) dX8_row_33 (by decide) ?_
          refine B_callV (st := []) 49 [.int (4 : Int32)] dX8_row_34 gX8_row_X8_finds rfl hyX8_finds (Nat.le_of_ble_eq_true rfl) (Nat.le_of_ble_eq_true rfl) TX8 23 rfl (Nat.le_of_ble_eq_true rfl) (Nat.le_of_ble_eq_true rfl) rfl (Ct.mono h (Nat.le_refl _) (fun r3 M6 h => ?_))
          exact B_iret dX8_row_37 h
      · have h := h.2 hc
        refine B_ldc (v := -1000001) dX8_row_25 lkX8_row_c72 ?_
        exact B_iret dX8_row_27 h
set_option maxHeartbeats 4000000 in
set_option maxRecDepth 100000 in
theorem rX8_row_60 (d : Nat) (v1 : Int32) (v3 : Int32) (v4 : Int32) (M : Mm) (Q : Int32 → Mm → Prop)
    (h : (((40 : Int32) ≤ v4 → Q v3 M) ∧ (¬ (40 : Int32) ≤ v4 → vp_in (((40 : Int32) * v1) + v4) 320 ∧ (∀ M1 : Mm, M1 = (upd2 M 54 (((40 : Int32) * v1) + v4).toNatClampNeg (0 : Int32)) → BX8_row (d + 1) 60 [(0, .ref 49), (1, .int v1), (3, .int v3), (4, .int (v4 + (1 : Int32)))] [] M1 Q)))) : BX8_row (d + 1) 60 [(0, .ref 49), (1, .int v1), (3, .int v3), (4, .int v4)] [] M Q := by
  refine B_iload dX8_row_60 3 rfl ?_
  refine B_bipush (v := 40) dX8_row_62 (by decide) ?_
  refine B_icmp_ge (tgt := 86) dX8_row_64 (by decide) (fun hc => ?_) (fun hc => ?_)
  · have h := h.1 hc
    refine B_iload_n dX8_row_86 2 rfl ?_
    exact B_iret dX8_row_87 h
  · have h := h.2 hc
    refine B_aload_n dX8_row_67 0 rfl ?_
    refine B_getf (T := TX8) (N := 23) (v := .ref 54) 49 8 dX8_row_68 inX8_row_8 lkX8_row_f22 (Nat.le_of_ble_eq_true rfl) (Nat.le_of_ble_eq_true rfl) rfl rfl (by decide) rfl ?_
    refine B_bipush (v := 40) dX8_row_71 (by decide) ?_
    refine B_iload_n dX8_row_73 1 rfl ?_
    refine B_imul dX8_row_74 ?_
    refine B_iload dX8_row_75 3 rfl ?_
    refine B_iadd dX8_row_77 ?_
    refine B_iconst (v := 0) dX8_row_78 (by decide) ?_
    obtain ⟨hi, h⟩ := h
    refine B_iast (n := 320) 54 dX8_row_79 (Nat.le_of_ble_eq_true rfl) rfl rfl hi ?_
    have h := h _ rfl
    generalize (upd2 M 54 (((40 : Int32) * v1) + v4).toNatClampNeg (0 : Int32)) = M1 at h ⊢
    refine B_iinc (lv1 := [(4, .int (v4 + (1 : Int32))), (0, .ref 49), (1, .int v1), (3, .int v3)]) (v := (v4 + (1 : Int32))) dX8_row_80 3 rfl rfl (by decide) rfl ?_
    refine B_goto (tgt := 60) dX8_row_83 (by decide) ?_
    refine B_weak [1, 2, 3, 0] rfl ?_
    exact h
set_option maxHeartbeats 4000000 in
set_option maxRecDepth 100000 in
theorem rX8_set (d : Nat) (v1 : Int32) (v2 : Int32) (v3 : Int32) (M : Mm) (Q : Int32 → Mm → Prop)
    (h : kX8_isRow d v1 M (fun (r1 : Int32) (M1 : Mm) => ((¬ r1 = 0 → kX8_against d v1 v2 (1 : Int32) M1 (fun (r2 : Int32) (M2 : Mm) => ((r2 ≤ 0 → (∀ M3 : Mm, M3 = (upd2 M2 49 5 (0 : Int32)) → vp_in v1 8 ∧ ((¬ (M3 53 v1.toNatClampNeg) = 0 → vp_in v1 8 ∧ ((¬ (M3 53 v1.toNatClampNeg) = (1 : Int32) → BX8_set (d + 1) 76 [(0, .ref 49), (1, .int v1), (2, .int v2)] [.int v3, .int (((40 : Int32) * v1) + v2), .ref 54] M3 Q) ∧ ((M3 53 v1.toNatClampNeg) = (1 : Int32) → BX8_set (d + 1) 76 [(0, .ref 49), (1, .int v1), (2, .int v2)] [.int v3.toInt16.toInt32, .int (((40 : Int32) * v1) + v2), .ref 54] M3 Q))) ∧ ((M3 53 v1.toNatClampNeg) = 0 → BX8_set (d + 1) 76 [(0, .ref 49), (1, .int v1), (2, .int v2)] [.int v3.toInt8.toInt32, .int (((40 : Int32) * v1) + v2), .ref 54] M3 Q)))) ∧ (¬ r2 ≤ 0 → kX8_finds d r2 M2 (fun (r3 : Int32) (M4 : Mm) => Q r3 M4))))) ∧ (r1 = 0 → Q (-1000001 : Int32) M1)))) : kX8_set (d + 1) v1 v2 v3 M Q := by
  refine Ct.of (cc := cX8_set) (nL := 5) (by decide) rfl (Nat.le_of_ble_eq_true rfl) ?_
  show BX8_set (d + 1) 0 [(0, .ref 49), (1, .int v1), (2, .int v2), (3, .int v3)] [] M Q
  refine B_iload_n dX8_set_0 1 rfl ?_
  refine B_callS (st := []) [.int v1] dX8_set_1 gX8_set_X8_isRow rfl hyX8_isRow (Nat.le_of_ble_eq_true rfl) (Nat.le_of_ble_eq_true rfl) rfl (Ct.mono h (Nat.le_refl _) (fun r1 M1 h => ?_))
  refine B_if_ne (tgt := 10) dX8_set_4 (by decide) (fun hc => ?_) (fun hc => ?_)
  · have h := h.1 hc
    refine B_aload_n dX8_set_10 0 rfl ?_
    refine B_iload_n dX8_set_11 1 rfl ?_
    refine B_iload_n dX8_set_12 2 rfl ?_
    refine B_iconst (v := 1) dX8_set_13 (by decide) ?_
    refine B_callV (st := []) 49 [.int v1, .int v2, .int (1 : Int32)] dX8_set_14 gX8_set_X8_against rfl hyX8_against (Nat.le_of_ble_eq_true rfl) (Nat.le_of_ble_eq_true rfl) TX8 23 rfl (Nat.le_of_ble_eq_true rfl) (Nat.le_of_ble_eq_true rfl) rfl (Ct.mono h (Nat.le_refl _) (fun r2 M2 h => ?_))
    refine B_istore (lv1 := [(4, .int r2), (0, .ref 49), (1, .int v1), (2, .int v2), (3, .int v3)]) dX8_set_17 (by decide) rfl ?_
    refine B_iload dX8_set_19 0 rfl ?_
    refine B_if_le (tgt := 31) dX8_set_21 (by decide) (fun hc => ?_) (fun hc => ?_)
    · have h := h.1 hc
      refine B_aload_n dX8_set_31 1 rfl ?_
      refine B_iconst (v := 0) dX8_set_32 (by decide) ?_
      refine B_putf (T := TX8) (N := 23) 49 5 tyX8 tyX8_ok nmX8 dX8_set_33 inX8_set_8 lkX8_set_f61 (Nat.le_of_ble_eq_true rfl) (Nat.le_of_ble_eq_true rfl) rfl rfl (by decide) rfl rfl (by decide +kernel) ?_
      have h := h _ rfl
      generalize (upd2 M2 49 5 (0 : Int32)) = M3 at h ⊢
      refine B_aload_n dX8_set_36 1 rfl ?_
      refine B_getf (T := TX8) (N := 23) (v := .ref 54) 49 8 dX8_set_37 inX8_set_8 lkX8_set_f22 (Nat.le_of_ble_eq_true rfl) (Nat.le_of_ble_eq_true rfl) rfl rfl (by decide) rfl ?_
      refine B_bipush (v := 40) dX8_set_40 (by decide) ?_
      refine B_iload_n dX8_set_42 2 rfl ?_
      refine B_imul dX8_set_43 ?_
      refine B_iload_n dX8_set_44 3 rfl ?_
      refine B_iadd dX8_set_45 ?_
      refine B_aload_n dX8_set_46 1 rfl ?_
      refine B_getf (T := TX8) (N := 23) (v := .ref 53) 49 7 dX8_set_47 inX8_set_8 lkX8_set_f19 (Nat.le_of_ble_eq_true rfl) (Nat.le_of_ble_eq_true rfl) rfl rfl (by decide) rfl ?_
      refine B_iload_n dX8_set_50 2 rfl ?_
      obtain ⟨hi, h⟩ := h
      refine B_iald (n := 8) 53 dX8_set_51 (Nat.le_of_ble_eq_true rfl) rfl rfl hi ?_
      refine B_if_ne (tgt := 60) dX8_set_52 (by decide) (fun hc => ?_) (fun hc => ?_)
      · have h := h.1 hc
        refine B_aload_n dX8_set_60 1 rfl ?_
        refine B_getf (T := TX8) (N := 23) (v := .ref 53) 49 7 dX8_set_61 inX8_set_8 lkX8_set_f19 (Nat.le_of_ble_eq_true rfl) (Nat.le_of_ble_eq_true rfl) rfl rfl (by decide) rfl ?_
        refine B_iload_n dX8_set_64 2 rfl ?_
        obtain ⟨hi, h⟩ := h
        refine B_iald (n := 8) 53 dX8_set_65 (Nat.le_of_ble_eq_true rfl) rfl rfl hi ?_
        refine B_iconst (v := 1) dX8_set_66 (by decide) ?_
        refine B_icmp_ne (tgt := 75) dX8_set_67 (by decide) (fun hc => ?_) (fun hc => ?_)
        · have h := h.1 hc
          refine B_iload_n dX8_set_75 4 rfl ?_
          refine B_weak [1, 2, 3] rfl ?_
          exact h
        · have h := h.2 hc
          refine B_iload_n dX8_set_70 4 rfl ?_
          refine B_i2s dX8_set_71 ?_
          refine B_goto (tgt := 76) dX8_set_72 (by decide) ?_
          refine B_weak [1, 2, 3] rfl ?_
          exact h
      · have h := h.2 hc
        refine B_iload_n dX8_set_55 4 rfl ?_
        refine B_i2b dX8_set_56 ?_
        refine B_goto (tgt := 76) dX8_set_57 (by decide) ?_
        refine B_weak [1, 2, 3] rfl ?_
        exact h
    · have h := h.2 hc
      refine B_aload_n dX8_set_24 1 rfl ?_
      refine B_iload dX8_set_25 0 rfl ?_
      refine B_callV (st := []) 49 [.int r2] dX8_set_27 gX8_set_X8_finds rfl hyX8_finds (Nat.le_of_ble_eq_true rfl) (Nat.le_of_ble_eq_true rfl) TX8 23 rfl (Nat.le_of_ble_eq_true rfl) (Nat.le_of_ble_eq_true rfl) rfl (Ct.mono h (Nat.le_refl _) (fun r3 M4 h => ?_))
      exact B_iret dX8_set_30 h
  · have h := h.2 hc
    refine B_ldc (v := -1000001) dX8_set_7 lkX8_set_c72 ?_
    exact B_iret dX8_set_9 h
set_option maxHeartbeats 4000000 in
set_option maxRecDepth 100000 in
theorem rX8_set_76 (d : Nat) (v1 : Int32) (v2 : Int32) (x0 : Int32) (x1 : Int32) (M : Mm) (Q : Int32 → Mm → Prop)
    (h : vp_in x1 320 ∧ (∀ M1 : Mm, M1 = (upd2 M 54 x1.toNatClampNeg x0) → vp_in (((40 : Int32) * v1) + v2) 320 ∧ Q (M1 54 (((40 : Int32) * v1) + v2).toNatClampNeg) M1)) : BX8_set (d + 1) 76 [(0, .ref 49), (1, .int v1), (2, .int v2)] [.int x0, .int x1, .ref 54] M Q := by
  obtain ⟨hi, h⟩ := h
  refine B_iast (n := 320) 54 dX8_set_76 (Nat.le_of_ble_eq_true rfl) rfl rfl hi ?_
  have h := h _ rfl
  generalize (upd2 M 54 x1.toNatClampNeg x0) = M1 at h ⊢
  refine B_aload_n dX8_set_77 0 rfl ?_
  refine B_getf (T := TX8) (N := 23) (v := .ref 54) 49 8 dX8_set_78 inX8_set_8 lkX8_set_f22 (Nat.le_of_ble_eq_true rfl) (Nat.le_of_ble_eq_true rfl) rfl rfl (by decide) rfl ?_
  refine B_bipush (v := 40) dX8_set_81 (by decide) ?_
  refine B_iload_n dX8_set_83 1 rfl ?_
  refine B_imul dX8_set_84 ?_
  refine B_iload_n dX8_set_85 2 rfl ?_
  refine B_iadd dX8_set_86 ?_
  obtain ⟨hi, h⟩ := h
  refine B_iald (n := 320) 54 dX8_set_87 (Nat.le_of_ble_eq_true rfl) rfl rfl hi ?_
  exact B_iret dX8_set_88 h
set_option maxHeartbeats 4000000 in
set_option maxRecDepth 100000 in
theorem rX8_copy (d : Nat) (v1 : Int32) (v2 : Int32) (v3 : Int32) (v4 : Int32) (v5 : Int32) (M : Mm) (Q : Int32 → Mm → Prop)
    (h : kX8_isRow d v1 M (fun (r1 : Int32) (M1 : Mm) => ((r1 = 0 → Q (-1000001 : Int32) M1) ∧ (¬ r1 = 0 → kX8_isRow d v3 M1 (fun (r2 : Int32) (M2 : Mm) => ((¬ r2 = 0 → vp_in v1 8 ∧ (((M2 52 v1.toNatClampNeg) < 0 → BX8_copy (d + 1) 35 [(0, .ref 49)] [] M2 Q) ∧ (¬ (M2 52 v1.toNatClampNeg) < 0 → vp_in v3 8 ∧ ((0 ≤ (M2 52 v3.toNatClampNeg) → vp_in v1 8 ∧ vp_in v3 8 ∧ (((M2 53 v1.toNatClampNeg) = (M2 53 v3.toNatClampNeg) → kX8_against d v1 v2 v5 M2 (fun (r3 : Int32) (M3 : Mm) => ((0 < r3 → BX8_copy (d + 1) 85 [(0, .ref 49)] [] M3 Q) ∧ (¬ 0 < r3 → kX8_against d v3 v4 v5 M3 (fun (r4 : Int32) (M4 : Mm) => ((r4 ≤ 0 → (∀ M5 : Mm, M5 = (upd2 M4 49 5 (0 : Int32)) → BX8_copy (d + 1) 99 [(0, .ref 49), (1, .int v1), (2, .int v2), (3, .int v3), (4, .int v4), (5, .int v5), (6, .int (0 : Int32))] [] M5 Q)) ∧ (¬ r4 ≤ 0 → BX8_copy (d + 1) 85 [(0, .ref 49)] [] M4 Q))))))) ∧ (¬ (M2 53 v1.toNatClampNeg) = (M2 53 v3.toNatClampNeg) → kX8_finds d (5 : Int32) M2 (fun (r5 : Int32) (M6 : Mm) => Q r5 M6)))) ∧ (¬ 0 ≤ (M2 52 v3.toNatClampNeg) → BX8_copy (d + 1) 35 [(0, .ref 49)] [] M2 Q))))) ∧ (r2 = 0 → Q (-1000001 : Int32) M2))))))) : kX8_copy (d + 1) v1 v2 v3 v4 v5 M Q := by
  refine Ct.of (cc := cX8_copy) (nL := 7) (by decide) rfl (Nat.le_of_ble_eq_true rfl) ?_
  show BX8_copy (d + 1) 0 [(0, .ref 49), (1, .int v1), (2, .int v2), (3, .int v3), (4, .int v4), (5, .int v5)] [] M Q
  refine B_iload_n dX8_copy_0 1 rfl ?_
  refine B_callS (st := []) [.int v1] dX8_copy_1 gX8_copy_X8_isRow rfl hyX8_isRow (Nat.le_of_ble_eq_true rfl) (Nat.le_of_ble_eq_true rfl) rfl (Ct.mono h (Nat.le_refl _) (fun r1 M1 h => ?_))
  refine B_if_eq (tgt := 14) dX8_copy_4 (by decide) (fun hc => ?_) (fun hc => ?_)
  · have h := h.1 hc
    refine B_ldc (v := -1000001) dX8_copy_14 lkX8_copy_c72 ?_
    exact B_iret dX8_copy_16 h
  · have h := h.2 hc
    refine B_iload_n dX8_copy_7 3 rfl ?_
    refine B_callS (st := []) [.int v3] dX8_copy_8 gX8_copy_X8_isRow rfl hyX8_isRow (Nat.le_of_ble_eq_true rfl) (Nat.le_of_ble_eq_true rfl) rfl (Ct.mono h (Nat.le_refl _) (fun r2 M2 h => ?_))
    refine B_if_ne (tgt := 17) dX8_copy_11 (by decide) (fun hc => ?_) (fun hc => ?_)
    · have h := h.1 hc
      refine B_aload_n dX8_copy_17 0 rfl ?_
      refine B_getf (T := TX8) (N := 23) (v := .ref 52) 49 6 dX8_copy_18 inX8_copy_8 lkX8_copy_f16 (Nat.le_of_ble_eq_true rfl) (Nat.le_of_ble_eq_true rfl) rfl rfl (by decide) rfl ?_
      refine B_iload_n dX8_copy_21 1 rfl ?_
      obtain ⟨hi, h⟩ := h
      refine B_iald (n := 8) 52 dX8_copy_22 (Nat.le_of_ble_eq_true rfl) rfl rfl hi ?_
      refine B_if_lt (tgt := 35) dX8_copy_23 (by decide) (fun hc => ?_) (fun hc => ?_)
      · have h := h.1 hc
        refine B_weak [0] rfl ?_
        exact h
      · have h := h.2 hc
        refine B_aload_n dX8_copy_26 0 rfl ?_
        refine B_getf (T := TX8) (N := 23) (v := .ref 52) 49 6 dX8_copy_27 inX8_copy_8 lkX8_copy_f16 (Nat.le_of_ble_eq_true rfl) (Nat.le_of_ble_eq_true rfl) rfl rfl (by decide) rfl ?_
        refine B_iload_n dX8_copy_30 3 rfl ?_
        obtain ⟨hi, h⟩ := h
        refine B_iald (n := 8) 52 dX8_copy_31 (Nat.le_of_ble_eq_true rfl) rfl rfl hi ?_
        refine B_if_ge (tgt := 41) dX8_copy_32 (by decide) (fun hc => ?_) (fun hc => ?_)
        · have h := h.1 hc
          refine B_aload_n dX8_copy_41 0 rfl ?_
          refine B_getf (T := TX8) (N := 23) (v := .ref 53) 49 7 dX8_copy_42 inX8_copy_8 lkX8_copy_f19 (Nat.le_of_ble_eq_true rfl) (Nat.le_of_ble_eq_true rfl) rfl rfl (by decide) rfl ?_
          refine B_iload_n dX8_copy_45 1 rfl ?_
          obtain ⟨hi, h⟩ := h
          refine B_iald (n := 8) 53 dX8_copy_46 (Nat.le_of_ble_eq_true rfl) rfl rfl hi ?_
          refine B_aload_n dX8_copy_47 0 rfl ?_
          refine B_getf (T := TX8) (N := 23) (v := .ref 53) 49 7 dX8_copy_48 inX8_copy_8 lkX8_copy_f19 (Nat.le_of_ble_eq_true rfl) (Nat.le_of_ble_eq_true rfl) rfl rfl (by decide) rfl ?_
          refine B_iload_n dX8_copy_51 3 rfl ?_
          obtain ⟨hi, h⟩ := h
          refine B_iald (n := 8) 53 dX8_copy_52 (Nat.le_of_ble_eq_true rfl) rfl rfl hi ?_
          refine B_icmp_eq (tgt := 62) dX8_copy_53 (by decide) (fun hc => ?_) (fun hc => ?_)
          · have h := h.1 hc
            refine B_aload_n dX8_copy_62 0 rfl ?_
            refine B_iload_n dX8_copy_63 1 rfl ?_
            refine B_iload_n dX8_copy_64 2 rfl ?_
            refine B_iload dX8_copy_65 5 rfl ?_
            refine B_callV (st := []) 49 [.int v1, .int v2, .int v5] dX8_copy_67 gX8_copy_X8_against rfl hyX8_against (Nat.le_of_ble_eq_true rfl) (Nat.le_of_ble_eq_true rfl) TX8 23 rfl (Nat.le_of_ble_eq_true rfl) (Nat.le_of_ble_eq_true rfl) rfl (Ct.mono h (Nat.le_refl _) (fun r3 M3 h => ?_))
            refine B_if_gt (tgt := 85) dX8_copy_70 (by decide) (fun hc => ?_) (fun hc => ?_)
            · have h := h.1 hc
              refine B_weak [0] rfl ?_
              exact h
            · have h := h.2 hc
              refine B_aload_n dX8_copy_73 0 rfl ?_
              refine B_iload_n dX8_copy_74 3 rfl ?_
              refine B_iload dX8_copy_75 4 rfl ?_
              refine B_iload dX8_copy_77 5 rfl ?_
              refine B_callV (st := []) 49 [.int v3, .int v4, .int v5] dX8_copy_79 gX8_copy_X8_against rfl hyX8_against (Nat.le_of_ble_eq_true rfl) (Nat.le_of_ble_eq_true rfl) TX8 23 rfl (Nat.le_of_ble_eq_true rfl) (Nat.le_of_ble_eq_true rfl) rfl (Ct.mono h (Nat.le_refl _) (fun r4 M4 h => ?_))
              refine B_if_le (tgt := 91) dX8_copy_82 (by decide) (fun hc => ?_) (fun hc => ?_)
              · have h := h.1 hc
                refine B_aload_n dX8_copy_91 0 rfl ?_
                refine B_iconst (v := 0) dX8_copy_92 (by decide) ?_
                refine B_putf (T := TX8) (N := 23) 49 5 tyX8 tyX8_ok nmX8 dX8_copy_93 inX8_copy_8 lkX8_copy_f61 (Nat.le_of_ble_eq_true rfl) (Nat.le_of_ble_eq_true rfl) rfl rfl (by decide) rfl rfl (by decide +kernel) ?_
                have h := h _ rfl
                generalize (upd2 M4 49 5 (0 : Int32)) = M5 at h ⊢
                refine B_iconst (v := 0) dX8_copy_96 (by decide) ?_
                refine B_istore (lv1 := [(6, .int (0 : Int32)), (0, .ref 49), (1, .int v1), (2, .int v2), (3, .int v3), (4, .int v4), (5, .int v5)]) dX8_copy_97 (by decide) rfl ?_
                refine B_weak [1, 2, 3, 4, 5, 6, 0] rfl ?_
                exact h
              · have h := h.2 hc
                refine B_weak [0] rfl ?_
                exact h
          · have h := h.2 hc
            refine B_aload_n dX8_copy_56 0 rfl ?_
            refine B_iconst (v := 5) dX8_copy_57 (by decide) ?_
            refine B_callV (st := []) 49 [.int (5 : Int32)] dX8_copy_58 gX8_copy_X8_finds rfl hyX8_finds (Nat.le_of_ble_eq_true rfl) (Nat.le_of_ble_eq_true rfl) TX8 23 rfl (Nat.le_of_ble_eq_true rfl) (Nat.le_of_ble_eq_true rfl) rfl (Ct.mono h (Nat.le_refl _) (fun r5 M6 h => ?_))
            exact B_iret dX8_copy_61 h
        · have h := h.2 hc
          refine B_weak [0] rfl ?_
          exact h
    · have h := h.2 hc
      refine B_ldc (v := -1000001) dX8_copy_14 lkX8_copy_c72 ?_
      exact B_iret dX8_copy_16 h
set_option maxHeartbeats 4000000 in
set_option maxRecDepth 100000 in
theorem rX8_copy_35 (d : Nat)  (M : Mm) (Q : Int32 → Mm → Prop)
    (h : kX8_finds d (1 : Int32) M (fun (r1 : Int32) (M1 : Mm) => Q r1 M1)) : BX8_copy (d + 1) 35 [(0, .ref 49)] [] M Q := by
  refine B_aload_n dX8_copy_35 0 rfl ?_
  refine B_iconst (v := 1) dX8_copy_36 (by decide) ?_
  refine B_callV (st := []) 49 [.int (1 : Int32)] dX8_copy_37 gX8_copy_X8_finds rfl hyX8_finds (Nat.le_of_ble_eq_true rfl) (Nat.le_of_ble_eq_true rfl) TX8 23 rfl (Nat.le_of_ble_eq_true rfl) (Nat.le_of_ble_eq_true rfl) rfl (Ct.mono h (Nat.le_refl _) (fun r1 M1 h => ?_))
  exact B_iret dX8_copy_40 h
set_option maxHeartbeats 4000000 in
set_option maxRecDepth 100000 in
theorem rX8_copy_85 (d : Nat)  (M : Mm) (Q : Int32 → Mm → Prop)
    (h : kX8_finds d (2 : Int32) M (fun (r1 : Int32) (M1 : Mm) => Q r1 M1)) : BX8_copy (d + 1) 85 [(0, .ref 49)] [] M Q := by
  refine B_aload_n dX8_copy_85 0 rfl ?_
  refine B_iconst (v := 2) dX8_copy_86 (by decide) ?_
  refine B_callV (st := []) 49 [.int (2 : Int32)] dX8_copy_87 gX8_copy_X8_finds rfl hyX8_finds (Nat.le_of_ble_eq_true rfl) (Nat.le_of_ble_eq_true rfl) TX8 23 rfl (Nat.le_of_ble_eq_true rfl) (Nat.le_of_ble_eq_true rfl) rfl (Ct.mono h (Nat.le_refl _) (fun r1 M1 h => ?_))
  exact B_iret dX8_copy_90 h
set_option maxHeartbeats 4000000 in
set_option maxRecDepth 100000 in
theorem rX8_copy_99 (d : Nat) (v1 : Int32) (v2 : Int32) (v3 : Int32) (v4 : Int32) (v5 : Int32) (v6 : Int32) (M : Mm) (Q : Int32 → Mm → Prop)
    (h : ((v5 ≤ v6 → BX8_copy (d + 1) 136 [(0, .ref 49), (3, .int v3), (4, .int v4), (5, .int v5), (6, .int (0 : Int32))] [] M Q) ∧ (¬ v5 ≤ v6 → vp_in ((((40 : Int32) * v1) + v2) + v6) 320 ∧ vp_in v6 40 ∧ (∀ M1 : Mm, M1 = (upd2 M 55 v6.toNatClampNeg (M 54 ((((40 : Int32) * v1) + v2) + v6).toNatClampNeg)) → BX8_copy (d + 1) 99 [(0, .ref 49), (1, .int v1), (2, .int v2), (3, .int v3), (4, .int v4), (5, .int v5), (6, .int (v6 + (1 : Int32)))] [] M1 Q)))) : BX8_copy (d + 1) 99 [(0, .ref 49), (1, .int v1), (2, .int v2), (3, .int v3), (4, .int v4), (5, .int v5), (6, .int v6)] [] M Q := by
  refine B_iload dX8_copy_99 6 rfl ?_
  refine B_iload dX8_copy_101 5 rfl ?_
  refine B_icmp_ge (tgt := 133) dX8_copy_103 (by decide) (fun hc => ?_) (fun hc => ?_)
  · have h := h.1 hc
    refine B_iconst (v := 0) dX8_copy_133 (by decide) ?_
    refine B_istore (lv1 := [(6, .int (0 : Int32)), (0, .ref 49), (1, .int v1), (2, .int v2), (3, .int v3), (4, .int v4), (5, .int v5)]) dX8_copy_134 (by decide) rfl ?_
    refine B_weak [1, 4, 5, 6, 0] rfl ?_
    exact h
  · have h := h.2 hc
    refine B_aload_n dX8_copy_106 0 rfl ?_
    refine B_getf (T := TX8) (N := 23) (v := .ref 55) 49 9 dX8_copy_107 inX8_copy_8 lkX8_copy_f25 (Nat.le_of_ble_eq_true rfl) (Nat.le_of_ble_eq_true rfl) rfl rfl (by decide) rfl ?_
    refine B_iload dX8_copy_110 6 rfl ?_
    refine B_aload_n dX8_copy_112 0 rfl ?_
    refine B_getf (T := TX8) (N := 23) (v := .ref 54) 49 8 dX8_copy_113 inX8_copy_8 lkX8_copy_f22 (Nat.le_of_ble_eq_true rfl) (Nat.le_of_ble_eq_true rfl) rfl rfl (by decide) rfl ?_
    refine B_bipush (v := 40) dX8_copy_116 (by decide) ?_
    refine B_iload_n dX8_copy_118 1 rfl ?_
    refine B_imul dX8_copy_119 ?_
    refine B_iload_n dX8_copy_120 2 rfl ?_
    refine B_iadd dX8_copy_121 ?_
    refine B_iload dX8_copy_122 6 rfl ?_
    refine B_iadd dX8_copy_124 ?_
    obtain ⟨hi, h⟩ := h
    refine B_iald (n := 320) 54 dX8_copy_125 (Nat.le_of_ble_eq_true rfl) rfl rfl hi ?_
    obtain ⟨hi, h⟩ := h
    refine B_iast (n := 40) 55 dX8_copy_126 (Nat.le_of_ble_eq_true rfl) rfl rfl hi ?_
    have h := h _ rfl
    generalize (upd2 M 55 v6.toNatClampNeg (M 54 ((((40 : Int32) * v1) + v2) + v6).toNatClampNeg)) = M1 at h ⊢
    refine B_iinc (lv1 := [(6, .int (v6 + (1 : Int32))), (0, .ref 49), (1, .int v1), (2, .int v2), (3, .int v3), (4, .int v4), (5, .int v5)]) (v := (v6 + (1 : Int32))) dX8_copy_127 6 rfl rfl (by decide) rfl ?_
    refine B_goto (tgt := 99) dX8_copy_130 (by decide) ?_
    refine B_weak [1, 2, 3, 4, 5, 6, 0] rfl ?_
    exact h
set_option maxHeartbeats 4000000 in
set_option maxRecDepth 100000 in
theorem rX8_copy_136 (d : Nat) (v3 : Int32) (v4 : Int32) (v5 : Int32) (v6 : Int32) (M : Mm) (Q : Int32 → Mm → Prop)
    (h : ((v5 ≤ v6 → Q v5 M) ∧ (¬ v5 ≤ v6 → vp_in v6 40 ∧ vp_in ((((40 : Int32) * v3) + v4) + v6) 320 ∧ (∀ M1 : Mm, M1 = (upd2 M 54 ((((40 : Int32) * v3) + v4) + v6).toNatClampNeg (M 55 v6.toNatClampNeg)) → BX8_copy (d + 1) 136 [(0, .ref 49), (3, .int v3), (4, .int v4), (5, .int v5), (6, .int (v6 + (1 : Int32)))] [] M1 Q)))) : BX8_copy (d + 1) 136 [(0, .ref 49), (3, .int v3), (4, .int v4), (5, .int v5), (6, .int v6)] [] M Q := by
  refine B_iload dX8_copy_136 4 rfl ?_
  refine B_iload dX8_copy_138 3 rfl ?_
  refine B_icmp_ge (tgt := 171) dX8_copy_140 (by decide) (fun hc => ?_) (fun hc => ?_)
  · have h := h.1 hc
    refine B_iload dX8_copy_171 3 rfl ?_
    exact B_iret dX8_copy_173 h
  · have h := h.2 hc
    refine B_aload_n dX8_copy_143 0 rfl ?_
    refine B_getf (T := TX8) (N := 23) (v := .ref 54) 49 8 dX8_copy_144 inX8_copy_8 lkX8_copy_f22 (Nat.le_of_ble_eq_true rfl) (Nat.le_of_ble_eq_true rfl) rfl rfl (by decide) rfl ?_
    refine B_bipush (v := 40) dX8_copy_147 (by decide) ?_
    refine B_iload_n dX8_copy_149 1 rfl ?_
    refine B_imul dX8_copy_150 ?_
    refine B_iload dX8_copy_151 2 rfl ?_
    refine B_iadd dX8_copy_153 ?_
    refine B_iload dX8_copy_154 4 rfl ?_
    refine B_iadd dX8_copy_156 ?_
    refine B_aload_n dX8_copy_157 0 rfl ?_
    refine B_getf (T := TX8) (N := 23) (v := .ref 55) 49 9 dX8_copy_158 inX8_copy_8 lkX8_copy_f25 (Nat.le_of_ble_eq_true rfl) (Nat.le_of_ble_eq_true rfl) rfl rfl (by decide) rfl ?_
    refine B_iload dX8_copy_161 4 rfl ?_
    obtain ⟨hi, h⟩ := h
    refine B_iald (n := 40) 55 dX8_copy_163 (Nat.le_of_ble_eq_true rfl) rfl rfl hi ?_
    obtain ⟨hi, h⟩ := h
    refine B_iast (n := 320) 54 dX8_copy_164 (Nat.le_of_ble_eq_true rfl) rfl rfl hi ?_
    have h := h _ rfl
    generalize (upd2 M 54 ((((40 : Int32) * v3) + v4) + v6).toNatClampNeg (M 55 v6.toNatClampNeg)) = M1 at h ⊢
    refine B_iinc (lv1 := [(6, .int (v6 + (1 : Int32))), (0, .ref 49), (3, .int v3), (4, .int v4), (5, .int v5)]) (v := (v6 + (1 : Int32))) dX8_copy_165 4 rfl rfl (by decide) rfl ?_
    refine B_goto (tgt := 136) dX8_copy_168 (by decide) ?_
    refine B_weak [1, 2, 3, 4, 0] rfl ?_
    exact h
set_option maxHeartbeats 4000000 in
set_option maxRecDepth 100000 in
theorem rX8_drop (d : Nat) (v1 : Int32) (M : Mm) (Q : Int32 → Mm → Prop)
    (h : kX8_isRow d v1 M (fun (r1 : Int32) (M1 : Mm) => ((¬ r1 = 0 → vp_in v1 8 ∧ ((0 ≤ (M1 52 v1.toNatClampNeg) → (∀ M2 : Mm, M2 = (upd2 M1 49 5 (0 : Int32)) → vp_in v1 8 ∧ vp_in v1 8 ∧ (∀ M3 : Mm, M3 = (upd2 M2 52 v1.toNatClampNeg (-1 : Int32)) → Q (M2 52 v1.toNatClampNeg) M3))) ∧ (¬ 0 ≤ (M1 52 v1.toNatClampNeg) → kX8_finds d (1 : Int32) M1 (fun (r2 : Int32) (M4 : Mm) => Q r2 M4)))) ∧ (r1 = 0 → Q (-1000001 : Int32) M1)))) : kX8_drop (d + 1) v1 M Q := by
  refine Ct.of (cc := cX8_drop) (nL := 3) (by decide) rfl (Nat.le_of_ble_eq_true rfl) ?_
  show BX8_drop (d + 1) 0 [(0, .ref 49), (1, .int v1)] [] M Q
  refine B_iload_n dX8_drop_0 1 rfl ?_
  refine B_callS (st := []) [.int v1] dX8_drop_1 gX8_drop_X8_isRow rfl hyX8_isRow (Nat.le_of_ble_eq_true rfl) (Nat.le_of_ble_eq_true rfl) rfl (Ct.mono h (Nat.le_refl _) (fun r1 M1 h => ?_))
  refine B_if_ne (tgt := 10) dX8_drop_4 (by decide) (fun hc => ?_) (fun hc => ?_)
  · have h := h.1 hc
    refine B_aload_n dX8_drop_10 0 rfl ?_
    refine B_getf (T := TX8) (N := 23) (v := .ref 52) 49 6 dX8_drop_11 inX8_drop_8 lkX8_drop_f16 (Nat.le_of_ble_eq_true rfl) (Nat.le_of_ble_eq_true rfl) rfl rfl (by decide) rfl ?_
    refine B_iload_n dX8_drop_14 1 rfl ?_
    obtain ⟨hi, h⟩ := h
    refine B_iald (n := 8) 52 dX8_drop_15 (Nat.le_of_ble_eq_true rfl) rfl rfl hi ?_
    refine B_if_ge (tgt := 25) dX8_drop_16 (by decide) (fun hc => ?_) (fun hc => ?_)
    · have h := h.1 hc
      refine B_aload_n dX8_drop_25 0 rfl ?_
      refine B_iconst (v := 0) dX8_drop_26 (by decide) ?_
      refine B_putf (T := TX8) (N := 23) 49 5 tyX8 tyX8_ok nmX8 dX8_drop_27 inX8_drop_8 lkX8_drop_f61 (Nat.le_of_ble_eq_true rfl) (Nat.le_of_ble_eq_true rfl) rfl rfl (by decide) rfl rfl (by decide +kernel) ?_
      have h := h _ rfl
      generalize (upd2 M1 49 5 (0 : Int32)) = M2 at h ⊢
      refine B_aload_n dX8_drop_30 0 rfl ?_
      refine B_getf (T := TX8) (N := 23) (v := .ref 52) 49 6 dX8_drop_31 inX8_drop_8 lkX8_drop_f16 (Nat.le_of_ble_eq_true rfl) (Nat.le_of_ble_eq_true rfl) rfl rfl (by decide) rfl ?_
      refine B_iload_n dX8_drop_34 1 rfl ?_
      obtain ⟨hi, h⟩ := h
      refine B_iald (n := 8) 52 dX8_drop_35 (Nat.le_of_ble_eq_true rfl) rfl rfl hi ?_
      refine B_istore_n (lv1 := [(2, .int (M2 52 v1.toNatClampNeg)), (0, .ref 49), (1, .int v1)]) dX8_drop_36 (by decide) rfl ?_
      refine B_aload_n dX8_drop_37 1 rfl ?_
      refine B_getf (T := TX8) (N := 23) (v := .ref 52) 49 6 dX8_drop_38 inX8_drop_8 lkX8_drop_f16 (Nat.le_of_ble_eq_true rfl) (Nat.le_of_ble_eq_true rfl) rfl rfl (by decide) rfl ?_
      refine B_iload_n dX8_drop_41 2 rfl ?_
      refine B_iconst (v := -1) dX8_drop_42 (by decide) ?_
      obtain ⟨hi, h⟩ := h
      refine B_iast (n := 8) 52 dX8_drop_43 (Nat.le_of_ble_eq_true rfl) rfl rfl hi ?_
      have h := h _ rfl
      generalize (upd2 M2 52 v1.toNatClampNeg (-1 : Int32)) = M3 at h ⊢
      refine B_iload_n dX8_drop_44 0 rfl ?_
      exact B_iret dX8_drop_45 h
    · have h := h.2 hc
      refine B_aload_n dX8_drop_19 0 rfl ?_
      refine B_iconst (v := 1) dX8_drop_20 (by decide) ?_
      refine B_callV (st := []) 49 [.int (1 : Int32)] dX8_drop_21 gX8_drop_X8_finds rfl hyX8_finds (Nat.le_of_ble_eq_true rfl) (Nat.le_of_ble_eq_true rfl) TX8 23 rfl (Nat.le_of_ble_eq_true rfl) (Nat.le_of_ble_eq_true rfl) rfl (Ct.mono h (Nat.le_refl _) (fun r2 M4 h => ?_))
      exact B_iret dX8_drop_24 h
  · have h := h.2 hc
    refine B_ldc (v := -1000001) dX8_drop_7 lkX8_drop_c72 ?_
    exact B_iret dX8_drop_9 h
set_option maxHeartbeats 4000000 in
set_option maxRecDepth 100000 in
theorem rX8_feed (d : Nat) (v1 : Int32) (M : Mm) (Q : Int32 → Mm → Prop)
    (h : kX8_in d v1.toInt64 (0 : Int64) (255 : Int64) M (fun (r1 : Int32) (M1 : Mm) => ((¬ r1 = 0 → ((¬ (M1 49 3) = (50 : Int32) → vp_in (M1 49 3) 50 ∧ (∀ M2 : Mm, M2 = (upd2 M1 51 (M1 49 3).toNatClampNeg v1) → (∀ M3 : Mm, M3 = (upd2 M2 49 3 ((M2 49 3) + (1 : Int32))) → Q (M3 49 3) M3))) ∧ ((M1 49 3) = (50 : Int32) → Q (-1000003 : Int32) M1))) ∧ (r1 = 0 → Q (-1000001 : Int32) M1)))) : kX8_feed (d + 1) v1 M Q := by
  refine Ct.of (cc := cX8_feed) (nL := 2) (by decide) rfl (Nat.le_of_ble_eq_true rfl) ?_
  show BX8_feed (d + 1) 0 [(0, .ref 49), (1, .int v1)] [] M Q
  refine B_iload_n dX8_feed_0 1 rfl ?_
  refine B_i2l dX8_feed_1 ?_
  refine B_lconst (v := 0) dX8_feed_2 (by decide) ?_
  refine B_ldc2 (v := 255) dX8_feed_3 lkX8_feed_l81 ?_
  refine B_callS (st := []) [.long v1.toInt64, .long (0 : Int64), .long (255 : Int64)] dX8_feed_6 gX8_feed_X8_in rfl hyX8_in (Nat.le_of_ble_eq_true rfl) (Nat.le_of_ble_eq_true rfl) rfl (Ct.mono h (Nat.le_refl _) (fun r1 M1 h => ?_))
  refine B_if_ne (tgt := 15) dX8_feed_9 (by decide) (fun hc => ?_) (fun hc => ?_)
  · have h := h.1 hc
    refine B_aload_n dX8_feed_15 0 rfl ?_
    refine B_getf (T := TX8) (N := 23) (v := .int (M1 49 3)) 49 3 dX8_feed_16 inX8_feed_8 lkX8_feed_f83 (Nat.le_of_ble_eq_true rfl) (Nat.le_of_ble_eq_true rfl) rfl rfl (by decide) rfl ?_
    refine B_bipush (v := 50) dX8_feed_19 (by decide) ?_
    refine B_icmp_ne (tgt := 27) dX8_feed_21 (by decide) (fun hc => ?_) (fun hc => ?_)
    · have h := h.1 hc
      refine B_aload_n dX8_feed_27 0 rfl ?_
      refine B_getf (T := TX8) (N := 23) (v := .ref 51) 49 2 dX8_feed_28 inX8_feed_8 lkX8_feed_f13 (Nat.le_of_ble_eq_true rfl) (Nat.le_of_ble_eq_true rfl) rfl rfl (by decide) rfl ?_
      refine B_aload_n dX8_feed_31 0 rfl ?_
      refine B_getf (T := TX8) (N := 23) (v := .int (M1 49 3)) 49 3 dX8_feed_32 inX8_feed_8 lkX8_feed_f83 (Nat.le_of_ble_eq_true rfl) (Nat.le_of_ble_eq_true rfl) rfl rfl (by decide) rfl ?_
      refine B_iload_n dX8_feed_35 1 rfl ?_
      obtain ⟨hi, h⟩ := h
      refine B_iast (n := 50) 51 dX8_feed_36 (Nat.le_of_ble_eq_true rfl) rfl rfl hi ?_
      have h := h _ rfl
      generalize (upd2 M1 51 (M1 49 3).toNatClampNeg v1) = M2 at h ⊢
      refine B_aload_n dX8_feed_37 0 rfl ?_
      refine B_dup dX8_feed_38 rfl ?_
      refine B_getf (T := TX8) (N := 23) (v := .int (M2 49 3)) 49 3 dX8_feed_39 inX8_feed_8 lkX8_feed_f83 (Nat.le_of_ble_eq_true rfl) (Nat.le_of_ble_eq_true rfl) rfl rfl (by decide) rfl ?_
      refine B_iconst (v := 1) dX8_feed_42 (by decide) ?_
      refine B_iadd dX8_feed_43 ?_
      refine B_putf (T := TX8) (N := 23) 49 3 tyX8 tyX8_ok nmX8 dX8_feed_44 inX8_feed_8 lkX8_feed_f83 (Nat.le_of_ble_eq_true rfl) (Nat.le_of_ble_eq_true rfl) rfl rfl (by decide) rfl rfl (by decide +kernel) ?_
      have h := h _ rfl
      generalize (upd2 M2 49 3 ((M2 49 3) + (1 : Int32))) = M3 at h ⊢
      refine B_aload_n dX8_feed_47 0 rfl ?_
      refine B_getf (T := TX8) (N := 23) (v := .int (M3 49 3)) 49 3 dX8_feed_48 inX8_feed_8 lkX8_feed_f83 (Nat.le_of_ble_eq_true rfl) (Nat.le_of_ble_eq_true rfl) rfl rfl (by decide) rfl ?_
      exact B_iret dX8_feed_51 h
    · have h := h.2 hc
      refine B_ldc (v := -1000003) dX8_feed_24 lkX8_feed_c86 ?_
      exact B_iret dX8_feed_26 h
  · have h := h.2 hc
    refine B_ldc (v := -1000001) dX8_feed_12 lkX8_feed_c72 ?_
    exact B_iret dX8_feed_14 h
set_option maxHeartbeats 4000000 in
set_option maxRecDepth 100000 in
theorem rX8_here (d : Nat)  (M : Mm) (Q : Int32 → Mm → Prop)
    (h : (((M 49 3) ≤ (M 49 10) → Q (-1 : Int32) M) ∧ (¬ (M 49 3) ≤ (M 49 10) → vp_in (M 49 10) 50 ∧ Q (M 51 (M 49 10).toNatClampNeg) M))) : kX8_here d  M Q := by
  refine Ct.of (cc := cX8_here) (nL := 1) (by decide) rfl (Nat.le_of_ble_eq_true rfl) ?_
  show BX8_here d 0 [(0, .ref 49)] [] M Q
  refine B_aload_n dX8_here_0 0 rfl ?_
  refine B_getf (T := TX8) (N := 23) (v := .int (M 49 10)) 49 10 dX8_here_1 inX8_here_8 lkX8_here_f87 (Nat.le_of_ble_eq_true rfl) (Nat.le_of_ble_eq_true rfl) rfl rfl (by decide) rfl ?_
  refine B_aload_n dX8_here_4 0 rfl ?_
  refine B_getf (T := TX8) (N := 23) (v := .int (M 49 3)) 49 3 dX8_here_5 inX8_here_8 lkX8_here_f83 (Nat.le_of_ble_eq_true rfl) (Nat.le_of_ble_eq_true rfl) rfl rfl (by decide) rfl ?_
  refine B_icmp_ge (tgt := 23) dX8_here_8 (by decide) (fun hc => ?_) (fun hc => ?_)
  · have h := h.1 hc
    refine B_iconst (v := -1) dX8_here_23 (by decide) ?_
    exact B_iret dX8_here_24 h
  · have h := h.2 hc
    refine B_aload_n dX8_here_11 0 rfl ?_
    refine B_getf (T := TX8) (N := 23) (v := .ref 51) 49 2 dX8_here_12 inX8_here_8 lkX8_here_f13 (Nat.le_of_ble_eq_true rfl) (Nat.le_of_ble_eq_true rfl) rfl rfl (by decide) rfl ?_
    refine B_aload_n dX8_here_15 0 rfl ?_
    refine B_getf (T := TX8) (N := 23) (v := .int (M 49 10)) 49 10 dX8_here_16 inX8_here_8 lkX8_here_f87 (Nat.le_of_ble_eq_true rfl) (Nat.le_of_ble_eq_true rfl) rfl rfl (by decide) rfl ?_
    obtain ⟨hi, h⟩ := h
    refine B_iald (n := 50) 51 dX8_here_19 (Nat.le_of_ble_eq_true rfl) rfl rfl hi ?_
    refine B_goto (tgt := 24) dX8_here_20 (by decide) ?_
    exact B_iret dX8_here_24 h
set_option maxHeartbeats 4000000 in
set_option maxRecDepth 100000 in
theorem rX8_fails (d : Nat) (v1 : Int32) (v2 : Int32) (M : Mm) (Q : Int32 → Mm → Prop)
    (h : (∀ M1 : Mm, M1 = (upd2 M 49 4 v1) → (∀ M2 : Mm, M2 = (upd2 M1 49 11 v2) → Q (0 : Int32) M2))) : kX8_fails d v1 v2 M Q := by
  refine Ct.of (cc := cX8_fails) (nL := 3) (by decide) rfl (Nat.le_of_ble_eq_true rfl) ?_
  show BX8_fails d 0 [(0, .ref 49), (1, .int v1), (2, .int v2)] [] M Q
  refine B_aload_n dX8_fails_0 0 rfl ?_
  refine B_iload_n dX8_fails_1 1 rfl ?_
  refine B_putf (T := TX8) (N := 23) 49 4 tyX8 tyX8_ok nmX8 dX8_fails_2 inX8_fails_8 lkX8_fails_f90 (Nat.le_of_ble_eq_true rfl) (Nat.le_of_ble_eq_true rfl) rfl rfl (by decide) rfl rfl (by decide +kernel) ?_
  have h := h _ rfl
  generalize (upd2 M 49 4 v1) = M1 at h ⊢
  refine B_aload_n dX8_fails_5 0 rfl ?_
  refine B_iload_n dX8_fails_6 2 rfl ?_
  refine B_putf (T := TX8) (N := 23) 49 11 tyX8 tyX8_ok nmX8 dX8_fails_7 inX8_fails_8 lkX8_fails_f93 (Nat.le_of_ble_eq_true rfl) (Nat.le_of_ble_eq_true rfl) rfl rfl (by decide) rfl rfl (by decide +kernel) ?_
  have h := h _ rfl
  generalize (upd2 M1 49 11 v2) = M2 at h ⊢
  refine B_iconst (v := 0) dX8_fails_10 (by decide) ?_
  exact B_zret dX8_fails_11 (Or.inl rfl) h
set_option maxHeartbeats 4000000 in
set_option maxRecDepth 100000 in
theorem rX8_takes (d : Nat) (v1 : Int32) (M : Mm) (Q : Int32 → Mm → Prop)
    (h : kX8_here d  M (fun (r1 : Int32) (M1 : Mm) => ((r1 = v1 → (∀ M2 : Mm, M2 = (upd2 M1 49 10 ((M1 49 10) + (1 : Int32))) → Q (1 : Int32) M2)) ∧ (¬ r1 = v1 → kX8_fails d (1 : Int32) (M1 49 10) M1 (fun (r2 : Int32) (M3 : Mm) => ((r2 = 0 ∨ r2 = 1) ∧ Q r2 M3)))))) : kX8_takes (d + 1) v1 M Q := by
  refine Ct.of (cc := cX8_takes) (nL := 2) (by decide) rfl (Nat.le_of_ble_eq_true rfl) ?_
  show BX8_takes (d + 1) 0 [(0, .ref 49), (1, .int v1)] [] M Q
  refine B_aload_n dX8_takes_0 0 rfl ?_
  refine B_callV (st := []) 49 [] dX8_takes_1 gX8_takes_X8_here rfl hyX8_here (Nat.le_of_ble_eq_true rfl) (Nat.le_of_ble_eq_true rfl) TX8 23 rfl (Nat.le_of_ble_eq_true rfl) (Nat.le_of_ble_eq_true rfl) rfl (Ct.mono h (Nat.le_refl _) (fun r1 M1 h => ?_))
  refine B_iload_n dX8_takes_4 1 rfl ?_
  refine B_icmp_eq (tgt := 18) dX8_takes_5 (by decide) (fun hc => ?_) (fun hc => ?_)
  · have h := h.1 hc
    refine B_aload_n dX8_takes_18 0 rfl ?_
    refine B_dup dX8_takes_19 rfl ?_
    refine B_getf (T := TX8) (N := 23) (v := .int (M1 49 10)) 49 10 dX8_takes_20 inX8_takes_8 lkX8_takes_f87 (Nat.le_of_ble_eq_true rfl) (Nat.le_of_ble_eq_true rfl) rfl rfl (by decide) rfl ?_
    refine B_iconst (v := 1) dX8_takes_23 (by decide) ?_
    refine B_iadd dX8_takes_24 ?_
    refine B_putf (T := TX8) (N := 23) 49 10 tyX8 tyX8_ok nmX8 dX8_takes_25 inX8_takes_8 lkX8_takes_f87 (Nat.le_of_ble_eq_true rfl) (Nat.le_of_ble_eq_true rfl) rfl rfl (by decide) rfl rfl (by decide +kernel) ?_
    have h := h _ rfl
    generalize (upd2 M1 49 10 ((M1 49 10) + (1 : Int32))) = M2 at h ⊢
    refine B_iconst (v := 1) dX8_takes_28 (by decide) ?_
    exact B_zret dX8_takes_29 (Or.inr rfl) h
  · have h := h.2 hc
    refine B_aload_n dX8_takes_8 0 rfl ?_
    refine B_iconst (v := 1) dX8_takes_9 (by decide) ?_
    refine B_aload_n dX8_takes_10 0 rfl ?_
    refine B_getf (T := TX8) (N := 23) (v := .int (M1 49 10)) 49 10 dX8_takes_11 inX8_takes_8 lkX8_takes_f87 (Nat.le_of_ble_eq_true rfl) (Nat.le_of_ble_eq_true rfl) rfl rfl (by decide) rfl ?_
    refine B_callV (st := []) 49 [.int (1 : Int32), .int (M1 49 10)] dX8_takes_14 gX8_takes_X8_fails rfl hyX8_fails (Nat.le_of_ble_eq_true rfl) (Nat.le_of_ble_eq_true rfl) TX8 23 rfl (Nat.le_of_ble_eq_true rfl) (Nat.le_of_ble_eq_true rfl) rfl (Ct.mono h (Nat.le_refl _) (fun r2 M3 h => ?_))
    exact B_zret dX8_takes_17 h.1 h.2
set_option maxHeartbeats 4000000 in
set_option maxRecDepth 100000 in
theorem rX8_takesNumber (d : Nat) (v1 : Int32) (v2 : Int32) (v3 : Int32) (M : Mm) (Q : Int32 → Mm → Prop)
    (h : (∀ M1 : Mm, M1 = (upd2 M 49 12 (0 : Int32)) → BX8_takesNumber (d + 1) 11 [(0, .ref 49), (1, .int v1), (2, .int v2), (3, .int v3), (4, .int (M 49 10))] [] M1 Q)) : kX8_takesNumber (d + 1) v1 v2 v3 M Q := by
  refine Ct.of (cc := cX8_takesNumber) (nL := 5) (by decide) rfl (Nat.le_of_ble_eq_true rfl) ?_
  show BX8_takesNumber (d + 1) 0 [(0, .ref 49), (1, .int v1), (2, .int v2), (3, .int v3)] [] M Q
  refine B_aload_n dX8_takesNumber_0 0 rfl ?_
  refine B_getf (T := TX8) (N := 23) (v := .int (M 49 10)) 49 10 dX8_takesNumber_1 inX8_takesNumber_8 lkX8_takesNumber_f87 (Nat.le_of_ble_eq_true rfl) (Nat.le_of_ble_eq_true rfl) rfl rfl (by decide) rfl ?_
  refine B_istore (lv1 := [(4, .int (M 49 10)), (0, .ref 49), (1, .int v1), (2, .int v2), (3, .int v3)]) dX8_takesNumber_4 (by decide) rfl ?_
  refine B_aload_n dX8_takesNumber_6 1 rfl ?_
  refine B_iconst (v := 0) dX8_takesNumber_7 (by decide) ?_
  refine B_putf (T := TX8) (N := 23) 49 12 tyX8 tyX8_ok nmX8 dX8_takesNumber_8 inX8_takesNumber_8 lkX8_takesNumber_f104 (Nat.le_of_ble_eq_true rfl) (Nat.le_of_ble_eq_true rfl) rfl rfl (by decide) rfl rfl (by decide +kernel) ?_
  have h := h _ rfl
  generalize (upd2 M 49 12 (0 : Int32)) = M1 at h ⊢
  refine B_weak [1, 2, 3, 4, 0] rfl ?_
  exact h
set_option maxHeartbeats 4000000 in
set_option maxRecDepth 100000 in
theorem rX8_takesNumber_11 (d : Nat) (v1 : Int32) (v2 : Int32) (v3 : Int32) (v4 : Int32) (M : Mm) (Q : Int32 → Mm → Prop)
    (h : kX8_here d  M (fun (r1 : Int32) (M1 : Mm) => kX8_in d r1.toInt64 (48 : Int64) (57 : Int64) M1 (fun (r2 : Int32) (M2 : Mm) => ((r2 = 0 → kX8_in d (((M2 49 10) - v4).toInt64) (1 : Int64) (2 : Int64) M2 (fun (r3 : Int32) (M3 : Mm) => ((¬ r3 = 0 → kX8_in d ((M3 49 12).toInt64) v1.toInt64 v2.toInt64 M3 (fun (r4 : Int32) (M4 : Mm) => ((r4 = 0 → BX8_takesNumber (d + 1) 130 [(0, .ref 49), (4, .int v4)] [] M4 Q) ∧ (¬ r4 = 0 → kX8_has d v3 (M4 49 12) M4 (fun (r5 : Int32) (M5 : Mm) => ((r5 = 0 → Q (1 : Int32) M5) ∧ (¬ r5 = 0 → BX8_takesNumber (d + 1) 130 [(0, .ref 49), (4, .int v4)] [] M5 Q))))))) ∧ (r3 = 0 → kX8_fails d (1 : Int32) v4 M3 (fun (r6 : Int32) (M6 : Mm) => ((r6 = 0 ∨ r6 = 1) ∧ Q r6 M6)))))) ∧ (¬ r2 = 0 → (((2 : Int32) ≤ ((M2 49 10) - v4) → BX8_takesNumber (d + 1) 62 [(0, .ref 49), (1, .int v1), (2, .int v2), (3, .int v3), (4, .int v4)] [.int (M2 49 12), .ref 49] M2 Q) ∧ (¬ (2 : Int32) ≤ ((M2 49 10) - v4) → kX8_here d  M2 (fun (r7 : Int32) (M7 : Mm) => BX8_takesNumber (d + 1) 62 [(0, .ref 49), (1, .int v1), (2, .int v2), (3, .int v3), (4, .int v4)] [.int ((((10 : Int32) * (M2 49 12)) + r7) - (48 : Int32)), .ref 49] M7 Q)))))))) : BX8_takesNumber (d + 1) 11 [(0, .ref 49), (1, .int v1), (2, .int v2), (3, .int v3), (4, .int v4)] [] M Q := by
  refine B_aload_n dX8_takesNumber_11 0 rfl ?_
  refine B_callV (st := []) 49 [] dX8_takesNumber_12 gX8_takesNumber_X8_here rfl hyX8_here (Nat.le_of_ble_eq_true rfl) (Nat.le_of_ble_eq_true rfl) TX8 23 rfl (Nat.le_of_ble_eq_true rfl) (Nat.le_of_ble_eq_true rfl) rfl (Ct.mono h (Nat.le_refl _) (fun r1 M1 h => ?_))
  refine B_i2l dX8_takesNumber_15 ?_
  refine B_ldc2 (v := 48) dX8_takesNumber_16 lkX8_takesNumber_l107 ?_
  refine B_ldc2 (v := 57) dX8_takesNumber_19 lkX8_takesNumber_l109 ?_
  refine B_callS (st := []) [.long r1.toInt64, .long (48 : Int64), .long (57 : Int64)] dX8_takesNumber_22 gX8_takesNumber_X8_in rfl hyX8_in (Nat.le_of_ble_eq_true rfl) (Nat.le_of_ble_eq_true rfl) rfl (Ct.mono h (Nat.le_refl _) (fun r2 M2 h => ?_))
  refine B_if_eq (tgt := 78) dX8_takesNumber_25 (by decide) (fun hc => ?_) (fun hc => ?_)
  · have h := h.1 hc
    refine B_aload_n dX8_takesNumber_78 0 rfl ?_
    refine B_getf (T := TX8) (N := 23) (v := .int (M2 49 10)) 49 10 dX8_takesNumber_79 inX8_takesNumber_8 lkX8_takesNumber_f87 (Nat.le_of_ble_eq_true rfl) (Nat.le_of_ble_eq_true rfl) rfl rfl (by decide) rfl ?_
    refine B_iload dX8_takesNumber_82 4 rfl ?_
    refine B_isub dX8_takesNumber_84 ?_
    refine B_i2l dX8_takesNumber_85 ?_
    refine B_lconst (v := 1) dX8_takesNumber_86 (by decide) ?_
    refine B_ldc2 (v := 2) dX8_takesNumber_87 lkX8_takesNumber_l70 ?_
    refine B_callS (st := []) [.long ((M2 49 10) - v4).toInt64, .long (1 : Int64), .long (2 : Int64)] dX8_takesNumber_90 gX8_takesNumber_X8_in rfl hyX8_in (Nat.le_of_ble_eq_true rfl) (Nat.le_of_ble_eq_true rfl) rfl (Ct.mono h (Nat.le_refl _) (fun r3 M3 h => ?_))
    refine B_if_ne (tgt := 104) dX8_takesNumber_93 (by decide) (fun hc => ?_) (fun hc => ?_)
    · have h := h.1 hc
      refine B_aload_n dX8_takesNumber_104 0 rfl ?_
      refine B_getf (T := TX8) (N := 23) (v := .int (M3 49 12)) 49 12 dX8_takesNumber_105 inX8_takesNumber_8 lkX8_takesNumber_f104 (Nat.le_of_ble_eq_true rfl) (Nat.le_of_ble_eq_true rfl) rfl rfl (by decide) rfl ?_
      refine B_i2l dX8_takesNumber_108 ?_
      refine B_iload_n dX8_takesNumber_109 1 rfl ?_
      refine B_i2l dX8_takesNumber_110 ?_
      refine B_iload_n dX8_takesNumber_111 2 rfl ?_
      refine B_i2l dX8_takesNumber_112 ?_
      refine B_callS (st := []) [.long (M3 49 12).toInt64, .long v1.toInt64, .long v2.toInt64] dX8_takesNumber_113 gX8_takesNumber_X8_in rfl hyX8_in (Nat.le_of_ble_eq_true rfl) (Nat.le_of_ble_eq_true rfl) rfl (Ct.mono h (Nat.le_refl _) (fun r4 M4 h => ?_))
      refine B_if_eq (tgt := 130) dX8_takesNumber_116 (by decide) (fun hc => ?_) (fun hc => ?_)
      · have h := h.1 hc
        refine B_weak [0, 4] rfl ?_
        exact h
      · have h := h.2 hc
        refine B_iload_n dX8_takesNumber_119 3 rfl ?_
        refine B_aload_n dX8_takesNumber_120 0 rfl ?_
        refine B_getf (T := TX8) (N := 23) (v := .int (M4 49 12)) 49 12 dX8_takesNumber_121 inX8_takesNumber_8 lkX8_takesNumber_f104 (Nat.le_of_ble_eq_true rfl) (Nat.le_of_ble_eq_true rfl) rfl rfl (by decide) rfl ?_
        refine B_callS (st := []) [.int v3, .int (M4 49 12)] dX8_takesNumber_124 gX8_takesNumber_X8_has rfl hyX8_has (Nat.le_of_ble_eq_true rfl) (Nat.le_of_ble_eq_true rfl) rfl (Ct.mono h (Nat.le_refl _) (fun r5 M5 h => ?_))
        refine B_if_eq (tgt := 138) dX8_takesNumber_127 (by decide) (fun hc => ?_) (fun hc => ?_)
        · have h := h.1 hc
          refine B_iconst (v := 1) dX8_takesNumber_138 (by decide) ?_
          exact B_zret dX8_takesNumber_139 (Or.inr rfl) h
        · have h := h.2 hc
          refine B_weak [0, 4] rfl ?_
          exact h
    · have h := h.2 hc
      refine B_aload_n dX8_takesNumber_96 0 rfl ?_
      refine B_iconst (v := 1) dX8_takesNumber_97 (by decide) ?_
      refine B_iload dX8_takesNumber_98 4 rfl ?_
      refine B_callV (st := []) 49 [.int (1 : Int32), .int v4] dX8_takesNumber_100 gX8_takesNumber_X8_fails rfl hyX8_fails (Nat.le_of_ble_eq_true rfl) (Nat.le_of_ble_eq_true rfl) TX8 23 rfl (Nat.le_of_ble_eq_true rfl) (Nat.le_of_ble_eq_true rfl) rfl (Ct.mono h (Nat.le_refl _) (fun r6 M6 h => ?_))
      exact B_zret dX8_takesNumber_103 h.1 h.2
  · have h := h.2 hc
    refine B_aload_n dX8_takesNumber_28 0 rfl ?_
    refine B_aload_n dX8_takesNumber_29 0 rfl ?_
    refine B_getf (T := TX8) (N := 23) (v := .int (M2 49 10)) 49 10 dX8_takesNumber_30 inX8_takesNumber_8 lkX8_takesNumber_f87 (Nat.le_of_ble_eq_true rfl) (Nat.le_of_ble_eq_true rfl) rfl rfl (by decide) rfl ?_
    refine B_iload dX8_takesNumber_33 4 rfl ?_
    refine B_isub dX8_takesNumber_35 ?_
    refine B_iconst (v := 2) dX8_takesNumber_36 (by decide) ?_
    refine B_icmp_ge (tgt := 58) dX8_takesNumber_37 (by decide) (fun hc => ?_) (fun hc => ?_)
    · have h := h.1 hc
      refine B_aload_n dX8_takesNumber_58 0 rfl ?_
      refine B_getf (T := TX8) (N := 23) (v := .int (M2 49 12)) 49 12 dX8_takesNumber_59 inX8_takesNumber_8 lkX8_takesNumber_f104 (Nat.le_of_ble_eq_true rfl) (Nat.le_of_ble_eq_true rfl) rfl rfl (by decide) rfl ?_
      refine B_weak [0, 1, 2, 3, 4] rfl ?_
      exact h
    · have h := h.2 hc
      refine B_bipush (v := 10) dX8_takesNumber_40 (by decide) ?_
      refine B_aload_n dX8_takesNumber_42 0 rfl ?_
      refine B_getf (T := TX8) (N := 23) (v := .int (M2 49 12)) 49 12 dX8_takesNumber_43 inX8_takesNumber_8 lkX8_takesNumber_f104 (Nat.le_of_ble_eq_true rfl) (Nat.le_of_ble_eq_true rfl) rfl rfl (by decide) rfl ?_
      refine B_imul dX8_takesNumber_46 ?_
      refine B_aload_n dX8_takesNumber_47 0 rfl ?_
      refine B_callV (st := [.int ((10 : Int32) * (M2 49 12)), .ref 49]) 49 [] dX8_takesNumber_48 gX8_takesNumber_X8_here rfl hyX8_here (Nat.le_of_ble_eq_true rfl) (Nat.le_of_ble_eq_true rfl) TX8 23 rfl (Nat.le_of_ble_eq_true rfl) (Nat.le_of_ble_eq_true rfl) rfl (Ct.mono h (Nat.le_refl _) (fun r7 M7 h => ?_))
      refine B_iadd dX8_takesNumber_51 ?_
      refine B_bipush (v := 48) dX8_takesNumber_52 (by decide) ?_
      refine B_isub dX8_takesNumber_54 ?_
      refine B_goto (tgt := 62) dX8_takesNumber_55 (by decide) ?_
      refine B_weak [0, 1, 2, 3, 4] rfl ?_
      exact h
set_option maxHeartbeats 4000000 in
set_option maxRecDepth 100000 in
theorem rX8_takesNumber_62 (d : Nat) (v1 : Int32) (v2 : Int32) (v3 : Int32) (v4 : Int32) (x0 : Int32) (M : Mm) (Q : Int32 → Mm → Prop)
    (h : (∀ M1 : Mm, M1 = (upd2 M 49 12 x0) → (∀ M2 : Mm, M2 = (upd2 M1 49 10 ((M1 49 10) + (1 : Int32))) → BX8_takesNumber (d + 1) 11 [(0, .ref 49), (1, .int v1), (2, .int v2), (3, .int v3), (4, .int v4)] [] M2 Q))) : BX8_takesNumber (d + 1) 62 [(0, .ref 49), (1, .int v1), (2, .int v2), (3, .int v3), (4, .int v4)] [.int x0, .ref 49] M Q := by
  refine B_putf (T := TX8) (N := 23) 49 12 tyX8 tyX8_ok nmX8 dX8_takesNumber_62 inX8_takesNumber_8 lkX8_takesNumber_f104 (Nat.le_of_ble_eq_true rfl) (Nat.le_of_ble_eq_true rfl) rfl rfl (by decide) rfl rfl (by decide +kernel) ?_
  have h := h _ rfl
  generalize (upd2 M 49 12 x0) = M1 at h ⊢
  refine B_aload_n dX8_takesNumber_65 0 rfl ?_
  refine B_dup dX8_takesNumber_66 rfl ?_
  refine B_getf (T := TX8) (N := 23) (v := .int (M1 49 10)) 49 10 dX8_takesNumber_67 inX8_takesNumber_8 lkX8_takesNumber_f87 (Nat.le_of_ble_eq_true rfl) (Nat.le_of_ble_eq_true rfl) rfl rfl (by decide) rfl ?_
  refine B_iconst (v := 1) dX8_takesNumber_70 (by decide) ?_
  refine B_iadd dX8_takesNumber_71 ?_
  refine B_putf (T := TX8) (N := 23) 49 10 tyX8 tyX8_ok nmX8 dX8_takesNumber_72 inX8_takesNumber_8 lkX8_takesNumber_f87 (Nat.le_of_ble_eq_true rfl) (Nat.le_of_ble_eq_true rfl) rfl rfl (by decide) rfl rfl (by decide +kernel) ?_
  have h := h _ rfl
  generalize (upd2 M1 49 10 ((M1 49 10) + (1 : Int32))) = M2 at h ⊢
  refine B_goto (tgt := 11) dX8_takesNumber_75 (by decide) ?_
  refine B_weak [0, 1, 2, 3, 4] rfl ?_
  exact h
set_option maxHeartbeats 4000000 in
set_option maxRecDepth 100000 in
theorem rX8_takesNumber_130 (d : Nat) (v4 : Int32) (M : Mm) (Q : Int32 → Mm → Prop)
    (h : kX8_fails d (2 : Int32) v4 M (fun (r1 : Int32) (M1 : Mm) => ((r1 = 0 ∨ r1 = 1) ∧ Q r1 M1))) : BX8_takesNumber (d + 1) 130 [(0, .ref 49), (4, .int v4)] [] M Q := by
  refine B_aload_n dX8_takesNumber_130 0 rfl ?_
  refine B_iconst (v := 2) dX8_takesNumber_131 (by decide) ?_
  refine B_iload dX8_takesNumber_132 1 rfl ?_
  refine B_callV (st := []) 49 [.int (2 : Int32), .int v4] dX8_takesNumber_134 gX8_takesNumber_X8_fails rfl hyX8_fails (Nat.le_of_ble_eq_true rfl) (Nat.le_of_ble_eq_true rfl) TX8 23 rfl (Nat.le_of_ble_eq_true rfl) (Nat.le_of_ble_eq_true rfl) rfl (Ct.mono h (Nat.le_refl _) (fun r1 M1 h => ?_))
  exact B_zret dX8_takesNumber_137 h.1 h.2
set_option maxHeartbeats 4000000 in
set_option maxRecDepth 100000 in
theorem rX8_kindOf (d : Nat) (v0 : Int32) (M : Mm) (Q : Int32 → Mm → Prop)
    (h : ((¬ v0 = (103 : Int32) → ((¬ v0 = (115 : Int32) → ((¬ v0 = (112 : Int32) → ((¬ v0 = (104 : Int32) → ((¬ v0 = (111 : Int32) → Q (0 : Int32) M) ∧ (v0 = (111 : Int32) → Q (5 : Int32) M))) ∧ (v0 = (104 : Int32) → Q (4 : Int32) M))) ∧ (v0 = (112 : Int32) → Q (3 : Int32) M))) ∧ (v0 = (115 : Int32) → Q (2 : Int32) M))) ∧ (v0 = (103 : Int32) → Q (1 : Int32) M))) : kX8_kindOf d v0 M Q := by
  refine Ct.of (cc := cX8_kindOf) (nL := 1) (by decide) rfl (Nat.le_of_ble_eq_true rfl) ?_
  show BX8_kindOf d 0 [(0, .int v0)] [] M Q
  refine B_iload_n dX8_kindOf_0 0 rfl ?_
  refine B_bipush (v := 103) dX8_kindOf_1 (by decide) ?_
  refine B_icmp_ne (tgt := 10) dX8_kindOf_3 (by decide) (fun hc => ?_) (fun hc => ?_)
  · have h := h.1 hc
    refine B_iload_n dX8_kindOf_10 0 rfl ?_
    refine B_bipush (v := 115) dX8_kindOf_11 (by decide) ?_
    refine B_icmp_ne (tgt := 20) dX8_kindOf_13 (by decide) (fun hc => ?_) (fun hc => ?_)
    · have h := h.1 hc
      refine B_iload_n dX8_kindOf_20 0 rfl ?_
      refine B_bipush (v := 112) dX8_kindOf_21 (by decide) ?_
      refine B_icmp_ne (tgt := 30) dX8_kindOf_23 (by decide) (fun hc => ?_) (fun hc => ?_)
      · have h := h.1 hc
        refine B_iload_n dX8_kindOf_30 0 rfl ?_
        refine B_bipush (v := 104) dX8_kindOf_31 (by decide) ?_
        refine B_icmp_ne (tgt := 40) dX8_kindOf_33 (by decide) (fun hc => ?_) (fun hc => ?_)
        · have h := h.1 hc
          refine B_iload_n dX8_kindOf_40 0 rfl ?_
          refine B_bipush (v := 111) dX8_kindOf_41 (by decide) ?_
          refine B_icmp_ne (tgt := 50) dX8_kindOf_43 (by decide) (fun hc => ?_) (fun hc => ?_)
          · have h := h.1 hc
            refine B_iconst (v := 0) dX8_kindOf_50 (by decide) ?_
            exact B_iret dX8_kindOf_51 h
          · have h := h.2 hc
            refine B_iconst (v := 5) dX8_kindOf_46 (by decide) ?_
            refine B_goto (tgt := 51) dX8_kindOf_47 (by decide) ?_
            exact B_iret dX8_kindOf_51 h
        · have h := h.2 hc
          refine B_iconst (v := 4) dX8_kindOf_36 (by decide) ?_
          refine B_goto (tgt := 51) dX8_kindOf_37 (by decide) ?_
          exact B_iret dX8_kindOf_51 h
      · have h := h.2 hc
        refine B_iconst (v := 3) dX8_kindOf_26 (by decide) ?_
        refine B_goto (tgt := 51) dX8_kindOf_27 (by decide) ?_
        exact B_iret dX8_kindOf_51 h
    · have h := h.2 hc
      refine B_iconst (v := 2) dX8_kindOf_16 (by decide) ?_
      refine B_goto (tgt := 51) dX8_kindOf_17 (by decide) ?_
      exact B_iret dX8_kindOf_51 h
  · have h := h.2 hc
    refine B_iconst (v := 1) dX8_kindOf_6 (by decide) ?_
    refine B_goto (tgt := 51) dX8_kindOf_7 (by decide) ?_
    exact B_iret dX8_kindOf_51 h
set_option maxHeartbeats 4000000 in
set_option maxRecDepth 100000 in
theorem rX8_takesSaint (d : Nat)  (M : Mm) (Q : Int32 → Mm → Prop)
    (h : vp_in (68 : Int32) 301 ∧ kX8_here d  M (fun (r1 : Int32) (M1 : Mm) => kX8_kindOf d r1 M1 (fun (r2 : Int32) (M2 : Mm) => ((¬ r2 = 0 → ((¬ (M 50 (68 : Int32).toNatClampNeg) = (7 : Int32) → (∀ M3 : Mm, M3 = (upd2 M2 49 10 ((M2 49 10) + (1 : Int32))) → BX8_takesSaint (d + 1) 61 [(0, .ref 49), (1, .int (M 50 (68 : Int32).toNatClampNeg)), (2, .int r2), (3, .int (0 : Int32)), (4, .int (0 : Int32))] [] M3 Q)) ∧ ((M 50 (68 : Int32).toNatClampNeg) = (7 : Int32) → kX8_fails d (3 : Int32) (M2 49 10) M2 (fun (r3 : Int32) (M4 : Mm) => ((r3 = 0 ∨ r3 = 1) ∧ Q r3 M4))))) ∧ (r2 = 0 → kX8_fails d (1 : Int32) (M2 49 10) M2 (fun (r4 : Int32) (M5 : Mm) => ((r4 = 0 ∨ r4 = 1) ∧ Q r4 M5))))))) : kX8_takesSaint (d + 1)  M Q := by
  refine Ct.of (cc := cX8_takesSaint) (nL := 5) (by decide) rfl (Nat.le_of_ble_eq_true rfl) ?_
  show BX8_takesSaint (d + 1) 0 [(0, .ref 49)] [] M Q
  refine B_aload_n dX8_takesSaint_0 0 rfl ?_
  refine B_getf (T := TX8) (N := 23) (v := .ref 50) 49 0 dX8_takesSaint_1 inX8_takesSaint_8 lkX8_takesSaint_f7 (Nat.le_of_ble_eq_true rfl) (Nat.le_of_ble_eq_true rfl) rfl rfl (by decide) rfl ?_
  refine B_bipush (v := 68) dX8_takesSaint_4 (by decide) ?_
  obtain ⟨hi, h⟩ := h
  refine B_iald (n := 301) 50 dX8_takesSaint_6 (Nat.le_of_ble_eq_true rfl) rfl rfl hi ?_
  refine B_istore_n (lv1 := [(1, .int (M 50 (68 : Int32).toNatClampNeg)), (0, .ref 49)]) dX8_takesSaint_7 (by decide) rfl ?_
  refine B_aload_n dX8_takesSaint_8 1 rfl ?_
  refine B_callV (st := []) 49 [] dX8_takesSaint_9 gX8_takesSaint_X8_here rfl hyX8_here (Nat.le_of_ble_eq_true rfl) (Nat.le_of_ble_eq_true rfl) TX8 23 rfl (Nat.le_of_ble_eq_true rfl) (Nat.le_of_ble_eq_true rfl) rfl (Ct.mono h (Nat.le_refl _) (fun r1 M1 h => ?_))
  refine B_callS (st := []) [.int r1] dX8_takesSaint_12 gX8_takesSaint_X8_kindOf rfl hyX8_kindOf (Nat.le_of_ble_eq_true rfl) (Nat.le_of_ble_eq_true rfl) rfl (Ct.mono h (Nat.le_refl _) (fun r2 M2 h => ?_))
  refine B_istore_n (lv1 := [(2, .int r2), (1, .int (M 50 (68 : Int32).toNatClampNeg)), (0, .ref 49)]) dX8_takesSaint_15 (by decide) rfl ?_
  refine B_iload_n dX8_takesSaint_16 0 rfl ?_
  refine B_if_ne (tgt := 30) dX8_takesSaint_17 (by decide) (fun hc => ?_) (fun hc => ?_)
  · have h := h.1 hc
    refine B_iload_n dX8_takesSaint_30 1 rfl ?_
    refine B_bipush (v := 7) dX8_takesSaint_31 (by decide) ?_
    refine B_icmp_ne (tgt := 46) dX8_takesSaint_33 (by decide) (fun hc => ?_) (fun hc => ?_)
    · have h := h.1 hc
      refine B_aload_n dX8_takesSaint_46 2 rfl ?_
      refine B_dup dX8_takesSaint_47 rfl ?_
      refine B_getf (T := TX8) (N := 23) (v := .int (M2 49 10)) 49 10 dX8_takesSaint_48 inX8_takesSaint_8 lkX8_takesSaint_f87 (Nat.le_of_ble_eq_true rfl) (Nat.le_of_ble_eq_true rfl) rfl rfl (by decide) rfl ?_
      refine B_iconst (v := 1) dX8_takesSaint_51 (by decide) ?_
      refine B_iadd dX8_takesSaint_52 ?_
      refine B_putf (T := TX8) (N := 23) 49 10 tyX8 tyX8_ok nmX8 dX8_takesSaint_53 inX8_takesSaint_8 lkX8_takesSaint_f87 (Nat.le_of_ble_eq_true rfl) (Nat.le_of_ble_eq_true rfl) rfl rfl (by decide) rfl rfl (by decide +kernel) ?_
      have h := h _ rfl
      generalize (upd2 M2 49 10 ((M2 49 10) + (1 : Int32))) = M3 at h ⊢
      refine B_iconst (v := 0) dX8_takesSaint_56 (by decide) ?_
      refine B_istore_n (lv1 := [(3, .int (0 : Int32)), (2, .int r2), (1, .int (M 50 (68 : Int32).toNatClampNeg)), (0, .ref 49)]) dX8_takesSaint_57 (by decide) rfl ?_
      refine B_iconst (v := 0) dX8_takesSaint_58 (by decide) ?_
      refine B_istore (lv1 := [(4, .int (0 : Int32)), (3, .int (0 : Int32)), (2, .int r2), (1, .int (M 50 (68 : Int32).toNatClampNeg)), (0, .ref 49)]) dX8_takesSaint_59 (by decide) rfl ?_
      refine B_weak [4, 3, 2, 1, 0] rfl ?_
      exact h
    · have h := h.2 hc
      refine B_aload_n dX8_takesSaint_36 2 rfl ?_
      refine B_iconst (v := 3) dX8_takesSaint_37 (by decide) ?_
      refine B_aload_n dX8_takesSaint_38 2 rfl ?_
      refine B_getf (T := TX8) (N := 23) (v := .int (M2 49 10)) 49 10 dX8_takesSaint_39 inX8_takesSaint_8 lkX8_takesSaint_f87 (Nat.le_of_ble_eq_true rfl) (Nat.le_of_ble_eq_true rfl) rfl rfl (by decide) rfl ?_
      refine B_callV (st := []) 49 [.int (3 : Int32), .int (M2 49 10)] dX8_takesSaint_42 gX8_takesSaint_X8_fails rfl hyX8_fails (Nat.le_of_ble_eq_true rfl) (Nat.le_of_ble_eq_true rfl) TX8 23 rfl (Nat.le_of_ble_eq_true rfl) (Nat.le_of_ble_eq_true rfl) rfl (Ct.mono h (Nat.le_refl _) (fun r3 M4 h => ?_))
      exact B_zret dX8_takesSaint_45 h.1 h.2
  · have h := h.2 hc
    refine B_aload_n dX8_takesSaint_20 2 rfl ?_
    refine B_iconst (v := 1) dX8_takesSaint_21 (by decide) ?_
    refine B_aload_n dX8_takesSaint_22 2 rfl ?_
    refine B_getf (T := TX8) (N := 23) (v := .int (M2 49 10)) 49 10 dX8_takesSaint_23 inX8_takesSaint_8 lkX8_takesSaint_f87 (Nat.le_of_ble_eq_true rfl) (Nat.le_of_ble_eq_true rfl) rfl rfl (by decide) rfl ?_
    refine B_callV (st := []) 49 [.int (1 : Int32), .int (M2 49 10)] dX8_takesSaint_26 gX8_takesSaint_X8_fails rfl hyX8_fails (Nat.le_of_ble_eq_true rfl) (Nat.le_of_ble_eq_true rfl) TX8 23 rfl (Nat.le_of_ble_eq_true rfl) (Nat.le_of_ble_eq_true rfl) rfl (Ct.mono h (Nat.le_refl _) (fun r4 M5 h => ?_))
    exact B_zret dX8_takesSaint_29 h.1 h.2
set_option maxHeartbeats 4000000 in
set_option maxRecDepth 100000 in
theorem rX8_takesSaint_61 (d : Nat) (v1 : Int32) (v2 : Int32) (v3 : Int32) (v4 : Int32) (M : Mm) (Q : Int32 → Mm → Prop)
    (h : ((v1 ≤ v4 → kX8_takesNumber d (0 : Int32) (9 : Int32) v3 M (fun (r1 : Int32) (M1 : Mm) => ((¬ r1 = 0 → vp_in ((78 : Int32) + v1) 301 ∧ (∀ M2 : Mm, M2 = (upd2 M1 50 ((78 : Int32) + v1).toNatClampNeg v2) → vp_in ((71 : Int32) + v1) 301 ∧ (∀ M3 : Mm, M3 = (upd2 M2 50 ((71 : Int32) + v1).toNatClampNeg (M2 49 12)) → vp_in (68 : Int32) 301 ∧ vp_in (68 : Int32) 301 ∧ (∀ M4 : Mm, M4 = (upd2 M3 50 (68 : Int32).toNatClampNeg ((M3 50 (68 : Int32).toNatClampNeg) + (1 : Int32))) → kX8_takes d (59 : Int32) M4 (fun (r2 : Int32) (M5 : Mm) => ((r2 = 0 ∨ r2 = 1) ∧ Q r2 M5)))))) ∧ (r1 = 0 → Q (0 : Int32) M1)))) ∧ (¬ v1 ≤ v4 → vp_in ((71 : Int32) + v4) 301 ∧ BX8_takesSaint (d + 1) 61 [(0, .ref 49), (1, .int v1), (2, .int v2), (3, .int (v3 ||| ((ishl (1 : Int32) (M 50 ((71 : Int32) + v4).toNatClampNeg)) &&& (-2 : Int32)))), (4, .int (v4 + (1 : Int32)))] [] M Q))) : BX8_takesSaint (d + 1) 61 [(0, .ref 49), (1, .int v1), (2, .int v2), (3, .int v3), (4, .int v4)] [] M Q := by
  refine B_iload dX8_takesSaint_61 4 rfl ?_
  refine B_iload_n dX8_takesSaint_63 1 rfl ?_
  refine B_icmp_ge (tgt := 91) dX8_takesSaint_64 (by decide) (fun hc => ?_) (fun hc => ?_)
  · have h := h.1 hc
    refine B_aload_n dX8_takesSaint_91 0 rfl ?_
    refine B_iconst (v := 0) dX8_takesSaint_92 (by decide) ?_
    refine B_bipush (v := 9) dX8_takesSaint_93 (by decide) ?_
    refine B_iload_n dX8_takesSaint_95 3 rfl ?_
    refine B_callV (st := []) 49 [.int (0 : Int32), .int (9 : Int32), .int v3] dX8_takesSaint_96 gX8_takesSaint_X8_takesNumber rfl hyX8_takesNumber (Nat.le_of_ble_eq_true rfl) (Nat.le_of_ble_eq_true rfl) TX8 23 rfl (Nat.le_of_ble_eq_true rfl) (Nat.le_of_ble_eq_true rfl) rfl (Ct.mono h (Nat.le_refl _) (fun r1 M1 h => ?_))
    refine B_if_ne (tgt := 104) dX8_takesSaint_99 (by decide) (fun hc => ?_) (fun hc => ?_)
    · have h := h.1 hc
      refine B_aload_n dX8_takesSaint_104 0 rfl ?_
      refine B_getf (T := TX8) (N := 23) (v := .ref 50) 49 0 dX8_takesSaint_105 inX8_takesSaint_8 lkX8_takesSaint_f7 (Nat.le_of_ble_eq_true rfl) (Nat.le_of_ble_eq_true rfl) rfl rfl (by decide) rfl ?_
      refine B_bipush (v := 78) dX8_takesSaint_108 (by decide) ?_
      refine B_iload_n dX8_takesSaint_110 1 rfl ?_
      refine B_iadd dX8_takesSaint_111 ?_
      refine B_iload_n dX8_takesSaint_112 2 rfl ?_
      obtain ⟨hi, h⟩ := h
      refine B_iast (n := 301) 50 dX8_takesSaint_113 (Nat.le_of_ble_eq_true rfl) rfl rfl hi ?_
      have h := h _ rfl
      generalize (upd2 M1 50 ((78 : Int32) + v1).toNatClampNeg v2) = M2 at h ⊢
      refine B_aload_n dX8_takesSaint_114 0 rfl ?_
      refine B_getf (T := TX8) (N := 23) (v := .ref 50) 49 0 dX8_takesSaint_115 inX8_takesSaint_8 lkX8_takesSaint_f7 (Nat.le_of_ble_eq_true rfl) (Nat.le_of_ble_eq_true rfl) rfl rfl (by decide) rfl ?_
      refine B_bipush (v := 71) dX8_takesSaint_118 (by decide) ?_
      refine B_iload_n dX8_takesSaint_120 1 rfl ?_
      refine B_iadd dX8_takesSaint_121 ?_
      refine B_aload_n dX8_takesSaint_122 0 rfl ?_
      refine B_getf (T := TX8) (N := 23) (v := .int (M2 49 12)) 49 12 dX8_takesSaint_123 inX8_takesSaint_8 lkX8_takesSaint_f104 (Nat.le_of_ble_eq_true rfl) (Nat.le_of_ble_eq_true rfl) rfl rfl (by decide) rfl ?_
      obtain ⟨hi, h⟩ := h
      refine B_iast (n := 301) 50 dX8_takesSaint_126 (Nat.le_of_ble_eq_true rfl) rfl rfl hi ?_
      have h := h _ rfl
      generalize (upd2 M2 50 ((71 : Int32) + v1).toNatClampNeg (M2 49 12)) = M3 at h ⊢
      refine B_aload_n dX8_takesSaint_127 0 rfl ?_
      refine B_getf (T := TX8) (N := 23) (v := .ref 50) 49 0 dX8_takesSaint_128 inX8_takesSaint_8 lkX8_takesSaint_f7 (Nat.le_of_ble_eq_true rfl) (Nat.le_of_ble_eq_true rfl) rfl rfl (by decide) rfl ?_
      refine B_bipush (v := 68) dX8_takesSaint_131 (by decide) ?_
      refine B_dup2 dX8_takesSaint_133 rfl rfl ?_
      obtain ⟨hi, h⟩ := h
      refine B_iald (n := 301) 50 dX8_takesSaint_134 (Nat.le_of_ble_eq_true rfl) rfl rfl hi ?_
      refine B_iconst (v := 1) dX8_takesSaint_135 (by decide) ?_
      refine B_iadd dX8_takesSaint_136 ?_
      obtain ⟨hi, h⟩ := h
      refine B_iast (n := 301) 50 dX8_takesSaint_137 (Nat.le_of_ble_eq_true rfl) rfl rfl hi ?_
      have h := h _ rfl
      generalize (upd2 M3 50 (68 : Int32).toNatClampNeg ((M3 50 (68 : Int32).toNatClampNeg) + (1 : Int32))) = M4 at h ⊢
      refine B_aload_n dX8_takesSaint_138 0 rfl ?_
      refine B_bipush (v := 59) dX8_takesSaint_139 (by decide) ?_
      refine B_callV (st := []) 49 [.int (59 : Int32)] dX8_takesSaint_141 gX8_takesSaint_X8_takes rfl hyX8_takes (Nat.le_of_ble_eq_true rfl) (Nat.le_of_ble_eq_true rfl) TX8 23 rfl (Nat.le_of_ble_eq_true rfl) (Nat.le_of_ble_eq_true rfl) rfl (Ct.mono h (Nat.le_refl _) (fun r2 M5 h => ?_))
      exact B_zret dX8_takesSaint_144 h.1 h.2
    · have h := h.2 hc
      refine B_iconst (v := 0) dX8_takesSaint_102 (by decide) ?_
      exact B_zret dX8_takesSaint_103 (Or.inl rfl) h
  · have h := h.2 hc
    refine B_iload_n dX8_takesSaint_67 3 rfl ?_
    refine B_iconst (v := 1) dX8_takesSaint_68 (by decide) ?_
    refine B_aload_n dX8_takesSaint_69 0 rfl ?_
    refine B_getf (T := TX8) (N := 23) (v := .ref 50) 49 0 dX8_takesSaint_70 inX8_takesSaint_8 lkX8_takesSaint_f7 (Nat.le_of_ble_eq_true rfl) (Nat.le_of_ble_eq_true rfl) rfl rfl (by decide) rfl ?_
    refine B_bipush (v := 71) dX8_takesSaint_73 (by decide) ?_
    refine B_iload dX8_takesSaint_75 4 rfl ?_
    refine B_iadd dX8_takesSaint_77 ?_
    obtain ⟨hi, h⟩ := h
    refine B_iald (n := 301) 50 dX8_takesSaint_78 (Nat.le_of_ble_eq_true rfl) rfl rfl hi ?_
    refine B_ishl dX8_takesSaint_79 ?_
    refine B_bipush (v := -2) dX8_takesSaint_80 (by decide) ?_
    refine B_iand dX8_takesSaint_82 ?_
    refine B_ior dX8_takesSaint_83 ?_
    refine B_istore_n (lv1 := [(3, .int (v3 ||| ((ishl (1 : Int32) (M 50 ((71 : Int32) + v4).toNatClampNeg)) &&& (-2 : Int32)))), (0, .ref 49), (1, .int v1), (2, .int v2), (4, .int v4)]) dX8_takesSaint_84 (by decide) rfl ?_
    refine B_iinc (lv1 := [(4, .int (v4 + (1 : Int32))), (3, .int (v3 ||| ((ishl (1 : Int32) (M 50 ((71 : Int32) + v4).toNatClampNeg)) &&& (-2 : Int32)))), (0, .ref 49), (1, .int v1), (2, .int v2)]) (v := (v4 + (1 : Int32))) dX8_takesSaint_85 4 rfl rfl (by decide) rfl ?_
    refine B_goto (tgt := 61) dX8_takesSaint_88 (by decide) ?_
    refine B_weak [2, 3, 4, 1, 0] rfl ?_
    exact h
set_option maxHeartbeats 4000000 in
set_option maxRecDepth 100000 in
theorem rX8_takesAll (d : Nat)  (M : Mm) (Q : Int32 → Mm → Prop)
    (h : kX8_takes d (114 : Int32) M (fun (r1 : Int32) (M1 : Mm) => ((r1 = 0 → Q (0 : Int32) M1) ∧ (¬ r1 = 0 → kX8_takesNumber d (1 : Int32) (9 : Int32) (0 : Int32) M1 (fun (r2 : Int32) (M2 : Mm) => ((¬ r2 = 0 → vp_in (69 : Int32) 301 ∧ (∀ M3 : Mm, M3 = (upd2 M2 50 (69 : Int32).toNatClampNeg (M2 49 12)) → kX8_takes d (59 : Int32) M3 (fun (r3 : Int32) (M4 : Mm) => ((¬ r3 = 0 → BX8_takesAll (d + 1) 44 [(0, .ref 49)] [] M4 Q) ∧ (r3 = 0 → Q (0 : Int32) M4))))) ∧ (r2 = 0 → Q (0 : Int32) M2))))))) : kX8_takesAll (d + 1)  M Q := by
  refine Ct.of (cc := cX8_takesAll) (nL := 1) (by decide) rfl (Nat.le_of_ble_eq_true rfl) ?_
  show BX8_takesAll (d + 1) 0 [(0, .ref 49)] [] M Q
  refine B_aload_n dX8_takesAll_0 0 rfl ?_
  refine B_bipush (v := 114) dX8_takesAll_1 (by decide) ?_
  refine B_callV (st := []) 49 [.int (114 : Int32)] dX8_takesAll_3 gX8_takesAll_X8_takes rfl hyX8_takes (Nat.le_of_ble_eq_true rfl) (Nat.le_of_ble_eq_true rfl) TX8 23 rfl (Nat.le_of_ble_eq_true rfl) (Nat.le_of_ble_eq_true rfl) rfl (Ct.mono h (Nat.le_refl _) (fun r1 M1 h => ?_))
  refine B_if_eq (tgt := 20) dX8_takesAll_6 (by decide) (fun hc => ?_) (fun hc => ?_)
  · have h := h.1 hc
    refine B_iconst (v := 0) dX8_takesAll_20 (by decide) ?_
    exact B_zret dX8_takesAll_21 (Or.inl rfl) h
  · have h := h.2 hc
    refine B_aload_n dX8_takesAll_9 0 rfl ?_
    refine B_iconst (v := 1) dX8_takesAll_10 (by decide) ?_
    refine B_bipush (v := 9) dX8_takesAll_11 (by decide) ?_
    refine B_iconst (v := 0) dX8_takesAll_13 (by decide) ?_
    refine B_callV (st := []) 49 [.int (1 : Int32), .int (9 : Int32), .int (0 : Int32)] dX8_takesAll_14 gX8_takesAll_X8_takesNumber rfl hyX8_takesNumber (Nat.le_of_ble_eq_true rfl) (Nat.le_of_ble_eq_true rfl) TX8 23 rfl (Nat.le_of_ble_eq_true rfl) (Nat.le_of_ble_eq_true rfl) rfl (Ct.mono h (Nat.le_refl _) (fun r2 M2 h => ?_))
    refine B_if_ne (tgt := 22) dX8_takesAll_17 (by decide) (fun hc => ?_) (fun hc => ?_)
    · have h := h.1 hc
      refine B_aload_n dX8_takesAll_22 0 rfl ?_
      refine B_getf (T := TX8) (N := 23) (v := .ref 50) 49 0 dX8_takesAll_23 inX8_takesAll_8 lkX8_takesAll_f7 (Nat.le_of_ble_eq_true rfl) (Nat.le_of_ble_eq_true rfl) rfl rfl (by decide) rfl ?_
      refine B_bipush (v := 69) dX8_takesAll_26 (by decide) ?_
      refine B_aload_n dX8_takesAll_28 0 rfl ?_
      refine B_getf (T := TX8) (N := 23) (v := .int (M2 49 12)) 49 12 dX8_takesAll_29 inX8_takesAll_8 lkX8_takesAll_f104 (Nat.le_of_ble_eq_true rfl) (Nat.le_of_ble_eq_true rfl) rfl rfl (by decide) rfl ?_
      obtain ⟨hi, h⟩ := h
      refine B_iast (n := 301) 50 dX8_takesAll_32 (Nat.le_of_ble_eq_true rfl) rfl rfl hi ?_
      have h := h _ rfl
      generalize (upd2 M2 50 (69 : Int32).toNatClampNeg (M2 49 12)) = M3 at h ⊢
      refine B_aload_n dX8_takesAll_33 0 rfl ?_
      refine B_bipush (v := 59) dX8_takesAll_34 (by decide) ?_
      refine B_callV (st := []) 49 [.int (59 : Int32)] dX8_takesAll_36 gX8_takesAll_X8_takes rfl hyX8_takes (Nat.le_of_ble_eq_true rfl) (Nat.le_of_ble_eq_true rfl) TX8 23 rfl (Nat.le_of_ble_eq_true rfl) (Nat.le_of_ble_eq_true rfl) rfl (Ct.mono h (Nat.le_refl _) (fun r3 M4 h => ?_))
      refine B_if_ne (tgt := 44) dX8_takesAll_39 (by decide) (fun hc => ?_) (fun hc => ?_)
      · have h := h.1 hc
        refine B_weak [0] rfl ?_
        exact h
      · have h := h.2 hc
        refine B_iconst (v := 0) dX8_takesAll_42 (by decide) ?_
        exact B_zret dX8_takesAll_43 (Or.inl rfl) h
    · have h := h.2 hc
      refine B_iconst (v := 0) dX8_takesAll_20 (by decide) ?_
      exact B_zret dX8_takesAll_21 (Or.inl rfl) h
set_option maxHeartbeats 4000000 in
set_option maxRecDepth 100000 in
theorem rX8_takesAll_44 (d : Nat)  (M : Mm) (Q : Int32 → Mm → Prop)
    (h : vp_in (68 : Int32) 301 ∧ (((M 50 (68 : Int32).toNatClampNeg) < (2 : Int32) → BX8_takesAll (d + 1) 66 [(0, .ref 49)] [] M Q) ∧ (¬ (M 50 (68 : Int32).toNatClampNeg) < (2 : Int32) → (((M 49 3) ≤ (M 49 10) → Q (1 : Int32) M) ∧ (¬ (M 49 3) ≤ (M 49 10) → BX8_takesAll (d + 1) 66 [(0, .ref 49)] [] M Q))))) : BX8_takesAll (d + 1) 44 [(0, .ref 49)] [] M Q := by
  refine B_aload_n dX8_takesAll_44 0 rfl ?_
  refine B_getf (T := TX8) (N := 23) (v := .ref 50) 49 0 dX8_takesAll_45 inX8_takesAll_8 lkX8_takesAll_f7 (Nat.le_of_ble_eq_true rfl) (Nat.le_of_ble_eq_true rfl) rfl rfl (by decide) rfl ?_
  refine B_bipush (v := 68) dX8_takesAll_48 (by decide) ?_
  obtain ⟨hi, h⟩ := h
  refine B_iald (n := 301) 50 dX8_takesAll_50 (Nat.le_of_ble_eq_true rfl) rfl rfl hi ?_
  refine B_iconst (v := 2) dX8_takesAll_51 (by decide) ?_
  refine B_icmp_lt (tgt := 66) dX8_takesAll_52 (by decide) (fun hc => ?_) (fun hc => ?_)
  · have h := h.1 hc
    refine B_weak [0] rfl ?_
    exact h
  · have h := h.2 hc
    refine B_aload_n dX8_takesAll_55 0 rfl ?_
    refine B_getf (T := TX8) (N := 23) (v := .int (M 49 10)) 49 10 dX8_takesAll_56 inX8_takesAll_8 lkX8_takesAll_f87 (Nat.le_of_ble_eq_true rfl) (Nat.le_of_ble_eq_true rfl) rfl rfl (by decide) rfl ?_
    refine B_aload_n dX8_takesAll_59 0 rfl ?_
    refine B_getf (T := TX8) (N := 23) (v := .int (M 49 3)) 49 3 dX8_takesAll_60 inX8_takesAll_8 lkX8_takesAll_f83 (Nat.le_of_ble_eq_true rfl) (Nat.le_of_ble_eq_true rfl) rfl rfl (by decide) rfl ?_
    refine B_icmp_ge (tgt := 75) dX8_takesAll_63 (by decide) (fun hc => ?_) (fun hc => ?_)
    · have h := h.1 hc
      refine B_iconst (v := 1) dX8_takesAll_75 (by decide) ?_
      exact B_zret dX8_takesAll_76 (Or.inr rfl) h
    · have h := h.2 hc
      refine B_weak [0] rfl ?_
      exact h
set_option maxHeartbeats 4000000 in
set_option maxRecDepth 100000 in
theorem rX8_takesAll_66 (d : Nat)  (M : Mm) (Q : Int32 → Mm → Prop)
    (h : kX8_takesSaint d  M (fun (r1 : Int32) (M1 : Mm) => ((¬ r1 = 0 → BX8_takesAll (d + 1) 44 [(0, .ref 49)] [] M1 Q) ∧ (r1 = 0 → Q (0 : Int32) M1)))) : BX8_takesAll (d + 1) 66 [(0, .ref 49)] [] M Q := by
  refine B_aload_n dX8_takesAll_66 0 rfl ?_
  refine B_callV (st := []) 49 [] dX8_takesAll_67 gX8_takesAll_X8_takesSaint rfl hyX8_takesSaint (Nat.le_of_ble_eq_true rfl) (Nat.le_of_ble_eq_true rfl) TX8 23 rfl (Nat.le_of_ble_eq_true rfl) (Nat.le_of_ble_eq_true rfl) rfl (Ct.mono h (Nat.le_refl _) (fun r1 M1 h => ?_))
  refine B_if_ne (tgt := 44) dX8_takesAll_70 (by decide) (fun hc => ?_) (fun hc => ?_)
  · have h := h.1 hc
    refine B_weak [0] rfl ?_
    exact h
  · have h := h.2 hc
    refine B_iconst (v := 0) dX8_takesAll_73 (by decide) ?_
    exact B_zret dX8_takesAll_74 (Or.inl rfl) h
set_option maxHeartbeats 4000000 in
set_option maxRecDepth 100000 in
theorem rX8_saints (d : Nat)  (M : Mm) (Q : Int32 → Mm → Prop)
    (h : BX8_saints (d + 1) 2 [(0, .ref 49), (1, .int (0 : Int32))] [] M Q) : kX8_saints (d + 1)  M Q := by
  refine Ct.of (cc := cX8_saints) (nL := 2) (by decide) rfl (Nat.le_of_ble_eq_true rfl) ?_
  show BX8_saints (d + 1) 0 [(0, .ref 49)] [] M Q
  refine B_iconst (v := 0) dX8_saints_0 (by decide) ?_
  refine B_istore_n (lv1 := [(1, .int (0 : Int32)), (0, .ref 49)]) dX8_saints_1 (by decide) rfl ?_
  refine B_weak [1, 0] rfl ?_
  exact h
set_option maxHeartbeats 4000000 in
set_option maxRecDepth 100000 in
theorem rX8_saints_2 (d : Nat) (v1 : Int32) (M : Mm) (Q : Int32 → Mm → Prop)
    (h : (((17 : Int32) ≤ v1 → (∀ M1 : Mm, M1 = (upd2 M 49 10 (0 : Int32)) → kX8_takesAll d  M1 (fun (r1 : Int32) (M2 : Mm) => (∀ M3 : Mm, M3 = (upd2 M2 49 3 (0 : Int32)) → ((¬ r1 = 0 → kX8_copyOf d (68 : Int32) (0 : Int32) (17 : Int32) M3 (fun (_r2 : Int32) (M4 : Mm) => (∀ M5 : Mm, M5 = (upd2 M4 49 1 (0 : Int32)) → vp_in (0 : Int32) 301 ∧ Q (M5 50 (0 : Int32).toNatClampNeg) M5))) ∧ (r1 = 0 → Q ((-1000100 : Int32) - (M3 49 11)) M3)))))) ∧ (¬ (17 : Int32) ≤ v1 → vp_in ((68 : Int32) + v1) 301 ∧ (∀ M6 : Mm, M6 = (upd2 M 50 ((68 : Int32) + v1).toNatClampNeg (0 : Int32)) → BX8_saints (d + 1) 2 [(0, .ref 49), (1, .int (v1 + (1 : Int32)))] [] M6 Q)))) : BX8_saints (d + 1) 2 [(0, .ref 49), (1, .int v1)] [] M Q := by
  refine B_iload_n dX8_saints_2 1 rfl ?_
  refine B_bipush (v := 17) dX8_saints_3 (by decide) ?_
  refine B_icmp_ge (tgt := 24) dX8_saints_5 (by decide) (fun hc => ?_) (fun hc => ?_)
  · have h := h.1 hc
    refine B_aload_n dX8_saints_24 0 rfl ?_
    refine B_iconst (v := 0) dX8_saints_25 (by decide) ?_
    refine B_putf (T := TX8) (N := 23) 49 10 tyX8 tyX8_ok nmX8 dX8_saints_26 inX8_saints_8 lkX8_saints_f87 (Nat.le_of_ble_eq_true rfl) (Nat.le_of_ble_eq_true rfl) rfl rfl (by decide) rfl rfl (by decide +kernel) ?_
    have h := h _ rfl
    generalize (upd2 M 49 10 (0 : Int32)) = M1 at h ⊢
    refine B_aload_n dX8_saints_29 0 rfl ?_
    refine B_callV (st := []) 49 [] dX8_saints_30 gX8_saints_X8_takesAll rfl hyX8_takesAll (Nat.le_of_ble_eq_true rfl) (Nat.le_of_ble_eq_true rfl) TX8 23 rfl (Nat.le_of_ble_eq_true rfl) (Nat.le_of_ble_eq_true rfl) rfl (Ct.mono h (Nat.le_refl _) (fun r1 M2 h => ?_))
    refine B_istore_n (lv1 := [(1, .int r1), (0, .ref 49)]) dX8_saints_33 (by decide) rfl ?_
    refine B_aload_n dX8_saints_34 1 rfl ?_
    refine B_iconst (v := 0) dX8_saints_35 (by decide) ?_
    refine B_putf (T := TX8) (N := 23) 49 3 tyX8 tyX8_ok nmX8 dX8_saints_36 inX8_saints_8 lkX8_saints_f83 (Nat.le_of_ble_eq_true rfl) (Nat.le_of_ble_eq_true rfl) rfl rfl (by decide) rfl rfl (by decide +kernel) ?_
    have h := h _ rfl
    generalize (upd2 M2 49 3 (0 : Int32)) = M3 at h ⊢
    refine B_iload_n dX8_saints_39 0 rfl ?_
    refine B_if_ne (tgt := 51) dX8_saints_40 (by decide) (fun hc => ?_) (fun hc => ?_)
    · have h := h.1 hc
      refine B_aload_n dX8_saints_51 1 rfl ?_
      refine B_bipush (v := 68) dX8_saints_52 (by decide) ?_
      refine B_iconst (v := 0) dX8_saints_54 (by decide) ?_
      refine B_bipush (v := 17) dX8_saints_55 (by decide) ?_
      refine B_callV (st := []) 49 [.int (68 : Int32), .int (0 : Int32), .int (17 : Int32)] dX8_saints_57 gX8_saints_X8_copyOf rfl hyX8_copyOf (Nat.le_of_ble_eq_true rfl) (Nat.le_of_ble_eq_true rfl) TX8 23 rfl (Nat.le_of_ble_eq_true rfl) (Nat.le_of_ble_eq_true rfl) rfl (Ct.mono h (Nat.le_refl _) (fun _r2 M4 h => ?_))
      refine B_aload_n dX8_saints_60 1 rfl ?_
      refine B_iconst (v := 0) dX8_saints_61 (by decide) ?_
      refine B_putf (T := TX8) (N := 23) 49 1 tyX8 tyX8_ok nmX8 dX8_saints_62 inX8_saints_8 lkX8_saints_f136 (Nat.le_of_ble_eq_true rfl) (Nat.le_of_ble_eq_true rfl) rfl rfl (by decide) rfl rfl (by decide +kernel) ?_
      have h := h _ rfl
      generalize (upd2 M4 49 1 (0 : Int32)) = M5 at h ⊢
      refine B_aload_n dX8_saints_65 1 rfl ?_
      refine B_getf (T := TX8) (N := 23) (v := .ref 50) 49 0 dX8_saints_66 inX8_saints_8 lkX8_saints_f7 (Nat.le_of_ble_eq_true rfl) (Nat.le_of_ble_eq_true rfl) rfl rfl (by decide) rfl ?_
      refine B_iconst (v := 0) dX8_saints_69 (by decide) ?_
      obtain ⟨hi, h⟩ := h
      refine B_iald (n := 301) 50 dX8_saints_70 (Nat.le_of_ble_eq_true rfl) rfl rfl hi ?_
      exact B_iret dX8_saints_71 h
    · have h := h.2 hc
      refine B_ldc (v := -1000100) dX8_saints_43 lkX8_saints_c131 ?_
      refine B_aload_n dX8_saints_45 1 rfl ?_
      refine B_getf (T := TX8) (N := 23) (v := .int (M3 49 11)) 49 11 dX8_saints_46 inX8_saints_8 lkX8_saints_f93 (Nat.le_of_ble_eq_true rfl) (Nat.le_of_ble_eq_true rfl) rfl rfl (by decide) rfl ?_
      refine B_isub dX8_saints_49 ?_
      exact B_iret dX8_saints_50 h
  · have h := h.2 hc
    refine B_aload_n dX8_saints_8 0 rfl ?_
    refine B_getf (T := TX8) (N := 23) (v := .ref 50) 49 0 dX8_saints_9 inX8_saints_8 lkX8_saints_f7 (Nat.le_of_ble_eq_true rfl) (Nat.le_of_ble_eq_true rfl) rfl rfl (by decide) rfl ?_
    refine B_bipush (v := 68) dX8_saints_12 (by decide) ?_
    refine B_iload_n dX8_saints_14 1 rfl ?_
    refine B_iadd dX8_saints_15 ?_
    refine B_iconst (v := 0) dX8_saints_16 (by decide) ?_
    obtain ⟨hi, h⟩ := h
    refine B_iast (n := 301) 50 dX8_saints_17 (Nat.le_of_ble_eq_true rfl) rfl rfl hi ?_
    have h := h _ rfl
    generalize (upd2 M 50 ((68 : Int32) + v1).toNatClampNeg (0 : Int32)) = M6 at h ⊢
    refine B_iinc (lv1 := [(1, .int (v1 + (1 : Int32))), (0, .ref 49)]) (v := (v1 + (1 : Int32))) dX8_saints_18 1 rfl rfl (by decide) rfl ?_
    refine B_goto (tgt := 2) dX8_saints_21 (by decide) ?_
    refine B_weak [1, 0] rfl ?_
    exact h
set_option maxHeartbeats 4000000 in
set_option maxRecDepth 100000 in
theorem rX8_fault (d : Nat)  (M : Mm) (Q : Int32 → Mm → Prop)
    (h : Q (M 49 4) M) : kX8_fault d  M Q := by
  refine Ct.of (cc := cX8_fault) (nL := 1) (by decide) rfl (Nat.le_of_ble_eq_true rfl) ?_
  show BX8_fault d 0 [(0, .ref 49)] [] M Q
  refine B_aload_n dX8_fault_0 0 rfl ?_
  refine B_getf (T := TX8) (N := 23) (v := .int (M 49 4)) 49 4 dX8_fault_1 inX8_fault_8 lkX8_fault_f90 (Nat.le_of_ble_eq_true rfl) (Nat.le_of_ble_eq_true rfl) rfl rfl (by decide) rfl ?_
  exact B_iret dX8_fault_4 h
set_option maxHeartbeats 4000000 in
set_option maxRecDepth 100000 in
theorem rX8_lets (d : Nat) (v1 : Int32) (v2 : Int32) (M : Mm) (Q : Int32 → Mm → Prop)
    (h : vp_in ((v1 + (10 : Int32)) + v2) 301 ∧ (((M 50 ((v1 + (10 : Int32)) + v2).toNatClampNeg) < (4 : Int32) → Q (1 : Int32) M) ∧ (¬ (M 50 ((v1 + (10 : Int32)) + v2).toNatClampNeg) < (4 : Int32) → vp_in ((v1 + (3 : Int32)) + v2) 301 ∧ ((¬ (M 50 ((v1 + (3 : Int32)) + v2).toNatClampNeg) = 0 → Q (0 : Int32) M) ∧ ((M 50 ((v1 + (3 : Int32)) + v2).toNatClampNeg) = 0 → Q (1 : Int32) M))))) : kX8_lets d v1 v2 M Q := by
  refine Ct.of (cc := cX8_lets) (nL := 3) (by decide) rfl (Nat.le_of_ble_eq_true rfl) ?_
  show BX8_lets d 0 [(0, .ref 49), (1, .int v1), (2, .int v2)] [] M Q
  refine B_aload_n dX8_lets_0 0 rfl ?_
  refine B_getf (T := TX8) (N := 23) (v := .ref 50) 49 0 dX8_lets_1 inX8_lets_8 lkX8_lets_f7 (Nat.le_of_ble_eq_true rfl) (Nat.le_of_ble_eq_true rfl) rfl rfl (by decide) rfl ?_
  refine B_iload_n dX8_lets_4 1 rfl ?_
  refine B_bipush (v := 10) dX8_lets_5 (by decide) ?_
  refine B_iadd dX8_lets_7 ?_
  refine B_iload_n dX8_lets_8 2 rfl ?_
  refine B_iadd dX8_lets_9 ?_
  obtain ⟨hi, h⟩ := h
  refine B_iald (n := 301) 50 dX8_lets_10 (Nat.le_of_ble_eq_true rfl) rfl rfl hi ?_
  refine B_iconst (v := 4) dX8_lets_11 (by decide) ?_
  refine B_icmp_lt (tgt := 28) dX8_lets_12 (by decide) (fun hc => ?_) (fun hc => ?_)
  · have h := h.1 hc
    refine B_iconst (v := 1) dX8_lets_28 (by decide) ?_
    refine B_goto (tgt := 33) dX8_lets_29 (by decide) ?_
    exact B_zret dX8_lets_33 (Or.inr rfl) h
  · have h := h.2 hc
    refine B_aload_n dX8_lets_15 0 rfl ?_
    refine B_getf (T := TX8) (N := 23) (v := .ref 50) 49 0 dX8_lets_16 inX8_lets_8 lkX8_lets_f7 (Nat.le_of_ble_eq_true rfl) (Nat.le_of_ble_eq_true rfl) rfl rfl (by decide) rfl ?_
    refine B_iload_n dX8_lets_19 1 rfl ?_
    refine B_iconst (v := 3) dX8_lets_20 (by decide) ?_
    refine B_iadd dX8_lets_21 ?_
    refine B_iload_n dX8_lets_22 2 rfl ?_
    refine B_iadd dX8_lets_23 ?_
    obtain ⟨hi, h⟩ := h
    refine B_iald (n := 301) 50 dX8_lets_24 (Nat.le_of_ble_eq_true rfl) rfl rfl hi ?_
    refine B_if_ne (tgt := 32) dX8_lets_25 (by decide) (fun hc => ?_) (fun hc => ?_)
    · have h := h.1 hc
      refine B_iconst (v := 0) dX8_lets_32 (by decide) ?_
      exact B_zret dX8_lets_33 (Or.inl rfl) h
    · have h := h.2 hc
      refine B_iconst (v := 1) dX8_lets_28 (by decide) ?_
      refine B_goto (tgt := 33) dX8_lets_29 (by decide) ?_
      exact B_zret dX8_lets_33 (Or.inr rfl) h
set_option maxHeartbeats 4000000 in
set_option maxRecDepth 100000 in
theorem rX8_changes (d : Nat) (v1 : Int32) (v2 : Int32) (v3 : Int32) (M : Mm) (Q : Int32 → Mm → Prop)
    (h : vp_in ((v1 + (3 : Int32)) + v2) 301 ∧ vp_in ((v1 + (3 : Int32)) + v3) 301 ∧ vp_in ((v1 + (3 : Int32)) + v2) 301 ∧ (∀ M1 : Mm, M1 = (upd2 M 50 ((v1 + (3 : Int32)) + v2).toNatClampNeg (M 50 ((v1 + (3 : Int32)) + v3).toNatClampNeg)) → vp_in ((v1 + (3 : Int32)) + v3) 301 ∧ (∀ M2 : Mm, M2 = (upd2 M1 50 ((v1 + (3 : Int32)) + v3).toNatClampNeg (M 50 ((v1 + (3 : Int32)) + v2).toNatClampNeg)) → Q 0 M2))) : kX8_changes d v1 v2 v3 M Q := by
  refine Ct.of (cc := cX8_changes) (nL := 5) (by decide) rfl (Nat.le_of_ble_eq_true rfl) ?_
  show BX8_changes d 0 [(0, .ref 49), (1, .int v1), (2, .int v2), (3, .int v3)] [] M Q
  refine B_aload_n dX8_changes_0 0 rfl ?_
  refine B_getf (T := TX8) (N := 23) (v := .ref 50) 49 0 dX8_changes_1 inX8_changes_8 lkX8_changes_f7 (Nat.le_of_ble_eq_true rfl) (Nat.le_of_ble_eq_true rfl) rfl rfl (by decide) rfl ?_
  refine B_iload_n dX8_changes_4 1 rfl ?_
  refine B_iconst (v := 3) dX8_changes_5 (by decide) ?_
  refine B_iadd dX8_changes_6 ?_
  refine B_iload_n dX8_changes_7 2 rfl ?_
  refine B_iadd dX8_changes_8 ?_
  obtain ⟨hi, h⟩ := h
  refine B_iald (n := 301) 50 dX8_changes_9 (Nat.le_of_ble_eq_true rfl) rfl rfl hi ?_
  refine B_istore (lv1 := [(4, .int (M 50 ((v1 + (3 : Int32)) + v2).toNatClampNeg)), (0, .ref 49), (1, .int v1), (2, .int v2), (3, .int v3)]) dX8_changes_10 (by decide) rfl ?_
  refine B_aload_n dX8_changes_12 1 rfl ?_
  refine B_getf (T := TX8) (N := 23) (v := .ref 50) 49 0 dX8_changes_13 inX8_changes_8 lkX8_changes_f7 (Nat.le_of_ble_eq_true rfl) (Nat.le_of_ble_eq_true rfl) rfl rfl (by decide) rfl ?_
  refine B_iload_n dX8_changes_16 2 rfl ?_
  refine B_iconst (v := 3) dX8_changes_17 (by decide) ?_
  refine B_iadd dX8_changes_18 ?_
  refine B_iload_n dX8_changes_19 3 rfl ?_
  refine B_iadd dX8_changes_20 ?_
  refine B_aload_n dX8_changes_21 1 rfl ?_
  refine B_getf (T := TX8) (N := 23) (v := .ref 50) 49 0 dX8_changes_22 inX8_changes_8 lkX8_changes_f7 (Nat.le_of_ble_eq_true rfl) (Nat.le_of_ble_eq_true rfl) rfl rfl (by decide) rfl ?_
  refine B_iload_n dX8_changes_25 2 rfl ?_
  refine B_iconst (v := 3) dX8_changes_26 (by decide) ?_
  refine B_iadd dX8_changes_27 ?_
  refine B_iload_n dX8_changes_28 4 rfl ?_
  refine B_iadd dX8_changes_29 ?_
  obtain ⟨hi, h⟩ := h
  refine B_iald (n := 301) 50 dX8_changes_30 (Nat.le_of_ble_eq_true rfl) rfl rfl hi ?_
  obtain ⟨hi, h⟩ := h
  refine B_iast (n := 301) 50 dX8_changes_31 (Nat.le_of_ble_eq_true rfl) rfl rfl hi ?_
  have h := h _ rfl
  generalize (upd2 M 50 ((v1 + (3 : Int32)) + v2).toNatClampNeg (M 50 ((v1 + (3 : Int32)) + v3).toNatClampNeg)) = M1 at h ⊢
  refine B_aload_n dX8_changes_32 1 rfl ?_
  refine B_getf (T := TX8) (N := 23) (v := .ref 50) 49 0 dX8_changes_33 inX8_changes_8 lkX8_changes_f7 (Nat.le_of_ble_eq_true rfl) (Nat.le_of_ble_eq_true rfl) rfl rfl (by decide) rfl ?_
  refine B_iload_n dX8_changes_36 2 rfl ?_
  refine B_iconst (v := 3) dX8_changes_37 (by decide) ?_
  refine B_iadd dX8_changes_38 ?_
  refine B_iload_n dX8_changes_39 4 rfl ?_
  refine B_iadd dX8_changes_40 ?_
  refine B_iload dX8_changes_41 0 rfl ?_
  obtain ⟨hi, h⟩ := h
  refine B_iast (n := 301) 50 dX8_changes_43 (Nat.le_of_ble_eq_true rfl) rfl rfl hi ?_
  have h := h _ rfl
  generalize (upd2 M1 50 ((v1 + (3 : Int32)) + v3).toNatClampNeg (M 50 ((v1 + (3 : Int32)) + v2).toNatClampNeg)) = M2 at h ⊢
  exact B_vret dX8_changes_44 h
set_option maxHeartbeats 4000000 in
set_option maxRecDepth 100000 in
theorem rX8_turns (d : Nat) (v1 : Int32) (v2 : Int32) (M : Mm) (Q : Int32 → Mm → Prop)
    (h : vp_in (v1 + (0 : Int32)) 301 ∧ ((¬ v2 = ((M 50 (v1 + (0 : Int32)).toNatClampNeg) - (1 : Int32)) → BX8_turns (d + 1) 23 [(0, .ref 49), (1, .int v1), (2, .int v2), (3, .int (M 50 (v1 + (0 : Int32)).toNatClampNeg))] [.int (v2 + (1 : Int32))] M Q) ∧ (v2 = ((M 50 (v1 + (0 : Int32)).toNatClampNeg) - (1 : Int32)) → BX8_turns (d + 1) 23 [(0, .ref 49), (1, .int v1), (2, .int v2), (3, .int (M 50 (v1 + (0 : Int32)).toNatClampNeg))] [.int (0 : Int32)] M Q))) : kX8_turns (d + 1) v1 v2 M Q := by
  refine Ct.of (cc := cX8_turns) (nL := 6) (by decide) rfl (Nat.le_of_ble_eq_true rfl) ?_
  show BX8_turns (d + 1) 0 [(0, .ref 49), (1, .int v1), (2, .int v2)] [] M Q
  refine B_aload_n dX8_turns_0 0 rfl ?_
  refine B_getf (T := TX8) (N := 23) (v := .ref 50) 49 0 dX8_turns_1 inX8_turns_8 lkX8_turns_f7 (Nat.le_of_ble_eq_true rfl) (Nat.le_of_ble_eq_true rfl) rfl rfl (by decide) rfl ?_
  refine B_iload_n dX8_turns_4 1 rfl ?_
  refine B_iconst (v := 0) dX8_turns_5 (by decide) ?_
  refine B_iadd dX8_turns_6 ?_
  obtain ⟨hi, h⟩ := h
  refine B_iald (n := 301) 50 dX8_turns_7 (Nat.le_of_ble_eq_true rfl) rfl rfl hi ?_
  refine B_istore_n (lv1 := [(3, .int (M 50 (v1 + (0 : Int32)).toNatClampNeg)), (0, .ref 49), (1, .int v1), (2, .int v2)]) dX8_turns_8 (by decide) rfl ?_
  refine B_iload_n dX8_turns_9 3 rfl ?_
  refine B_iload_n dX8_turns_10 0 rfl ?_
  refine B_iconst (v := 1) dX8_turns_11 (by decide) ?_
  refine B_isub dX8_turns_12 ?_
  refine B_icmp_ne (tgt := 20) dX8_turns_13 (by decide) (fun hc => ?_) (fun hc => ?_)
  · have h := h.1 hc
    refine B_iload_n dX8_turns_20 3 rfl ?_
    refine B_iconst (v := 1) dX8_turns_21 (by decide) ?_
    refine B_iadd dX8_turns_22 ?_
    refine B_weak [1, 2, 3, 0] rfl ?_
    exact h
  · have h := h.2 hc
    refine B_iconst (v := 0) dX8_turns_16 (by decide) ?_
    refine B_goto (tgt := 23) dX8_turns_17 (by decide) ?_
    refine B_weak [1, 2, 3, 0] rfl ?_
    exact h
set_option maxHeartbeats 4000000 in
set_option maxRecDepth 100000 in
theorem rX8_turns_23 (d : Nat) (v1 : Int32) (v2 : Int32) (v3 : Int32) (x0 : Int32) (M : Mm) (Q : Int32 → Mm → Prop)
    (h : ((¬ v2 = 0 → BX8_turns (d + 1) 38 [(0, .ref 49), (1, .int v1), (2, .int v2), (4, .int x0)] [.int (v2 - (1 : Int32))] M Q) ∧ (v2 = 0 → BX8_turns (d + 1) 38 [(0, .ref 49), (1, .int v1), (2, .int v2), (4, .int x0)] [.int (v3 - (1 : Int32))] M Q))) : BX8_turns (d + 1) 23 [(0, .ref 49), (1, .int v1), (2, .int v2), (3, .int v3)] [.int x0] M Q := by
  refine B_istore (lv1 := [(4, .int x0), (0, .ref 49), (1, .int v1), (2, .int v2), (3, .int v3)]) dX8_turns_23 (by decide) rfl ?_
  refine B_iload_n dX8_turns_25 3 rfl ?_
  refine B_if_ne (tgt := 35) dX8_turns_26 (by decide) (fun hc => ?_) (fun hc => ?_)
  · have h := h.1 hc
    refine B_iload_n dX8_turns_35 3 rfl ?_
    refine B_iconst (v := 1) dX8_turns_36 (by decide) ?_
    refine B_isub dX8_turns_37 ?_
    refine B_weak [1, 2, 3, 0] rfl ?_
    exact h
  · have h := h.2 hc
    refine B_iload_n dX8_turns_29 4 rfl ?_
    refine B_iconst (v := 1) dX8_turns_30 (by decide) ?_
    refine B_isub dX8_turns_31 ?_
    refine B_goto (tgt := 38) dX8_turns_32 (by decide) ?_
    refine B_weak [1, 2, 3, 0] rfl ?_
    exact h
set_option maxHeartbeats 4000000 in
set_option maxRecDepth 100000 in
theorem rX8_turns_38 (d : Nat) (v1 : Int32) (v2 : Int32) (v4 : Int32) (x0 : Int32) (M : Mm) (Q : Int32 → Mm → Prop)
    (h : vp_in ((v1 + (10 : Int32)) + v2) 301 ∧ (((M 50 ((v1 + (10 : Int32)) + v2).toNatClampNeg) = 1 → kX8_lets d v1 v4 M (fun (r1 : Int32) (M1 : Mm) => ((r1 = 0 → Q 0 M1) ∧ (¬ r1 = 0 → kX8_changes d v1 v2 v4 M1 (fun (_r2 : Int32) (M2 : Mm) => Q 0 M2))))) ∧ ((M 50 ((v1 + (10 : Int32)) + v2).toNatClampNeg) = 2 → kX8_lets d v1 v4 M (fun (r3 : Int32) (M3 : Mm) => ((r3 = 0 → Q 0 M3) ∧ (¬ r3 = 0 → vp_in ((v1 + (3 : Int32)) + v2) 301 ∧ vp_in ((v1 + (3 : Int32)) + v4) 301 ∧ (((M3 50 ((v1 + (3 : Int32)) + v2).toNatClampNeg) ≤ (M3 50 ((v1 + (3 : Int32)) + v4).toNatClampNeg) → Q 0 M3) ∧ (¬ (M3 50 ((v1 + (3 : Int32)) + v2).toNatClampNeg) ≤ (M3 50 ((v1 + (3 : Int32)) + v4).toNatClampNeg) → kX8_changes d v1 v2 v4 M3 (fun (_r4 : Int32) (M4 : Mm) => Q 0 M4))))))) ∧ ((M 50 ((v1 + (10 : Int32)) + v2).toNatClampNeg) = 3 → kX8_lets d v1 v4 M (fun (r5 : Int32) (M5 : Mm) => ((r5 = 0 → Q 0 M5) ∧ (¬ r5 = 0 → vp_in (v1 + (2 : Int32)) 301 ∧ ((¬ (irem (M5 50 (v1 + (2 : Int32)).toNatClampNeg) (2 : Int32)) = 0 → Q 0 M5) ∧ ((irem (M5 50 (v1 + (2 : Int32)).toNatClampNeg) (2 : Int32)) = 0 → kX8_changes d v1 v2 v4 M5 (fun (_r6 : Int32) (M6 : Mm) => Q 0 M6))))))) ∧ ((M 50 ((v1 + (10 : Int32)) + v2).toNatClampNeg) = 5 → vp_in ((v1 + (3 : Int32)) + v2) 301 ∧ ((¬ (M 50 ((v1 + (3 : Int32)) + v2).toNatClampNeg) = 0 → Q 0 M) ∧ ((M 50 ((v1 + (3 : Int32)) + v2).toNatClampNeg) = 0 → kX8_lets d v1 x0 M (fun (r7 : Int32) (M7 : Mm) => ((r7 = 0 → Q 0 M7) ∧ (¬ r7 = 0 → kX8_changes d v1 v2 x0 M7 (fun (_r8 : Int32) (M8 : Mm) => Q 0 M8))))))) ∧ (¬ (M 50 ((v1 + (10 : Int32)) + v2).toNatClampNeg) = 1 ∧ ¬ (M 50 ((v1 + (10 : Int32)) + v2).toNatClampNeg) = 2 ∧ ¬ (M 50 ((v1 + (10 : Int32)) + v2).toNatClampNeg) = 3 ∧ ¬ (M 50 ((v1 + (10 : Int32)) + v2).toNatClampNeg) = 5 → Q 0 M))) : BX8_turns (d + 1) 38 [(0, .ref 49), (1, .int v1), (2, .int v2), (4, .int v4)] [.int x0] M Q := by
  refine B_istore (lv1 := [(5, .int x0), (0, .ref 49), (1, .int v1), (2, .int v2), (4, .int v4)]) dX8_turns_38 (by decide) rfl ?_
  refine B_aload_n dX8_turns_40 1 rfl ?_
  refine B_getf (T := TX8) (N := 23) (v := .ref 50) 49 0 dX8_turns_41 inX8_turns_8 lkX8_turns_f7 (Nat.le_of_ble_eq_true rfl) (Nat.le_of_ble_eq_true rfl) rfl rfl (by decide) rfl ?_
  refine B_iload_n dX8_turns_44 2 rfl ?_
  refine B_bipush (v := 10) dX8_turns_45 (by decide) ?_
  refine B_iadd dX8_turns_47 ?_
  refine B_iload_n dX8_turns_48 3 rfl ?_
  refine B_iadd dX8_turns_49 ?_
  obtain ⟨hi, h⟩ := h
  refine B_iald (n := 301) 50 dX8_turns_50 (Nat.le_of_ble_eq_true rfl) rfl rfl hi ?_
  by_cases hc0 : (M 50 ((v1 + (10 : Int32)) + v2).toNatClampNeg) = 1
  · have h := h.1 hc0
    refine B_tabIn (tgt := 84) dX8_turns_51 (by rw [hc0]; decide) (by rw [hc0]; decide) (by rw [hc0]; rfl) (by decide) ?_
    refine B_aload_n dX8_turns_84 1 rfl ?_
    refine B_iload_n dX8_turns_85 2 rfl ?_
    refine B_iload dX8_turns_86 4 rfl ?_
    refine B_callV (st := []) 49 [.int v1, .int v4] dX8_turns_88 gX8_turns_X8_lets rfl hyX8_lets (Nat.le_of_ble_eq_true rfl) (Nat.le_of_ble_eq_true rfl) TX8 23 rfl (Nat.le_of_ble_eq_true rfl) (Nat.le_of_ble_eq_true rfl) rfl (Ct.mono h (Nat.le_refl _) (fun r1 M1 h => ?_))
    refine B_if_eq (tgt := 218) dX8_turns_91 (by decide) (fun hc => ?_) (fun hc => ?_)
    · have h := h.1 hc
      exact B_vret dX8_turns_218 h
    · have h := h.2 hc
      refine B_aload_n dX8_turns_94 1 rfl ?_
      refine B_iload_n dX8_turns_95 2 rfl ?_
      refine B_iload_n dX8_turns_96 3 rfl ?_
      refine B_iload dX8_turns_97 4 rfl ?_
      refine B_callV (st := []) 49 [.int v1, .int v2, .int v4] dX8_turns_99 gX8_turns_X8_changes rfl hyX8_changes (Nat.le_of_ble_eq_true rfl) (Nat.le_of_ble_eq_true rfl) TX8 23 rfl (Nat.le_of_ble_eq_true rfl) (Nat.le_of_ble_eq_true rfl) rfl (Ct.mono h (Nat.le_refl _) (fun _r2 M2 h => ?_))
      refine B_goto (tgt := 218) dX8_turns_102 (by decide) ?_
      exact B_vret dX8_turns_218 h
  ·
    by_cases hc1 : (M 50 ((v1 + (10 : Int32)) + v2).toNatClampNeg) = 2
    · have h := h.2.1 hc1
      refine B_tabIn (tgt := 105) dX8_turns_51 (by rw [hc1]; decide) (by rw [hc1]; decide) (by rw [hc1]; rfl) (by decide) ?_
      refine B_aload_n dX8_turns_105 1 rfl ?_
      refine B_iload_n dX8_turns_106 2 rfl ?_
      refine B_iload dX8_turns_107 4 rfl ?_
      refine B_callV (st := []) 49 [.int v1, .int v4] dX8_turns_109 gX8_turns_X8_lets rfl hyX8_lets (Nat.le_of_ble_eq_true rfl) (Nat.le_of_ble_eq_true rfl) TX8 23 rfl (Nat.le_of_ble_eq_true rfl) (Nat.le_of_ble_eq_true rfl) rfl (Ct.mono h (Nat.le_refl _) (fun r3 M3 h => ?_))
      refine B_if_eq (tgt := 218) dX8_turns_112 (by decide) (fun hc => ?_) (fun hc => ?_)
      · have h := h.1 hc
        exact B_vret dX8_turns_218 h
      · have h := h.2 hc
        refine B_aload_n dX8_turns_115 1 rfl ?_
        refine B_getf (T := TX8) (N := 23) (v := .ref 50) 49 0 dX8_turns_116 inX8_turns_8 lkX8_turns_f7 (Nat.le_of_ble_eq_true rfl) (Nat.le_of_ble_eq_true rfl) rfl rfl (by decide) rfl ?_
        refine B_iload_n dX8_turns_119 2 rfl ?_
        refine B_iconst (v := 3) dX8_turns_120 (by decide) ?_
        refine B_iadd dX8_turns_121 ?_
        refine B_iload_n dX8_turns_122 3 rfl ?_
        refine B_iadd dX8_turns_123 ?_
        obtain ⟨hi, h⟩ := h
        refine B_iald (n := 301) 50 dX8_turns_124 (Nat.le_of_ble_eq_true rfl) rfl rfl hi ?_
        refine B_aload_n dX8_turns_125 1 rfl ?_
        refine B_getf (T := TX8) (N := 23) (v := .ref 50) 49 0 dX8_turns_126 inX8_turns_8 lkX8_turns_f7 (Nat.le_of_ble_eq_true rfl) (Nat.le_of_ble_eq_true rfl) rfl rfl (by decide) rfl ?_
        refine B_iload_n dX8_turns_129 2 rfl ?_
        refine B_iconst (v := 3) dX8_turns_130 (by decide) ?_
        refine B_iadd dX8_turns_131 ?_
        refine B_iload dX8_turns_132 4 rfl ?_
        refine B_iadd dX8_turns_134 ?_
        obtain ⟨hi, h⟩ := h
        refine B_iald (n := 301) 50 dX8_turns_135 (Nat.le_of_ble_eq_true rfl) rfl rfl hi ?_
        refine B_icmp_le (tgt := 218) dX8_turns_136 (by decide) (fun hc => ?_) (fun hc => ?_)
        · have h := h.1 hc
          exact B_vret dX8_turns_218 h
        · have h := h.2 hc
          refine B_aload_n dX8_turns_139 1 rfl ?_
          refine B_iload_n dX8_turns_140 2 rfl ?_
          refine B_iload_n dX8_turns_141 3 rfl ?_
          refine B_iload dX8_turns_142 4 rfl ?_
          refine B_callV (st := []) 49 [.int v1, .int v2, .int v4] dX8_turns_144 gX8_turns_X8_changes rfl hyX8_changes (Nat.le_of_ble_eq_true rfl) (Nat.le_of_ble_eq_true rfl) TX8 23 rfl (Nat.le_of_ble_eq_true rfl) (Nat.le_of_ble_eq_true rfl) rfl (Ct.mono h (Nat.le_refl _) (fun _r4 M4 h => ?_))
          refine B_goto (tgt := 218) dX8_turns_147 (by decide) ?_
          exact B_vret dX8_turns_218 h
    ·
      by_cases hc2 : (M 50 ((v1 + (10 : Int32)) + v2).toNatClampNeg) = 3
      · have h := h.2.2.1 hc2
        refine B_tabIn (tgt := 150) dX8_turns_51 (by rw [hc2]; decide) (by rw [hc2]; decide) (by rw [hc2]; rfl) (by decide) ?_
        refine B_aload_n dX8_turns_150 1 rfl ?_
        refine B_iload_n dX8_turns_151 2 rfl ?_
        refine B_iload dX8_turns_152 4 rfl ?_
        refine B_callV (st := []) 49 [.int v1, .int v4] dX8_turns_154 gX8_turns_X8_lets rfl hyX8_lets (Nat.le_of_ble_eq_true rfl) (Nat.le_of_ble_eq_true rfl) TX8 23 rfl (Nat.le_of_ble_eq_true rfl) (Nat.le_of_ble_eq_true rfl) rfl (Ct.mono h (Nat.le_refl _) (fun r5 M5 h => ?_))
        refine B_if_eq (tgt := 218) dX8_turns_157 (by decide) (fun hc => ?_) (fun hc => ?_)
        · have h := h.1 hc
          exact B_vret dX8_turns_218 h
        · have h := h.2 hc
          refine B_aload_n dX8_turns_160 1 rfl ?_
          refine B_getf (T := TX8) (N := 23) (v := .ref 50) 49 0 dX8_turns_161 inX8_turns_8 lkX8_turns_f7 (Nat.le_of_ble_eq_true rfl) (Nat.le_of_ble_eq_true rfl) rfl rfl (by decide) rfl ?_
          refine B_iload_n dX8_turns_164 2 rfl ?_
          refine B_iconst (v := 2) dX8_turns_165 (by decide) ?_
          refine B_iadd dX8_turns_166 ?_
          obtain ⟨hi, h⟩ := h
          refine B_iald (n := 301) 50 dX8_turns_167 (Nat.le_of_ble_eq_true rfl) rfl rfl hi ?_
          refine B_iconst (v := 2) dX8_turns_168 (by decide) ?_
          refine B_irem dX8_turns_169 (by decide) ?_
          refine B_if_ne (tgt := 218) dX8_turns_170 (by decide) (fun hc => ?_) (fun hc => ?_)
          · have h := h.1 hc
            exact B_vret dX8_turns_218 h
          · have h := h.2 hc
            refine B_aload_n dX8_turns_173 1 rfl ?_
            refine B_iload_n dX8_turns_174 2 rfl ?_
            refine B_iload_n dX8_turns_175 3 rfl ?_
            refine B_iload dX8_turns_176 4 rfl ?_
            refine B_callV (st := []) 49 [.int v1, .int v2, .int v4] dX8_turns_178 gX8_turns_X8_changes rfl hyX8_changes (Nat.le_of_ble_eq_true rfl) (Nat.le_of_ble_eq_true rfl) TX8 23 rfl (Nat.le_of_ble_eq_true rfl) (Nat.le_of_ble_eq_true rfl) rfl (Ct.mono h (Nat.le_refl _) (fun _r6 M6 h => ?_))
            refine B_goto (tgt := 218) dX8_turns_181 (by decide) ?_
            exact B_vret dX8_turns_218 h
      ·
        by_cases hc3 : (M 50 ((v1 + (10 : Int32)) + v2).toNatClampNeg) = 5
        · have h := h.2.2.2.1 hc3
          refine B_tabIn (tgt := 184) dX8_turns_51 (by rw [hc3]; decide) (by rw [hc3]; decide) (by rw [hc3]; rfl) (by decide) ?_
          refine B_aload_n dX8_turns_184 1 rfl ?_
          refine B_getf (T := TX8) (N := 23) (v := .ref 50) 49 0 dX8_turns_185 inX8_turns_8 lkX8_turns_f7 (Nat.le_of_ble_eq_true rfl) (Nat.le_of_ble_eq_true rfl) rfl rfl (by decide) rfl ?_
          refine B_iload_n dX8_turns_188 2 rfl ?_
          refine B_iconst (v := 3) dX8_turns_189 (by decide) ?_
          refine B_iadd dX8_turns_190 ?_
          refine B_iload_n dX8_turns_191 3 rfl ?_
          refine B_iadd dX8_turns_192 ?_
          obtain ⟨hi, h⟩ := h
          refine B_iald (n := 301) 50 dX8_turns_193 (Nat.le_of_ble_eq_true rfl) rfl rfl hi ?_
          refine B_if_ne (tgt := 218) dX8_turns_194 (by decide) (fun hc => ?_) (fun hc => ?_)
          · have h := h.1 hc
            exact B_vret dX8_turns_218 h
          · have h := h.2 hc
            refine B_aload_n dX8_turns_197 1 rfl ?_
            refine B_iload_n dX8_turns_198 2 rfl ?_
            refine B_iload dX8_turns_199 0 rfl ?_
            refine B_callV (st := []) 49 [.int v1, .int x0] dX8_turns_201 gX8_turns_X8_lets rfl hyX8_lets (Nat.le_of_ble_eq_true rfl) (Nat.le_of_ble_eq_true rfl) TX8 23 rfl (Nat.le_of_ble_eq_true rfl) (Nat.le_of_ble_eq_true rfl) rfl (Ct.mono h (Nat.le_refl _) (fun r7 M7 h => ?_))
            refine B_if_eq (tgt := 218) dX8_turns_204 (by decide) (fun hc => ?_) (fun hc => ?_)
            · have h := h.1 hc
              exact B_vret dX8_turns_218 h
            · have h := h.2 hc
              refine B_aload_n dX8_turns_207 1 rfl ?_
              refine B_iload_n dX8_turns_208 2 rfl ?_
              refine B_iload_n dX8_turns_209 3 rfl ?_
              refine B_iload dX8_turns_210 0 rfl ?_
              refine B_callV (st := []) 49 [.int v1, .int v2, .int x0] dX8_turns_212 gX8_turns_X8_changes rfl hyX8_changes (Nat.le_of_ble_eq_true rfl) (Nat.le_of_ble_eq_true rfl) TX8 23 rfl (Nat.le_of_ble_eq_true rfl) (Nat.le_of_ble_eq_true rfl) rfl (Ct.mono h (Nat.le_refl _) (fun _r8 M8 h => ?_))
              refine B_goto (tgt := 218) dX8_turns_215 (by decide) ?_
              exact B_vret dX8_turns_218 h
        ·
          have h := h.2.2.2.2 ⟨hc0, hc1, hc2, hc3⟩
          by_cases hd0 : (M 50 ((v1 + (10 : Int32)) + v2).toNatClampNeg) = 4
          · refine B_tabIn (tgt := 218) dX8_turns_51 (by rw [hd0]; decide) (by rw [hd0]; decide) (by rw [hd0]; rfl) (by decide) ?_
            exact B_vret dX8_turns_218 h
          ·
            refine B_tabOut (tgt := 218) dX8_turns_51 (by have e0 := lv_neT hc0 (a := 1) (by decide); have e1 := lv_neT hc1 (a := 2) (by decide); have e2 := lv_neT hc2 (a := 3) (by decide); have e3 := lv_neT hc3 (a := 5) (by decide); have f0 := lv_neT hd0 (a := 4) (by decide); omega) (by decide) ?_
            exact B_vret dX8_turns_218 h
set_option maxHeartbeats 4000000 in
set_option maxRecDepth 100000 in
theorem rX8_stepsBy (d : Nat) (v1 : Int32) (v2 : Int32) (M : Mm) (Q : Int32 → Mm → Prop)
    (h : BX8_stepsBy (d + 1) 2 [(0, .ref 49), (1, .int v1), (2, .int v2), (3, .int (0 : Int32))] [] M Q) : kX8_stepsBy (d + 1) v1 v2 M Q := by
  refine Ct.of (cc := cX8_stepsBy) (nL := 5) (by decide) rfl (Nat.le_of_ble_eq_true rfl) ?_
  show BX8_stepsBy (d + 1) 0 [(0, .ref 49), (1, .int v1), (2, .int v2)] [] M Q
  refine B_iconst (v := 0) dX8_stepsBy_0 (by decide) ?_
  refine B_istore_n (lv1 := [(3, .int (0 : Int32)), (0, .ref 49), (1, .int v1), (2, .int v2)]) dX8_stepsBy_1 (by decide) rfl ?_
  refine B_weak [1, 2, 3, 0] rfl ?_
  exact h
set_option maxHeartbeats 4000000 in
set_option maxRecDepth 100000 in
theorem rX8_stepsBy_2 (d : Nat) (v1 : Int32) (v2 : Int32) (v3 : Int32) (M : Mm) (Q : Int32 → Mm → Prop)
    (h : vp_in (v1 + (0 : Int32)) 301 ∧ (((M 50 (v1 + (0 : Int32)).toNatClampNeg) ≤ v3 → vp_in (v1 + (2 : Int32)) 301 ∧ vp_in (v1 + (2 : Int32)) 301 ∧ (∀ M1 : Mm, M1 = (upd2 M 50 (v1 + (2 : Int32)).toNatClampNeg ((M 50 (v1 + (2 : Int32)).toNatClampNeg) + (1 : Int32))) → vp_in (v1 + (2 : Int32)) 301 ∧ vp_in (v1 + (1 : Int32)) 301 ∧ ¬ (M1 50 (v1 + (1 : Int32)).toNatClampNeg) = 0 ∧ ((¬ (irem (M1 50 (v1 + (2 : Int32)).toNatClampNeg) (M1 50 (v1 + (1 : Int32)).toNatClampNeg)) = 0 → Q 0 M1) ∧ ((irem (M1 50 (v1 + (2 : Int32)).toNatClampNeg) (M1 50 (v1 + (1 : Int32)).toNatClampNeg)) = 0 → BX8_stepsBy (d + 1) 68 [(0, .ref 49), (1, .int v1), (3, .int (0 : Int32))] [] M1 Q)))) ∧ (¬ (M 50 (v1 + (0 : Int32)).toNatClampNeg) ≤ v3 → kX8_has d v2 v3 M (fun (r1 : Int32) (M2 : Mm) => ((¬ r1 = 0 → BX8_stepsBy (d + 1) 2 [(0, .ref 49), (1, .int v1), (2, .int v2), (3, .int (v3 + (1 : Int32)))] [] M2 Q) ∧ (r1 = 0 → kX8_turns d v1 v3 M2 (fun (_r2 : Int32) (M3 : Mm) => BX8_stepsBy (d + 1) 2 [(0, .ref 49), (1, .int v1), (2, .int v2), (3, .int (v3 + (1 : Int32)))] [] M3 Q))))))) : BX8_stepsBy (d + 1) 2 [(0, .ref 49), (1, .int v1), (2, .int v2), (3, .int v3)] [] M Q := by
  refine B_iload_n dX8_stepsBy_2 3 rfl ?_
  refine B_aload_n dX8_stepsBy_3 0 rfl ?_
  refine B_getf (T := TX8) (N := 23) (v := .ref 50) 49 0 dX8_stepsBy_4 inX8_stepsBy_8 lkX8_stepsBy_f7 (Nat.le_of_ble_eq_true rfl) (Nat.le_of_ble_eq_true rfl) rfl rfl (by decide) rfl ?_
  refine B_iload_n dX8_stepsBy_7 1 rfl ?_
  refine B_iconst (v := 0) dX8_stepsBy_8 (by decide) ?_
  refine B_iadd dX8_stepsBy_9 ?_
  obtain ⟨hi, h⟩ := h
  refine B_iald (n := 301) 50 dX8_stepsBy_10 (Nat.le_of_ble_eq_true rfl) rfl rfl hi ?_
  refine B_icmp_ge (tgt := 34) dX8_stepsBy_11 (by decide) (fun hc => ?_) (fun hc => ?_)
  · have h := h.1 hc
    refine B_aload_n dX8_stepsBy_34 0 rfl ?_
    refine B_getf (T := TX8) (N := 23) (v := .ref 50) 49 0 dX8_stepsBy_35 inX8_stepsBy_8 lkX8_stepsBy_f7 (Nat.le_of_ble_eq_true rfl) (Nat.le_of_ble_eq_true rfl) rfl rfl (by decide) rfl ?_
    refine B_iload_n dX8_stepsBy_38 1 rfl ?_
    refine B_iconst (v := 2) dX8_stepsBy_39 (by decide) ?_
    refine B_iadd dX8_stepsBy_40 ?_
    refine B_dup2 dX8_stepsBy_41 rfl rfl ?_
    obtain ⟨hi, h⟩ := h
    refine B_iald (n := 301) 50 dX8_stepsBy_42 (Nat.le_of_ble_eq_true rfl) rfl rfl hi ?_
    refine B_iconst (v := 1) dX8_stepsBy_43 (by decide) ?_
    refine B_iadd dX8_stepsBy_44 ?_
    obtain ⟨hi, h⟩ := h
    refine B_iast (n := 301) 50 dX8_stepsBy_45 (Nat.le_of_ble_eq_true rfl) rfl rfl hi ?_
    have h := h _ rfl
    generalize (upd2 M 50 (v1 + (2 : Int32)).toNatClampNeg ((M 50 (v1 + (2 : Int32)).toNatClampNeg) + (1 : Int32))) = M1 at h ⊢
    refine B_aload_n dX8_stepsBy_46 0 rfl ?_
    refine B_getf (T := TX8) (N := 23) (v := .ref 50) 49 0 dX8_stepsBy_47 inX8_stepsBy_8 lkX8_stepsBy_f7 (Nat.le_of_ble_eq_true rfl) (Nat.le_of_ble_eq_true rfl) rfl rfl (by decide) rfl ?_
    refine B_iload_n dX8_stepsBy_50 1 rfl ?_
    refine B_iconst (v := 2) dX8_stepsBy_51 (by decide) ?_
    refine B_iadd dX8_stepsBy_52 ?_
    obtain ⟨hi, h⟩ := h
    refine B_iald (n := 301) 50 dX8_stepsBy_53 (Nat.le_of_ble_eq_true rfl) rfl rfl hi ?_
    refine B_aload_n dX8_stepsBy_54 0 rfl ?_
    refine B_getf (T := TX8) (N := 23) (v := .ref 50) 49 0 dX8_stepsBy_55 inX8_stepsBy_8 lkX8_stepsBy_f7 (Nat.le_of_ble_eq_true rfl) (Nat.le_of_ble_eq_true rfl) rfl rfl (by decide) rfl ?_
    refine B_iload_n dX8_stepsBy_58 1 rfl ?_
    refine B_iconst (v := 1) dX8_stepsBy_59 (by decide) ?_
    refine B_iadd dX8_stepsBy_60 ?_
    obtain ⟨hi, h⟩ := h
    refine B_iald (n := 301) 50 dX8_stepsBy_61 (Nat.le_of_ble_eq_true rfl) rfl rfl hi ?_
    obtain ⟨hz, h⟩ := h
    refine B_irem dX8_stepsBy_62 hz ?_
    refine B_if_ne (tgt := 150) dX8_stepsBy_63 (by decide) (fun hc => ?_) (fun hc => ?_)
    · have h := h.1 hc
      exact B_vret dX8_stepsBy_150 h
    · have h := h.2 hc
      refine B_iconst (v := 0) dX8_stepsBy_66 (by decide) ?_
      refine B_istore_n (lv1 := [(3, .int (0 : Int32)), (0, .ref 49), (1, .int v1), (2, .int v2)]) dX8_stepsBy_67 (by decide) rfl ?_
      refine B_weak [1, 2, 0] rfl ?_
      exact h
  · have h := h.2 hc
    refine B_iload_n dX8_stepsBy_14 2 rfl ?_
    refine B_iload_n dX8_stepsBy_15 3 rfl ?_
    refine B_callS (st := []) [.int v2, .int v3] dX8_stepsBy_16 gX8_stepsBy_X8_has rfl hyX8_has (Nat.le_of_ble_eq_true rfl) (Nat.le_of_ble_eq_true rfl) rfl (Ct.mono h (Nat.le_refl _) (fun r1 M2 h => ?_))
    refine B_if_ne (tgt := 28) dX8_stepsBy_19 (by decide) (fun hc => ?_) (fun hc => ?_)
    · have h := h.1 hc
      refine B_iinc (lv1 := [(3, .int (v3 + (1 : Int32))), (0, .ref 49), (1, .int v1), (2, .int v2)]) (v := (v3 + (1 : Int32))) dX8_stepsBy_28 3 rfl rfl (by decide) rfl ?_
      refine B_goto (tgt := 2) dX8_stepsBy_31 (by decide) ?_
      refine B_weak [1, 2, 3, 0] rfl ?_
      exact h
    · have h := h.2 hc
      refine B_aload_n dX8_stepsBy_22 0 rfl ?_
      refine B_iload_n dX8_stepsBy_23 1 rfl ?_
      refine B_iload_n dX8_stepsBy_24 3 rfl ?_
      refine B_callV (st := []) 49 [.int v1, .int v3] dX8_stepsBy_25 gX8_stepsBy_X8_turns rfl hyX8_turns (Nat.le_of_ble_eq_true rfl) (Nat.le_of_ble_eq_true rfl) TX8 23 rfl (Nat.le_of_ble_eq_true rfl) (Nat.le_of_ble_eq_true rfl) rfl (Ct.mono h (Nat.le_refl _) (fun _r2 M3 h => ?_))
      refine B_iinc (lv1 := [(3, .int (v3 + (1 : Int32))), (0, .ref 49), (1, .int v1), (2, .int v2)]) (v := (v3 + (1 : Int32))) dX8_stepsBy_28 3 rfl rfl (by decide) rfl ?_
      refine B_goto (tgt := 2) dX8_stepsBy_31 (by decide) ?_
      refine B_weak [1, 2, 3, 0] rfl ?_
      exact h
set_option maxHeartbeats 4000000 in
set_option maxRecDepth 100000 in
theorem rX8_stepsBy_68 (d : Nat) (v1 : Int32) (v3 : Int32) (M : Mm) (Q : Int32 → Mm → Prop)
    (h : vp_in (v1 + (0 : Int32)) 301 ∧ (((M 50 (v1 + (0 : Int32)).toNatClampNeg) ≤ v3 → Q 0 M) ∧ (¬ (M 50 (v1 + (0 : Int32)).toNatClampNeg) ≤ v3 → vp_in ((v1 + (3 : Int32)) + v3) 301 ∧ vp_in ((v1 + (10 : Int32)) + v3) 301 ∧ ((¬ (M 50 ((v1 + (10 : Int32)) + v3).toNatClampNeg) = (5 : Int32) → BX8_stepsBy (d + 1) 68 [(0, .ref 49), (1, .int v1), (3, .int (v3 + (1 : Int32)))] [] M Q) ∧ ((M 50 ((v1 + (10 : Int32)) + v3).toNatClampNeg) = (5 : Int32) → vp_in (v1 + (0 : Int32)) 301 ∧ kX8_in d ((M 50 ((v1 + (3 : Int32)) + v3).toNatClampNeg).toInt64) (1 : Int64) ((M 50 (v1 + (0 : Int32)).toNatClampNeg).toInt64) M (fun (r1 : Int32) (M1 : Mm) => ((r1 = 0 → BX8_stepsBy (d + 1) 68 [(0, .ref 49), (1, .int v1), (3, .int (v3 + (1 : Int32)))] [] M1 Q) ∧ (¬ r1 = 0 → ((((M 50 ((v1 + (3 : Int32)) + v3).toNatClampNeg) - (1 : Int32)) = v3 → BX8_stepsBy (d + 1) 68 [(0, .ref 49), (1, .int v1), (3, .int (v3 + (1 : Int32)))] [] M1 Q) ∧ (¬ ((M 50 ((v1 + (3 : Int32)) + v3).toNatClampNeg) - (1 : Int32)) = v3 → kX8_changes d v1 v3 ((M 50 ((v1 + (3 : Int32)) + v3).toNatClampNeg) - (1 : Int32)) M1 (fun (_r2 : Int32) (M2 : Mm) => BX8_stepsBy (d + 1) 68 [(0, .ref 49), (1, .int v1), (3, .int (v3 + (1 : Int32)))] [] M2 Q))))))))))) : BX8_stepsBy (d + 1) 68 [(0, .ref 49), (1, .int v1), (3, .int v3)] [] M Q := by
  refine B_iload_n dX8_stepsBy_68 2 rfl ?_
  refine B_aload_n dX8_stepsBy_69 0 rfl ?_
  refine B_getf (T := TX8) (N := 23) (v := .ref 50) 49 0 dX8_stepsBy_70 inX8_stepsBy_8 lkX8_stepsBy_f7 (Nat.le_of_ble_eq_true rfl) (Nat.le_of_ble_eq_true rfl) rfl rfl (by decide) rfl ?_
  refine B_iload_n dX8_stepsBy_73 1 rfl ?_
  refine B_iconst (v := 0) dX8_stepsBy_74 (by decide) ?_
  refine B_iadd dX8_stepsBy_75 ?_
  obtain ⟨hi, h⟩ := h
  refine B_iald (n := 301) 50 dX8_stepsBy_76 (Nat.le_of_ble_eq_true rfl) rfl rfl hi ?_
  refine B_icmp_ge (tgt := 150) dX8_stepsBy_77 (by decide) (fun hc => ?_) (fun hc => ?_)
  · have h := h.1 hc
    exact B_vret dX8_stepsBy_150 h
  · have h := h.2 hc
    refine B_aload_n dX8_stepsBy_80 0 rfl ?_
    refine B_getf (T := TX8) (N := 23) (v := .ref 50) 49 0 dX8_stepsBy_81 inX8_stepsBy_8 lkX8_stepsBy_f7 (Nat.le_of_ble_eq_true rfl) (Nat.le_of_ble_eq_true rfl) rfl rfl (by decide) rfl ?_
    refine B_iload_n dX8_stepsBy_84 1 rfl ?_
    refine B_iconst (v := 3) dX8_stepsBy_85 (by decide) ?_
    refine B_iadd dX8_stepsBy_86 ?_
    refine B_iload_n dX8_stepsBy_87 2 rfl ?_
    refine B_iadd dX8_stepsBy_88 ?_
    obtain ⟨hi, h⟩ := h
    refine B_iald (n := 301) 50 dX8_stepsBy_89 (Nat.le_of_ble_eq_true rfl) rfl rfl hi ?_
    refine B_istore (lv1 := [(4, .int (M 50 ((v1 + (3 : Int32)) + v3).toNatClampNeg)), (0, .ref 49), (1, .int v1), (3, .int v3)]) dX8_stepsBy_90 (by decide) rfl ?_
    refine B_aload_n dX8_stepsBy_92 1 rfl ?_
    refine B_getf (T := TX8) (N := 23) (v := .ref 50) 49 0 dX8_stepsBy_93 inX8_stepsBy_8 lkX8_stepsBy_f7 (Nat.le_of_ble_eq_true rfl) (Nat.le_of_ble_eq_true rfl) rfl rfl (by decide) rfl ?_
    refine B_iload_n dX8_stepsBy_96 2 rfl ?_
    refine B_bipush (v := 10) dX8_stepsBy_97 (by decide) ?_
    refine B_iadd dX8_stepsBy_99 ?_
    refine B_iload_n dX8_stepsBy_100 3 rfl ?_
    refine B_iadd dX8_stepsBy_101 ?_
    obtain ⟨hi, h⟩ := h
    refine B_iald (n := 301) 50 dX8_stepsBy_102 (Nat.le_of_ble_eq_true rfl) rfl rfl hi ?_
    refine B_iconst (v := 5) dX8_stepsBy_103 (by decide) ?_
    refine B_icmp_ne (tgt := 144) dX8_stepsBy_104 (by decide) (fun hc => ?_) (fun hc => ?_)
    · have h := h.1 hc
      refine B_iinc (lv1 := [(3, .int (v3 + (1 : Int32))), (4, .int (M 50 ((v1 + (3 : Int32)) + v3).toNatClampNeg)), (0, .ref 49), (1, .int v1)]) (v := (v3 + (1 : Int32))) dX8_stepsBy_144 3 rfl rfl (by decide) rfl ?_
      refine B_goto (tgt := 68) dX8_stepsBy_147 (by decide) ?_
      refine B_weak [2, 3, 0] rfl ?_
      exact h
    · have h := h.2 hc
      refine B_iload dX8_stepsBy_107 0 rfl ?_
      refine B_i2l dX8_stepsBy_109 ?_
      refine B_lconst (v := 1) dX8_stepsBy_110 (by decide) ?_
      refine B_aload_n dX8_stepsBy_111 1 rfl ?_
      refine B_getf (T := TX8) (N := 23) (v := .ref 50) 49 0 dX8_stepsBy_112 inX8_stepsBy_8 lkX8_stepsBy_f7 (Nat.le_of_ble_eq_true rfl) (Nat.le_of_ble_eq_true rfl) rfl rfl (by decide) rfl ?_
      refine B_iload_n dX8_stepsBy_115 2 rfl ?_
      refine B_iconst (v := 0) dX8_stepsBy_116 (by decide) ?_
      refine B_iadd dX8_stepsBy_117 ?_
      obtain ⟨hi, h⟩ := h
      refine B_iald (n := 301) 50 dX8_stepsBy_118 (Nat.le_of_ble_eq_true rfl) rfl rfl hi ?_
      refine B_i2l dX8_stepsBy_119 ?_
      refine B_callS (st := []) [.long (M 50 ((v1 + (3 : Int32)) + v3).toNatClampNeg).toInt64, .long (1 : Int64), .long (M 50 (v1 + (0 : Int32)).toNatClampNeg).toInt64] dX8_stepsBy_120 gX8_stepsBy_X8_in rfl hyX8_in (Nat.le_of_ble_eq_true rfl) (Nat.le_of_ble_eq_true rfl) rfl (Ct.mono h (Nat.le_refl _) (fun r1 M1 h => ?_))
      refine B_if_eq (tgt := 144) dX8_stepsBy_123 (by decide) (fun hc => ?_) (fun hc => ?_)
      · have h := h.1 hc
        refine B_iinc (lv1 := [(3, .int (v3 + (1 : Int32))), (4, .int (M 50 ((v1 + (3 : Int32)) + v3).toNatClampNeg)), (0, .ref 49), (1, .int v1)]) (v := (v3 + (1 : Int32))) dX8_stepsBy_144 3 rfl rfl (by decide) rfl ?_
        refine B_goto (tgt := 68) dX8_stepsBy_147 (by decide) ?_
        refine B_weak [2, 3, 0] rfl ?_
        exact h
      · have h := h.2 hc
        refine B_iload dX8_stepsBy_126 0 rfl ?_
        refine B_iconst (v := 1) dX8_stepsBy_128 (by decide) ?_
        refine B_isub dX8_stepsBy_129 ?_
        refine B_iload_n dX8_stepsBy_130 3 rfl ?_
        refine B_icmp_eq (tgt := 144) dX8_stepsBy_131 (by decide) (fun hc => ?_) (fun hc => ?_)
        · have h := h.1 hc
          refine B_iinc (lv1 := [(3, .int (v3 + (1 : Int32))), (4, .int (M 50 ((v1 + (3 : Int32)) + v3).toNatClampNeg)), (0, .ref 49), (1, .int v1)]) (v := (v3 + (1 : Int32))) dX8_stepsBy_144 3 rfl rfl (by decide) rfl ?_
          refine B_goto (tgt := 68) dX8_stepsBy_147 (by decide) ?_
          refine B_weak [2, 3, 0] rfl ?_
          exact h
        · have h := h.2 hc
          refine B_aload_n dX8_stepsBy_134 1 rfl ?_
          refine B_iload_n dX8_stepsBy_135 2 rfl ?_
          refine B_iload_n dX8_stepsBy_136 3 rfl ?_
          refine B_iload dX8_stepsBy_137 0 rfl ?_
          refine B_iconst (v := 1) dX8_stepsBy_139 (by decide) ?_
          refine B_isub dX8_stepsBy_140 ?_
          refine B_callV (st := []) 49 [.int v1, .int v3, .int ((M 50 ((v1 + (3 : Int32)) + v3).toNatClampNeg) - (1 : Int32))] dX8_stepsBy_141 gX8_stepsBy_X8_changes rfl hyX8_changes (Nat.le_of_ble_eq_true rfl) (Nat.le_of_ble_eq_true rfl) TX8 23 rfl (Nat.le_of_ble_eq_true rfl) (Nat.le_of_ble_eq_true rfl) rfl (Ct.mono h (Nat.le_refl _) (fun _r2 M2 h => ?_))
          refine B_iinc (lv1 := [(3, .int (v3 + (1 : Int32))), (4, .int (M 50 ((v1 + (3 : Int32)) + v3).toNatClampNeg)), (0, .ref 49), (1, .int v1)]) (v := (v3 + (1 : Int32))) dX8_stepsBy_144 3 rfl rfl (by decide) rfl ?_
          refine B_goto (tgt := 68) dX8_stepsBy_147 (by decide) ?_
          refine B_weak [2, 3, 0] rfl ?_
          exact h
set_option maxHeartbeats 4000000 in
set_option maxRecDepth 100000 in
theorem rX8_minds (d : Nat)  (M : Mm) (Q : Int32 → Mm → Prop)
    (h : ((¬ (M 49 1) = (24 : Int32) → BX8_minds (d + 1) 55 [(0, .ref 49)] [] M Q) ∧ ((M 49 1) = (24 : Int32) → BX8_minds (d + 1) 11 [(0, .ref 49), (1, .int (0 : Int32))] [] M Q))) : kX8_minds (d + 1)  M Q := by
  refine Ct.of (cc := cX8_minds) (nL := 2) (by decide) rfl (Nat.le_of_ble_eq_true rfl) ?_
  show BX8_minds (d + 1) 0 [(0, .ref 49)] [] M Q
  refine B_aload_n dX8_minds_0 0 rfl ?_
  refine B_getf (T := TX8) (N := 23) (v := .int (M 49 1)) 49 1 dX8_minds_1 inX8_minds_8 lkX8_minds_f136 (Nat.le_of_ble_eq_true rfl) (Nat.le_of_ble_eq_true rfl) rfl rfl (by decide) rfl ?_
  refine B_bipush (v := 24) dX8_minds_4 (by decide) ?_
  refine B_icmp_ne (tgt := 55) dX8_minds_6 (by decide) (fun hc => ?_) (fun hc => ?_)
  · have h := h.1 hc
    refine B_weak [0] rfl ?_
    exact h
  · have h := h.2 hc
    refine B_iconst (v := 0) dX8_minds_9 (by decide) ?_
    refine B_istore_n (lv1 := [(1, .int (0 : Int32)), (0, .ref 49)]) dX8_minds_10 (by decide) rfl ?_
    refine B_weak [1, 0] rfl ?_
    exact h
set_option maxHeartbeats 4000000 in
set_option maxRecDepth 100000 in
theorem rX8_minds_11 (d : Nat) (v1 : Int32) (M : Mm) (Q : Int32 → Mm → Prop)
    (h : (((207 : Int32) ≤ v1 → (∀ M1 : Mm, M1 = (upd2 M 49 1 ((M 49 1) - (1 : Int32))) → BX8_minds (d + 1) 55 [(0, .ref 49)] [] M1 Q)) ∧ (¬ (207 : Int32) ≤ v1 → vp_in (((85 : Int32) + v1) + (9 : Int32)) 301 ∧ vp_in ((85 : Int32) + v1) 301 ∧ (∀ M2 : Mm, M2 = (upd2 M 50 ((85 : Int32) + v1).toNatClampNeg (M 50 (((85 : Int32) + v1) + (9 : Int32)).toNatClampNeg)) → BX8_minds (d + 1) 11 [(0, .ref 49), (1, .int (v1 + (1 : Int32)))] [] M2 Q)))) : BX8_minds (d + 1) 11 [(0, .ref 49), (1, .int v1)] [] M Q := by
  refine B_iload_n dX8_minds_11 1 rfl ?_
  refine B_sipush (v := 207) dX8_minds_12 (by decide) ?_
  refine B_icmp_ge (tgt := 45) dX8_minds_15 (by decide) (fun hc => ?_) (fun hc => ?_)
  · have h := h.1 hc
    refine B_aload_n dX8_minds_45 0 rfl ?_
    refine B_dup dX8_minds_46 rfl ?_
    refine B_getf (T := TX8) (N := 23) (v := .int (M 49 1)) 49 1 dX8_minds_47 inX8_minds_8 lkX8_minds_f136 (Nat.le_of_ble_eq_true rfl) (Nat.le_of_ble_eq_true rfl) rfl rfl (by decide) rfl ?_
    refine B_iconst (v := 1) dX8_minds_50 (by decide) ?_
    refine B_isub dX8_minds_51 ?_
    refine B_putf (T := TX8) (N := 23) 49 1 tyX8 tyX8_ok nmX8 dX8_minds_52 inX8_minds_8 lkX8_minds_f136 (Nat.le_of_ble_eq_true rfl) (Nat.le_of_ble_eq_true rfl) rfl rfl (by decide) rfl rfl (by decide +kernel) ?_
    have h := h _ rfl
    generalize (upd2 M 49 1 ((M 49 1) - (1 : Int32))) = M1 at h ⊢
    refine B_weak [0] rfl ?_
    exact h
  · have h := h.2 hc
    refine B_aload_n dX8_minds_18 0 rfl ?_
    refine B_getf (T := TX8) (N := 23) (v := .ref 50) 49 0 dX8_minds_19 inX8_minds_8 lkX8_minds_f7 (Nat.le_of_ble_eq_true rfl) (Nat.le_of_ble_eq_true rfl) rfl rfl (by decide) rfl ?_
    refine B_bipush (v := 85) dX8_minds_22 (by decide) ?_
    refine B_iload_n dX8_minds_24 1 rfl ?_
    refine B_iadd dX8_minds_25 ?_
    refine B_aload_n dX8_minds_26 0 rfl ?_
    refine B_getf (T := TX8) (N := 23) (v := .ref 50) 49 0 dX8_minds_27 inX8_minds_8 lkX8_minds_f7 (Nat.le_of_ble_eq_true rfl) (Nat.le_of_ble_eq_true rfl) rfl rfl (by decide) rfl ?_
    refine B_bipush (v := 85) dX8_minds_30 (by decide) ?_
    refine B_iload_n dX8_minds_32 1 rfl ?_
    refine B_iadd dX8_minds_33 ?_
    refine B_bipush (v := 9) dX8_minds_34 (by decide) ?_
    refine B_iadd dX8_minds_36 ?_
    obtain ⟨hi, h⟩ := h
    refine B_iald (n := 301) 50 dX8_minds_37 (Nat.le_of_ble_eq_true rfl) rfl rfl hi ?_
    obtain ⟨hi, h⟩ := h
    refine B_iast (n := 301) 50 dX8_minds_38 (Nat.le_of_ble_eq_true rfl) rfl rfl hi ?_
    have h := h _ rfl
    generalize (upd2 M 50 ((85 : Int32) + v1).toNatClampNeg (M 50 (((85 : Int32) + v1) + (9 : Int32)).toNatClampNeg)) = M2 at h ⊢
    refine B_iinc (lv1 := [(1, .int (v1 + (1 : Int32))), (0, .ref 49)]) (v := (v1 + (1 : Int32))) dX8_minds_39 1 rfl rfl (by decide) rfl ?_
    refine B_goto (tgt := 11) dX8_minds_42 (by decide) ?_
    refine B_weak [1, 0] rfl ?_
    exact h
set_option maxHeartbeats 4000000 in
set_option maxRecDepth 100000 in
theorem rX8_minds_55 (d : Nat)  (M : Mm) (Q : Int32 → Mm → Prop)
    (h : kX8_copyOf d (1 : Int32) ((85 : Int32) + ((9 : Int32) * (M 49 1))) (9 : Int32) M (fun (_r1 : Int32) (M1 : Mm) => (∀ M2 : Mm, M2 = (upd2 M1 49 1 ((M1 49 1) + (1 : Int32))) → Q 0 M2))) : BX8_minds (d + 1) 55 [(0, .ref 49)] [] M Q := by
  refine B_aload_n dX8_minds_55 0 rfl ?_
  refine B_iconst (v := 1) dX8_minds_56 (by decide) ?_
  refine B_bipush (v := 85) dX8_minds_57 (by decide) ?_
  refine B_bipush (v := 9) dX8_minds_59 (by decide) ?_
  refine B_aload_n dX8_minds_61 0 rfl ?_
  refine B_getf (T := TX8) (N := 23) (v := .int (M 49 1)) 49 1 dX8_minds_62 inX8_minds_8 lkX8_minds_f136 (Nat.le_of_ble_eq_true rfl) (Nat.le_of_ble_eq_true rfl) rfl rfl (by decide) rfl ?_
  refine B_imul dX8_minds_65 ?_
  refine B_iadd dX8_minds_66 ?_
  refine B_bipush (v := 9) dX8_minds_67 (by decide) ?_
  refine B_callV (st := []) 49 [.int (1 : Int32), .int ((85 : Int32) + ((9 : Int32) * (M 49 1))), .int (9 : Int32)] dX8_minds_69 gX8_minds_X8_copyOf rfl hyX8_copyOf (Nat.le_of_ble_eq_true rfl) (Nat.le_of_ble_eq_true rfl) TX8 23 rfl (Nat.le_of_ble_eq_true rfl) (Nat.le_of_ble_eq_true rfl) rfl (Ct.mono h (Nat.le_refl _) (fun _r1 M1 h => ?_))
  refine B_aload_n dX8_minds_72 0 rfl ?_
  refine B_dup dX8_minds_73 rfl ?_
  refine B_getf (T := TX8) (N := 23) (v := .int (M1 49 1)) 49 1 dX8_minds_74 inX8_minds_8 lkX8_minds_f136 (Nat.le_of_ble_eq_true rfl) (Nat.le_of_ble_eq_true rfl) rfl rfl (by decide) rfl ?_
  refine B_iconst (v := 1) dX8_minds_77 (by decide) ?_
  refine B_iadd dX8_minds_78 ?_
  refine B_putf (T := TX8) (N := 23) 49 1 tyX8 tyX8_ok nmX8 dX8_minds_79 inX8_minds_8 lkX8_minds_f136 (Nat.le_of_ble_eq_true rfl) (Nat.le_of_ble_eq_true rfl) rfl rfl (by decide) rfl rfl (by decide +kernel) ?_
  have h := h _ rfl
  generalize (upd2 M1 49 1 ((M1 49 1) + (1 : Int32))) = M2 at h ⊢
  exact B_vret dX8_minds_82 h
set_option maxHeartbeats 4000000 in
set_option maxRecDepth 100000 in
theorem rX8_steps (d : Nat) (v1 : Int32) (M : Mm) (Q : Int32 → Mm → Prop)
    (h : vp_in (0 : Int32) 301 ∧ ((¬ (M 50 (0 : Int32).toNatClampNeg) = 0 → kX8_in d v1.toInt64 (1 : Int64) (24 : Int64) M (fun (r1 : Int32) (M1 : Mm) => ((¬ r1 = 0 → vp_in (2 : Int32) 301 ∧ ((((M1 50 (2 : Int32).toNatClampNeg) + v1) ≤ (9999 : Int32) → BX8_steps (d + 1) 46 [(0, .ref 49), (1, .int v1), (2, .int (0 : Int32))] [] M1 Q) ∧ (¬ ((M1 50 (2 : Int32).toNatClampNeg) + v1) ≤ (9999 : Int32) → Q (-1000003 : Int32) M1))) ∧ (r1 = 0 → Q (-1000001 : Int32) M1)))) ∧ ((M 50 (0 : Int32).toNatClampNeg) = 0 → Q (-1000002 : Int32) M))) : kX8_steps (d + 1) v1 M Q := by
  refine Ct.of (cc := cX8_steps) (nL := 3) (by decide) rfl (Nat.le_of_ble_eq_true rfl) ?_
  show BX8_steps (d + 1) 0 [(0, .ref 49), (1, .int v1)] [] M Q
  refine B_aload_n dX8_steps_0 0 rfl ?_
  refine B_getf (T := TX8) (N := 23) (v := .ref 50) 49 0 dX8_steps_1 inX8_steps_8 lkX8_steps_f7 (Nat.le_of_ble_eq_true rfl) (Nat.le_of_ble_eq_true rfl) rfl rfl (by decide) rfl ?_
  refine B_iconst (v := 0) dX8_steps_4 (by decide) ?_
  obtain ⟨hi, h⟩ := h
  refine B_iald (n := 301) 50 dX8_steps_5 (Nat.le_of_ble_eq_true rfl) rfl rfl hi ?_
  refine B_if_ne (tgt := 12) dX8_steps_6 (by decide) (fun hc => ?_) (fun hc => ?_)
  · have h := h.1 hc
    refine B_iload_n dX8_steps_12 1 rfl ?_
    refine B_i2l dX8_steps_13 ?_
    refine B_lconst (v := 1) dX8_steps_14 (by decide) ?_
    refine B_ldc2 (v := 24) dX8_steps_15 lkX8_steps_l150 ?_
    refine B_callS (st := []) [.long v1.toInt64, .long (1 : Int64), .long (24 : Int64)] dX8_steps_18 gX8_steps_X8_in rfl hyX8_in (Nat.le_of_ble_eq_true rfl) (Nat.le_of_ble_eq_true rfl) rfl (Ct.mono h (Nat.le_refl _) (fun r1 M1 h => ?_))
    refine B_if_ne (tgt := 27) dX8_steps_21 (by decide) (fun hc => ?_) (fun hc => ?_)
    · have h := h.1 hc
      refine B_aload_n dX8_steps_27 0 rfl ?_
      refine B_getf (T := TX8) (N := 23) (v := .ref 50) 49 0 dX8_steps_28 inX8_steps_8 lkX8_steps_f7 (Nat.le_of_ble_eq_true rfl) (Nat.le_of_ble_eq_true rfl) rfl rfl (by decide) rfl ?_
      refine B_iconst (v := 2) dX8_steps_31 (by decide) ?_
      obtain ⟨hi, h⟩ := h
      refine B_iald (n := 301) 50 dX8_steps_32 (Nat.le_of_ble_eq_true rfl) rfl rfl hi ?_
      refine B_iload_n dX8_steps_33 1 rfl ?_
      refine B_iadd dX8_steps_34 ?_
      refine B_sipush (v := 9999) dX8_steps_35 (by decide) ?_
      refine B_icmp_le (tgt := 44) dX8_steps_38 (by decide) (fun hc => ?_) (fun hc => ?_)
      · have h := h.1 hc
        refine B_iconst (v := 0) dX8_steps_44 (by decide) ?_
        refine B_istore_n (lv1 := [(2, .int (0 : Int32)), (0, .ref 49), (1, .int v1)]) dX8_steps_45 (by decide) rfl ?_
        refine B_weak [1, 2, 0] rfl ?_
        exact h
      · have h := h.2 hc
        refine B_ldc (v := -1000003) dX8_steps_41 lkX8_steps_c86 ?_
        exact B_iret dX8_steps_43 h
    · have h := h.2 hc
      refine B_ldc (v := -1000001) dX8_steps_24 lkX8_steps_c72 ?_
      exact B_iret dX8_steps_26 h
  · have h := h.2 hc
    refine B_ldc (v := -1000002) dX8_steps_9 lkX8_steps_c149 ?_
    exact B_iret dX8_steps_11 h
set_option maxHeartbeats 4000000 in
set_option maxRecDepth 100000 in
theorem rX8_steps_46 (d : Nat) (v1 : Int32) (v2 : Int32) (M : Mm) (Q : Int32 → Mm → Prop)
    (h : ((v1 ≤ v2 → vp_in (2 : Int32) 301 ∧ Q (M 50 (2 : Int32).toNatClampNeg) M) ∧ (¬ v1 ≤ v2 → kX8_minds d  M (fun (_r1 : Int32) (M1 : Mm) => kX8_stepsBy d (0 : Int32) (0 : Int32) M1 (fun (_r2 : Int32) (M2 : Mm) => BX8_steps (d + 1) 46 [(0, .ref 49), (1, .int v1), (2, .int (v2 + (1 : Int32)))] [] M2 Q))))) : BX8_steps (d + 1) 46 [(0, .ref 49), (1, .int v1), (2, .int v2)] [] M Q := by
  refine B_iload_n dX8_steps_46 2 rfl ?_
  refine B_iload_n dX8_steps_47 1 rfl ?_
  refine B_icmp_ge (tgt := 67) dX8_steps_48 (by decide) (fun hc => ?_) (fun hc => ?_)
  · have h := h.1 hc
    refine B_aload_n dX8_steps_67 0 rfl ?_
    refine B_getf (T := TX8) (N := 23) (v := .ref 50) 49 0 dX8_steps_68 inX8_steps_8 lkX8_steps_f7 (Nat.le_of_ble_eq_true rfl) (Nat.le_of_ble_eq_true rfl) rfl rfl (by decide) rfl ?_
    refine B_iconst (v := 2) dX8_steps_71 (by decide) ?_
    obtain ⟨hi, h⟩ := h
    refine B_iald (n := 301) 50 dX8_steps_72 (Nat.le_of_ble_eq_true rfl) rfl rfl hi ?_
    exact B_iret dX8_steps_73 h
  · have h := h.2 hc
    refine B_aload_n dX8_steps_51 0 rfl ?_
    refine B_callV (st := []) 49 [] dX8_steps_52 gX8_steps_X8_minds rfl hyX8_minds (Nat.le_of_ble_eq_true rfl) (Nat.le_of_ble_eq_true rfl) TX8 23 rfl (Nat.le_of_ble_eq_true rfl) (Nat.le_of_ble_eq_true rfl) rfl (Ct.mono h (Nat.le_refl _) (fun _r1 M1 h => ?_))
    refine B_aload_n dX8_steps_55 0 rfl ?_
    refine B_iconst (v := 0) dX8_steps_56 (by decide) ?_
    refine B_iconst (v := 0) dX8_steps_57 (by decide) ?_
    refine B_callV (st := []) 49 [.int (0 : Int32), .int (0 : Int32)] dX8_steps_58 gX8_steps_X8_stepsBy rfl hyX8_stepsBy (Nat.le_of_ble_eq_true rfl) (Nat.le_of_ble_eq_true rfl) TX8 23 rfl (Nat.le_of_ble_eq_true rfl) (Nat.le_of_ble_eq_true rfl) rfl (Ct.mono h (Nat.le_refl _) (fun _r2 M2 h => ?_))
    refine B_iinc (lv1 := [(2, .int (v2 + (1 : Int32))), (0, .ref 49), (1, .int v1)]) (v := (v2 + (1 : Int32))) dX8_steps_61 2 rfl rfl (by decide) rfl ?_
    refine B_goto (tgt := 46) dX8_steps_64 (by decide) ?_
    refine B_weak [1, 2, 0] rfl ?_
    exact h
set_option maxHeartbeats 4000000 in
set_option maxRecDepth 100000 in
theorem rX8_swap (d : Nat) (v1 : Int32) (v2 : Int32) (M : Mm) (Q : Int32 → Mm → Prop)
    (h : kX8_isSaint d v1 M (fun (r1 : Int32) (M1 : Mm) => ((r1 = 0 → Q (-1000001 : Int32) M1) ∧ (¬ r1 = 0 → kX8_isSaint d v2 M1 (fun (r2 : Int32) (M2 : Mm) => ((r2 = 0 → Q (-1000001 : Int32) M2) ∧ (¬ r2 = 0 → ((¬ v1 = v2 → kX8_minds d  M2 (fun (_r3 : Int32) (M3 : Mm) => kX8_changes d (0 : Int32) v1 v2 M3 (fun (_r4 : Int32) (M4 : Mm) => vp_in ((3 : Int32) + v1) 301 ∧ vp_in ((3 : Int32) + v2) 301 ∧ Q (((10 : Int32) * (M4 50 ((3 : Int32) + v1).toNatClampNeg)) + (M4 50 ((3 : Int32) + v2).toNatClampNeg)) M4))) ∧ (v1 = v2 → Q (-1000001 : Int32) M2))))))))) : kX8_swap (d + 1) v1 v2 M Q := by
  refine Ct.of (cc := cX8_swap) (nL := 3) (by decide) rfl (Nat.le_of_ble_eq_true rfl) ?_
  show BX8_swap (d + 1) 0 [(0, .ref 49), (1, .int v1), (2, .int v2)] [] M Q
  refine B_aload_n dX8_swap_0 0 rfl ?_
  refine B_iload_n dX8_swap_1 1 rfl ?_
  refine B_callV (st := []) 49 [.int v1] dX8_swap_2 gX8_swap_X8_isSaint rfl hyX8_isSaint (Nat.le_of_ble_eq_true rfl) (Nat.le_of_ble_eq_true rfl) TX8 23 rfl (Nat.le_of_ble_eq_true rfl) (Nat.le_of_ble_eq_true rfl) rfl (Ct.mono h (Nat.le_refl _) (fun r1 M1 h => ?_))
  refine B_if_eq (tgt := 21) dX8_swap_5 (by decide) (fun hc => ?_) (fun hc => ?_)
  · have h := h.1 hc
    refine B_ldc (v := -1000001) dX8_swap_21 lkX8_swap_c72 ?_
    exact B_iret dX8_swap_23 h
  · have h := h.2 hc
    refine B_aload_n dX8_swap_8 0 rfl ?_
    refine B_iload_n dX8_swap_9 2 rfl ?_
    refine B_callV (st := []) 49 [.int v2] dX8_swap_10 gX8_swap_X8_isSaint rfl hyX8_isSaint (Nat.le_of_ble_eq_true rfl) (Nat.le_of_ble_eq_true rfl) TX8 23 rfl (Nat.le_of_ble_eq_true rfl) (Nat.le_of_ble_eq_true rfl) rfl (Ct.mono h (Nat.le_refl _) (fun r2 M2 h => ?_))
    refine B_if_eq (tgt := 21) dX8_swap_13 (by decide) (fun hc => ?_) (fun hc => ?_)
    · have h := h.1 hc
      refine B_ldc (v := -1000001) dX8_swap_21 lkX8_swap_c72 ?_
      exact B_iret dX8_swap_23 h
    · have h := h.2 hc
      refine B_iload_n dX8_swap_16 1 rfl ?_
      refine B_iload_n dX8_swap_17 2 rfl ?_
      refine B_icmp_ne (tgt := 24) dX8_swap_18 (by decide) (fun hc => ?_) (fun hc => ?_)
      · have h := h.1 hc
        refine B_aload_n dX8_swap_24 0 rfl ?_
        refine B_callV (st := []) 49 [] dX8_swap_25 gX8_swap_X8_minds rfl hyX8_minds (Nat.le_of_ble_eq_true rfl) (Nat.le_of_ble_eq_true rfl) TX8 23 rfl (Nat.le_of_ble_eq_true rfl) (Nat.le_of_ble_eq_true rfl) rfl (Ct.mono h (Nat.le_refl _) (fun _r3 M3 h => ?_))
        refine B_aload_n dX8_swap_28 0 rfl ?_
        refine B_iconst (v := 0) dX8_swap_29 (by decide) ?_
        refine B_iload_n dX8_swap_30 1 rfl ?_
        refine B_iload_n dX8_swap_31 2 rfl ?_
        refine B_callV (st := []) 49 [.int (0 : Int32), .int v1, .int v2] dX8_swap_32 gX8_swap_X8_changes rfl hyX8_changes (Nat.le_of_ble_eq_true rfl) (Nat.le_of_ble_eq_true rfl) TX8 23 rfl (Nat.le_of_ble_eq_true rfl) (Nat.le_of_ble_eq_true rfl) rfl (Ct.mono h (Nat.le_refl _) (fun _r4 M4 h => ?_))
        refine B_bipush (v := 10) dX8_swap_35 (by decide) ?_
        refine B_aload_n dX8_swap_37 0 rfl ?_
        refine B_getf (T := TX8) (N := 23) (v := .ref 50) 49 0 dX8_swap_38 inX8_swap_8 lkX8_swap_f7 (Nat.le_of_ble_eq_true rfl) (Nat.le_of_ble_eq_true rfl) rfl rfl (by decide) rfl ?_
        refine B_iconst (v := 3) dX8_swap_41 (by decide) ?_
        refine B_iload_n dX8_swap_42 1 rfl ?_
        refine B_iadd dX8_swap_43 ?_
        obtain ⟨hi, h⟩ := h
        refine B_iald (n := 301) 50 dX8_swap_44 (Nat.le_of_ble_eq_true rfl) rfl rfl hi ?_
        refine B_imul dX8_swap_45 ?_
        refine B_aload_n dX8_swap_46 0 rfl ?_
        refine B_getf (T := TX8) (N := 23) (v := .ref 50) 49 0 dX8_swap_47 inX8_swap_8 lkX8_swap_f7 (Nat.le_of_ble_eq_true rfl) (Nat.le_of_ble_eq_true rfl) rfl rfl (by decide) rfl ?_
        refine B_iconst (v := 3) dX8_swap_50 (by decide) ?_
        refine B_iload_n dX8_swap_51 2 rfl ?_
        refine B_iadd dX8_swap_52 ?_
        obtain ⟨hi, h⟩ := h
        refine B_iald (n := 301) 50 dX8_swap_53 (Nat.le_of_ble_eq_true rfl) rfl rfl hi ?_
        refine B_iadd dX8_swap_54 ?_
        exact B_iret dX8_swap_55 h
      · have h := h.2 hc
        refine B_ldc (v := -1000001) dX8_swap_21 lkX8_swap_c72 ?_
        exact B_iret dX8_swap_23 h
set_option maxHeartbeats 4000000 in
set_option maxRecDepth 100000 in
theorem rX8_night (d : Nat) (v1 : Int32) (M : Mm) (Q : Int32 → Mm → Prop)
    (h : vp_in (0 : Int32) 301 ∧ ((¬ (M 50 (0 : Int32).toNatClampNeg) = 0 → kX8_in d v1.toInt64 (1 : Int64) (9 : Int64) M (fun (r1 : Int32) (M1 : Mm) => ((¬ r1 = 0 → kX8_minds d  M1 (fun (_r2 : Int32) (M2 : Mm) => vp_in (1 : Int32) 301 ∧ vp_in (1 : Int32) 301 ∧ (∀ M3 : Mm, M3 = (upd2 M2 50 (1 : Int32).toNatClampNeg v1) → Q (M2 50 (1 : Int32).toNatClampNeg) M3))) ∧ (r1 = 0 → Q (-1000001 : Int32) M1)))) ∧ ((M 50 (0 : Int32).toNatClampNeg) = 0 → Q (-1000002 : Int32) M))) : kX8_night (d + 1) v1 M Q := by
  refine Ct.of (cc := cX8_night) (nL := 3) (by decide) rfl (Nat.le_of_ble_eq_true rfl) ?_
  show BX8_night (d + 1) 0 [(0, .ref 49), (1, .int v1)] [] M Q
  refine B_aload_n dX8_night_0 0 rfl ?_
  refine B_getf (T := TX8) (N := 23) (v := .ref 50) 49 0 dX8_night_1 inX8_night_8 lkX8_night_f7 (Nat.le_of_ble_eq_true rfl) (Nat.le_of_ble_eq_true rfl) rfl rfl (by decide) rfl ?_
  refine B_iconst (v := 0) dX8_night_4 (by decide) ?_
  obtain ⟨hi, h⟩ := h
  refine B_iald (n := 301) 50 dX8_night_5 (Nat.le_of_ble_eq_true rfl) rfl rfl hi ?_
  refine B_if_ne (tgt := 12) dX8_night_6 (by decide) (fun hc => ?_) (fun hc => ?_)
  · have h := h.1 hc
    refine B_iload_n dX8_night_12 1 rfl ?_
    refine B_i2l dX8_night_13 ?_
    refine B_lconst (v := 1) dX8_night_14 (by decide) ?_
    refine B_ldc2 (v := 9) dX8_night_15 lkX8_night_l161 ?_
    refine B_callS (st := []) [.long v1.toInt64, .long (1 : Int64), .long (9 : Int64)] dX8_night_18 gX8_night_X8_in rfl hyX8_in (Nat.le_of_ble_eq_true rfl) (Nat.le_of_ble_eq_true rfl) rfl (Ct.mono h (Nat.le_refl _) (fun r1 M1 h => ?_))
    refine B_if_ne (tgt := 27) dX8_night_21 (by decide) (fun hc => ?_) (fun hc => ?_)
    · have h := h.1 hc
      refine B_aload_n dX8_night_27 0 rfl ?_
      refine B_callV (st := []) 49 [] dX8_night_28 gX8_night_X8_minds rfl hyX8_minds (Nat.le_of_ble_eq_true rfl) (Nat.le_of_ble_eq_true rfl) TX8 23 rfl (Nat.le_of_ble_eq_true rfl) (Nat.le_of_ble_eq_true rfl) rfl (Ct.mono h (Nat.le_refl _) (fun _r2 M2 h => ?_))
      refine B_aload_n dX8_night_31 0 rfl ?_
      refine B_getf (T := TX8) (N := 23) (v := .ref 50) 49 0 dX8_night_32 inX8_night_8 lkX8_night_f7 (Nat.le_of_ble_eq_true rfl) (Nat.le_of_ble_eq_true rfl) rfl rfl (by decide) rfl ?_
      refine B_iconst (v := 1) dX8_night_35 (by decide) ?_
      obtain ⟨hi, h⟩ := h
      refine B_iald (n := 301) 50 dX8_night_36 (Nat.le_of_ble_eq_true rfl) rfl rfl hi ?_
      refine B_istore_n (lv1 := [(2, .int (M2 50 (1 : Int32).toNatClampNeg)), (0, .ref 49), (1, .int v1)]) dX8_night_37 (by decide) rfl ?_
      refine B_aload_n dX8_night_38 1 rfl ?_
      refine B_getf (T := TX8) (N := 23) (v := .ref 50) 49 0 dX8_night_39 inX8_night_8 lkX8_night_f7 (Nat.le_of_ble_eq_true rfl) (Nat.le_of_ble_eq_true rfl) rfl rfl (by decide) rfl ?_
      refine B_iconst (v := 1) dX8_night_42 (by decide) ?_
      refine B_iload_n dX8_night_43 2 rfl ?_
      obtain ⟨hi, h⟩ := h
      refine B_iast (n := 301) 50 dX8_night_44 (Nat.le_of_ble_eq_true rfl) rfl rfl hi ?_
      have h := h _ rfl
      generalize (upd2 M2 50 (1 : Int32).toNatClampNeg v1) = M3 at h ⊢
      refine B_iload_n dX8_night_45 0 rfl ?_
      exact B_iret dX8_night_46 h
    · have h := h.2 hc
      refine B_ldc (v := -1000001) dX8_night_24 lkX8_night_c72 ?_
      exact B_iret dX8_night_26 h
  · have h := h.2 hc
    refine B_ldc (v := -1000002) dX8_night_9 lkX8_night_c149 ?_
    exact B_iret dX8_night_11 h
set_option maxHeartbeats 4000000 in
set_option maxRecDepth 100000 in
theorem rX8_undo (d : Nat)  (M : Mm) (Q : Int32 → Mm → Prop)
    (h : ((¬ (M 49 1) = 0 → (∀ M1 : Mm, M1 = (upd2 M 49 1 ((M 49 1) - (1 : Int32))) → kX8_copyOf d ((85 : Int32) + ((9 : Int32) * (M1 49 1))) (1 : Int32) (9 : Int32) M1 (fun (_r1 : Int32) (M2 : Mm) => Q (M2 49 1) M2))) ∧ ((M 49 1) = 0 → Q (-1000002 : Int32) M))) : kX8_undo (d + 1)  M Q := by
  refine Ct.of (cc := cX8_undo) (nL := 1) (by decide) rfl (Nat.le_of_ble_eq_true rfl) ?_
  show BX8_undo (d + 1) 0 [(0, .ref 49)] [] M Q
  refine B_aload_n dX8_undo_0 0 rfl ?_
  refine B_getf (T := TX8) (N := 23) (v := .int (M 49 1)) 49 1 dX8_undo_1 inX8_undo_8 lkX8_undo_f136 (Nat.le_of_ble_eq_true rfl) (Nat.le_of_ble_eq_true rfl) rfl rfl (by decide) rfl ?_
  refine B_if_ne (tgt := 10) dX8_undo_4 (by decide) (fun hc => ?_) (fun hc => ?_)
  · have h := h.1 hc
    refine B_aload_n dX8_undo_10 0 rfl ?_
    refine B_dup dX8_undo_11 rfl ?_
    refine B_getf (T := TX8) (N := 23) (v := .int (M 49 1)) 49 1 dX8_undo_12 inX8_undo_8 lkX8_undo_f136 (Nat.le_of_ble_eq_true rfl) (Nat.le_of_ble_eq_true rfl) rfl rfl (by decide) rfl ?_
    refine B_iconst (v := 1) dX8_undo_15 (by decide) ?_
    refine B_isub dX8_undo_16 ?_
    refine B_putf (T := TX8) (N := 23) 49 1 tyX8 tyX8_ok nmX8 dX8_undo_17 inX8_undo_8 lkX8_undo_f136 (Nat.le_of_ble_eq_true rfl) (Nat.le_of_ble_eq_true rfl) rfl rfl (by decide) rfl rfl (by decide +kernel) ?_
    have h := h _ rfl
    generalize (upd2 M 49 1 ((M 49 1) - (1 : Int32))) = M1 at h ⊢
    refine B_aload_n dX8_undo_20 0 rfl ?_
    refine B_bipush (v := 85) dX8_undo_21 (by decide) ?_
    refine B_bipush (v := 9) dX8_undo_23 (by decide) ?_
    refine B_aload_n dX8_undo_25 0 rfl ?_
    refine B_getf (T := TX8) (N := 23) (v := .int (M1 49 1)) 49 1 dX8_undo_26 inX8_undo_8 lkX8_undo_f136 (Nat.le_of_ble_eq_true rfl) (Nat.le_of_ble_eq_true rfl) rfl rfl (by decide) rfl ?_
    refine B_imul dX8_undo_29 ?_
    refine B_iadd dX8_undo_30 ?_
    refine B_iconst (v := 1) dX8_undo_31 (by decide) ?_
    refine B_bipush (v := 9) dX8_undo_32 (by decide) ?_
    refine B_callV (st := []) 49 [.int ((85 : Int32) + ((9 : Int32) * (M1 49 1))), .int (1 : Int32), .int (9 : Int32)] dX8_undo_34 gX8_undo_X8_copyOf rfl hyX8_copyOf (Nat.le_of_ble_eq_true rfl) (Nat.le_of_ble_eq_true rfl) TX8 23 rfl (Nat.le_of_ble_eq_true rfl) (Nat.le_of_ble_eq_true rfl) rfl (Ct.mono h (Nat.le_refl _) (fun _r1 M2 h => ?_))
    refine B_aload_n dX8_undo_37 0 rfl ?_
    refine B_getf (T := TX8) (N := 23) (v := .int (M2 49 1)) 49 1 dX8_undo_38 inX8_undo_8 lkX8_undo_f136 (Nat.le_of_ble_eq_true rfl) (Nat.le_of_ble_eq_true rfl) rfl rfl (by decide) rfl ?_
    exact B_iret dX8_undo_41 h
  · have h := h.2 hc
    refine B_ldc (v := -1000002) dX8_undo_7 lkX8_undo_c149 ?_
    exact B_iret dX8_undo_9 h
set_option maxHeartbeats 4000000 in
set_option maxRecDepth 100000 in
theorem rX8_saint (d : Nat) (v1 : Int32) (v2 : Int32) (M : Mm) (Q : Int32 → Mm → Prop)
    (h : kX8_isSaint d v1 M (fun (r1 : Int32) (M1 : Mm) => ((r1 = 0 → Q (-1000001 : Int32) M1) ∧ (¬ r1 = 0 → kX8_in d v2.toInt64 (0 : Int64) (1 : Int64) M1 (fun (r2 : Int32) (M2 : Mm) => ((¬ r2 = 0 → ((¬ v2 = 0 → kX8_lets d (0 : Int32) v1 M2 (fun (r3 : Int32) (M3 : Mm) => ((r3 = 0 → Q (0 : Int32) M3) ∧ (¬ r3 = 0 → Q (1 : Int32) M3)))) ∧ (v2 = 0 → vp_in ((3 : Int32) + v1) 301 ∧ Q (M2 50 ((3 : Int32) + v1).toNatClampNeg) M2))) ∧ (r2 = 0 → Q (-1000001 : Int32) M2))))))) : kX8_saint (d + 1) v1 v2 M Q := by
  refine Ct.of (cc := cX8_saint) (nL := 3) (by decide) rfl (Nat.le_of_ble_eq_true rfl) ?_
  show BX8_saint (d + 1) 0 [(0, .ref 49), (1, .int v1), (2, .int v2)] [] M Q
  refine B_aload_n dX8_saint_0 0 rfl ?_
  refine B_iload_n dX8_saint_1 1 rfl ?_
  refine B_callV (st := []) 49 [.int v1] dX8_saint_2 gX8_saint_X8_isSaint rfl hyX8_isSaint (Nat.le_of_ble_eq_true rfl) (Nat.le_of_ble_eq_true rfl) TX8 23 rfl (Nat.le_of_ble_eq_true rfl) (Nat.le_of_ble_eq_true rfl) rfl (Ct.mono h (Nat.le_refl _) (fun r1 M1 h => ?_))
  refine B_if_eq (tgt := 18) dX8_saint_5 (by decide) (fun hc => ?_) (fun hc => ?_)
  · have h := h.1 hc
    refine B_ldc (v := -1000001) dX8_saint_18 lkX8_saint_c72 ?_
    exact B_iret dX8_saint_20 h
  · have h := h.2 hc
    refine B_iload_n dX8_saint_8 2 rfl ?_
    refine B_i2l dX8_saint_9 ?_
    refine B_lconst (v := 0) dX8_saint_10 (by decide) ?_
    refine B_lconst (v := 1) dX8_saint_11 (by decide) ?_
    refine B_callS (st := []) [.long v2.toInt64, .long (0 : Int64), .long (1 : Int64)] dX8_saint_12 gX8_saint_X8_in rfl hyX8_in (Nat.le_of_ble_eq_true rfl) (Nat.le_of_ble_eq_true rfl) rfl (Ct.mono h (Nat.le_refl _) (fun r2 M2 h => ?_))
    refine B_if_ne (tgt := 21) dX8_saint_15 (by decide) (fun hc => ?_) (fun hc => ?_)
    · have h := h.1 hc
      refine B_iload_n dX8_saint_21 2 rfl ?_
      refine B_if_ne (tgt := 36) dX8_saint_22 (by decide) (fun hc => ?_) (fun hc => ?_)
      · have h := h.1 hc
        refine B_aload_n dX8_saint_36 0 rfl ?_
        refine B_iconst (v := 0) dX8_saint_37 (by decide) ?_
        refine B_iload_n dX8_saint_38 1 rfl ?_
        refine B_callV (st := []) 49 [.int (0 : Int32), .int v1] dX8_saint_39 gX8_saint_X8_lets rfl hyX8_lets (Nat.le_of_ble_eq_true rfl) (Nat.le_of_ble_eq_true rfl) TX8 23 rfl (Nat.le_of_ble_eq_true rfl) (Nat.le_of_ble_eq_true rfl) rfl (Ct.mono h (Nat.le_refl _) (fun r3 M3 h => ?_))
        refine B_if_eq (tgt := 49) dX8_saint_42 (by decide) (fun hc => ?_) (fun hc => ?_)
        · have h := h.1 hc
          refine B_iconst (v := 0) dX8_saint_49 (by decide) ?_
          exact B_iret dX8_saint_50 h
        · have h := h.2 hc
          refine B_iconst (v := 1) dX8_saint_45 (by decide) ?_
          refine B_goto (tgt := 50) dX8_saint_46 (by decide) ?_
          exact B_iret dX8_saint_50 h
      · have h := h.2 hc
        refine B_aload_n dX8_saint_25 0 rfl ?_
        refine B_getf (T := TX8) (N := 23) (v := .ref 50) 49 0 dX8_saint_26 inX8_saint_8 lkX8_saint_f7 (Nat.le_of_ble_eq_true rfl) (Nat.le_of_ble_eq_true rfl) rfl rfl (by decide) rfl ?_
        refine B_iconst (v := 3) dX8_saint_29 (by decide) ?_
        refine B_iload_n dX8_saint_30 1 rfl ?_
        refine B_iadd dX8_saint_31 ?_
        obtain ⟨hi, h⟩ := h
        refine B_iald (n := 301) 50 dX8_saint_32 (Nat.le_of_ble_eq_true rfl) rfl rfl hi ?_
        refine B_goto (tgt := 50) dX8_saint_33 (by decide) ?_
        exact B_iret dX8_saint_50 h
    · have h := h.2 hc
      refine B_ldc (v := -1000001) dX8_saint_18 lkX8_saint_c72 ?_
      exact B_iret dX8_saint_20 h
set_option maxHeartbeats 4000000 in
set_option maxRecDepth 100000 in
theorem rX8_holderIn (d : Nat) (v1 : Int32) (v2 : Int32) (M : Mm) (Q : Int32 → Mm → Prop)
    (h : BX8_holderIn d 2 [(0, .ref 49), (1, .int v1), (2, .int v2), (3, .int (0 : Int32))] [] M Q) : kX8_holderIn d v1 v2 M Q := by
  refine Ct.of (cc := cX8_holderIn) (nL := 4) (by decide) rfl (Nat.le_of_ble_eq_true rfl) ?_
  show BX8_holderIn d 0 [(0, .ref 49), (1, .int v1), (2, .int v2)] [] M Q
  refine B_iconst (v := 0) dX8_holderIn_0 (by decide) ?_
  refine B_istore_n (lv1 := [(3, .int (0 : Int32)), (0, .ref 49), (1, .int v1), (2, .int v2)]) dX8_holderIn_1 (by decide) rfl ?_
  refine B_weak [1, 2, 3, 0] rfl ?_
  exact h
set_option maxHeartbeats 4000000 in
set_option maxRecDepth 100000 in
theorem rX8_holderIn_2 (d : Nat) (v1 : Int32) (v2 : Int32) (v3 : Int32) (M : Mm) (Q : Int32 → Mm → Prop)
    (h : vp_in (v1 + (0 : Int32)) 301 ∧ (((M 50 (v1 + (0 : Int32)).toNatClampNeg) ≤ v3 → Q (-1000000 : Int32) M) ∧ (¬ (M 50 (v1 + (0 : Int32)).toNatClampNeg) ≤ v3 → vp_in ((v1 + (3 : Int32)) + v3) 301 ∧ ((¬ (M 50 ((v1 + (3 : Int32)) + v3).toNatClampNeg) = v2 → BX8_holderIn d 2 [(0, .ref 49), (1, .int v1), (2, .int v2), (3, .int (v3 + (1 : Int32)))] [] M Q) ∧ ((M 50 ((v1 + (3 : Int32)) + v3).toNatClampNeg) = v2 → Q v3 M))))) : BX8_holderIn d 2 [(0, .ref 49), (1, .int v1), (2, .int v2), (3, .int v3)] [] M Q := by
  refine B_iload_n dX8_holderIn_2 3 rfl ?_
  refine B_aload_n dX8_holderIn_3 0 rfl ?_
  refine B_getf (T := TX8) (N := 23) (v := .ref 50) 49 0 dX8_holderIn_4 inX8_holderIn_8 lkX8_holderIn_f7 (Nat.le_of_ble_eq_true rfl) (Nat.le_of_ble_eq_true rfl) rfl rfl (by decide) rfl ?_
  refine B_iload_n dX8_holderIn_7 1 rfl ?_
  refine B_iconst (v := 0) dX8_holderIn_8 (by decide) ?_
  refine B_iadd dX8_holderIn_9 ?_
  obtain ⟨hi, h⟩ := h
  refine B_iald (n := 301) 50 dX8_holderIn_10 (Nat.le_of_ble_eq_true rfl) rfl rfl hi ?_
  refine B_icmp_ge (tgt := 36) dX8_holderIn_11 (by decide) (fun hc => ?_) (fun hc => ?_)
  · have h := h.1 hc
    refine B_ldc (v := -1000000) dX8_holderIn_36 lkX8_holderIn_c163 ?_
    exact B_iret dX8_holderIn_38 h
  · have h := h.2 hc
    refine B_aload_n dX8_holderIn_14 0 rfl ?_
    refine B_getf (T := TX8) (N := 23) (v := .ref 50) 49 0 dX8_holderIn_15 inX8_holderIn_8 lkX8_holderIn_f7 (Nat.le_of_ble_eq_true rfl) (Nat.le_of_ble_eq_true rfl) rfl rfl (by decide) rfl ?_
    refine B_iload_n dX8_holderIn_18 1 rfl ?_
    refine B_iconst (v := 3) dX8_holderIn_19 (by decide) ?_
    refine B_iadd dX8_holderIn_20 ?_
    refine B_iload_n dX8_holderIn_21 3 rfl ?_
    refine B_iadd dX8_holderIn_22 ?_
    obtain ⟨hi, h⟩ := h
    refine B_iald (n := 301) 50 dX8_holderIn_23 (Nat.le_of_ble_eq_true rfl) rfl rfl hi ?_
    refine B_iload_n dX8_holderIn_24 2 rfl ?_
    refine B_icmp_ne (tgt := 30) dX8_holderIn_25 (by decide) (fun hc => ?_) (fun hc => ?_)
    · have h := h.1 hc
      refine B_iinc (lv1 := [(3, .int (v3 + (1 : Int32))), (0, .ref 49), (1, .int v1), (2, .int v2)]) (v := (v3 + (1 : Int32))) dX8_holderIn_30 3 rfl rfl (by decide) rfl ?_
      refine B_goto (tgt := 2) dX8_holderIn_33 (by decide) ?_
      refine B_weak [1, 2, 3, 0] rfl ?_
      exact h
    · have h := h.2 hc
      refine B_iload_n dX8_holderIn_28 3 rfl ?_
      exact B_iret dX8_holderIn_29 h
set_option maxHeartbeats 4000000 in
set_option maxRecDepth 100000 in
theorem rX8_holder (d : Nat) (v1 : Int32) (M : Mm) (Q : Int32 → Mm → Prop)
    (h : kX8_in d v1.toInt64 (1 : Int64) (9 : Int64) M (fun (r1 : Int32) (M1 : Mm) => ((r1 = 0 → Q (-1000001 : Int32) M1) ∧ (¬ r1 = 0 → kX8_holderIn d (0 : Int32) v1 M1 (fun (r2 : Int32) (M2 : Mm) => Q r2 M2))))) : kX8_holder (d + 1) v1 M Q := by
  refine Ct.of (cc := cX8_holder) (nL := 2) (by decide) rfl (Nat.le_of_ble_eq_true rfl) ?_
  show BX8_holder (d + 1) 0 [(0, .ref 49), (1, .int v1)] [] M Q
  refine B_iload_n dX8_holder_0 1 rfl ?_
  refine B_i2l dX8_holder_1 ?_
  refine B_lconst (v := 1) dX8_holder_2 (by decide) ?_
  refine B_ldc2 (v := 9) dX8_holder_3 lkX8_holder_l161 ?_
  refine B_callS (st := []) [.long v1.toInt64, .long (1 : Int64), .long (9 : Int64)] dX8_holder_6 gX8_holder_X8_in rfl hyX8_in (Nat.le_of_ble_eq_true rfl) (Nat.le_of_ble_eq_true rfl) rfl (Ct.mono h (Nat.le_refl _) (fun r1 M1 h => ?_))
  refine B_if_eq (tgt := 21) dX8_holder_9 (by decide) (fun hc => ?_) (fun hc => ?_)
  · have h := h.1 hc
    refine B_ldc (v := -1000001) dX8_holder_21 lkX8_holder_c72 ?_
    exact B_iret dX8_holder_23 h
  · have h := h.2 hc
    refine B_aload_n dX8_holder_12 0 rfl ?_
    refine B_iconst (v := 0) dX8_holder_13 (by decide) ?_
    refine B_iload_n dX8_holder_14 1 rfl ?_
    refine B_callV (st := []) 49 [.int (0 : Int32), .int v1] dX8_holder_15 gX8_holder_X8_holderIn rfl hyX8_holderIn (Nat.le_of_ble_eq_true rfl) (Nat.le_of_ble_eq_true rfl) TX8 23 rfl (Nat.le_of_ble_eq_true rfl) (Nat.le_of_ble_eq_true rfl) rfl (Ct.mono h (Nat.le_refl _) (fun r2 M2 h => ?_))
    refine B_goto (tgt := 23) dX8_holder_18 (by decide) ?_
    exact B_iret dX8_holder_23 h
set_option maxHeartbeats 4000000 in
set_option maxRecDepth 100000 in
theorem rX8_tries (d : Nat)  (M : Mm) (Q : Int32 → Mm → Prop)
    (h : kX8_copyOf d (0 : Int32) (17 : Int32) (17 : Int32) M (fun (_r1 : Int32) (M1 : Mm) => Q 0 M1)) : kX8_tries (d + 1)  M Q := by
  refine Ct.of (cc := cX8_tries) (nL := 1) (by decide) rfl (Nat.le_of_ble_eq_true rfl) ?_
  show BX8_tries (d + 1) 0 [(0, .ref 49)] [] M Q
  refine B_aload_n dX8_tries_0 0 rfl ?_
  refine B_iconst (v := 0) dX8_tries_1 (by decide) ?_
  refine B_bipush (v := 17) dX8_tries_2 (by decide) ?_
  refine B_bipush (v := 17) dX8_tries_4 (by decide) ?_
  refine B_callV (st := []) 49 [.int (0 : Int32), .int (17 : Int32), .int (17 : Int32)] dX8_tries_6 gX8_tries_X8_copyOf rfl hyX8_copyOf (Nat.le_of_ble_eq_true rfl) (Nat.le_of_ble_eq_true rfl) TX8 23 rfl (Nat.le_of_ble_eq_true rfl) (Nat.le_of_ble_eq_true rfl) rfl (Ct.mono h (Nat.le_refl _) (fun _r1 M1 h => ?_))
  exact B_vret dX8_tries_9 h
set_option maxHeartbeats 4000000 in
set_option maxRecDepth 100000 in
theorem rX8_goesOn (d : Nat) (v1 : Int32) (M : Mm) (Q : Int32 → Mm → Prop)
    (h : BX8_goesOn (d + 1) 2 [(0, .ref 49), (1, .int v1), (2, .int (0 : Int32))] [] M Q) : kX8_goesOn (d + 1) v1 M Q := by
  refine Ct.of (cc := cX8_goesOn) (nL := 3) (by decide) rfl (Nat.le_of_ble_eq_true rfl) ?_
  show BX8_goesOn (d + 1) 0 [(0, .ref 49), (1, .int v1)] [] M Q
  refine B_iconst (v := 0) dX8_goesOn_0 (by decide) ?_
  refine B_istore_n (lv1 := [(2, .int (0 : Int32)), (0, .ref 49), (1, .int v1)]) dX8_goesOn_1 (by decide) rfl ?_
  refine B_weak [1, 2, 0] rfl ?_
  exact h
set_option maxHeartbeats 4000000 in
set_option maxRecDepth 100000 in
theorem rX8_goesOn_2 (d : Nat) (v1 : Int32) (v2 : Int32) (M : Mm) (Q : Int32 → Mm → Prop)
    (h : ((v1 ≤ v2 → Q 0 M) ∧ (¬ v1 ≤ v2 → kX8_stepsBy d (17 : Int32) (0 : Int32) M (fun (_r1 : Int32) (M1 : Mm) => BX8_goesOn (d + 1) 2 [(0, .ref 49), (1, .int v1), (2, .int (v2 + (1 : Int32)))] [] M1 Q)))) : BX8_goesOn (d + 1) 2 [(0, .ref 49), (1, .int v1), (2, .int v2)] [] M Q := by
  refine B_iload_n dX8_goesOn_2 2 rfl ?_
  refine B_iload_n dX8_goesOn_3 1 rfl ?_
  refine B_icmp_ge (tgt := 20) dX8_goesOn_4 (by decide) (fun hc => ?_) (fun hc => ?_)
  · have h := h.1 hc
    exact B_vret dX8_goesOn_20 h
  · have h := h.2 hc
    refine B_aload_n dX8_goesOn_7 0 rfl ?_
    refine B_bipush (v := 17) dX8_goesOn_8 (by decide) ?_
    refine B_iconst (v := 0) dX8_goesOn_10 (by decide) ?_
    refine B_callV (st := []) 49 [.int (17 : Int32), .int (0 : Int32)] dX8_goesOn_11 gX8_goesOn_X8_stepsBy rfl hyX8_stepsBy (Nat.le_of_ble_eq_true rfl) (Nat.le_of_ble_eq_true rfl) TX8 23 rfl (Nat.le_of_ble_eq_true rfl) (Nat.le_of_ble_eq_true rfl) rfl (Ct.mono h (Nat.le_refl _) (fun _r1 M1 h => ?_))
    refine B_iinc (lv1 := [(2, .int (v2 + (1 : Int32))), (0, .ref 49), (1, .int v1)]) (v := (v2 + (1 : Int32))) dX8_goesOn_14 2 rfl rfl (by decide) rfl ?_
    refine B_goto (tgt := 2) dX8_goesOn_17 (by decide) ?_
    refine B_weak [1, 2, 0] rfl ?_
    exact h
set_option maxHeartbeats 4000000 in
set_option maxRecDepth 100000 in
theorem rX8_ahead (d : Nat) (v1 : Int32) (v2 : Int32) (M : Mm) (Q : Int32 → Mm → Prop)
    (h : kX8_isSaint d v1 M (fun (r1 : Int32) (M1 : Mm) => ((r1 = 0 → Q (-1000001 : Int32) M1) ∧ (¬ r1 = 0 → kX8_in d v2.toInt64 (0 : Int64) (60 : Int64) M1 (fun (r2 : Int32) (M2 : Mm) => ((¬ r2 = 0 → kX8_tries d  M2 (fun (_r3 : Int32) (M3 : Mm) => kX8_goesOn d v2 M3 (fun (_r4 : Int32) (M4 : Mm) => vp_in ((20 : Int32) + v1) 301 ∧ Q (M4 50 ((20 : Int32) + v1).toNatClampNeg) M4))) ∧ (r2 = 0 → Q (-1000001 : Int32) M2))))))) : kX8_ahead (d + 1) v1 v2 M Q := by
  refine Ct.of (cc := cX8_ahead) (nL := 3) (by decide) rfl (Nat.le_of_ble_eq_true rfl) ?_
  show BX8_ahead (d + 1) 0 [(0, .ref 49), (1, .int v1), (2, .int v2)] [] M Q
  refine B_aload_n dX8_ahead_0 0 rfl ?_
  refine B_iload_n dX8_ahead_1 1 rfl ?_
  refine B_callV (st := []) 49 [.int v1] dX8_ahead_2 gX8_ahead_X8_isSaint rfl hyX8_isSaint (Nat.le_of_ble_eq_true rfl) (Nat.le_of_ble_eq_true rfl) TX8 23 rfl (Nat.le_of_ble_eq_true rfl) (Nat.le_of_ble_eq_true rfl) rfl (Ct.mono h (Nat.le_refl _) (fun r1 M1 h => ?_))
  refine B_if_eq (tgt := 20) dX8_ahead_5 (by decide) (fun hc => ?_) (fun hc => ?_)
  · have h := h.1 hc
    refine B_ldc (v := -1000001) dX8_ahead_20 lkX8_ahead_c72 ?_
    exact B_iret dX8_ahead_22 h
  · have h := h.2 hc
    refine B_iload_n dX8_ahead_8 2 rfl ?_
    refine B_i2l dX8_ahead_9 ?_
    refine B_lconst (v := 0) dX8_ahead_10 (by decide) ?_
    refine B_ldc2 (v := 60) dX8_ahead_11 lkX8_ahead_l168 ?_
    refine B_callS (st := []) [.long v2.toInt64, .long (0 : Int64), .long (60 : Int64)] dX8_ahead_14 gX8_ahead_X8_in rfl hyX8_in (Nat.le_of_ble_eq_true rfl) (Nat.le_of_ble_eq_true rfl) rfl (Ct.mono h (Nat.le_refl _) (fun r2 M2 h => ?_))
    refine B_if_ne (tgt := 23) dX8_ahead_17 (by decide) (fun hc => ?_) (fun hc => ?_)
    · have h := h.1 hc
      refine B_aload_n dX8_ahead_23 0 rfl ?_
      refine B_callV (st := []) 49 [] dX8_ahead_24 gX8_ahead_X8_tries rfl hyX8_tries (Nat.le_of_ble_eq_true rfl) (Nat.le_of_ble_eq_true rfl) TX8 23 rfl (Nat.le_of_ble_eq_true rfl) (Nat.le_of_ble_eq_true rfl) rfl (Ct.mono h (Nat.le_refl _) (fun _r3 M3 h => ?_))
      refine B_aload_n dX8_ahead_27 0 rfl ?_
      refine B_iload_n dX8_ahead_28 2 rfl ?_
      refine B_callV (st := []) 49 [.int v2] dX8_ahead_29 gX8_ahead_X8_goesOn rfl hyX8_goesOn (Nat.le_of_ble_eq_true rfl) (Nat.le_of_ble_eq_true rfl) TX8 23 rfl (Nat.le_of_ble_eq_true rfl) (Nat.le_of_ble_eq_true rfl) rfl (Ct.mono h (Nat.le_refl _) (fun _r4 M4 h => ?_))
      refine B_aload_n dX8_ahead_32 0 rfl ?_
      refine B_getf (T := TX8) (N := 23) (v := .ref 50) 49 0 dX8_ahead_33 inX8_ahead_8 lkX8_ahead_f7 (Nat.le_of_ble_eq_true rfl) (Nat.le_of_ble_eq_true rfl) rfl rfl (by decide) rfl ?_
      refine B_bipush (v := 20) dX8_ahead_36 (by decide) ?_
      refine B_iload_n dX8_ahead_38 1 rfl ?_
      refine B_iadd dX8_ahead_39 ?_
      obtain ⟨hi, h⟩ := h
      refine B_iald (n := 301) 50 dX8_ahead_40 (Nat.le_of_ble_eq_true rfl) rfl rfl hi ?_
      exact B_iret dX8_ahead_41 h
    · have h := h.2 hc
      refine B_ldc (v := -1000001) dX8_ahead_20 lkX8_ahead_c72 ?_
      exact B_iret dX8_ahead_22 h
set_option maxHeartbeats 4000000 in
set_option maxRecDepth 100000 in
theorem rX8_when (d : Nat) (v1 : Int32) (v2 : Int32) (M : Mm) (Q : Int32 → Mm → Prop)
    (h : kX8_isSaint d v1 M (fun (r1 : Int32) (M1 : Mm) => ((r1 = 0 → Q (-1000001 : Int32) M1) ∧ (¬ r1 = 0 → kX8_in d v2.toInt64 (1 : Int64) (9 : Int64) M1 (fun (r2 : Int32) (M2 : Mm) => ((¬ r2 = 0 → kX8_tries d  M2 (fun (_r3 : Int32) (M3 : Mm) => BX8_when (d + 1) 29 [(0, .ref 49), (1, .int v1), (2, .int v2), (3, .int (0 : Int32))] [] M3 Q)) ∧ (r2 = 0 → Q (-1000001 : Int32) M2))))))) : kX8_when (d + 1) v1 v2 M Q := by
  refine Ct.of (cc := cX8_when) (nL := 4) (by decide) rfl (Nat.le_of_ble_eq_true rfl) ?_
  show BX8_when (d + 1) 0 [(0, .ref 49), (1, .int v1), (2, .int v2)] [] M Q
  refine B_aload_n dX8_when_0 0 rfl ?_
  refine B_iload_n dX8_when_1 1 rfl ?_
  refine B_callV (st := []) 49 [.int v1] dX8_when_2 gX8_when_X8_isSaint rfl hyX8_isSaint (Nat.le_of_ble_eq_true rfl) (Nat.le_of_ble_eq_true rfl) TX8 23 rfl (Nat.le_of_ble_eq_true rfl) (Nat.le_of_ble_eq_true rfl) rfl (Ct.mono h (Nat.le_refl _) (fun r1 M1 h => ?_))
  refine B_if_eq (tgt := 20) dX8_when_5 (by decide) (fun hc => ?_) (fun hc => ?_)
  · have h := h.1 hc
    refine B_ldc (v := -1000001) dX8_when_20 lkX8_when_c72 ?_
    exact B_iret dX8_when_22 h
  · have h := h.2 hc
    refine B_iload_n dX8_when_8 2 rfl ?_
    refine B_i2l dX8_when_9 ?_
    refine B_lconst (v := 1) dX8_when_10 (by decide) ?_
    refine B_ldc2 (v := 9) dX8_when_11 lkX8_when_l161 ?_
    refine B_callS (st := []) [.long v2.toInt64, .long (1 : Int64), .long (9 : Int64)] dX8_when_14 gX8_when_X8_in rfl hyX8_in (Nat.le_of_ble_eq_true rfl) (Nat.le_of_ble_eq_true rfl) rfl (Ct.mono h (Nat.le_refl _) (fun r2 M2 h => ?_))
    refine B_if_ne (tgt := 23) dX8_when_17 (by decide) (fun hc => ?_) (fun hc => ?_)
    · have h := h.1 hc
      refine B_aload_n dX8_when_23 0 rfl ?_
      refine B_callV (st := []) 49 [] dX8_when_24 gX8_when_X8_tries rfl hyX8_tries (Nat.le_of_ble_eq_true rfl) (Nat.le_of_ble_eq_true rfl) TX8 23 rfl (Nat.le_of_ble_eq_true rfl) (Nat.le_of_ble_eq_true rfl) rfl (Ct.mono h (Nat.le_refl _) (fun _r3 M3 h => ?_))
      refine B_iconst (v := 0) dX8_when_27 (by decide) ?_
      refine B_istore_n (lv1 := [(3, .int (0 : Int32)), (0, .ref 49), (1, .int v1), (2, .int v2)]) dX8_when_28 (by decide) rfl ?_
      refine B_weak [1, 2, 3, 0] rfl ?_
      exact h
    · have h := h.2 hc
      refine B_ldc (v := -1000001) dX8_when_20 lkX8_when_c72 ?_
      exact B_iret dX8_when_22 h
set_option maxHeartbeats 4000000 in
set_option maxRecDepth 100000 in
theorem rX8_when_29 (d : Nat) (v1 : Int32) (v2 : Int32) (v3 : Int32) (M : Mm) (Q : Int32 → Mm → Prop)
    (h : (((60 : Int32) < v3 → Q (-1000000 : Int32) M) ∧ (¬ (60 : Int32) < v3 → vp_in ((20 : Int32) + v1) 301 ∧ ((¬ (M 50 ((20 : Int32) + v1).toNatClampNeg) = v2 → kX8_stepsBy d (17 : Int32) (0 : Int32) M (fun (_r1 : Int32) (M1 : Mm) => BX8_when (d + 1) 29 [(0, .ref 49), (1, .int v1), (2, .int v2), (3, .int (v3 + (1 : Int32)))] [] M1 Q)) ∧ ((M 50 ((20 : Int32) + v1).toNatClampNeg) = v2 → Q v3 M))))) : BX8_when (d + 1) 29 [(0, .ref 49), (1, .int v1), (2, .int v2), (3, .int v3)] [] M Q := by
  refine B_iload_n dX8_when_29 3 rfl ?_
  refine B_bipush (v := 60) dX8_when_30 (by decide) ?_
  refine B_icmp_gt (tgt := 63) dX8_when_32 (by decide) (fun hc => ?_) (fun hc => ?_)
  · have h := h.1 hc
    refine B_ldc (v := -1000000) dX8_when_63 lkX8_when_c163 ?_
    exact B_iret dX8_when_65 h
  · have h := h.2 hc
    refine B_aload_n dX8_when_35 0 rfl ?_
    refine B_getf (T := TX8) (N := 23) (v := .ref 50) 49 0 dX8_when_36 inX8_when_8 lkX8_when_f7 (Nat.le_of_ble_eq_true rfl) (Nat.le_of_ble_eq_true rfl) rfl rfl (by decide) rfl ?_
    refine B_bipush (v := 20) dX8_when_39 (by decide) ?_
    refine B_iload_n dX8_when_41 1 rfl ?_
    refine B_iadd dX8_when_42 ?_
    obtain ⟨hi, h⟩ := h
    refine B_iald (n := 301) 50 dX8_when_43 (Nat.le_of_ble_eq_true rfl) rfl rfl hi ?_
    refine B_iload_n dX8_when_44 2 rfl ?_
    refine B_icmp_ne (tgt := 50) dX8_when_45 (by decide) (fun hc => ?_) (fun hc => ?_)
    · have h := h.1 hc
      refine B_aload_n dX8_when_50 0 rfl ?_
      refine B_bipush (v := 17) dX8_when_51 (by decide) ?_
      refine B_iconst (v := 0) dX8_when_53 (by decide) ?_
      refine B_callV (st := []) 49 [.int (17 : Int32), .int (0 : Int32)] dX8_when_54 gX8_when_X8_stepsBy rfl hyX8_stepsBy (Nat.le_of_ble_eq_true rfl) (Nat.le_of_ble_eq_true rfl) TX8 23 rfl (Nat.le_of_ble_eq_true rfl) (Nat.le_of_ble_eq_true rfl) rfl (Ct.mono h (Nat.le_refl _) (fun _r1 M1 h => ?_))
      refine B_iinc (lv1 := [(3, .int (v3 + (1 : Int32))), (0, .ref 49), (1, .int v1), (2, .int v2)]) (v := (v3 + (1 : Int32))) dX8_when_57 3 rfl rfl (by decide) rfl ?_
      refine B_goto (tgt := 29) dX8_when_60 (by decide) ?_
      refine B_weak [1, 2, 3, 0] rfl ?_
      exact h
    · have h := h.2 hc
      refine B_iload_n dX8_when_48 3 rfl ?_
      exact B_iret dX8_when_49 h
set_option maxHeartbeats 4000000 in
set_option maxRecDepth 100000 in
theorem rX8_toMatins (d : Nat)  (M : Mm) (Q : Int32 → Mm → Prop)
    (h : kX8_stepsBy d (17 : Int32) (0 : Int32) M (fun (_r1 : Int32) (M1 : Mm) => BX8_toMatins (d + 1) 7 [(0, .ref 49)] [] M1 Q)) : kX8_toMatins (d + 1)  M Q := by
  refine Ct.of (cc := cX8_toMatins) (nL := 1) (by decide) rfl (Nat.le_of_ble_eq_true rfl) ?_
  show BX8_toMatins (d + 1) 0 [(0, .ref 49)] [] M Q
  refine B_aload_n dX8_toMatins_0 0 rfl ?_
  refine B_bipush (v := 17) dX8_toMatins_1 (by decide) ?_
  refine B_iconst (v := 0) dX8_toMatins_3 (by decide) ?_
  refine B_callV (st := []) 49 [.int (17 : Int32), .int (0 : Int32)] dX8_toMatins_4 gX8_toMatins_X8_stepsBy rfl hyX8_stepsBy (Nat.le_of_ble_eq_true rfl) (Nat.le_of_ble_eq_true rfl) TX8 23 rfl (Nat.le_of_ble_eq_true rfl) (Nat.le_of_ble_eq_true rfl) rfl (Ct.mono h (Nat.le_refl _) (fun _r1 M1 h => ?_))
  refine B_weak [0] rfl ?_
  exact h
set_option maxHeartbeats 4000000 in
set_option maxRecDepth 100000 in
theorem rX8_toMatins_7 (d : Nat)  (M : Mm) (Q : Int32 → Mm → Prop)
    (h : vp_in (19 : Int32) 301 ∧ vp_in (18 : Int32) 301 ∧ ¬ (M 50 (18 : Int32).toNatClampNeg) = 0 ∧ (((irem (M 50 (19 : Int32).toNatClampNeg) (M 50 (18 : Int32).toNatClampNeg)) = 0 → Q 0 M) ∧ (¬ (irem (M 50 (19 : Int32).toNatClampNeg) (M 50 (18 : Int32).toNatClampNeg)) = 0 → kX8_stepsBy d (17 : Int32) (0 : Int32) M (fun (_r1 : Int32) (M1 : Mm) => BX8_toMatins (d + 1) 7 [(0, .ref 49)] [] M1 Q)))) : BX8_toMatins (d + 1) 7 [(0, .ref 49)] [] M Q := by
  refine B_aload_n dX8_toMatins_7 0 rfl ?_
  refine B_getf (T := TX8) (N := 23) (v := .ref 50) 49 0 dX8_toMatins_8 inX8_toMatins_8 lkX8_toMatins_f7 (Nat.le_of_ble_eq_true rfl) (Nat.le_of_ble_eq_true rfl) rfl rfl (by decide) rfl ?_
  refine B_bipush (v := 19) dX8_toMatins_11 (by decide) ?_
  obtain ⟨hi, h⟩ := h
  refine B_iald (n := 301) 50 dX8_toMatins_13 (Nat.le_of_ble_eq_true rfl) rfl rfl hi ?_
  refine B_aload_n dX8_toMatins_14 0 rfl ?_
  refine B_getf (T := TX8) (N := 23) (v := .ref 50) 49 0 dX8_toMatins_15 inX8_toMatins_8 lkX8_toMatins_f7 (Nat.le_of_ble_eq_true rfl) (Nat.le_of_ble_eq_true rfl) rfl rfl (by decide) rfl ?_
  refine B_bipush (v := 18) dX8_toMatins_18 (by decide) ?_
  obtain ⟨hi, h⟩ := h
  refine B_iald (n := 301) 50 dX8_toMatins_20 (Nat.le_of_ble_eq_true rfl) rfl rfl hi ?_
  obtain ⟨hz, h⟩ := h
  refine B_irem dX8_toMatins_21 hz ?_
  refine B_if_eq (tgt := 35) dX8_toMatins_22 (by decide) (fun hc => ?_) (fun hc => ?_)
  · have h := h.1 hc
    exact B_vret dX8_toMatins_35 h
  · have h := h.2 hc
    refine B_aload_n dX8_toMatins_25 0 rfl ?_
    refine B_bipush (v := 17) dX8_toMatins_26 (by decide) ?_
    refine B_iconst (v := 0) dX8_toMatins_28 (by decide) ?_
    refine B_callV (st := []) 49 [.int (17 : Int32), .int (0 : Int32)] dX8_toMatins_29 gX8_toMatins_X8_stepsBy rfl hyX8_stepsBy (Nat.le_of_ble_eq_true rfl) (Nat.le_of_ble_eq_true rfl) TX8 23 rfl (Nat.le_of_ble_eq_true rfl) (Nat.le_of_ble_eq_true rfl) rfl (Ct.mono h (Nat.le_refl _) (fun _r1 M1 h => ?_))
    refine B_goto (tgt := 7) dX8_toMatins_32 (by decide) ?_
    refine B_weak [0] rfl ?_
    exact h
set_option maxHeartbeats 4000000 in
set_option maxRecDepth 100000 in
theorem rX8_pray (d : Nat) (v1 : Int32) (M : Mm) (Q : Int32 → Mm → Prop)
    (h : vp_in (0 : Int32) 301 ∧ ((¬ (M 50 (0 : Int32).toNatClampNeg) = 0 → kX8_in d v1.toInt64 (1 : Int64) (9 : Int64) M (fun (r1 : Int32) (M1 : Mm) => ((¬ r1 = 0 → kX8_tries d  M1 (fun (_r2 : Int32) (M2 : Mm) => kX8_toMatins d  M2 (fun (_r3 : Int32) (M3 : Mm) => kX8_holderIn d (17 : Int32) v1 M3 (fun (r4 : Int32) (M4 : Mm) => Q r4 M4)))) ∧ (r1 = 0 → Q (-1000001 : Int32) M1)))) ∧ ((M 50 (0 : Int32).toNatClampNeg) = 0 → Q (-1000002 : Int32) M))) : kX8_pray (d + 1) v1 M Q := by
  refine Ct.of (cc := cX8_pray) (nL := 2) (by decide) rfl (Nat.le_of_ble_eq_true rfl) ?_
  show BX8_pray (d + 1) 0 [(0, .ref 49), (1, .int v1)] [] M Q
  refine B_aload_n dX8_pray_0 0 rfl ?_
  refine B_getf (T := TX8) (N := 23) (v := .ref 50) 49 0 dX8_pray_1 inX8_pray_8 lkX8_pray_f7 (Nat.le_of_ble_eq_true rfl) (Nat.le_of_ble_eq_true rfl) rfl rfl (by decide) rfl ?_
  refine B_iconst (v := 0) dX8_pray_4 (by decide) ?_
  obtain ⟨hi, h⟩ := h
  refine B_iald (n := 301) 50 dX8_pray_5 (Nat.le_of_ble_eq_true rfl) rfl rfl hi ?_
  refine B_if_ne (tgt := 12) dX8_pray_6 (by decide) (fun hc => ?_) (fun hc => ?_)
  · have h := h.1 hc
    refine B_iload_n dX8_pray_12 1 rfl ?_
    refine B_i2l dX8_pray_13 ?_
    refine B_lconst (v := 1) dX8_pray_14 (by decide) ?_
    refine B_ldc2 (v := 9) dX8_pray_15 lkX8_pray_l161 ?_
    refine B_callS (st := []) [.long v1.toInt64, .long (1 : Int64), .long (9 : Int64)] dX8_pray_18 gX8_pray_X8_in rfl hyX8_in (Nat.le_of_ble_eq_true rfl) (Nat.le_of_ble_eq_true rfl) rfl (Ct.mono h (Nat.le_refl _) (fun r1 M1 h => ?_))
    refine B_if_ne (tgt := 27) dX8_pray_21 (by decide) (fun hc => ?_) (fun hc => ?_)
    · have h := h.1 hc
      refine B_aload_n dX8_pray_27 0 rfl ?_
      refine B_callV (st := []) 49 [] dX8_pray_28 gX8_pray_X8_tries rfl hyX8_tries (Nat.le_of_ble_eq_true rfl) (Nat.le_of_ble_eq_true rfl) TX8 23 rfl (Nat.le_of_ble_eq_true rfl) (Nat.le_of_ble_eq_true rfl) rfl (Ct.mono h (Nat.le_refl _) (fun _r2 M2 h => ?_))
      refine B_aload_n dX8_pray_31 0 rfl ?_
      refine B_callV (st := []) 49 [] dX8_pray_32 gX8_pray_X8_toMatins rfl hyX8_toMatins (Nat.le_of_ble_eq_true rfl) (Nat.le_of_ble_eq_true rfl) TX8 23 rfl (Nat.le_of_ble_eq_true rfl) (Nat.le_of_ble_eq_true rfl) rfl (Ct.mono h (Nat.le_refl _) (fun _r3 M3 h => ?_))
      refine B_aload_n dX8_pray_35 0 rfl ?_
      refine B_bipush (v := 17) dX8_pray_36 (by decide) ?_
      refine B_iload_n dX8_pray_38 1 rfl ?_
      refine B_callV (st := []) 49 [.int (17 : Int32), .int v1] dX8_pray_39 gX8_pray_X8_holderIn rfl hyX8_holderIn (Nat.le_of_ble_eq_true rfl) (Nat.le_of_ble_eq_true rfl) TX8 23 rfl (Nat.le_of_ble_eq_true rfl) (Nat.le_of_ble_eq_true rfl) rfl (Ct.mono h (Nat.le_refl _) (fun r4 M4 h => ?_))
      exact B_iret dX8_pray_42 h
    · have h := h.2 hc
      refine B_ldc (v := -1000001) dX8_pray_24 lkX8_pray_c72 ?_
      exact B_iret dX8_pray_26 h
  · have h := h.2 hc
    refine B_ldc (v := -1000002) dX8_pray_9 lkX8_pray_c149 ?_
    exact B_iret dX8_pray_11 h
set_option maxHeartbeats 4000000 in
set_option maxRecDepth 100000 in
theorem rX8_round (d : Nat)  (M : Mm) (Q : Int32 → Mm → Prop)
    (h : vp_in (0 : Int32) 301 ∧ ((¬ (M 50 (0 : Int32).toNatClampNeg) = 0 → kX8_tries d  M (fun (_r1 : Int32) (M1 : Mm) => BX8_round (d + 1) 18 [(0, .ref 49), (1, .int (1 : Int32))] [] M1 Q)) ∧ ((M 50 (0 : Int32).toNatClampNeg) = 0 → Q (-1000002 : Int32) M))) : kX8_round (d + 1)  M Q := by
  refine Ct.of (cc := cX8_round) (nL := 4) (by decide) rfl (Nat.le_of_ble_eq_true rfl) ?_
  show BX8_round (d + 1) 0 [(0, .ref 49)] [] M Q
  refine B_aload_n dX8_round_0 0 rfl ?_
  refine B_getf (T := TX8) (N := 23) (v := .ref 50) 49 0 dX8_round_1 inX8_round_8 lkX8_round_f7 (Nat.le_of_ble_eq_true rfl) (Nat.le_of_ble_eq_true rfl) rfl rfl (by decide) rfl ?_
  refine B_iconst (v := 0) dX8_round_4 (by decide) ?_
  obtain ⟨hi, h⟩ := h
  refine B_iald (n := 301) 50 dX8_round_5 (Nat.le_of_ble_eq_true rfl) rfl rfl hi ?_
  refine B_if_ne (tgt := 12) dX8_round_6 (by decide) (fun hc => ?_) (fun hc => ?_)
  · have h := h.1 hc
    refine B_aload_n dX8_round_12 0 rfl ?_
    refine B_callV (st := []) 49 [] dX8_round_13 gX8_round_X8_tries rfl hyX8_tries (Nat.le_of_ble_eq_true rfl) (Nat.le_of_ble_eq_true rfl) TX8 23 rfl (Nat.le_of_ble_eq_true rfl) (Nat.le_of_ble_eq_true rfl) rfl (Ct.mono h (Nat.le_refl _) (fun _r1 M1 h => ?_))
    refine B_iconst (v := 1) dX8_round_16 (by decide) ?_
    refine B_istore_n (lv1 := [(1, .int (1 : Int32)), (0, .ref 49)]) dX8_round_17 (by decide) rfl ?_
    refine B_weak [1, 0] rfl ?_
    exact h
  · have h := h.2 hc
    refine B_ldc (v := -1000002) dX8_round_9 lkX8_round_c149 ?_
    exact B_iret dX8_round_11 h
set_option maxHeartbeats 4000000 in
set_option maxRecDepth 100000 in
theorem rX8_round_18 (d : Nat) (v1 : Int32) (M : Mm) (Q : Int32 → Mm → Prop)
    (h : (((200 : Int32) < v1 → Q (-1000000 : Int32) M) ∧ (¬ (200 : Int32) < v1 → kX8_stepsBy d (17 : Int32) (0 : Int32) M (fun (_r1 : Int32) (M1 : Mm) => BX8_round (d + 1) 36 [(0, .ref 49), (1, .int v1), (2, .int (1 : Int32)), (3, .int (0 : Int32))] [] M1 Q)))) : BX8_round (d + 1) 18 [(0, .ref 49), (1, .int v1)] [] M Q := by
  refine B_iload_n dX8_round_18 1 rfl ?_
  refine B_sipush (v := 200) dX8_round_19 (by decide) ?_
  refine B_icmp_gt (tgt := 94) dX8_round_22 (by decide) (fun hc => ?_) (fun hc => ?_)
  · have h := h.1 hc
    refine B_ldc (v := -1000000) dX8_round_94 lkX8_round_c163 ?_
    exact B_iret dX8_round_96 h
  · have h := h.2 hc
    refine B_aload_n dX8_round_25 0 rfl ?_
    refine B_bipush (v := 17) dX8_round_26 (by decide) ?_
    refine B_iconst (v := 0) dX8_round_28 (by decide) ?_
    refine B_callV (st := []) 49 [.int (17 : Int32), .int (0 : Int32)] dX8_round_29 gX8_round_X8_stepsBy rfl hyX8_stepsBy (Nat.le_of_ble_eq_true rfl) (Nat.le_of_ble_eq_true rfl) TX8 23 rfl (Nat.le_of_ble_eq_true rfl) (Nat.le_of_ble_eq_true rfl) rfl (Ct.mono h (Nat.le_refl _) (fun _r1 M1 h => ?_))
    refine B_iconst (v := 1) dX8_round_32 (by decide) ?_
    refine B_istore_n (lv1 := [(2, .int (1 : Int32)), (0, .ref 49), (1, .int v1)]) dX8_round_33 (by decide) rfl ?_
    refine B_iconst (v := 0) dX8_round_34 (by decide) ?_
    refine B_istore_n (lv1 := [(3, .int (0 : Int32)), (2, .int (1 : Int32)), (0, .ref 49), (1, .int v1)]) dX8_round_35 (by decide) rfl ?_
    refine B_weak [2, 3, 1, 0] rfl ?_
    exact h
set_option maxHeartbeats 4000000 in
set_option maxRecDepth 100000 in
theorem rX8_round_36 (d : Nat) (v1 : Int32) (v2 : Int32) (v3 : Int32) (M : Mm) (Q : Int32 → Mm → Prop)
    (h : vp_in (0 : Int32) 301 ∧ (((M 50 (0 : Int32).toNatClampNeg) ≤ v3 → ((v2 = 0 → BX8_round (d + 1) 18 [(0, .ref 49), (1, .int (v1 + (1 : Int32)))] [] M Q) ∧ (¬ v2 = 0 → Q v1 M))) ∧ (¬ (M 50 (0 : Int32).toNatClampNeg) ≤ v3 → ((v2 = 0 → BX8_round (d + 1) 36 [(0, .ref 49), (1, .int v1), (2, .int (0 : Int32)), (3, .int (v3 + (1 : Int32)))] [] M Q) ∧ (¬ v2 = 0 → vp_in ((20 : Int32) + v3) 301 ∧ vp_in ((3 : Int32) + v3) 301 ∧ ((¬ (M 50 ((20 : Int32) + v3).toNatClampNeg) = (M 50 ((3 : Int32) + v3).toNatClampNeg) → BX8_round (d + 1) 36 [(0, .ref 49), (1, .int v1), (2, .int (0 : Int32)), (3, .int (v3 + (1 : Int32)))] [] M Q) ∧ ((M 50 ((20 : Int32) + v3).toNatClampNeg) = (M 50 ((3 : Int32) + v3).toNatClampNeg) → BX8_round (d + 1) 36 [(0, .ref 49), (1, .int v1), (2, .int (1 : Int32)), (3, .int (v3 + (1 : Int32)))] [] M Q))))))) : BX8_round (d + 1) 36 [(0, .ref 49), (1, .int v1), (2, .int v2), (3, .int v3)] [] M Q := by
  refine B_iload_n dX8_round_36 3 rfl ?_
  refine B_aload_n dX8_round_37 0 rfl ?_
  refine B_getf (T := TX8) (N := 23) (v := .ref 50) 49 0 dX8_round_38 inX8_round_8 lkX8_round_f7 (Nat.le_of_ble_eq_true rfl) (Nat.le_of_ble_eq_true rfl) rfl rfl (by decide) rfl ?_
  refine B_iconst (v := 0) dX8_round_41 (by decide) ?_
  obtain ⟨hi, h⟩ := h
  refine B_iald (n := 301) 50 dX8_round_42 (Nat.le_of_ble_eq_true rfl) rfl rfl hi ?_
  refine B_icmp_ge (tgt := 82) dX8_round_43 (by decide) (fun hc => ?_) (fun hc => ?_)
  · have h := h.1 hc
    refine B_iload_n dX8_round_82 2 rfl ?_
    refine B_if_eq (tgt := 88) dX8_round_83 (by decide) (fun hc => ?_) (fun hc => ?_)
    · have h := h.1 hc
      refine B_iinc (lv1 := [(1, .int (v1 + (1 : Int32))), (0, .ref 49), (2, .int v2), (3, .int v3)]) (v := (v1 + (1 : Int32))) dX8_round_88 1 rfl rfl (by decide) rfl ?_
      refine B_goto (tgt := 18) dX8_round_91 (by decide) ?_
      refine B_weak [1, 0] rfl ?_
      exact h
    · have h := h.2 hc
      refine B_iload_n dX8_round_86 1 rfl ?_
      exact B_iret dX8_round_87 h
  · have h := h.2 hc
    refine B_iload_n dX8_round_46 2 rfl ?_
    refine B_if_eq (tgt := 74) dX8_round_47 (by decide) (fun hc => ?_) (fun hc => ?_)
    · have h := h.1 hc
      refine B_iconst (v := 0) dX8_round_74 (by decide) ?_
      refine B_istore_n (lv1 := [(2, .int (0 : Int32)), (0, .ref 49), (1, .int v1), (3, .int v3)]) dX8_round_75 (by decide) rfl ?_
      refine B_iinc (lv1 := [(3, .int (v3 + (1 : Int32))), (2, .int (0 : Int32)), (0, .ref 49), (1, .int v1)]) (v := (v3 + (1 : Int32))) dX8_round_76 3 rfl rfl (by decide) rfl ?_
      refine B_goto (tgt := 36) dX8_round_79 (by decide) ?_
      refine B_weak [2, 3, 1, 0] rfl ?_
      exact h
    · have h := h.2 hc
      refine B_aload_n dX8_round_50 0 rfl ?_
      refine B_getf (T := TX8) (N := 23) (v := .ref 50) 49 0 dX8_round_51 inX8_round_8 lkX8_round_f7 (Nat.le_of_ble_eq_true rfl) (Nat.le_of_ble_eq_true rfl) rfl rfl (by decide) rfl ?_
      refine B_bipush (v := 20) dX8_round_54 (by decide) ?_
      refine B_iload_n dX8_round_56 3 rfl ?_
      refine B_iadd dX8_round_57 ?_
      obtain ⟨hi, h⟩ := h
      refine B_iald (n := 301) 50 dX8_round_58 (Nat.le_of_ble_eq_true rfl) rfl rfl hi ?_
      refine B_aload_n dX8_round_59 0 rfl ?_
      refine B_getf (T := TX8) (N := 23) (v := .ref 50) 49 0 dX8_round_60 inX8_round_8 lkX8_round_f7 (Nat.le_of_ble_eq_true rfl) (Nat.le_of_ble_eq_true rfl) rfl rfl (by decide) rfl ?_
      refine B_iconst (v := 3) dX8_round_63 (by decide) ?_
      refine B_iload_n dX8_round_64 3 rfl ?_
      refine B_iadd dX8_round_65 ?_
      obtain ⟨hi, h⟩ := h
      refine B_iald (n := 301) 50 dX8_round_66 (Nat.le_of_ble_eq_true rfl) rfl rfl hi ?_
      refine B_icmp_ne (tgt := 74) dX8_round_67 (by decide) (fun hc => ?_) (fun hc => ?_)
      · have h := h.1 hc
        refine B_iconst (v := 0) dX8_round_74 (by decide) ?_
        refine B_istore_n (lv1 := [(2, .int (0 : Int32)), (0, .ref 49), (1, .int v1), (3, .int v3)]) dX8_round_75 (by decide) rfl ?_
        refine B_iinc (lv1 := [(3, .int (v3 + (1 : Int32))), (2, .int (0 : Int32)), (0, .ref 49), (1, .int v1)]) (v := (v3 + (1 : Int32))) dX8_round_76 3 rfl rfl (by decide) rfl ?_
        refine B_goto (tgt := 36) dX8_round_79 (by decide) ?_
        refine B_weak [2, 3, 1, 0] rfl ?_
        exact h
      · have h := h.2 hc
        refine B_iconst (v := 1) dX8_round_70 (by decide) ?_
        refine B_goto (tgt := 75) dX8_round_71 (by decide) ?_
        refine B_istore_n (lv1 := [(2, .int (1 : Int32)), (0, .ref 49), (1, .int v1), (3, .int v3)]) dX8_round_75 (by decide) rfl ?_
        refine B_iinc (lv1 := [(3, .int (v3 + (1 : Int32))), (2, .int (1 : Int32)), (0, .ref 49), (1, .int v1)]) (v := (v3 + (1 : Int32))) dX8_round_76 3 rfl rfl (by decide) rfl ?_
        refine B_goto (tgt := 36) dX8_round_79 (by decide) ?_
        refine B_weak [2, 3, 1, 0] rfl ?_
        exact h
set_option maxHeartbeats 4000000 in
set_option maxRecDepth 100000 in
theorem rX8_countsThere (d : Nat)  (M : Mm) (Q : Int32 → Mm → Prop)
    (h : BX8_countsThere d 2 [(0, .ref 49), (1, .int (0 : Int32))] [] M Q) : kX8_countsThere d  M Q := by
  refine Ct.of (cc := cX8_countsThere) (nL := 2) (by decide) rfl (Nat.le_of_ble_eq_true rfl) ?_
  show BX8_countsThere d 0 [(0, .ref 49)] [] M Q
  refine B_iconst (v := 0) dX8_countsThere_0 (by decide) ?_
  refine B_istore_n (lv1 := [(1, .int (0 : Int32)), (0, .ref 49)]) dX8_countsThere_1 (by decide) rfl ?_
  refine B_weak [1, 0] rfl ?_
  exact h
set_option maxHeartbeats 4000000 in
set_option maxRecDepth 100000 in
theorem rX8_countsThere_2 (d : Nat) (v1 : Int32) (M : Mm) (Q : Int32 → Mm → Prop)
    (h : (((10 : Int32) ≤ v1 → BX8_countsThere d 23 [(0, .ref 49), (1, .int (0 : Int32))] [] M Q) ∧ (¬ (10 : Int32) ≤ v1 → vp_in v1 10 ∧ (∀ M1 : Mm, M1 = (upd2 M 56 v1.toNatClampNeg (0 : Int32)) → BX8_countsThere d 2 [(0, .ref 49), (1, .int (v1 + (1 : Int32)))] [] M1 Q)))) : BX8_countsThere d 2 [(0, .ref 49), (1, .int v1)] [] M Q := by
  refine B_iload_n dX8_countsThere_2 1 rfl ?_
  refine B_bipush (v := 10) dX8_countsThere_3 (by decide) ?_
  refine B_icmp_ge (tgt := 21) dX8_countsThere_5 (by decide) (fun hc => ?_) (fun hc => ?_)
  · have h := h.1 hc
    refine B_iconst (v := 0) dX8_countsThere_21 (by decide) ?_
    refine B_istore_n (lv1 := [(1, .int (0 : Int32)), (0, .ref 49)]) dX8_countsThere_22 (by decide) rfl ?_
    refine B_weak [1, 0] rfl ?_
    exact h
  · have h := h.2 hc
    refine B_aload_n dX8_countsThere_8 0 rfl ?_
    refine B_getf (T := TX8) (N := 23) (v := .ref 56) 49 13 dX8_countsThere_9 inX8_countsThere_8 lkX8_countsThere_f28 (Nat.le_of_ble_eq_true rfl) (Nat.le_of_ble_eq_true rfl) rfl rfl (by decide) rfl ?_
    refine B_iload_n dX8_countsThere_12 1 rfl ?_
    refine B_iconst (v := 0) dX8_countsThere_13 (by decide) ?_
    obtain ⟨hi, h⟩ := h
    refine B_iast (n := 10) 56 dX8_countsThere_14 (Nat.le_of_ble_eq_true rfl) rfl rfl hi ?_
    have h := h _ rfl
    generalize (upd2 M 56 v1.toNatClampNeg (0 : Int32)) = M1 at h ⊢
    refine B_iinc (lv1 := [(1, .int (v1 + (1 : Int32))), (0, .ref 49)]) (v := (v1 + (1 : Int32))) dX8_countsThere_15 1 rfl rfl (by decide) rfl ?_
    refine B_goto (tgt := 2) dX8_countsThere_18 (by decide) ?_
    refine B_weak [1, 0] rfl ?_
    exact h
set_option maxHeartbeats 4000000 in
set_option maxRecDepth 100000 in
theorem rX8_countsThere_23 (d : Nat) (v1 : Int32) (M : Mm) (Q : Int32 → Mm → Prop)
    (h : vp_in (0 : Int32) 301 ∧ (((M 50 (0 : Int32).toNatClampNeg) ≤ v1 → Q 0 M) ∧ (¬ (M 50 (0 : Int32).toNatClampNeg) ≤ v1 → vp_in ((3 : Int32) + v1) 301 ∧ vp_in (M 50 ((3 : Int32) + v1).toNatClampNeg) 10 ∧ vp_in (M 50 ((3 : Int32) + v1).toNatClampNeg) 10 ∧ (∀ M1 : Mm, M1 = (upd2 M 56 (M 50 ((3 : Int32) + v1).toNatClampNeg).toNatClampNeg ((M 56 (M 50 ((3 : Int32) + v1).toNatClampNeg).toNatClampNeg) + (1 : Int32))) → BX8_countsThere d 23 [(0, .ref 49), (1, .int (v1 + (1 : Int32)))] [] M1 Q)))) : BX8_countsThere d 23 [(0, .ref 49), (1, .int v1)] [] M Q := by
  refine B_iload_n dX8_countsThere_23 1 rfl ?_
  refine B_aload_n dX8_countsThere_24 0 rfl ?_
  refine B_getf (T := TX8) (N := 23) (v := .ref 50) 49 0 dX8_countsThere_25 inX8_countsThere_8 lkX8_countsThere_f7 (Nat.le_of_ble_eq_true rfl) (Nat.le_of_ble_eq_true rfl) rfl rfl (by decide) rfl ?_
  refine B_iconst (v := 0) dX8_countsThere_28 (by decide) ?_
  obtain ⟨hi, h⟩ := h
  refine B_iald (n := 301) 50 dX8_countsThere_29 (Nat.le_of_ble_eq_true rfl) rfl rfl hi ?_
  refine B_icmp_ge (tgt := 56) dX8_countsThere_30 (by decide) (fun hc => ?_) (fun hc => ?_)
  · have h := h.1 hc
    exact B_vret dX8_countsThere_56 h
  · have h := h.2 hc
    refine B_aload_n dX8_countsThere_33 0 rfl ?_
    refine B_getf (T := TX8) (N := 23) (v := .ref 56) 49 13 dX8_countsThere_34 inX8_countsThere_8 lkX8_countsThere_f28 (Nat.le_of_ble_eq_true rfl) (Nat.le_of_ble_eq_true rfl) rfl rfl (by decide) rfl ?_
    refine B_aload_n dX8_countsThere_37 0 rfl ?_
    refine B_getf (T := TX8) (N := 23) (v := .ref 50) 49 0 dX8_countsThere_38 inX8_countsThere_8 lkX8_countsThere_f7 (Nat.le_of_ble_eq_true rfl) (Nat.le_of_ble_eq_true rfl) rfl rfl (by decide) rfl ?_
    refine B_iconst (v := 3) dX8_countsThere_41 (by decide) ?_
    refine B_iload_n dX8_countsThere_42 1 rfl ?_
    refine B_iadd dX8_countsThere_43 ?_
    obtain ⟨hi, h⟩ := h
    refine B_iald (n := 301) 50 dX8_countsThere_44 (Nat.le_of_ble_eq_true rfl) rfl rfl hi ?_
    refine B_dup2 dX8_countsThere_45 rfl rfl ?_
    obtain ⟨hi, h⟩ := h
    refine B_iald (n := 10) 56 dX8_countsThere_46 (Nat.le_of_ble_eq_true rfl) rfl rfl hi ?_
    refine B_iconst (v := 1) dX8_countsThere_47 (by decide) ?_
    refine B_iadd dX8_countsThere_48 ?_
    obtain ⟨hi, h⟩ := h
    refine B_iast (n := 10) 56 dX8_countsThere_49 (Nat.le_of_ble_eq_true rfl) rfl rfl hi ?_
    have h := h _ rfl
    generalize (upd2 M 56 (M 50 ((3 : Int32) + v1).toNatClampNeg).toNatClampNeg ((M 56 (M 50 ((3 : Int32) + v1).toNatClampNeg).toNatClampNeg) + (1 : Int32))) = M1 at h ⊢
    refine B_iinc (lv1 := [(1, .int (v1 + (1 : Int32))), (0, .ref 49)]) (v := (v1 + (1 : Int32))) dX8_countsThere_50 1 rfl rfl (by decide) rfl ?_
    refine B_goto (tgt := 23) dX8_countsThere_53 (by decide) ?_
    refine B_weak [1, 0] rfl ?_
    exact h
set_option maxHeartbeats 4000000 in
set_option maxRecDepth 100000 in
theorem rX8_rowsOf (d : Nat)  (M : Mm) (Q : Int32 → Mm → Prop)
    (h : BX8_rowsOf d 4 [(0, .ref 49), (1, .int (0 : Int32)), (2, .int (0 : Int32))] [] M Q) : kX8_rowsOf d  M Q := by
  refine Ct.of (cc := cX8_rowsOf) (nL := 4) (by decide) rfl (Nat.le_of_ble_eq_true rfl) ?_
  show BX8_rowsOf d 0 [(0, .ref 49)] [] M Q
  refine B_iconst (v := 0) dX8_rowsOf_0 (by decide) ?_
  refine B_istore_n (lv1 := [(1, .int (0 : Int32)), (0, .ref 49)]) dX8_rowsOf_1 (by decide) rfl ?_
  refine B_iconst (v := 0) dX8_rowsOf_2 (by decide) ?_
  refine B_istore_n (lv1 := [(2, .int (0 : Int32)), (1, .int (0 : Int32)), (0, .ref 49)]) dX8_rowsOf_3 (by decide) rfl ?_
  refine B_weak [2, 1, 0] rfl ?_
  exact h
set_option maxHeartbeats 4000000 in
set_option maxRecDepth 100000 in
theorem rX8_rowsOf_4 (d : Nat) (v1 : Int32) (v2 : Int32) (M : Mm) (Q : Int32 → Mm → Prop)
    (h : (((10 : Int32) ≤ v2 → vp_in (0 : Int32) 10 ∧ BX8_rowsOf d 36 [(1, .int v1), (2, .int (1 : Int32)), (3, .int ((M 56 (0 : Int32).toNatClampNeg) + (1 : Int32)))] [] M Q) ∧ (¬ (10 : Int32) ≤ v2 → vp_in v2 10 ∧ BX8_rowsOf d 4 [(0, .ref 49), (1, .int (v1 + (M 56 v2.toNatClampNeg))), (2, .int (v2 + (1 : Int32)))] [] M Q))) : BX8_rowsOf d 4 [(0, .ref 49), (1, .int v1), (2, .int v2)] [] M Q := by
  refine B_iload_n dX8_rowsOf_4 2 rfl ?_
  refine B_bipush (v := 10) dX8_rowsOf_5 (by decide) ?_
  refine B_icmp_ge (tgt := 25) dX8_rowsOf_7 (by decide) (fun hc => ?_) (fun hc => ?_)
  · have h := h.1 hc
    refine B_iconst (v := 1) dX8_rowsOf_25 (by decide) ?_
    refine B_istore_n (lv1 := [(2, .int (1 : Int32)), (0, .ref 49), (1, .int v1)]) dX8_rowsOf_26 (by decide) rfl ?_
    refine B_aload_n dX8_rowsOf_27 1 rfl ?_
    refine B_getf (T := TX8) (N := 23) (v := .ref 56) 49 13 dX8_rowsOf_28 inX8_rowsOf_8 lkX8_rowsOf_f28 (Nat.le_of_ble_eq_true rfl) (Nat.le_of_ble_eq_true rfl) rfl rfl (by decide) rfl ?_
    refine B_iconst (v := 0) dX8_rowsOf_31 (by decide) ?_
    obtain ⟨hi, h⟩ := h
    refine B_iald (n := 10) 56 dX8_rowsOf_32 (Nat.le_of_ble_eq_true rfl) rfl rfl hi ?_
    refine B_iconst (v := 1) dX8_rowsOf_33 (by decide) ?_
    refine B_iadd dX8_rowsOf_34 ?_
    refine B_istore_n (lv1 := [(3, .int ((M 56 (0 : Int32).toNatClampNeg) + (1 : Int32))), (2, .int (1 : Int32)), (0, .ref 49), (1, .int v1)]) dX8_rowsOf_35 (by decide) rfl ?_
    refine B_weak [3, 1, 0] rfl ?_
    exact h
  · have h := h.2 hc
    refine B_iload_n dX8_rowsOf_10 1 rfl ?_
    refine B_aload_n dX8_rowsOf_11 0 rfl ?_
    refine B_getf (T := TX8) (N := 23) (v := .ref 56) 49 13 dX8_rowsOf_12 inX8_rowsOf_8 lkX8_rowsOf_f28 (Nat.le_of_ble_eq_true rfl) (Nat.le_of_ble_eq_true rfl) rfl rfl (by decide) rfl ?_
    refine B_iload_n dX8_rowsOf_15 2 rfl ?_
    obtain ⟨hi, h⟩ := h
    refine B_iald (n := 10) 56 dX8_rowsOf_16 (Nat.le_of_ble_eq_true rfl) rfl rfl hi ?_
    refine B_iadd dX8_rowsOf_17 ?_
    refine B_istore_n (lv1 := [(1, .int (v1 + (M 56 v2.toNatClampNeg))), (0, .ref 49), (2, .int v2)]) dX8_rowsOf_18 (by decide) rfl ?_
    refine B_iinc (lv1 := [(2, .int (v2 + (1 : Int32))), (1, .int (v1 + (M 56 v2.toNatClampNeg))), (0, .ref 49)]) (v := (v2 + (1 : Int32))) dX8_rowsOf_19 2 rfl rfl (by decide) rfl ?_
    refine B_goto (tgt := 4) dX8_rowsOf_22 (by decide) ?_
    refine B_weak [2, 1, 0] rfl ?_
    exact h
set_option maxHeartbeats 4000000 in
set_option maxRecDepth 100000 in
theorem rX8_rowsOf_36 (d : Nat) (v1 : Int32) (v2 : Int32) (v3 : Int32) (M : Mm) (Q : Int32 → Mm → Prop)
    (h : ((v1 < v3 → Q v2 M) ∧ (¬ v1 < v3 → BX8_rowsOf d 36 [(1, .int v1), (2, .int (v2 * v3)), (3, .int (v3 + (1 : Int32)))] [] M Q))) : BX8_rowsOf d 36 [(1, .int v1), (2, .int v2), (3, .int v3)] [] M Q := by
  refine B_iload_n dX8_rowsOf_36 2 rfl ?_
  refine B_iload_n dX8_rowsOf_37 0 rfl ?_
  refine B_icmp_gt (tgt := 51) dX8_rowsOf_38 (by decide) (fun hc => ?_) (fun hc => ?_)
  · have h := h.1 hc
    refine B_iload_n dX8_rowsOf_51 1 rfl ?_
    exact B_iret dX8_rowsOf_52 h
  · have h := h.2 hc
    refine B_iload_n dX8_rowsOf_41 1 rfl ?_
    refine B_iload_n dX8_rowsOf_42 2 rfl ?_
    refine B_imul dX8_rowsOf_43 ?_
    refine B_istore_n (lv1 := [(2, .int (v2 * v3)), (1, .int v1), (3, .int v3)]) dX8_rowsOf_44 (by decide) rfl ?_
    refine B_iinc (lv1 := [(3, .int (v3 + (1 : Int32))), (2, .int (v2 * v3)), (1, .int v1)]) (v := (v3 + (1 : Int32))) dX8_rowsOf_45 2 rfl rfl (by decide) rfl ?_
    refine B_goto (tgt := 36) dX8_rowsOf_48 (by decide) ?_
    refine B_weak [2, 1, 0] rfl ?_
    exact h
set_option maxHeartbeats 4000000 in
set_option maxRecDepth 100000 in
theorem rX8_placeOf (d : Nat) (v1 : Int32) (M : Mm) (Q : Int32 → Mm → Prop)
    (h : kX8_countsThere d  M (fun (_r1 : Int32) (M1 : Mm) => BX8_placeOf (d + 1) 8 [(0, .ref 49), (1, .int v1), (2, .int (0 : Int32)), (3, .int (0 : Int32))] [] M1 Q)) : kX8_placeOf (d + 1) v1 M Q := by
  refine Ct.of (cc := cX8_placeOf) (nL := 6) (by decide) rfl (Nat.le_of_ble_eq_true rfl) ?_
  show BX8_placeOf (d + 1) 0 [(0, .ref 49), (1, .int v1)] [] M Q
  refine B_aload_n dX8_placeOf_0 0 rfl ?_
  refine B_callV (st := []) 49 [] dX8_placeOf_1 gX8_placeOf_X8_countsThere rfl hyX8_countsThere (Nat.le_of_ble_eq_true rfl) (Nat.le_of_ble_eq_true rfl) TX8 23 rfl (Nat.le_of_ble_eq_true rfl) (Nat.le_of_ble_eq_true rfl) rfl (Ct.mono h (Nat.le_refl _) (fun _r1 M1 h => ?_))
  refine B_iconst (v := 0) dX8_placeOf_4 (by decide) ?_
  refine B_istore_n (lv1 := [(2, .int (0 : Int32)), (0, .ref 49), (1, .int v1)]) dX8_placeOf_5 (by decide) rfl ?_
  refine B_iconst (v := 0) dX8_placeOf_6 (by decide) ?_
  refine B_istore_n (lv1 := [(3, .int (0 : Int32)), (2, .int (0 : Int32)), (0, .ref 49), (1, .int v1)]) dX8_placeOf_7 (by decide) rfl ?_
  refine B_weak [2, 3, 1, 0] rfl ?_
  exact h
set_option maxHeartbeats 4000000 in
set_option maxRecDepth 100000 in
theorem rX8_placeOf_8 (d : Nat) (v1 : Int32) (v2 : Int32) (v3 : Int32) (M : Mm) (Q : Int32 → Mm → Prop)
    (h : vp_in (0 : Int32) 301 ∧ (((M 50 (0 : Int32).toNatClampNeg) ≤ v3 → Q v2 M) ∧ (¬ (M 50 (0 : Int32).toNatClampNeg) ≤ v3 → vp_in ((v1 + (3 : Int32)) + v3) 301 ∧ BX8_placeOf (d + 1) 33 [(0, .ref 49), (1, .int v1), (2, .int v2), (3, .int v3), (4, .int (M 50 ((v1 + (3 : Int32)) + v3).toNatClampNeg)), (5, .int (0 : Int32))] [] M Q))) : BX8_placeOf (d + 1) 8 [(0, .ref 49), (1, .int v1), (2, .int v2), (3, .int v3)] [] M Q := by
  refine B_iload_n dX8_placeOf_8 3 rfl ?_
  refine B_aload_n dX8_placeOf_9 0 rfl ?_
  refine B_getf (T := TX8) (N := 23) (v := .ref 50) 49 0 dX8_placeOf_10 inX8_placeOf_8 lkX8_placeOf_f7 (Nat.le_of_ble_eq_true rfl) (Nat.le_of_ble_eq_true rfl) rfl rfl (by decide) rfl ?_
  refine B_iconst (v := 0) dX8_placeOf_13 (by decide) ?_
  obtain ⟨hi, h⟩ := h
  refine B_iald (n := 301) 50 dX8_placeOf_14 (Nat.le_of_ble_eq_true rfl) rfl rfl hi ?_
  refine B_icmp_ge (tgt := 102) dX8_placeOf_15 (by decide) (fun hc => ?_) (fun hc => ?_)
  · have h := h.1 hc
    refine B_iload_n dX8_placeOf_102 2 rfl ?_
    exact B_iret dX8_placeOf_103 h
  · have h := h.2 hc
    refine B_aload_n dX8_placeOf_18 0 rfl ?_
    refine B_getf (T := TX8) (N := 23) (v := .ref 50) 49 0 dX8_placeOf_19 inX8_placeOf_8 lkX8_placeOf_f7 (Nat.le_of_ble_eq_true rfl) (Nat.le_of_ble_eq_true rfl) rfl rfl (by decide) rfl ?_
    refine B_iload_n dX8_placeOf_22 1 rfl ?_
    refine B_iconst (v := 3) dX8_placeOf_23 (by decide) ?_
    refine B_iadd dX8_placeOf_24 ?_
    refine B_iload_n dX8_placeOf_25 3 rfl ?_
    refine B_iadd dX8_placeOf_26 ?_
    obtain ⟨hi, h⟩ := h
    refine B_iald (n := 301) 50 dX8_placeOf_27 (Nat.le_of_ble_eq_true rfl) rfl rfl hi ?_
    refine B_istore (lv1 := [(4, .int (M 50 ((v1 + (3 : Int32)) + v3).toNatClampNeg)), (0, .ref 49), (1, .int v1), (2, .int v2), (3, .int v3)]) dX8_placeOf_28 (by decide) rfl ?_
    refine B_iconst (v := 0) dX8_placeOf_30 (by decide) ?_
    refine B_istore (lv1 := [(5, .int (0 : Int32)), (4, .int (M 50 ((v1 + (3 : Int32)) + v3).toNatClampNeg)), (0, .ref 49), (1, .int v1), (2, .int v2), (3, .int v3)]) dX8_placeOf_31 (by decide) rfl ?_
    refine B_weak [2, 3, 4, 5, 1, 0] rfl ?_
    exact h
set_option maxHeartbeats 4000000 in
set_option maxRecDepth 100000 in
theorem rX8_placeOf_33 (d : Nat) (v1 : Int32) (v2 : Int32) (v3 : Int32) (v4 : Int32) (v5 : Int32) (M : Mm) (Q : Int32 → Mm → Prop)
    (h : ((v4 ≤ v5 → vp_in v4 10 ∧ vp_in v4 10 ∧ (∀ M1 : Mm, M1 = (upd2 M 56 v4.toNatClampNeg ((M 56 v4.toNatClampNeg) - (1 : Int32))) → BX8_placeOf (d + 1) 8 [(0, .ref 49), (1, .int v1), (2, .int v2), (3, .int (v3 + (1 : Int32)))] [] M1 Q)) ∧ (¬ v4 ≤ v5 → vp_in v5 10 ∧ (((M 56 v5.toNatClampNeg) ≤ 0 → BX8_placeOf (d + 1) 33 [(0, .ref 49), (1, .int v1), (2, .int v2), (3, .int v3), (4, .int v4), (5, .int (v5 + (1 : Int32)))] [] M Q) ∧ (¬ (M 56 v5.toNatClampNeg) ≤ 0 → vp_in v5 10 ∧ vp_in v5 10 ∧ (∀ M2 : Mm, M2 = (upd2 M 56 v5.toNatClampNeg ((M 56 v5.toNatClampNeg) - (1 : Int32))) → kX8_rowsOf d  M2 (fun (r1 : Int32) (M3 : Mm) => vp_in v5 10 ∧ vp_in v5 10 ∧ (∀ M4 : Mm, M4 = (upd2 M3 56 v5.toNatClampNeg ((M3 56 v5.toNatClampNeg) + (1 : Int32))) → BX8_placeOf (d + 1) 33 [(0, .ref 49), (1, .int v1), (2, .int (v2 + r1)), (3, .int v3), (4, .int v4), (5, .int (v5 + (1 : Int32)))] [] M4 Q)))))))) : BX8_placeOf (d + 1) 33 [(0, .ref 49), (1, .int v1), (2, .int v2), (3, .int v3), (4, .int v4), (5, .int v5)] [] M Q := by
  refine B_iload dX8_placeOf_33 5 rfl ?_
  refine B_iload dX8_placeOf_35 4 rfl ?_
  refine B_icmp_ge (tgt := 85) dX8_placeOf_37 (by decide) (fun hc => ?_) (fun hc => ?_)
  · have h := h.1 hc
    refine B_aload_n dX8_placeOf_85 0 rfl ?_
    refine B_getf (T := TX8) (N := 23) (v := .ref 56) 49 13 dX8_placeOf_86 inX8_placeOf_8 lkX8_placeOf_f28 (Nat.le_of_ble_eq_true rfl) (Nat.le_of_ble_eq_true rfl) rfl rfl (by decide) rfl ?_
    refine B_iload dX8_placeOf_89 4 rfl ?_
    refine B_dup2 dX8_placeOf_91 rfl rfl ?_
    obtain ⟨hi, h⟩ := h
    refine B_iald (n := 10) 56 dX8_placeOf_92 (Nat.le_of_ble_eq_true rfl) rfl rfl hi ?_
    refine B_iconst (v := 1) dX8_placeOf_93 (by decide) ?_
    refine B_isub dX8_placeOf_94 ?_
    obtain ⟨hi, h⟩ := h
    refine B_iast (n := 10) 56 dX8_placeOf_95 (Nat.le_of_ble_eq_true rfl) rfl rfl hi ?_
    have h := h _ rfl
    generalize (upd2 M 56 v4.toNatClampNeg ((M 56 v4.toNatClampNeg) - (1 : Int32))) = M1 at h ⊢
    refine B_iinc (lv1 := [(3, .int (v3 + (1 : Int32))), (0, .ref 49), (1, .int v1), (2, .int v2), (4, .int v4), (5, .int v5)]) (v := (v3 + (1 : Int32))) dX8_placeOf_96 3 rfl rfl (by decide) rfl ?_
    refine B_goto (tgt := 8) dX8_placeOf_99 (by decide) ?_
    refine B_weak [1, 2, 3, 0] rfl ?_
    exact h
  · have h := h.2 hc
    refine B_aload_n dX8_placeOf_40 0 rfl ?_
    refine B_getf (T := TX8) (N := 23) (v := .ref 56) 49 13 dX8_placeOf_41 inX8_placeOf_8 lkX8_placeOf_f28 (Nat.le_of_ble_eq_true rfl) (Nat.le_of_ble_eq_true rfl) rfl rfl (by decide) rfl ?_
    refine B_iload dX8_placeOf_44 5 rfl ?_
    obtain ⟨hi, h⟩ := h
    refine B_iald (n := 10) 56 dX8_placeOf_46 (Nat.le_of_ble_eq_true rfl) rfl rfl hi ?_
    refine B_if_le (tgt := 79) dX8_placeOf_47 (by decide) (fun hc => ?_) (fun hc => ?_)
    · have h := h.1 hc
      refine B_iinc (lv1 := [(5, .int (v5 + (1 : Int32))), (0, .ref 49), (1, .int v1), (2, .int v2), (3, .int v3), (4, .int v4)]) (v := (v5 + (1 : Int32))) dX8_placeOf_79 5 rfl rfl (by decide) rfl ?_
      refine B_goto (tgt := 33) dX8_placeOf_82 (by decide) ?_
      refine B_weak [1, 2, 3, 4, 5, 0] rfl ?_
      exact h
    · have h := h.2 hc
      refine B_aload_n dX8_placeOf_50 0 rfl ?_
      refine B_getf (T := TX8) (N := 23) (v := .ref 56) 49 13 dX8_placeOf_51 inX8_placeOf_8 lkX8_placeOf_f28 (Nat.le_of_ble_eq_true rfl) (Nat.le_of_ble_eq_true rfl) rfl rfl (by decide) rfl ?_
      refine B_iload dX8_placeOf_54 5 rfl ?_
      refine B_dup2 dX8_placeOf_56 rfl rfl ?_
      obtain ⟨hi, h⟩ := h
      refine B_iald (n := 10) 56 dX8_placeOf_57 (Nat.le_of_ble_eq_true rfl) rfl rfl hi ?_
      refine B_iconst (v := 1) dX8_placeOf_58 (by decide) ?_
      refine B_isub dX8_placeOf_59 ?_
      obtain ⟨hi, h⟩ := h
      refine B_iast (n := 10) 56 dX8_placeOf_60 (Nat.le_of_ble_eq_true rfl) rfl rfl hi ?_
      have h := h _ rfl
      generalize (upd2 M 56 v5.toNatClampNeg ((M 56 v5.toNatClampNeg) - (1 : Int32))) = M2 at h ⊢
      refine B_iload_n dX8_placeOf_61 2 rfl ?_
      refine B_aload_n dX8_placeOf_62 0 rfl ?_
      refine B_callV (st := [.int v2]) 49 [] dX8_placeOf_63 gX8_placeOf_X8_rowsOf rfl hyX8_rowsOf (Nat.le_of_ble_eq_true rfl) (Nat.le_of_ble_eq_true rfl) TX8 23 rfl (Nat.le_of_ble_eq_true rfl) (Nat.le_of_ble_eq_true rfl) rfl (Ct.mono h (Nat.le_refl _) (fun r1 M3 h => ?_))
      refine B_iadd dX8_placeOf_66 ?_
      refine B_istore_n (lv1 := [(2, .int (v2 + r1)), (0, .ref 49), (1, .int v1), (3, .int v3), (4, .int v4), (5, .int v5)]) dX8_placeOf_67 (by decide) rfl ?_
      refine B_aload_n dX8_placeOf_68 1 rfl ?_
      refine B_getf (T := TX8) (N := 23) (v := .ref 56) 49 13 dX8_placeOf_69 inX8_placeOf_8 lkX8_placeOf_f28 (Nat.le_of_ble_eq_true rfl) (Nat.le_of_ble_eq_true rfl) rfl rfl (by decide) rfl ?_
      refine B_iload dX8_placeOf_72 5 rfl ?_
      refine B_dup2 dX8_placeOf_74 rfl rfl ?_
      obtain ⟨hi, h⟩ := h
      refine B_iald (n := 10) 56 dX8_placeOf_75 (Nat.le_of_ble_eq_true rfl) rfl rfl hi ?_
      refine B_iconst (v := 1) dX8_placeOf_76 (by decide) ?_
      refine B_iadd dX8_placeOf_77 ?_
      obtain ⟨hi, h⟩ := h
      refine B_iast (n := 10) 56 dX8_placeOf_78 (Nat.le_of_ble_eq_true rfl) rfl rfl hi ?_
      have h := h _ rfl
      generalize (upd2 M3 56 v5.toNatClampNeg ((M3 56 v5.toNatClampNeg) + (1 : Int32))) = M4 at h ⊢
      refine B_iinc (lv1 := [(5, .int (v5 + (1 : Int32))), (2, .int (v2 + r1)), (0, .ref 49), (1, .int v1), (3, .int v3), (4, .int v4)]) (v := (v5 + (1 : Int32))) dX8_placeOf_79 5 rfl rfl (by decide) rfl ?_
      refine B_goto (tgt := 33) dX8_placeOf_82 (by decide) ?_
      refine B_weak [2, 3, 1, 4, 5, 0] rfl ?_
      exact h
set_option maxHeartbeats 4000000 in
set_option maxRecDepth 100000 in
theorem rX8_atHome (d : Nat)  (M : Mm) (Q : Int32 → Mm → Prop)
    (h : BX8_atHome d 4 [(0, .ref 49), (1, .int (0 : Int32)), (2, .int (0 : Int32))] [] M Q) : kX8_atHome d  M Q := by
  refine Ct.of (cc := cX8_atHome) (nL := 3) (by decide) rfl (Nat.le_of_ble_eq_true rfl) ?_
  show BX8_atHome d 0 [(0, .ref 49)] [] M Q
  refine B_iconst (v := 0) dX8_atHome_0 (by decide) ?_
  refine B_istore_n (lv1 := [(1, .int (0 : Int32)), (0, .ref 49)]) dX8_atHome_1 (by decide) rfl ?_
  refine B_iconst (v := 0) dX8_atHome_2 (by decide) ?_
  refine B_istore_n (lv1 := [(2, .int (0 : Int32)), (1, .int (0 : Int32)), (0, .ref 49)]) dX8_atHome_3 (by decide) rfl ?_
  refine B_weak [2, 1, 0] rfl ?_
  exact h
set_option maxHeartbeats 4000000 in
set_option maxRecDepth 100000 in
theorem rX8_atHome_4 (d : Nat) (v1 : Int32) (v2 : Int32) (M : Mm) (Q : Int32 → Mm → Prop)
    (h : vp_in (0 : Int32) 301 ∧ (((M 50 (0 : Int32).toNatClampNeg) ≤ v2 → Q v1 M) ∧ (¬ (M 50 (0 : Int32).toNatClampNeg) ≤ v2 → vp_in ((3 : Int32) + v2) 301 ∧ ((¬ (M 50 ((3 : Int32) + v2).toNatClampNeg) = (v2 + (1 : Int32)) → BX8_atHome d 4 [(0, .ref 49), (1, .int (v1 + (0 : Int32))), (2, .int (v2 + (1 : Int32)))] [] M Q) ∧ ((M 50 ((3 : Int32) + v2).toNatClampNeg) = (v2 + (1 : Int32)) → BX8_atHome d 4 [(0, .ref 49), (1, .int (v1 + (1 : Int32))), (2, .int (v2 + (1 : Int32)))] [] M Q))))) : BX8_atHome d 4 [(0, .ref 49), (1, .int v1), (2, .int v2)] [] M Q := by
  refine B_iload_n dX8_atHome_4 2 rfl ?_
  refine B_aload_n dX8_atHome_5 0 rfl ?_
  refine B_getf (T := TX8) (N := 23) (v := .ref 50) 49 0 dX8_atHome_6 inX8_atHome_8 lkX8_atHome_f7 (Nat.le_of_ble_eq_true rfl) (Nat.le_of_ble_eq_true rfl) rfl rfl (by decide) rfl ?_
  refine B_iconst (v := 0) dX8_atHome_9 (by decide) ?_
  obtain ⟨hi, h⟩ := h
  refine B_iald (n := 301) 50 dX8_atHome_10 (Nat.le_of_ble_eq_true rfl) rfl rfl hi ?_
  refine B_icmp_ge (tgt := 42) dX8_atHome_11 (by decide) (fun hc => ?_) (fun hc => ?_)
  · have h := h.1 hc
    refine B_iload_n dX8_atHome_42 1 rfl ?_
    exact B_iret dX8_atHome_43 h
  · have h := h.2 hc
    refine B_iload_n dX8_atHome_14 1 rfl ?_
    refine B_aload_n dX8_atHome_15 0 rfl ?_
    refine B_getf (T := TX8) (N := 23) (v := .ref 50) 49 0 dX8_atHome_16 inX8_atHome_8 lkX8_atHome_f7 (Nat.le_of_ble_eq_true rfl) (Nat.le_of_ble_eq_true rfl) rfl rfl (by decide) rfl ?_
    refine B_iconst (v := 3) dX8_atHome_19 (by decide) ?_
    refine B_iload_n dX8_atHome_20 2 rfl ?_
    refine B_iadd dX8_atHome_21 ?_
    obtain ⟨hi, h⟩ := h
    refine B_iald (n := 301) 50 dX8_atHome_22 (Nat.le_of_ble_eq_true rfl) rfl rfl hi ?_
    refine B_iload_n dX8_atHome_23 2 rfl ?_
    refine B_iconst (v := 1) dX8_atHome_24 (by decide) ?_
    refine B_iadd dX8_atHome_25 ?_
    refine B_icmp_ne (tgt := 33) dX8_atHome_26 (by decide) (fun hc => ?_) (fun hc => ?_)
    · have h := h.1 hc
      refine B_iconst (v := 0) dX8_atHome_33 (by decide) ?_
      refine B_iadd dX8_atHome_34 ?_
      refine B_istore_n (lv1 := [(1, .int (v1 + (0 : Int32))), (0, .ref 49), (2, .int v2)]) dX8_atHome_35 (by decide) rfl ?_
      refine B_iinc (lv1 := [(2, .int (v2 + (1 : Int32))), (1, .int (v1 + (0 : Int32))), (0, .ref 49)]) (v := (v2 + (1 : Int32))) dX8_atHome_36 2 rfl rfl (by decide) rfl ?_
      refine B_goto (tgt := 4) dX8_atHome_39 (by decide) ?_
      refine B_weak [2, 1, 0] rfl ?_
      exact h
    · have h := h.2 hc
      refine B_iconst (v := 1) dX8_atHome_29 (by decide) ?_
      refine B_goto (tgt := 34) dX8_atHome_30 (by decide) ?_
      refine B_iadd dX8_atHome_34 ?_
      refine B_istore_n (lv1 := [(1, .int (v1 + (1 : Int32))), (0, .ref 49), (2, .int v2)]) dX8_atHome_35 (by decide) rfl ?_
      refine B_iinc (lv1 := [(2, .int (v2 + (1 : Int32))), (1, .int (v1 + (1 : Int32))), (0, .ref 49)]) (v := (v2 + (1 : Int32))) dX8_atHome_36 2 rfl rfl (by decide) rfl ?_
      refine B_goto (tgt := 4) dX8_atHome_39 (by decide) ?_
      refine B_weak [2, 1, 0] rfl ?_
      exact h
set_option maxHeartbeats 4000000 in
set_option maxRecDepth 100000 in
theorem rX8_allRows (d : Nat)  (M : Mm) (Q : Int32 → Mm → Prop)
    (h : kX8_countsThere d  M (fun (_r1 : Int32) (M1 : Mm) => kX8_rowsOf d  M1 (fun (r2 : Int32) (M2 : Mm) => Q r2 M2))) : kX8_allRows (d + 1)  M Q := by
  refine Ct.of (cc := cX8_allRows) (nL := 1) (by decide) rfl (Nat.le_of_ble_eq_true rfl) ?_
  show BX8_allRows (d + 1) 0 [(0, .ref 49)] [] M Q
  refine B_aload_n dX8_allRows_0 0 rfl ?_
  refine B_callV (st := []) 49 [] dX8_allRows_1 gX8_allRows_X8_countsThere rfl hyX8_countsThere (Nat.le_of_ble_eq_true rfl) (Nat.le_of_ble_eq_true rfl) TX8 23 rfl (Nat.le_of_ble_eq_true rfl) (Nat.le_of_ble_eq_true rfl) rfl (Ct.mono h (Nat.le_refl _) (fun _r1 M1 h => ?_))
  refine B_aload_n dX8_allRows_4 0 rfl ?_
  refine B_callV (st := []) 49 [] dX8_allRows_5 gX8_allRows_X8_rowsOf rfl hyX8_rowsOf (Nat.le_of_ble_eq_true rfl) (Nat.le_of_ble_eq_true rfl) TX8 23 rfl (Nat.le_of_ble_eq_true rfl) (Nat.le_of_ble_eq_true rfl) rfl (Ct.mono h (Nat.le_refl _) (fun r2 M2 h => ?_))
  exact B_iret dX8_allRows_8 h
set_option maxHeartbeats 4000000 in
set_option maxRecDepth 100000 in
theorem rX8_home (d : Nat) (v1 : Int32) (M : Mm) (Q : Int32 → Mm → Prop)
    (h : vp_in (0 : Int32) 301 ∧ ((¬ (M 50 (0 : Int32).toNatClampNeg) = 0 → ((¬ v1 = 0 → ((¬ v1 = (1 : Int32) → ((¬ v1 = (2 : Int32) → Q (-1000001 : Int32) M) ∧ (v1 = (2 : Int32) → kX8_allRows d  M (fun (r1 : Int32) (M1 : Mm) => Q r1 M1)))) ∧ (v1 = (1 : Int32) → kX8_placeOf d (0 : Int32) M (fun (r2 : Int32) (M2 : Mm) => Q r2 M2)))) ∧ (v1 = 0 → kX8_atHome d  M (fun (r3 : Int32) (M3 : Mm) => Q r3 M3)))) ∧ ((M 50 (0 : Int32).toNatClampNeg) = 0 → Q (-1000002 : Int32) M))) : kX8_home (d + 1) v1 M Q := by
  refine Ct.of (cc := cX8_home) (nL := 2) (by decide) rfl (Nat.le_of_ble_eq_true rfl) ?_
  show BX8_home (d + 1) 0 [(0, .ref 49), (1, .int v1)] [] M Q
  refine B_aload_n dX8_home_0 0 rfl ?_
  refine B_getf (T := TX8) (N := 23) (v := .ref 50) 49 0 dX8_home_1 inX8_home_8 lkX8_home_f7 (Nat.le_of_ble_eq_true rfl) (Nat.le_of_ble_eq_true rfl) rfl rfl (by decide) rfl ?_
  refine B_iconst (v := 0) dX8_home_4 (by decide) ?_
  obtain ⟨hi, h⟩ := h
  refine B_iald (n := 301) 50 dX8_home_5 (Nat.le_of_ble_eq_true rfl) rfl rfl hi ?_
  refine B_if_ne (tgt := 12) dX8_home_6 (by decide) (fun hc => ?_) (fun hc => ?_)
  · have h := h.1 hc
    refine B_iload_n dX8_home_12 1 rfl ?_
    refine B_if_ne (tgt := 23) dX8_home_13 (by decide) (fun hc => ?_) (fun hc => ?_)
    · have h := h.1 hc
      refine B_iload_n dX8_home_23 1 rfl ?_
      refine B_iconst (v := 1) dX8_home_24 (by decide) ?_
      refine B_icmp_ne (tgt := 36) dX8_home_25 (by decide) (fun hc => ?_) (fun hc => ?_)
      · have h := h.1 hc
        refine B_iload_n dX8_home_36 1 rfl ?_
        refine B_iconst (v := 2) dX8_home_37 (by decide) ?_
        refine B_icmp_ne (tgt := 48) dX8_home_38 (by decide) (fun hc => ?_) (fun hc => ?_)
        · have h := h.1 hc
          refine B_ldc (v := -1000001) dX8_home_48 lkX8_home_c72 ?_
          exact B_iret dX8_home_50 h
        · have h := h.2 hc
          refine B_aload_n dX8_home_41 0 rfl ?_
          refine B_callV (st := []) 49 [] dX8_home_42 gX8_home_X8_allRows rfl hyX8_allRows (Nat.le_of_ble_eq_true rfl) (Nat.le_of_ble_eq_true rfl) TX8 23 rfl (Nat.le_of_ble_eq_true rfl) (Nat.le_of_ble_eq_true rfl) rfl (Ct.mono h (Nat.le_refl _) (fun r1 M1 h => ?_))
          refine B_goto (tgt := 50) dX8_home_45 (by decide) ?_
          exact B_iret dX8_home_50 h
      · have h := h.2 hc
        refine B_aload_n dX8_home_28 0 rfl ?_
        refine B_iconst (v := 0) dX8_home_29 (by decide) ?_
        refine B_callV (st := []) 49 [.int (0 : Int32)] dX8_home_30 gX8_home_X8_placeOf rfl hyX8_placeOf (Nat.le_of_ble_eq_true rfl) (Nat.le_of_ble_eq_true rfl) TX8 23 rfl (Nat.le_of_ble_eq_true rfl) (Nat.le_of_ble_eq_true rfl) rfl (Ct.mono h (Nat.le_refl _) (fun r2 M2 h => ?_))
        refine B_goto (tgt := 50) dX8_home_33 (by decide) ?_
        exact B_iret dX8_home_50 h
    · have h := h.2 hc
      refine B_aload_n dX8_home_16 0 rfl ?_
      refine B_callV (st := []) 49 [] dX8_home_17 gX8_home_X8_atHome rfl hyX8_atHome (Nat.le_of_ble_eq_true rfl) (Nat.le_of_ble_eq_true rfl) TX8 23 rfl (Nat.le_of_ble_eq_true rfl) (Nat.le_of_ble_eq_true rfl) rfl (Ct.mono h (Nat.le_refl _) (fun r3 M3 h => ?_))
      refine B_goto (tgt := 50) dX8_home_20 (by decide) ?_
      exact B_iret dX8_home_50 h
  · have h := h.2 hc
    refine B_ldc (v := -1000002) dX8_home_9 lkX8_home_c149 ?_
    exact B_iret dX8_home_11 h
set_option maxHeartbeats 4000000 in
set_option maxRecDepth 100000 in
theorem rX8_laysTo (d : Nat) (v1 : Int32) (v2 : Int32) (M : Mm) (Q : Int32 → Mm → Prop)
    (h : vp_in (0 : Int32) 301 ∧ BX8_laysTo (d + 1) 13 [(0, .ref 49), (1, .int v1), (2, .int v2), (3, .int (M 50 (0 : Int32).toNatClampNeg)), (4, .int (0 : Int32)), (5, .int (0 : Int32))] [] M Q) : kX8_laysTo (d + 1) v1 v2 M Q := by
  refine Ct.of (cc := cX8_laysTo) (nL := 7) (by decide) rfl (Nat.le_of_ble_eq_true rfl) ?_
  show BX8_laysTo (d + 1) 0 [(0, .ref 49), (1, .int v1), (2, .int v2)] [] M Q
  refine B_aload_n dX8_laysTo_0 0 rfl ?_
  refine B_getf (T := TX8) (N := 23) (v := .ref 50) 49 0 dX8_laysTo_1 inX8_laysTo_8 lkX8_laysTo_f7 (Nat.le_of_ble_eq_true rfl) (Nat.le_of_ble_eq_true rfl) rfl rfl (by decide) rfl ?_
  refine B_iconst (v := 0) dX8_laysTo_4 (by decide) ?_
  obtain ⟨hi, h⟩ := h
  refine B_iald (n := 301) 50 dX8_laysTo_5 (Nat.le_of_ble_eq_true rfl) rfl rfl hi ?_
  refine B_istore_n (lv1 := [(3, .int (M 50 (0 : Int32).toNatClampNeg)), (0, .ref 49), (1, .int v1), (2, .int v2)]) dX8_laysTo_6 (by decide) rfl ?_
  refine B_iconst (v := 0) dX8_laysTo_7 (by decide) ?_
  refine B_istore (lv1 := [(4, .int (0 : Int32)), (3, .int (M 50 (0 : Int32).toNatClampNeg)), (0, .ref 49), (1, .int v1), (2, .int v2)]) dX8_laysTo_8 (by decide) rfl ?_
  refine B_iconst (v := 0) dX8_laysTo_10 (by decide) ?_
  refine B_istore (lv1 := [(5, .int (0 : Int32)), (4, .int (0 : Int32)), (3, .int (M 50 (0 : Int32).toNatClampNeg)), (0, .ref 49), (1, .int v1), (2, .int v2)]) dX8_laysTo_11 (by decide) rfl ?_
  refine B_weak [3, 4, 5, 2, 1, 0] rfl ?_
  exact h
set_option maxHeartbeats 4000000 in
set_option maxRecDepth 100000 in
theorem rX8_laysTo_13 (d : Nat) (v1 : Int32) (v2 : Int32) (v3 : Int32) (v4 : Int32) (v5 : Int32) (M : Mm) (Q : Int32 → Mm → Prop)
    (h : ((v3 ≤ v5 → BX8_laysTo (d + 1) 49 [(0, .ref 49), (3, .int v3), (4, .int v4), (5, .int (0 : Int32))] [] M Q) ∧ (¬ v3 ≤ v5 → vp_in ((((40 : Int32) * v1) + v2) + v5) 320 ∧ vp_in v5 7 ∧ (∀ M1 : Mm, M1 = (upd2 M 58 v5.toNatClampNeg (M 54 ((((40 : Int32) * v1) + v2) + v5).toNatClampNeg)) → BX8_laysTo (d + 1) 13 [(0, .ref 49), (1, .int v1), (2, .int v2), (3, .int v3), (4, .int v4), (5, .int (v5 + (1 : Int32)))] [] M1 Q)))) : BX8_laysTo (d + 1) 13 [(0, .ref 49), (1, .int v1), (2, .int v2), (3, .int v3), (4, .int v4), (5, .int v5)] [] M Q := by
  refine B_iload dX8_laysTo_13 5 rfl ?_
  refine B_iload_n dX8_laysTo_15 3 rfl ?_
  refine B_icmp_ge (tgt := 46) dX8_laysTo_16 (by decide) (fun hc => ?_) (fun hc => ?_)
  · have h := h.1 hc
    refine B_iconst (v := 0) dX8_laysTo_46 (by decide) ?_
    refine B_istore (lv1 := [(5, .int (0 : Int32)), (0, .ref 49), (1, .int v1), (2, .int v2), (3, .int v3), (4, .int v4)]) dX8_laysTo_47 (by decide) rfl ?_
    refine B_weak [1, 4, 5, 0] rfl ?_
    exact h
  · have h := h.2 hc
    refine B_aload_n dX8_laysTo_19 0 rfl ?_
    refine B_getf (T := TX8) (N := 23) (v := .ref 58) 49 15 dX8_laysTo_20 inX8_laysTo_8 lkX8_laysTo_f34 (Nat.le_of_ble_eq_true rfl) (Nat.le_of_ble_eq_true rfl) rfl rfl (by decide) rfl ?_
    refine B_iload dX8_laysTo_23 5 rfl ?_
    refine B_aload_n dX8_laysTo_25 0 rfl ?_
    refine B_getf (T := TX8) (N := 23) (v := .ref 54) 49 8 dX8_laysTo_26 inX8_laysTo_8 lkX8_laysTo_f22 (Nat.le_of_ble_eq_true rfl) (Nat.le_of_ble_eq_true rfl) rfl rfl (by decide) rfl ?_
    refine B_bipush (v := 40) dX8_laysTo_29 (by decide) ?_
    refine B_iload_n dX8_laysTo_31 1 rfl ?_
    refine B_imul dX8_laysTo_32 ?_
    refine B_iload_n dX8_laysTo_33 2 rfl ?_
    refine B_iadd dX8_laysTo_34 ?_
    refine B_iload dX8_laysTo_35 5 rfl ?_
    refine B_iadd dX8_laysTo_37 ?_
    obtain ⟨hi, h⟩ := h
    refine B_iald (n := 320) 54 dX8_laysTo_38 (Nat.le_of_ble_eq_true rfl) rfl rfl hi ?_
    obtain ⟨hi, h⟩ := h
    refine B_iast (n := 7) 58 dX8_laysTo_39 (Nat.le_of_ble_eq_true rfl) rfl rfl hi ?_
    have h := h _ rfl
    generalize (upd2 M 58 v5.toNatClampNeg (M 54 ((((40 : Int32) * v1) + v2) + v5).toNatClampNeg)) = M1 at h ⊢
    refine B_iinc (lv1 := [(5, .int (v5 + (1 : Int32))), (0, .ref 49), (1, .int v1), (2, .int v2), (3, .int v3), (4, .int v4)]) (v := (v5 + (1 : Int32))) dX8_laysTo_40 5 rfl rfl (by decide) rfl ?_
    refine B_goto (tgt := 13) dX8_laysTo_43 (by decide) ?_
    refine B_weak [1, 2, 3, 4, 5, 0] rfl ?_
    exact h
set_option maxHeartbeats 4000000 in
set_option maxRecDepth 100000 in
theorem rX8_laysTo_49 (d : Nat) (v3 : Int32) (v4 : Int32) (v5 : Int32) (M : Mm) (Q : Int32 → Mm → Prop)
    (h : ((v3 ≤ v5 → Q (1 : Int32) M) ∧ (¬ v3 ≤ v5 → vp_in v5 7 ∧ (∀ M1 : Mm, M1 = (upd2 M 57 v5.toNatClampNeg (-1 : Int32)) → BX8_laysTo (d + 1) 68 [(0, .ref 49), (3, .int v3), (4, .int v4), (5, .int v5), (6, .int (v3 - (1 : Int32)))] [] M1 Q)))) : BX8_laysTo (d + 1) 49 [(0, .ref 49), (3, .int v3), (4, .int v4), (5, .int v5)] [] M Q := by
  refine B_iload dX8_laysTo_49 3 rfl ?_
  refine B_iload_n dX8_laysTo_51 1 rfl ?_
  refine B_icmp_ge (tgt := 159) dX8_laysTo_52 (by decide) (fun hc => ?_) (fun hc => ?_)
  · have h := h.1 hc
    refine B_iconst (v := 1) dX8_laysTo_159 (by decide) ?_
    exact B_zret dX8_laysTo_160 (Or.inr rfl) h
  · have h := h.2 hc
    refine B_aload_n dX8_laysTo_55 0 rfl ?_
    refine B_getf (T := TX8) (N := 23) (v := .ref 57) 49 14 dX8_laysTo_56 inX8_laysTo_8 lkX8_laysTo_f31 (Nat.le_of_ble_eq_true rfl) (Nat.le_of_ble_eq_true rfl) rfl rfl (by decide) rfl ?_
    refine B_iload dX8_laysTo_59 3 rfl ?_
    refine B_iconst (v := -1) dX8_laysTo_61 (by decide) ?_
    obtain ⟨hi, h⟩ := h
    refine B_iast (n := 7) 57 dX8_laysTo_62 (Nat.le_of_ble_eq_true rfl) rfl rfl hi ?_
    have h := h _ rfl
    generalize (upd2 M 57 v5.toNatClampNeg (-1 : Int32)) = M1 at h ⊢
    refine B_iload_n dX8_laysTo_63 1 rfl ?_
    refine B_iconst (v := 1) dX8_laysTo_64 (by decide) ?_
    refine B_isub dX8_laysTo_65 ?_
    refine B_istore (lv1 := [(6, .int (v3 - (1 : Int32))), (0, .ref 49), (3, .int v3), (4, .int v4), (5, .int v5)]) dX8_laysTo_66 (by decide) rfl ?_
    refine B_weak [1, 2, 3, 4, 0] rfl ?_
    exact h
set_option maxHeartbeats 4000000 in
set_option maxRecDepth 100000 in
theorem rX8_laysTo_68 (d : Nat) (v3 : Int32) (v4 : Int32) (v5 : Int32) (v6 : Int32) (M : Mm) (Q : Int32 → Mm → Prop)
    (h : ((v6 < 0 → vp_in v5 7 ∧ ((0 ≤ (M 57 v5.toNatClampNeg) → vp_in v5 7 ∧ BX8_laysTo (d + 1) 49 [(0, .ref 49), (3, .int v3), (4, .int (v4 ||| (ishl (1 : Int32) (M 57 v5.toNatClampNeg)))), (5, .int (v5 + (1 : Int32)))] [] M Q) ∧ (¬ 0 ≤ (M 57 v5.toNatClampNeg) → Q (0 : Int32) M))) ∧ (¬ v6 < 0 → kX8_has d v4 v6 M (fun (r1 : Int32) (M1 : Mm) => ((¬ r1 = 0 → BX8_laysTo (d + 1) 113 [(0, .ref 49), (3, .int v3), (4, .int v4), (5, .int v5), (6, .int v6)] [.int v5, .ref 57] M1 Q) ∧ (r1 = 0 → vp_in v6 7 ∧ vp_in ((3 : Int32) + v5) 301 ∧ ((¬ (M1 58 v6.toNatClampNeg) = (M1 50 ((3 : Int32) + v5).toNatClampNeg) → BX8_laysTo (d + 1) 113 [(0, .ref 49), (3, .int v3), (4, .int v4), (5, .int v5), (6, .int v6)] [.int v5, .ref 57] M1 Q) ∧ ((M1 58 v6.toNatClampNeg) = (M1 50 ((3 : Int32) + v5).toNatClampNeg) → vp_in v5 7 ∧ (∀ M2 : Mm, M2 = (upd2 M1 57 v5.toNatClampNeg v6) → BX8_laysTo (d + 1) 68 [(0, .ref 49), (3, .int v3), (4, .int v4), (5, .int v5), (6, .int (v6 + (-1 : Int32)))] [] M2 Q))))))))) : BX8_laysTo (d + 1) 68 [(0, .ref 49), (3, .int v3), (4, .int v4), (5, .int v5), (6, .int v6)] [] M Q := by
  refine B_iload dX8_laysTo_68 4 rfl ?_
  refine B_if_lt (tgt := 127) dX8_laysTo_70 (by decide) (fun hc => ?_) (fun hc => ?_)
  · have h := h.1 hc
    refine B_aload_n dX8_laysTo_127 0 rfl ?_
    refine B_getf (T := TX8) (N := 23) (v := .ref 57) 49 14 dX8_laysTo_128 inX8_laysTo_8 lkX8_laysTo_f31 (Nat.le_of_ble_eq_true rfl) (Nat.le_of_ble_eq_true rfl) rfl rfl (by decide) rfl ?_
    refine B_iload dX8_laysTo_131 3 rfl ?_
    obtain ⟨hi, h⟩ := h
    refine B_iald (n := 7) 57 dX8_laysTo_133 (Nat.le_of_ble_eq_true rfl) rfl rfl hi ?_
    refine B_if_ge (tgt := 139) dX8_laysTo_134 (by decide) (fun hc => ?_) (fun hc => ?_)
    · have h := h.1 hc
      refine B_iload dX8_laysTo_139 2 rfl ?_
      refine B_iconst (v := 1) dX8_laysTo_141 (by decide) ?_
      refine B_aload_n dX8_laysTo_142 0 rfl ?_
      refine B_getf (T := TX8) (N := 23) (v := .ref 57) 49 14 dX8_laysTo_143 inX8_laysTo_8 lkX8_laysTo_f31 (Nat.le_of_ble_eq_true rfl) (Nat.le_of_ble_eq_true rfl) rfl rfl (by decide) rfl ?_
      refine B_iload dX8_laysTo_146 3 rfl ?_
      obtain ⟨hi, h⟩ := h
      refine B_iald (n := 7) 57 dX8_laysTo_148 (Nat.le_of_ble_eq_true rfl) rfl rfl hi ?_
      refine B_ishl dX8_laysTo_149 ?_
      refine B_ior dX8_laysTo_150 ?_
      refine B_istore (lv1 := [(4, .int (v4 ||| (ishl (1 : Int32) (M 57 v5.toNatClampNeg)))), (0, .ref 49), (3, .int v3), (5, .int v5), (6, .int v6)]) dX8_laysTo_151 (by decide) rfl ?_
      refine B_iinc (lv1 := [(5, .int (v5 + (1 : Int32))), (4, .int (v4 ||| (ishl (1 : Int32) (M 57 v5.toNatClampNeg)))), (0, .ref 49), (3, .int v3), (6, .int v6)]) (v := (v5 + (1 : Int32))) dX8_laysTo_153 3 rfl rfl (by decide) rfl ?_
      refine B_goto (tgt := 49) dX8_laysTo_156 (by decide) ?_
      refine B_weak [2, 3, 1, 0] rfl ?_
      exact h
    · have h := h.2 hc
      refine B_iconst (v := 0) dX8_laysTo_137 (by decide) ?_
      exact B_zret dX8_laysTo_138 (Or.inl rfl) h
  · have h := h.2 hc
    refine B_aload_n dX8_laysTo_73 0 rfl ?_
    refine B_getf (T := TX8) (N := 23) (v := .ref 57) 49 14 dX8_laysTo_74 inX8_laysTo_8 lkX8_laysTo_f31 (Nat.le_of_ble_eq_true rfl) (Nat.le_of_ble_eq_true rfl) rfl rfl (by decide) rfl ?_
    refine B_iload dX8_laysTo_77 3 rfl ?_
    refine B_iload dX8_laysTo_79 2 rfl ?_
    refine B_iload dX8_laysTo_81 4 rfl ?_
    refine B_callS (st := [.int v5, .ref 57]) [.int v4, .int v6] dX8_laysTo_83 gX8_laysTo_X8_has rfl hyX8_has (Nat.le_of_ble_eq_true rfl) (Nat.le_of_ble_eq_true rfl) rfl (Ct.mono h (Nat.le_refl _) (fun r1 M1 h => ?_))
    refine B_if_ne (tgt := 113) dX8_laysTo_86 (by decide) (fun hc => ?_) (fun hc => ?_)
    · have h := h.1 hc
      refine B_weak [0, 1, 2, 3, 4] rfl ?_
      exact h
    · have h := h.2 hc
      refine B_aload_n dX8_laysTo_89 0 rfl ?_
      refine B_getf (T := TX8) (N := 23) (v := .ref 58) 49 15 dX8_laysTo_90 inX8_laysTo_8 lkX8_laysTo_f34 (Nat.le_of_ble_eq_true rfl) (Nat.le_of_ble_eq_true rfl) rfl rfl (by decide) rfl ?_
      refine B_iload dX8_laysTo_93 4 rfl ?_
      obtain ⟨hi, h⟩ := h
      refine B_iald (n := 7) 58 dX8_laysTo_95 (Nat.le_of_ble_eq_true rfl) rfl rfl hi ?_
      refine B_aload_n dX8_laysTo_96 0 rfl ?_
      refine B_getf (T := TX8) (N := 23) (v := .ref 50) 49 0 dX8_laysTo_97 inX8_laysTo_8 lkX8_laysTo_f7 (Nat.le_of_ble_eq_true rfl) (Nat.le_of_ble_eq_true rfl) rfl rfl (by decide) rfl ?_
      refine B_iconst (v := 3) dX8_laysTo_100 (by decide) ?_
      refine B_iload dX8_laysTo_101 3 rfl ?_
      refine B_iadd dX8_laysTo_103 ?_
      obtain ⟨hi, h⟩ := h
      refine B_iald (n := 301) 50 dX8_laysTo_104 (Nat.le_of_ble_eq_true rfl) rfl rfl hi ?_
      refine B_icmp_ne (tgt := 113) dX8_laysTo_105 (by decide) (fun hc => ?_) (fun hc => ?_)
      · have h := h.1 hc
        refine B_weak [0, 1, 2, 3, 4] rfl ?_
        exact h
      · have h := h.2 hc
        refine B_iload dX8_laysTo_108 4 rfl ?_
        refine B_goto (tgt := 120) dX8_laysTo_110 (by decide) ?_
        obtain ⟨hi, h⟩ := h
        refine B_iast (n := 7) 57 dX8_laysTo_120 (Nat.le_of_ble_eq_true rfl) rfl rfl hi ?_
        have h := h _ rfl
        generalize (upd2 M1 57 v5.toNatClampNeg v6) = M2 at h ⊢
        refine B_iinc (lv1 := [(6, .int (v6 + (-1 : Int32))), (0, .ref 49), (3, .int v3), (4, .int v4), (5, .int v5)]) (v := (v6 + (-1 : Int32))) dX8_laysTo_121 4 rfl rfl (by decide) rfl ?_
        refine B_goto (tgt := 68) dX8_laysTo_124 (by decide) ?_
        refine B_weak [1, 2, 3, 4, 0] rfl ?_
        exact h
set_option maxHeartbeats 4000000 in
set_option maxRecDepth 100000 in
theorem rX8_laysTo_113 (d : Nat) (v3 : Int32) (v4 : Int32) (v5 : Int32) (v6 : Int32) (x0 : Int32) (M : Mm) (Q : Int32 → Mm → Prop)
    (h : vp_in v5 7 ∧ vp_in x0 7 ∧ (∀ M1 : Mm, M1 = (upd2 M 57 x0.toNatClampNeg (M 57 v5.toNatClampNeg)) → BX8_laysTo (d + 1) 68 [(0, .ref 49), (3, .int v3), (4, .int v4), (5, .int v5), (6, .int (v6 + (-1 : Int32)))] [] M1 Q)) : BX8_laysTo (d + 1) 113 [(0, .ref 49), (3, .int v3), (4, .int v4), (5, .int v5), (6, .int v6)] [.int x0, .ref 57] M Q := by
  refine B_aload_n dX8_laysTo_113 0 rfl ?_
  refine B_getf (T := TX8) (N := 23) (v := .ref 57) 49 14 dX8_laysTo_114 inX8_laysTo_8 lkX8_laysTo_f31 (Nat.le_of_ble_eq_true rfl) (Nat.le_of_ble_eq_true rfl) rfl rfl (by decide) rfl ?_
  refine B_iload dX8_laysTo_117 3 rfl ?_
  obtain ⟨hi, h⟩ := h
  refine B_iald (n := 7) 57 dX8_laysTo_119 (Nat.le_of_ble_eq_true rfl) rfl rfl hi ?_
  obtain ⟨hi, h⟩ := h
  refine B_iast (n := 7) 57 dX8_laysTo_120 (Nat.le_of_ble_eq_true rfl) rfl rfl hi ?_
  have h := h _ rfl
  generalize (upd2 M 57 x0.toNatClampNeg (M 57 v5.toNatClampNeg)) = M1 at h ⊢
  refine B_iinc (lv1 := [(6, .int (v6 + (-1 : Int32))), (0, .ref 49), (3, .int v3), (4, .int v4), (5, .int v5)]) (v := (v6 + (-1 : Int32))) dX8_laysTo_121 4 rfl rfl (by decide) rfl ?_
  refine B_goto (tgt := 68) dX8_laysTo_124 (by decide) ?_
  refine B_weak [1, 2, 3, 4, 0] rfl ?_
  exact h
set_option maxHeartbeats 4000000 in
set_option maxRecDepth 100000 in
theorem rX8_rings (d : Nat)  (M : Mm) (Q : Int32 → Mm → Prop)
    (h : BX8_rings (d + 1) 6 [(0, .ref 49), (1, .int (0 : Int32)), (2, .int (0 : Int32)), (3, .int (0 : Int32))] [] M Q) : kX8_rings (d + 1)  M Q := by
  refine Ct.of (cc := cX8_rings) (nL := 5) (by decide) rfl (Nat.le_of_ble_eq_true rfl) ?_
  show BX8_rings (d + 1) 0 [(0, .ref 49)] [] M Q
  refine B_iconst (v := 0) dX8_rings_0 (by decide) ?_
  refine B_istore_n (lv1 := [(1, .int (0 : Int32)), (0, .ref 49)]) dX8_rings_1 (by decide) rfl ?_
  refine B_iconst (v := 0) dX8_rings_2 (by decide) ?_
  refine B_istore_n (lv1 := [(2, .int (0 : Int32)), (1, .int (0 : Int32)), (0, .ref 49)]) dX8_rings_3 (by decide) rfl ?_
  refine B_iconst (v := 0) dX8_rings_4 (by decide) ?_
  refine B_istore_n (lv1 := [(3, .int (0 : Int32)), (2, .int (0 : Int32)), (1, .int (0 : Int32)), (0, .ref 49)]) dX8_rings_5 (by decide) rfl ?_
  refine B_weak [3, 2, 1, 0] rfl ?_
  exact h
set_option maxHeartbeats 4000000 in
set_option maxRecDepth 100000 in
theorem rX8_rings_6 (d : Nat) (v1 : Int32) (v2 : Int32) (v3 : Int32) (M : Mm) (Q : Int32 → Mm → Prop)
    (h : vp_in (0 : Int32) 301 ∧ (((M 50 (0 : Int32).toNatClampNeg) ≤ v3 → Q v2 M) ∧ (¬ (M 50 (0 : Int32).toNatClampNeg) ≤ v3 → kX8_has d v1 v3 M (fun (r1 : Int32) (M1 : Mm) => ((r1 = 0 → BX8_rings (d + 1) 35 [(0, .ref 49), (1, .int v1), (2, .int (v2 + (1 : Int32))), (3, .int v3), (4, .int v3)] [] M1 Q) ∧ (¬ r1 = 0 → BX8_rings (d + 1) 35 [(0, .ref 49), (1, .int v1), (2, .int (v2 + (0 : Int32))), (3, .int v3), (4, .int v3)] [] M1 Q)))))) : BX8_rings (d + 1) 6 [(0, .ref 49), (1, .int v1), (2, .int v2), (3, .int v3)] [] M Q := by
  refine B_iload_n dX8_rings_6 3 rfl ?_
  refine B_aload_n dX8_rings_7 0 rfl ?_
  refine B_getf (T := TX8) (N := 23) (v := .ref 50) 49 0 dX8_rings_8 inX8_rings_8 lkX8_rings_f7 (Nat.le_of_ble_eq_true rfl) (Nat.le_of_ble_eq_true rfl) rfl rfl (by decide) rfl ?_
  refine B_iconst (v := 0) dX8_rings_11 (by decide) ?_
  obtain ⟨hi, h⟩ := h
  refine B_iald (n := 301) 50 dX8_rings_12 (Nat.le_of_ble_eq_true rfl) rfl rfl hi ?_
  refine B_icmp_ge (tgt := 69) dX8_rings_13 (by decide) (fun hc => ?_) (fun hc => ?_)
  · have h := h.1 hc
    refine B_iload_n dX8_rings_69 2 rfl ?_
    exact B_iret dX8_rings_70 h
  · have h := h.2 hc
    refine B_iload_n dX8_rings_16 3 rfl ?_
    refine B_istore (lv1 := [(4, .int v3), (0, .ref 49), (1, .int v1), (2, .int v2), (3, .int v3)]) dX8_rings_17 (by decide) rfl ?_
    refine B_iload_n dX8_rings_19 3 rfl ?_
    refine B_iload_n dX8_rings_20 2 rfl ?_
    refine B_iload_n dX8_rings_21 4 rfl ?_
    refine B_callS (st := [.int v2]) [.int v1, .int v3] dX8_rings_22 gX8_rings_X8_has rfl hyX8_has (Nat.le_of_ble_eq_true rfl) (Nat.le_of_ble_eq_true rfl) rfl (Ct.mono h (Nat.le_refl _) (fun r1 M1 h => ?_))
    refine B_if_eq (tgt := 32) dX8_rings_25 (by decide) (fun hc => ?_) (fun hc => ?_)
    · have h := h.1 hc
      refine B_iconst (v := 1) dX8_rings_32 (by decide) ?_
      refine B_iadd dX8_rings_33 ?_
      refine B_istore_n (lv1 := [(2, .int (v2 + (1 : Int32))), (4, .int v3), (0, .ref 49), (1, .int v1), (3, .int v3)]) dX8_rings_34 (by decide) rfl ?_
      refine B_weak [2, 3, 0, 4, 1] rfl ?_
      exact h
    · have h := h.2 hc
      refine B_iconst (v := 0) dX8_rings_28 (by decide) ?_
      refine B_goto (tgt := 33) dX8_rings_29 (by decide) ?_
      refine B_iadd dX8_rings_33 ?_
      refine B_istore_n (lv1 := [(2, .int (v2 + (0 : Int32))), (4, .int v3), (0, .ref 49), (1, .int v1), (3, .int v3)]) dX8_rings_34 (by decide) rfl ?_
      refine B_weak [2, 3, 0, 4, 1] rfl ?_
      exact h
set_option maxHeartbeats 4000000 in
set_option maxRecDepth 100000 in
theorem rX8_rings_35 (d : Nat) (v1 : Int32) (v2 : Int32) (v3 : Int32) (v4 : Int32) (M : Mm) (Q : Int32 → Mm → Prop)
    (h : kX8_has d v1 v4 M (fun (r1 : Int32) (M1 : Mm) => ((¬ r1 = 0 → BX8_rings (d + 1) 6 [(0, .ref 49), (1, .int v1), (2, .int v2), (3, .int (v3 + (1 : Int32)))] [] M1 Q) ∧ (r1 = 0 → vp_in v4 7 ∧ BX8_rings (d + 1) 35 [(0, .ref 49), (1, .int (v1 ||| (ishl (1 : Int32) v4))), (2, .int v2), (3, .int v3), (4, .int (M1 57 v4.toNatClampNeg))] [] M1 Q)))) : BX8_rings (d + 1) 35 [(0, .ref 49), (1, .int v1), (2, .int v2), (3, .int v3), (4, .int v4)] [] M Q := by
  refine B_iload_n dX8_rings_35 1 rfl ?_
  refine B_iload dX8_rings_36 4 rfl ?_
  refine B_callS (st := []) [.int v1, .int v4] dX8_rings_38 gX8_rings_X8_has rfl hyX8_has (Nat.le_of_ble_eq_true rfl) (Nat.le_of_ble_eq_true rfl) rfl (Ct.mono h (Nat.le_refl _) (fun r1 M1 h => ?_))
  refine B_if_ne (tgt := 63) dX8_rings_41 (by decide) (fun hc => ?_) (fun hc => ?_)
  · have h := h.1 hc
    refine B_iinc (lv1 := [(3, .int (v3 + (1 : Int32))), (0, .ref 49), (1, .int v1), (2, .int v2), (4, .int v4)]) (v := (v3 + (1 : Int32))) dX8_rings_63 3 rfl rfl (by decide) rfl ?_
    refine B_goto (tgt := 6) dX8_rings_66 (by decide) ?_
    refine B_weak [1, 2, 3, 0] rfl ?_
    exact h
  · have h := h.2 hc
    refine B_iload_n dX8_rings_44 1 rfl ?_
    refine B_iconst (v := 1) dX8_rings_45 (by decide) ?_
    refine B_iload dX8_rings_46 4 rfl ?_
    refine B_ishl dX8_rings_48 ?_
    refine B_ior dX8_rings_49 ?_
    refine B_istore_n (lv1 := [(1, .int (v1 ||| (ishl (1 : Int32) v4))), (0, .ref 49), (2, .int v2), (3, .int v3), (4, .int v4)]) dX8_rings_50 (by decide) rfl ?_
    refine B_aload_n dX8_rings_51 1 rfl ?_
    refine B_getf (T := TX8) (N := 23) (v := .ref 57) 49 14 dX8_rings_52 inX8_rings_8 lkX8_rings_f31 (Nat.le_of_ble_eq_true rfl) (Nat.le_of_ble_eq_true rfl) rfl rfl (by decide) rfl ?_
    refine B_iload dX8_rings_55 4 rfl ?_
    obtain ⟨hi, h⟩ := h
    refine B_iald (n := 7) 57 dX8_rings_57 (Nat.le_of_ble_eq_true rfl) rfl rfl hi ?_
    refine B_istore (lv1 := [(4, .int (M1 57 v4.toNatClampNeg)), (1, .int (v1 ||| (ishl (1 : Int32) v4))), (0, .ref 49), (2, .int v2), (3, .int v3)]) dX8_rings_58 (by decide) rfl ?_
    refine B_goto (tgt := 35) dX8_rings_60 (by decide) ?_
    refine B_weak [2, 1, 3, 4, 0] rfl ?_
    exact h
set_option maxHeartbeats 4000000 in
set_option maxRecDepth 100000 in
theorem rX8_mostRings (d : Nat)  (M : Mm) (Q : Int32 → Mm → Prop)
    (h : BX8_mostRings (d + 1) 4 [(0, .ref 49), (1, .int (0 : Int32)), (2, .int (0 : Int32))] [] M Q) : kX8_mostRings (d + 1)  M Q := by
  refine Ct.of (cc := cX8_mostRings) (nL := 6) (by decide) rfl (Nat.le_of_ble_eq_true rfl) ?_
  show BX8_mostRings (d + 1) 0 [(0, .ref 49)] [] M Q
  refine B_iconst (v := 0) dX8_mostRings_0 (by decide) ?_
  refine B_istore_n (lv1 := [(1, .int (0 : Int32)), (0, .ref 49)]) dX8_mostRings_1 (by decide) rfl ?_
  refine B_iconst (v := 0) dX8_mostRings_2 (by decide) ?_
  refine B_istore_n (lv1 := [(2, .int (0 : Int32)), (1, .int (0 : Int32)), (0, .ref 49)]) dX8_mostRings_3 (by decide) rfl ?_
  refine B_weak [2, 1, 0] rfl ?_
  exact h
set_option maxHeartbeats 4000000 in
set_option maxRecDepth 100000 in
theorem rX8_mostRings_4 (d : Nat) (v1 : Int32) (v2 : Int32) (M : Mm) (Q : Int32 → Mm → Prop)
    (h : vp_in (0 : Int32) 301 ∧ (((M 50 (0 : Int32).toNatClampNeg) ≤ v2 → vp_in (0 : Int32) 8 ∧ (∀ M1 : Mm, M1 = (upd2 M 61 (0 : Int32).toNatClampNeg (-1 : Int32)) → BX8_mostRings (d + 1) 64 [(0, .ref 49), (1, .int v1), (2, .int (0 : Int32)), (3, .int (0 : Int32))] [] M1 Q)) ∧ (¬ (M 50 (0 : Int32).toNatClampNeg) ≤ v2 → vp_in ((3 : Int32) + v2) 301 ∧ ((¬ (M 50 ((3 : Int32) + v2).toNatClampNeg) = 0 → BX8_mostRings (d + 1) 4 [(0, .ref 49), (1, .int v1), (2, .int (v2 + (1 : Int32)))] [] M Q) ∧ ((M 50 ((3 : Int32) + v2).toNatClampNeg) = 0 → vp_in v1 7 ∧ (∀ M2 : Mm, M2 = (upd2 M 59 v1.toNatClampNeg v2) → vp_in v2 7 ∧ vp_in v1 7 ∧ (∀ M3 : Mm, M3 = (upd2 M2 60 v1.toNatClampNeg (M2 57 v2.toNatClampNeg)) → BX8_mostRings (d + 1) 4 [(0, .ref 49), (1, .int (v1 + (1 : Int32))), (2, .int (v2 + (1 : Int32)))] [] M3 Q))))))) : BX8_mostRings (d + 1) 4 [(0, .ref 49), (1, .int v1), (2, .int v2)] [] M Q := by
  refine B_iload_n dX8_mostRings_4 2 rfl ?_
  refine B_aload_n dX8_mostRings_5 0 rfl ?_
  refine B_getf (T := TX8) (N := 23) (v := .ref 50) 49 0 dX8_mostRings_6 inX8_mostRings_8 lkX8_mostRings_f7 (Nat.le_of_ble_eq_true rfl) (Nat.le_of_ble_eq_true rfl) rfl rfl (by decide) rfl ?_
  refine B_iconst (v := 0) dX8_mostRings_9 (by decide) ?_
  obtain ⟨hi, h⟩ := h
  refine B_iald (n := 301) 50 dX8_mostRings_10 (Nat.le_of_ble_eq_true rfl) rfl rfl hi ?_
  refine B_icmp_ge (tgt := 53) dX8_mostRings_11 (by decide) (fun hc => ?_) (fun hc => ?_)
  · have h := h.1 hc
    refine B_iconst (v := 0) dX8_mostRings_53 (by decide) ?_
    refine B_istore_n (lv1 := [(2, .int (0 : Int32)), (0, .ref 49), (1, .int v1)]) dX8_mostRings_54 (by decide) rfl ?_
    refine B_iconst (v := 0) dX8_mostRings_55 (by decide) ?_
    refine B_istore_n (lv1 := [(3, .int (0 : Int32)), (2, .int (0 : Int32)), (0, .ref 49), (1, .int v1)]) dX8_mostRings_56 (by decide) rfl ?_
    refine B_aload_n dX8_mostRings_57 2 rfl ?_
    refine B_getf (T := TX8) (N := 23) (v := .ref 61) 49 18 dX8_mostRings_58 inX8_mostRings_8 lkX8_mostRings_f43 (Nat.le_of_ble_eq_true rfl) (Nat.le_of_ble_eq_true rfl) rfl rfl (by decide) rfl ?_
    refine B_iconst (v := 0) dX8_mostRings_61 (by decide) ?_
    refine B_iconst (v := -1) dX8_mostRings_62 (by decide) ?_
    obtain ⟨hi, h⟩ := h
    refine B_iast (n := 8) 61 dX8_mostRings_63 (Nat.le_of_ble_eq_true rfl) rfl rfl hi ?_
    have h := h _ rfl
    generalize (upd2 M 61 (0 : Int32).toNatClampNeg (-1 : Int32)) = M1 at h ⊢
    refine B_weak [2, 3, 1, 0] rfl ?_
    exact h
  · have h := h.2 hc
    refine B_aload_n dX8_mostRings_14 0 rfl ?_
    refine B_getf (T := TX8) (N := 23) (v := .ref 50) 49 0 dX8_mostRings_15 inX8_mostRings_8 lkX8_mostRings_f7 (Nat.le_of_ble_eq_true rfl) (Nat.le_of_ble_eq_true rfl) rfl rfl (by decide) rfl ?_
    refine B_iconst (v := 3) dX8_mostRings_18 (by decide) ?_
    refine B_iload_n dX8_mostRings_19 2 rfl ?_
    refine B_iadd dX8_mostRings_20 ?_
    obtain ⟨hi, h⟩ := h
    refine B_iald (n := 301) 50 dX8_mostRings_21 (Nat.le_of_ble_eq_true rfl) rfl rfl hi ?_
    refine B_if_ne (tgt := 47) dX8_mostRings_22 (by decide) (fun hc => ?_) (fun hc => ?_)
    · have h := h.1 hc
      refine B_iinc (lv1 := [(2, .int (v2 + (1 : Int32))), (0, .ref 49), (1, .int v1)]) (v := (v2 + (1 : Int32))) dX8_mostRings_47 2 rfl rfl (by decide) rfl ?_
      refine B_goto (tgt := 4) dX8_mostRings_50 (by decide) ?_
      refine B_weak [1, 2, 0] rfl ?_
      exact h
    · have h := h.2 hc
      refine B_aload_n dX8_mostRings_25 0 rfl ?_
      refine B_getf (T := TX8) (N := 23) (v := .ref 59) 49 16 dX8_mostRings_26 inX8_mostRings_8 lkX8_mostRings_f37 (Nat.le_of_ble_eq_true rfl) (Nat.le_of_ble_eq_true rfl) rfl rfl (by decide) rfl ?_
      refine B_iload_n dX8_mostRings_29 1 rfl ?_
      refine B_iload_n dX8_mostRings_30 2 rfl ?_
      obtain ⟨hi, h⟩ := h
      refine B_iast (n := 7) 59 dX8_mostRings_31 (Nat.le_of_ble_eq_true rfl) rfl rfl hi ?_
      have h := h _ rfl
      generalize (upd2 M 59 v1.toNatClampNeg v2) = M2 at h ⊢
      refine B_aload_n dX8_mostRings_32 0 rfl ?_
      refine B_getf (T := TX8) (N := 23) (v := .ref 60) 49 17 dX8_mostRings_33 inX8_mostRings_8 lkX8_mostRings_f40 (Nat.le_of_ble_eq_true rfl) (Nat.le_of_ble_eq_true rfl) rfl rfl (by decide) rfl ?_
      refine B_iload_n dX8_mostRings_36 1 rfl ?_
      refine B_aload_n dX8_mostRings_37 0 rfl ?_
      refine B_getf (T := TX8) (N := 23) (v := .ref 57) 49 14 dX8_mostRings_38 inX8_mostRings_8 lkX8_mostRings_f31 (Nat.le_of_ble_eq_true rfl) (Nat.le_of_ble_eq_true rfl) rfl rfl (by decide) rfl ?_
      refine B_iload_n dX8_mostRings_41 2 rfl ?_
      obtain ⟨hi, h⟩ := h
      refine B_iald (n := 7) 57 dX8_mostRings_42 (Nat.le_of_ble_eq_true rfl) rfl rfl hi ?_
      obtain ⟨hi, h⟩ := h
      refine B_iast (n := 7) 60 dX8_mostRings_43 (Nat.le_of_ble_eq_true rfl) rfl rfl hi ?_
      have h := h _ rfl
      generalize (upd2 M2 60 v1.toNatClampNeg (M2 57 v2.toNatClampNeg)) = M3 at h ⊢
      refine B_iinc (lv1 := [(1, .int (v1 + (1 : Int32))), (0, .ref 49), (2, .int v2)]) (v := (v1 + (1 : Int32))) dX8_mostRings_44 1 rfl rfl (by decide) rfl ?_
      refine B_iinc (lv1 := [(2, .int (v2 + (1 : Int32))), (1, .int (v1 + (1 : Int32))), (0, .ref 49)]) (v := (v2 + (1 : Int32))) dX8_mostRings_47 2 rfl rfl (by decide) rfl ?_
      refine B_goto (tgt := 4) dX8_mostRings_50 (by decide) ?_
      refine B_weak [2, 1, 0] rfl ?_
      exact h
set_option maxHeartbeats 4000000 in
set_option maxRecDepth 100000 in
theorem rX8_mostRings_64 (d : Nat) (v1 : Int32) (v2 : Int32) (v3 : Int32) (M : Mm) (Q : Int32 → Mm → Prop)
    (h : ((v3 < 0 → Q v2 M) ∧ (¬ v3 < 0 → BX8_mostRings (d + 1) 74 [(0, .ref 49), (1, .int v1), (2, .int v2), (3, .int v3), (4, .int (0 : Int32)), (5, .int (0 : Int32))] [] M Q))) : BX8_mostRings (d + 1) 64 [(0, .ref 49), (1, .int v1), (2, .int v2), (3, .int v3)] [] M Q := by
  refine B_iload_n dX8_mostRings_64 3 rfl ?_
  refine B_if_lt (tgt := 234) dX8_mostRings_65 (by decide) (fun hc => ?_) (fun hc => ?_)
  · have h := h.1 hc
    refine B_iload_n dX8_mostRings_234 2 rfl ?_
    exact B_iret dX8_mostRings_235 h
  · have h := h.2 hc
    refine B_iconst (v := 0) dX8_mostRings_68 (by decide) ?_
    refine B_istore (lv1 := [(4, .int (0 : Int32)), (0, .ref 49), (1, .int v1), (2, .int v2), (3, .int v3)]) dX8_mostRings_69 (by decide) rfl ?_
    refine B_iconst (v := 0) dX8_mostRings_71 (by decide) ?_
    refine B_istore (lv1 := [(5, .int (0 : Int32)), (4, .int (0 : Int32)), (0, .ref 49), (1, .int v1), (2, .int v2), (3, .int v3)]) dX8_mostRings_72 (by decide) rfl ?_
    refine B_weak [2, 3, 4, 5, 1, 0] rfl ?_
    exact h
set_option maxHeartbeats 4000000 in
set_option maxRecDepth 100000 in
theorem rX8_mostRings_74 (d : Nat) (v1 : Int32) (v2 : Int32) (v3 : Int32) (v4 : Int32) (v5 : Int32) (M : Mm) (Q : Int32 → Mm → Prop)
    (h : ((v3 ≤ v5 → ((¬ v3 = v1 → vp_in v3 8 ∧ BX8_mostRings (d + 1) 179 [(0, .ref 49), (1, .int v1), (2, .int v2), (3, .int v3), (4, .int v4), (5, .int ((M 61 v3.toNatClampNeg) + (1 : Int32)))] [] M Q) ∧ (v3 = v1 → BX8_mostRings (d + 1) 108 [(0, .ref 49), (1, .int v1), (2, .int v2), (3, .int v3), (5, .int (0 : Int32))] [] M Q))) ∧ (¬ v3 ≤ v5 → vp_in v5 8 ∧ BX8_mostRings (d + 1) 74 [(0, .ref 49), (1, .int v1), (2, .int v2), (3, .int v3), (4, .int (v4 ||| (ishl (1 : Int32) (M 61 v5.toNatClampNeg)))), (5, .int (v5 + (1 : Int32)))] [] M Q))) : BX8_mostRings (d + 1) 74 [(0, .ref 49), (1, .int v1), (2, .int v2), (3, .int v3), (4, .int v4), (5, .int v5)] [] M Q := by
  refine B_iload dX8_mostRings_74 5 rfl ?_
  refine B_iload_n dX8_mostRings_76 3 rfl ?_
  refine B_icmp_ge (tgt := 100) dX8_mostRings_77 (by decide) (fun hc => ?_) (fun hc => ?_)
  · have h := h.1 hc
    refine B_iload_n dX8_mostRings_100 3 rfl ?_
    refine B_iload_n dX8_mostRings_101 1 rfl ?_
    refine B_icmp_ne (tgt := 169) dX8_mostRings_102 (by decide) (fun hc => ?_) (fun hc => ?_)
    · have h := h.1 hc
      refine B_aload_n dX8_mostRings_169 0 rfl ?_
      refine B_getf (T := TX8) (N := 23) (v := .ref 61) 49 18 dX8_mostRings_170 inX8_mostRings_8 lkX8_mostRings_f43 (Nat.le_of_ble_eq_true rfl) (Nat.le_of_ble_eq_true rfl) rfl rfl (by decide) rfl ?_
      refine B_iload_n dX8_mostRings_173 3 rfl ?_
      obtain ⟨hi, h⟩ := h
      refine B_iald (n := 8) 61 dX8_mostRings_174 (Nat.le_of_ble_eq_true rfl) rfl rfl hi ?_
      refine B_iconst (v := 1) dX8_mostRings_175 (by decide) ?_
      refine B_iadd dX8_mostRings_176 ?_
      refine B_istore (lv1 := [(5, .int ((M 61 v3.toNatClampNeg) + (1 : Int32))), (0, .ref 49), (1, .int v1), (2, .int v2), (3, .int v3), (4, .int v4)]) dX8_mostRings_177 (by decide) rfl ?_
      refine B_weak [1, 2, 3, 4, 5, 0] rfl ?_
      exact h
    · have h := h.2 hc
      refine B_iconst (v := 0) dX8_mostRings_105 (by decide) ?_
      refine B_istore (lv1 := [(5, .int (0 : Int32)), (0, .ref 49), (1, .int v1), (2, .int v2), (3, .int v3), (4, .int v4)]) dX8_mostRings_106 (by decide) rfl ?_
      refine B_weak [1, 2, 3, 4, 0] rfl ?_
      exact h
  · have h := h.2 hc
    refine B_iload dX8_mostRings_80 4 rfl ?_
    refine B_iconst (v := 1) dX8_mostRings_82 (by decide) ?_
    refine B_aload_n dX8_mostRings_83 0 rfl ?_
    refine B_getf (T := TX8) (N := 23) (v := .ref 61) 49 18 dX8_mostRings_84 inX8_mostRings_8 lkX8_mostRings_f43 (Nat.le_of_ble_eq_true rfl) (Nat.le_of_ble_eq_true rfl) rfl rfl (by decide) rfl ?_
    refine B_iload dX8_mostRings_87 5 rfl ?_
    obtain ⟨hi, h⟩ := h
    refine B_iald (n := 8) 61 dX8_mostRings_89 (Nat.le_of_ble_eq_true rfl) rfl rfl hi ?_
    refine B_ishl dX8_mostRings_90 ?_
    refine B_ior dX8_mostRings_91 ?_
    refine B_istore (lv1 := [(4, .int (v4 ||| (ishl (1 : Int32) (M 61 v5.toNatClampNeg)))), (0, .ref 49), (1, .int v1), (2, .int v2), (3, .int v3), (5, .int v5)]) dX8_mostRings_92 (by decide) rfl ?_
    refine B_iinc (lv1 := [(5, .int (v5 + (1 : Int32))), (4, .int (v4 ||| (ishl (1 : Int32) (M 61 v5.toNatClampNeg)))), (0, .ref 49), (1, .int v1), (2, .int v2), (3, .int v3)]) (v := (v5 + (1 : Int32))) dX8_mostRings_94 5 rfl rfl (by decide) rfl ?_
    refine B_goto (tgt := 74) dX8_mostRings_97 (by decide) ?_
    refine B_weak [2, 3, 4, 5, 1, 0] rfl ?_
    exact h
set_option maxHeartbeats 4000000 in
set_option maxRecDepth 100000 in
theorem rX8_mostRings_108 (d : Nat) (v1 : Int32) (v2 : Int32) (v3 : Int32) (v5 : Int32) (M : Mm) (Q : Int32 → Mm → Prop)
    (h : ((v1 ≤ v5 → kX8_rings d  M (fun (r1 : Int32) (M1 : Mm) => ((r1 ≤ v2 → BX8_mostRings (d + 1) 64 [(0, .ref 49), (1, .int v1), (2, .int v2), (3, .int (v3 + (-1 : Int32)))] [] M1 Q) ∧ (¬ r1 ≤ v2 → BX8_mostRings (d + 1) 64 [(0, .ref 49), (1, .int v1), (2, .int r1), (3, .int (v3 + (-1 : Int32)))] [] M1 Q)))) ∧ (¬ v1 ≤ v5 → vp_in v5 7 ∧ vp_in v5 8 ∧ vp_in (M 61 v5.toNatClampNeg) 7 ∧ vp_in (M 59 v5.toNatClampNeg) 7 ∧ (∀ M2 : Mm, M2 = (upd2 M 57 (M 59 v5.toNatClampNeg).toNatClampNeg (M 60 (M 61 v5.toNatClampNeg).toNatClampNeg)) → BX8_mostRings (d + 1) 108 [(0, .ref 49), (1, .int v1), (2, .int v2), (3, .int v3), (5, .int (v5 + (1 : Int32)))] [] M2 Q)))) : BX8_mostRings (d + 1) 108 [(0, .ref 49), (1, .int v1), (2, .int v2), (3, .int v3), (5, .int v5)] [] M Q := by
  refine B_iload dX8_mostRings_108 4 rfl ?_
  refine B_iload_n dX8_mostRings_110 1 rfl ?_
  refine B_icmp_ge (tgt := 144) dX8_mostRings_111 (by decide) (fun hc => ?_) (fun hc => ?_)
  · have h := h.1 hc
    refine B_aload_n dX8_mostRings_144 0 rfl ?_
    refine B_callV (st := []) 49 [] dX8_mostRings_145 gX8_mostRings_X8_rings rfl hyX8_rings (Nat.le_of_ble_eq_true rfl) (Nat.le_of_ble_eq_true rfl) TX8 23 rfl (Nat.le_of_ble_eq_true rfl) (Nat.le_of_ble_eq_true rfl) rfl (Ct.mono h (Nat.le_refl _) (fun r1 M1 h => ?_))
    refine B_istore (lv1 := [(5, .int r1), (0, .ref 49), (1, .int v1), (2, .int v2), (3, .int v3)]) dX8_mostRings_148 (by decide) rfl ?_
    refine B_iload dX8_mostRings_150 0 rfl ?_
    refine B_iload_n dX8_mostRings_152 3 rfl ?_
    refine B_icmp_le (tgt := 161) dX8_mostRings_153 (by decide) (fun hc => ?_) (fun hc => ?_)
    · have h := h.1 hc
      refine B_iload_n dX8_mostRings_161 3 rfl ?_
      refine B_istore_n (lv1 := [(2, .int v2), (5, .int r1), (0, .ref 49), (1, .int v1), (3, .int v3)]) dX8_mostRings_162 (by decide) rfl ?_
      refine B_iinc (lv1 := [(3, .int (v3 + (-1 : Int32))), (2, .int v2), (5, .int r1), (0, .ref 49), (1, .int v1)]) (v := (v3 + (-1 : Int32))) dX8_mostRings_163 4 rfl rfl (by decide) rfl ?_
      refine B_goto (tgt := 231) dX8_mostRings_166 (by decide) ?_
      refine B_goto (tgt := 64) dX8_mostRings_231 (by decide) ?_
      refine B_weak [3, 4, 1, 0] rfl ?_
      exact h
    · have h := h.2 hc
      refine B_iload dX8_mostRings_156 0 rfl ?_
      refine B_goto (tgt := 162) dX8_mostRings_158 (by decide) ?_
      refine B_istore_n (lv1 := [(2, .int r1), (5, .int r1), (0, .ref 49), (1, .int v1), (3, .int v3)]) dX8_mostRings_162 (by decide) rfl ?_
      refine B_iinc (lv1 := [(3, .int (v3 + (-1 : Int32))), (2, .int r1), (5, .int r1), (0, .ref 49), (1, .int v1)]) (v := (v3 + (-1 : Int32))) dX8_mostRings_163 4 rfl rfl (by decide) rfl ?_
      refine B_goto (tgt := 231) dX8_mostRings_166 (by decide) ?_
      refine B_goto (tgt := 64) dX8_mostRings_231 (by decide) ?_
      refine B_weak [3, 4, 1, 0] rfl ?_
      exact h
  · have h := h.2 hc
    refine B_aload_n dX8_mostRings_114 0 rfl ?_
    refine B_getf (T := TX8) (N := 23) (v := .ref 57) 49 14 dX8_mostRings_115 inX8_mostRings_8 lkX8_mostRings_f31 (Nat.le_of_ble_eq_true rfl) (Nat.le_of_ble_eq_true rfl) rfl rfl (by decide) rfl ?_
    refine B_aload_n dX8_mostRings_118 0 rfl ?_
    refine B_getf (T := TX8) (N := 23) (v := .ref 59) 49 16 dX8_mostRings_119 inX8_mostRings_8 lkX8_mostRings_f37 (Nat.le_of_ble_eq_true rfl) (Nat.le_of_ble_eq_true rfl) rfl rfl (by decide) rfl ?_
    refine B_iload dX8_mostRings_122 4 rfl ?_
    obtain ⟨hi, h⟩ := h
    refine B_iald (n := 7) 59 dX8_mostRings_124 (Nat.le_of_ble_eq_true rfl) rfl rfl hi ?_
    refine B_aload_n dX8_mostRings_125 0 rfl ?_
    refine B_getf (T := TX8) (N := 23) (v := .ref 60) 49 17 dX8_mostRings_126 inX8_mostRings_8 lkX8_mostRings_f40 (Nat.le_of_ble_eq_true rfl) (Nat.le_of_ble_eq_true rfl) rfl rfl (by decide) rfl ?_
    refine B_aload_n dX8_mostRings_129 0 rfl ?_
    refine B_getf (T := TX8) (N := 23) (v := .ref 61) 49 18 dX8_mostRings_130 inX8_mostRings_8 lkX8_mostRings_f43 (Nat.le_of_ble_eq_true rfl) (Nat.le_of_ble_eq_true rfl) rfl rfl (by decide) rfl ?_
    refine B_iload dX8_mostRings_133 4 rfl ?_
    obtain ⟨hi, h⟩ := h
    refine B_iald (n := 8) 61 dX8_mostRings_135 (Nat.le_of_ble_eq_true rfl) rfl rfl hi ?_
    obtain ⟨hi, h⟩ := h
    refine B_iald (n := 7) 60 dX8_mostRings_136 (Nat.le_of_ble_eq_true rfl) rfl rfl hi ?_
    obtain ⟨hi, h⟩ := h
    refine B_iast (n := 7) 57 dX8_mostRings_137 (Nat.le_of_ble_eq_true rfl) rfl rfl hi ?_
    have h := h _ rfl
    generalize (upd2 M 57 (M 59 v5.toNatClampNeg).toNatClampNeg (M 60 (M 61 v5.toNatClampNeg).toNatClampNeg)) = M2 at h ⊢
    refine B_iinc (lv1 := [(5, .int (v5 + (1 : Int32))), (0, .ref 49), (1, .int v1), (2, .int v2), (3, .int v3)]) (v := (v5 + (1 : Int32))) dX8_mostRings_138 4 rfl rfl (by decide) rfl ?_
    refine B_goto (tgt := 108) dX8_mostRings_141 (by decide) ?_
    refine B_weak [1, 2, 3, 4, 0] rfl ?_
    exact h
set_option maxHeartbeats 4000000 in
set_option maxRecDepth 100000 in
theorem rX8_mostRings_179 (d : Nat) (v1 : Int32) (v2 : Int32) (v3 : Int32) (v4 : Int32) (v5 : Int32) (M : Mm) (Q : Int32 → Mm → Prop)
    (h : ((v1 ≤ v5 → BX8_mostRings (d + 1) 201 [(0, .ref 49), (1, .int v1), (2, .int v2), (3, .int v3), (5, .int v5)] [] M Q) ∧ (¬ v1 ≤ v5 → kX8_has d v4 v5 M (fun (r1 : Int32) (M1 : Mm) => ((r1 = 0 → BX8_mostRings (d + 1) 201 [(0, .ref 49), (1, .int v1), (2, .int v2), (3, .int v3), (5, .int v5)] [] M1 Q) ∧ (¬ r1 = 0 → BX8_mostRings (d + 1) 179 [(0, .ref 49), (1, .int v1), (2, .int v2), (3, .int v3), (4, .int v4), (5, .int (v5 + (1 : Int32)))] [] M1 Q)))))) : BX8_mostRings (d + 1) 179 [(0, .ref 49), (1, .int v1), (2, .int v2), (3, .int v3), (4, .int v4), (5, .int v5)] [] M Q := by
  refine B_iload dX8_mostRings_179 5 rfl ?_
  refine B_iload_n dX8_mostRings_181 1 rfl ?_
  refine B_icmp_ge (tgt := 201) dX8_mostRings_182 (by decide) (fun hc => ?_) (fun hc => ?_)
  · have h := h.1 hc
    refine B_weak [0, 1, 2, 3, 5] rfl ?_
    exact h
  · have h := h.2 hc
    refine B_iload dX8_mostRings_185 4 rfl ?_
    refine B_iload dX8_mostRings_187 5 rfl ?_
    refine B_callS (st := []) [.int v4, .int v5] dX8_mostRings_189 gX8_mostRings_X8_has rfl hyX8_has (Nat.le_of_ble_eq_true rfl) (Nat.le_of_ble_eq_true rfl) rfl (Ct.mono h (Nat.le_refl _) (fun r1 M1 h => ?_))
    refine B_if_eq (tgt := 201) dX8_mostRings_192 (by decide) (fun hc => ?_) (fun hc => ?_)
    · have h := h.1 hc
      refine B_weak [0, 1, 2, 3, 5] rfl ?_
      exact h
    · have h := h.2 hc
      refine B_iinc (lv1 := [(5, .int (v5 + (1 : Int32))), (0, .ref 49), (1, .int v1), (2, .int v2), (3, .int v3), (4, .int v4)]) (v := (v5 + (1 : Int32))) dX8_mostRings_195 5 rfl rfl (by decide) rfl ?_
      refine B_goto (tgt := 179) dX8_mostRings_198 (by decide) ?_
      refine B_weak [1, 2, 3, 4, 5, 0] rfl ?_
      exact h
set_option maxHeartbeats 4000000 in
set_option maxRecDepth 100000 in
theorem rX8_mostRings_201 (d : Nat) (v1 : Int32) (v2 : Int32) (v3 : Int32) (v5 : Int32) (M : Mm) (Q : Int32 → Mm → Prop)
    (h : vp_in v3 8 ∧ (∀ M1 : Mm, M1 = (upd2 M 61 v3.toNatClampNeg v5) → ((¬ v5 = v1 → vp_in (v3 + (1 : Int32)) 8 ∧ (∀ M2 : Mm, M2 = (upd2 M1 61 (v3 + (1 : Int32)).toNatClampNeg (-1 : Int32)) → BX8_mostRings (d + 1) 64 [(0, .ref 49), (1, .int v1), (2, .int v2), (3, .int (v3 + (1 : Int32)))] [] M2 Q)) ∧ (v5 = v1 → BX8_mostRings (d + 1) 64 [(0, .ref 49), (1, .int v1), (2, .int v2), (3, .int (v3 + (-1 : Int32)))] [] M1 Q)))) : BX8_mostRings (d + 1) 201 [(0, .ref 49), (1, .int v1), (2, .int v2), (3, .int v3), (5, .int v5)] [] M Q := by
  refine B_aload_n dX8_mostRings_201 0 rfl ?_
  refine B_getf (T := TX8) (N := 23) (v := .ref 61) 49 18 dX8_mostRings_202 inX8_mostRings_8 lkX8_mostRings_f43 (Nat.le_of_ble_eq_true rfl) (Nat.le_of_ble_eq_true rfl) rfl rfl (by decide) rfl ?_
  refine B_iload_n dX8_mostRings_205 3 rfl ?_
  refine B_iload dX8_mostRings_206 4 rfl ?_
  obtain ⟨hi, h⟩ := h
  refine B_iast (n := 8) 61 dX8_mostRings_208 (Nat.le_of_ble_eq_true rfl) rfl rfl hi ?_
  have h := h _ rfl
  generalize (upd2 M 61 v3.toNatClampNeg v5) = M1 at h ⊢
  refine B_iload dX8_mostRings_209 4 rfl ?_
  refine B_iload_n dX8_mostRings_211 1 rfl ?_
  refine B_icmp_ne (tgt := 221) dX8_mostRings_212 (by decide) (fun hc => ?_) (fun hc => ?_)
  · have h := h.1 hc
    refine B_iinc (lv1 := [(3, .int (v3 + (1 : Int32))), (0, .ref 49), (1, .int v1), (2, .int v2), (5, .int v5)]) (v := (v3 + (1 : Int32))) dX8_mostRings_221 3 rfl rfl (by decide) rfl ?_
    refine B_aload_n dX8_mostRings_224 1 rfl ?_
    refine B_getf (T := TX8) (N := 23) (v := .ref 61) 49 18 dX8_mostRings_225 inX8_mostRings_8 lkX8_mostRings_f43 (Nat.le_of_ble_eq_true rfl) (Nat.le_of_ble_eq_true rfl) rfl rfl (by decide) rfl ?_
    refine B_iload_n dX8_mostRings_228 0 rfl ?_
    refine B_iconst (v := -1) dX8_mostRings_229 (by decide) ?_
    obtain ⟨hi, h⟩ := h
    refine B_iast (n := 8) 61 dX8_mostRings_230 (Nat.le_of_ble_eq_true rfl) rfl rfl hi ?_
    have h := h _ rfl
    generalize (upd2 M1 61 (v3 + (1 : Int32)).toNatClampNeg (-1 : Int32)) = M2 at h ⊢
    refine B_goto (tgt := 64) dX8_mostRings_231 (by decide) ?_
    refine B_weak [1, 2, 3, 0] rfl ?_
    exact h
  · have h := h.2 hc
    refine B_iinc (lv1 := [(3, .int (v3 + (-1 : Int32))), (0, .ref 49), (1, .int v1), (2, .int v2), (5, .int v5)]) (v := (v3 + (-1 : Int32))) dX8_mostRings_215 3 rfl rfl (by decide) rfl ?_
    refine B_goto (tgt := 231) dX8_mostRings_218 (by decide) ?_
    refine B_goto (tgt := 64) dX8_mostRings_231 (by decide) ?_
    refine B_weak [1, 2, 3, 0] rfl ?_
    exact h
set_option maxHeartbeats 4000000 in
set_option maxRecDepth 100000 in
theorem rX8_noneOf (d : Nat)  (M : Mm) (Q : Int32 → Mm → Prop)
    (h : BX8_noneOf d 4 [(0, .ref 49), (1, .int (0 : Int32)), (2, .int (0 : Int32))] [] M Q) : kX8_noneOf d  M Q := by
  refine Ct.of (cc := cX8_noneOf) (nL := 3) (by decide) rfl (Nat.le_of_ble_eq_true rfl) ?_
  show BX8_noneOf d 0 [(0, .ref 49)] [] M Q
  refine B_iconst (v := 0) dX8_noneOf_0 (by decide) ?_
  refine B_istore_n (lv1 := [(1, .int (0 : Int32)), (0, .ref 49)]) dX8_noneOf_1 (by decide) rfl ?_
  refine B_iconst (v := 0) dX8_noneOf_2 (by decide) ?_
  refine B_istore_n (lv1 := [(2, .int (0 : Int32)), (1, .int (0 : Int32)), (0, .ref 49)]) dX8_noneOf_3 (by decide) rfl ?_
  refine B_weak [2, 1, 0] rfl ?_
  exact h
set_option maxHeartbeats 4000000 in
set_option maxRecDepth 100000 in
theorem rX8_noneOf_4 (d : Nat) (v1 : Int32) (v2 : Int32) (M : Mm) (Q : Int32 → Mm → Prop)
    (h : vp_in (0 : Int32) 301 ∧ (((M 50 (0 : Int32).toNatClampNeg) ≤ v2 → Q v1 M) ∧ (¬ (M 50 (0 : Int32).toNatClampNeg) ≤ v2 → vp_in ((3 : Int32) + v2) 301 ∧ ((¬ (M 50 ((3 : Int32) + v2).toNatClampNeg) = 0 → BX8_noneOf d 4 [(0, .ref 49), (1, .int (v1 + (0 : Int32))), (2, .int (v2 + (1 : Int32)))] [] M Q) ∧ ((M 50 ((3 : Int32) + v2).toNatClampNeg) = 0 → BX8_noneOf d 4 [(0, .ref 49), (1, .int (v1 + (1 : Int32))), (2, .int (v2 + (1 : Int32)))] [] M Q))))) : BX8_noneOf d 4 [(0, .ref 49), (1, .int v1), (2, .int v2)] [] M Q := by
  refine B_iload_n dX8_noneOf_4 2 rfl ?_
  refine B_aload_n dX8_noneOf_5 0 rfl ?_
  refine B_getf (T := TX8) (N := 23) (v := .ref 50) 49 0 dX8_noneOf_6 inX8_noneOf_8 lkX8_noneOf_f7 (Nat.le_of_ble_eq_true rfl) (Nat.le_of_ble_eq_true rfl) rfl rfl (by decide) rfl ?_
  refine B_iconst (v := 0) dX8_noneOf_9 (by decide) ?_
  obtain ⟨hi, h⟩ := h
  refine B_iald (n := 301) 50 dX8_noneOf_10 (Nat.le_of_ble_eq_true rfl) rfl rfl hi ?_
  refine B_icmp_ge (tgt := 39) dX8_noneOf_11 (by decide) (fun hc => ?_) (fun hc => ?_)
  · have h := h.1 hc
    refine B_iload_n dX8_noneOf_39 1 rfl ?_
    exact B_iret dX8_noneOf_40 h
  · have h := h.2 hc
    refine B_iload_n dX8_noneOf_14 1 rfl ?_
    refine B_aload_n dX8_noneOf_15 0 rfl ?_
    refine B_getf (T := TX8) (N := 23) (v := .ref 50) 49 0 dX8_noneOf_16 inX8_noneOf_8 lkX8_noneOf_f7 (Nat.le_of_ble_eq_true rfl) (Nat.le_of_ble_eq_true rfl) rfl rfl (by decide) rfl ?_
    refine B_iconst (v := 3) dX8_noneOf_19 (by decide) ?_
    refine B_iload_n dX8_noneOf_20 2 rfl ?_
    refine B_iadd dX8_noneOf_21 ?_
    obtain ⟨hi, h⟩ := h
    refine B_iald (n := 301) 50 dX8_noneOf_22 (Nat.le_of_ble_eq_true rfl) rfl rfl hi ?_
    refine B_if_ne (tgt := 30) dX8_noneOf_23 (by decide) (fun hc => ?_) (fun hc => ?_)
    · have h := h.1 hc
      refine B_iconst (v := 0) dX8_noneOf_30 (by decide) ?_
      refine B_iadd dX8_noneOf_31 ?_
      refine B_istore_n (lv1 := [(1, .int (v1 + (0 : Int32))), (0, .ref 49), (2, .int v2)]) dX8_noneOf_32 (by decide) rfl ?_
      refine B_iinc (lv1 := [(2, .int (v2 + (1 : Int32))), (1, .int (v1 + (0 : Int32))), (0, .ref 49)]) (v := (v2 + (1 : Int32))) dX8_noneOf_33 2 rfl rfl (by decide) rfl ?_
      refine B_goto (tgt := 4) dX8_noneOf_36 (by decide) ?_
      refine B_weak [2, 1, 0] rfl ?_
      exact h
    · have h := h.2 hc
      refine B_iconst (v := 1) dX8_noneOf_26 (by decide) ?_
      refine B_goto (tgt := 31) dX8_noneOf_27 (by decide) ?_
      refine B_iadd dX8_noneOf_31 ?_
      refine B_istore_n (lv1 := [(1, .int (v1 + (1 : Int32))), (0, .ref 49), (2, .int v2)]) dX8_noneOf_32 (by decide) rfl ?_
      refine B_iinc (lv1 := [(2, .int (v2 + (1 : Int32))), (1, .int (v1 + (1 : Int32))), (0, .ref 49)]) (v := (v2 + (1 : Int32))) dX8_noneOf_33 2 rfl rfl (by decide) rfl ?_
      refine B_goto (tgt := 4) dX8_noneOf_36 (by decide) ?_
      refine B_weak [2, 1, 0] rfl ?_
      exact h
set_option maxHeartbeats 4000000 in
set_option maxRecDepth 100000 in
theorem rX8_swaps (d : Nat) (v1 : Int32) (v2 : Int32) (v3 : Int32) (M : Mm) (Q : Int32 → Mm → Prop)
    (h : vp_in (0 : Int32) 301 ∧ ((¬ (M 50 (0 : Int32).toNatClampNeg) = 0 → kX8_isRow d v1 M (fun (r1 : Int32) (M1 : Mm) => ((r1 = 0 → Q (-1000001 : Int32) M1) ∧ (¬ r1 = 0 → kX8_in d v3.toInt64 (0 : Int64) (1 : Int64) M1 (fun (r2 : Int32) (M2 : Mm) => ((¬ r2 = 0 → vp_in (0 : Int32) 301 ∧ kX8_against d v1 v2 (M2 50 (0 : Int32).toNatClampNeg) M2 (fun (r3 : Int32) (M3 : Mm) => ((r3 ≤ 0 → (∀ M4 : Mm, M4 = (upd2 M3 49 5 (0 : Int32)) → kX8_laysTo d v1 v2 M4 (fun (r4 : Int32) (M5 : Mm) => ((¬ r4 = 0 → vp_in (0 : Int32) 301 ∧ kX8_mostRings d  M5 (fun (r5 : Int32) (M6 : Mm) => ((¬ v3 = 0 → kX8_noneOf d  M6 (fun (r6 : Int32) (M7 : Mm) => ((r6 ≤ (1 : Int32) → ((¬ (irem ((M5 50 (0 : Int32).toNatClampNeg) - r5) (2 : Int32)) = 0 → Q (2 : Int32) M7) ∧ ((irem ((M5 50 (0 : Int32).toNatClampNeg) - r5) (2 : Int32)) = 0 → Q (1 : Int32) M7))) ∧ (¬ r6 ≤ (1 : Int32) → Q (3 : Int32) M7)))) ∧ (v3 = 0 → Q ((M5 50 (0 : Int32).toNatClampNeg) - r5) M6)))) ∧ (r4 = 0 → Q (-1000000 : Int32) M5))))) ∧ (¬ r3 ≤ 0 → kX8_finds d r3 M3 (fun (r7 : Int32) (M8 : Mm) => Q r7 M8))))) ∧ (r2 = 0 → Q (-1000001 : Int32) M2))))))) ∧ ((M 50 (0 : Int32).toNatClampNeg) = 0 → Q (-1000002 : Int32) M))) : kX8_swaps (d + 1) v1 v2 v3 M Q := by
  refine Ct.of (cc := cX8_swaps) (nL := 6) (by decide) rfl (Nat.le_of_ble_eq_true rfl) ?_
  show BX8_swaps (d + 1) 0 [(0, .ref 49), (1, .int v1), (2, .int v2), (3, .int v3)] [] M Q
  refine B_aload_n dX8_swaps_0 0 rfl ?_
  refine B_getf (T := TX8) (N := 23) (v := .ref 50) 49 0 dX8_swaps_1 inX8_swaps_8 lkX8_swaps_f7 (Nat.le_of_ble_eq_true rfl) (Nat.le_of_ble_eq_true rfl) rfl rfl (by decide) rfl ?_
  refine B_iconst (v := 0) dX8_swaps_4 (by decide) ?_
  obtain ⟨hi, h⟩ := h
  refine B_iald (n := 301) 50 dX8_swaps_5 (Nat.le_of_ble_eq_true rfl) rfl rfl hi ?_
  refine B_if_ne (tgt := 12) dX8_swaps_6 (by decide) (fun hc => ?_) (fun hc => ?_)
  · have h := h.1 hc
    refine B_iload_n dX8_swaps_12 1 rfl ?_
    refine B_callS (st := []) [.int v1] dX8_swaps_13 gX8_swaps_X8_isRow rfl hyX8_isRow (Nat.le_of_ble_eq_true rfl) (Nat.le_of_ble_eq_true rfl) rfl (Ct.mono h (Nat.le_refl _) (fun r1 M1 h => ?_))
    refine B_if_eq (tgt := 29) dX8_swaps_16 (by decide) (fun hc => ?_) (fun hc => ?_)
    · have h := h.1 hc
      refine B_ldc (v := -1000001) dX8_swaps_29 lkX8_swaps_c72 ?_
      exact B_iret dX8_swaps_31 h
    · have h := h.2 hc
      refine B_iload_n dX8_swaps_19 3 rfl ?_
      refine B_i2l dX8_swaps_20 ?_
      refine B_lconst (v := 0) dX8_swaps_21 (by decide) ?_
      refine B_lconst (v := 1) dX8_swaps_22 (by decide) ?_
      refine B_callS (st := []) [.long v3.toInt64, .long (0 : Int64), .long (1 : Int64)] dX8_swaps_23 gX8_swaps_X8_in rfl hyX8_in (Nat.le_of_ble_eq_true rfl) (Nat.le_of_ble_eq_true rfl) rfl (Ct.mono h (Nat.le_refl _) (fun r2 M2 h => ?_))
      refine B_if_ne (tgt := 32) dX8_swaps_26 (by decide) (fun hc => ?_) (fun hc => ?_)
      · have h := h.1 hc
        refine B_aload_n dX8_swaps_32 0 rfl ?_
        refine B_iload_n dX8_swaps_33 1 rfl ?_
        refine B_iload_n dX8_swaps_34 2 rfl ?_
        refine B_aload_n dX8_swaps_35 0 rfl ?_
        refine B_getf (T := TX8) (N := 23) (v := .ref 50) 49 0 dX8_swaps_36 inX8_swaps_8 lkX8_swaps_f7 (Nat.le_of_ble_eq_true rfl) (Nat.le_of_ble_eq_true rfl) rfl rfl (by decide) rfl ?_
        refine B_iconst (v := 0) dX8_swaps_39 (by decide) ?_
        obtain ⟨hi, h⟩ := h
        refine B_iald (n := 301) 50 dX8_swaps_40 (Nat.le_of_ble_eq_true rfl) rfl rfl hi ?_
        refine B_callV (st := []) 49 [.int v1, .int v2, .int (M2 50 (0 : Int32).toNatClampNeg)] dX8_swaps_41 gX8_swaps_X8_against rfl hyX8_against (Nat.le_of_ble_eq_true rfl) (Nat.le_of_ble_eq_true rfl) TX8 23 rfl (Nat.le_of_ble_eq_true rfl) (Nat.le_of_ble_eq_true rfl) rfl (Ct.mono h (Nat.le_refl _) (fun r3 M3 h => ?_))
        refine B_istore (lv1 := [(4, .int r3), (0, .ref 49), (1, .int v1), (2, .int v2), (3, .int v3)]) dX8_swaps_44 (by decide) rfl ?_
        refine B_iload dX8_swaps_46 0 rfl ?_
        refine B_if_le (tgt := 58) dX8_swaps_48 (by decide) (fun hc => ?_) (fun hc => ?_)
        · have h := h.1 hc
          refine B_aload_n dX8_swaps_58 1 rfl ?_
          refine B_iconst (v := 0) dX8_swaps_59 (by decide) ?_
          refine B_putf (T := TX8) (N := 23) 49 5 tyX8 tyX8_ok nmX8 dX8_swaps_60 inX8_swaps_8 lkX8_swaps_f61 (Nat.le_of_ble_eq_true rfl) (Nat.le_of_ble_eq_true rfl) rfl rfl (by decide) rfl rfl (by decide +kernel) ?_
          have h := h _ rfl
          generalize (upd2 M3 49 5 (0 : Int32)) = M4 at h ⊢
          refine B_aload_n dX8_swaps_63 1 rfl ?_
          refine B_iload_n dX8_swaps_64 2 rfl ?_
          refine B_iload_n dX8_swaps_65 3 rfl ?_
          refine B_callV (st := []) 49 [.int v1, .int v2] dX8_swaps_66 gX8_swaps_X8_laysTo rfl hyX8_laysTo (Nat.le_of_ble_eq_true rfl) (Nat.le_of_ble_eq_true rfl) TX8 23 rfl (Nat.le_of_ble_eq_true rfl) (Nat.le_of_ble_eq_true rfl) rfl (Ct.mono h (Nat.le_refl _) (fun r4 M5 h => ?_))
          refine B_if_ne (tgt := 75) dX8_swaps_69 (by decide) (fun hc => ?_) (fun hc => ?_)
          · have h := h.1 hc
            refine B_aload_n dX8_swaps_75 1 rfl ?_
            refine B_getf (T := TX8) (N := 23) (v := .ref 50) 49 0 dX8_swaps_76 inX8_swaps_8 lkX8_swaps_f7 (Nat.le_of_ble_eq_true rfl) (Nat.le_of_ble_eq_true rfl) rfl rfl (by decide) rfl ?_
            refine B_iconst (v := 0) dX8_swaps_79 (by decide) ?_
            obtain ⟨hi, h⟩ := h
            refine B_iald (n := 301) 50 dX8_swaps_80 (Nat.le_of_ble_eq_true rfl) rfl rfl hi ?_
            refine B_aload_n dX8_swaps_81 1 rfl ?_
            refine B_callV (st := [.int (M5 50 (0 : Int32).toNatClampNeg)]) 49 [] dX8_swaps_82 gX8_swaps_X8_mostRings rfl hyX8_mostRings (Nat.le_of_ble_eq_true rfl) (Nat.le_of_ble_eq_true rfl) TX8 23 rfl (Nat.le_of_ble_eq_true rfl) (Nat.le_of_ble_eq_true rfl) rfl (Ct.mono h (Nat.le_refl _) (fun r5 M6 h => ?_))
            refine B_isub dX8_swaps_85 ?_
            refine B_istore (lv1 := [(5, .int ((M5 50 (0 : Int32).toNatClampNeg) - r5)), (4, .int r3), (0, .ref 49), (1, .int v1), (2, .int v2), (3, .int v3)]) dX8_swaps_86 (by decide) rfl ?_
            refine B_iload_n dX8_swaps_88 5 rfl ?_
            refine B_if_ne (tgt := 97) dX8_swaps_89 (by decide) (fun hc => ?_) (fun hc => ?_)
            · have h := h.1 hc
              refine B_aload_n dX8_swaps_97 2 rfl ?_
              refine B_callV (st := []) 49 [] dX8_swaps_98 gX8_swaps_X8_noneOf rfl hyX8_noneOf (Nat.le_of_ble_eq_true rfl) (Nat.le_of_ble_eq_true rfl) TX8 23 rfl (Nat.le_of_ble_eq_true rfl) (Nat.le_of_ble_eq_true rfl) rfl (Ct.mono h (Nat.le_refl _) (fun r6 M7 h => ?_))
              refine B_iconst (v := 1) dX8_swaps_101 (by decide) ?_
              refine B_icmp_le (tgt := 109) dX8_swaps_102 (by decide) (fun hc => ?_) (fun hc => ?_)
              · have h := h.1 hc
                refine B_iload dX8_swaps_109 0 rfl ?_
                refine B_iconst (v := 2) dX8_swaps_111 (by decide) ?_
                refine B_irem dX8_swaps_112 (by decide) ?_
                refine B_if_ne (tgt := 120) dX8_swaps_113 (by decide) (fun hc => ?_) (fun hc => ?_)
                · have h := h.1 hc
                  refine B_iconst (v := 2) dX8_swaps_120 (by decide) ?_
                  exact B_iret dX8_swaps_121 h
                · have h := h.2 hc
                  refine B_iconst (v := 1) dX8_swaps_116 (by decide) ?_
                  refine B_goto (tgt := 121) dX8_swaps_117 (by decide) ?_
                  exact B_iret dX8_swaps_121 h
              · have h := h.2 hc
                refine B_iconst (v := 3) dX8_swaps_105 (by decide) ?_
                refine B_goto (tgt := 121) dX8_swaps_106 (by decide) ?_
                exact B_iret dX8_swaps_121 h
            · have h := h.2 hc
              refine B_iload dX8_swaps_92 0 rfl ?_
              refine B_goto (tgt := 121) dX8_swaps_94 (by decide) ?_
              exact B_iret dX8_swaps_121 h
          · have h := h.2 hc
            refine B_ldc (v := -1000000) dX8_swaps_72 lkX8_swaps_c163 ?_
            exact B_iret dX8_swaps_74 h
        · have h := h.2 hc
          refine B_aload_n dX8_swaps_51 1 rfl ?_
          refine B_iload dX8_swaps_52 0 rfl ?_
          refine B_callV (st := []) 49 [.int r3] dX8_swaps_54 gX8_swaps_X8_finds rfl hyX8_finds (Nat.le_of_ble_eq_true rfl) (Nat.le_of_ble_eq_true rfl) TX8 23 rfl (Nat.le_of_ble_eq_true rfl) (Nat.le_of_ble_eq_true rfl) rfl (Ct.mono h (Nat.le_refl _) (fun r7 M8 h => ?_))
          exact B_iret dX8_swaps_57 h
      · have h := h.2 hc
        refine B_ldc (v := -1000001) dX8_swaps_29 lkX8_swaps_c72 ?_
        exact B_iret dX8_swaps_31 h
  · have h := h.2 hc
    refine B_ldc (v := -1000002) dX8_swaps_9 lkX8_swaps_c149 ?_
    exact B_iret dX8_swaps_11 h
set_option maxHeartbeats 4000000 in
set_option maxRecDepth 100000 in
theorem rX8_sort (d : Nat) (v1 : Int32) (v2 : Int32) (v3 : Int32) (M : Mm) (Q : Int32 → Mm → Prop)
    (h : vp_in (0 : Int32) 301 ∧ ((¬ (M 50 (0 : Int32).toNatClampNeg) = 0 → kX8_isRow d v1 M (fun (r1 : Int32) (M1 : Mm) => ((r1 = 0 → Q (-1000001 : Int32) M1) ∧ (¬ r1 = 0 → (((-1 : Int32) ≤ v3 → vp_in (0 : Int32) 301 ∧ kX8_against d v1 v2 (M1 50 (0 : Int32).toNatClampNeg) M1 (fun (r2 : Int32) (M2 : Mm) => ((r2 ≤ 0 → (∀ M3 : Mm, M3 = (upd2 M2 49 5 (0 : Int32)) → kX8_laysTo d v1 v2 M3 (fun (r3 : Int32) (M4 : Mm) => ((¬ r3 = 0 → BX8_sort (d + 1) 76 [(0, .ref 49), (3, .int v3), (5, .int (0 : Int32)), (6, .int (0 : Int32))] [] M4 Q) ∧ (r3 = 0 → Q (-1000000 : Int32) M4))))) ∧ (¬ r2 ≤ 0 → kX8_finds d r2 M2 (fun (r4 : Int32) (M5 : Mm) => Q r4 M5))))) ∧ (¬ (-1 : Int32) ≤ v3 → Q (-1000001 : Int32) M1)))))) ∧ ((M 50 (0 : Int32).toNatClampNeg) = 0 → Q (-1000002 : Int32) M))) : kX8_sort (d + 1) v1 v2 v3 M Q := by
  refine Ct.of (cc := cX8_sort) (nL := 8) (by decide) rfl (Nat.le_of_ble_eq_true rfl) ?_
  show BX8_sort (d + 1) 0 [(0, .ref 49), (1, .int v1), (2, .int v2), (3, .int v3)] [] M Q
  refine B_aload_n dX8_sort_0 0 rfl ?_
  refine B_getf (T := TX8) (N := 23) (v := .ref 50) 49 0 dX8_sort_1 inX8_sort_8 lkX8_sort_f7 (Nat.le_of_ble_eq_true rfl) (Nat.le_of_ble_eq_true rfl) rfl rfl (by decide) rfl ?_
  refine B_iconst (v := 0) dX8_sort_4 (by decide) ?_
  obtain ⟨hi, h⟩ := h
  refine B_iald (n := 301) 50 dX8_sort_5 (Nat.le_of_ble_eq_true rfl) rfl rfl hi ?_
  refine B_if_ne (tgt := 12) dX8_sort_6 (by decide) (fun hc => ?_) (fun hc => ?_)
  · have h := h.1 hc
    refine B_iload_n dX8_sort_12 1 rfl ?_
    refine B_callS (st := []) [.int v1] dX8_sort_13 gX8_sort_X8_isRow rfl hyX8_isRow (Nat.le_of_ble_eq_true rfl) (Nat.le_of_ble_eq_true rfl) rfl (Ct.mono h (Nat.le_refl _) (fun r1 M1 h => ?_))
    refine B_if_eq (tgt := 24) dX8_sort_16 (by decide) (fun hc => ?_) (fun hc => ?_)
    · have h := h.1 hc
      refine B_ldc (v := -1000001) dX8_sort_24 lkX8_sort_c72 ?_
      exact B_iret dX8_sort_26 h
    · have h := h.2 hc
      refine B_iload_n dX8_sort_19 3 rfl ?_
      refine B_iconst (v := -1) dX8_sort_20 (by decide) ?_
      refine B_icmp_ge (tgt := 27) dX8_sort_21 (by decide) (fun hc => ?_) (fun hc => ?_)
      · have h := h.1 hc
        refine B_aload_n dX8_sort_27 0 rfl ?_
        refine B_iload_n dX8_sort_28 1 rfl ?_
        refine B_iload_n dX8_sort_29 2 rfl ?_
        refine B_aload_n dX8_sort_30 0 rfl ?_
        refine B_getf (T := TX8) (N := 23) (v := .ref 50) 49 0 dX8_sort_31 inX8_sort_8 lkX8_sort_f7 (Nat.le_of_ble_eq_true rfl) (Nat.le_of_ble_eq_true rfl) rfl rfl (by decide) rfl ?_
        refine B_iconst (v := 0) dX8_sort_34 (by decide) ?_
        obtain ⟨hi, h⟩ := h
        refine B_iald (n := 301) 50 dX8_sort_35 (Nat.le_of_ble_eq_true rfl) rfl rfl hi ?_
        refine B_callV (st := []) 49 [.int v1, .int v2, .int (M1 50 (0 : Int32).toNatClampNeg)] dX8_sort_36 gX8_sort_X8_against rfl hyX8_against (Nat.le_of_ble_eq_true rfl) (Nat.le_of_ble_eq_true rfl) TX8 23 rfl (Nat.le_of_ble_eq_true rfl) (Nat.le_of_ble_eq_true rfl) rfl (Ct.mono h (Nat.le_refl _) (fun r2 M2 h => ?_))
        refine B_istore (lv1 := [(4, .int r2), (0, .ref 49), (1, .int v1), (2, .int v2), (3, .int v3)]) dX8_sort_39 (by decide) rfl ?_
        refine B_iload dX8_sort_41 0 rfl ?_
        refine B_if_le (tgt := 53) dX8_sort_43 (by decide) (fun hc => ?_) (fun hc => ?_)
        · have h := h.1 hc
          refine B_aload_n dX8_sort_53 1 rfl ?_
          refine B_iconst (v := 0) dX8_sort_54 (by decide) ?_
          refine B_putf (T := TX8) (N := 23) 49 5 tyX8 tyX8_ok nmX8 dX8_sort_55 inX8_sort_8 lkX8_sort_f61 (Nat.le_of_ble_eq_true rfl) (Nat.le_of_ble_eq_true rfl) rfl rfl (by decide) rfl rfl (by decide +kernel) ?_
          have h := h _ rfl
          generalize (upd2 M2 49 5 (0 : Int32)) = M3 at h ⊢
          refine B_aload_n dX8_sort_58 1 rfl ?_
          refine B_iload_n dX8_sort_59 2 rfl ?_
          refine B_iload_n dX8_sort_60 3 rfl ?_
          refine B_callV (st := []) 49 [.int v1, .int v2] dX8_sort_61 gX8_sort_X8_laysTo rfl hyX8_laysTo (Nat.le_of_ble_eq_true rfl) (Nat.le_of_ble_eq_true rfl) TX8 23 rfl (Nat.le_of_ble_eq_true rfl) (Nat.le_of_ble_eq_true rfl) rfl (Ct.mono h (Nat.le_refl _) (fun r3 M4 h => ?_))
          refine B_if_ne (tgt := 70) dX8_sort_64 (by decide) (fun hc => ?_) (fun hc => ?_)
          · have h := h.1 hc
            refine B_iconst (v := 0) dX8_sort_70 (by decide) ?_
            refine B_istore (lv1 := [(5, .int (0 : Int32)), (4, .int r2), (0, .ref 49), (1, .int v1), (2, .int v2), (3, .int v3)]) dX8_sort_71 (by decide) rfl ?_
            refine B_iconst (v := 0) dX8_sort_73 (by decide) ?_
            refine B_istore (lv1 := [(6, .int (0 : Int32)), (5, .int (0 : Int32)), (4, .int r2), (0, .ref 49), (1, .int v1), (2, .int v2), (3, .int v3)]) dX8_sort_74 (by decide) rfl ?_
            refine B_weak [3, 6, 1, 0] rfl ?_
            exact h
          · have h := h.2 hc
            refine B_ldc (v := -1000000) dX8_sort_67 lkX8_sort_c163 ?_
            exact B_iret dX8_sort_69 h
        · have h := h.2 hc
          refine B_aload_n dX8_sort_46 1 rfl ?_
          refine B_iload dX8_sort_47 0 rfl ?_
          refine B_callV (st := []) 49 [.int r2] dX8_sort_49 gX8_sort_X8_finds rfl hyX8_finds (Nat.le_of_ble_eq_true rfl) (Nat.le_of_ble_eq_true rfl) TX8 23 rfl (Nat.le_of_ble_eq_true rfl) (Nat.le_of_ble_eq_true rfl) rfl (Ct.mono h (Nat.le_refl _) (fun r4 M5 h => ?_))
          exact B_iret dX8_sort_52 h
      · have h := h.2 hc
        refine B_ldc (v := -1000001) dX8_sort_24 lkX8_sort_c72 ?_
        exact B_iret dX8_sort_26 h
  · have h := h.2 hc
    refine B_ldc (v := -1000002) dX8_sort_9 lkX8_sort_c149 ?_
    exact B_iret dX8_sort_11 h
set_option maxHeartbeats 4000000 in
set_option maxRecDepth 100000 in
theorem rX8_sort_76 (d : Nat) (v3 : Int32) (v5 : Int32) (v6 : Int32) (M : Mm) (Q : Int32 → Mm → Prop)
    (h : vp_in (0 : Int32) 301 ∧ (((M 50 (0 : Int32).toNatClampNeg) ≤ (v6 + (1 : Int32)) → ((0 ≤ v3 → Q (-1000000 : Int32) M) ∧ (¬ 0 ≤ v3 → Q v5 M))) ∧ (¬ (M 50 (0 : Int32).toNatClampNeg) ≤ (v6 + (1 : Int32)) → vp_in v6 7 ∧ vp_in (v6 + (1 : Int32)) 7 ∧ (((M 57 v6.toNatClampNeg) ≤ (M 57 (v6 + (1 : Int32)).toNatClampNeg) → BX8_sort (d + 1) 76 [(0, .ref 49), (3, .int v3), (5, .int v5), (6, .int (v6 + (1 : Int32)))] [] M Q) ∧ (¬ (M 57 v6.toNatClampNeg) ≤ (M 57 (v6 + (1 : Int32)).toNatClampNeg) → ((¬ v5 = v3 → vp_in v6 7 ∧ vp_in (v6 + (1 : Int32)) 7 ∧ vp_in v6 7 ∧ (∀ M1 : Mm, M1 = (upd2 M 57 v6.toNatClampNeg (M 57 (v6 + (1 : Int32)).toNatClampNeg)) → vp_in (v6 + (1 : Int32)) 7 ∧ (∀ M2 : Mm, M2 = (upd2 M1 57 (v6 + (1 : Int32)).toNatClampNeg (M 57 v6.toNatClampNeg)) → BX8_sort (d + 1) 76 [(0, .ref 49), (3, .int v3), (5, .int (v5 + (1 : Int32))), (6, .int (0 : Int32))] [] M2 Q))) ∧ (v5 = v3 → Q v6 M))))))) : BX8_sort (d + 1) 76 [(0, .ref 49), (3, .int v3), (5, .int v5), (6, .int v6)] [] M Q := by
  refine B_iload dX8_sort_76 3 rfl ?_
  refine B_iconst (v := 1) dX8_sort_78 (by decide) ?_
  refine B_iadd dX8_sort_79 ?_
  refine B_aload_n dX8_sort_80 0 rfl ?_
  refine B_getf (T := TX8) (N := 23) (v := .ref 50) 49 0 dX8_sort_81 inX8_sort_8 lkX8_sort_f7 (Nat.le_of_ble_eq_true rfl) (Nat.le_of_ble_eq_true rfl) rfl rfl (by decide) rfl ?_
  refine B_iconst (v := 0) dX8_sort_84 (by decide) ?_
  obtain ⟨hi, h⟩ := h
  refine B_iald (n := 301) 50 dX8_sort_85 (Nat.le_of_ble_eq_true rfl) rfl rfl hi ?_
  refine B_icmp_ge (tgt := 168) dX8_sort_86 (by decide) (fun hc => ?_) (fun hc => ?_)
  · have h := h.1 hc
    refine B_iload_n dX8_sort_168 1 rfl ?_
    refine B_if_ge (tgt := 177) dX8_sort_169 (by decide) (fun hc => ?_) (fun hc => ?_)
    · have h := h.1 hc
      refine B_ldc (v := -1000000) dX8_sort_177 lkX8_sort_c163 ?_
      exact B_iret dX8_sort_179 h
    · have h := h.2 hc
      refine B_iload dX8_sort_172 2 rfl ?_
      refine B_goto (tgt := 179) dX8_sort_174 (by decide) ?_
      exact B_iret dX8_sort_179 h
  · have h := h.2 hc
    refine B_aload_n dX8_sort_89 0 rfl ?_
    refine B_getf (T := TX8) (N := 23) (v := .ref 57) 49 14 dX8_sort_90 inX8_sort_8 lkX8_sort_f31 (Nat.le_of_ble_eq_true rfl) (Nat.le_of_ble_eq_true rfl) rfl rfl (by decide) rfl ?_
    refine B_iload dX8_sort_93 3 rfl ?_
    obtain ⟨hi, h⟩ := h
    refine B_iald (n := 7) 57 dX8_sort_95 (Nat.le_of_ble_eq_true rfl) rfl rfl hi ?_
    refine B_aload_n dX8_sort_96 0 rfl ?_
    refine B_getf (T := TX8) (N := 23) (v := .ref 57) 49 14 dX8_sort_97 inX8_sort_8 lkX8_sort_f31 (Nat.le_of_ble_eq_true rfl) (Nat.le_of_ble_eq_true rfl) rfl rfl (by decide) rfl ?_
    refine B_iload dX8_sort_100 3 rfl ?_
    refine B_iconst (v := 1) dX8_sort_102 (by decide) ?_
    refine B_iadd dX8_sort_103 ?_
    obtain ⟨hi, h⟩ := h
    refine B_iald (n := 7) 57 dX8_sort_104 (Nat.le_of_ble_eq_true rfl) rfl rfl hi ?_
    refine B_icmp_le (tgt := 162) dX8_sort_105 (by decide) (fun hc => ?_) (fun hc => ?_)
    · have h := h.1 hc
      refine B_iinc (lv1 := [(6, .int (v6 + (1 : Int32))), (0, .ref 49), (3, .int v3), (5, .int v5)]) (v := (v6 + (1 : Int32))) dX8_sort_162 3 rfl rfl (by decide) rfl ?_
      refine B_goto (tgt := 76) dX8_sort_165 (by decide) ?_
      refine B_weak [1, 2, 3, 0] rfl ?_
      exact h
    · have h := h.2 hc
      refine B_iload dX8_sort_108 2 rfl ?_
      refine B_iload_n dX8_sort_110 1 rfl ?_
      refine B_icmp_ne (tgt := 117) dX8_sort_111 (by decide) (fun hc => ?_) (fun hc => ?_)
      · have h := h.1 hc
        refine B_aload_n dX8_sort_117 0 rfl ?_
        refine B_getf (T := TX8) (N := 23) (v := .ref 57) 49 14 dX8_sort_118 inX8_sort_8 lkX8_sort_f31 (Nat.le_of_ble_eq_true rfl) (Nat.le_of_ble_eq_true rfl) rfl rfl (by decide) rfl ?_
        refine B_iload dX8_sort_121 3 rfl ?_
        obtain ⟨hi, h⟩ := h
        refine B_iald (n := 7) 57 dX8_sort_123 (Nat.le_of_ble_eq_true rfl) rfl rfl hi ?_
        refine B_istore (lv1 := [(7, .int (M 57 v6.toNatClampNeg)), (0, .ref 49), (3, .int v3), (5, .int v5), (6, .int v6)]) dX8_sort_124 (by decide) rfl ?_
        refine B_aload_n dX8_sort_126 1 rfl ?_
        refine B_getf (T := TX8) (N := 23) (v := .ref 57) 49 14 dX8_sort_127 inX8_sort_8 lkX8_sort_f31 (Nat.le_of_ble_eq_true rfl) (Nat.le_of_ble_eq_true rfl) rfl rfl (by decide) rfl ?_
        refine B_iload dX8_sort_130 4 rfl ?_
        refine B_aload_n dX8_sort_132 1 rfl ?_
        refine B_getf (T := TX8) (N := 23) (v := .ref 57) 49 14 dX8_sort_133 inX8_sort_8 lkX8_sort_f31 (Nat.le_of_ble_eq_true rfl) (Nat.le_of_ble_eq_true rfl) rfl rfl (by decide) rfl ?_
        refine B_iload dX8_sort_136 4 rfl ?_
        refine B_iconst (v := 1) dX8_sort_138 (by decide) ?_
        refine B_iadd dX8_sort_139 ?_
        obtain ⟨hi, h⟩ := h
        refine B_iald (n := 7) 57 dX8_sort_140 (Nat.le_of_ble_eq_true rfl) rfl rfl hi ?_
        obtain ⟨hi, h⟩ := h
        refine B_iast (n := 7) 57 dX8_sort_141 (Nat.le_of_ble_eq_true rfl) rfl rfl hi ?_
        have h := h _ rfl
        generalize (upd2 M 57 v6.toNatClampNeg (M 57 (v6 + (1 : Int32)).toNatClampNeg)) = M1 at h ⊢
        refine B_aload_n dX8_sort_142 1 rfl ?_
        refine B_getf (T := TX8) (N := 23) (v := .ref 57) 49 14 dX8_sort_143 inX8_sort_8 lkX8_sort_f31 (Nat.le_of_ble_eq_true rfl) (Nat.le_of_ble_eq_true rfl) rfl rfl (by decide) rfl ?_
        refine B_iload dX8_sort_146 4 rfl ?_
        refine B_iconst (v := 1) dX8_sort_148 (by decide) ?_
        refine B_iadd dX8_sort_149 ?_
        refine B_iload dX8_sort_150 0 rfl ?_
        obtain ⟨hi, h⟩ := h
        refine B_iast (n := 7) 57 dX8_sort_152 (Nat.le_of_ble_eq_true rfl) rfl rfl hi ?_
        have h := h _ rfl
        generalize (upd2 M1 57 (v6 + (1 : Int32)).toNatClampNeg (M 57 v6.toNatClampNeg)) = M2 at h ⊢
        refine B_iinc (lv1 := [(5, .int (v5 + (1 : Int32))), (7, .int (M 57 v6.toNatClampNeg)), (0, .ref 49), (3, .int v3), (6, .int v6)]) (v := (v5 + (1 : Int32))) dX8_sort_153 3 rfl rfl (by decide) rfl ?_
        refine B_iconst (v := 0) dX8_sort_156 (by decide) ?_
        refine B_istore (lv1 := [(6, .int (0 : Int32)), (5, .int (v5 + (1 : Int32))), (7, .int (M 57 v6.toNatClampNeg)), (0, .ref 49), (3, .int v3)]) dX8_sort_157 (by decide) rfl ?_
        refine B_goto (tgt := 76) dX8_sort_159 (by decide) ?_
        refine B_weak [3, 4, 1, 0] rfl ?_
        exact h
      · have h := h.2 hc
        refine B_iload dX8_sort_114 3 rfl ?_
        exact B_iret dX8_sort_116 h
set_option maxHeartbeats 4000000 in
set_option maxRecDepth 100000 in
theorem rX8_laysPairs (d : Nat)  (M : Mm) (Q : Int32 → Mm → Prop)
    (h : BX8_laysPairs d 4 [(0, .ref 49), (1, .int (0 : Int32)), (2, .int (0 : Int32))] [] M Q) : kX8_laysPairs d  M Q := by
  refine Ct.of (cc := cX8_laysPairs) (nL := 4) (by decide) rfl (Nat.le_of_ble_eq_true rfl) ?_
  show BX8_laysPairs d 0 [(0, .ref 49)] [] M Q
  refine B_iconst (v := 0) dX8_laysPairs_0 (by decide) ?_
  refine B_istore_n (lv1 := [(1, .int (0 : Int32)), (0, .ref 49)]) dX8_laysPairs_1 (by decide) rfl ?_
  refine B_iconst (v := 0) dX8_laysPairs_2 (by decide) ?_
  refine B_istore_n (lv1 := [(2, .int (0 : Int32)), (1, .int (0 : Int32)), (0, .ref 49)]) dX8_laysPairs_3 (by decide) rfl ?_
  refine B_weak [2, 1, 0] rfl ?_
  exact h
set_option maxHeartbeats 4000000 in
set_option maxRecDepth 100000 in
theorem rX8_laysPairs_4 (d : Nat) (v1 : Int32) (v2 : Int32) (M : Mm) (Q : Int32 → Mm → Prop)
    (h : vp_in (0 : Int32) 301 ∧ (((M 50 (0 : Int32).toNatClampNeg) ≤ v2 → Q v1 M) ∧ (¬ (M 50 (0 : Int32).toNatClampNeg) ≤ v2 → BX8_laysPairs d 18 [(0, .ref 49), (1, .int v1), (2, .int v2), (3, .int (v2 + (1 : Int32)))] [] M Q))) : BX8_laysPairs d 4 [(0, .ref 49), (1, .int v1), (2, .int v2)] [] M Q := by
  refine B_iload_n dX8_laysPairs_4 2 rfl ?_
  refine B_aload_n dX8_laysPairs_5 0 rfl ?_
  refine B_getf (T := TX8) (N := 23) (v := .ref 50) 49 0 dX8_laysPairs_6 inX8_laysPairs_8 lkX8_laysPairs_f7 (Nat.le_of_ble_eq_true rfl) (Nat.le_of_ble_eq_true rfl) rfl rfl (by decide) rfl ?_
  refine B_iconst (v := 0) dX8_laysPairs_9 (by decide) ?_
  obtain ⟨hi, h⟩ := h
  refine B_iald (n := 301) 50 dX8_laysPairs_10 (Nat.le_of_ble_eq_true rfl) rfl rfl hi ?_
  refine B_icmp_ge (tgt := 55) dX8_laysPairs_11 (by decide) (fun hc => ?_) (fun hc => ?_)
  · have h := h.1 hc
    refine B_iload_n dX8_laysPairs_55 1 rfl ?_
    exact B_iret dX8_laysPairs_56 h
  · have h := h.2 hc
    refine B_iload_n dX8_laysPairs_14 2 rfl ?_
    refine B_iconst (v := 1) dX8_laysPairs_15 (by decide) ?_
    refine B_iadd dX8_laysPairs_16 ?_
    refine B_istore_n (lv1 := [(3, .int (v2 + (1 : Int32))), (0, .ref 49), (1, .int v1), (2, .int v2)]) dX8_laysPairs_17 (by decide) rfl ?_
    refine B_weak [1, 2, 3, 0] rfl ?_
    exact h
set_option maxHeartbeats 4000000 in
set_option maxRecDepth 100000 in
theorem rX8_laysPairs_18 (d : Nat) (v1 : Int32) (v2 : Int32) (v3 : Int32) (M : Mm) (Q : Int32 → Mm → Prop)
    (h : vp_in (0 : Int32) 301 ∧ (((M 50 (0 : Int32).toNatClampNeg) ≤ v3 → BX8_laysPairs d 4 [(0, .ref 49), (1, .int v1), (2, .int (v2 + (1 : Int32)))] [] M Q) ∧ (¬ (M 50 (0 : Int32).toNatClampNeg) ≤ v3 → vp_in v1 21 ∧ (∀ M1 : Mm, M1 = (upd2 M 62 v1.toNatClampNeg (((10 : Int32) * v2) + v3)) → BX8_laysPairs d 18 [(0, .ref 49), (1, .int (v1 + (1 : Int32))), (2, .int v2), (3, .int (v3 + (1 : Int32)))] [] M1 Q)))) : BX8_laysPairs d 18 [(0, .ref 49), (1, .int v1), (2, .int v2), (3, .int v3)] [] M Q := by
  refine B_iload_n dX8_laysPairs_18 3 rfl ?_
  refine B_aload_n dX8_laysPairs_19 0 rfl ?_
  refine B_getf (T := TX8) (N := 23) (v := .ref 50) 49 0 dX8_laysPairs_20 inX8_laysPairs_8 lkX8_laysPairs_f7 (Nat.le_of_ble_eq_true rfl) (Nat.le_of_ble_eq_true rfl) rfl rfl (by decide) rfl ?_
  refine B_iconst (v := 0) dX8_laysPairs_23 (by decide) ?_
  obtain ⟨hi, h⟩ := h
  refine B_iald (n := 301) 50 dX8_laysPairs_24 (Nat.le_of_ble_eq_true rfl) rfl rfl hi ?_
  refine B_icmp_ge (tgt := 49) dX8_laysPairs_25 (by decide) (fun hc => ?_) (fun hc => ?_)
  · have h := h.1 hc
    refine B_iinc (lv1 := [(2, .int (v2 + (1 : Int32))), (0, .ref 49), (1, .int v1), (3, .int v3)]) (v := (v2 + (1 : Int32))) dX8_laysPairs_49 2 rfl rfl (by decide) rfl ?_
    refine B_goto (tgt := 4) dX8_laysPairs_52 (by decide) ?_
    refine B_weak [1, 2, 0] rfl ?_
    exact h
  · have h := h.2 hc
    refine B_aload_n dX8_laysPairs_28 0 rfl ?_
    refine B_getf (T := TX8) (N := 23) (v := .ref 62) 49 19 dX8_laysPairs_29 inX8_laysPairs_8 lkX8_laysPairs_f46 (Nat.le_of_ble_eq_true rfl) (Nat.le_of_ble_eq_true rfl) rfl rfl (by decide) rfl ?_
    refine B_iload_n dX8_laysPairs_32 1 rfl ?_
    refine B_bipush (v := 10) dX8_laysPairs_33 (by decide) ?_
    refine B_iload_n dX8_laysPairs_35 2 rfl ?_
    refine B_imul dX8_laysPairs_36 ?_
    refine B_iload_n dX8_laysPairs_37 3 rfl ?_
    refine B_iadd dX8_laysPairs_38 ?_
    obtain ⟨hi, h⟩ := h
    refine B_iast (n := 21) 62 dX8_laysPairs_39 (Nat.le_of_ble_eq_true rfl) rfl rfl hi ?_
    have h := h _ rfl
    generalize (upd2 M 62 v1.toNatClampNeg (((10 : Int32) * v2) + v3)) = M1 at h ⊢
    refine B_iinc (lv1 := [(1, .int (v1 + (1 : Int32))), (0, .ref 49), (2, .int v2), (3, .int v3)]) (v := (v1 + (1 : Int32))) dX8_laysPairs_40 1 rfl rfl (by decide) rfl ?_
    refine B_iinc (lv1 := [(3, .int (v3 + (1 : Int32))), (1, .int (v1 + (1 : Int32))), (0, .ref 49), (2, .int v2)]) (v := (v3 + (1 : Int32))) dX8_laysPairs_43 3 rfl rfl (by decide) rfl ?_
    refine B_goto (tgt := 18) dX8_laysPairs_46 (by decide) ?_
    refine B_weak [2, 1, 3, 0] rfl ?_
    exact h
set_option maxHeartbeats 4000000 in
set_option maxRecDepth 100000 in
theorem rX8_hasBy (d : Nat) (v1 : Int32) (v2 : Int32) (v3 : Int32) (v4 : Int32) (M : Mm) (Q : Int32 → Mm → Prop)
    (h : kX8_tries d  M (fun (_r1 : Int32) (M1 : Mm) => ((v3 < 0 → BX8_hasBy (d + 1) 32 [(0, .ref 49), (1, .int v1), (2, .int v2), (4, .int v4)] [] M1 Q) ∧ (¬ v3 < 0 → vp_in v3 21 ∧ vp_in v3 21 ∧ kX8_changes d (17 : Int32) ((M1 62 v3.toNatClampNeg) / (10 : Int32)) (irem (M1 62 v3.toNatClampNeg) (10 : Int32)) M1 (fun (_r2 : Int32) (M2 : Mm) => BX8_hasBy (d + 1) 32 [(0, .ref 49), (1, .int v1), (2, .int v2), (4, .int v4)] [] M2 Q))))) : kX8_hasBy (d + 1) v1 v2 v3 v4 M Q := by
  refine Ct.of (cc := cX8_hasBy) (nL := 5) (by decide) rfl (Nat.le_of_ble_eq_true rfl) ?_
  show BX8_hasBy (d + 1) 0 [(0, .ref 49), (1, .int v1), (2, .int v2), (3, .int v3), (4, .int v4)] [] M Q
  refine B_aload_n dX8_hasBy_0 0 rfl ?_
  refine B_callV (st := []) 49 [] dX8_hasBy_1 gX8_hasBy_X8_tries rfl hyX8_tries (Nat.le_of_ble_eq_true rfl) (Nat.le_of_ble_eq_true rfl) TX8 23 rfl (Nat.le_of_ble_eq_true rfl) (Nat.le_of_ble_eq_true rfl) rfl (Ct.mono h (Nat.le_refl _) (fun _r1 M1 h => ?_))
  refine B_iload_n dX8_hasBy_4 3 rfl ?_
  refine B_if_lt (tgt := 32) dX8_hasBy_5 (by decide) (fun hc => ?_) (fun hc => ?_)
  · have h := h.1 hc
    refine B_weak [0, 1, 2, 4] rfl ?_
    exact h
  · have h := h.2 hc
    refine B_aload_n dX8_hasBy_8 0 rfl ?_
    refine B_bipush (v := 17) dX8_hasBy_9 (by decide) ?_
    refine B_aload_n dX8_hasBy_11 0 rfl ?_
    refine B_getf (T := TX8) (N := 23) (v := .ref 62) 49 19 dX8_hasBy_12 inX8_hasBy_8 lkX8_hasBy_f46 (Nat.le_of_ble_eq_true rfl) (Nat.le_of_ble_eq_true rfl) rfl rfl (by decide) rfl ?_
    refine B_iload_n dX8_hasBy_15 3 rfl ?_
    obtain ⟨hi, h⟩ := h
    refine B_iald (n := 21) 62 dX8_hasBy_16 (Nat.le_of_ble_eq_true rfl) rfl rfl hi ?_
    refine B_bipush (v := 10) dX8_hasBy_17 (by decide) ?_
    refine B_idiv dX8_hasBy_19 (by decide) ?_
    refine B_aload_n dX8_hasBy_20 0 rfl ?_
    refine B_getf (T := TX8) (N := 23) (v := .ref 62) 49 19 dX8_hasBy_21 inX8_hasBy_8 lkX8_hasBy_f46 (Nat.le_of_ble_eq_true rfl) (Nat.le_of_ble_eq_true rfl) rfl rfl (by decide) rfl ?_
    refine B_iload_n dX8_hasBy_24 3 rfl ?_
    obtain ⟨hi, h⟩ := h
    refine B_iald (n := 21) 62 dX8_hasBy_25 (Nat.le_of_ble_eq_true rfl) rfl rfl hi ?_
    refine B_bipush (v := 10) dX8_hasBy_26 (by decide) ?_
    refine B_irem dX8_hasBy_28 (by decide) ?_
    refine B_callV (st := []) 49 [.int (17 : Int32), .int ((M1 62 v3.toNatClampNeg) / (10 : Int32)), .int (irem (M1 62 v3.toNatClampNeg) (10 : Int32))] dX8_hasBy_29 gX8_hasBy_X8_changes rfl hyX8_changes (Nat.le_of_ble_eq_true rfl) (Nat.le_of_ble_eq_true rfl) TX8 23 rfl (Nat.le_of_ble_eq_true rfl) (Nat.le_of_ble_eq_true rfl) rfl (Ct.mono h (Nat.le_refl _) (fun _r2 M2 h => ?_))
    refine B_weak [0, 1, 2, 4] rfl ?_
    exact h
set_option maxHeartbeats 4000000 in
set_option maxRecDepth 100000 in
theorem rX8_hasBy_32 (d : Nat) (v1 : Int32) (v2 : Int32) (v4 : Int32) (M : Mm) (Q : Int32 → Mm → Prop)
    (h : ((v4 < 0 → BX8_hasBy (d + 1) 63 [(0, .ref 49), (1, .int v1), (2, .int v2)] [] M Q) ∧ (¬ v4 < 0 → vp_in v4 21 ∧ vp_in v4 21 ∧ kX8_changes d (17 : Int32) ((M 62 v4.toNatClampNeg) / (10 : Int32)) (irem (M 62 v4.toNatClampNeg) (10 : Int32)) M (fun (_r1 : Int32) (M1 : Mm) => BX8_hasBy (d + 1) 63 [(0, .ref 49), (1, .int v1), (2, .int v2)] [] M1 Q)))) : BX8_hasBy (d + 1) 32 [(0, .ref 49), (1, .int v1), (2, .int v2), (4, .int v4)] [] M Q := by
  refine B_iload dX8_hasBy_32 3 rfl ?_
  refine B_if_lt (tgt := 63) dX8_hasBy_34 (by decide) (fun hc => ?_) (fun hc => ?_)
  · have h := h.1 hc
    refine B_weak [0, 1, 2] rfl ?_
    exact h
  · have h := h.2 hc
    refine B_aload_n dX8_hasBy_37 0 rfl ?_
    refine B_bipush (v := 17) dX8_hasBy_38 (by decide) ?_
    refine B_aload_n dX8_hasBy_40 0 rfl ?_
    refine B_getf (T := TX8) (N := 23) (v := .ref 62) 49 19 dX8_hasBy_41 inX8_hasBy_8 lkX8_hasBy_f46 (Nat.le_of_ble_eq_true rfl) (Nat.le_of_ble_eq_true rfl) rfl rfl (by decide) rfl ?_
    refine B_iload dX8_hasBy_44 3 rfl ?_
    obtain ⟨hi, h⟩ := h
    refine B_iald (n := 21) 62 dX8_hasBy_46 (Nat.le_of_ble_eq_true rfl) rfl rfl hi ?_
    refine B_bipush (v := 10) dX8_hasBy_47 (by decide) ?_
    refine B_idiv dX8_hasBy_49 (by decide) ?_
    refine B_aload_n dX8_hasBy_50 0 rfl ?_
    refine B_getf (T := TX8) (N := 23) (v := .ref 62) 49 19 dX8_hasBy_51 inX8_hasBy_8 lkX8_hasBy_f46 (Nat.le_of_ble_eq_true rfl) (Nat.le_of_ble_eq_true rfl) rfl rfl (by decide) rfl ?_
    refine B_iload dX8_hasBy_54 3 rfl ?_
    obtain ⟨hi, h⟩ := h
    refine B_iald (n := 21) 62 dX8_hasBy_56 (Nat.le_of_ble_eq_true rfl) rfl rfl hi ?_
    refine B_bipush (v := 10) dX8_hasBy_57 (by decide) ?_
    refine B_irem dX8_hasBy_59 (by decide) ?_
    refine B_callV (st := []) 49 [.int (17 : Int32), .int ((M 62 v4.toNatClampNeg) / (10 : Int32)), .int (irem (M 62 v4.toNatClampNeg) (10 : Int32))] dX8_hasBy_60 gX8_hasBy_X8_changes rfl hyX8_changes (Nat.le_of_ble_eq_true rfl) (Nat.le_of_ble_eq_true rfl) TX8 23 rfl (Nat.le_of_ble_eq_true rfl) (Nat.le_of_ble_eq_true rfl) rfl (Ct.mono h (Nat.le_refl _) (fun _r1 M1 h => ?_))
    refine B_weak [0, 1, 2] rfl ?_
    exact h
set_option maxHeartbeats 4000000 in
set_option maxRecDepth 100000 in
theorem rX8_hasBy_63 (d : Nat) (v1 : Int32) (v2 : Int32) (M : Mm) (Q : Int32 → Mm → Prop)
    (h : kX8_toMatins d  M (fun (_r1 : Int32) (M1 : Mm) => vp_in ((20 : Int32) + v1) 301 ∧ ((¬ (M1 50 ((20 : Int32) + v1).toNatClampNeg) = v2 → Q (0 : Int32) M1) ∧ ((M1 50 ((20 : Int32) + v1).toNatClampNeg) = v2 → Q (1 : Int32) M1)))) : BX8_hasBy (d + 1) 63 [(0, .ref 49), (1, .int v1), (2, .int v2)] [] M Q := by
  refine B_aload_n dX8_hasBy_63 0 rfl ?_
  refine B_callV (st := []) 49 [] dX8_hasBy_64 gX8_hasBy_X8_toMatins rfl hyX8_toMatins (Nat.le_of_ble_eq_true rfl) (Nat.le_of_ble_eq_true rfl) TX8 23 rfl (Nat.le_of_ble_eq_true rfl) (Nat.le_of_ble_eq_true rfl) rfl (Ct.mono h (Nat.le_refl _) (fun _r1 M1 h => ?_))
  refine B_aload_n dX8_hasBy_67 0 rfl ?_
  refine B_getf (T := TX8) (N := 23) (v := .ref 50) 49 0 dX8_hasBy_68 inX8_hasBy_8 lkX8_hasBy_f7 (Nat.le_of_ble_eq_true rfl) (Nat.le_of_ble_eq_true rfl) rfl rfl (by decide) rfl ?_
  refine B_bipush (v := 20) dX8_hasBy_71 (by decide) ?_
  refine B_iload_n dX8_hasBy_73 1 rfl ?_
  refine B_iadd dX8_hasBy_74 ?_
  obtain ⟨hi, h⟩ := h
  refine B_iald (n := 301) 50 dX8_hasBy_75 (Nat.le_of_ble_eq_true rfl) rfl rfl hi ?_
  refine B_iload_n dX8_hasBy_76 2 rfl ?_
  refine B_icmp_ne (tgt := 84) dX8_hasBy_77 (by decide) (fun hc => ?_) (fun hc => ?_)
  · have h := h.1 hc
    refine B_iconst (v := 0) dX8_hasBy_84 (by decide) ?_
    exact B_zret dX8_hasBy_85 (Or.inl rfl) h
  · have h := h.2 hc
    refine B_iconst (v := 1) dX8_hasBy_80 (by decide) ?_
    refine B_goto (tgt := 85) dX8_hasBy_81 (by decide) ?_
    exact B_zret dX8_hasBy_85 (Or.inr rfl) h
set_option maxHeartbeats 4000000 in
set_option maxRecDepth 100000 in
theorem rX8_plan (d : Nat) (v1 : Int32) (v2 : Int32) (v3 : Int32) (M : Mm) (Q : Int32 → Mm → Prop)
    (h : kX8_isSaint d v1 M (fun (r1 : Int32) (M1 : Mm) => ((r1 = 0 → Q (-1000001 : Int32) M1) ∧ (¬ r1 = 0 → kX8_in d v2.toInt64 (1 : Int64) (9 : Int64) M1 (fun (r2 : Int32) (M2 : Mm) => ((r2 = 0 → Q (-1000001 : Int32) M2) ∧ (¬ r2 = 0 → kX8_in d v3.toInt64 (-1 : Int64) (1 : Int64) M2 (fun (r3 : Int32) (M3 : Mm) => ((¬ r3 = 0 → kX8_laysPairs d  M3 (fun (r4 : Int32) (M4 : Mm) => kX8_hasBy d v1 v2 (-1 : Int32) (-1 : Int32) M4 (fun (r5 : Int32) (M5 : Mm) => ((r5 = 0 → BX8_plan (d + 1) 66 [(0, .ref 49), (1, .int v1), (2, .int v2), (3, .int v3), (4, .int r4), (5, .int (0 : Int32))] [] M5 Q) ∧ (¬ r5 = 0 → ((0 ≤ v3 → Q (-1000000 : Int32) M5) ∧ (¬ 0 ≤ v3 → Q (0 : Int32) M5))))))) ∧ (r3 = 0 → Q (-1000001 : Int32) M3)))))))))) : kX8_plan (d + 1) v1 v2 v3 M Q := by
  refine Ct.of (cc := cX8_plan) (nL := 7) (by decide) rfl (Nat.le_of_ble_eq_true rfl) ?_
  show BX8_plan (d + 1) 0 [(0, .ref 49), (1, .int v1), (2, .int v2), (3, .int v3)] [] M Q
  refine B_aload_n dX8_plan_0 0 rfl ?_
  refine B_iload_n dX8_plan_1 1 rfl ?_
  refine B_callV (st := []) 49 [.int v1] dX8_plan_2 gX8_plan_X8_isSaint rfl hyX8_isSaint (Nat.le_of_ble_eq_true rfl) (Nat.le_of_ble_eq_true rfl) TX8 23 rfl (Nat.le_of_ble_eq_true rfl) (Nat.le_of_ble_eq_true rfl) rfl (Ct.mono h (Nat.le_refl _) (fun r1 M1 h => ?_))
  refine B_if_eq (tgt := 32) dX8_plan_5 (by decide) (fun hc => ?_) (fun hc => ?_)
  · have h := h.1 hc
    refine B_ldc (v := -1000001) dX8_plan_32 lkX8_plan_c72 ?_
    exact B_iret dX8_plan_34 h
  · have h := h.2 hc
    refine B_iload_n dX8_plan_8 2 rfl ?_
    refine B_i2l dX8_plan_9 ?_
    refine B_lconst (v := 1) dX8_plan_10 (by decide) ?_
    refine B_ldc2 (v := 9) dX8_plan_11 lkX8_plan_l161 ?_
    refine B_callS (st := []) [.long v2.toInt64, .long (1 : Int64), .long (9 : Int64)] dX8_plan_14 gX8_plan_X8_in rfl hyX8_in (Nat.le_of_ble_eq_true rfl) (Nat.le_of_ble_eq_true rfl) rfl (Ct.mono h (Nat.le_refl _) (fun r2 M2 h => ?_))
    refine B_if_eq (tgt := 32) dX8_plan_17 (by decide) (fun hc => ?_) (fun hc => ?_)
    · have h := h.1 hc
      refine B_ldc (v := -1000001) dX8_plan_32 lkX8_plan_c72 ?_
      exact B_iret dX8_plan_34 h
    · have h := h.2 hc
      refine B_iload_n dX8_plan_20 3 rfl ?_
      refine B_i2l dX8_plan_21 ?_
      refine B_ldc2 (v := -1) dX8_plan_22 lkX8_plan_l207 ?_
      refine B_lconst (v := 1) dX8_plan_25 (by decide) ?_
      refine B_callS (st := []) [.long v3.toInt64, .long (-1 : Int64), .long (1 : Int64)] dX8_plan_26 gX8_plan_X8_in rfl hyX8_in (Nat.le_of_ble_eq_true rfl) (Nat.le_of_ble_eq_true rfl) rfl (Ct.mono h (Nat.le_refl _) (fun r3 M3 h => ?_))
      refine B_if_ne (tgt := 35) dX8_plan_29 (by decide) (fun hc => ?_) (fun hc => ?_)
      · have h := h.1 hc
        refine B_aload_n dX8_plan_35 0 rfl ?_
        refine B_callV (st := []) 49 [] dX8_plan_36 gX8_plan_X8_laysPairs rfl hyX8_laysPairs (Nat.le_of_ble_eq_true rfl) (Nat.le_of_ble_eq_true rfl) TX8 23 rfl (Nat.le_of_ble_eq_true rfl) (Nat.le_of_ble_eq_true rfl) rfl (Ct.mono h (Nat.le_refl _) (fun r4 M4 h => ?_))
        refine B_istore (lv1 := [(4, .int r4), (0, .ref 49), (1, .int v1), (2, .int v2), (3, .int v3)]) dX8_plan_39 (by decide) rfl ?_
        refine B_aload_n dX8_plan_41 1 rfl ?_
        refine B_iload_n dX8_plan_42 2 rfl ?_
        refine B_iload_n dX8_plan_43 3 rfl ?_
        refine B_iconst (v := -1) dX8_plan_44 (by decide) ?_
        refine B_iconst (v := -1) dX8_plan_45 (by decide) ?_
        refine B_callV (st := []) 49 [.int v1, .int v2, .int (-1 : Int32), .int (-1 : Int32)] dX8_plan_46 gX8_plan_X8_hasBy rfl hyX8_hasBy (Nat.le_of_ble_eq_true rfl) (Nat.le_of_ble_eq_true rfl) TX8 23 rfl (Nat.le_of_ble_eq_true rfl) (Nat.le_of_ble_eq_true rfl) rfl (Ct.mono h (Nat.le_refl _) (fun r5 M5 h => ?_))
        refine B_if_eq (tgt := 63) dX8_plan_49 (by decide) (fun hc => ?_) (fun hc => ?_)
        · have h := h.1 hc
          refine B_iconst (v := 0) dX8_plan_63 (by decide) ?_
          refine B_istore (lv1 := [(5, .int (0 : Int32)), (4, .int r4), (0, .ref 49), (1, .int v1), (2, .int v2), (3, .int v3)]) dX8_plan_64 (by decide) rfl ?_
          refine B_weak [2, 3, 4, 5, 1, 0] rfl ?_
          exact h
        · have h := h.2 hc
          refine B_iload_n dX8_plan_52 4 rfl ?_
          refine B_if_ge (tgt := 60) dX8_plan_53 (by decide) (fun hc => ?_) (fun hc => ?_)
          · have h := h.1 hc
            refine B_ldc (v := -1000000) dX8_plan_60 lkX8_plan_c163 ?_
            exact B_iret dX8_plan_62 h
          · have h := h.2 hc
            refine B_iconst (v := 0) dX8_plan_56 (by decide) ?_
            refine B_goto (tgt := 62) dX8_plan_57 (by decide) ?_
            exact B_iret dX8_plan_62 h
      · have h := h.2 hc
        refine B_ldc (v := -1000001) dX8_plan_32 lkX8_plan_c72 ?_
        exact B_iret dX8_plan_34 h
set_option maxHeartbeats 4000000 in
set_option maxRecDepth 100000 in
theorem rX8_plan_66 (d : Nat) (v1 : Int32) (v2 : Int32) (v3 : Int32) (v4 : Int32) (v5 : Int32) (M : Mm) (Q : Int32 → Mm → Prop)
    (h : ((v4 ≤ v5 → BX8_plan (d + 1) 119 [(0, .ref 49), (1, .int v1), (2, .int v2), (3, .int v3), (4, .int v4), (5, .int (0 : Int32))] [] M Q) ∧ (¬ v4 ≤ v5 → kX8_hasBy d v1 v2 v5 (-1 : Int32) M (fun (r1 : Int32) (M1 : Mm) => ((r1 = 0 → BX8_plan (d + 1) 66 [(0, .ref 49), (1, .int v1), (2, .int v2), (3, .int v3), (4, .int v4), (5, .int (v5 + (1 : Int32)))] [] M1 Q) ∧ (¬ r1 = 0 → ((0 ≤ v3 → ((¬ v3 = 0 → Q (-1000000 : Int32) M1) ∧ (v3 = 0 → vp_in v5 21 ∧ Q (M1 62 v5.toNatClampNeg) M1))) ∧ (¬ 0 ≤ v3 → Q (1 : Int32) M1)))))))) : BX8_plan (d + 1) 66 [(0, .ref 49), (1, .int v1), (2, .int v2), (3, .int v3), (4, .int v4), (5, .int v5)] [] M Q := by
  refine B_iload dX8_plan_66 5 rfl ?_
  refine B_iload dX8_plan_68 4 rfl ?_
  refine B_icmp_ge (tgt := 116) dX8_plan_70 (by decide) (fun hc => ?_) (fun hc => ?_)
  · have h := h.1 hc
    refine B_iconst (v := 0) dX8_plan_116 (by decide) ?_
    refine B_istore (lv1 := [(5, .int (0 : Int32)), (0, .ref 49), (1, .int v1), (2, .int v2), (3, .int v3), (4, .int v4)]) dX8_plan_117 (by decide) rfl ?_
    refine B_weak [1, 2, 3, 4, 5, 0] rfl ?_
    exact h
  · have h := h.2 hc
    refine B_aload_n dX8_plan_73 0 rfl ?_
    refine B_iload_n dX8_plan_74 1 rfl ?_
    refine B_iload_n dX8_plan_75 2 rfl ?_
    refine B_iload dX8_plan_76 5 rfl ?_
    refine B_iconst (v := -1) dX8_plan_78 (by decide) ?_
    refine B_callV (st := []) 49 [.int v1, .int v2, .int v5, .int (-1 : Int32)] dX8_plan_79 gX8_plan_X8_hasBy rfl hyX8_hasBy (Nat.le_of_ble_eq_true rfl) (Nat.le_of_ble_eq_true rfl) TX8 23 rfl (Nat.le_of_ble_eq_true rfl) (Nat.le_of_ble_eq_true rfl) rfl (Ct.mono h (Nat.le_refl _) (fun r1 M1 h => ?_))
    refine B_if_eq (tgt := 110) dX8_plan_82 (by decide) (fun hc => ?_) (fun hc => ?_)
    · have h := h.1 hc
      refine B_iinc (lv1 := [(5, .int (v5 + (1 : Int32))), (0, .ref 49), (1, .int v1), (2, .int v2), (3, .int v3), (4, .int v4)]) (v := (v5 + (1 : Int32))) dX8_plan_110 5 rfl rfl (by decide) rfl ?_
      refine B_goto (tgt := 66) dX8_plan_113 (by decide) ?_
      refine B_weak [1, 2, 3, 4, 5, 0] rfl ?_
      exact h
    · have h := h.2 hc
      refine B_iload_n dX8_plan_85 3 rfl ?_
      refine B_if_ge (tgt := 93) dX8_plan_86 (by decide) (fun hc => ?_) (fun hc => ?_)
      · have h := h.1 hc
        refine B_iload_n dX8_plan_93 3 rfl ?_
        refine B_if_ne (tgt := 107) dX8_plan_94 (by decide) (fun hc => ?_) (fun hc => ?_)
        · have h := h.1 hc
          refine B_ldc (v := -1000000) dX8_plan_107 lkX8_plan_c163 ?_
          exact B_iret dX8_plan_109 h
        · have h := h.2 hc
          refine B_aload_n dX8_plan_97 0 rfl ?_
          refine B_getf (T := TX8) (N := 23) (v := .ref 62) 49 19 dX8_plan_98 inX8_plan_8 lkX8_plan_f46 (Nat.le_of_ble_eq_true rfl) (Nat.le_of_ble_eq_true rfl) rfl rfl (by decide) rfl ?_
          refine B_iload dX8_plan_101 5 rfl ?_
          obtain ⟨hi, h⟩ := h
          refine B_iald (n := 21) 62 dX8_plan_103 (Nat.le_of_ble_eq_true rfl) rfl rfl hi ?_
          refine B_goto (tgt := 109) dX8_plan_104 (by decide) ?_
          exact B_iret dX8_plan_109 h
      · have h := h.2 hc
        refine B_iconst (v := 1) dX8_plan_89 (by decide) ?_
        refine B_goto (tgt := 109) dX8_plan_90 (by decide) ?_
        exact B_iret dX8_plan_109 h
set_option maxHeartbeats 4000000 in
set_option maxRecDepth 100000 in
theorem rX8_plan_119 (d : Nat) (v1 : Int32) (v2 : Int32) (v3 : Int32) (v4 : Int32) (v5 : Int32) (M : Mm) (Q : Int32 → Mm → Prop)
    (h : ((v4 ≤ v5 → Q (-1000000 : Int32) M) ∧ (¬ v4 ≤ v5 → BX8_plan (d + 1) 129 [(0, .ref 49), (1, .int v1), (2, .int v2), (3, .int v3), (4, .int v4), (5, .int v5), (6, .int (0 : Int32))] [] M Q))) : BX8_plan (d + 1) 119 [(0, .ref 49), (1, .int v1), (2, .int v2), (3, .int v3), (4, .int v4), (5, .int v5)] [] M Q := by
  refine B_iload dX8_plan_119 5 rfl ?_
  refine B_iload dX8_plan_121 4 rfl ?_
  refine B_icmp_ge (tgt := 191) dX8_plan_123 (by decide) (fun hc => ?_) (fun hc => ?_)
  · have h := h.1 hc
    refine B_ldc (v := -1000000) dX8_plan_191 lkX8_plan_c163 ?_
    exact B_iret dX8_plan_193 h
  · have h := h.2 hc
    refine B_iconst (v := 0) dX8_plan_126 (by decide) ?_
    refine B_istore (lv1 := [(6, .int (0 : Int32)), (0, .ref 49), (1, .int v1), (2, .int v2), (3, .int v3), (4, .int v4), (5, .int v5)]) dX8_plan_127 (by decide) rfl ?_
    refine B_weak [1, 2, 3, 4, 5, 6, 0] rfl ?_
    exact h
set_option maxHeartbeats 4000000 in
set_option maxRecDepth 100000 in
theorem rX8_plan_129 (d : Nat) (v1 : Int32) (v2 : Int32) (v3 : Int32) (v4 : Int32) (v5 : Int32) (v6 : Int32) (M : Mm) (Q : Int32 → Mm → Prop)
    (h : ((v4 ≤ v6 → BX8_plan (d + 1) 119 [(0, .ref 49), (1, .int v1), (2, .int v2), (3, .int v3), (4, .int v4), (5, .int (v5 + (1 : Int32)))] [] M Q) ∧ (¬ v4 ≤ v6 → kX8_hasBy d v1 v2 v5 v6 M (fun (r1 : Int32) (M1 : Mm) => ((r1 = 0 → BX8_plan (d + 1) 129 [(0, .ref 49), (1, .int v1), (2, .int v2), (3, .int v3), (4, .int v4), (5, .int v5), (6, .int (v6 + (1 : Int32)))] [] M1 Q) ∧ (¬ r1 = 0 → ((0 ≤ v3 → ((¬ v3 = 0 → vp_in v6 21 ∧ Q (M1 62 v6.toNatClampNeg) M1) ∧ (v3 = 0 → vp_in v5 21 ∧ Q (M1 62 v5.toNatClampNeg) M1))) ∧ (¬ 0 ≤ v3 → Q (2 : Int32) M1)))))))) : BX8_plan (d + 1) 129 [(0, .ref 49), (1, .int v1), (2, .int v2), (3, .int v3), (4, .int v4), (5, .int v5), (6, .int v6)] [] M Q := by
  refine B_iload dX8_plan_129 6 rfl ?_
  refine B_iload dX8_plan_131 4 rfl ?_
  refine B_icmp_ge (tgt := 185) dX8_plan_133 (by decide) (fun hc => ?_) (fun hc => ?_)
  · have h := h.1 hc
    refine B_iinc (lv1 := [(5, .int (v5 + (1 : Int32))), (0, .ref 49), (1, .int v1), (2, .int v2), (3, .int v3), (4, .int v4), (6, .int v6)]) (v := (v5 + (1 : Int32))) dX8_plan_185 5 rfl rfl (by decide) rfl ?_
    refine B_goto (tgt := 119) dX8_plan_188 (by decide) ?_
    refine B_weak [1, 2, 3, 4, 5, 0] rfl ?_
    exact h
  · have h := h.2 hc
    refine B_aload_n dX8_plan_136 0 rfl ?_
    refine B_iload_n dX8_plan_137 1 rfl ?_
    refine B_iload_n dX8_plan_138 2 rfl ?_
    refine B_iload dX8_plan_139 5 rfl ?_
    refine B_iload dX8_plan_141 6 rfl ?_
    refine B_callV (st := []) 49 [.int v1, .int v2, .int v5, .int v6] dX8_plan_143 gX8_plan_X8_hasBy rfl hyX8_hasBy (Nat.le_of_ble_eq_true rfl) (Nat.le_of_ble_eq_true rfl) TX8 23 rfl (Nat.le_of_ble_eq_true rfl) (Nat.le_of_ble_eq_true rfl) rfl (Ct.mono h (Nat.le_refl _) (fun r1 M1 h => ?_))
    refine B_if_eq (tgt := 179) dX8_plan_146 (by decide) (fun hc => ?_) (fun hc => ?_)
    · have h := h.1 hc
      refine B_iinc (lv1 := [(6, .int (v6 + (1 : Int32))), (0, .ref 49), (1, .int v1), (2, .int v2), (3, .int v3), (4, .int v4), (5, .int v5)]) (v := (v6 + (1 : Int32))) dX8_plan_179 6 rfl rfl (by decide) rfl ?_
      refine B_goto (tgt := 129) dX8_plan_182 (by decide) ?_
      refine B_weak [1, 2, 3, 4, 5, 6, 0] rfl ?_
      exact h
    · have h := h.2 hc
      refine B_iload_n dX8_plan_149 3 rfl ?_
      refine B_if_ge (tgt := 157) dX8_plan_150 (by decide) (fun hc => ?_) (fun hc => ?_)
      · have h := h.1 hc
        refine B_iload_n dX8_plan_157 3 rfl ?_
        refine B_if_ne (tgt := 171) dX8_plan_158 (by decide) (fun hc => ?_) (fun hc => ?_)
        · have h := h.1 hc
          refine B_aload_n dX8_plan_171 0 rfl ?_
          refine B_getf (T := TX8) (N := 23) (v := .ref 62) 49 19 dX8_plan_172 inX8_plan_8 lkX8_plan_f46 (Nat.le_of_ble_eq_true rfl) (Nat.le_of_ble_eq_true rfl) rfl rfl (by decide) rfl ?_
          refine B_iload dX8_plan_175 6 rfl ?_
          obtain ⟨hi, h⟩ := h
          refine B_iald (n := 21) 62 dX8_plan_177 (Nat.le_of_ble_eq_true rfl) rfl rfl hi ?_
          exact B_iret dX8_plan_178 h
        · have h := h.2 hc
          refine B_aload_n dX8_plan_161 0 rfl ?_
          refine B_getf (T := TX8) (N := 23) (v := .ref 62) 49 19 dX8_plan_162 inX8_plan_8 lkX8_plan_f46 (Nat.le_of_ble_eq_true rfl) (Nat.le_of_ble_eq_true rfl) rfl rfl (by decide) rfl ?_
          refine B_iload dX8_plan_165 5 rfl ?_
          obtain ⟨hi, h⟩ := h
          refine B_iald (n := 21) 62 dX8_plan_167 (Nat.le_of_ble_eq_true rfl) rfl rfl hi ?_
          refine B_goto (tgt := 178) dX8_plan_168 (by decide) ?_
          exact B_iret dX8_plan_178 h
      · have h := h.2 hc
        refine B_iconst (v := 2) dX8_plan_153 (by decide) ?_
        refine B_goto (tgt := 178) dX8_plan_154 (by decide) ?_
        exact B_iret dX8_plan_178 h
set_option maxHeartbeats 4000000 in
set_option maxRecDepth 100000 in
theorem rX8_isSo (d : Nat) (v1 : Int32) (v2 : Int32) (v3 : Int32) (M : Mm) (Q : Int32 → Mm → Prop)
    (h : BX8_isSo (d + 1) 6 [(0, .ref 49), (1, .int v1), (2, .int v2), (3, .int v3), (4, .int (1 : Int32)), (5, .int (0 : Int32))] [] M Q) : kX8_isSo (d + 1) v1 v2 v3 M Q := by
  refine Ct.of (cc := cX8_isSo) (nL := 6) (by decide) rfl (Nat.le_of_ble_eq_true rfl) ?_
  show BX8_isSo (d + 1) 0 [(0, .ref 49), (1, .int v1), (2, .int v2), (3, .int v3)] [] M Q
  refine B_iconst (v := 1) dX8_isSo_0 (by decide) ?_
  refine B_istore (lv1 := [(4, .int (1 : Int32)), (0, .ref 49), (1, .int v1), (2, .int v2), (3, .int v3)]) dX8_isSo_1 (by decide) rfl ?_
  refine B_iconst (v := 0) dX8_isSo_3 (by decide) ?_
  refine B_istore (lv1 := [(5, .int (0 : Int32)), (4, .int (1 : Int32)), (0, .ref 49), (1, .int v1), (2, .int v2), (3, .int v3)]) dX8_isSo_4 (by decide) rfl ?_
  refine B_weak [2, 3, 4, 5, 1, 0] rfl ?_
  exact h
set_option maxHeartbeats 4000000 in
set_option maxRecDepth 100000 in
theorem rX8_isSo_6 (d : Nat) (v1 : Int32) (v2 : Int32) (v3 : Int32) (v4 : Int32) (v5 : Int32) (M : Mm) (Q : Int32 → Mm → Prop)
    (h : ((v3 ≤ v5 → ((v4 = 0 ∨ v4 = 1) ∧ Q v4 M)) ∧ (¬ v3 ≤ v5 → ((v4 = 0 → ((v4 = 0 ∨ v4 = 1) ∧ Q v4 M)) ∧ (¬ v4 = 0 → kX8_stepsBy d (17 : Int32) (0 : Int32) M (fun (_r1 : Int32) (M1 : Mm) => vp_in ((20 : Int32) + v1) 301 ∧ vp_in (v2 + v5) 320 ∧ ((¬ (M1 50 ((20 : Int32) + v1).toNatClampNeg) = (M1 54 (v2 + v5).toNatClampNeg) → BX8_isSo (d + 1) 6 [(0, .ref 49), (1, .int v1), (2, .int v2), (3, .int v3), (4, .int (0 : Int32)), (5, .int (v5 + (1 : Int32)))] [] M1 Q) ∧ ((M1 50 ((20 : Int32) + v1).toNatClampNeg) = (M1 54 (v2 + v5).toNatClampNeg) → BX8_isSo (d + 1) 6 [(0, .ref 49), (1, .int v1), (2, .int v2), (3, .int v3), (4, .int (1 : Int32)), (5, .int (v5 + (1 : Int32)))] [] M1 Q)))))))) : BX8_isSo (d + 1) 6 [(0, .ref 49), (1, .int v1), (2, .int v2), (3, .int v3), (4, .int v4), (5, .int v5)] [] M Q := by
  refine B_iload dX8_isSo_6 5 rfl ?_
  refine B_iload_n dX8_isSo_8 3 rfl ?_
  refine B_icmp_ge (tgt := 58) dX8_isSo_9 (by decide) (fun hc => ?_) (fun hc => ?_)
  · have h := h.1 hc
    refine B_iload dX8_isSo_58 4 rfl ?_
    exact B_zret dX8_isSo_60 h.1 h.2
  · have h := h.2 hc
    refine B_iload dX8_isSo_12 4 rfl ?_
    refine B_if_eq (tgt := 58) dX8_isSo_14 (by decide) (fun hc => ?_) (fun hc => ?_)
    · have h := h.1 hc
      refine B_iload dX8_isSo_58 4 rfl ?_
      exact B_zret dX8_isSo_60 h.1 h.2
    · have h := h.2 hc
      refine B_aload_n dX8_isSo_17 0 rfl ?_
      refine B_bipush (v := 17) dX8_isSo_18 (by decide) ?_
      refine B_iconst (v := 0) dX8_isSo_20 (by decide) ?_
      refine B_callV (st := []) 49 [.int (17 : Int32), .int (0 : Int32)] dX8_isSo_21 gX8_isSo_X8_stepsBy rfl hyX8_stepsBy (Nat.le_of_ble_eq_true rfl) (Nat.le_of_ble_eq_true rfl) TX8 23 rfl (Nat.le_of_ble_eq_true rfl) (Nat.le_of_ble_eq_true rfl) rfl (Ct.mono h (Nat.le_refl _) (fun _r1 M1 h => ?_))
      refine B_aload_n dX8_isSo_24 0 rfl ?_
      refine B_getf (T := TX8) (N := 23) (v := .ref 50) 49 0 dX8_isSo_25 inX8_isSo_8 lkX8_isSo_f7 (Nat.le_of_ble_eq_true rfl) (Nat.le_of_ble_eq_true rfl) rfl rfl (by decide) rfl ?_
      refine B_bipush (v := 20) dX8_isSo_28 (by decide) ?_
      refine B_iload_n dX8_isSo_30 1 rfl ?_
      refine B_iadd dX8_isSo_31 ?_
      obtain ⟨hi, h⟩ := h
      refine B_iald (n := 301) 50 dX8_isSo_32 (Nat.le_of_ble_eq_true rfl) rfl rfl hi ?_
      refine B_aload_n dX8_isSo_33 0 rfl ?_
      refine B_getf (T := TX8) (N := 23) (v := .ref 54) 49 8 dX8_isSo_34 inX8_isSo_8 lkX8_isSo_f22 (Nat.le_of_ble_eq_true rfl) (Nat.le_of_ble_eq_true rfl) rfl rfl (by decide) rfl ?_
      refine B_iload_n dX8_isSo_37 2 rfl ?_
      refine B_iload dX8_isSo_38 5 rfl ?_
      refine B_iadd dX8_isSo_40 ?_
      obtain ⟨hi, h⟩ := h
      refine B_iald (n := 320) 54 dX8_isSo_41 (Nat.le_of_ble_eq_true rfl) rfl rfl hi ?_
      refine B_icmp_ne (tgt := 49) dX8_isSo_42 (by decide) (fun hc => ?_) (fun hc => ?_)
      · have h := h.1 hc
        refine B_iconst (v := 0) dX8_isSo_49 (by decide) ?_
        refine B_istore (lv1 := [(4, .int (0 : Int32)), (0, .ref 49), (1, .int v1), (2, .int v2), (3, .int v3), (5, .int v5)]) dX8_isSo_50 (by decide) rfl ?_
        refine B_iinc (lv1 := [(5, .int (v5 + (1 : Int32))), (4, .int (0 : Int32)), (0, .ref 49), (1, .int v1), (2, .int v2), (3, .int v3)]) (v := (v5 + (1 : Int32))) dX8_isSo_52 5 rfl rfl (by decide) rfl ?_
        refine B_goto (tgt := 6) dX8_isSo_55 (by decide) ?_
        refine B_weak [2, 3, 4, 5, 1, 0] rfl ?_
        exact h
      · have h := h.2 hc
        refine B_iconst (v := 1) dX8_isSo_45 (by decide) ?_
        refine B_goto (tgt := 50) dX8_isSo_46 (by decide) ?_
        refine B_istore (lv1 := [(4, .int (1 : Int32)), (0, .ref 49), (1, .int v1), (2, .int v2), (3, .int v3), (5, .int v5)]) dX8_isSo_50 (by decide) rfl ?_
        refine B_iinc (lv1 := [(5, .int (v5 + (1 : Int32))), (4, .int (1 : Int32)), (0, .ref 49), (1, .int v1), (2, .int v2), (3, .int v3)]) (v := (v5 + (1 : Int32))) dX8_isSo_52 5 rfl rfl (by decide) rfl ?_
        refine B_goto (tgt := 6) dX8_isSo_55 (by decide) ?_
        refine B_weak [2, 3, 4, 5, 1, 0] rfl ?_
        exact h
set_option maxHeartbeats 4000000 in
set_option maxRecDepth 100000 in
theorem rX8_bars (d : Nat) (v1 : Int32) (v2 : Int32) (v3 : Int32) (v4 : Int32) (v5 : Int32) (M : Mm) (Q : Int32 → Mm → Prop)
    (h : kX8_isSaint d v1 M (fun (r1 : Int32) (M1 : Mm) => ((r1 = 0 → Q (-1000001 : Int32) M1) ∧ (¬ r1 = 0 → kX8_isRow d v2 M1 (fun (r2 : Int32) (M2 : Mm) => ((r2 = 0 → Q (-1000001 : Int32) M2) ∧ (¬ r2 = 0 → kX8_in d v4.toInt64 (1 : Int64) (12 : Int64) M2 (fun (r3 : Int32) (M3 : Mm) => ((r3 = 0 → Q (-1000001 : Int32) M3) ∧ (¬ r3 = 0 → kX8_in d v5.toInt64 (0 : Int64) (1 : Int64) M3 (fun (r4 : Int32) (M4 : Mm) => ((¬ r4 = 0 → kX8_against d v2 v3 v4 M4 (fun (r5 : Int32) (M5 : Mm) => ((r5 ≤ 0 → (∀ M6 : Mm, M6 = (upd2 M5 49 5 (0 : Int32)) → Q (0 : Int32) M6)) ∧ (¬ r5 ≤ 0 → kX8_finds d r5 M5 (fun (r6 : Int32) (M7 : Mm) => Q r6 M7))))) ∧ (r4 = 0 → Q (-1000001 : Int32) M4))))))))))))) : kX8_bars (d + 1) v1 v2 v3 v4 v5 M Q := by
  refine Ct.of (cc := cX8_bars) (nL := 7) (by decide) rfl (Nat.le_of_ble_eq_true rfl) ?_
  show BX8_bars (d + 1) 0 [(0, .ref 49), (1, .int v1), (2, .int v2), (3, .int v3), (4, .int v4), (5, .int v5)] [] M Q
  refine B_aload_n dX8_bars_0 0 rfl ?_
  refine B_iload_n dX8_bars_1 1 rfl ?_
  refine B_callV (st := []) 49 [.int v1] dX8_bars_2 gX8_bars_X8_isSaint rfl hyX8_isSaint (Nat.le_of_ble_eq_true rfl) (Nat.le_of_ble_eq_true rfl) TX8 23 rfl (Nat.le_of_ble_eq_true rfl) (Nat.le_of_ble_eq_true rfl) rfl (Ct.mono h (Nat.le_refl _) (fun r1 M1 h => ?_))
  refine B_if_eq (tgt := 39) dX8_bars_5 (by decide) (fun hc => ?_) (fun hc => ?_)
  · have h := h.1 hc
    refine B_ldc (v := -1000001) dX8_bars_39 lkX8_bars_c72 ?_
    exact B_iret dX8_bars_41 h
  · have h := h.2 hc
    refine B_iload_n dX8_bars_8 2 rfl ?_
    refine B_callS (st := []) [.int v2] dX8_bars_9 gX8_bars_X8_isRow rfl hyX8_isRow (Nat.le_of_ble_eq_true rfl) (Nat.le_of_ble_eq_true rfl) rfl (Ct.mono h (Nat.le_refl _) (fun r2 M2 h => ?_))
    refine B_if_eq (tgt := 39) dX8_bars_12 (by decide) (fun hc => ?_) (fun hc => ?_)
    · have h := h.1 hc
      refine B_ldc (v := -1000001) dX8_bars_39 lkX8_bars_c72 ?_
      exact B_iret dX8_bars_41 h
    · have h := h.2 hc
      refine B_iload dX8_bars_15 4 rfl ?_
      refine B_i2l dX8_bars_17 ?_
      refine B_lconst (v := 1) dX8_bars_18 (by decide) ?_
      refine B_ldc2 (v := 12) dX8_bars_19 lkX8_bars_l216 ?_
      refine B_callS (st := []) [.long v4.toInt64, .long (1 : Int64), .long (12 : Int64)] dX8_bars_22 gX8_bars_X8_in rfl hyX8_in (Nat.le_of_ble_eq_true rfl) (Nat.le_of_ble_eq_true rfl) rfl (Ct.mono h (Nat.le_refl _) (fun r3 M3 h => ?_))
      refine B_if_eq (tgt := 39) dX8_bars_25 (by decide) (fun hc => ?_) (fun hc => ?_)
      · have h := h.1 hc
        refine B_ldc (v := -1000001) dX8_bars_39 lkX8_bars_c72 ?_
        exact B_iret dX8_bars_41 h
      · have h := h.2 hc
        refine B_iload dX8_bars_28 5 rfl ?_
        refine B_i2l dX8_bars_30 ?_
        refine B_lconst (v := 0) dX8_bars_31 (by decide) ?_
        refine B_lconst (v := 1) dX8_bars_32 (by decide) ?_
        refine B_callS (st := []) [.long v5.toInt64, .long (0 : Int64), .long (1 : Int64)] dX8_bars_33 gX8_bars_X8_in rfl hyX8_in (Nat.le_of_ble_eq_true rfl) (Nat.le_of_ble_eq_true rfl) rfl (Ct.mono h (Nat.le_refl _) (fun r4 M4 h => ?_))
        refine B_if_ne (tgt := 42) dX8_bars_36 (by decide) (fun hc => ?_) (fun hc => ?_)
        · have h := h.1 hc
          refine B_aload_n dX8_bars_42 0 rfl ?_
          refine B_iload_n dX8_bars_43 2 rfl ?_
          refine B_iload_n dX8_bars_44 3 rfl ?_
          refine B_iload dX8_bars_45 4 rfl ?_
          refine B_callV (st := []) 49 [.int v2, .int v3, .int v4] dX8_bars_47 gX8_bars_X8_against rfl hyX8_against (Nat.le_of_ble_eq_true rfl) (Nat.le_of_ble_eq_true rfl) TX8 23 rfl (Nat.le_of_ble_eq_true rfl) (Nat.le_of_ble_eq_true rfl) rfl (Ct.mono h (Nat.le_refl _) (fun r5 M5 h => ?_))
          refine B_istore (lv1 := [(6, .int r5), (0, .ref 49), (1, .int v1), (2, .int v2), (3, .int v3), (4, .int v4), (5, .int v5)]) dX8_bars_50 (by decide) rfl ?_
          refine B_iload dX8_bars_52 0 rfl ?_
          refine B_if_le (tgt := 64) dX8_bars_54 (by decide) (fun hc => ?_) (fun hc => ?_)
          · have h := h.1 hc
            refine B_aload_n dX8_bars_64 1 rfl ?_
            refine B_iconst (v := 0) dX8_bars_65 (by decide) ?_
            refine B_putf (T := TX8) (N := 23) 49 5 tyX8 tyX8_ok nmX8 dX8_bars_66 inX8_bars_8 lkX8_bars_f61 (Nat.le_of_ble_eq_true rfl) (Nat.le_of_ble_eq_true rfl) rfl rfl (by decide) rfl rfl (by decide +kernel) ?_
            have h := h _ rfl
            generalize (upd2 M5 49 5 (0 : Int32)) = M6 at h ⊢
            refine B_iconst (v := 0) dX8_bars_69 (by decide) ?_
            exact B_iret dX8_bars_70 h
          · have h := h.2 hc
            refine B_aload_n dX8_bars_57 1 rfl ?_
            refine B_iload dX8_bars_58 0 rfl ?_
            refine B_callV (st := []) 49 [.int r5] dX8_bars_60 gX8_bars_X8_finds rfl hyX8_finds (Nat.le_of_ble_eq_true rfl) (Nat.le_of_ble_eq_true rfl) TX8 23 rfl (Nat.le_of_ble_eq_true rfl) (Nat.le_of_ble_eq_true rfl) rfl (Ct.mono h (Nat.le_refl _) (fun r6 M7 h => ?_))
            exact B_iret dX8_bars_63 h
        · have h := h.2 hc
          refine B_ldc (v := -1000001) dX8_bars_39 lkX8_bars_c72 ?_
          exact B_iret dX8_bars_41 h
set_option maxHeartbeats 4000000 in
set_option maxRecDepth 100000 in
theorem rX8_fits (d : Nat) (v1 : Int32) (v2 : Int32) (v3 : Int32) (v4 : Int32) (v5 : Int32) (M : Mm) (Q : Int32 → Mm → Prop)
    (h : kX8_bars d v1 v2 v3 v4 v5 M (fun (r1 : Int32) (M1 : Mm) => ((0 ≤ r1 → BX8_fits (d + 1) 27 [(0, .ref 49), (1, .int v1), (2, .int v2), (3, .int v3), (4, .int v4), (5, .int v5), (7, .int (0 : Int32)), (8, .int (1 : Int32))] [] M1 Q) ∧ (¬ 0 ≤ r1 → Q r1 M1)))) : kX8_fits (d + 1) v1 v2 v3 v4 v5 M Q := by
  refine Ct.of (cc := cX8_fits) (nL := 9) (by decide) rfl (Nat.le_of_ble_eq_true rfl) ?_
  show BX8_fits (d + 1) 0 [(0, .ref 49), (1, .int v1), (2, .int v2), (3, .int v3), (4, .int v4), (5, .int v5)] [] M Q
  refine B_aload_n dX8_fits_0 0 rfl ?_
  refine B_iload_n dX8_fits_1 1 rfl ?_
  refine B_iload_n dX8_fits_2 2 rfl ?_
  refine B_iload_n dX8_fits_3 3 rfl ?_
  refine B_iload dX8_fits_4 4 rfl ?_
  refine B_iload dX8_fits_6 5 rfl ?_
  refine B_callV (st := []) 49 [.int v1, .int v2, .int v3, .int v4, .int v5] dX8_fits_8 gX8_fits_X8_bars rfl hyX8_bars (Nat.le_of_ble_eq_true rfl) (Nat.le_of_ble_eq_true rfl) TX8 23 rfl (Nat.le_of_ble_eq_true rfl) (Nat.le_of_ble_eq_true rfl) rfl (Ct.mono h (Nat.le_refl _) (fun r1 M1 h => ?_))
  refine B_istore (lv1 := [(6, .int r1), (0, .ref 49), (1, .int v1), (2, .int v2), (3, .int v3), (4, .int v4), (5, .int v5)]) dX8_fits_11 (by decide) rfl ?_
  refine B_iload dX8_fits_13 0 rfl ?_
  refine B_if_ge (tgt := 21) dX8_fits_15 (by decide) (fun hc => ?_) (fun hc => ?_)
  · have h := h.1 hc
    refine B_iconst (v := 0) dX8_fits_21 (by decide) ?_
    refine B_istore (lv1 := [(7, .int (0 : Int32)), (6, .int r1), (0, .ref 49), (1, .int v1), (2, .int v2), (3, .int v3), (4, .int v4), (5, .int v5)]) dX8_fits_22 (by decide) rfl ?_
    refine B_iconst (v := 1) dX8_fits_24 (by decide) ?_
    refine B_istore (lv1 := [(8, .int (1 : Int32)), (7, .int (0 : Int32)), (6, .int r1), (0, .ref 49), (1, .int v1), (2, .int v2), (3, .int v3), (4, .int v4), (5, .int v5)]) dX8_fits_25 (by decide) rfl ?_
    refine B_weak [3, 4, 5, 6, 7, 8, 1, 0] rfl ?_
    exact h
  · have h := h.2 hc
    refine B_iload dX8_fits_18 0 rfl ?_
    exact B_iret dX8_fits_20 h
set_option maxHeartbeats 4000000 in
set_option maxRecDepth 100000 in
theorem rX8_fits_27 (d : Nat) (v1 : Int32) (v2 : Int32) (v3 : Int32) (v4 : Int32) (v5 : Int32) (v7 : Int32) (v8 : Int32) (M : Mm) (Q : Int32 → Mm → Prop)
    (h : ((¬ v5 = 0 → BX8_fits (d + 1) 40 [(0, .ref 49), (1, .int v1), (2, .int v2), (3, .int v3), (4, .int v4), (5, .int v5), (7, .int v7), (8, .int v8)] [.int (9 : Int32), .int v8] M Q) ∧ (v5 = 0 → BX8_fits (d + 1) 40 [(0, .ref 49), (1, .int v1), (2, .int v2), (3, .int v3), (4, .int v4), (5, .int v5), (7, .int v7), (8, .int v8)] [.int (5 : Int32), .int v8] M Q))) : BX8_fits (d + 1) 27 [(0, .ref 49), (1, .int v1), (2, .int v2), (3, .int v3), (4, .int v4), (5, .int v5), (7, .int v7), (8, .int v8)] [] M Q := by
  refine B_iload dX8_fits_27 7 rfl ?_
  refine B_iload dX8_fits_29 5 rfl ?_
  refine B_if_ne (tgt := 38) dX8_fits_31 (by decide) (fun hc => ?_) (fun hc => ?_)
  · have h := h.1 hc
    refine B_bipush (v := 9) dX8_fits_38 (by decide) ?_
    refine B_weak [0, 1, 2, 3, 4, 5, 6, 7] rfl ?_
    exact h
  · have h := h.2 hc
    refine B_iconst (v := 5) dX8_fits_34 (by decide) ?_
    refine B_goto (tgt := 40) dX8_fits_35 (by decide) ?_
    refine B_weak [0, 1, 2, 3, 4, 5, 6, 7] rfl ?_
    exact h
set_option maxHeartbeats 4000000 in
set_option maxRecDepth 100000 in
theorem rX8_fits_40 (d : Nat) (v1 : Int32) (v2 : Int32) (v3 : Int32) (v4 : Int32) (v5 : Int32) (v7 : Int32) (v8 : Int32) (x0 : Int32) (x1 : Int32) (M : Mm) (Q : Int32 → Mm → Prop)
    (h : ((x0 < x1 → Q v7 M) ∧ (¬ x0 < x1 → kX8_tries d  M (fun (_r1 : Int32) (M1 : Mm) => ((¬ v5 = 0 → BX8_fits (d + 1) 66 [(0, .ref 49), (1, .int v1), (2, .int v2), (3, .int v3), (4, .int v4), (5, .int v5), (7, .int v7), (8, .int v8)] [.int (1 : Int32), .int (17 : Int32), .ref 50] M1 Q) ∧ (v5 = 0 → BX8_fits (d + 1) 66 [(0, .ref 49), (1, .int v1), (2, .int v2), (3, .int v3), (4, .int v4), (5, .int v5), (7, .int v7), (8, .int v8)] [.int ((10 : Int32) + v1), .int (17 : Int32), .ref 50] M1 Q)))))) : BX8_fits (d + 1) 40 [(0, .ref 49), (1, .int v1), (2, .int v2), (3, .int v3), (4, .int v4), (5, .int v5), (7, .int v7), (8, .int v8)] [.int x0, .int x1] M Q := by
  refine B_icmp_gt (tgt := 105) dX8_fits_40 (by decide) (fun hc => ?_) (fun hc => ?_)
  · have h := h.1 hc
    refine B_iload dX8_fits_105 6 rfl ?_
    exact B_iret dX8_fits_107 h
  · have h := h.2 hc
    refine B_aload_n dX8_fits_43 0 rfl ?_
    refine B_callV (st := []) 49 [] dX8_fits_44 gX8_fits_X8_tries rfl hyX8_tries (Nat.le_of_ble_eq_true rfl) (Nat.le_of_ble_eq_true rfl) TX8 23 rfl (Nat.le_of_ble_eq_true rfl) (Nat.le_of_ble_eq_true rfl) rfl (Ct.mono h (Nat.le_refl _) (fun _r1 M1 h => ?_))
    refine B_aload_n dX8_fits_47 0 rfl ?_
    refine B_getf (T := TX8) (N := 23) (v := .ref 50) 49 0 dX8_fits_48 inX8_fits_8 lkX8_fits_f7 (Nat.le_of_ble_eq_true rfl) (Nat.le_of_ble_eq_true rfl) rfl rfl (by decide) rfl ?_
    refine B_bipush (v := 17) dX8_fits_51 (by decide) ?_
    refine B_iload dX8_fits_53 5 rfl ?_
    refine B_if_ne (tgt := 65) dX8_fits_55 (by decide) (fun hc => ?_) (fun hc => ?_)
    · have h := h.1 hc
      refine B_iconst (v := 1) dX8_fits_65 (by decide) ?_
      refine B_weak [0, 1, 2, 3, 4, 5, 6, 7] rfl ?_
      exact h
    · have h := h.2 hc
      refine B_bipush (v := 10) dX8_fits_58 (by decide) ?_
      refine B_iload_n dX8_fits_60 1 rfl ?_
      refine B_iadd dX8_fits_61 ?_
      refine B_goto (tgt := 66) dX8_fits_62 (by decide) ?_
      refine B_weak [0, 1, 2, 3, 4, 5, 6, 7] rfl ?_
      exact h
set_option maxHeartbeats 4000000 in
set_option maxRecDepth 100000 in
theorem rX8_fits_66 (d : Nat) (v1 : Int32) (v2 : Int32) (v3 : Int32) (v4 : Int32) (v5 : Int32) (v7 : Int32) (v8 : Int32) (x0 : Int32) (x1 : Int32) (M : Mm) (Q : Int32 → Mm → Prop)
    (h : vp_in (x1 + x0) 301 ∧ (∀ M1 : Mm, M1 = (upd2 M 50 (x1 + x0).toNatClampNeg v8) → kX8_isSo d v1 (((40 : Int32) * v2) + v3) v4 M1 (fun (r1 : Int32) (M2 : Mm) => ((r1 = 0 → BX8_fits (d + 1) 27 [(0, .ref 49), (1, .int v1), (2, .int v2), (3, .int v3), (4, .int v4), (5, .int v5), (7, .int (v7 ||| (0 : Int32))), (8, .int (v8 + (1 : Int32)))] [] M2 Q) ∧ (¬ r1 = 0 → BX8_fits (d + 1) 27 [(0, .ref 49), (1, .int v1), (2, .int v2), (3, .int v3), (4, .int v4), (5, .int v5), (7, .int (v7 ||| (ishl (1 : Int32) v8))), (8, .int (v8 + (1 : Int32)))] [] M2 Q))))) : BX8_fits (d + 1) 66 [(0, .ref 49), (1, .int v1), (2, .int v2), (3, .int v3), (4, .int v4), (5, .int v5), (7, .int v7), (8, .int v8)] [.int x0, .int x1, .ref 50] M Q := by
  refine B_iadd dX8_fits_66 ?_
  refine B_iload dX8_fits_67 7 rfl ?_
  obtain ⟨hi, h⟩ := h
  refine B_iast (n := 301) 50 dX8_fits_69 (Nat.le_of_ble_eq_true rfl) rfl rfl hi ?_
  have h := h _ rfl
  generalize (upd2 M 50 (x1 + x0).toNatClampNeg v8) = M1 at h ⊢
  refine B_iload dX8_fits_70 6 rfl ?_
  refine B_aload_n dX8_fits_72 0 rfl ?_
  refine B_iload_n dX8_fits_73 1 rfl ?_
  refine B_bipush (v := 40) dX8_fits_74 (by decide) ?_
  refine B_iload_n dX8_fits_76 2 rfl ?_
  refine B_imul dX8_fits_77 ?_
  refine B_iload_n dX8_fits_78 3 rfl ?_
  refine B_iadd dX8_fits_79 ?_
  refine B_iload dX8_fits_80 4 rfl ?_
  refine B_callV (st := [.int v7]) 49 [.int v1, .int (((40 : Int32) * v2) + v3), .int v4] dX8_fits_82 gX8_fits_X8_isSo rfl hyX8_isSo (Nat.le_of_ble_eq_true rfl) (Nat.le_of_ble_eq_true rfl) TX8 23 rfl (Nat.le_of_ble_eq_true rfl) (Nat.le_of_ble_eq_true rfl) rfl (Ct.mono h (Nat.le_refl _) (fun r1 M2 h => ?_))
  refine B_if_eq (tgt := 95) dX8_fits_85 (by decide) (fun hc => ?_) (fun hc => ?_)
  · have h := h.1 hc
    refine B_iconst (v := 0) dX8_fits_95 (by decide) ?_
    refine B_ior dX8_fits_96 ?_
    refine B_istore (lv1 := [(7, .int (v7 ||| (0 : Int32))), (0, .ref 49), (1, .int v1), (2, .int v2), (3, .int v3), (4, .int v4), (5, .int v5), (8, .int v8)]) dX8_fits_97 (by decide) rfl ?_
    refine B_iinc (lv1 := [(8, .int (v8 + (1 : Int32))), (7, .int (v7 ||| (0 : Int32))), (0, .ref 49), (1, .int v1), (2, .int v2), (3, .int v3), (4, .int v4), (5, .int v5)]) (v := (v8 + (1 : Int32))) dX8_fits_99 7 rfl rfl (by decide) rfl ?_
    refine B_goto (tgt := 27) dX8_fits_102 (by decide) ?_
    refine B_weak [2, 3, 4, 5, 6, 7, 1, 0] rfl ?_
    exact h
  · have h := h.2 hc
    refine B_iconst (v := 1) dX8_fits_88 (by decide) ?_
    refine B_iload dX8_fits_89 7 rfl ?_
    refine B_ishl dX8_fits_91 ?_
    refine B_goto (tgt := 96) dX8_fits_92 (by decide) ?_
    refine B_ior dX8_fits_96 ?_
    refine B_istore (lv1 := [(7, .int (v7 ||| (ishl (1 : Int32) v8))), (0, .ref 49), (1, .int v1), (2, .int v2), (3, .int v3), (4, .int v4), (5, .int v5), (8, .int v8)]) dX8_fits_97 (by decide) rfl ?_
    refine B_iinc (lv1 := [(8, .int (v8 + (1 : Int32))), (7, .int (v7 ||| (ishl (1 : Int32) v8))), (0, .ref 49), (1, .int v1), (2, .int v2), (3, .int v3), (4, .int v4), (5, .int v5)]) (v := (v8 + (1 : Int32))) dX8_fits_99 7 rfl rfl (by decide) rfl ?_
    refine B_goto (tgt := 27) dX8_fits_102 (by decide) ?_
    refine B_weak [2, 3, 4, 5, 6, 7, 1, 0] rfl ?_
    exact h
set_option maxHeartbeats 4000000 in
set_option maxRecDepth 100000 in
theorem rX8_nextRow (d : Nat)  (M : Mm) (Q : Int32 → Mm → Prop)
    (h : vp_in (0 : Int32) 301 ∧ BX8_nextRow d 11 [(0, .ref 49), (1, .int (M 50 (0 : Int32).toNatClampNeg)), (2, .int ((M 50 (0 : Int32).toNatClampNeg) - (2 : Int32)))] [] M Q) : kX8_nextRow d  M Q := by
  refine Ct.of (cc := cX8_nextRow) (nL := 6) (by decide) rfl (Nat.le_of_ble_eq_true rfl) ?_
  show BX8_nextRow d 0 [(0, .ref 49)] [] M Q
  refine B_aload_n dX8_nextRow_0 0 rfl ?_
  refine B_getf (T := TX8) (N := 23) (v := .ref 50) 49 0 dX8_nextRow_1 inX8_nextRow_8 lkX8_nextRow_f7 (Nat.le_of_ble_eq_true rfl) (Nat.le_of_ble_eq_true rfl) rfl rfl (by decide) rfl ?_
  refine B_iconst (v := 0) dX8_nextRow_4 (by decide) ?_
  obtain ⟨hi, h⟩ := h
  refine B_iald (n := 301) 50 dX8_nextRow_5 (Nat.le_of_ble_eq_true rfl) rfl rfl hi ?_
  refine B_istore_n (lv1 := [(1, .int (M 50 (0 : Int32).toNatClampNeg)), (0, .ref 49)]) dX8_nextRow_6 (by decide) rfl ?_
  refine B_iload_n dX8_nextRow_7 0 rfl ?_
  refine B_iconst (v := 2) dX8_nextRow_8 (by decide) ?_
  refine B_isub dX8_nextRow_9 ?_
  refine B_istore_n (lv1 := [(2, .int ((M 50 (0 : Int32).toNatClampNeg) - (2 : Int32))), (1, .int (M 50 (0 : Int32).toNatClampNeg)), (0, .ref 49)]) dX8_nextRow_10 (by decide) rfl ?_
  refine B_weak [2, 1, 0] rfl ?_
  exact h
set_option maxHeartbeats 4000000 in
set_option maxRecDepth 100000 in
theorem rX8_nextRow_11 (d : Nat) (v1 : Int32) (v2 : Int32) (M : Mm) (Q : Int32 → Mm → Prop)
    (h : ((v2 < 0 → BX8_nextRow d 38 [(0, .ref 49), (1, .int v1), (2, .int v2)] [] M Q) ∧ (¬ v2 < 0 → vp_in v2 7 ∧ vp_in (v2 + (1 : Int32)) 7 ∧ (((M 63 v2.toNatClampNeg) < (M 63 (v2 + (1 : Int32)).toNatClampNeg) → BX8_nextRow d 38 [(0, .ref 49), (1, .int v1), (2, .int v2)] [] M Q) ∧ (¬ (M 63 v2.toNatClampNeg) < (M 63 (v2 + (1 : Int32)).toNatClampNeg) → BX8_nextRow d 11 [(0, .ref 49), (1, .int v1), (2, .int (v2 + (-1 : Int32)))] [] M Q))))) : BX8_nextRow d 11 [(0, .ref 49), (1, .int v1), (2, .int v2)] [] M Q := by
  refine B_iload_n dX8_nextRow_11 2 rfl ?_
  refine B_if_lt (tgt := 38) dX8_nextRow_12 (by decide) (fun hc => ?_) (fun hc => ?_)
  · have h := h.1 hc
    refine B_weak [0, 1, 2] rfl ?_
    exact h
  · have h := h.2 hc
    refine B_aload_n dX8_nextRow_15 0 rfl ?_
    refine B_getf (T := TX8) (N := 23) (v := .ref 63) 49 20 dX8_nextRow_16 inX8_nextRow_8 lkX8_nextRow_f49 (Nat.le_of_ble_eq_true rfl) (Nat.le_of_ble_eq_true rfl) rfl rfl (by decide) rfl ?_
    refine B_iload_n dX8_nextRow_19 2 rfl ?_
    obtain ⟨hi, h⟩ := h
    refine B_iald (n := 7) 63 dX8_nextRow_20 (Nat.le_of_ble_eq_true rfl) rfl rfl hi ?_
    refine B_aload_n dX8_nextRow_21 0 rfl ?_
    refine B_getf (T := TX8) (N := 23) (v := .ref 63) 49 20 dX8_nextRow_22 inX8_nextRow_8 lkX8_nextRow_f49 (Nat.le_of_ble_eq_true rfl) (Nat.le_of_ble_eq_true rfl) rfl rfl (by decide) rfl ?_
    refine B_iload_n dX8_nextRow_25 2 rfl ?_
    refine B_iconst (v := 1) dX8_nextRow_26 (by decide) ?_
    refine B_iadd dX8_nextRow_27 ?_
    obtain ⟨hi, h⟩ := h
    refine B_iald (n := 7) 63 dX8_nextRow_28 (Nat.le_of_ble_eq_true rfl) rfl rfl hi ?_
    refine B_icmp_lt (tgt := 38) dX8_nextRow_29 (by decide) (fun hc => ?_) (fun hc => ?_)
    · have h := h.1 hc
      refine B_weak [0, 1, 2] rfl ?_
      exact h
    · have h := h.2 hc
      refine B_iinc (lv1 := [(2, .int (v2 + (-1 : Int32))), (0, .ref 49), (1, .int v1)]) (v := (v2 + (-1 : Int32))) dX8_nextRow_32 2 rfl rfl (by decide) rfl ?_
      refine B_goto (tgt := 11) dX8_nextRow_35 (by decide) ?_
      refine B_weak [1, 2, 0] rfl ?_
      exact h
set_option maxHeartbeats 4000000 in
set_option maxRecDepth 100000 in
theorem rX8_nextRow_38 (d : Nat) (v1 : Int32) (v2 : Int32) (M : Mm) (Q : Int32 → Mm → Prop)
    (h : ((0 ≤ v2 → BX8_nextRow d 48 [(0, .ref 49), (1, .int v1), (2, .int v2), (3, .int (v1 - (1 : Int32)))] [] M Q) ∧ (¬ 0 ≤ v2 → Q (0 : Int32) M))) : BX8_nextRow d 38 [(0, .ref 49), (1, .int v1), (2, .int v2)] [] M Q := by
  refine B_iload_n dX8_nextRow_38 2 rfl ?_
  refine B_if_ge (tgt := 44) dX8_nextRow_39 (by decide) (fun hc => ?_) (fun hc => ?_)
  · have h := h.1 hc
    refine B_iload_n dX8_nextRow_44 1 rfl ?_
    refine B_iconst (v := 1) dX8_nextRow_45 (by decide) ?_
    refine B_isub dX8_nextRow_46 ?_
    refine B_istore_n (lv1 := [(3, .int (v1 - (1 : Int32))), (0, .ref 49), (1, .int v1), (2, .int v2)]) dX8_nextRow_47 (by decide) rfl ?_
    refine B_weak [1, 2, 3, 0] rfl ?_
    exact h
  · have h := h.2 hc
    refine B_iconst (v := 0) dX8_nextRow_42 (by decide) ?_
    exact B_zret dX8_nextRow_43 (Or.inl rfl) h
set_option maxHeartbeats 4000000 in
set_option maxRecDepth 100000 in
theorem rX8_nextRow_48 (d : Nat) (v1 : Int32) (v2 : Int32) (v3 : Int32) (M : Mm) (Q : Int32 → Mm → Prop)
    (h : vp_in v3 7 ∧ vp_in v2 7 ∧ (((M 63 v2.toNatClampNeg) < (M 63 v3.toNatClampNeg) → vp_in v2 7 ∧ vp_in v3 7 ∧ vp_in v2 7 ∧ (∀ M1 : Mm, M1 = (upd2 M 63 v2.toNatClampNeg (M 63 v3.toNatClampNeg)) → vp_in v3 7 ∧ (∀ M2 : Mm, M2 = (upd2 M1 63 v3.toNatClampNeg (M 63 v2.toNatClampNeg)) → BX8_nextRow d 100 [(0, .ref 49), (1, .int v1), (2, .int v2), (5, .int (0 : Int32))] [] M2 Q))) ∧ (¬ (M 63 v2.toNatClampNeg) < (M 63 v3.toNatClampNeg) → BX8_nextRow d 48 [(0, .ref 49), (1, .int v1), (2, .int v2), (3, .int (v3 + (-1 : Int32)))] [] M Q))) : BX8_nextRow d 48 [(0, .ref 49), (1, .int v1), (2, .int v2), (3, .int v3)] [] M Q := by
  refine B_aload_n dX8_nextRow_48 0 rfl ?_
  refine B_getf (T := TX8) (N := 23) (v := .ref 63) 49 20 dX8_nextRow_49 inX8_nextRow_8 lkX8_nextRow_f49 (Nat.le_of_ble_eq_true rfl) (Nat.le_of_ble_eq_true rfl) rfl rfl (by decide) rfl ?_
  refine B_iload_n dX8_nextRow_52 3 rfl ?_
  obtain ⟨hi, h⟩ := h
  refine B_iald (n := 7) 63 dX8_nextRow_53 (Nat.le_of_ble_eq_true rfl) rfl rfl hi ?_
  refine B_aload_n dX8_nextRow_54 0 rfl ?_
  refine B_getf (T := TX8) (N := 23) (v := .ref 63) 49 20 dX8_nextRow_55 inX8_nextRow_8 lkX8_nextRow_f49 (Nat.le_of_ble_eq_true rfl) (Nat.le_of_ble_eq_true rfl) rfl rfl (by decide) rfl ?_
  refine B_iload_n dX8_nextRow_58 2 rfl ?_
  obtain ⟨hi, h⟩ := h
  refine B_iald (n := 7) 63 dX8_nextRow_59 (Nat.le_of_ble_eq_true rfl) rfl rfl hi ?_
  refine B_icmp_gt (tgt := 69) dX8_nextRow_60 (by decide) (fun hc => ?_) (fun hc => ?_)
  · have h := h.1 hc
    refine B_aload_n dX8_nextRow_69 0 rfl ?_
    refine B_getf (T := TX8) (N := 23) (v := .ref 63) 49 20 dX8_nextRow_70 inX8_nextRow_8 lkX8_nextRow_f49 (Nat.le_of_ble_eq_true rfl) (Nat.le_of_ble_eq_true rfl) rfl rfl (by decide) rfl ?_
    refine B_iload_n dX8_nextRow_73 2 rfl ?_
    obtain ⟨hi, h⟩ := h
    refine B_iald (n := 7) 63 dX8_nextRow_74 (Nat.le_of_ble_eq_true rfl) rfl rfl hi ?_
    refine B_istore (lv1 := [(4, .int (M 63 v2.toNatClampNeg)), (0, .ref 49), (1, .int v1), (2, .int v2), (3, .int v3)]) dX8_nextRow_75 (by decide) rfl ?_
    refine B_aload_n dX8_nextRow_77 1 rfl ?_
    refine B_getf (T := TX8) (N := 23) (v := .ref 63) 49 20 dX8_nextRow_78 inX8_nextRow_8 lkX8_nextRow_f49 (Nat.le_of_ble_eq_true rfl) (Nat.le_of_ble_eq_true rfl) rfl rfl (by decide) rfl ?_
    refine B_iload_n dX8_nextRow_81 3 rfl ?_
    refine B_aload_n dX8_nextRow_82 1 rfl ?_
    refine B_getf (T := TX8) (N := 23) (v := .ref 63) 49 20 dX8_nextRow_83 inX8_nextRow_8 lkX8_nextRow_f49 (Nat.le_of_ble_eq_true rfl) (Nat.le_of_ble_eq_true rfl) rfl rfl (by decide) rfl ?_
    refine B_iload_n dX8_nextRow_86 4 rfl ?_
    obtain ⟨hi, h⟩ := h
    refine B_iald (n := 7) 63 dX8_nextRow_87 (Nat.le_of_ble_eq_true rfl) rfl rfl hi ?_
    obtain ⟨hi, h⟩ := h
    refine B_iast (n := 7) 63 dX8_nextRow_88 (Nat.le_of_ble_eq_true rfl) rfl rfl hi ?_
    have h := h _ rfl
    generalize (upd2 M 63 v2.toNatClampNeg (M 63 v3.toNatClampNeg)) = M1 at h ⊢
    refine B_aload_n dX8_nextRow_89 1 rfl ?_
    refine B_getf (T := TX8) (N := 23) (v := .ref 63) 49 20 dX8_nextRow_90 inX8_nextRow_8 lkX8_nextRow_f49 (Nat.le_of_ble_eq_true rfl) (Nat.le_of_ble_eq_true rfl) rfl rfl (by decide) rfl ?_
    refine B_iload_n dX8_nextRow_93 4 rfl ?_
    refine B_iload dX8_nextRow_94 0 rfl ?_
    obtain ⟨hi, h⟩ := h
    refine B_iast (n := 7) 63 dX8_nextRow_96 (Nat.le_of_ble_eq_true rfl) rfl rfl hi ?_
    have h := h _ rfl
    generalize (upd2 M1 63 v3.toNatClampNeg (M 63 v2.toNatClampNeg)) = M2 at h ⊢
    refine B_iconst (v := 0) dX8_nextRow_97 (by decide) ?_
    refine B_istore (lv1 := [(5, .int (0 : Int32)), (4, .int (M 63 v2.toNatClampNeg)), (0, .ref 49), (1, .int v1), (2, .int v2), (3, .int v3)]) dX8_nextRow_98 (by decide) rfl ?_
    refine B_weak [2, 3, 4, 0] rfl ?_
    exact h
  · have h := h.2 hc
    refine B_iinc (lv1 := [(3, .int (v3 + (-1 : Int32))), (0, .ref 49), (1, .int v1), (2, .int v2)]) (v := (v3 + (-1 : Int32))) dX8_nextRow_63 3 rfl rfl (by decide) rfl ?_
    refine B_goto (tgt := 48) dX8_nextRow_66 (by decide) ?_
    refine B_weak [1, 2, 3, 0] rfl ?_
    exact h
set_option maxHeartbeats 4000000 in
set_option maxRecDepth 100000 in
theorem rX8_nextRow_100 (d : Nat) (v1 : Int32) (v2 : Int32) (v5 : Int32) (M : Mm) (Q : Int32 → Mm → Prop)
    (h : ((((v1 - (1 : Int32)) - v5) ≤ ((v2 + (1 : Int32)) + v5) → Q (1 : Int32) M) ∧ (¬ ((v1 - (1 : Int32)) - v5) ≤ ((v2 + (1 : Int32)) + v5) → vp_in ((v2 + (1 : Int32)) + v5) 7 ∧ vp_in ((v1 - (1 : Int32)) - v5) 7 ∧ vp_in ((v2 + (1 : Int32)) + v5) 7 ∧ (∀ M1 : Mm, M1 = (upd2 M 63 ((v2 + (1 : Int32)) + v5).toNatClampNeg (M 63 ((v1 - (1 : Int32)) - v5).toNatClampNeg)) → vp_in ((v1 - (1 : Int32)) - v5) 7 ∧ (∀ M2 : Mm, M2 = (upd2 M1 63 ((v1 - (1 : Int32)) - v5).toNatClampNeg (M 63 ((v2 + (1 : Int32)) + v5).toNatClampNeg)) → BX8_nextRow d 100 [(0, .ref 49), (1, .int v1), (2, .int v2), (5, .int (v5 + (1 : Int32)))] [] M2 Q))))) : BX8_nextRow d 100 [(0, .ref 49), (1, .int v1), (2, .int v2), (5, .int v5)] [] M Q := by
  refine B_iload_n dX8_nextRow_100 2 rfl ?_
  refine B_iconst (v := 1) dX8_nextRow_101 (by decide) ?_
  refine B_iadd dX8_nextRow_102 ?_
  refine B_iload dX8_nextRow_103 3 rfl ?_
  refine B_iadd dX8_nextRow_105 ?_
  refine B_iload_n dX8_nextRow_106 1 rfl ?_
  refine B_iconst (v := 1) dX8_nextRow_107 (by decide) ?_
  refine B_isub dX8_nextRow_108 ?_
  refine B_iload dX8_nextRow_109 3 rfl ?_
  refine B_isub dX8_nextRow_111 ?_
  refine B_icmp_ge (tgt := 169) dX8_nextRow_112 (by decide) (fun hc => ?_) (fun hc => ?_)
  · have h := h.1 hc
    refine B_iconst (v := 1) dX8_nextRow_169 (by decide) ?_
    exact B_zret dX8_nextRow_170 (Or.inr rfl) h
  · have h := h.2 hc
    refine B_aload_n dX8_nextRow_115 0 rfl ?_
    refine B_getf (T := TX8) (N := 23) (v := .ref 63) 49 20 dX8_nextRow_116 inX8_nextRow_8 lkX8_nextRow_f49 (Nat.le_of_ble_eq_true rfl) (Nat.le_of_ble_eq_true rfl) rfl rfl (by decide) rfl ?_
    refine B_iload_n dX8_nextRow_119 2 rfl ?_
    refine B_iconst (v := 1) dX8_nextRow_120 (by decide) ?_
    refine B_iadd dX8_nextRow_121 ?_
    refine B_iload dX8_nextRow_122 3 rfl ?_
    refine B_iadd dX8_nextRow_124 ?_
    obtain ⟨hi, h⟩ := h
    refine B_iald (n := 7) 63 dX8_nextRow_125 (Nat.le_of_ble_eq_true rfl) rfl rfl hi ?_
    refine B_istore (lv1 := [(4, .int (M 63 ((v2 + (1 : Int32)) + v5).toNatClampNeg)), (0, .ref 49), (1, .int v1), (2, .int v2), (5, .int v5)]) dX8_nextRow_126 (by decide) rfl ?_
    refine B_aload_n dX8_nextRow_128 1 rfl ?_
    refine B_getf (T := TX8) (N := 23) (v := .ref 63) 49 20 dX8_nextRow_129 inX8_nextRow_8 lkX8_nextRow_f49 (Nat.le_of_ble_eq_true rfl) (Nat.le_of_ble_eq_true rfl) rfl rfl (by decide) rfl ?_
    refine B_iload_n dX8_nextRow_132 3 rfl ?_
    refine B_iconst (v := 1) dX8_nextRow_133 (by decide) ?_
    refine B_iadd dX8_nextRow_134 ?_
    refine B_iload dX8_nextRow_135 4 rfl ?_
    refine B_iadd dX8_nextRow_137 ?_
    refine B_aload_n dX8_nextRow_138 1 rfl ?_
    refine B_getf (T := TX8) (N := 23) (v := .ref 63) 49 20 dX8_nextRow_139 inX8_nextRow_8 lkX8_nextRow_f49 (Nat.le_of_ble_eq_true rfl) (Nat.le_of_ble_eq_true rfl) rfl rfl (by decide) rfl ?_
    refine B_iload_n dX8_nextRow_142 2 rfl ?_
    refine B_iconst (v := 1) dX8_nextRow_143 (by decide) ?_
    refine B_isub dX8_nextRow_144 ?_
    refine B_iload dX8_nextRow_145 4 rfl ?_
    refine B_isub dX8_nextRow_147 ?_
    obtain ⟨hi, h⟩ := h
    refine B_iald (n := 7) 63 dX8_nextRow_148 (Nat.le_of_ble_eq_true rfl) rfl rfl hi ?_
    obtain ⟨hi, h⟩ := h
    refine B_iast (n := 7) 63 dX8_nextRow_149 (Nat.le_of_ble_eq_true rfl) rfl rfl hi ?_
    have h := h _ rfl
    generalize (upd2 M 63 ((v2 + (1 : Int32)) + v5).toNatClampNeg (M 63 ((v1 - (1 : Int32)) - v5).toNatClampNeg)) = M1 at h ⊢
    refine B_aload_n dX8_nextRow_150 1 rfl ?_
    refine B_getf (T := TX8) (N := 23) (v := .ref 63) 49 20 dX8_nextRow_151 inX8_nextRow_8 lkX8_nextRow_f49 (Nat.le_of_ble_eq_true rfl) (Nat.le_of_ble_eq_true rfl) rfl rfl (by decide) rfl ?_
    refine B_iload_n dX8_nextRow_154 2 rfl ?_
    refine B_iconst (v := 1) dX8_nextRow_155 (by decide) ?_
    refine B_isub dX8_nextRow_156 ?_
    refine B_iload dX8_nextRow_157 4 rfl ?_
    refine B_isub dX8_nextRow_159 ?_
    refine B_iload dX8_nextRow_160 0 rfl ?_
    obtain ⟨hi, h⟩ := h
    refine B_iast (n := 7) 63 dX8_nextRow_162 (Nat.le_of_ble_eq_true rfl) rfl rfl hi ?_
    have h := h _ rfl
    generalize (upd2 M1 63 ((v1 - (1 : Int32)) - v5).toNatClampNeg (M 63 ((v2 + (1 : Int32)) + v5).toNatClampNeg)) = M2 at h ⊢
    refine B_iinc (lv1 := [(5, .int (v5 + (1 : Int32))), (4, .int (M 63 ((v2 + (1 : Int32)) + v5).toNatClampNeg)), (0, .ref 49), (1, .int v1), (2, .int v2)]) (v := (v5 + (1 : Int32))) dX8_nextRow_163 4 rfl rfl (by decide) rfl ?_
    refine B_goto (tgt := 100) dX8_nextRow_166 (by decide) ?_
    refine B_weak [2, 3, 4, 0] rfl ?_
    exact h
set_option maxHeartbeats 4000000 in
set_option maxRecDepth 100000 in
theorem rX8_began (d : Nat) (v1 : Int32) (v2 : Int32) (v3 : Int32) (v4 : Int32) (v5 : Int32) (M : Mm) (Q : Int32 → Mm → Prop)
    (h : kX8_bars d v1 v2 v3 v4 v5 M (fun (r1 : Int32) (M1 : Mm) => ((0 ≤ r1 → kX8_countsThere d  M1 (fun (_r2 : Int32) (M2 : Mm) => BX8_began (d + 1) 31 [(0, .ref 49), (1, .int v1), (2, .int v2), (3, .int v3), (4, .int v4), (5, .int v5), (7, .int (0 : Int32)), (8, .int (0 : Int32))] [] M2 Q)) ∧ (¬ 0 ≤ r1 → Q r1 M1)))) : kX8_began (d + 1) v1 v2 v3 v4 v5 M Q := by
  refine Ct.of (cc := cX8_began) (nL := 13) (by decide) rfl (Nat.le_of_ble_eq_true rfl) ?_
  show BX8_began (d + 1) 0 [(0, .ref 49), (1, .int v1), (2, .int v2), (3, .int v3), (4, .int v4), (5, .int v5)] [] M Q
  refine B_aload_n dX8_began_0 0 rfl ?_
  refine B_iload_n dX8_began_1 1 rfl ?_
  refine B_iload_n dX8_began_2 2 rfl ?_
  refine B_iload_n dX8_began_3 3 rfl ?_
  refine B_iload dX8_began_4 4 rfl ?_
  refine B_iload dX8_began_6 5 rfl ?_
  refine B_callV (st := []) 49 [.int v1, .int v2, .int v3, .int v4, .int v5] dX8_began_8 gX8_began_X8_bars rfl hyX8_bars (Nat.le_of_ble_eq_true rfl) (Nat.le_of_ble_eq_true rfl) TX8 23 rfl (Nat.le_of_ble_eq_true rfl) (Nat.le_of_ble_eq_true rfl) rfl (Ct.mono h (Nat.le_refl _) (fun r1 M1 h => ?_))
  refine B_istore (lv1 := [(6, .int r1), (0, .ref 49), (1, .int v1), (2, .int v2), (3, .int v3), (4, .int v4), (5, .int v5)]) dX8_began_11 (by decide) rfl ?_
  refine B_iload dX8_began_13 0 rfl ?_
  refine B_if_ge (tgt := 21) dX8_began_15 (by decide) (fun hc => ?_) (fun hc => ?_)
  · have h := h.1 hc
    refine B_aload_n dX8_began_21 1 rfl ?_
    refine B_callV (st := []) 49 [] dX8_began_22 gX8_began_X8_countsThere rfl hyX8_countsThere (Nat.le_of_ble_eq_true rfl) (Nat.le_of_ble_eq_true rfl) TX8 23 rfl (Nat.le_of_ble_eq_true rfl) (Nat.le_of_ble_eq_true rfl) rfl (Ct.mono h (Nat.le_refl _) (fun _r2 M2 h => ?_))
    refine B_iconst (v := 0) dX8_began_25 (by decide) ?_
    refine B_istore (lv1 := [(7, .int (0 : Int32)), (6, .int r1), (0, .ref 49), (1, .int v1), (2, .int v2), (3, .int v3), (4, .int v4), (5, .int v5)]) dX8_began_26 (by decide) rfl ?_
    refine B_iconst (v := 0) dX8_began_28 (by decide) ?_
    refine B_istore (lv1 := [(8, .int (0 : Int32)), (7, .int (0 : Int32)), (6, .int r1), (0, .ref 49), (1, .int v1), (2, .int v2), (3, .int v3), (4, .int v4), (5, .int v5)]) dX8_began_29 (by decide) rfl ?_
    refine B_weak [3, 4, 5, 6, 7, 8, 1, 0] rfl ?_
    exact h
  · have h := h.2 hc
    refine B_iload dX8_began_18 0 rfl ?_
    exact B_iret dX8_began_20 h
set_option maxHeartbeats 4000000 in
set_option maxRecDepth 100000 in
theorem rX8_began_31 (d : Nat) (v1 : Int32) (v2 : Int32) (v3 : Int32) (v4 : Int32) (v5 : Int32) (v7 : Int32) (v8 : Int32) (M : Mm) (Q : Int32 → Mm → Prop)
    (h : (((10 : Int32) ≤ v8 → BX8_began (d + 1) 90 [(0, .ref 49), (1, .int v1), (2, .int v2), (3, .int v3), (4, .int v4), (5, .int v5), (8, .int (0 : Int32)), (9, .int (-1000000 : Int32)), (10, .int (0 : Int32)), (11, .int (1 : Int32))] [] M Q) ∧ (¬ (10 : Int32) ≤ v8 → BX8_began (d + 1) 41 [(0, .ref 49), (1, .int v1), (2, .int v2), (3, .int v3), (4, .int v4), (5, .int v5), (7, .int v7), (8, .int v8), (9, .int (0 : Int32))] [] M Q))) : BX8_began (d + 1) 31 [(0, .ref 49), (1, .int v1), (2, .int v2), (3, .int v3), (4, .int v4), (5, .int v5), (7, .int v7), (8, .int v8)] [] M Q := by
  refine B_iload dX8_began_31 7 rfl ?_
  refine B_bipush (v := 10) dX8_began_33 (by decide) ?_
  refine B_icmp_ge (tgt := 77) dX8_began_35 (by decide) (fun hc => ?_) (fun hc => ?_)
  · have h := h.1 hc
    refine B_iconst (v := 0) dX8_began_77 (by decide) ?_
    refine B_istore (lv1 := [(8, .int (0 : Int32)), (0, .ref 49), (1, .int v1), (2, .int v2), (3, .int v3), (4, .int v4), (5, .int v5), (7, .int v7)]) dX8_began_78 (by decide) rfl ?_
    refine B_ldc (v := -1000000) dX8_began_80 lkX8_began_c163 ?_
    refine B_istore (lv1 := [(9, .int (-1000000 : Int32)), (8, .int (0 : Int32)), (0, .ref 49), (1, .int v1), (2, .int v2), (3, .int v3), (4, .int v4), (5, .int v5), (7, .int v7)]) dX8_began_82 (by decide) rfl ?_
    refine B_iconst (v := 0) dX8_began_84 (by decide) ?_
    refine B_istore (lv1 := [(10, .int (0 : Int32)), (9, .int (-1000000 : Int32)), (8, .int (0 : Int32)), (0, .ref 49), (1, .int v1), (2, .int v2), (3, .int v3), (4, .int v4), (5, .int v5), (7, .int v7)]) dX8_began_85 (by decide) rfl ?_
    refine B_iconst (v := 1) dX8_began_87 (by decide) ?_
    refine B_istore (lv1 := [(11, .int (1 : Int32)), (10, .int (0 : Int32)), (9, .int (-1000000 : Int32)), (8, .int (0 : Int32)), (0, .ref 49), (1, .int v1), (2, .int v2), (3, .int v3), (4, .int v4), (5, .int v5), (7, .int v7)]) dX8_began_88 (by decide) rfl ?_
    refine B_weak [4, 5, 6, 7, 8, 9, 3, 2, 1, 0] rfl ?_
    exact h
  · have h := h.2 hc
    refine B_iconst (v := 0) dX8_began_38 (by decide) ?_
    refine B_istore (lv1 := [(9, .int (0 : Int32)), (0, .ref 49), (1, .int v1), (2, .int v2), (3, .int v3), (4, .int v4), (5, .int v5), (7, .int v7), (8, .int v8)]) dX8_began_39 (by decide) rfl ?_
    refine B_weak [1, 2, 3, 4, 5, 6, 7, 8, 0] rfl ?_
    exact h
set_option maxHeartbeats 4000000 in
set_option maxRecDepth 100000 in
theorem rX8_began_41 (d : Nat) (v1 : Int32) (v2 : Int32) (v3 : Int32) (v4 : Int32) (v5 : Int32) (v7 : Int32) (v8 : Int32) (v9 : Int32) (M : Mm) (Q : Int32 → Mm → Prop)
    (h : vp_in v8 10 ∧ (((M 56 v8.toNatClampNeg) ≤ v9 → BX8_began (d + 1) 31 [(0, .ref 49), (1, .int v1), (2, .int v2), (3, .int v3), (4, .int v4), (5, .int v5), (7, .int v7), (8, .int (v8 + (1 : Int32)))] [] M Q) ∧ (¬ (M 56 v8.toNatClampNeg) ≤ v9 → vp_in v7 7 ∧ (∀ M1 : Mm, M1 = (upd2 M 63 v7.toNatClampNeg v8) → BX8_began (d + 1) 41 [(0, .ref 49), (1, .int v1), (2, .int v2), (3, .int v3), (4, .int v4), (5, .int v5), (7, .int (v7 + (1 : Int32))), (8, .int v8), (9, .int (v9 + (1 : Int32)))] [] M1 Q)))) : BX8_began (d + 1) 41 [(0, .ref 49), (1, .int v1), (2, .int v2), (3, .int v3), (4, .int v4), (5, .int v5), (7, .int v7), (8, .int v8), (9, .int v9)] [] M Q := by
  refine B_iload dX8_began_41 8 rfl ?_
  refine B_aload_n dX8_began_43 0 rfl ?_
  refine B_getf (T := TX8) (N := 23) (v := .ref 56) 49 13 dX8_began_44 inX8_began_8 lkX8_began_f28 (Nat.le_of_ble_eq_true rfl) (Nat.le_of_ble_eq_true rfl) rfl rfl (by decide) rfl ?_
  refine B_iload dX8_began_47 7 rfl ?_
  obtain ⟨hi, h⟩ := h
  refine B_iald (n := 10) 56 dX8_began_49 (Nat.le_of_ble_eq_true rfl) rfl rfl hi ?_
  refine B_icmp_ge (tgt := 71) dX8_began_50 (by decide) (fun hc => ?_) (fun hc => ?_)
  · have h := h.1 hc
    refine B_iinc (lv1 := [(8, .int (v8 + (1 : Int32))), (0, .ref 49), (1, .int v1), (2, .int v2), (3, .int v3), (4, .int v4), (5, .int v5), (7, .int v7), (9, .int v9)]) (v := (v8 + (1 : Int32))) dX8_began_71 7 rfl rfl (by decide) rfl ?_
    refine B_goto (tgt := 31) dX8_began_74 (by decide) ?_
    refine B_weak [1, 2, 3, 4, 5, 6, 7, 0] rfl ?_
    exact h
  · have h := h.2 hc
    refine B_aload_n dX8_began_53 0 rfl ?_
    refine B_getf (T := TX8) (N := 23) (v := .ref 63) 49 20 dX8_began_54 inX8_began_8 lkX8_began_f49 (Nat.le_of_ble_eq_true rfl) (Nat.le_of_ble_eq_true rfl) rfl rfl (by decide) rfl ?_
    refine B_iload dX8_began_57 6 rfl ?_
    refine B_iload dX8_began_59 7 rfl ?_
    obtain ⟨hi, h⟩ := h
    refine B_iast (n := 7) 63 dX8_began_61 (Nat.le_of_ble_eq_true rfl) rfl rfl hi ?_
    have h := h _ rfl
    generalize (upd2 M 63 v7.toNatClampNeg v8) = M1 at h ⊢
    refine B_iinc (lv1 := [(7, .int (v7 + (1 : Int32))), (0, .ref 49), (1, .int v1), (2, .int v2), (3, .int v3), (4, .int v4), (5, .int v5), (8, .int v8), (9, .int v9)]) (v := (v7 + (1 : Int32))) dX8_began_62 6 rfl rfl (by decide) rfl ?_
    refine B_iinc (lv1 := [(9, .int (v9 + (1 : Int32))), (7, .int (v7 + (1 : Int32))), (0, .ref 49), (1, .int v1), (2, .int v2), (3, .int v3), (4, .int v4), (5, .int v5), (8, .int v8)]) (v := (v9 + (1 : Int32))) dX8_began_65 8 rfl rfl (by decide) rfl ?_
    refine B_goto (tgt := 41) dX8_began_68 (by decide) ?_
    refine B_weak [2, 3, 4, 5, 6, 7, 1, 8, 0] rfl ?_
    exact h
set_option maxHeartbeats 4000000 in
set_option maxRecDepth 100000 in
theorem rX8_began_90 (d : Nat) (v1 : Int32) (v2 : Int32) (v3 : Int32) (v4 : Int32) (v5 : Int32) (v8 : Int32) (v9 : Int32) (v10 : Int32) (v11 : Int32) (M : Mm) (Q : Int32 → Mm → Prop)
    (h : ((v11 = 0 → ((¬ v5 = 0 → Q v9 M) ∧ (v5 = 0 → Q v8 M))) ∧ (¬ v11 = 0 → kX8_tries d  M (fun (_r1 : Int32) (M1 : Mm) => BX8_began (d + 1) 102 [(0, .ref 49), (1, .int v1), (2, .int v2), (3, .int v3), (4, .int v4), (5, .int v5), (8, .int v8), (9, .int v9), (10, .int v10), (12, .int (0 : Int32))] [] M1 Q)))) : BX8_began (d + 1) 90 [(0, .ref 49), (1, .int v1), (2, .int v2), (3, .int v3), (4, .int v4), (5, .int v5), (8, .int v8), (9, .int v9), (10, .int v10), (11, .int v11)] [] M Q := by
  refine B_iload dX8_began_90 9 rfl ?_
  refine B_if_eq (tgt := 197) dX8_began_92 (by decide) (fun hc => ?_) (fun hc => ?_)
  · have h := h.1 hc
    refine B_iload dX8_began_197 5 rfl ?_
    refine B_if_ne (tgt := 207) dX8_began_199 (by decide) (fun hc => ?_) (fun hc => ?_)
    · have h := h.1 hc
      refine B_iload dX8_began_207 7 rfl ?_
      exact B_iret dX8_began_209 h
    · have h := h.2 hc
      refine B_iload dX8_began_202 6 rfl ?_
      refine B_goto (tgt := 209) dX8_began_204 (by decide) ?_
      exact B_iret dX8_began_209 h
  · have h := h.2 hc
    refine B_aload_n dX8_began_95 0 rfl ?_
    refine B_callV (st := []) 49 [] dX8_began_96 gX8_began_X8_tries rfl hyX8_tries (Nat.le_of_ble_eq_true rfl) (Nat.le_of_ble_eq_true rfl) TX8 23 rfl (Nat.le_of_ble_eq_true rfl) (Nat.le_of_ble_eq_true rfl) rfl (Ct.mono h (Nat.le_refl _) (fun _r1 M1 h => ?_))
    refine B_iconst (v := 0) dX8_began_99 (by decide) ?_
    refine B_istore (lv1 := [(12, .int (0 : Int32)), (0, .ref 49), (1, .int v1), (2, .int v2), (3, .int v3), (4, .int v4), (5, .int v5), (8, .int v8), (9, .int v9), (10, .int v10), (11, .int v11)]) dX8_began_100 (by decide) rfl ?_
    refine B_weak [1, 2, 3, 4, 5, 6, 7, 8, 9, 0] rfl ?_
    exact h
set_option maxHeartbeats 4000000 in
set_option maxRecDepth 100000 in
theorem rX8_began_102 (d : Nat) (v1 : Int32) (v2 : Int32) (v3 : Int32) (v4 : Int32) (v5 : Int32) (v8 : Int32) (v9 : Int32) (v10 : Int32) (v12 : Int32) (M : Mm) (Q : Int32 → Mm → Prop)
    (h : vp_in (0 : Int32) 301 ∧ (((M 50 (0 : Int32).toNatClampNeg) ≤ v12 → kX8_isSo d v1 (((40 : Int32) * v2) + v3) v4 M (fun (r1 : Int32) (M1 : Mm) => ((r1 = 0 → BX8_began (d + 1) 166 [(0, .ref 49), (1, .int v1), (2, .int v2), (3, .int v3), (4, .int v4), (5, .int v5), (8, .int v8), (9, .int v9), (10, .int v10), (12, .int r1)] [] M1 Q) ∧ (¬ r1 = 0 → ((¬ v8 = 0 → BX8_began (d + 1) 166 [(0, .ref 49), (1, .int v1), (2, .int v2), (3, .int v3), (4, .int v4), (5, .int v5), (8, .int v8), (9, .int v9), (10, .int v10), (12, .int r1)] [] M1 Q) ∧ (v8 = 0 → BX8_began (d + 1) 168 [(0, .ref 49), (1, .int v1), (2, .int v2), (3, .int v3), (4, .int v4), (5, .int v5), (8, .int v8), (10, .int v10), (12, .int r1)] [.int v10] M1 Q)))))) ∧ (¬ (M 50 (0 : Int32).toNatClampNeg) ≤ v12 → vp_in v12 7 ∧ vp_in ((20 : Int32) + v12) 301 ∧ (∀ M2 : Mm, M2 = (upd2 M 50 ((20 : Int32) + v12).toNatClampNeg (M 63 v12.toNatClampNeg)) → BX8_began (d + 1) 102 [(0, .ref 49), (1, .int v1), (2, .int v2), (3, .int v3), (4, .int v4), (5, .int v5), (8, .int v8), (9, .int v9), (10, .int v10), (12, .int (v12 + (1 : Int32)))] [] M2 Q)))) : BX8_began (d + 1) 102 [(0, .ref 49), (1, .int v1), (2, .int v2), (3, .int v3), (4, .int v4), (5, .int v5), (8, .int v8), (9, .int v9), (10, .int v10), (12, .int v12)] [] M Q := by
  refine B_iload dX8_began_102 9 rfl ?_
  refine B_aload_n dX8_began_104 0 rfl ?_
  refine B_getf (T := TX8) (N := 23) (v := .ref 50) 49 0 dX8_began_105 inX8_began_8 lkX8_began_f7 (Nat.le_of_ble_eq_true rfl) (Nat.le_of_ble_eq_true rfl) rfl rfl (by decide) rfl ?_
  refine B_iconst (v := 0) dX8_began_108 (by decide) ?_
  obtain ⟨hi, h⟩ := h
  refine B_iald (n := 301) 50 dX8_began_109 (Nat.le_of_ble_eq_true rfl) rfl rfl hi ?_
  refine B_icmp_ge (tgt := 136) dX8_began_110 (by decide) (fun hc => ?_) (fun hc => ?_)
  · have h := h.1 hc
    refine B_aload_n dX8_began_136 0 rfl ?_
    refine B_iload_n dX8_began_137 1 rfl ?_
    refine B_bipush (v := 40) dX8_began_138 (by decide) ?_
    refine B_iload_n dX8_began_140 2 rfl ?_
    refine B_imul dX8_began_141 ?_
    refine B_iload_n dX8_began_142 3 rfl ?_
    refine B_iadd dX8_began_143 ?_
    refine B_iload dX8_began_144 4 rfl ?_
    refine B_callV (st := []) 49 [.int v1, .int (((40 : Int32) * v2) + v3), .int v4] dX8_began_146 gX8_began_X8_isSo rfl hyX8_isSo (Nat.le_of_ble_eq_true rfl) (Nat.le_of_ble_eq_true rfl) TX8 23 rfl (Nat.le_of_ble_eq_true rfl) (Nat.le_of_ble_eq_true rfl) rfl (Ct.mono h (Nat.le_refl _) (fun r1 M1 h => ?_))
    refine B_istore (lv1 := [(12, .int r1), (0, .ref 49), (1, .int v1), (2, .int v2), (3, .int v3), (4, .int v4), (5, .int v5), (8, .int v8), (9, .int v9), (10, .int v10)]) dX8_began_149 (by decide) rfl ?_
    refine B_iload dX8_began_151 0 rfl ?_
    refine B_if_eq (tgt := 166) dX8_began_153 (by decide) (fun hc => ?_) (fun hc => ?_)
    · have h := h.1 hc
      refine B_weak [1, 2, 3, 4, 5, 6, 7, 8, 9, 0] rfl ?_
      exact h
    · have h := h.2 hc
      refine B_iload dX8_began_156 7 rfl ?_
      refine B_if_ne (tgt := 166) dX8_began_158 (by decide) (fun hc => ?_) (fun hc => ?_)
      · have h := h.1 hc
        refine B_weak [1, 2, 3, 4, 5, 6, 7, 8, 9, 0] rfl ?_
        exact h
      · have h := h.2 hc
        refine B_iload dX8_began_161 9 rfl ?_
        refine B_goto (tgt := 168) dX8_began_163 (by decide) ?_
        refine B_weak [1, 2, 3, 4, 5, 6, 7, 9, 0] rfl ?_
        exact h
  · have h := h.2 hc
    refine B_aload_n dX8_began_113 0 rfl ?_
    refine B_getf (T := TX8) (N := 23) (v := .ref 50) 49 0 dX8_began_114 inX8_began_8 lkX8_began_f7 (Nat.le_of_ble_eq_true rfl) (Nat.le_of_ble_eq_true rfl) rfl rfl (by decide) rfl ?_
    refine B_bipush (v := 20) dX8_began_117 (by decide) ?_
    refine B_iload dX8_began_119 9 rfl ?_
    refine B_iadd dX8_began_121 ?_
    refine B_aload_n dX8_began_122 0 rfl ?_
    refine B_getf (T := TX8) (N := 23) (v := .ref 63) 49 20 dX8_began_123 inX8_began_8 lkX8_began_f49 (Nat.le_of_ble_eq_true rfl) (Nat.le_of_ble_eq_true rfl) rfl rfl (by decide) rfl ?_
    refine B_iload dX8_began_126 9 rfl ?_
    obtain ⟨hi, h⟩ := h
    refine B_iald (n := 7) 63 dX8_began_128 (Nat.le_of_ble_eq_true rfl) rfl rfl hi ?_
    obtain ⟨hi, h⟩ := h
    refine B_iast (n := 301) 50 dX8_began_129 (Nat.le_of_ble_eq_true rfl) rfl rfl hi ?_
    have h := h _ rfl
    generalize (upd2 M 50 ((20 : Int32) + v12).toNatClampNeg (M 63 v12.toNatClampNeg)) = M2 at h ⊢
    refine B_iinc (lv1 := [(12, .int (v12 + (1 : Int32))), (0, .ref 49), (1, .int v1), (2, .int v2), (3, .int v3), (4, .int v4), (5, .int v5), (8, .int v8), (9, .int v9), (10, .int v10)]) (v := (v12 + (1 : Int32))) dX8_began_130 9 rfl rfl (by decide) rfl ?_
    refine B_goto (tgt := 102) dX8_began_133 (by decide) ?_
    refine B_weak [1, 2, 3, 4, 5, 6, 7, 8, 9, 0] rfl ?_
    exact h
set_option maxHeartbeats 4000000 in
set_option maxRecDepth 100000 in
theorem rX8_began_166 (d : Nat) (v1 : Int32) (v2 : Int32) (v3 : Int32) (v4 : Int32) (v5 : Int32) (v8 : Int32) (v9 : Int32) (v10 : Int32) (v12 : Int32) (M : Mm) (Q : Int32 → Mm → Prop)
    (h : BX8_began (d + 1) 168 [(0, .ref 49), (1, .int v1), (2, .int v2), (3, .int v3), (4, .int v4), (5, .int v5), (8, .int v8), (10, .int v10), (12, .int v12)] [.int v9] M Q) : BX8_began (d + 1) 166 [(0, .ref 49), (1, .int v1), (2, .int v2), (3, .int v3), (4, .int v4), (5, .int v5), (8, .int v8), (9, .int v9), (10, .int v10), (12, .int v12)] [] M Q := by
  refine B_iload dX8_began_166 7 rfl ?_
  refine B_weak [0, 1, 2, 3, 4, 5, 6, 8, 9] rfl ?_
  exact h
set_option maxHeartbeats 4000000 in
set_option maxRecDepth 100000 in
theorem rX8_began_168 (d : Nat) (v1 : Int32) (v2 : Int32) (v3 : Int32) (v4 : Int32) (v5 : Int32) (v8 : Int32) (v10 : Int32) (v12 : Int32) (x0 : Int32) (M : Mm) (Q : Int32 → Mm → Prop)
    (h : ((v12 = 0 → BX8_began (d + 1) 182 [(0, .ref 49), (1, .int v1), (2, .int v2), (3, .int v3), (4, .int v4), (5, .int v5), (9, .int x0), (10, .int v10)] [.int (0 : Int32), .int v8] M Q) ∧ (¬ v12 = 0 → BX8_began (d + 1) 182 [(0, .ref 49), (1, .int v1), (2, .int v2), (3, .int v3), (4, .int v4), (5, .int v5), (9, .int x0), (10, .int v10)] [.int (1 : Int32), .int v8] M Q))) : BX8_began (d + 1) 168 [(0, .ref 49), (1, .int v1), (2, .int v2), (3, .int v3), (4, .int v4), (5, .int v5), (8, .int v8), (10, .int v10), (12, .int v12)] [.int x0] M Q := by
  refine B_istore (lv1 := [(9, .int x0), (0, .ref 49), (1, .int v1), (2, .int v2), (3, .int v3), (4, .int v4), (5, .int v5), (8, .int v8), (10, .int v10), (12, .int v12)]) dX8_began_168 (by decide) rfl ?_
  refine B_iload dX8_began_170 7 rfl ?_
  refine B_iload dX8_began_172 9 rfl ?_
  refine B_if_eq (tgt := 181) dX8_began_174 (by decide) (fun hc => ?_) (fun hc => ?_)
  · have h := h.1 hc
    refine B_iconst (v := 0) dX8_began_181 (by decide) ?_
    refine B_weak [1, 2, 3, 4, 5, 6, 0, 8] rfl ?_
    exact h
  · have h := h.2 hc
    refine B_iconst (v := 1) dX8_began_177 (by decide) ?_
    refine B_goto (tgt := 182) dX8_began_178 (by decide) ?_
    refine B_weak [1, 2, 3, 4, 5, 6, 0, 8] rfl ?_
    exact h
set_option maxHeartbeats 4000000 in
set_option maxRecDepth 100000 in
theorem rX8_began_182 (d : Nat) (v1 : Int32) (v2 : Int32) (v3 : Int32) (v4 : Int32) (v5 : Int32) (v9 : Int32) (v10 : Int32) (x0 : Int32) (x1 : Int32) (M : Mm) (Q : Int32 → Mm → Prop)
    (h : kX8_nextRow d  M (fun (r1 : Int32) (M1 : Mm) => BX8_began (d + 1) 90 [(0, .ref 49), (1, .int v1), (2, .int v2), (3, .int v3), (4, .int v4), (5, .int v5), (8, .int (x1 + x0)), (9, .int v9), (10, .int (v10 + (1 : Int32))), (11, .int r1)] [] M1 Q)) : BX8_began (d + 1) 182 [(0, .ref 49), (1, .int v1), (2, .int v2), (3, .int v3), (4, .int v4), (5, .int v5), (9, .int v9), (10, .int v10)] [.int x0, .int x1] M Q := by
  refine B_iadd dX8_began_182 ?_
  refine B_istore (lv1 := [(8, .int (x1 + x0)), (0, .ref 49), (1, .int v1), (2, .int v2), (3, .int v3), (4, .int v4), (5, .int v5), (9, .int v9), (10, .int v10)]) dX8_began_183 (by decide) rfl ?_
  refine B_iinc (lv1 := [(10, .int (v10 + (1 : Int32))), (8, .int (x1 + x0)), (0, .ref 49), (1, .int v1), (2, .int v2), (3, .int v3), (4, .int v4), (5, .int v5), (9, .int v9)]) (v := (v10 + (1 : Int32))) dX8_began_185 8 rfl rfl (by decide) rfl ?_
  refine B_aload_n dX8_began_188 2 rfl ?_
  refine B_callV (st := []) 49 [] dX8_began_189 gX8_began_X8_nextRow rfl hyX8_nextRow (Nat.le_of_ble_eq_true rfl) (Nat.le_of_ble_eq_true rfl) TX8 23 rfl (Nat.le_of_ble_eq_true rfl) (Nat.le_of_ble_eq_true rfl) rfl (Ct.mono h (Nat.le_refl _) (fun r1 M1 h => ?_))
  refine B_istore (lv1 := [(11, .int r1), (10, .int (v10 + (1 : Int32))), (8, .int (x1 + x0)), (0, .ref 49), (1, .int v1), (2, .int v2), (3, .int v3), (4, .int v4), (5, .int v5), (9, .int v9)]) dX8_began_192 (by decide) rfl ?_
  refine B_goto (tgt := 90) dX8_began_194 (by decide) ?_
  refine B_weak [3, 4, 5, 6, 7, 8, 2, 9, 1, 0] rfl ?_
  exact h
set_option maxHeartbeats 4000000 in
set_option maxRecDepth 100000 in
theorem rX8_sleep (d : Nat) (v1 : Int32) (v2 : Int32) (v3 : Int32) (v4 : Int32) (M : Mm) (Q : Int32 → Mm → Prop)
    (h : kX8_isSaint d v1 M (fun (r1 : Int32) (M1 : Mm) => ((r1 = 0 → Q (-1000001 : Int32) M1) ∧ (¬ r1 = 0 → kX8_in d v2.toInt64 (0 : Int64) (9 : Int64) M1 (fun (r2 : Int32) (M2 : Mm) => ((r2 = 0 → Q (-1000001 : Int32) M2) ∧ (¬ r2 = 0 → kX8_in d v3.toInt64 (0 : Int64) (10 : Int64) M2 (fun (r3 : Int32) (M3 : Mm) => ((r3 = 0 → Q (-1000001 : Int32) M3) ∧ (¬ r3 = 0 → kX8_in d v4.toInt64 (0 : Int64) (1 : Int64) M3 (fun (r4 : Int32) (M4 : Mm) => ((¬ r4 = 0 → BX8_sleep (d + 1) 55 [(0, .ref 49), (1, .int v1), (2, .int v2), (3, .int v3), (4, .int v4), (5, .int (0 : Int32)), (6, .int (1 : Int32)), (7, .int (0 : Int32))] [] M4 Q) ∧ (r4 = 0 → Q (-1000001 : Int32) M4))))))))))))) : kX8_sleep (d + 1) v1 v2 v3 v4 M Q := by
  refine Ct.of (cc := cX8_sleep) (nL := 10) (by decide) rfl (Nat.le_of_ble_eq_true rfl) ?_
  show BX8_sleep (d + 1) 0 [(0, .ref 49), (1, .int v1), (2, .int v2), (3, .int v3), (4, .int v4)] [] M Q
  refine B_aload_n dX8_sleep_0 0 rfl ?_
  refine B_iload_n dX8_sleep_1 1 rfl ?_
  refine B_callV (st := []) 49 [.int v1] dX8_sleep_2 gX8_sleep_X8_isSaint rfl hyX8_isSaint (Nat.le_of_ble_eq_true rfl) (Nat.le_of_ble_eq_true rfl) TX8 23 rfl (Nat.le_of_ble_eq_true rfl) (Nat.le_of_ble_eq_true rfl) rfl (Ct.mono h (Nat.le_refl _) (fun r1 M1 h => ?_))
  refine B_if_eq (tgt := 43) dX8_sleep_5 (by decide) (fun hc => ?_) (fun hc => ?_)
  · have h := h.1 hc
    refine B_ldc (v := -1000001) dX8_sleep_43 lkX8_sleep_c72 ?_
    exact B_iret dX8_sleep_45 h
  · have h := h.2 hc
    refine B_iload_n dX8_sleep_8 2 rfl ?_
    refine B_i2l dX8_sleep_9 ?_
    refine B_lconst (v := 0) dX8_sleep_10 (by decide) ?_
    refine B_ldc2 (v := 9) dX8_sleep_11 lkX8_sleep_l161 ?_
    refine B_callS (st := []) [.long v2.toInt64, .long (0 : Int64), .long (9 : Int64)] dX8_sleep_14 gX8_sleep_X8_in rfl hyX8_in (Nat.le_of_ble_eq_true rfl) (Nat.le_of_ble_eq_true rfl) rfl (Ct.mono h (Nat.le_refl _) (fun r2 M2 h => ?_))
    refine B_if_eq (tgt := 43) dX8_sleep_17 (by decide) (fun hc => ?_) (fun hc => ?_)
    · have h := h.1 hc
      refine B_ldc (v := -1000001) dX8_sleep_43 lkX8_sleep_c72 ?_
      exact B_iret dX8_sleep_45 h
    · have h := h.2 hc
      refine B_iload_n dX8_sleep_20 3 rfl ?_
      refine B_i2l dX8_sleep_21 ?_
      refine B_lconst (v := 0) dX8_sleep_22 (by decide) ?_
      refine B_ldc2 (v := 10) dX8_sleep_23 lkX8_sleep_l228 ?_
      refine B_callS (st := []) [.long v3.toInt64, .long (0 : Int64), .long (10 : Int64)] dX8_sleep_26 gX8_sleep_X8_in rfl hyX8_in (Nat.le_of_ble_eq_true rfl) (Nat.le_of_ble_eq_true rfl) rfl (Ct.mono h (Nat.le_refl _) (fun r3 M3 h => ?_))
      refine B_if_eq (tgt := 43) dX8_sleep_29 (by decide) (fun hc => ?_) (fun hc => ?_)
      · have h := h.1 hc
        refine B_ldc (v := -1000001) dX8_sleep_43 lkX8_sleep_c72 ?_
        exact B_iret dX8_sleep_45 h
      · have h := h.2 hc
        refine B_iload dX8_sleep_32 4 rfl ?_
        refine B_i2l dX8_sleep_34 ?_
        refine B_lconst (v := 0) dX8_sleep_35 (by decide) ?_
        refine B_lconst (v := 1) dX8_sleep_36 (by decide) ?_
        refine B_callS (st := []) [.long v4.toInt64, .long (0 : Int64), .long (1 : Int64)] dX8_sleep_37 gX8_sleep_X8_in rfl hyX8_in (Nat.le_of_ble_eq_true rfl) (Nat.le_of_ble_eq_true rfl) rfl (Ct.mono h (Nat.le_refl _) (fun r4 M4 h => ?_))
        refine B_if_ne (tgt := 46) dX8_sleep_40 (by decide) (fun hc => ?_) (fun hc => ?_)
        · have h := h.1 hc
          refine B_iconst (v := 0) dX8_sleep_46 (by decide) ?_
          refine B_istore (lv1 := [(5, .int (0 : Int32)), (0, .ref 49), (1, .int v1), (2, .int v2), (3, .int v3), (4, .int v4)]) dX8_sleep_47 (by decide) rfl ?_
          refine B_iconst (v := 1) dX8_sleep_49 (by decide) ?_
          refine B_istore (lv1 := [(6, .int (1 : Int32)), (5, .int (0 : Int32)), (0, .ref 49), (1, .int v1), (2, .int v2), (3, .int v3), (4, .int v4)]) dX8_sleep_50 (by decide) rfl ?_
          refine B_iconst (v := 0) dX8_sleep_52 (by decide) ?_
          refine B_istore (lv1 := [(7, .int (0 : Int32)), (6, .int (1 : Int32)), (5, .int (0 : Int32)), (0, .ref 49), (1, .int v1), (2, .int v2), (3, .int v3), (4, .int v4)]) dX8_sleep_53 (by decide) rfl ?_
          refine B_weak [3, 4, 5, 6, 7, 2, 1, 0] rfl ?_
          exact h
        · have h := h.2 hc
          refine B_ldc (v := -1000001) dX8_sleep_43 lkX8_sleep_c72 ?_
          exact B_iret dX8_sleep_45 h
set_option maxHeartbeats 4000000 in
set_option maxRecDepth 100000 in
theorem rX8_sleep_55 (d : Nat) (v1 : Int32) (v2 : Int32) (v3 : Int32) (v4 : Int32) (v5 : Int32) (v6 : Int32) (v7 : Int32) (M : Mm) (Q : Int32 → Mm → Prop)
    (h : vp_in (0 : Int32) 301 ∧ (((M 50 (0 : Int32).toNatClampNeg) ≤ v7 → BX8_sleep (d + 1) 82 [(0, .ref 49), (1, .int v1), (2, .int v2), (3, .int v3), (4, .int v4), (5, .int v5), (6, .int v6), (7, .int (0 : Int32))] [] M Q) ∧ (¬ (M 50 (0 : Int32).toNatClampNeg) ≤ v7 → BX8_sleep (d + 1) 55 [(0, .ref 49), (1, .int v1), (2, .int v2), (3, .int v3), (4, .int v4), (5, .int v5), (6, .int (v6 * (10 : Int32))), (7, .int (v7 + (1 : Int32)))] [] M Q))) : BX8_sleep (d + 1) 55 [(0, .ref 49), (1, .int v1), (2, .int v2), (3, .int v3), (4, .int v4), (5, .int v5), (6, .int v6), (7, .int v7)] [] M Q := by
  refine B_iload dX8_sleep_55 7 rfl ?_
  refine B_aload_n dX8_sleep_57 0 rfl ?_
  refine B_getf (T := TX8) (N := 23) (v := .ref 50) 49 0 dX8_sleep_58 inX8_sleep_8 lkX8_sleep_f7 (Nat.le_of_ble_eq_true rfl) (Nat.le_of_ble_eq_true rfl) rfl rfl (by decide) rfl ?_
  refine B_iconst (v := 0) dX8_sleep_61 (by decide) ?_
  obtain ⟨hi, h⟩ := h
  refine B_iald (n := 301) 50 dX8_sleep_62 (Nat.le_of_ble_eq_true rfl) rfl rfl hi ?_
  refine B_icmp_ge (tgt := 79) dX8_sleep_63 (by decide) (fun hc => ?_) (fun hc => ?_)
  · have h := h.1 hc
    refine B_iconst (v := 0) dX8_sleep_79 (by decide) ?_
    refine B_istore (lv1 := [(7, .int (0 : Int32)), (0, .ref 49), (1, .int v1), (2, .int v2), (3, .int v3), (4, .int v4), (5, .int v5), (6, .int v6)]) dX8_sleep_80 (by decide) rfl ?_
    refine B_weak [1, 2, 3, 4, 5, 6, 7, 0] rfl ?_
    exact h
  · have h := h.2 hc
    refine B_iload dX8_sleep_66 6 rfl ?_
    refine B_bipush (v := 10) dX8_sleep_68 (by decide) ?_
    refine B_imul dX8_sleep_70 ?_
    refine B_istore (lv1 := [(6, .int (v6 * (10 : Int32))), (0, .ref 49), (1, .int v1), (2, .int v2), (3, .int v3), (4, .int v4), (5, .int v5), (7, .int v7)]) dX8_sleep_71 (by decide) rfl ?_
    refine B_iinc (lv1 := [(7, .int (v7 + (1 : Int32))), (6, .int (v6 * (10 : Int32))), (0, .ref 49), (1, .int v1), (2, .int v2), (3, .int v3), (4, .int v4), (5, .int v5)]) (v := (v7 + (1 : Int32))) dX8_sleep_73 7 rfl rfl (by decide) rfl ?_
    refine B_goto (tgt := 55) dX8_sleep_76 (by decide) ?_
    refine B_weak [2, 3, 4, 5, 6, 7, 1, 0] rfl ?_
    exact h
set_option maxHeartbeats 4000000 in
set_option maxRecDepth 100000 in
theorem rX8_sleep_82 (d : Nat) (v1 : Int32) (v2 : Int32) (v3 : Int32) (v4 : Int32) (v5 : Int32) (v6 : Int32) (v7 : Int32) (M : Mm) (Q : Int32 → Mm → Prop)
    (h : vp_in (0 : Int32) 301 ∧ (((ishl (1 : Int32) (M 50 (0 : Int32).toNatClampNeg)) ≤ v7 → BX8_sleep (d + 1) 191 [(4, .int v4), (5, .int v5), (6, .int v6), (7, .int v5), (8, .int v6)] [] M Q) ∧ (¬ (ishl (1 : Int32) (M 50 (0 : Int32).toNatClampNeg)) ≤ v7 → BX8_sleep (d + 1) 101 [(0, .ref 49), (1, .int v1), (2, .int v2), (3, .int v3), (4, .int v4), (5, .int v5), (6, .int v6), (7, .int v7), (8, .int (1 : Int32)), (9, .int (0 : Int32))] [] M Q))) : BX8_sleep (d + 1) 82 [(0, .ref 49), (1, .int v1), (2, .int v2), (3, .int v3), (4, .int v4), (5, .int v5), (6, .int v6), (7, .int v7)] [] M Q := by
  refine B_iload dX8_sleep_82 7 rfl ?_
  refine B_iconst (v := 1) dX8_sleep_84 (by decide) ?_
  refine B_aload_n dX8_sleep_85 0 rfl ?_
  refine B_getf (T := TX8) (N := 23) (v := .ref 50) 49 0 dX8_sleep_86 inX8_sleep_8 lkX8_sleep_f7 (Nat.le_of_ble_eq_true rfl) (Nat.le_of_ble_eq_true rfl) rfl rfl (by decide) rfl ?_
  refine B_iconst (v := 0) dX8_sleep_89 (by decide) ?_
  obtain ⟨hi, h⟩ := h
  refine B_iald (n := 301) 50 dX8_sleep_90 (Nat.le_of_ble_eq_true rfl) rfl rfl hi ?_
  refine B_ishl dX8_sleep_91 ?_
  refine B_icmp_ge (tgt := 183) dX8_sleep_92 (by decide) (fun hc => ?_) (fun hc => ?_)
  · have h := h.1 hc
    refine B_iload dX8_sleep_183 5 rfl ?_
    refine B_istore (lv1 := [(7, .int v5), (0, .ref 49), (1, .int v1), (2, .int v2), (3, .int v3), (4, .int v4), (5, .int v5), (6, .int v6)]) dX8_sleep_185 (by decide) rfl ?_
    refine B_iload dX8_sleep_187 7 rfl ?_
    refine B_istore (lv1 := [(8, .int v6), (7, .int v5), (0, .ref 49), (1, .int v1), (2, .int v2), (3, .int v3), (4, .int v4), (5, .int v5), (6, .int v6)]) dX8_sleep_189 (by decide) rfl ?_
    refine B_weak [6, 7, 8, 1, 0] rfl ?_
    exact h
  · have h := h.2 hc
    refine B_iconst (v := 1) dX8_sleep_95 (by decide) ?_
    refine B_istore (lv1 := [(8, .int (1 : Int32)), (0, .ref 49), (1, .int v1), (2, .int v2), (3, .int v3), (4, .int v4), (5, .int v5), (6, .int v6), (7, .int v7)]) dX8_sleep_96 (by decide) rfl ?_
    refine B_iconst (v := 0) dX8_sleep_98 (by decide) ?_
    refine B_istore (lv1 := [(9, .int (0 : Int32)), (8, .int (1 : Int32)), (0, .ref 49), (1, .int v1), (2, .int v2), (3, .int v3), (4, .int v4), (5, .int v5), (6, .int v6), (7, .int v7)]) dX8_sleep_99 (by decide) rfl ?_
    refine B_weak [2, 3, 4, 5, 6, 7, 8, 9, 1, 0] rfl ?_
    exact h
set_option maxHeartbeats 4000000 in
set_option maxRecDepth 100000 in
theorem rX8_sleep_101 (d : Nat) (v1 : Int32) (v2 : Int32) (v3 : Int32) (v4 : Int32) (v5 : Int32) (v6 : Int32) (v7 : Int32) (v8 : Int32) (v9 : Int32) (M : Mm) (Q : Int32 → Mm → Prop)
    (h : vp_in (0 : Int32) 301 ∧ (((M 50 (0 : Int32).toNatClampNeg) ≤ v9 → kX8_tries d  M (fun (_r1 : Int32) (M1 : Mm) => kX8_stepsBy d (17 : Int32) v7 M1 (fun (_r2 : Int32) (M2 : Mm) => vp_in ((20 : Int32) + v1) 301 ∧ ((¬ (M2 50 ((20 : Int32) + v1).toNatClampNeg) = v2 → BX8_sleep (d + 1) 82 [(0, .ref 49), (1, .int v1), (2, .int v2), (3, .int v3), (4, .int v4), (5, .int (v5 + (0 : Int32))), (6, .int v6), (7, .int (v7 + (1 : Int32)))] [] M2 Q) ∧ ((M2 50 ((20 : Int32) + v1).toNatClampNeg) = v2 → BX8_sleep (d + 1) 82 [(0, .ref 49), (1, .int v1), (2, .int v2), (3, .int v3), (4, .int v4), (5, .int (v5 + v8)), (6, .int v6), (7, .int (v7 + (1 : Int32)))] [] M2 Q))))) ∧ (¬ (M 50 (0 : Int32).toNatClampNeg) ≤ v9 → kX8_has d v7 v9 M (fun (r3 : Int32) (M3 : Mm) => ((r3 = 0 → BX8_sleep (d + 1) 101 [(0, .ref 49), (1, .int v1), (2, .int v2), (3, .int v3), (4, .int v4), (5, .int v5), (6, .int v6), (7, .int v7), (8, .int (v8 * ((10 : Int32) - v3))), (9, .int (v9 + (1 : Int32)))] [] M3 Q) ∧ (¬ r3 = 0 → BX8_sleep (d + 1) 101 [(0, .ref 49), (1, .int v1), (2, .int v2), (3, .int v3), (4, .int v4), (5, .int v5), (6, .int v6), (7, .int v7), (8, .int (v8 * v3)), (9, .int (v9 + (1 : Int32)))] [] M3 Q)))))) : BX8_sleep (d + 1) 101 [(0, .ref 49), (1, .int v1), (2, .int v2), (3, .int v3), (4, .int v4), (5, .int v5), (6, .int v6), (7, .int v7), (8, .int v8), (9, .int v9)] [] M Q := by
  refine B_iload dX8_sleep_101 9 rfl ?_
  refine B_aload_n dX8_sleep_103 0 rfl ?_
  refine B_getf (T := TX8) (N := 23) (v := .ref 50) 49 0 dX8_sleep_104 inX8_sleep_8 lkX8_sleep_f7 (Nat.le_of_ble_eq_true rfl) (Nat.le_of_ble_eq_true rfl) rfl rfl (by decide) rfl ?_
  refine B_iconst (v := 0) dX8_sleep_107 (by decide) ?_
  obtain ⟨hi, h⟩ := h
  refine B_iald (n := 301) 50 dX8_sleep_108 (Nat.le_of_ble_eq_true rfl) rfl rfl hi ?_
  refine B_icmp_ge (tgt := 141) dX8_sleep_109 (by decide) (fun hc => ?_) (fun hc => ?_)
  · have h := h.1 hc
    refine B_aload_n dX8_sleep_141 0 rfl ?_
    refine B_callV (st := []) 49 [] dX8_sleep_142 gX8_sleep_X8_tries rfl hyX8_tries (Nat.le_of_ble_eq_true rfl) (Nat.le_of_ble_eq_true rfl) TX8 23 rfl (Nat.le_of_ble_eq_true rfl) (Nat.le_of_ble_eq_true rfl) rfl (Ct.mono h (Nat.le_refl _) (fun _r1 M1 h => ?_))
    refine B_aload_n dX8_sleep_145 0 rfl ?_
    refine B_bipush (v := 17) dX8_sleep_146 (by decide) ?_
    refine B_iload dX8_sleep_148 7 rfl ?_
    refine B_callV (st := []) 49 [.int (17 : Int32), .int v7] dX8_sleep_150 gX8_sleep_X8_stepsBy rfl hyX8_stepsBy (Nat.le_of_ble_eq_true rfl) (Nat.le_of_ble_eq_true rfl) TX8 23 rfl (Nat.le_of_ble_eq_true rfl) (Nat.le_of_ble_eq_true rfl) rfl (Ct.mono h (Nat.le_refl _) (fun _r2 M2 h => ?_))
    refine B_iload dX8_sleep_153 5 rfl ?_
    refine B_aload_n dX8_sleep_155 0 rfl ?_
    refine B_getf (T := TX8) (N := 23) (v := .ref 50) 49 0 dX8_sleep_156 inX8_sleep_8 lkX8_sleep_f7 (Nat.le_of_ble_eq_true rfl) (Nat.le_of_ble_eq_true rfl) rfl rfl (by decide) rfl ?_
    refine B_bipush (v := 20) dX8_sleep_159 (by decide) ?_
    refine B_iload_n dX8_sleep_161 1 rfl ?_
    refine B_iadd dX8_sleep_162 ?_
    obtain ⟨hi, h⟩ := h
    refine B_iald (n := 301) 50 dX8_sleep_163 (Nat.le_of_ble_eq_true rfl) rfl rfl hi ?_
    refine B_iload_n dX8_sleep_164 2 rfl ?_
    refine B_icmp_ne (tgt := 173) dX8_sleep_165 (by decide) (fun hc => ?_) (fun hc => ?_)
    · have h := h.1 hc
      refine B_iconst (v := 0) dX8_sleep_173 (by decide) ?_
      refine B_iadd dX8_sleep_174 ?_
      refine B_istore (lv1 := [(5, .int (v5 + (0 : Int32))), (0, .ref 49), (1, .int v1), (2, .int v2), (3, .int v3), (4, .int v4), (6, .int v6), (7, .int v7), (8, .int v8), (9, .int v9)]) dX8_sleep_175 (by decide) rfl ?_
      refine B_iinc (lv1 := [(7, .int (v7 + (1 : Int32))), (5, .int (v5 + (0 : Int32))), (0, .ref 49), (1, .int v1), (2, .int v2), (3, .int v3), (4, .int v4), (6, .int v6), (8, .int v8), (9, .int v9)]) (v := (v7 + (1 : Int32))) dX8_sleep_177 7 rfl rfl (by decide) rfl ?_
      refine B_goto (tgt := 82) dX8_sleep_180 (by decide) ?_
      refine B_weak [2, 3, 4, 5, 6, 1, 7, 0] rfl ?_
      exact h
    · have h := h.2 hc
      refine B_iload dX8_sleep_168 8 rfl ?_
      refine B_goto (tgt := 174) dX8_sleep_170 (by decide) ?_
      refine B_iadd dX8_sleep_174 ?_
      refine B_istore (lv1 := [(5, .int (v5 + v8)), (0, .ref 49), (1, .int v1), (2, .int v2), (3, .int v3), (4, .int v4), (6, .int v6), (7, .int v7), (8, .int v8), (9, .int v9)]) dX8_sleep_175 (by decide) rfl ?_
      refine B_iinc (lv1 := [(7, .int (v7 + (1 : Int32))), (5, .int (v5 + v8)), (0, .ref 49), (1, .int v1), (2, .int v2), (3, .int v3), (4, .int v4), (6, .int v6), (8, .int v8), (9, .int v9)]) (v := (v7 + (1 : Int32))) dX8_sleep_177 7 rfl rfl (by decide) rfl ?_
      refine B_goto (tgt := 82) dX8_sleep_180 (by decide) ?_
      refine B_weak [2, 3, 4, 5, 6, 1, 7, 0] rfl ?_
      exact h
  · have h := h.2 hc
    refine B_iload dX8_sleep_112 8 rfl ?_
    refine B_iload dX8_sleep_114 7 rfl ?_
    refine B_iload dX8_sleep_116 9 rfl ?_
    refine B_callS (st := [.int v8]) [.int v7, .int v9] dX8_sleep_118 gX8_sleep_X8_has rfl hyX8_has (Nat.le_of_ble_eq_true rfl) (Nat.le_of_ble_eq_true rfl) rfl (Ct.mono h (Nat.le_refl _) (fun r3 M3 h => ?_))
    refine B_if_eq (tgt := 128) dX8_sleep_121 (by decide) (fun hc => ?_) (fun hc => ?_)
    · have h := h.1 hc
      refine B_bipush (v := 10) dX8_sleep_128 (by decide) ?_
      refine B_iload_n dX8_sleep_130 3 rfl ?_
      refine B_isub dX8_sleep_131 ?_
      refine B_imul dX8_sleep_132 ?_
      refine B_istore (lv1 := [(8, .int (v8 * ((10 : Int32) - v3))), (0, .ref 49), (1, .int v1), (2, .int v2), (3, .int v3), (4, .int v4), (5, .int v5), (6, .int v6), (7, .int v7), (9, .int v9)]) dX8_sleep_133 (by decide) rfl ?_
      refine B_iinc (lv1 := [(9, .int (v9 + (1 : Int32))), (8, .int (v8 * ((10 : Int32) - v3))), (0, .ref 49), (1, .int v1), (2, .int v2), (3, .int v3), (4, .int v4), (5, .int v5), (6, .int v6), (7, .int v7)]) (v := (v9 + (1 : Int32))) dX8_sleep_135 9 rfl rfl (by decide) rfl ?_
      refine B_goto (tgt := 101) dX8_sleep_138 (by decide) ?_
      refine B_weak [2, 3, 4, 5, 6, 7, 8, 9, 1, 0] rfl ?_
      exact h
    · have h := h.2 hc
      refine B_iload_n dX8_sleep_124 3 rfl ?_
      refine B_goto (tgt := 132) dX8_sleep_125 (by decide) ?_
      refine B_imul dX8_sleep_132 ?_
      refine B_istore (lv1 := [(8, .int (v8 * v3)), (0, .ref 49), (1, .int v1), (2, .int v2), (3, .int v3), (4, .int v4), (5, .int v5), (6, .int v6), (7, .int v7), (9, .int v9)]) dX8_sleep_133 (by decide) rfl ?_
      refine B_iinc (lv1 := [(9, .int (v9 + (1 : Int32))), (8, .int (v8 * v3)), (0, .ref 49), (1, .int v1), (2, .int v2), (3, .int v3), (4, .int v4), (5, .int v5), (6, .int v6), (7, .int v7)]) (v := (v9 + (1 : Int32))) dX8_sleep_135 9 rfl rfl (by decide) rfl ?_
      refine B_goto (tgt := 101) dX8_sleep_138 (by decide) ?_
      refine B_weak [2, 3, 4, 5, 6, 7, 8, 9, 1, 0] rfl ?_
      exact h
set_option maxHeartbeats 4000000 in
set_option maxRecDepth 100000 in
theorem rX8_sleep_191 (d : Nat) (v4 : Int32) (v5 : Int32) (v6 : Int32) (v7 : Int32) (v8 : Int32) (M : Mm) (Q : Int32 → Mm → Prop)
    (h : ((v8 = 0 → ((¬ v4 = 0 → ¬ v7 = 0 ∧ Q (v6 / v7) M) ∧ (v4 = 0 → ¬ v7 = 0 ∧ Q (v5 / v7) M))) ∧ (¬ v8 = 0 → ¬ v8 = 0 ∧ BX8_sleep (d + 1) 191 [(4, .int v4), (5, .int v5), (6, .int v6), (7, .int v8), (8, .int (irem v7 v8))] [] M Q))) : BX8_sleep (d + 1) 191 [(4, .int v4), (5, .int v5), (6, .int v6), (7, .int v7), (8, .int v8)] [] M Q := by
  refine B_iload dX8_sleep_191 4 rfl ?_
  refine B_if_eq (tgt := 214) dX8_sleep_193 (by decide) (fun hc => ?_) (fun hc => ?_)
  · have h := h.1 hc
    refine B_iload dX8_sleep_214 0 rfl ?_
    refine B_if_ne (tgt := 227) dX8_sleep_216 (by decide) (fun hc => ?_) (fun hc => ?_)
    · have h := h.1 hc
      refine B_iload dX8_sleep_227 2 rfl ?_
      refine B_iload dX8_sleep_229 3 rfl ?_
      obtain ⟨hz, h⟩ := h
      refine B_idiv dX8_sleep_231 hz ?_
      exact B_iret dX8_sleep_232 h
    · have h := h.2 hc
      refine B_iload dX8_sleep_219 1 rfl ?_
      refine B_iload dX8_sleep_221 3 rfl ?_
      obtain ⟨hz, h⟩ := h
      refine B_idiv dX8_sleep_223 hz ?_
      refine B_goto (tgt := 232) dX8_sleep_224 (by decide) ?_
      exact B_iret dX8_sleep_232 h
  · have h := h.2 hc
    refine B_iload dX8_sleep_196 3 rfl ?_
    refine B_iload dX8_sleep_198 4 rfl ?_
    obtain ⟨hz, h⟩ := h
    refine B_irem dX8_sleep_200 hz ?_
    refine B_istore (lv1 := [(9, .int (irem v7 v8)), (4, .int v4), (5, .int v5), (6, .int v6), (7, .int v7), (8, .int v8)]) dX8_sleep_201 (by decide) rfl ?_
    refine B_iload dX8_sleep_203 5 rfl ?_
    refine B_istore (lv1 := [(7, .int v8), (9, .int (irem v7 v8)), (4, .int v4), (5, .int v5), (6, .int v6), (8, .int v8)]) dX8_sleep_205 (by decide) rfl ?_
    refine B_iload dX8_sleep_207 1 rfl ?_
    refine B_istore (lv1 := [(8, .int (irem v7 v8)), (7, .int v8), (9, .int (irem v7 v8)), (4, .int v4), (5, .int v5), (6, .int v6)]) dX8_sleep_209 (by decide) rfl ?_
    refine B_goto (tgt := 191) dX8_sleep_211 (by decide) ?_
    refine B_weak [3, 4, 5, 1, 0] rfl ?_
    exact h
set_option maxHeartbeats 4000000 in
set_option maxRecDepth 100000 in
theorem rX8_figures (d : Nat) (v1 : Int32) (M : Mm) (Q : Int32 → Mm → Prop)
    (h : BX8_figures d 4 [(0, .ref 49), (1, .int v1), (2, .int (0 : Int32)), (3, .int (0 : Int32))] [] M Q) : kX8_figures d v1 M Q := by
  refine Ct.of (cc := cX8_figures) (nL := 4) (by decide) rfl (Nat.le_of_ble_eq_true rfl) ?_
  show BX8_figures d 0 [(0, .ref 49), (1, .int v1)] [] M Q
  refine B_iconst (v := 0) dX8_figures_0 (by decide) ?_
  refine B_istore_n (lv1 := [(2, .int (0 : Int32)), (0, .ref 49), (1, .int v1)]) dX8_figures_1 (by decide) rfl ?_
  refine B_iconst (v := 0) dX8_figures_2 (by decide) ?_
  refine B_istore_n (lv1 := [(3, .int (0 : Int32)), (2, .int (0 : Int32)), (0, .ref 49), (1, .int v1)]) dX8_figures_3 (by decide) rfl ?_
  refine B_weak [2, 3, 1, 0] rfl ?_
  exact h
set_option maxHeartbeats 4000000 in
set_option maxRecDepth 100000 in
theorem rX8_figures_4 (d : Nat) (v1 : Int32) (v2 : Int32) (v3 : Int32) (M : Mm) (Q : Int32 → Mm → Prop)
    (h : vp_in (v1 + (0 : Int32)) 301 ∧ (((M 50 (v1 + (0 : Int32)).toNatClampNeg) ≤ v3 → Q v2 M) ∧ (¬ (M 50 (v1 + (0 : Int32)).toNatClampNeg) ≤ v3 → vp_in ((v1 + (3 : Int32)) + v3) 301 ∧ BX8_figures d 4 [(0, .ref 49), (1, .int v1), (2, .int (((10 : Int32) * v2) + (M 50 ((v1 + (3 : Int32)) + v3).toNatClampNeg))), (3, .int (v3 + (1 : Int32)))] [] M Q))) : BX8_figures d 4 [(0, .ref 49), (1, .int v1), (2, .int v2), (3, .int v3)] [] M Q := by
  refine B_iload_n dX8_figures_4 3 rfl ?_
  refine B_aload_n dX8_figures_5 0 rfl ?_
  refine B_getf (T := TX8) (N := 23) (v := .ref 50) 49 0 dX8_figures_6 inX8_figures_8 lkX8_figures_f7 (Nat.le_of_ble_eq_true rfl) (Nat.le_of_ble_eq_true rfl) rfl rfl (by decide) rfl ?_
  refine B_iload_n dX8_figures_9 1 rfl ?_
  refine B_iconst (v := 0) dX8_figures_10 (by decide) ?_
  refine B_iadd dX8_figures_11 ?_
  obtain ⟨hi, h⟩ := h
  refine B_iald (n := 301) 50 dX8_figures_12 (Nat.le_of_ble_eq_true rfl) rfl rfl hi ?_
  refine B_icmp_ge (tgt := 38) dX8_figures_13 (by decide) (fun hc => ?_) (fun hc => ?_)
  · have h := h.1 hc
    refine B_iload_n dX8_figures_38 2 rfl ?_
    exact B_iret dX8_figures_39 h
  · have h := h.2 hc
    refine B_bipush (v := 10) dX8_figures_16 (by decide) ?_
    refine B_iload_n dX8_figures_18 2 rfl ?_
    refine B_imul dX8_figures_19 ?_
    refine B_aload_n dX8_figures_20 0 rfl ?_
    refine B_getf (T := TX8) (N := 23) (v := .ref 50) 49 0 dX8_figures_21 inX8_figures_8 lkX8_figures_f7 (Nat.le_of_ble_eq_true rfl) (Nat.le_of_ble_eq_true rfl) rfl rfl (by decide) rfl ?_
    refine B_iload_n dX8_figures_24 1 rfl ?_
    refine B_iconst (v := 3) dX8_figures_25 (by decide) ?_
    refine B_iadd dX8_figures_26 ?_
    refine B_iload_n dX8_figures_27 3 rfl ?_
    refine B_iadd dX8_figures_28 ?_
    obtain ⟨hi, h⟩ := h
    refine B_iald (n := 301) 50 dX8_figures_29 (Nat.le_of_ble_eq_true rfl) rfl rfl hi ?_
    refine B_iadd dX8_figures_30 ?_
    refine B_istore_n (lv1 := [(2, .int (((10 : Int32) * v2) + (M 50 ((v1 + (3 : Int32)) + v3).toNatClampNeg))), (0, .ref 49), (1, .int v1), (3, .int v3)]) dX8_figures_31 (by decide) rfl ?_
    refine B_iinc (lv1 := [(3, .int (v3 + (1 : Int32))), (2, .int (((10 : Int32) * v2) + (M 50 ((v1 + (3 : Int32)) + v3).toNatClampNeg))), (0, .ref 49), (1, .int v1)]) (v := (v3 + (1 : Int32))) dX8_figures_32 3 rfl rfl (by decide) rfl ?_
    refine B_goto (tgt := 4) dX8_figures_35 (by decide) ?_
    refine B_weak [2, 3, 1, 0] rfl ?_
    exact h
set_option maxHeartbeats 4000000 in
set_option maxRecDepth 100000 in
theorem rX8_drawn (d : Nat) (v1 : Int32) (v2 : Int32) (v3 : Int32) (M : Mm) (Q : Int32 → Mm → Prop)
    (h : vp_in (0 : Int32) 301 ∧ ((¬ (M 50 (0 : Int32).toNatClampNeg) = 0 → kX8_in d v1.toInt64 (0 : Int64) (60 : Int64) M (fun (r1 : Int32) (M1 : Mm) => ((r1 = 0 → Q (-1000001 : Int32) M1) ∧ (¬ r1 = 0 → kX8_in d v2.toInt64 (1 : Int64) (999999 : Int64) M1 (fun (r2 : Int32) (M2 : Mm) => ((r2 = 0 → Q (-1000001 : Int32) M2) ∧ (¬ r2 = 0 → kX8_in d v3.toInt64 (0 : Int64) (1 : Int64) M2 (fun (r3 : Int32) (M3 : Mm) => ((¬ r3 = 0 → kX8_tries d  M3 (fun (_r4 : Int32) (M4 : Mm) => BX8_drawn (d + 1) 63 [(0, .ref 49), (1, .int v1), (3, .int v3), (4, .long v2.toInt64), (6, .int (0 : Int32)), (7, .int (0 : Int32))] [] M4 Q)) ∧ (r3 = 0 → Q (-1000001 : Int32) M3)))))))))) ∧ ((M 50 (0 : Int32).toNatClampNeg) = 0 → Q (-1000002 : Int32) M))) : kX8_drawn (d + 1) v1 v2 v3 M Q := by
  refine Ct.of (cc := cX8_drawn) (nL := 11) (by decide) rfl (Nat.le_of_ble_eq_true rfl) ?_
  show BX8_drawn (d + 1) 0 [(0, .ref 49), (1, .int v1), (2, .int v2), (3, .int v3)] [] M Q
  refine B_aload_n dX8_drawn_0 0 rfl ?_
  refine B_getf (T := TX8) (N := 23) (v := .ref 50) 49 0 dX8_drawn_1 inX8_drawn_8 lkX8_drawn_f7 (Nat.le_of_ble_eq_true rfl) (Nat.le_of_ble_eq_true rfl) rfl rfl (by decide) rfl ?_
  refine B_iconst (v := 0) dX8_drawn_4 (by decide) ?_
  obtain ⟨hi, h⟩ := h
  refine B_iald (n := 301) 50 dX8_drawn_5 (Nat.le_of_ble_eq_true rfl) rfl rfl hi ?_
  refine B_if_ne (tgt := 12) dX8_drawn_6 (by decide) (fun hc => ?_) (fun hc => ?_)
  · have h := h.1 hc
    refine B_iload_n dX8_drawn_12 1 rfl ?_
    refine B_i2l dX8_drawn_13 ?_
    refine B_lconst (v := 0) dX8_drawn_14 (by decide) ?_
    refine B_ldc2 (v := 60) dX8_drawn_15 lkX8_drawn_l168 ?_
    refine B_callS (st := []) [.long v1.toInt64, .long (0 : Int64), .long (60 : Int64)] dX8_drawn_18 gX8_drawn_X8_in rfl hyX8_in (Nat.le_of_ble_eq_true rfl) (Nat.le_of_ble_eq_true rfl) rfl (Ct.mono h (Nat.le_refl _) (fun r1 M1 h => ?_))
    refine B_if_eq (tgt := 46) dX8_drawn_21 (by decide) (fun hc => ?_) (fun hc => ?_)
    · have h := h.1 hc
      refine B_ldc (v := -1000001) dX8_drawn_46 lkX8_drawn_c72 ?_
      exact B_iret dX8_drawn_48 h
    · have h := h.2 hc
      refine B_iload_n dX8_drawn_24 2 rfl ?_
      refine B_i2l dX8_drawn_25 ?_
      refine B_lconst (v := 1) dX8_drawn_26 (by decide) ?_
      refine B_ldc2 (v := 999999) dX8_drawn_27 lkX8_drawn_l230 ?_
      refine B_callS (st := []) [.long v2.toInt64, .long (1 : Int64), .long (999999 : Int64)] dX8_drawn_30 gX8_drawn_X8_in rfl hyX8_in (Nat.le_of_ble_eq_true rfl) (Nat.le_of_ble_eq_true rfl) rfl (Ct.mono h (Nat.le_refl _) (fun r2 M2 h => ?_))
      refine B_if_eq (tgt := 46) dX8_drawn_33 (by decide) (fun hc => ?_) (fun hc => ?_)
      · have h := h.1 hc
        refine B_ldc (v := -1000001) dX8_drawn_46 lkX8_drawn_c72 ?_
        exact B_iret dX8_drawn_48 h
      · have h := h.2 hc
        refine B_iload_n dX8_drawn_36 3 rfl ?_
        refine B_i2l dX8_drawn_37 ?_
        refine B_lconst (v := 0) dX8_drawn_38 (by decide) ?_
        refine B_lconst (v := 1) dX8_drawn_39 (by decide) ?_
        refine B_callS (st := []) [.long v3.toInt64, .long (0 : Int64), .long (1 : Int64)] dX8_drawn_40 gX8_drawn_X8_in rfl hyX8_in (Nat.le_of_ble_eq_true rfl) (Nat.le_of_ble_eq_true rfl) rfl (Ct.mono h (Nat.le_refl _) (fun r3 M3 h => ?_))
        refine B_if_ne (tgt := 49) dX8_drawn_43 (by decide) (fun hc => ?_) (fun hc => ?_)
        · have h := h.1 hc
          refine B_aload_n dX8_drawn_49 0 rfl ?_
          refine B_callV (st := []) 49 [] dX8_drawn_50 gX8_drawn_X8_tries rfl hyX8_tries (Nat.le_of_ble_eq_true rfl) (Nat.le_of_ble_eq_true rfl) TX8 23 rfl (Nat.le_of_ble_eq_true rfl) (Nat.le_of_ble_eq_true rfl) rfl (Ct.mono h (Nat.le_refl _) (fun _r4 M4 h => ?_))
          refine B_iload_n dX8_drawn_53 2 rfl ?_
          refine B_i2l dX8_drawn_54 ?_
          refine B_lstore (lv1 := [(4, .long v2.toInt64), (0, .ref 49), (1, .int v1), (2, .int v2), (3, .int v3)]) dX8_drawn_55 (by decide) rfl ?_
          refine B_iconst (v := 0) dX8_drawn_57 (by decide) ?_
          refine B_istore (lv1 := [(6, .int (0 : Int32)), (4, .long v2.toInt64), (0, .ref 49), (1, .int v1), (2, .int v2), (3, .int v3)]) dX8_drawn_58 (by decide) rfl ?_
          refine B_iconst (v := 0) dX8_drawn_60 (by decide) ?_
          refine B_istore (lv1 := [(7, .int (0 : Int32)), (6, .int (0 : Int32)), (4, .long v2.toInt64), (0, .ref 49), (1, .int v1), (2, .int v2), (3, .int v3)]) dX8_drawn_61 (by decide) rfl ?_
          refine B_weak [3, 4, 6, 2, 1, 0] rfl ?_
          exact h
        · have h := h.2 hc
          refine B_ldc (v := -1000001) dX8_drawn_46 lkX8_drawn_c72 ?_
          exact B_iret dX8_drawn_48 h
  · have h := h.2 hc
    refine B_ldc (v := -1000002) dX8_drawn_9 lkX8_drawn_c149 ?_
    exact B_iret dX8_drawn_11 h
set_option maxHeartbeats 4000000 in
set_option maxRecDepth 100000 in
theorem rX8_drawn_63 (d : Nat) (v1 : Int32) (v3 : Int32) (v4 : Int64) (v6 : Int32) (v7 : Int32) (M : Mm) (Q : Int32 → Mm → Prop)
    (h : ((v1 ≤ v7 → ((¬ v3 = 0 → Q v6 M) ∧ (v3 = 0 → kX8_figures d (17 : Int32) M (fun (r1 : Int32) (M1 : Mm) => Q r1 M1)))) ∧ (¬ v1 ≤ v7 → vp_in (0 : Int32) 301 ∧ ¬ (M 50 (0 : Int32).toNatClampNeg).toInt64 = 0 ∧ vp_in (0 : Int32) 301 ∧ ((¬ (lrem (lrem (v4 * (16807 : Int64)) (2147483647 : Int64)) ((M 50 (0 : Int32).toNatClampNeg).toInt64)).toInt32 = ((M 50 (0 : Int32).toNatClampNeg) - (1 : Int32)) → BX8_drawn (d + 1) 120 [(0, .ref 49), (1, .int v1), (3, .int v3), (4, .long (lrem (v4 * (16807 : Int64)) (2147483647 : Int64))), (6, .int v6), (7, .int v7)] [.int ((lrem (lrem (v4 * (16807 : Int64)) (2147483647 : Int64)) ((M 50 (0 : Int32).toNatClampNeg).toInt64)).toInt32 + (1 : Int32)), .int (lrem (lrem (v4 * (16807 : Int64)) (2147483647 : Int64)) ((M 50 (0 : Int32).toNatClampNeg).toInt64)).toInt32, .int (17 : Int32), .ref 49] M Q) ∧ ((lrem (lrem (v4 * (16807 : Int64)) (2147483647 : Int64)) ((M 50 (0 : Int32).toNatClampNeg).toInt64)).toInt32 = ((M 50 (0 : Int32).toNatClampNeg) - (1 : Int32)) → BX8_drawn (d + 1) 120 [(0, .ref 49), (1, .int v1), (3, .int v3), (4, .long (lrem (v4 * (16807 : Int64)) (2147483647 : Int64))), (6, .int v6), (7, .int v7)] [.int (0 : Int32), .int (lrem (lrem (v4 * (16807 : Int64)) (2147483647 : Int64)) ((M 50 (0 : Int32).toNatClampNeg).toInt64)).toInt32, .int (17 : Int32), .ref 49] M Q))))) : BX8_drawn (d + 1) 63 [(0, .ref 49), (1, .int v1), (3, .int v3), (4, .long v4), (6, .int v6), (7, .int v7)] [] M Q := by
  refine B_iload dX8_drawn_63 5 rfl ?_
  refine B_iload_n dX8_drawn_65 1 rfl ?_
  refine B_icmp_ge (tgt := 213) dX8_drawn_66 (by decide) (fun hc => ?_) (fun hc => ?_)
  · have h := h.1 hc
    refine B_iload_n dX8_drawn_213 2 rfl ?_
    refine B_if_ne (tgt := 226) dX8_drawn_214 (by decide) (fun hc => ?_) (fun hc => ?_)
    · have h := h.1 hc
      refine B_iload dX8_drawn_226 4 rfl ?_
      exact B_iret dX8_drawn_228 h
    · have h := h.2 hc
      refine B_aload_n dX8_drawn_217 0 rfl ?_
      refine B_bipush (v := 17) dX8_drawn_218 (by decide) ?_
      refine B_callV (st := []) 49 [.int (17 : Int32)] dX8_drawn_220 gX8_drawn_X8_figures rfl hyX8_figures (Nat.le_of_ble_eq_true rfl) (Nat.le_of_ble_eq_true rfl) TX8 23 rfl (Nat.le_of_ble_eq_true rfl) (Nat.le_of_ble_eq_true rfl) rfl (Ct.mono h (Nat.le_refl _) (fun r1 M1 h => ?_))
      refine B_goto (tgt := 228) dX8_drawn_223 (by decide) ?_
      exact B_iret dX8_drawn_228 h
  · have h := h.2 hc
    refine B_lload dX8_drawn_69 3 rfl ?_
    refine B_ldc2 (v := 16807) dX8_drawn_71 lkX8_drawn_l232 ?_
    refine B_lmul dX8_drawn_74 ?_
    refine B_ldc2 (v := 2147483647) dX8_drawn_75 lkX8_drawn_l234 ?_
    refine B_lrem dX8_drawn_78 (by decide) ?_
    refine B_lstore (lv1 := [(4, .long (lrem (v4 * (16807 : Int64)) (2147483647 : Int64))), (0, .ref 49), (1, .int v1), (3, .int v3), (6, .int v6), (7, .int v7)]) dX8_drawn_79 (by decide) rfl ?_
    refine B_lload dX8_drawn_81 0 rfl ?_
    refine B_aload_n dX8_drawn_83 1 rfl ?_
    refine B_getf (T := TX8) (N := 23) (v := .ref 50) 49 0 dX8_drawn_84 inX8_drawn_8 lkX8_drawn_f7 (Nat.le_of_ble_eq_true rfl) (Nat.le_of_ble_eq_true rfl) rfl rfl (by decide) rfl ?_
    refine B_iconst (v := 0) dX8_drawn_87 (by decide) ?_
    obtain ⟨hi, h⟩ := h
    refine B_iald (n := 301) 50 dX8_drawn_88 (Nat.le_of_ble_eq_true rfl) rfl rfl hi ?_
    refine B_i2l dX8_drawn_89 ?_
    obtain ⟨hz, h⟩ := h
    refine B_lrem dX8_drawn_90 hz ?_
    refine B_l2i dX8_drawn_91 ?_
    refine B_istore (lv1 := [(8, .int (lrem (lrem (v4 * (16807 : Int64)) (2147483647 : Int64)) ((M 50 (0 : Int32).toNatClampNeg).toInt64)).toInt32), (4, .long (lrem (v4 * (16807 : Int64)) (2147483647 : Int64))), (0, .ref 49), (1, .int v1), (3, .int v3), (6, .int v6), (7, .int v7)]) dX8_drawn_92 (by decide) rfl ?_
    refine B_aload_n dX8_drawn_94 2 rfl ?_
    refine B_bipush (v := 17) dX8_drawn_95 (by decide) ?_
    refine B_iload dX8_drawn_97 0 rfl ?_
    refine B_iload dX8_drawn_99 0 rfl ?_
    refine B_aload_n dX8_drawn_101 2 rfl ?_
    refine B_getf (T := TX8) (N := 23) (v := .ref 50) 49 0 dX8_drawn_102 inX8_drawn_8 lkX8_drawn_f7 (Nat.le_of_ble_eq_true rfl) (Nat.le_of_ble_eq_true rfl) rfl rfl (by decide) rfl ?_
    refine B_iconst (v := 0) dX8_drawn_105 (by decide) ?_
    obtain ⟨hi, h⟩ := h
    refine B_iald (n := 301) 50 dX8_drawn_106 (Nat.le_of_ble_eq_true rfl) rfl rfl hi ?_
    refine B_iconst (v := 1) dX8_drawn_107 (by decide) ?_
    refine B_isub dX8_drawn_108 ?_
    refine B_icmp_ne (tgt := 116) dX8_drawn_109 (by decide) (fun hc => ?_) (fun hc => ?_)
    · have h := h.1 hc
      refine B_iload dX8_drawn_116 0 rfl ?_
      refine B_iconst (v := 1) dX8_drawn_118 (by decide) ?_
      refine B_iadd dX8_drawn_119 ?_
      refine B_weak [2, 3, 4, 1, 5, 6] rfl ?_
      exact h
    · have h := h.2 hc
      refine B_iconst (v := 0) dX8_drawn_112 (by decide) ?_
      refine B_goto (tgt := 120) dX8_drawn_113 (by decide) ?_
      refine B_weak [2, 3, 4, 1, 5, 6] rfl ?_
      exact h
set_option maxHeartbeats 4000000 in
set_option maxRecDepth 100000 in
theorem rX8_drawn_120 (d : Nat) (v1 : Int32) (v3 : Int32) (v4 : Int64) (v6 : Int32) (v7 : Int32) (x0 : Int32) (x1 : Int32) (x2 : Int32) (M : Mm) (Q : Int32 → Mm → Prop)
    (h : kX8_changes d x2 x1 x0 M (fun (_r1 : Int32) (M1 : Mm) => kX8_stepsBy d (17 : Int32) (0 : Int32) M1 (fun (_r2 : Int32) (M2 : Mm) => BX8_drawn (d + 1) 136 [(0, .ref 49), (1, .int v1), (3, .int v3), (4, .long v4), (6, .int v6), (7, .int v7), (9, .int (0 : Int32)), (10, .int (0 : Int32))] [] M2 Q))) : BX8_drawn (d + 1) 120 [(0, .ref 49), (1, .int v1), (3, .int v3), (4, .long v4), (6, .int v6), (7, .int v7)] [.int x0, .int x1, .int x2, .ref 49] M Q := by
  refine B_callV (st := []) 49 [.int x2, .int x1, .int x0] dX8_drawn_120 gX8_drawn_X8_changes rfl hyX8_changes (Nat.le_of_ble_eq_true rfl) (Nat.le_of_ble_eq_true rfl) TX8 23 rfl (Nat.le_of_ble_eq_true rfl) (Nat.le_of_ble_eq_true rfl) rfl (Ct.mono h (Nat.le_refl _) (fun _r1 M1 h => ?_))
  refine B_aload_n dX8_drawn_123 0 rfl ?_
  refine B_bipush (v := 17) dX8_drawn_124 (by decide) ?_
  refine B_iconst (v := 0) dX8_drawn_126 (by decide) ?_
  refine B_callV (st := []) 49 [.int (17 : Int32), .int (0 : Int32)] dX8_drawn_127 gX8_drawn_X8_stepsBy rfl hyX8_stepsBy (Nat.le_of_ble_eq_true rfl) (Nat.le_of_ble_eq_true rfl) TX8 23 rfl (Nat.le_of_ble_eq_true rfl) (Nat.le_of_ble_eq_true rfl) rfl (Ct.mono h (Nat.le_refl _) (fun _r2 M2 h => ?_))
  refine B_iconst (v := 0) dX8_drawn_130 (by decide) ?_
  refine B_istore (lv1 := [(9, .int (0 : Int32)), (0, .ref 49), (1, .int v1), (3, .int v3), (4, .long v4), (6, .int v6), (7, .int v7)]) dX8_drawn_131 (by decide) rfl ?_
  refine B_iconst (v := 0) dX8_drawn_133 (by decide) ?_
  refine B_istore (lv1 := [(10, .int (0 : Int32)), (9, .int (0 : Int32)), (0, .ref 49), (1, .int v1), (3, .int v3), (4, .long v4), (6, .int v6), (7, .int v7)]) dX8_drawn_134 (by decide) rfl ?_
  refine B_weak [2, 3, 4, 5, 6, 7, 1, 0] rfl ?_
  exact h
set_option maxHeartbeats 4000000 in
set_option maxRecDepth 100000 in
theorem rX8_drawn_136 (d : Nat) (v1 : Int32) (v3 : Int32) (v4 : Int64) (v6 : Int32) (v7 : Int32) (v9 : Int32) (v10 : Int32) (M : Mm) (Q : Int32 → Mm → Prop)
    (h : vp_in (0 : Int32) 301 ∧ (((M 50 (0 : Int32).toNatClampNeg) ≤ v10 → ((v9 = 0 → BX8_drawn (d + 1) 63 [(0, .ref 49), (1, .int v1), (3, .int v3), (4, .long v4), (6, .int (v6 + (0 : Int32))), (7, .int (v7 + (1 : Int32)))] [] M Q) ∧ (¬ v9 = 0 → BX8_drawn (d + 1) 63 [(0, .ref 49), (1, .int v1), (3, .int v3), (4, .long v4), (6, .int (v6 + (1 : Int32))), (7, .int (v7 + (1 : Int32)))] [] M Q))) ∧ (¬ (M 50 (0 : Int32).toNatClampNeg) ≤ v10 → ((¬ v9 = 0 → BX8_drawn (d + 1) 136 [(0, .ref 49), (1, .int v1), (3, .int v3), (4, .long v4), (6, .int v6), (7, .int v7), (9, .int (1 : Int32)), (10, .int (v10 + (1 : Int32)))] [] M Q) ∧ (v9 = 0 → vp_in ((10 : Int32) + v10) 301 ∧ ((¬ (M 50 ((10 : Int32) + v10).toNatClampNeg) = (5 : Int32) → BX8_drawn (d + 1) 136 [(0, .ref 49), (1, .int v1), (3, .int v3), (4, .long v4), (6, .int v6), (7, .int v7), (9, .int (0 : Int32)), (10, .int (v10 + (1 : Int32)))] [] M Q) ∧ ((M 50 ((10 : Int32) + v10).toNatClampNeg) = (5 : Int32) → vp_in ((20 : Int32) + v10) 301 ∧ (((M 50 ((20 : Int32) + v10).toNatClampNeg) ≤ 0 → BX8_drawn (d + 1) 136 [(0, .ref 49), (1, .int v1), (3, .int v3), (4, .long v4), (6, .int v6), (7, .int v7), (9, .int (0 : Int32)), (10, .int (v10 + (1 : Int32)))] [] M Q) ∧ (¬ (M 50 ((20 : Int32) + v10).toNatClampNeg) ≤ 0 → BX8_drawn (d + 1) 136 [(0, .ref 49), (1, .int v1), (3, .int v3), (4, .long v4), (6, .int v6), (7, .int v7), (9, .int (1 : Int32)), (10, .int (v10 + (1 : Int32)))] [] M Q))))))))) : BX8_drawn (d + 1) 136 [(0, .ref 49), (1, .int v1), (3, .int v3), (4, .long v4), (6, .int v6), (7, .int v7), (9, .int v9), (10, .int v10)] [] M Q := by
  refine B_iload dX8_drawn_136 7 rfl ?_
  refine B_aload_n dX8_drawn_138 0 rfl ?_
  refine B_getf (T := TX8) (N := 23) (v := .ref 50) 49 0 dX8_drawn_139 inX8_drawn_8 lkX8_drawn_f7 (Nat.le_of_ble_eq_true rfl) (Nat.le_of_ble_eq_true rfl) rfl rfl (by decide) rfl ?_
  refine B_iconst (v := 0) dX8_drawn_142 (by decide) ?_
  obtain ⟨hi, h⟩ := h
  refine B_iald (n := 301) 50 dX8_drawn_143 (Nat.le_of_ble_eq_true rfl) rfl rfl hi ?_
  refine B_icmp_ge (tgt := 192) dX8_drawn_144 (by decide) (fun hc => ?_) (fun hc => ?_)
  · have h := h.1 hc
    refine B_iload dX8_drawn_192 4 rfl ?_
    refine B_iload dX8_drawn_194 6 rfl ?_
    refine B_if_eq (tgt := 203) dX8_drawn_196 (by decide) (fun hc => ?_) (fun hc => ?_)
    · have h := h.1 hc
      refine B_iconst (v := 0) dX8_drawn_203 (by decide) ?_
      refine B_iadd dX8_drawn_204 ?_
      refine B_istore (lv1 := [(6, .int (v6 + (0 : Int32))), (0, .ref 49), (1, .int v1), (3, .int v3), (4, .long v4), (7, .int v7), (9, .int v9), (10, .int v10)]) dX8_drawn_205 (by decide) rfl ?_
      refine B_iinc (lv1 := [(7, .int (v7 + (1 : Int32))), (6, .int (v6 + (0 : Int32))), (0, .ref 49), (1, .int v1), (3, .int v3), (4, .long v4), (9, .int v9), (10, .int v10)]) (v := (v7 + (1 : Int32))) dX8_drawn_207 5 rfl rfl (by decide) rfl ?_
      refine B_goto (tgt := 63) dX8_drawn_210 (by decide) ?_
      refine B_weak [2, 3, 4, 5, 1, 0] rfl ?_
      exact h
    · have h := h.2 hc
      refine B_iconst (v := 1) dX8_drawn_199 (by decide) ?_
      refine B_goto (tgt := 204) dX8_drawn_200 (by decide) ?_
      refine B_iadd dX8_drawn_204 ?_
      refine B_istore (lv1 := [(6, .int (v6 + (1 : Int32))), (0, .ref 49), (1, .int v1), (3, .int v3), (4, .long v4), (7, .int v7), (9, .int v9), (10, .int v10)]) dX8_drawn_205 (by decide) rfl ?_
      refine B_iinc (lv1 := [(7, .int (v7 + (1 : Int32))), (6, .int (v6 + (1 : Int32))), (0, .ref 49), (1, .int v1), (3, .int v3), (4, .long v4), (9, .int v9), (10, .int v10)]) (v := (v7 + (1 : Int32))) dX8_drawn_207 5 rfl rfl (by decide) rfl ?_
      refine B_goto (tgt := 63) dX8_drawn_210 (by decide) ?_
      refine B_weak [2, 3, 4, 5, 1, 0] rfl ?_
      exact h
  · have h := h.2 hc
    refine B_iload dX8_drawn_147 6 rfl ?_
    refine B_if_ne (tgt := 179) dX8_drawn_149 (by decide) (fun hc => ?_) (fun hc => ?_)
    · have h := h.1 hc
      refine B_iconst (v := 1) dX8_drawn_179 (by decide) ?_
      refine B_goto (tgt := 184) dX8_drawn_180 (by decide) ?_
      refine B_istore (lv1 := [(9, .int (1 : Int32)), (0, .ref 49), (1, .int v1), (3, .int v3), (4, .long v4), (6, .int v6), (7, .int v7), (10, .int v10)]) dX8_drawn_184 (by decide) rfl ?_
      refine B_iinc (lv1 := [(10, .int (v10 + (1 : Int32))), (9, .int (1 : Int32)), (0, .ref 49), (1, .int v1), (3, .int v3), (4, .long v4), (6, .int v6), (7, .int v7)]) (v := (v10 + (1 : Int32))) dX8_drawn_186 7 rfl rfl (by decide) rfl ?_
      refine B_goto (tgt := 136) dX8_drawn_189 (by decide) ?_
      refine B_weak [2, 3, 4, 5, 6, 7, 1, 0] rfl ?_
      exact h
    · have h := h.2 hc
      refine B_aload_n dX8_drawn_152 0 rfl ?_
      refine B_getf (T := TX8) (N := 23) (v := .ref 50) 49 0 dX8_drawn_153 inX8_drawn_8 lkX8_drawn_f7 (Nat.le_of_ble_eq_true rfl) (Nat.le_of_ble_eq_true rfl) rfl rfl (by decide) rfl ?_
      refine B_bipush (v := 10) dX8_drawn_156 (by decide) ?_
      refine B_iload dX8_drawn_158 7 rfl ?_
      refine B_iadd dX8_drawn_160 ?_
      obtain ⟨hi, h⟩ := h
      refine B_iald (n := 301) 50 dX8_drawn_161 (Nat.le_of_ble_eq_true rfl) rfl rfl hi ?_
      refine B_iconst (v := 5) dX8_drawn_162 (by decide) ?_
      refine B_icmp_ne (tgt := 183) dX8_drawn_163 (by decide) (fun hc => ?_) (fun hc => ?_)
      · have h := h.1 hc
        refine B_iconst (v := 0) dX8_drawn_183 (by decide) ?_
        refine B_istore (lv1 := [(9, .int (0 : Int32)), (0, .ref 49), (1, .int v1), (3, .int v3), (4, .long v4), (6, .int v6), (7, .int v7), (10, .int v10)]) dX8_drawn_184 (by decide) rfl ?_
        refine B_iinc (lv1 := [(10, .int (v10 + (1 : Int32))), (9, .int (0 : Int32)), (0, .ref 49), (1, .int v1), (3, .int v3), (4, .long v4), (6, .int v6), (7, .int v7)]) (v := (v10 + (1 : Int32))) dX8_drawn_186 7 rfl rfl (by decide) rfl ?_
        refine B_goto (tgt := 136) dX8_drawn_189 (by decide) ?_
        refine B_weak [2, 3, 4, 5, 6, 7, 1, 0] rfl ?_
        exact h
      · have h := h.2 hc
        refine B_aload_n dX8_drawn_166 0 rfl ?_
        refine B_getf (T := TX8) (N := 23) (v := .ref 50) 49 0 dX8_drawn_167 inX8_drawn_8 lkX8_drawn_f7 (Nat.le_of_ble_eq_true rfl) (Nat.le_of_ble_eq_true rfl) rfl rfl (by decide) rfl ?_
        refine B_bipush (v := 20) dX8_drawn_170 (by decide) ?_
        refine B_iload dX8_drawn_172 7 rfl ?_
        refine B_iadd dX8_drawn_174 ?_
        obtain ⟨hi, h⟩ := h
        refine B_iald (n := 301) 50 dX8_drawn_175 (Nat.le_of_ble_eq_true rfl) rfl rfl hi ?_
        refine B_if_le (tgt := 183) dX8_drawn_176 (by decide) (fun hc => ?_) (fun hc => ?_)
        · have h := h.1 hc
          refine B_iconst (v := 0) dX8_drawn_183 (by decide) ?_
          refine B_istore (lv1 := [(9, .int (0 : Int32)), (0, .ref 49), (1, .int v1), (3, .int v3), (4, .long v4), (6, .int v6), (7, .int v7), (10, .int v10)]) dX8_drawn_184 (by decide) rfl ?_
          refine B_iinc (lv1 := [(10, .int (v10 + (1 : Int32))), (9, .int (0 : Int32)), (0, .ref 49), (1, .int v1), (3, .int v3), (4, .long v4), (6, .int v6), (7, .int v7)]) (v := (v10 + (1 : Int32))) dX8_drawn_186 7 rfl rfl (by decide) rfl ?_
          refine B_goto (tgt := 136) dX8_drawn_189 (by decide) ?_
          refine B_weak [2, 3, 4, 5, 6, 7, 1, 0] rfl ?_
          exact h
        · have h := h.2 hc
          refine B_iconst (v := 1) dX8_drawn_179 (by decide) ?_
          refine B_goto (tgt := 184) dX8_drawn_180 (by decide) ?_
          refine B_istore (lv1 := [(9, .int (1 : Int32)), (0, .ref 49), (1, .int v1), (3, .int v3), (4, .long v4), (6, .int v6), (7, .int v7), (10, .int v10)]) dX8_drawn_184 (by decide) rfl ?_
          refine B_iinc (lv1 := [(10, .int (v10 + (1 : Int32))), (9, .int (1 : Int32)), (0, .ref 49), (1, .int v1), (3, .int v3), (4, .long v4), (6, .int v6), (7, .int v7)]) (v := (v10 + (1 : Int32))) dX8_drawn_186 7 rfl rfl (by decide) rfl ?_
          refine B_goto (tgt := 136) dX8_drawn_189 (by decide) ?_
          refine B_weak [2, 3, 4, 5, 6, 7, 1, 0] rfl ?_
          exact h
set_option maxHeartbeats 4000000 in
set_option maxRecDepth 100000 in
theorem rX8_image (d : Nat) (v1 : Int32) (M : Mm) (Q : Int32 → Mm → Prop)
    (h : kX8_in d v1.toInt64 (0 : Int64) (1 : Int64) M (fun (r1 : Int32) (M1 : Mm) => ((¬ r1 = 0 → vp_in (0 : Int32) 301 ∧ ((¬ (M1 50 (0 : Int32).toNatClampNeg) = 0 → kX8_copyOf d (0 : Int32) ((34 : Int32) + ((17 : Int32) * v1)) (17 : Int32) M1 (fun (_r2 : Int32) (M2 : Mm) => Q (1 : Int32) M2)) ∧ ((M1 50 (0 : Int32).toNatClampNeg) = 0 → Q (-1000002 : Int32) M1))) ∧ (r1 = 0 → Q (-1000001 : Int32) M1)))) : kX8_image (d + 1) v1 M Q := by
  refine Ct.of (cc := cX8_image) (nL := 2) (by decide) rfl (Nat.le_of_ble_eq_true rfl) ?_
  show BX8_image (d + 1) 0 [(0, .ref 49), (1, .int v1)] [] M Q
  refine B_iload_n dX8_image_0 1 rfl ?_
  refine B_i2l dX8_image_1 ?_
  refine B_lconst (v := 0) dX8_image_2 (by decide) ?_
  refine B_lconst (v := 1) dX8_image_3 (by decide) ?_
  refine B_callS (st := []) [.long v1.toInt64, .long (0 : Int64), .long (1 : Int64)] dX8_image_4 gX8_image_X8_in rfl hyX8_in (Nat.le_of_ble_eq_true rfl) (Nat.le_of_ble_eq_true rfl) rfl (Ct.mono h (Nat.le_refl _) (fun r1 M1 h => ?_))
  refine B_if_ne (tgt := 13) dX8_image_7 (by decide) (fun hc => ?_) (fun hc => ?_)
  · have h := h.1 hc
    refine B_aload_n dX8_image_13 0 rfl ?_
    refine B_getf (T := TX8) (N := 23) (v := .ref 50) 49 0 dX8_image_14 inX8_image_8 lkX8_image_f7 (Nat.le_of_ble_eq_true rfl) (Nat.le_of_ble_eq_true rfl) rfl rfl (by decide) rfl ?_
    refine B_iconst (v := 0) dX8_image_17 (by decide) ?_
    obtain ⟨hi, h⟩ := h
    refine B_iald (n := 301) 50 dX8_image_18 (Nat.le_of_ble_eq_true rfl) rfl rfl hi ?_
    refine B_if_ne (tgt := 25) dX8_image_19 (by decide) (fun hc => ?_) (fun hc => ?_)
    · have h := h.1 hc
      refine B_aload_n dX8_image_25 0 rfl ?_
      refine B_iconst (v := 0) dX8_image_26 (by decide) ?_
      refine B_bipush (v := 34) dX8_image_27 (by decide) ?_
      refine B_bipush (v := 17) dX8_image_29 (by decide) ?_
      refine B_iload_n dX8_image_31 1 rfl ?_
      refine B_imul dX8_image_32 ?_
      refine B_iadd dX8_image_33 ?_
      refine B_bipush (v := 17) dX8_image_34 (by decide) ?_
      refine B_callV (st := []) 49 [.int (0 : Int32), .int ((34 : Int32) + ((17 : Int32) * v1)), .int (17 : Int32)] dX8_image_36 gX8_image_X8_copyOf rfl hyX8_copyOf (Nat.le_of_ble_eq_true rfl) (Nat.le_of_ble_eq_true rfl) TX8 23 rfl (Nat.le_of_ble_eq_true rfl) (Nat.le_of_ble_eq_true rfl) rfl (Ct.mono h (Nat.le_refl _) (fun _r2 M2 h => ?_))
      refine B_iconst (v := 1) dX8_image_39 (by decide) ?_
      exact B_iret dX8_image_40 h
    · have h := h.2 hc
      refine B_ldc (v := -1000002) dX8_image_22 lkX8_image_c149 ?_
      exact B_iret dX8_image_24 h
  · have h := h.2 hc
    refine B_ldc (v := -1000001) dX8_image_10 lkX8_image_c72 ?_
    exact B_iret dX8_image_12 h
set_option maxHeartbeats 4000000 in
set_option maxRecDepth 100000 in
theorem rX8_restore (d : Nat) (v1 : Int32) (M : Mm) (Q : Int32 → Mm → Prop)
    (h : kX8_in d v1.toInt64 (0 : Int64) (1 : Int64) M (fun (r1 : Int32) (M1 : Mm) => ((¬ r1 = 0 → vp_in (((34 : Int32) + ((17 : Int32) * v1)) + (0 : Int32)) 301 ∧ ((¬ (M1 50 (((34 : Int32) + ((17 : Int32) * v1)) + (0 : Int32)).toNatClampNeg) = 0 → kX8_copyOf d ((34 : Int32) + ((17 : Int32) * v1)) (0 : Int32) (17 : Int32) M1 (fun (_r2 : Int32) (M2 : Mm) => (∀ M3 : Mm, M3 = (upd2 M2 49 1 (0 : Int32)) → Q (1 : Int32) M3))) ∧ ((M1 50 (((34 : Int32) + ((17 : Int32) * v1)) + (0 : Int32)).toNatClampNeg) = 0 → Q (-1000002 : Int32) M1))) ∧ (r1 = 0 → Q (-1000001 : Int32) M1)))) : kX8_restore (d + 1) v1 M Q := by
  refine Ct.of (cc := cX8_restore) (nL := 2) (by decide) rfl (Nat.le_of_ble_eq_true rfl) ?_
  show BX8_restore (d + 1) 0 [(0, .ref 49), (1, .int v1)] [] M Q
  refine B_iload_n dX8_restore_0 1 rfl ?_
  refine B_i2l dX8_restore_1 ?_
  refine B_lconst (v := 0) dX8_restore_2 (by decide) ?_
  refine B_lconst (v := 1) dX8_restore_3 (by decide) ?_
  refine B_callS (st := []) [.long v1.toInt64, .long (0 : Int64), .long (1 : Int64)] dX8_restore_4 gX8_restore_X8_in rfl hyX8_in (Nat.le_of_ble_eq_true rfl) (Nat.le_of_ble_eq_true rfl) rfl (Ct.mono h (Nat.le_refl _) (fun r1 M1 h => ?_))
  refine B_if_ne (tgt := 13) dX8_restore_7 (by decide) (fun hc => ?_) (fun hc => ?_)
  · have h := h.1 hc
    refine B_aload_n dX8_restore_13 0 rfl ?_
    refine B_getf (T := TX8) (N := 23) (v := .ref 50) 49 0 dX8_restore_14 inX8_restore_8 lkX8_restore_f7 (Nat.le_of_ble_eq_true rfl) (Nat.le_of_ble_eq_true rfl) rfl rfl (by decide) rfl ?_
    refine B_bipush (v := 34) dX8_restore_17 (by decide) ?_
    refine B_bipush (v := 17) dX8_restore_19 (by decide) ?_
    refine B_iload_n dX8_restore_21 1 rfl ?_
    refine B_imul dX8_restore_22 ?_
    refine B_iadd dX8_restore_23 ?_
    refine B_iconst (v := 0) dX8_restore_24 (by decide) ?_
    refine B_iadd dX8_restore_25 ?_
    obtain ⟨hi, h⟩ := h
    refine B_iald (n := 301) 50 dX8_restore_26 (Nat.le_of_ble_eq_true rfl) rfl rfl hi ?_
    refine B_if_ne (tgt := 33) dX8_restore_27 (by decide) (fun hc => ?_) (fun hc => ?_)
    · have h := h.1 hc
      refine B_aload_n dX8_restore_33 0 rfl ?_
      refine B_bipush (v := 34) dX8_restore_34 (by decide) ?_
      refine B_bipush (v := 17) dX8_restore_36 (by decide) ?_
      refine B_iload_n dX8_restore_38 1 rfl ?_
      refine B_imul dX8_restore_39 ?_
      refine B_iadd dX8_restore_40 ?_
      refine B_iconst (v := 0) dX8_restore_41 (by decide) ?_
      refine B_bipush (v := 17) dX8_restore_42 (by decide) ?_
      refine B_callV (st := []) 49 [.int ((34 : Int32) + ((17 : Int32) * v1)), .int (0 : Int32), .int (17 : Int32)] dX8_restore_44 gX8_restore_X8_copyOf rfl hyX8_copyOf (Nat.le_of_ble_eq_true rfl) (Nat.le_of_ble_eq_true rfl) TX8 23 rfl (Nat.le_of_ble_eq_true rfl) (Nat.le_of_ble_eq_true rfl) rfl (Ct.mono h (Nat.le_refl _) (fun _r2 M2 h => ?_))
      refine B_aload_n dX8_restore_47 0 rfl ?_
      refine B_iconst (v := 0) dX8_restore_48 (by decide) ?_
      refine B_putf (T := TX8) (N := 23) 49 1 tyX8 tyX8_ok nmX8 dX8_restore_49 inX8_restore_8 lkX8_restore_f136 (Nat.le_of_ble_eq_true rfl) (Nat.le_of_ble_eq_true rfl) rfl rfl (by decide) rfl rfl (by decide +kernel) ?_
      have h := h _ rfl
      generalize (upd2 M2 49 1 (0 : Int32)) = M3 at h ⊢
      refine B_iconst (v := 1) dX8_restore_52 (by decide) ?_
      exact B_iret dX8_restore_53 h
    · have h := h.2 hc
      refine B_ldc (v := -1000002) dX8_restore_30 lkX8_restore_c149 ?_
      exact B_iret dX8_restore_32 h
  · have h := h.2 hc
    refine B_ldc (v := -1000001) dX8_restore_10 lkX8_restore_c72 ?_
    exact B_iret dX8_restore_12 h
set_option maxHeartbeats 4000000 in
set_option maxRecDepth 100000 in
theorem rX8_kind (d : Nat) (v1 : Int32) (M : Mm) (Q : Int32 → Mm → Prop)
    (h : kX8_isSaint d v1 M (fun (r1 : Int32) (M1 : Mm) => ((r1 = 0 → Q (-1000001 : Int32) M1) ∧ (¬ r1 = 0 → vp_in ((10 : Int32) + v1) 301 ∧ Q (M1 50 ((10 : Int32) + v1).toNatClampNeg) M1)))) : kX8_kind (d + 1) v1 M Q := by
  refine Ct.of (cc := cX8_kind) (nL := 2) (by decide) rfl (Nat.le_of_ble_eq_true rfl) ?_
  show BX8_kind (d + 1) 0 [(0, .ref 49), (1, .int v1)] [] M Q
  refine B_aload_n dX8_kind_0 0 rfl ?_
  refine B_iload_n dX8_kind_1 1 rfl ?_
  refine B_callV (st := []) 49 [.int v1] dX8_kind_2 gX8_kind_X8_isSaint rfl hyX8_isSaint (Nat.le_of_ble_eq_true rfl) (Nat.le_of_ble_eq_true rfl) TX8 23 rfl (Nat.le_of_ble_eq_true rfl) (Nat.le_of_ble_eq_true rfl) rfl (Ct.mono h (Nat.le_refl _) (fun r1 M1 h => ?_))
  refine B_if_eq (tgt := 20) dX8_kind_5 (by decide) (fun hc => ?_) (fun hc => ?_)
  · have h := h.1 hc
    refine B_ldc (v := -1000001) dX8_kind_20 lkX8_kind_c72 ?_
    exact B_iret dX8_kind_22 h
  · have h := h.2 hc
    refine B_aload_n dX8_kind_8 0 rfl ?_
    refine B_getf (T := TX8) (N := 23) (v := .ref 50) 49 0 dX8_kind_9 inX8_kind_8 lkX8_kind_f7 (Nat.le_of_ble_eq_true rfl) (Nat.le_of_ble_eq_true rfl) rfl rfl (by decide) rfl ?_
    refine B_bipush (v := 10) dX8_kind_12 (by decide) ?_
    refine B_iload_n dX8_kind_14 1 rfl ?_
    refine B_iadd dX8_kind_15 ?_
    obtain ⟨hi, h⟩ := h
    refine B_iald (n := 301) 50 dX8_kind_16 (Nat.le_of_ble_eq_true rfl) rfl rfl hi ?_
    refine B_goto (tgt := 22) dX8_kind_17 (by decide) ?_
    exact B_iret dX8_kind_22 h
set_option maxHeartbeats 4000000 in
set_option maxRecDepth 100000 in
theorem rX8_isA (d : Nat) (v0 : Int32) (v1 : Int32) (M : Mm) (Q : Int32 → Mm → Prop)
    (h : ((v1 = 0 → Q (1 : Int32) M) ∧ (¬ v1 = 0 → ((v1 = v0 → Q (1 : Int32) M) ∧ (¬ v1 = v0 → ((¬ v1 = (1 : Int32) → BX8_isA d 24 [(0, .int v0), (1, .int v1)] [] M Q) ∧ (v1 = (1 : Int32) → ((v0 = (2 : Int32) → Q (1 : Int32) M) ∧ (¬ v0 = (2 : Int32) → ((v0 = (3 : Int32) → Q (1 : Int32) M) ∧ (¬ v0 = (3 : Int32) → BX8_isA d 24 [(0, .int v0), (1, .int v1)] [] M Q))))))))))) : kX8_isA d v0 v1 M Q := by
  refine Ct.of (cc := cX8_isA) (nL := 2) (by decide) rfl (Nat.le_of_ble_eq_true rfl) ?_
  show BX8_isA d 0 [(0, .int v0), (1, .int v1)] [] M Q
  refine B_iload_n dX8_isA_0 1 rfl ?_
  refine B_if_eq (tgt := 34) dX8_isA_1 (by decide) (fun hc => ?_) (fun hc => ?_)
  · have h := h.1 hc
    refine B_iconst (v := 1) dX8_isA_34 (by decide) ?_
    refine B_goto (tgt := 39) dX8_isA_35 (by decide) ?_
    exact B_zret dX8_isA_39 (Or.inr rfl) h
  · have h := h.2 hc
    refine B_iload_n dX8_isA_4 1 rfl ?_
    refine B_iload_n dX8_isA_5 0 rfl ?_
    refine B_icmp_eq (tgt := 34) dX8_isA_6 (by decide) (fun hc => ?_) (fun hc => ?_)
    · have h := h.1 hc
      refine B_iconst (v := 1) dX8_isA_34 (by decide) ?_
      refine B_goto (tgt := 39) dX8_isA_35 (by decide) ?_
      exact B_zret dX8_isA_39 (Or.inr rfl) h
    · have h := h.2 hc
      refine B_iload_n dX8_isA_9 1 rfl ?_
      refine B_iconst (v := 1) dX8_isA_10 (by decide) ?_
      refine B_icmp_ne (tgt := 24) dX8_isA_11 (by decide) (fun hc => ?_) (fun hc => ?_)
      · have h := h.1 hc
        refine B_weak [0, 1] rfl ?_
        exact h
      · have h := h.2 hc
        refine B_iload_n dX8_isA_14 0 rfl ?_
        refine B_iconst (v := 2) dX8_isA_15 (by decide) ?_
        refine B_icmp_eq (tgt := 34) dX8_isA_16 (by decide) (fun hc => ?_) (fun hc => ?_)
        · have h := h.1 hc
          refine B_iconst (v := 1) dX8_isA_34 (by decide) ?_
          refine B_goto (tgt := 39) dX8_isA_35 (by decide) ?_
          exact B_zret dX8_isA_39 (Or.inr rfl) h
        · have h := h.2 hc
          refine B_iload_n dX8_isA_19 0 rfl ?_
          refine B_iconst (v := 3) dX8_isA_20 (by decide) ?_
          refine B_icmp_eq (tgt := 34) dX8_isA_21 (by decide) (fun hc => ?_) (fun hc => ?_)
          · have h := h.1 hc
            refine B_iconst (v := 1) dX8_isA_34 (by decide) ?_
            refine B_goto (tgt := 39) dX8_isA_35 (by decide) ?_
            exact B_zret dX8_isA_39 (Or.inr rfl) h
          · have h := h.2 hc
            refine B_weak [0, 1] rfl ?_
            exact h
set_option maxHeartbeats 4000000 in
set_option maxRecDepth 100000 in
theorem rX8_isA_24 (d : Nat) (v0 : Int32) (v1 : Int32) (M : Mm) (Q : Int32 → Mm → Prop)
    (h : ((¬ v1 = (4 : Int32) → Q (0 : Int32) M) ∧ (v1 = (4 : Int32) → ((¬ v0 = (5 : Int32) → Q (0 : Int32) M) ∧ (v0 = (5 : Int32) → Q (1 : Int32) M))))) : BX8_isA d 24 [(0, .int v0), (1, .int v1)] [] M Q := by
  refine B_iload_n dX8_isA_24 1 rfl ?_
  refine B_iconst (v := 4) dX8_isA_25 (by decide) ?_
  refine B_icmp_ne (tgt := 38) dX8_isA_26 (by decide) (fun hc => ?_) (fun hc => ?_)
  · have h := h.1 hc
    refine B_iconst (v := 0) dX8_isA_38 (by decide) ?_
    exact B_zret dX8_isA_39 (Or.inl rfl) h
  · have h := h.2 hc
    refine B_iload_n dX8_isA_29 0 rfl ?_
    refine B_iconst (v := 5) dX8_isA_30 (by decide) ?_
    refine B_icmp_ne (tgt := 38) dX8_isA_31 (by decide) (fun hc => ?_) (fun hc => ?_)
    · have h := h.1 hc
      refine B_iconst (v := 0) dX8_isA_38 (by decide) ?_
      exact B_zret dX8_isA_39 (Or.inl rfl) h
    · have h := h.2 hc
      refine B_iconst (v := 1) dX8_isA_34 (by decide) ?_
      refine B_goto (tgt := 39) dX8_isA_35 (by decide) ?_
      exact B_zret dX8_isA_39 (Or.inr rfl) h
set_option maxHeartbeats 4000000 in
set_option maxRecDepth 100000 in
theorem rX8_as (d : Nat) (v1 : Int32) (v2 : Int32) (M : Mm) (Q : Int32 → Mm → Prop)
    (h : kX8_isSaint d v1 M (fun (r1 : Int32) (M1 : Mm) => ((r1 = 0 → Q (-1000001 : Int32) M1) ∧ (¬ r1 = 0 → kX8_in d v2.toInt64 (0 : Int64) (5 : Int64) M1 (fun (r2 : Int32) (M2 : Mm) => ((¬ r2 = 0 → vp_in ((10 : Int32) + v1) 301 ∧ kX8_isA d (M2 50 ((10 : Int32) + v1).toNatClampNeg) v2 M2 (fun (r3 : Int32) (M3 : Mm) => ((¬ r3 = 0 → (∀ M4 : Mm, M4 = (upd2 M3 49 5 (0 : Int32)) → Q v1 M4)) ∧ (r3 = 0 → kX8_finds d (3 : Int32) M3 (fun (r4 : Int32) (M5 : Mm) => Q r4 M5))))) ∧ (r2 = 0 → Q (-1000001 : Int32) M2))))))) : kX8_as (d + 1) v1 v2 M Q := by
  refine Ct.of (cc := cX8_as) (nL := 3) (by decide) rfl (Nat.le_of_ble_eq_true rfl) ?_
  show BX8_as (d + 1) 0 [(0, .ref 49), (1, .int v1), (2, .int v2)] [] M Q
  refine B_aload_n dX8_as_0 0 rfl ?_
  refine B_iload_n dX8_as_1 1 rfl ?_
  refine B_callV (st := []) 49 [.int v1] dX8_as_2 gX8_as_X8_isSaint rfl hyX8_isSaint (Nat.le_of_ble_eq_true rfl) (Nat.le_of_ble_eq_true rfl) TX8 23 rfl (Nat.le_of_ble_eq_true rfl) (Nat.le_of_ble_eq_true rfl) rfl (Ct.mono h (Nat.le_refl _) (fun r1 M1 h => ?_))
  refine B_if_eq (tgt := 20) dX8_as_5 (by decide) (fun hc => ?_) (fun hc => ?_)
  · have h := h.1 hc
    refine B_ldc (v := -1000001) dX8_as_20 lkX8_as_c72 ?_
    exact B_iret dX8_as_22 h
  · have h := h.2 hc
    refine B_iload_n dX8_as_8 2 rfl ?_
    refine B_i2l dX8_as_9 ?_
    refine B_lconst (v := 0) dX8_as_10 (by decide) ?_
    refine B_ldc2 (v := 5) dX8_as_11 lkX8_as_l239 ?_
    refine B_callS (st := []) [.long v2.toInt64, .long (0 : Int64), .long (5 : Int64)] dX8_as_14 gX8_as_X8_in rfl hyX8_in (Nat.le_of_ble_eq_true rfl) (Nat.le_of_ble_eq_true rfl) rfl (Ct.mono h (Nat.le_refl _) (fun r2 M2 h => ?_))
    refine B_if_ne (tgt := 23) dX8_as_17 (by decide) (fun hc => ?_) (fun hc => ?_)
    · have h := h.1 hc
      refine B_aload_n dX8_as_23 0 rfl ?_
      refine B_getf (T := TX8) (N := 23) (v := .ref 50) 49 0 dX8_as_24 inX8_as_8 lkX8_as_f7 (Nat.le_of_ble_eq_true rfl) (Nat.le_of_ble_eq_true rfl) rfl rfl (by decide) rfl ?_
      refine B_bipush (v := 10) dX8_as_27 (by decide) ?_
      refine B_iload_n dX8_as_29 1 rfl ?_
      refine B_iadd dX8_as_30 ?_
      obtain ⟨hi, h⟩ := h
      refine B_iald (n := 301) 50 dX8_as_31 (Nat.le_of_ble_eq_true rfl) rfl rfl hi ?_
      refine B_iload_n dX8_as_32 2 rfl ?_
      refine B_callS (st := []) [.int (M2 50 ((10 : Int32) + v1).toNatClampNeg), .int v2] dX8_as_33 gX8_as_X8_isA rfl hyX8_isA (Nat.le_of_ble_eq_true rfl) (Nat.le_of_ble_eq_true rfl) rfl (Ct.mono h (Nat.le_refl _) (fun r3 M3 h => ?_))
      refine B_if_ne (tgt := 45) dX8_as_36 (by decide) (fun hc => ?_) (fun hc => ?_)
      · have h := h.1 hc
        refine B_aload_n dX8_as_45 0 rfl ?_
        refine B_iconst (v := 0) dX8_as_46 (by decide) ?_
        refine B_putf (T := TX8) (N := 23) 49 5 tyX8 tyX8_ok nmX8 dX8_as_47 inX8_as_8 lkX8_as_f61 (Nat.le_of_ble_eq_true rfl) (Nat.le_of_ble_eq_true rfl) rfl rfl (by decide) rfl rfl (by decide +kernel) ?_
        have h := h _ rfl
        generalize (upd2 M3 49 5 (0 : Int32)) = M4 at h ⊢
        refine B_iload_n dX8_as_50 1 rfl ?_
        exact B_iret dX8_as_51 h
      · have h := h.2 hc
        refine B_aload_n dX8_as_39 0 rfl ?_
        refine B_iconst (v := 3) dX8_as_40 (by decide) ?_
        refine B_callV (st := []) 49 [.int (3 : Int32)] dX8_as_41 gX8_as_X8_finds rfl hyX8_finds (Nat.le_of_ble_eq_true rfl) (Nat.le_of_ble_eq_true rfl) TX8 23 rfl (Nat.le_of_ble_eq_true rfl) (Nat.le_of_ble_eq_true rfl) rfl (Ct.mono h (Nat.le_refl _) (fun r4 M5 h => ?_))
        exact B_iret dX8_as_44 h
    · have h := h.2 hc
      refine B_ldc (v := -1000001) dX8_as_20 lkX8_as_c72 ?_
      exact B_iret dX8_as_22 h
set_option maxHeartbeats 4000000 in
set_option maxRecDepth 100000 in
theorem rX8_traces (d : Nat) (v1 : Int32) (M : Mm) (Q : Int32 → Mm → Prop)
    (h : (((16 : Int32) ≤ (M 49 22) → Q 0 M) ∧ (¬ (16 : Int32) ≤ (M 49 22) → vp_in (M 49 22) 16 ∧ (∀ M1 : Mm, M1 = (upd2 M 64 (M 49 22).toNatClampNeg v1) → (∀ M2 : Mm, M2 = (upd2 M1 49 22 ((M1 49 22) + (1 : Int32))) → Q 0 M2))))) : kX8_traces d v1 M Q := by
  refine Ct.of (cc := cX8_traces) (nL := 2) (by decide) rfl (Nat.le_of_ble_eq_true rfl) ?_
  show BX8_traces d 0 [(0, .ref 49), (1, .int v1)] [] M Q
  refine B_aload_n dX8_traces_0 0 rfl ?_
  refine B_getf (T := TX8) (N := 23) (v := .int (M 49 22)) 49 22 dX8_traces_1 inX8_traces_8 lkX8_traces_f244 (Nat.le_of_ble_eq_true rfl) (Nat.le_of_ble_eq_true rfl) rfl rfl (by decide) rfl ?_
  refine B_bipush (v := 16) dX8_traces_4 (by decide) ?_
  refine B_icmp_ge (tgt := 29) dX8_traces_6 (by decide) (fun hc => ?_) (fun hc => ?_)
  · have h := h.1 hc
    exact B_vret dX8_traces_29 h
  · have h := h.2 hc
    refine B_aload_n dX8_traces_9 0 rfl ?_
    refine B_getf (T := TX8) (N := 23) (v := .ref 64) 49 21 dX8_traces_10 inX8_traces_8 lkX8_traces_f52 (Nat.le_of_ble_eq_true rfl) (Nat.le_of_ble_eq_true rfl) rfl rfl (by decide) rfl ?_
    refine B_aload_n dX8_traces_13 0 rfl ?_
    refine B_getf (T := TX8) (N := 23) (v := .int (M 49 22)) 49 22 dX8_traces_14 inX8_traces_8 lkX8_traces_f244 (Nat.le_of_ble_eq_true rfl) (Nat.le_of_ble_eq_true rfl) rfl rfl (by decide) rfl ?_
    refine B_iload_n dX8_traces_17 1 rfl ?_
    obtain ⟨hi, h⟩ := h
    refine B_iast (n := 16) 64 dX8_traces_18 (Nat.le_of_ble_eq_true rfl) rfl rfl hi ?_
    have h := h _ rfl
    generalize (upd2 M 64 (M 49 22).toNatClampNeg v1) = M1 at h ⊢
    refine B_aload_n dX8_traces_19 0 rfl ?_
    refine B_dup dX8_traces_20 rfl ?_
    refine B_getf (T := TX8) (N := 23) (v := .int (M1 49 22)) 49 22 dX8_traces_21 inX8_traces_8 lkX8_traces_f244 (Nat.le_of_ble_eq_true rfl) (Nat.le_of_ble_eq_true rfl) rfl rfl (by decide) rfl ?_
    refine B_iconst (v := 1) dX8_traces_24 (by decide) ?_
    refine B_iadd dX8_traces_25 ?_
    refine B_putf (T := TX8) (N := 23) 49 22 tyX8 tyX8_ok nmX8 dX8_traces_26 inX8_traces_8 lkX8_traces_f244 (Nat.le_of_ble_eq_true rfl) (Nat.le_of_ble_eq_true rfl) rfl rfl (by decide) rfl rfl (by decide +kernel) ?_
    have h := h _ rfl
    generalize (upd2 M1 49 22 ((M1 49 22) + (1 : Int32))) = M2 at h ⊢
    exact B_vret dX8_traces_29 h
set_option maxHeartbeats 4000000 in
set_option maxRecDepth 100000 in
theorem rX8_size10 (d : Nat) (v1 : Int32) (M : Mm) (Q : Int32 → Mm → Prop)
    (h : kX8_traces d (10 : Int32) M (fun (_r1 : Int32) (M1 : Mm) => vp_in ((3 : Int32) + v1) 301 ∧ Q (M1 50 ((3 : Int32) + v1).toNatClampNeg) M1)) : kX8_size10 (d + 1) v1 M Q := by
  refine Ct.of (cc := cX8_size10) (nL := 2) (by decide) rfl (Nat.le_of_ble_eq_true rfl) ?_
  show BX8_size10 (d + 1) 0 [(0, .ref 49), (1, .int v1)] [] M Q
  refine B_aload_n dX8_size10_0 0 rfl ?_
  refine B_bipush (v := 10) dX8_size10_1 (by decide) ?_
  refine B_callV (st := []) 49 [.int (10 : Int32)] dX8_size10_3 gX8_size10_X8_traces rfl hyX8_traces (Nat.le_of_ble_eq_true rfl) (Nat.le_of_ble_eq_true rfl) TX8 23 rfl (Nat.le_of_ble_eq_true rfl) (Nat.le_of_ble_eq_true rfl) rfl (Ct.mono h (Nat.le_refl _) (fun _r1 M1 h => ?_))
  refine B_aload_n dX8_size10_6 0 rfl ?_
  refine B_getf (T := TX8) (N := 23) (v := .ref 50) 49 0 dX8_size10_7 inX8_size10_8 lkX8_size10_f7 (Nat.le_of_ble_eq_true rfl) (Nat.le_of_ble_eq_true rfl) rfl rfl (by decide) rfl ?_
  refine B_iconst (v := 3) dX8_size10_10 (by decide) ?_
  refine B_iload_n dX8_size10_11 1 rfl ?_
  refine B_iadd dX8_size10_12 ?_
  obtain ⟨hi, h⟩ := h
  refine B_iald (n := 301) 50 dX8_size10_13 (Nat.le_of_ble_eq_true rfl) rfl rfl hi ?_
  exact B_iret dX8_size10_14 h
set_option maxHeartbeats 4000000 in
set_option maxRecDepth 100000 in
theorem rX8_size11 (d : Nat) (v1 : Int32) (M : Mm) (Q : Int32 → Mm → Prop)
    (h : kX8_traces d (11 : Int32) M (fun (_r1 : Int32) (M1 : Mm) => kX8_size10 d v1 M1 (fun (r2 : Int32) (M2 : Mm) => kX8_markOf d v1 M2 (fun (r3 : Int32) (M3 : Mm) => Q (r2 + r3) M3)))) : kX8_size11 (d + 1) v1 M Q := by
  refine Ct.of (cc := cX8_size11) (nL := 3) (by decide) rfl (Nat.le_of_ble_eq_true rfl) ?_
  show BX8_size11 (d + 1) 0 [(0, .ref 49), (1, .int v1)] [] M Q
  refine B_aload_n dX8_size11_0 0 rfl ?_
  refine B_bipush (v := 11) dX8_size11_1 (by decide) ?_
  refine B_callV (st := []) 49 [.int (11 : Int32)] dX8_size11_3 gX8_size11_X8_traces rfl hyX8_traces (Nat.le_of_ble_eq_true rfl) (Nat.le_of_ble_eq_true rfl) TX8 23 rfl (Nat.le_of_ble_eq_true rfl) (Nat.le_of_ble_eq_true rfl) rfl (Ct.mono h (Nat.le_refl _) (fun _r1 M1 h => ?_))
  refine B_aload_n dX8_size11_6 0 rfl ?_
  refine B_iload_n dX8_size11_7 1 rfl ?_
  refine B_callV (st := []) 49 [.int v1] dX8_size11_8 gX8_size11_X8_size10 rfl hyX8_size10 (Nat.le_of_ble_eq_true rfl) (Nat.le_of_ble_eq_true rfl) TX8 23 rfl (Nat.le_of_ble_eq_true rfl) (Nat.le_of_ble_eq_true rfl) rfl (Ct.mono h (Nat.le_refl _) (fun r2 M2 h => ?_))
  refine B_istore_n (lv1 := [(2, .int r2), (0, .ref 49), (1, .int v1)]) dX8_size11_11 (by decide) rfl ?_
  refine B_iload_n dX8_size11_12 0 rfl ?_
  refine B_aload_n dX8_size11_13 1 rfl ?_
  refine B_iload_n dX8_size11_14 2 rfl ?_
  refine B_callV (st := [.int r2]) 49 [.int v1] dX8_size11_15 gX8_size11_X8_markOf rfl hyX8_markOf (Nat.le_of_ble_eq_true rfl) (Nat.le_of_ble_eq_true rfl) TX8 23 rfl (Nat.le_of_ble_eq_true rfl) (Nat.le_of_ble_eq_true rfl) rfl (Ct.mono h (Nat.le_refl _) (fun r3 M3 h => ?_))
  refine B_iadd dX8_size11_18 ?_
  exact B_iret dX8_size11_19 h
set_option maxHeartbeats 4000000 in
set_option maxRecDepth 100000 in
theorem rX8_size13 (d : Nat) (v1 : Int32) (M : Mm) (Q : Int32 → Mm → Prop)
    (h : kX8_traces d (13 : Int32) M (fun (_r1 : Int32) (M1 : Mm) => kX8_size10 d v1 M1 (fun (r2 : Int32) (M2 : Mm) => Q (r2 - (100 : Int32)) M2))) : kX8_size13 (d + 1) v1 M Q := by
  refine Ct.of (cc := cX8_size13) (nL := 2) (by decide) rfl (Nat.le_of_ble_eq_true rfl) ?_
  show BX8_size13 (d + 1) 0 [(0, .ref 49), (1, .int v1)] [] M Q
  refine B_aload_n dX8_size13_0 0 rfl ?_
  refine B_bipush (v := 13) dX8_size13_1 (by decide) ?_
  refine B_callV (st := []) 49 [.int (13 : Int32)] dX8_size13_3 gX8_size13_X8_traces rfl hyX8_traces (Nat.le_of_ble_eq_true rfl) (Nat.le_of_ble_eq_true rfl) TX8 23 rfl (Nat.le_of_ble_eq_true rfl) (Nat.le_of_ble_eq_true rfl) rfl (Ct.mono h (Nat.le_refl _) (fun _r1 M1 h => ?_))
  refine B_aload_n dX8_size13_6 0 rfl ?_
  refine B_iload_n dX8_size13_7 1 rfl ?_
  refine B_callV (st := []) 49 [.int v1] dX8_size13_8 gX8_size13_X8_size10 rfl hyX8_size10 (Nat.le_of_ble_eq_true rfl) (Nat.le_of_ble_eq_true rfl) TX8 23 rfl (Nat.le_of_ble_eq_true rfl) (Nat.le_of_ble_eq_true rfl) rfl (Ct.mono h (Nat.le_refl _) (fun r2 M2 h => ?_))
  refine B_bipush (v := 100) dX8_size13_11 (by decide) ?_
  refine B_isub dX8_size13_13 ?_
  exact B_iret dX8_size13_14 h
set_option maxHeartbeats 4000000 in
set_option maxRecDepth 100000 in
theorem rX8_sizeOf (d : Nat) (v1 : Int32) (M : Mm) (Q : Int32 → Mm → Prop)
    (h : vp_in ((10 : Int32) + v1) 301 ∧ (((M 50 ((10 : Int32) + v1).toNatClampNeg) = 2 → kX8_traces d (12 : Int32) M (fun (_r1 : Int32) (M1 : Mm) => kX8_size11 d v1 M1 (fun (r2 : Int32) (M2 : Mm) => Q (-r2) M2))) ∧ ((M 50 ((10 : Int32) + v1).toNatClampNeg) = 4 → kX8_size13 d v1 M (fun (r3 : Int32) (M3 : Mm) => Q r3 M3)) ∧ ((M 50 ((10 : Int32) + v1).toNatClampNeg) = 5 → kX8_traces d (14 : Int32) M (fun (_r4 : Int32) (M4 : Mm) => kX8_size13 d v1 M4 (fun (r5 : Int32) (M5 : Mm) => Q ((2 : Int32) * r5) M5))) ∧ (¬ (M 50 ((10 : Int32) + v1).toNatClampNeg) = 2 ∧ ¬ (M 50 ((10 : Int32) + v1).toNatClampNeg) = 4 ∧ ¬ (M 50 ((10 : Int32) + v1).toNatClampNeg) = 5 → kX8_size11 d v1 M (fun (r6 : Int32) (M6 : Mm) => Q r6 M6)))) : kX8_sizeOf (d + 1) v1 M Q := by
  refine Ct.of (cc := cX8_sizeOf) (nL := 2) (by decide) rfl (Nat.le_of_ble_eq_true rfl) ?_
  show BX8_sizeOf (d + 1) 0 [(0, .ref 49), (1, .int v1)] [] M Q
  refine B_aload_n dX8_sizeOf_0 0 rfl ?_
  refine B_getf (T := TX8) (N := 23) (v := .ref 50) 49 0 dX8_sizeOf_1 inX8_sizeOf_8 lkX8_sizeOf_f7 (Nat.le_of_ble_eq_true rfl) (Nat.le_of_ble_eq_true rfl) rfl rfl (by decide) rfl ?_
  refine B_bipush (v := 10) dX8_sizeOf_4 (by decide) ?_
  refine B_iload_n dX8_sizeOf_6 1 rfl ?_
  refine B_iadd dX8_sizeOf_7 ?_
  obtain ⟨hi, h⟩ := h
  refine B_iald (n := 301) 50 dX8_sizeOf_8 (Nat.le_of_ble_eq_true rfl) rfl rfl hi ?_
  by_cases hc0 : (M 50 ((10 : Int32) + v1).toNatClampNeg) = 2
  · have h := h.1 hc0
    refine B_tabIn (tgt := 40) dX8_sizeOf_9 (by rw [hc0]; decide) (by rw [hc0]; decide) (by rw [hc0]; rfl) (by decide) ?_
    refine B_aload_n dX8_sizeOf_40 0 rfl ?_
    refine B_bipush (v := 12) dX8_sizeOf_41 (by decide) ?_
    refine B_callV (st := []) 49 [.int (12 : Int32)] dX8_sizeOf_43 gX8_sizeOf_X8_traces rfl hyX8_traces (Nat.le_of_ble_eq_true rfl) (Nat.le_of_ble_eq_true rfl) TX8 23 rfl (Nat.le_of_ble_eq_true rfl) (Nat.le_of_ble_eq_true rfl) rfl (Ct.mono h (Nat.le_refl _) (fun _r1 M1 h => ?_))
    refine B_aload_n dX8_sizeOf_46 0 rfl ?_
    refine B_iload_n dX8_sizeOf_47 1 rfl ?_
    refine B_callV (st := []) 49 [.int v1] dX8_sizeOf_48 gX8_sizeOf_X8_size11 rfl hyX8_size11 (Nat.le_of_ble_eq_true rfl) (Nat.le_of_ble_eq_true rfl) TX8 23 rfl (Nat.le_of_ble_eq_true rfl) (Nat.le_of_ble_eq_true rfl) rfl (Ct.mono h (Nat.le_refl _) (fun r2 M2 h => ?_))
    refine B_ineg dX8_sizeOf_51 ?_
    exact B_iret dX8_sizeOf_52 h
  ·
    by_cases hc1 : (M 50 ((10 : Int32) + v1).toNatClampNeg) = 4
    · have h := h.2.1 hc1
      refine B_tabIn (tgt := 53) dX8_sizeOf_9 (by rw [hc1]; decide) (by rw [hc1]; decide) (by rw [hc1]; rfl) (by decide) ?_
      refine B_aload_n dX8_sizeOf_53 0 rfl ?_
      refine B_iload_n dX8_sizeOf_54 1 rfl ?_
      refine B_callV (st := []) 49 [.int v1] dX8_sizeOf_55 gX8_sizeOf_X8_size13 rfl hyX8_size13 (Nat.le_of_ble_eq_true rfl) (Nat.le_of_ble_eq_true rfl) TX8 23 rfl (Nat.le_of_ble_eq_true rfl) (Nat.le_of_ble_eq_true rfl) rfl (Ct.mono h (Nat.le_refl _) (fun r3 M3 h => ?_))
      exact B_iret dX8_sizeOf_58 h
    ·
      by_cases hc2 : (M 50 ((10 : Int32) + v1).toNatClampNeg) = 5
      · have h := h.2.2.1 hc2
        refine B_tabIn (tgt := 59) dX8_sizeOf_9 (by rw [hc2]; decide) (by rw [hc2]; decide) (by rw [hc2]; rfl) (by decide) ?_
        refine B_aload_n dX8_sizeOf_59 0 rfl ?_
        refine B_bipush (v := 14) dX8_sizeOf_60 (by decide) ?_
        refine B_callV (st := []) 49 [.int (14 : Int32)] dX8_sizeOf_62 gX8_sizeOf_X8_traces rfl hyX8_traces (Nat.le_of_ble_eq_true rfl) (Nat.le_of_ble_eq_true rfl) TX8 23 rfl (Nat.le_of_ble_eq_true rfl) (Nat.le_of_ble_eq_true rfl) rfl (Ct.mono h (Nat.le_refl _) (fun _r4 M4 h => ?_))
        refine B_iconst (v := 2) dX8_sizeOf_65 (by decide) ?_
        refine B_aload_n dX8_sizeOf_66 0 rfl ?_
        refine B_iload_n dX8_sizeOf_67 1 rfl ?_
        refine B_callV (st := [.int (2 : Int32)]) 49 [.int v1] dX8_sizeOf_68 gX8_sizeOf_X8_size13 rfl hyX8_size13 (Nat.le_of_ble_eq_true rfl) (Nat.le_of_ble_eq_true rfl) TX8 23 rfl (Nat.le_of_ble_eq_true rfl) (Nat.le_of_ble_eq_true rfl) rfl (Ct.mono h (Nat.le_refl _) (fun r5 M5 h => ?_))
        refine B_imul dX8_sizeOf_71 ?_
        exact B_iret dX8_sizeOf_72 h
      ·
        have h := h.2.2.2 ⟨hc0, hc1, hc2⟩
        by_cases hd0 : (M 50 ((10 : Int32) + v1).toNatClampNeg) = 3
        · refine B_tabIn (tgt := 73) dX8_sizeOf_9 (by rw [hd0]; decide) (by rw [hd0]; decide) (by rw [hd0]; rfl) (by decide) ?_
          refine B_aload_n dX8_sizeOf_73 0 rfl ?_
          refine B_iload_n dX8_sizeOf_74 1 rfl ?_
          refine B_callV (st := []) 49 [.int v1] dX8_sizeOf_75 gX8_sizeOf_X8_size11 rfl hyX8_size11 (Nat.le_of_ble_eq_true rfl) (Nat.le_of_ble_eq_true rfl) TX8 23 rfl (Nat.le_of_ble_eq_true rfl) (Nat.le_of_ble_eq_true rfl) rfl (Ct.mono h (Nat.le_refl _) (fun r6 M6 h => ?_))
          exact B_iret dX8_sizeOf_78 h
        ·
          refine B_tabOut (tgt := 73) dX8_sizeOf_9 (by have e0 := lv_neT hc0 (a := 2) (by decide); have e1 := lv_neT hc1 (a := 4) (by decide); have e2 := lv_neT hc2 (a := 5) (by decide); have f0 := lv_neT hd0 (a := 3) (by decide); omega) (by decide) ?_
          refine B_aload_n dX8_sizeOf_73 0 rfl ?_
          refine B_iload_n dX8_sizeOf_74 1 rfl ?_
          refine B_callV (st := []) 49 [.int v1] dX8_sizeOf_75 gX8_sizeOf_X8_size11 rfl hyX8_size11 (Nat.le_of_ble_eq_true rfl) (Nat.le_of_ble_eq_true rfl) TX8 23 rfl (Nat.le_of_ble_eq_true rfl) (Nat.le_of_ble_eq_true rfl) rfl (Ct.mono h (Nat.le_refl _) (fun r6 M6 h => ?_))
          exact B_iret dX8_sizeOf_78 h
set_option maxHeartbeats 4000000 in
set_option maxRecDepth 100000 in
theorem rX8_mark20 (d : Nat) (v1 : Int32) (M : Mm) (Q : Int32 → Mm → Prop)
    (h : kX8_traces d (20 : Int32) M (fun (_r1 : Int32) (M1 : Mm) => Q v1 M1)) : kX8_mark20 (d + 1) v1 M Q := by
  refine Ct.of (cc := cX8_mark20) (nL := 2) (by decide) rfl (Nat.le_of_ble_eq_true rfl) ?_
  show BX8_mark20 (d + 1) 0 [(0, .ref 49), (1, .int v1)] [] M Q
  refine B_aload_n dX8_mark20_0 0 rfl ?_
  refine B_bipush (v := 20) dX8_mark20_1 (by decide) ?_
  refine B_callV (st := []) 49 [.int (20 : Int32)] dX8_mark20_3 gX8_mark20_X8_traces rfl hyX8_traces (Nat.le_of_ble_eq_true rfl) (Nat.le_of_ble_eq_true rfl) TX8 23 rfl (Nat.le_of_ble_eq_true rfl) (Nat.le_of_ble_eq_true rfl) rfl (Ct.mono h (Nat.le_refl _) (fun _r1 M1 h => ?_))
  refine B_iload_n dX8_mark20_6 1 rfl ?_
  exact B_iret dX8_mark20_7 h
set_option maxHeartbeats 4000000 in
set_option maxRecDepth 100000 in
theorem rX8_mark21 (d : Nat) (v1 : Int32) (M : Mm) (Q : Int32 → Mm → Prop)
    (h : kX8_traces d (21 : Int32) M (fun (_r1 : Int32) (M1 : Mm) => kX8_mark20 d v1 M1 (fun (r2 : Int32) (M2 : Mm) => kX8_noneOf d  M2 (fun (r3 : Int32) (M3 : Mm) => Q (r2 + r3) M3)))) : kX8_mark21 (d + 1) v1 M Q := by
  refine Ct.of (cc := cX8_mark21) (nL := 2) (by decide) rfl (Nat.le_of_ble_eq_true rfl) ?_
  show BX8_mark21 (d + 1) 0 [(0, .ref 49), (1, .int v1)] [] M Q
  refine B_aload_n dX8_mark21_0 0 rfl ?_
  refine B_bipush (v := 21) dX8_mark21_1 (by decide) ?_
  refine B_callV (st := []) 49 [.int (21 : Int32)] dX8_mark21_3 gX8_mark21_X8_traces rfl hyX8_traces (Nat.le_of_ble_eq_true rfl) (Nat.le_of_ble_eq_true rfl) TX8 23 rfl (Nat.le_of_ble_eq_true rfl) (Nat.le_of_ble_eq_true rfl) rfl (Ct.mono h (Nat.le_refl _) (fun _r1 M1 h => ?_))
  refine B_aload_n dX8_mark21_6 0 rfl ?_
  refine B_iload_n dX8_mark21_7 1 rfl ?_
  refine B_callV (st := []) 49 [.int v1] dX8_mark21_8 gX8_mark21_X8_mark20 rfl hyX8_mark20 (Nat.le_of_ble_eq_true rfl) (Nat.le_of_ble_eq_true rfl) TX8 23 rfl (Nat.le_of_ble_eq_true rfl) (Nat.le_of_ble_eq_true rfl) rfl (Ct.mono h (Nat.le_refl _) (fun r2 M2 h => ?_))
  refine B_aload_n dX8_mark21_11 0 rfl ?_
  refine B_callV (st := [.int r2]) 49 [] dX8_mark21_12 gX8_mark21_X8_noneOf rfl hyX8_noneOf (Nat.le_of_ble_eq_true rfl) (Nat.le_of_ble_eq_true rfl) TX8 23 rfl (Nat.le_of_ble_eq_true rfl) (Nat.le_of_ble_eq_true rfl) rfl (Ct.mono h (Nat.le_refl _) (fun r3 M3 h => ?_))
  refine B_iadd dX8_mark21_15 ?_
  exact B_iret dX8_mark21_16 h
set_option maxHeartbeats 4000000 in
set_option maxRecDepth 100000 in
theorem rX8_markOf (d : Nat) (v1 : Int32) (M : Mm) (Q : Int32 → Mm → Prop)
    (h : vp_in ((10 : Int32) + v1) 301 ∧ (((M 50 ((10 : Int32) + v1).toNatClampNeg) = 2 → kX8_traces d (24 : Int32) M (fun (_r1 : Int32) (M1 : Mm) => kX8_mark21 d v1 M1 (fun (r2 : Int32) (M2 : Mm) => Q ((2 : Int32) * r2) M2))) ∧ ((M 50 ((10 : Int32) + v1).toNatClampNeg) = 3 → kX8_traces d (22 : Int32) M (fun (_r3 : Int32) (M3 : Mm) => kX8_mark21 d v1 M3 (fun (r4 : Int32) (M4 : Mm) => Q (r4 - (1000 : Int32)) M4))) ∧ (¬ (M 50 ((10 : Int32) + v1).toNatClampNeg) = 2 ∧ ¬ (M 50 ((10 : Int32) + v1).toNatClampNeg) = 3 → kX8_mark21 d v1 M (fun (r5 : Int32) (M5 : Mm) => Q r5 M5)))) : kX8_markOf (d + 1) v1 M Q := by
  refine Ct.of (cc := cX8_markOf) (nL := 2) (by decide) rfl (Nat.le_of_ble_eq_true rfl) ?_
  show BX8_markOf (d + 1) 0 [(0, .ref 49), (1, .int v1)] [] M Q
  refine B_aload_n dX8_markOf_0 0 rfl ?_
  refine B_getf (T := TX8) (N := 23) (v := .ref 50) 49 0 dX8_markOf_1 inX8_markOf_8 lkX8_markOf_f7 (Nat.le_of_ble_eq_true rfl) (Nat.le_of_ble_eq_true rfl) rfl rfl (by decide) rfl ?_
  refine B_bipush (v := 10) dX8_markOf_4 (by decide) ?_
  refine B_iload_n dX8_markOf_6 1 rfl ?_
  refine B_iadd dX8_markOf_7 ?_
  obtain ⟨hi, h⟩ := h
  refine B_iald (n := 301) 50 dX8_markOf_8 (Nat.le_of_ble_eq_true rfl) rfl rfl hi ?_
  by_cases hc0 : (M 50 ((10 : Int32) + v1).toNatClampNeg) = 2
  · have h := h.1 hc0
    refine B_look (off := 27) (tgt := 36) dX8_markOf_9 (by decide) (by rw [hc0] <;> rfl) (by decide) ?_
    refine B_aload_n dX8_markOf_36 0 rfl ?_
    refine B_bipush (v := 24) dX8_markOf_37 (by decide) ?_
    refine B_callV (st := []) 49 [.int (24 : Int32)] dX8_markOf_39 gX8_markOf_X8_traces rfl hyX8_traces (Nat.le_of_ble_eq_true rfl) (Nat.le_of_ble_eq_true rfl) TX8 23 rfl (Nat.le_of_ble_eq_true rfl) (Nat.le_of_ble_eq_true rfl) rfl (Ct.mono h (Nat.le_refl _) (fun _r1 M1 h => ?_))
    refine B_iconst (v := 2) dX8_markOf_42 (by decide) ?_
    refine B_aload_n dX8_markOf_43 0 rfl ?_
    refine B_iload_n dX8_markOf_44 1 rfl ?_
    refine B_callV (st := [.int (2 : Int32)]) 49 [.int v1] dX8_markOf_45 gX8_markOf_X8_mark21 rfl hyX8_mark21 (Nat.le_of_ble_eq_true rfl) (Nat.le_of_ble_eq_true rfl) TX8 23 rfl (Nat.le_of_ble_eq_true rfl) (Nat.le_of_ble_eq_true rfl) rfl (Ct.mono h (Nat.le_refl _) (fun r2 M2 h => ?_))
    refine B_imul dX8_markOf_48 ?_
    exact B_iret dX8_markOf_49 h
  ·
    by_cases hc1 : (M 50 ((10 : Int32) + v1).toNatClampNeg) = 3
    · have h := h.2.1 hc1
      refine B_look (off := 41) (tgt := 50) dX8_markOf_9 (by decide) (by rw [hc1] <;> rfl) (by decide) ?_
      refine B_aload_n dX8_markOf_50 0 rfl ?_
      refine B_bipush (v := 22) dX8_markOf_51 (by decide) ?_
      refine B_callV (st := []) 49 [.int (22 : Int32)] dX8_markOf_53 gX8_markOf_X8_traces rfl hyX8_traces (Nat.le_of_ble_eq_true rfl) (Nat.le_of_ble_eq_true rfl) TX8 23 rfl (Nat.le_of_ble_eq_true rfl) (Nat.le_of_ble_eq_true rfl) rfl (Ct.mono h (Nat.le_refl _) (fun _r3 M3 h => ?_))
      refine B_aload_n dX8_markOf_56 0 rfl ?_
      refine B_iload_n dX8_markOf_57 1 rfl ?_
      refine B_callV (st := []) 49 [.int v1] dX8_markOf_58 gX8_markOf_X8_mark21 rfl hyX8_mark21 (Nat.le_of_ble_eq_true rfl) (Nat.le_of_ble_eq_true rfl) TX8 23 rfl (Nat.le_of_ble_eq_true rfl) (Nat.le_of_ble_eq_true rfl) rfl (Ct.mono h (Nat.le_refl _) (fun r4 M4 h => ?_))
      refine B_sipush (v := 1000) dX8_markOf_61 (by decide) ?_
      refine B_isub dX8_markOf_64 ?_
      exact B_iret dX8_markOf_65 h
    ·
      have h := h.2.2 ⟨hc0, hc1⟩
      refine B_look (off := 57) (tgt := 66) dX8_markOf_9 (by decide) (by rw [lv_osw hc0 (by decide), lv_osw hc1 (by decide)] <;> rfl) (by decide) ?_
      refine B_aload_n dX8_markOf_66 0 rfl ?_
      refine B_iload_n dX8_markOf_67 1 rfl ?_
      refine B_callV (st := []) 49 [.int v1] dX8_markOf_68 gX8_markOf_X8_mark21 rfl hyX8_mark21 (Nat.le_of_ble_eq_true rfl) (Nat.le_of_ble_eq_true rfl) TX8 23 rfl (Nat.le_of_ble_eq_true rfl) (Nat.le_of_ble_eq_true rfl) rfl (Ct.mono h (Nat.le_refl _) (fun r5 M5 h => ?_))
      exact B_iret dX8_markOf_71 h
set_option maxHeartbeats 4000000 in
set_option maxRecDepth 100000 in
theorem rX8_mark23 (d : Nat) (v1 : Int32) (M : Mm) (Q : Int32 → Mm → Prop)
    (h : kX8_traces d (23 : Int32) M (fun (_r1 : Int32) (M1 : Mm) => kX8_mark20 d v1 M1 (fun (r2 : Int32) (M2 : Mm) => kX8_sizeOf d v1 M2 (fun (r3 : Int32) (M3 : Mm) => Q (r2 - r3) M3)))) : kX8_mark23 (d + 1) v1 M Q := by
  refine Ct.of (cc := cX8_mark23) (nL := 3) (by decide) rfl (Nat.le_of_ble_eq_true rfl) ?_
  show BX8_mark23 (d + 1) 0 [(0, .ref 49), (1, .int v1)] [] M Q
  refine B_aload_n dX8_mark23_0 0 rfl ?_
  refine B_bipush (v := 23) dX8_mark23_1 (by decide) ?_
  refine B_callV (st := []) 49 [.int (23 : Int32)] dX8_mark23_3 gX8_mark23_X8_traces rfl hyX8_traces (Nat.le_of_ble_eq_true rfl) (Nat.le_of_ble_eq_true rfl) TX8 23 rfl (Nat.le_of_ble_eq_true rfl) (Nat.le_of_ble_eq_true rfl) rfl (Ct.mono h (Nat.le_refl _) (fun _r1 M1 h => ?_))
  refine B_aload_n dX8_mark23_6 0 rfl ?_
  refine B_iload_n dX8_mark23_7 1 rfl ?_
  refine B_callV (st := []) 49 [.int v1] dX8_mark23_8 gX8_mark23_X8_mark20 rfl hyX8_mark20 (Nat.le_of_ble_eq_true rfl) (Nat.le_of_ble_eq_true rfl) TX8 23 rfl (Nat.le_of_ble_eq_true rfl) (Nat.le_of_ble_eq_true rfl) rfl (Ct.mono h (Nat.le_refl _) (fun r2 M2 h => ?_))
  refine B_istore_n (lv1 := [(2, .int r2), (0, .ref 49), (1, .int v1)]) dX8_mark23_11 (by decide) rfl ?_
  refine B_iload_n dX8_mark23_12 0 rfl ?_
  refine B_aload_n dX8_mark23_13 1 rfl ?_
  refine B_iload_n dX8_mark23_14 2 rfl ?_
  refine B_callV (st := [.int r2]) 49 [.int v1] dX8_mark23_15 gX8_mark23_X8_sizeOf rfl hyX8_sizeOf (Nat.le_of_ble_eq_true rfl) (Nat.le_of_ble_eq_true rfl) TX8 23 rfl (Nat.le_of_ble_eq_true rfl) (Nat.le_of_ble_eq_true rfl) rfl (Ct.mono h (Nat.le_refl _) (fun r3 M3 h => ?_))
  refine B_isub dX8_mark23_18 ?_
  exact B_iret dX8_mark23_19 h
set_option maxHeartbeats 4000000 in
set_option maxRecDepth 100000 in
theorem rX8_ask (d : Nat) (v1 : Int32) (v2 : Int32) (M : Mm) (Q : Int32 → Mm → Prop)
    (h : kX8_isSaint d v1 M (fun (r1 : Int32) (M1 : Mm) => ((r1 = 0 → Q (-1000001 : Int32) M1) ∧ (¬ r1 = 0 → kX8_in d v2.toInt64 (0 : Int64) (1 : Int64) M1 (fun (r2 : Int32) (M2 : Mm) => ((¬ r2 = 0 → (∀ M3 : Mm, M3 = (upd2 M2 49 22 (0 : Int32)) → ((¬ v2 = 0 → vp_in ((10 : Int32) + v1) 301 ∧ (((M3 50 ((10 : Int32) + v1).toNatClampNeg) < (4 : Int32) → kX8_markOf d v1 M3 (fun (r3 : Int32) (M4 : Mm) => Q r3 M4)) ∧ (¬ (M3 50 ((10 : Int32) + v1).toNatClampNeg) < (4 : Int32) → kX8_mark23 d v1 M3 (fun (r4 : Int32) (M5 : Mm) => Q r4 M5)))) ∧ (v2 = 0 → kX8_sizeOf d v1 M3 (fun (r5 : Int32) (M6 : Mm) => Q r5 M6))))) ∧ (r2 = 0 → Q (-1000001 : Int32) M2))))))) : kX8_ask (d + 1) v1 v2 M Q := by
  refine Ct.of (cc := cX8_ask) (nL := 3) (by decide) rfl (Nat.le_of_ble_eq_true rfl) ?_
  show BX8_ask (d + 1) 0 [(0, .ref 49), (1, .int v1), (2, .int v2)] [] M Q
  refine B_aload_n dX8_ask_0 0 rfl ?_
  refine B_iload_n dX8_ask_1 1 rfl ?_
  refine B_callV (st := []) 49 [.int v1] dX8_ask_2 gX8_ask_X8_isSaint rfl hyX8_isSaint (Nat.le_of_ble_eq_true rfl) (Nat.le_of_ble_eq_true rfl) TX8 23 rfl (Nat.le_of_ble_eq_true rfl) (Nat.le_of_ble_eq_true rfl) rfl (Ct.mono h (Nat.le_refl _) (fun r1 M1 h => ?_))
  refine B_if_eq (tgt := 18) dX8_ask_5 (by decide) (fun hc => ?_) (fun hc => ?_)
  · have h := h.1 hc
    refine B_ldc (v := -1000001) dX8_ask_18 lkX8_ask_c72 ?_
    exact B_iret dX8_ask_20 h
  · have h := h.2 hc
    refine B_iload_n dX8_ask_8 2 rfl ?_
    refine B_i2l dX8_ask_9 ?_
    refine B_lconst (v := 0) dX8_ask_10 (by decide) ?_
    refine B_lconst (v := 1) dX8_ask_11 (by decide) ?_
    refine B_callS (st := []) [.long v2.toInt64, .long (0 : Int64), .long (1 : Int64)] dX8_ask_12 gX8_ask_X8_in rfl hyX8_in (Nat.le_of_ble_eq_true rfl) (Nat.le_of_ble_eq_true rfl) rfl (Ct.mono h (Nat.le_refl _) (fun r2 M2 h => ?_))
    refine B_if_ne (tgt := 21) dX8_ask_15 (by decide) (fun hc => ?_) (fun hc => ?_)
    · have h := h.1 hc
      refine B_aload_n dX8_ask_21 0 rfl ?_
      refine B_iconst (v := 0) dX8_ask_22 (by decide) ?_
      refine B_putf (T := TX8) (N := 23) 49 22 tyX8 tyX8_ok nmX8 dX8_ask_23 inX8_ask_8 lkX8_ask_f244 (Nat.le_of_ble_eq_true rfl) (Nat.le_of_ble_eq_true rfl) rfl rfl (by decide) rfl rfl (by decide +kernel) ?_
      have h := h _ rfl
      generalize (upd2 M2 49 22 (0 : Int32)) = M3 at h ⊢
      refine B_iload_n dX8_ask_26 2 rfl ?_
      refine B_if_ne (tgt := 38) dX8_ask_27 (by decide) (fun hc => ?_) (fun hc => ?_)
      · have h := h.1 hc
        refine B_aload_n dX8_ask_38 0 rfl ?_
        refine B_getf (T := TX8) (N := 23) (v := .ref 50) 49 0 dX8_ask_39 inX8_ask_8 lkX8_ask_f7 (Nat.le_of_ble_eq_true rfl) (Nat.le_of_ble_eq_true rfl) rfl rfl (by decide) rfl ?_
        refine B_bipush (v := 10) dX8_ask_42 (by decide) ?_
        refine B_iload_n dX8_ask_44 1 rfl ?_
        refine B_iadd dX8_ask_45 ?_
        obtain ⟨hi, h⟩ := h
        refine B_iald (n := 301) 50 dX8_ask_46 (Nat.le_of_ble_eq_true rfl) rfl rfl hi ?_
        refine B_iconst (v := 4) dX8_ask_47 (by decide) ?_
        refine B_icmp_lt (tgt := 59) dX8_ask_48 (by decide) (fun hc => ?_) (fun hc => ?_)
        · have h := h.1 hc
          refine B_aload_n dX8_ask_59 0 rfl ?_
          refine B_iload_n dX8_ask_60 1 rfl ?_
          refine B_callV (st := []) 49 [.int v1] dX8_ask_61 gX8_ask_X8_markOf rfl hyX8_markOf (Nat.le_of_ble_eq_true rfl) (Nat.le_of_ble_eq_true rfl) TX8 23 rfl (Nat.le_of_ble_eq_true rfl) (Nat.le_of_ble_eq_true rfl) rfl (Ct.mono h (Nat.le_refl _) (fun r3 M4 h => ?_))
          exact B_iret dX8_ask_64 h
        · have h := h.2 hc
          refine B_aload_n dX8_ask_51 0 rfl ?_
          refine B_iload_n dX8_ask_52 1 rfl ?_
          refine B_callV (st := []) 49 [.int v1] dX8_ask_53 gX8_ask_X8_mark23 rfl hyX8_mark23 (Nat.le_of_ble_eq_true rfl) (Nat.le_of_ble_eq_true rfl) TX8 23 rfl (Nat.le_of_ble_eq_true rfl) (Nat.le_of_ble_eq_true rfl) rfl (Ct.mono h (Nat.le_refl _) (fun r4 M5 h => ?_))
          refine B_goto (tgt := 64) dX8_ask_56 (by decide) ?_
          exact B_iret dX8_ask_64 h
      · have h := h.2 hc
        refine B_aload_n dX8_ask_30 0 rfl ?_
        refine B_iload_n dX8_ask_31 1 rfl ?_
        refine B_callV (st := []) 49 [.int v1] dX8_ask_32 gX8_ask_X8_sizeOf rfl hyX8_sizeOf (Nat.le_of_ble_eq_true rfl) (Nat.le_of_ble_eq_true rfl) TX8 23 rfl (Nat.le_of_ble_eq_true rfl) (Nat.le_of_ble_eq_true rfl) rfl (Ct.mono h (Nat.le_refl _) (fun r5 M6 h => ?_))
        refine B_goto (tgt := 64) dX8_ask_35 (by decide) ?_
        exact B_iret dX8_ask_64 h
    · have h := h.2 hc
      refine B_ldc (v := -1000001) dX8_ask_18 lkX8_ask_c72 ?_
      exact B_iret dX8_ask_20 h
set_option maxHeartbeats 4000000 in
set_option maxRecDepth 100000 in
theorem rX8_trace (d : Nat) (v1 : Int32) (M : Mm) (Q : Int32 → Mm → Prop)
    (h : kX8_in d v1.toInt64 (0 : Int64) (((M 49 22) - (1 : Int32)).toInt64) M (fun (r1 : Int32) (M1 : Mm) => ((r1 = 0 → Q (-1000000 : Int32) M1) ∧ (¬ r1 = 0 → vp_in v1 16 ∧ Q (M1 64 v1.toNatClampNeg) M1)))) : kX8_trace (d + 1) v1 M Q := by
  refine Ct.of (cc := cX8_trace) (nL := 2) (by decide) rfl (Nat.le_of_ble_eq_true rfl) ?_
  show BX8_trace (d + 1) 0 [(0, .ref 49), (1, .int v1)] [] M Q
  refine B_iload_n dX8_trace_0 1 rfl ?_
  refine B_i2l dX8_trace_1 ?_
  refine B_lconst (v := 0) dX8_trace_2 (by decide) ?_
  refine B_aload_n dX8_trace_3 0 rfl ?_
  refine B_getf (T := TX8) (N := 23) (v := .int (M 49 22)) 49 22 dX8_trace_4 inX8_trace_8 lkX8_trace_f244 (Nat.le_of_ble_eq_true rfl) (Nat.le_of_ble_eq_true rfl) rfl rfl (by decide) rfl ?_
  refine B_iconst (v := 1) dX8_trace_7 (by decide) ?_
  refine B_isub dX8_trace_8 ?_
  refine B_i2l dX8_trace_9 ?_
  refine B_callS (st := []) [.long v1.toInt64, .long (0 : Int64), .long ((M 49 22) - (1 : Int32)).toInt64] dX8_trace_10 gX8_trace_X8_in rfl hyX8_in (Nat.le_of_ble_eq_true rfl) (Nat.le_of_ble_eq_true rfl) rfl (Ct.mono h (Nat.le_refl _) (fun r1 M1 h => ?_))
  refine B_if_eq (tgt := 25) dX8_trace_13 (by decide) (fun hc => ?_) (fun hc => ?_)
  · have h := h.1 hc
    refine B_ldc (v := -1000000) dX8_trace_25 lkX8_trace_c163 ?_
    exact B_iret dX8_trace_27 h
  · have h := h.2 hc
    refine B_aload_n dX8_trace_16 0 rfl ?_
    refine B_getf (T := TX8) (N := 23) (v := .ref 64) 49 21 dX8_trace_17 inX8_trace_8 lkX8_trace_f52 (Nat.le_of_ble_eq_true rfl) (Nat.le_of_ble_eq_true rfl) rfl rfl (by decide) rfl ?_
    refine B_iload_n dX8_trace_20 1 rfl ?_
    obtain ⟨hi, h⟩ := h
    refine B_iald (n := 16) 64 dX8_trace_21 (Nat.le_of_ble_eq_true rfl) rfl rfl hi ?_
    refine B_goto (tgt := 27) dX8_trace_22 (by decide) ?_
    exact B_iret dX8_trace_27 h
set_option maxHeartbeats 4000000 in
set_option maxRecDepth 100000 in
theorem rX8_rowsThere (d : Nat)  (M : Mm) (Q : Int32 → Mm → Prop)
    (h : BX8_rowsThere d 4 [(0, .ref 49), (1, .int (0 : Int32)), (2, .int (0 : Int32))] [] M Q) : kX8_rowsThere d  M Q := by
  refine Ct.of (cc := cX8_rowsThere) (nL := 3) (by decide) rfl (Nat.le_of_ble_eq_true rfl) ?_
  show BX8_rowsThere d 0 [(0, .ref 49)] [] M Q
  refine B_iconst (v := 0) dX8_rowsThere_0 (by decide) ?_
  refine B_istore_n (lv1 := [(1, .int (0 : Int32)), (0, .ref 49)]) dX8_rowsThere_1 (by decide) rfl ?_
  refine B_iconst (v := 0) dX8_rowsThere_2 (by decide) ?_
  refine B_istore_n (lv1 := [(2, .int (0 : Int32)), (1, .int (0 : Int32)), (0, .ref 49)]) dX8_rowsThere_3 (by decide) rfl ?_
  refine B_weak [2, 1, 0] rfl ?_
  exact h
set_option maxHeartbeats 4000000 in
set_option maxRecDepth 100000 in
theorem rX8_rowsThere_4 (d : Nat) (v1 : Int32) (v2 : Int32) (M : Mm) (Q : Int32 → Mm → Prop)
    (h : (((8 : Int32) ≤ v2 → Q v1 M) ∧ (¬ (8 : Int32) ≤ v2 → vp_in v2 8 ∧ (((M 52 v2.toNatClampNeg) < 0 → BX8_rowsThere d 4 [(0, .ref 49), (1, .int (v1 + (0 : Int32))), (2, .int (v2 + (1 : Int32)))] [] M Q) ∧ (¬ (M 52 v2.toNatClampNeg) < 0 → BX8_rowsThere d 4 [(0, .ref 49), (1, .int (v1 + (1 : Int32))), (2, .int (v2 + (1 : Int32)))] [] M Q))))) : BX8_rowsThere d 4 [(0, .ref 49), (1, .int v1), (2, .int v2)] [] M Q := by
  refine B_iload_n dX8_rowsThere_4 2 rfl ?_
  refine B_bipush (v := 8) dX8_rowsThere_5 (by decide) ?_
  refine B_icmp_ge (tgt := 33) dX8_rowsThere_7 (by decide) (fun hc => ?_) (fun hc => ?_)
  · have h := h.1 hc
    refine B_iload_n dX8_rowsThere_33 1 rfl ?_
    exact B_iret dX8_rowsThere_34 h
  · have h := h.2 hc
    refine B_iload_n dX8_rowsThere_10 1 rfl ?_
    refine B_aload_n dX8_rowsThere_11 0 rfl ?_
    refine B_getf (T := TX8) (N := 23) (v := .ref 52) 49 6 dX8_rowsThere_12 inX8_rowsThere_8 lkX8_rowsThere_f16 (Nat.le_of_ble_eq_true rfl) (Nat.le_of_ble_eq_true rfl) rfl rfl (by decide) rfl ?_
    refine B_iload_n dX8_rowsThere_15 2 rfl ?_
    obtain ⟨hi, h⟩ := h
    refine B_iald (n := 8) 52 dX8_rowsThere_16 (Nat.le_of_ble_eq_true rfl) rfl rfl hi ?_
    refine B_if_lt (tgt := 24) dX8_rowsThere_17 (by decide) (fun hc => ?_) (fun hc => ?_)
    · have h := h.1 hc
      refine B_iconst (v := 0) dX8_rowsThere_24 (by decide) ?_
      refine B_iadd dX8_rowsThere_25 ?_
      refine B_istore_n (lv1 := [(1, .int (v1 + (0 : Int32))), (0, .ref 49), (2, .int v2)]) dX8_rowsThere_26 (by decide) rfl ?_
      refine B_iinc (lv1 := [(2, .int (v2 + (1 : Int32))), (1, .int (v1 + (0 : Int32))), (0, .ref 49)]) (v := (v2 + (1 : Int32))) dX8_rowsThere_27 2 rfl rfl (by decide) rfl ?_
      refine B_goto (tgt := 4) dX8_rowsThere_30 (by decide) ?_
      refine B_weak [2, 1, 0] rfl ?_
      exact h
    · have h := h.2 hc
      refine B_iconst (v := 1) dX8_rowsThere_20 (by decide) ?_
      refine B_goto (tgt := 25) dX8_rowsThere_21 (by decide) ?_
      refine B_iadd dX8_rowsThere_25 ?_
      refine B_istore_n (lv1 := [(1, .int (v1 + (1 : Int32))), (0, .ref 49), (2, .int v2)]) dX8_rowsThere_26 (by decide) rfl ?_
      refine B_iinc (lv1 := [(2, .int (v2 + (1 : Int32))), (1, .int (v1 + (1 : Int32))), (0, .ref 49)]) (v := (v2 + (1 : Int32))) dX8_rowsThere_27 2 rfl rfl (by decide) rfl ?_
      refine B_goto (tgt := 4) dX8_rowsThere_30 (by decide) ?_
      refine B_weak [2, 1, 0] rfl ?_
      exact h
set_option maxHeartbeats 4000000 in
set_option maxRecDepth 100000 in
theorem rX8_count (d : Nat) (v1 : Int32) (M : Mm) (Q : Int32 → Mm → Prop)
    (h : ((v1 = 0 → kX8_rowsThere d  M (fun (r1 : Int32) (M1 : Mm) => Q r1 M1)) ∧ (v1 = 1 → vp_in (0 : Int32) 301 ∧ Q (M 50 (0 : Int32).toNatClampNeg) M) ∧ (v1 = 2 → vp_in (2 : Int32) 301 ∧ Q (M 50 (2 : Int32).toNatClampNeg) M) ∧ (v1 = 3 → vp_in (1 : Int32) 301 ∧ Q (M 50 (1 : Int32).toNatClampNeg) M) ∧ (v1 = 4 → kX8_figures d (0 : Int32) M (fun (r2 : Int32) (M2 : Mm) => Q r2 M2)) ∧ (v1 = 5 → kX8_noneOf d  M (fun (r3 : Int32) (M3 : Mm) => Q r3 M3)) ∧ (v1 = 6 → Q (M 49 1) M) ∧ (v1 = 7 → Q (M 49 3) M) ∧ (¬ v1 = 0 ∧ ¬ v1 = 1 ∧ ¬ v1 = 2 ∧ ¬ v1 = 3 ∧ ¬ v1 = 4 ∧ ¬ v1 = 5 ∧ ¬ v1 = 6 ∧ ¬ v1 = 7 → Q (-1000001 : Int32) M))) : kX8_count (d + 1) v1 M Q := by
  refine Ct.of (cc := cX8_count) (nL := 2) (by decide) rfl (Nat.le_of_ble_eq_true rfl) ?_
  show BX8_count (d + 1) 0 [(0, .ref 49), (1, .int v1)] [] M Q
  refine B_iload_n dX8_count_0 1 rfl ?_
  by_cases hc0 : v1 = 0
  · have h := h.1 hc0
    refine B_tabIn (tgt := 48) dX8_count_1 (by rw [hc0]; decide) (by rw [hc0]; decide) (by rw [hc0]; rfl) (by decide) ?_
    refine B_aload_n dX8_count_48 0 rfl ?_
    refine B_callV (st := []) 49 [] dX8_count_49 gX8_count_X8_rowsThere rfl hyX8_rowsThere (Nat.le_of_ble_eq_true rfl) (Nat.le_of_ble_eq_true rfl) TX8 23 rfl (Nat.le_of_ble_eq_true rfl) (Nat.le_of_ble_eq_true rfl) rfl (Ct.mono h (Nat.le_refl _) (fun r1 M1 h => ?_))
    exact B_iret dX8_count_52 h
  ·
    by_cases hc1 : v1 = 1
    · have h := h.2.1 hc1
      refine B_tabIn (tgt := 53) dX8_count_1 (by rw [hc1]; decide) (by rw [hc1]; decide) (by rw [hc1]; rfl) (by decide) ?_
      refine B_aload_n dX8_count_53 0 rfl ?_
      refine B_getf (T := TX8) (N := 23) (v := .ref 50) 49 0 dX8_count_54 inX8_count_8 lkX8_count_f7 (Nat.le_of_ble_eq_true rfl) (Nat.le_of_ble_eq_true rfl) rfl rfl (by decide) rfl ?_
      refine B_iconst (v := 0) dX8_count_57 (by decide) ?_
      obtain ⟨hi, h⟩ := h
      refine B_iald (n := 301) 50 dX8_count_58 (Nat.le_of_ble_eq_true rfl) rfl rfl hi ?_
      exact B_iret dX8_count_59 h
    ·
      by_cases hc2 : v1 = 2
      · have h := h.2.2.1 hc2
        refine B_tabIn (tgt := 60) dX8_count_1 (by rw [hc2]; decide) (by rw [hc2]; decide) (by rw [hc2]; rfl) (by decide) ?_
        refine B_aload_n dX8_count_60 0 rfl ?_
        refine B_getf (T := TX8) (N := 23) (v := .ref 50) 49 0 dX8_count_61 inX8_count_8 lkX8_count_f7 (Nat.le_of_ble_eq_true rfl) (Nat.le_of_ble_eq_true rfl) rfl rfl (by decide) rfl ?_
        refine B_iconst (v := 2) dX8_count_64 (by decide) ?_
        obtain ⟨hi, h⟩ := h
        refine B_iald (n := 301) 50 dX8_count_65 (Nat.le_of_ble_eq_true rfl) rfl rfl hi ?_
        exact B_iret dX8_count_66 h
      ·
        by_cases hc3 : v1 = 3
        · have h := h.2.2.2.1 hc3
          refine B_tabIn (tgt := 67) dX8_count_1 (by rw [hc3]; decide) (by rw [hc3]; decide) (by rw [hc3]; rfl) (by decide) ?_
          refine B_aload_n dX8_count_67 0 rfl ?_
          refine B_getf (T := TX8) (N := 23) (v := .ref 50) 49 0 dX8_count_68 inX8_count_8 lkX8_count_f7 (Nat.le_of_ble_eq_true rfl) (Nat.le_of_ble_eq_true rfl) rfl rfl (by decide) rfl ?_
          refine B_iconst (v := 1) dX8_count_71 (by decide) ?_
          obtain ⟨hi, h⟩ := h
          refine B_iald (n := 301) 50 dX8_count_72 (Nat.le_of_ble_eq_true rfl) rfl rfl hi ?_
          exact B_iret dX8_count_73 h
        ·
          by_cases hc4 : v1 = 4
          · have h := h.2.2.2.2.1 hc4
            refine B_tabIn (tgt := 74) dX8_count_1 (by rw [hc4]; decide) (by rw [hc4]; decide) (by rw [hc4]; rfl) (by decide) ?_
            refine B_aload_n dX8_count_74 0 rfl ?_
            refine B_iconst (v := 0) dX8_count_75 (by decide) ?_
            refine B_callV (st := []) 49 [.int (0 : Int32)] dX8_count_76 gX8_count_X8_figures rfl hyX8_figures (Nat.le_of_ble_eq_true rfl) (Nat.le_of_ble_eq_true rfl) TX8 23 rfl (Nat.le_of_ble_eq_true rfl) (Nat.le_of_ble_eq_true rfl) rfl (Ct.mono h (Nat.le_refl _) (fun r2 M2 h => ?_))
            exact B_iret dX8_count_79 h
          ·
            by_cases hc5 : v1 = 5
            · have h := h.2.2.2.2.2.1 hc5
              refine B_tabIn (tgt := 80) dX8_count_1 (by rw [hc5]; decide) (by rw [hc5]; decide) (by rw [hc5]; rfl) (by decide) ?_
              refine B_aload_n dX8_count_80 0 rfl ?_
              refine B_callV (st := []) 49 [] dX8_count_81 gX8_count_X8_noneOf rfl hyX8_noneOf (Nat.le_of_ble_eq_true rfl) (Nat.le_of_ble_eq_true rfl) TX8 23 rfl (Nat.le_of_ble_eq_true rfl) (Nat.le_of_ble_eq_true rfl) rfl (Ct.mono h (Nat.le_refl _) (fun r3 M3 h => ?_))
              exact B_iret dX8_count_84 h
            ·
              by_cases hc6 : v1 = 6
              · have h := h.2.2.2.2.2.2.1 hc6
                refine B_tabIn (tgt := 85) dX8_count_1 (by rw [hc6]; decide) (by rw [hc6]; decide) (by rw [hc6]; rfl) (by decide) ?_
                refine B_aload_n dX8_count_85 0 rfl ?_
                refine B_getf (T := TX8) (N := 23) (v := .int (M 49 1)) 49 1 dX8_count_86 inX8_count_8 lkX8_count_f136 (Nat.le_of_ble_eq_true rfl) (Nat.le_of_ble_eq_true rfl) rfl rfl (by decide) rfl ?_
                exact B_iret dX8_count_89 h
              ·
                by_cases hc7 : v1 = 7
                · have h := h.2.2.2.2.2.2.2.1 hc7
                  refine B_tabIn (tgt := 90) dX8_count_1 (by rw [hc7]; decide) (by rw [hc7]; decide) (by rw [hc7]; rfl) (by decide) ?_
                  refine B_aload_n dX8_count_90 0 rfl ?_
                  refine B_getf (T := TX8) (N := 23) (v := .int (M 49 3)) 49 3 dX8_count_91 inX8_count_8 lkX8_count_f83 (Nat.le_of_ble_eq_true rfl) (Nat.le_of_ble_eq_true rfl) rfl rfl (by decide) rfl ?_
                  exact B_iret dX8_count_94 h
                ·
                  have h := h.2.2.2.2.2.2.2.2 ⟨hc0, hc1, hc2, hc3, hc4, hc5, hc6, hc7⟩
                  refine B_tabOut (tgt := 95) dX8_count_1 (by have e0 := lv_neT hc0 (a := 0) (by decide); have e1 := lv_neT hc1 (a := 1) (by decide); have e2 := lv_neT hc2 (a := 2) (by decide); have e3 := lv_neT hc3 (a := 3) (by decide); have e4 := lv_neT hc4 (a := 4) (by decide); have e5 := lv_neT hc5 (a := 5) (by decide); have e6 := lv_neT hc6 (a := 6) (by decide); have e7 := lv_neT hc7 (a := 7) (by decide); omega) (by decide) ?_
                  refine B_ldc (v := -1000001) dX8_count_95 lkX8_count_c72 ?_
                  exact B_iret dX8_count_97 h
set_option maxHeartbeats 4000000 in
set_option maxRecDepth 100000 in
theorem rX8_status (d : Nat)  (M : Mm) (Q : Int32 → Mm → Prop)
    (h : Q (M 49 5) M) : kX8_status d  M Q := by
  refine Ct.of (cc := cX8_status) (nL := 1) (by decide) rfl (Nat.le_of_ble_eq_true rfl) ?_
  show BX8_status d 0 [(0, .ref 49)] [] M Q
  refine B_aload_n dX8_status_0 0 rfl ?_
  refine B_getf (T := TX8) (N := 23) (v := .int (M 49 5)) 49 5 dX8_status_1 inX8_status_8 lkX8_status_f61 (Nat.le_of_ble_eq_true rfl) (Nat.le_of_ble_eq_true rfl) rfl rfl (by decide) rfl ?_
  exact B_iret dX8_status_4 h
