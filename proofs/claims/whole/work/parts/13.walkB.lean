set_option maxHeartbeats 4000000 in
set_option maxRecDepth 100000 in
theorem rX7_row (d : Nat) (v1 : Int32) (v2 : Int32) (v3 : Int32) (M : Mm) (Q : Int32 → Mm → Prop)
    (h : kX7_isRow d v1 M (fun (r1 : Int32) (M1 : Mm) => ((r1 = 0 → Q (-1000001 : Int32) M1) ∧ (¬ r1 = 0 → ((v2 < 0 → Q (-1000001 : Int32) M1) ∧ (¬ v2 < 0 → (((3 : Int32) ≤ v2 → Q (-1000001 : Int32) M1) ∧ (¬ (3 : Int32) ≤ v2 → ((v3 ≤ (40 : Int32) → ((0 ≤ v3 → (∀ M2 : Mm, M2 = (upd2 M1 0 10 (0 : Int32)) → vp_in v1 8 ∧ kX5_lay d (sh v1) v2 v3 M2 (fun (_r2 : Int32) (M3 : Mm) => Q v3 M3))) ∧ (¬ 0 ≤ v3 → kX7_found d (4 : Int32) M1 (fun (r3 : Int32) (M4 : Mm) => Q r3 M4)))) ∧ (¬ v3 ≤ (40 : Int32) → Q (-1000001 : Int32) M1)))))))))) : kX7_row (d + 1) v1 v2 v3 M Q := by
  refine Ct.of (cc := cX7_row) (nL := 4) (by decide) rfl (Nat.le_of_ble_eq_true rfl) ?_
  show BX7_row (d + 1) 0 [(0, .ref 0), (1, .int v1), (2, .int v2), (3, .int v3)] [] M Q
  refine B_iload_n dX7_row_0 1 rfl ?_
  refine B_callS (st := []) [.int v1] dX7_row_1 gX7_row_X7_isRow rfl hyX7_isRow (Nat.le_of_ble_eq_true rfl) (Nat.le_of_ble_eq_true rfl) rfl (Ct.mono h (Nat.le_refl _) (fun r1 M1 h => ?_))
  refine B_if_eq (tgt := 22) dX7_row_4 (by decide) (fun hc => ?_) (fun hc => ?_)
  · have h := h.1 hc
    refine B_ldc (v := -1000001) dX7_row_22 lkX7_row_c73 ?_
    exact B_iret dX7_row_24 h
  · have h := h.2 hc
    refine B_iload_n dX7_row_7 2 rfl ?_
    refine B_if_lt (tgt := 22) dX7_row_8 (by decide) (fun hc => ?_) (fun hc => ?_)
    · have h := h.1 hc
      refine B_ldc (v := -1000001) dX7_row_22 lkX7_row_c73 ?_
      exact B_iret dX7_row_24 h
    · have h := h.2 hc
      refine B_iload_n dX7_row_11 2 rfl ?_
      refine B_iconst (v := 3) dX7_row_12 (by decide) ?_
      refine B_icmp_ge (tgt := 22) dX7_row_13 (by decide) (fun hc => ?_) (fun hc => ?_)
      · have h := h.1 hc
        refine B_ldc (v := -1000001) dX7_row_22 lkX7_row_c73 ?_
        exact B_iret dX7_row_24 h
      · have h := h.2 hc
        refine B_iload_n dX7_row_16 3 rfl ?_
        refine B_bipush (v := 40) dX7_row_17 (by decide) ?_
        refine B_icmp_le (tgt := 25) dX7_row_19 (by decide) (fun hc => ?_) (fun hc => ?_)
        · have h := h.1 hc
          refine B_iload_n dX7_row_25 3 rfl ?_
          refine B_if_ge (tgt := 35) dX7_row_26 (by decide) (fun hc => ?_) (fun hc => ?_)
          · have h := h.1 hc
            refine B_aload_n dX7_row_35 0 rfl ?_
            refine B_iconst (v := 0) dX7_row_36 (by decide) ?_
            refine B_putf (T := TX7) (N := 11) 0 10 tyX7 tyX7_ok nmX7 dX7_row_37 inX7_row_7 lkX7_row_f78 (Nat.le_of_ble_eq_true rfl) (Nat.le_of_ble_eq_true rfl) rfl rfl (by decide) rfl rfl (by decide +kernel) ?_
            have h := h _ rfl
            generalize (upd2 M1 0 10 (0 : Int32)) = M2 at h ⊢
            refine B_aload_n dX7_row_40 0 rfl ?_
            refine B_getf (T := TX7) (N := 11) (v := .ref 1) 0 0 dX7_row_41 inX7_row_7 lkX7_row_f11 (Nat.le_of_ble_eq_true rfl) (Nat.le_of_ble_eq_true rfl) rfl rfl (by decide) rfl ?_
            refine B_iload_n dX7_row_44 1 rfl ?_
            obtain ⟨hi1, h⟩ := h
            refine B_aaS dX7_row_45 hi1 ?_
            refine B_iload_n dX7_row_46 2 rfl ?_
            refine B_iload_n dX7_row_47 3 rfl ?_
            refine B_callV (st := []) (sh v1) [.int v2, .int v3] dX7_row_48 gX7_row_X5_lay rfl hyX5_lay (sh_lt (sh_is hi1)) (sh_c9 (sh_is hi1)) TX5 3 (sh_cl (sh_is hi1)) (Nat.le_of_ble_eq_true rfl) (Nat.le_of_ble_eq_true rfl) rfl (Ct.mono h (Nat.le_refl _) (fun _r2 M3 h => ?_))
            refine B_iload_n dX7_row_51 3 rfl ?_
            exact B_iret dX7_row_52 h
          · have h := h.2 hc
            refine B_aload_n dX7_row_29 0 rfl ?_
            refine B_iconst (v := 4) dX7_row_30 (by decide) ?_
            refine B_callV (st := []) 0 [.int (4 : Int32)] dX7_row_31 gX7_row_X7_found rfl hyX7_found (Nat.le_of_ble_eq_true rfl) (Nat.le_of_ble_eq_true rfl) TX7 11 rfl (Nat.le_of_ble_eq_true rfl) (Nat.le_of_ble_eq_true rfl) rfl (Ct.mono h (Nat.le_refl _) (fun r3 M4 h => ?_))
            exact B_iret dX7_row_34 h
        · have h := h.2 hc
          refine B_ldc (v := -1000001) dX7_row_22 lkX7_row_c73 ?_
          exact B_iret dX7_row_24 h
set_option maxHeartbeats 4000000 in
set_option maxRecDepth 100000 in
theorem rX7_set (d : Nat) (v1 : Int32) (v2 : Int32) (v3 : Int32) (M : Mm) (Q : Int32 → Mm → Prop)
    (h : kX7_isRow d v1 M (fun (r1 : Int32) (M1 : Mm) => ((¬ r1 = 0 → kX7_findingOf d v1 v2 (1 : Int32) M1 (fun (r2 : Int32) (M2 : Mm) => ((r2 = 0 → (∀ M3 : Mm, M3 = (upd2 M2 0 10 (0 : Int32)) → vp_in v1 8 ∧ kX5_put d (sh v1) v2 v3 M3 (fun (r3 : Int32) (M4 : Mm) => Q r3 M4))) ∧ (¬ r2 = 0 → kX7_found d r2 M2 (fun (r4 : Int32) (M5 : Mm) => Q r4 M5))))) ∧ (r1 = 0 → Q (-1000001 : Int32) M1)))) : kX7_set (d + 1) v1 v2 v3 M Q := by
  refine Ct.of (cc := cX7_set) (nL := 5) (by decide) rfl (Nat.le_of_ble_eq_true rfl) ?_
  show BX7_set (d + 1) 0 [(0, .ref 0), (1, .int v1), (2, .int v2), (3, .int v3)] [] M Q
  refine B_iload_n dX7_set_0 1 rfl ?_
  refine B_callS (st := []) [.int v1] dX7_set_1 gX7_set_X7_isRow rfl hyX7_isRow (Nat.le_of_ble_eq_true rfl) (Nat.le_of_ble_eq_true rfl) rfl (Ct.mono h (Nat.le_refl _) (fun r1 M1 h => ?_))
  refine B_if_ne (tgt := 10) dX7_set_4 (by decide) (fun hc => ?_) (fun hc => ?_)
  · have h := h.1 hc
    refine B_aload_n dX7_set_10 0 rfl ?_
    refine B_iload_n dX7_set_11 1 rfl ?_
    refine B_iload_n dX7_set_12 2 rfl ?_
    refine B_iconst (v := 1) dX7_set_13 (by decide) ?_
    refine B_callV (st := []) 0 [.int v1, .int v2, .int (1 : Int32)] dX7_set_14 gX7_set_X7_findingOf rfl hyX7_findingOf (Nat.le_of_ble_eq_true rfl) (Nat.le_of_ble_eq_true rfl) TX7 11 rfl (Nat.le_of_ble_eq_true rfl) (Nat.le_of_ble_eq_true rfl) rfl (Ct.mono h (Nat.le_refl _) (fun r2 M2 h => ?_))
    refine B_istore (lv1 := [(4, .int r2), (0, .ref 0), (1, .int v1), (2, .int v2), (3, .int v3)]) dX7_set_17 (by decide) rfl ?_
    refine B_iload dX7_set_19 0 rfl ?_
    refine B_if_eq (tgt := 31) dX7_set_21 (by decide) (fun hc => ?_) (fun hc => ?_)
    · have h := h.1 hc
      refine B_aload_n dX7_set_31 1 rfl ?_
      refine B_iconst (v := 0) dX7_set_32 (by decide) ?_
      refine B_putf (T := TX7) (N := 11) 0 10 tyX7 tyX7_ok nmX7 dX7_set_33 inX7_set_7 lkX7_set_f78 (Nat.le_of_ble_eq_true rfl) (Nat.le_of_ble_eq_true rfl) rfl rfl (by decide) rfl rfl (by decide +kernel) ?_
      have h := h _ rfl
      generalize (upd2 M2 0 10 (0 : Int32)) = M3 at h ⊢
      refine B_aload_n dX7_set_36 1 rfl ?_
      refine B_getf (T := TX7) (N := 11) (v := .ref 1) 0 0 dX7_set_37 inX7_set_7 lkX7_set_f11 (Nat.le_of_ble_eq_true rfl) (Nat.le_of_ble_eq_true rfl) rfl rfl (by decide) rfl ?_
      refine B_iload_n dX7_set_40 2 rfl ?_
      obtain ⟨hi1, h⟩ := h
      refine B_aaS dX7_set_41 hi1 ?_
      refine B_iload_n dX7_set_42 3 rfl ?_
      refine B_iload_n dX7_set_43 4 rfl ?_
      refine B_callV (st := []) (sh v1) [.int v2, .int v3] dX7_set_44 gX7_set_X5_put rfl hyX5_put (sh_lt (sh_is hi1)) (sh_c9 (sh_is hi1)) TX5 3 (sh_cl (sh_is hi1)) (Nat.le_of_ble_eq_true rfl) (Nat.le_of_ble_eq_true rfl) rfl (Ct.mono h (Nat.le_refl _) (fun r3 M4 h => ?_))
      exact B_iret dX7_set_47 h
    · have h := h.2 hc
      refine B_aload_n dX7_set_24 1 rfl ?_
      refine B_iload dX7_set_25 0 rfl ?_
      refine B_callV (st := []) 0 [.int r2] dX7_set_27 gX7_set_X7_found rfl hyX7_found (Nat.le_of_ble_eq_true rfl) (Nat.le_of_ble_eq_true rfl) TX7 11 rfl (Nat.le_of_ble_eq_true rfl) (Nat.le_of_ble_eq_true rfl) rfl (Ct.mono h (Nat.le_refl _) (fun r4 M5 h => ?_))
      exact B_iret dX7_set_30 h
  · have h := h.2 hc
    refine B_ldc (v := -1000001) dX7_set_7 lkX7_set_c73 ?_
    exact B_iret dX7_set_9 h
set_option maxHeartbeats 4000000 in
set_option maxRecDepth 100000 in
theorem rX7_copy (d : Nat) (v1 : Int32) (v2 : Int32) (v3 : Int32) (v4 : Int32) (v5 : Int32) (M : Mm) (Q : Int32 → Mm → Prop)
    (h : kX7_isRow d v1 M (fun (r1 : Int32) (M1 : Mm) => ((r1 = 0 → Q (-1000001 : Int32) M1) ∧ (¬ r1 = 0 → kX7_isRow d v3 M1 (fun (r2 : Int32) (M2 : Mm) => ((¬ r2 = 0 → vp_in v1 8 ∧ vp_in v3 8 ∧ kX5_isMissing d (sh v1) M2 (fun (r3 : Int32) (M3 : Mm) => ((¬ r3 = 0 → BX7_copy (d + 1) 49 [(0, .ref 0)] [] M3 Q) ∧ (r3 = 0 → kX5_isMissing d (sh v3) M3 (fun (r4 : Int32) (M4 : Mm) => ((r4 = 0 → (((M4 (sh v1) 1) = (M4 (sh v3) 1) → kX5_has d (sh v1) v2 v5 M4 (fun (r5 : Int32) (M5 : Mm) => ((r5 = 0 → BX7_copy (d + 1) 97 [(0, .ref 0)] [] M5 Q) ∧ (¬ r5 = 0 → kX5_has d (sh v3) v4 v5 M5 (fun (r6 : Int32) (M6 : Mm) => ((¬ r6 = 0 → (∀ M7 : Mm, M7 = (upd2 M6 0 10 (0 : Int32)) → (¬ v2 < 0 ∧ ¬ v4 < 0 ∧ ¬ v5 < 0 ∧ v2.toNatClampNeg + v5.toNatClampNeg ≤ 40 ∧ v4.toNatClampNeg + v5.toNatClampNeg ≤ 40) ∧ (∀ M8 : Mm, M8 = (setR M7 ((sh v3) + 1) (va_cpy (M7 ((sh v1) + 1)) (M7 ((sh v3) + 1)) v2.toNatClampNeg v4.toNatClampNeg v5.toNatClampNeg)) → Q v5 M8))) ∧ (r6 = 0 → BX7_copy (d + 1) 97 [(0, .ref 0)] [] M6 Q))))))) ∧ (¬ (M4 (sh v1) 1) = (M4 (sh v3) 1) → kX7_found d (5 : Int32) M4 (fun (r7 : Int32) (M9 : Mm) => Q r7 M9)))) ∧ (¬ r4 = 0 → BX7_copy (d + 1) 49 [(0, .ref 0)] [] M4 Q))))))) ∧ (r2 = 0 → Q (-1000001 : Int32) M2))))))) : kX7_copy (d + 1) v1 v2 v3 v4 v5 M Q := by
  refine Ct.of (cc := cX7_copy) (nL := 8) (by decide) rfl (Nat.le_of_ble_eq_true rfl) ?_
  show BX7_copy (d + 1) 0 [(0, .ref 0), (1, .int v1), (2, .int v2), (3, .int v3), (4, .int v4), (5, .int v5)] [] M Q
  refine B_iload_n dX7_copy_0 1 rfl ?_
  refine B_callS (st := []) [.int v1] dX7_copy_1 gX7_copy_X7_isRow rfl hyX7_isRow (Nat.le_of_ble_eq_true rfl) (Nat.le_of_ble_eq_true rfl) rfl (Ct.mono h (Nat.le_refl _) (fun r1 M1 h => ?_))
  refine B_if_eq (tgt := 14) dX7_copy_4 (by decide) (fun hc => ?_) (fun hc => ?_)
  · have h := h.1 hc
    refine B_ldc (v := -1000001) dX7_copy_14 lkX7_copy_c73 ?_
    exact B_iret dX7_copy_16 h
  · have h := h.2 hc
    refine B_iload_n dX7_copy_7 3 rfl ?_
    refine B_callS (st := []) [.int v3] dX7_copy_8 gX7_copy_X7_isRow rfl hyX7_isRow (Nat.le_of_ble_eq_true rfl) (Nat.le_of_ble_eq_true rfl) rfl (Ct.mono h (Nat.le_refl _) (fun r2 M2 h => ?_))
    refine B_if_ne (tgt := 17) dX7_copy_11 (by decide) (fun hc => ?_) (fun hc => ?_)
    · have h := h.1 hc
      refine B_aload_n dX7_copy_17 0 rfl ?_
      refine B_getf (T := TX7) (N := 11) (v := .ref 1) 0 0 dX7_copy_18 inX7_copy_7 lkX7_copy_f11 (Nat.le_of_ble_eq_true rfl) (Nat.le_of_ble_eq_true rfl) rfl rfl (by decide) rfl ?_
      refine B_iload_n dX7_copy_21 1 rfl ?_
      obtain ⟨hi1, h⟩ := h
      refine B_aaS dX7_copy_22 hi1 ?_
      refine B_astore (lv1 := [(6, .ref (sh v1)), (0, .ref 0), (1, .int v1), (2, .int v2), (3, .int v3), (4, .int v4), (5, .int v5)]) dX7_copy_23 (by decide) rfl ?_
      refine B_aload_n dX7_copy_25 1 rfl ?_
      refine B_getf (T := TX7) (N := 11) (v := .ref 1) 0 0 dX7_copy_26 inX7_copy_7 lkX7_copy_f11 (Nat.le_of_ble_eq_true rfl) (Nat.le_of_ble_eq_true rfl) rfl rfl (by decide) rfl ?_
      refine B_iload_n dX7_copy_29 4 rfl ?_
      obtain ⟨hi2, h⟩ := h
      refine B_aaS dX7_copy_30 hi2 ?_
      refine B_astore (lv1 := [(7, .ref (sh v3)), (6, .ref (sh v1)), (0, .ref 0), (1, .int v1), (2, .int v2), (3, .int v3), (4, .int v4), (5, .int v5)]) dX7_copy_31 (by decide) rfl ?_
      refine B_aload dX7_copy_33 1 rfl ?_
      refine B_callV (st := []) (sh v1) [] dX7_copy_35 gX7_copy_X5_isMissing rfl hyX5_isMissing (sh_lt (sh_is hi1)) (sh_c9 (sh_is hi1)) TX5 3 (sh_cl (sh_is hi1)) (Nat.le_of_ble_eq_true rfl) (Nat.le_of_ble_eq_true rfl) rfl (Ct.mono h (Nat.le_refl _) (fun r3 M3 h => ?_))
      refine B_if_ne (tgt := 49) dX7_copy_38 (by decide) (fun hc => ?_) (fun hc => ?_)
      · have h := h.1 hc
        refine B_weak [2] rfl ?_
        exact h
      · have h := h.2 hc
        refine B_aload dX7_copy_41 0 rfl ?_
        refine B_callV (st := []) (sh v3) [] dX7_copy_43 gX7_copy_X5_isMissing rfl hyX5_isMissing (sh_lt (sh_is hi2)) (sh_c9 (sh_is hi2)) TX5 3 (sh_cl (sh_is hi2)) (Nat.le_of_ble_eq_true rfl) (Nat.le_of_ble_eq_true rfl) rfl (Ct.mono h (Nat.le_refl _) (fun r4 M4 h => ?_))
        refine B_if_eq (tgt := 55) dX7_copy_46 (by decide) (fun hc => ?_) (fun hc => ?_)
        · have h := h.1 hc
          refine B_aload dX7_copy_55 1 rfl ?_
          refine B_getf (T := TX5) (N := 3) (v := .int (M4 (sh v1) 1)) (sh v1) 1 dX7_copy_57 inX7_copy_5 lkX7_copy_f98 (sh_lt (sh_is hi1)) (sh_c9 (sh_is hi1)) (sh_cl (sh_is hi1)) (sh_nf (sh_is hi1)) (by decide) (sh_v1 (sh_is hi1)) ?_
          refine B_aload dX7_copy_60 0 rfl ?_
          refine B_getf (T := TX5) (N := 3) (v := .int (M4 (sh v3) 1)) (sh v3) 1 dX7_copy_62 inX7_copy_5 lkX7_copy_f98 (sh_lt (sh_is hi2)) (sh_c9 (sh_is hi2)) (sh_cl (sh_is hi2)) (sh_nf (sh_is hi2)) (by decide) (sh_v1 (sh_is hi2)) ?_
          refine B_icmp_eq (tgt := 74) dX7_copy_65 (by decide) (fun hc => ?_) (fun hc => ?_)
          · have h := h.1 hc
            refine B_aload dX7_copy_74 1 rfl ?_
            refine B_iload_n dX7_copy_76 4 rfl ?_
            refine B_iload dX7_copy_77 7 rfl ?_
            refine B_callV (st := []) (sh v1) [.int v2, .int v5] dX7_copy_79 gX7_copy_X5_has rfl hyX5_has (sh_lt (sh_is hi1)) (sh_c9 (sh_is hi1)) TX5 3 (sh_cl (sh_is hi1)) (Nat.le_of_ble_eq_true rfl) (Nat.le_of_ble_eq_true rfl) rfl (Ct.mono h (Nat.le_refl _) (fun r5 M5 h => ?_))
            refine B_if_eq (tgt := 97) dX7_copy_82 (by decide) (fun hc => ?_) (fun hc => ?_)
            · have h := h.1 hc
              refine B_weak [2] rfl ?_
              exact h
            · have h := h.2 hc
              refine B_aload dX7_copy_85 0 rfl ?_
              refine B_iload dX7_copy_87 6 rfl ?_
              refine B_iload dX7_copy_89 7 rfl ?_
              refine B_callV (st := []) (sh v3) [.int v4, .int v5] dX7_copy_91 gX7_copy_X5_has rfl hyX5_has (sh_lt (sh_is hi2)) (sh_c9 (sh_is hi2)) TX5 3 (sh_cl (sh_is hi2)) (Nat.le_of_ble_eq_true rfl) (Nat.le_of_ble_eq_true rfl) rfl (Ct.mono h (Nat.le_refl _) (fun r6 M6 h => ?_))
              refine B_if_ne (tgt := 103) dX7_copy_94 (by decide) (fun hc => ?_) (fun hc => ?_)
              · have h := h.1 hc
                refine B_aload_n dX7_copy_103 2 rfl ?_
                refine B_iconst (v := 0) dX7_copy_104 (by decide) ?_
                refine B_putf (T := TX7) (N := 11) 0 10 tyX7 tyX7_ok nmX7 dX7_copy_105 inX7_copy_7 lkX7_copy_f78 (Nat.le_of_ble_eq_true rfl) (Nat.le_of_ble_eq_true rfl) rfl rfl (by decide) rfl rfl (by decide +kernel) ?_
                have h := h _ rfl
                generalize (upd2 M6 0 10 (0 : Int32)) = M7 at h ⊢
                refine B_aload dX7_copy_108 1 rfl ?_
                refine B_getf (T := TX5) (N := 3) (v := .ref ((sh v1) + 1)) (sh v1) 0 dX7_copy_110 inX7_copy_5 lkX7_copy_f105 (sh_lt (sh_is hi1)) (sh_c9 (sh_is hi1)) (sh_cl (sh_is hi1)) (sh_nf (sh_is hi1)) (by decide) (sh_v0 (sh_is hi1)) ?_
                refine B_iload_n dX7_copy_113 4 rfl ?_
                refine B_aload dX7_copy_114 0 rfl ?_
                refine B_getf (T := TX5) (N := 3) (v := .ref ((sh v3) + 1)) (sh v3) 0 dX7_copy_116 inX7_copy_5 lkX7_copy_f105 (sh_lt (sh_is hi2)) (sh_c9 (sh_is hi2)) (sh_cl (sh_is hi2)) (sh_nf (sh_is hi2)) (by decide) (sh_v0 (sh_is hi2)) ?_
                refine B_iload dX7_copy_119 6 rfl ?_
                refine B_iload dX7_copy_121 7 rfl ?_
                obtain ⟨⟨g1, g2, g3, g4, g5⟩, h⟩ := h
                refine B_copy (n0 := 40) (n1 := 40) ((sh v1) + 1) ((sh v3) + 1) dX7_copy_123 lkX7_copy_m108 lkX7_copy_n0 lkX7_copy_s0 lkX7_copy_i0 (sh1_lt (sh_is hi1)) (sh1_c (sh_is hi1)) (sh1_n (sh_is hi1)) (sh1_lt (sh_is hi2)) (sh1_c (sh_is hi2)) (sh1_n (sh_is hi2)) g1 g2 g3 g4 g5 (Nat.le_of_ble_eq_true rfl) ?_
                have h := h _ rfl
                generalize (setR M7 ((sh v3) + 1) (va_cpy (M7 ((sh v1) + 1)) (M7 ((sh v3) + 1)) v2.toNatClampNeg v4.toNatClampNeg v5.toNatClampNeg)) = M8 at h ⊢
                refine B_iload dX7_copy_126 7 rfl ?_
                exact B_iret dX7_copy_128 h
              · have h := h.2 hc
                refine B_weak [2] rfl ?_
                exact h
          · have h := h.2 hc
            refine B_aload_n dX7_copy_68 2 rfl ?_
            refine B_iconst (v := 5) dX7_copy_69 (by decide) ?_
            refine B_callV (st := []) 0 [.int (5 : Int32)] dX7_copy_70 gX7_copy_X7_found rfl hyX7_found (Nat.le_of_ble_eq_true rfl) (Nat.le_of_ble_eq_true rfl) TX7 11 rfl (Nat.le_of_ble_eq_true rfl) (Nat.le_of_ble_eq_true rfl) rfl (Ct.mono h (Nat.le_refl _) (fun r7 M9 h => ?_))
            exact B_iret dX7_copy_73 h
        · have h := h.2 hc
          refine B_weak [2] rfl ?_
          exact h
    · have h := h.2 hc
      refine B_ldc (v := -1000001) dX7_copy_14 lkX7_copy_c73 ?_
      exact B_iret dX7_copy_16 h
set_option maxHeartbeats 4000000 in
set_option maxRecDepth 100000 in
theorem rX7_copy_49 (d : Nat)  (M : Mm) (Q : Int32 → Mm → Prop)
    (h : kX7_found d (1 : Int32) M (fun (r1 : Int32) (M1 : Mm) => Q r1 M1)) : BX7_copy (d + 1) 49 [(0, .ref 0)] [] M Q := by
  refine B_aload_n dX7_copy_49 0 rfl ?_
  refine B_iconst (v := 1) dX7_copy_50 (by decide) ?_
  refine B_callV (st := []) 0 [.int (1 : Int32)] dX7_copy_51 gX7_copy_X7_found rfl hyX7_found (Nat.le_of_ble_eq_true rfl) (Nat.le_of_ble_eq_true rfl) TX7 11 rfl (Nat.le_of_ble_eq_true rfl) (Nat.le_of_ble_eq_true rfl) rfl (Ct.mono h (Nat.le_refl _) (fun r1 M1 h => ?_))
  exact B_iret dX7_copy_54 h
set_option maxHeartbeats 4000000 in
set_option maxRecDepth 100000 in
theorem rX7_copy_97 (d : Nat)  (M : Mm) (Q : Int32 → Mm → Prop)
    (h : kX7_found d (2 : Int32) M (fun (r1 : Int32) (M1 : Mm) => Q r1 M1)) : BX7_copy (d + 1) 97 [(0, .ref 0)] [] M Q := by
  refine B_aload_n dX7_copy_97 0 rfl ?_
  refine B_iconst (v := 2) dX7_copy_98 (by decide) ?_
  refine B_callV (st := []) 0 [.int (2 : Int32)] dX7_copy_99 gX7_copy_X7_found rfl hyX7_found (Nat.le_of_ble_eq_true rfl) (Nat.le_of_ble_eq_true rfl) TX7 11 rfl (Nat.le_of_ble_eq_true rfl) (Nat.le_of_ble_eq_true rfl) rfl (Ct.mono h (Nat.le_refl _) (fun r1 M1 h => ?_))
  exact B_iret dX7_copy_102 h
set_option maxHeartbeats 4000000 in
set_option maxRecDepth 100000 in
theorem rX7_drop (d : Nat) (v1 : Int32) (M : Mm) (Q : Int32 → Mm → Prop)
    (h : kX7_isRow d v1 M (fun (r1 : Int32) (M1 : Mm) => ((¬ r1 = 0 → vp_in v1 8 ∧ kX5_isMissing d (sh v1) M1 (fun (r2 : Int32) (M2 : Mm) => ((r2 = 0 → (∀ M3 : Mm, M3 = (upd2 M2 0 10 (0 : Int32)) → vp_in v1 8 ∧ kX5_clear d (sh v1) M3 (fun (r3 : Int32) (M4 : Mm) => Q r3 M4))) ∧ (¬ r2 = 0 → kX7_found d (1 : Int32) M2 (fun (r4 : Int32) (M5 : Mm) => Q r4 M5))))) ∧ (r1 = 0 → Q (-1000001 : Int32) M1)))) : kX7_drop (d + 1) v1 M Q := by
  refine Ct.of (cc := cX7_drop) (nL := 2) (by decide) rfl (Nat.le_of_ble_eq_true rfl) ?_
  show BX7_drop (d + 1) 0 [(0, .ref 0), (1, .int v1)] [] M Q
  refine B_iload_n dX7_drop_0 1 rfl ?_
  refine B_callS (st := []) [.int v1] dX7_drop_1 gX7_drop_X7_isRow rfl hyX7_isRow (Nat.le_of_ble_eq_true rfl) (Nat.le_of_ble_eq_true rfl) rfl (Ct.mono h (Nat.le_refl _) (fun r1 M1 h => ?_))
  refine B_if_ne (tgt := 10) dX7_drop_4 (by decide) (fun hc => ?_) (fun hc => ?_)
  · have h := h.1 hc
    refine B_aload_n dX7_drop_10 0 rfl ?_
    refine B_getf (T := TX7) (N := 11) (v := .ref 1) 0 0 dX7_drop_11 inX7_drop_7 lkX7_drop_f11 (Nat.le_of_ble_eq_true rfl) (Nat.le_of_ble_eq_true rfl) rfl rfl (by decide) rfl ?_
    refine B_iload_n dX7_drop_14 1 rfl ?_
    obtain ⟨hi1, h⟩ := h
    refine B_aaS dX7_drop_15 hi1 ?_
    refine B_callV (st := []) (sh v1) [] dX7_drop_16 gX7_drop_X5_isMissing rfl hyX5_isMissing (sh_lt (sh_is hi1)) (sh_c9 (sh_is hi1)) TX5 3 (sh_cl (sh_is hi1)) (Nat.le_of_ble_eq_true rfl) (Nat.le_of_ble_eq_true rfl) rfl (Ct.mono h (Nat.le_refl _) (fun r2 M2 h => ?_))
    refine B_if_eq (tgt := 28) dX7_drop_19 (by decide) (fun hc => ?_) (fun hc => ?_)
    · have h := h.1 hc
      refine B_aload_n dX7_drop_28 0 rfl ?_
      refine B_iconst (v := 0) dX7_drop_29 (by decide) ?_
      refine B_putf (T := TX7) (N := 11) 0 10 tyX7 tyX7_ok nmX7 dX7_drop_30 inX7_drop_7 lkX7_drop_f78 (Nat.le_of_ble_eq_true rfl) (Nat.le_of_ble_eq_true rfl) rfl rfl (by decide) rfl rfl (by decide +kernel) ?_
      have h := h _ rfl
      generalize (upd2 M2 0 10 (0 : Int32)) = M3 at h ⊢
      refine B_aload_n dX7_drop_33 0 rfl ?_
      refine B_getf (T := TX7) (N := 11) (v := .ref 1) 0 0 dX7_drop_34 inX7_drop_7 lkX7_drop_f11 (Nat.le_of_ble_eq_true rfl) (Nat.le_of_ble_eq_true rfl) rfl rfl (by decide) rfl ?_
      refine B_iload_n dX7_drop_37 1 rfl ?_
      obtain ⟨hi2, h⟩ := h
      refine B_aaS dX7_drop_38 hi2 ?_
      refine B_callV (st := []) (sh v1) [] dX7_drop_39 gX7_drop_X5_clear rfl hyX5_clear (sh_lt (sh_is hi2)) (sh_c9 (sh_is hi2)) TX5 3 (sh_cl (sh_is hi2)) (Nat.le_of_ble_eq_true rfl) (Nat.le_of_ble_eq_true rfl) rfl (Ct.mono h (Nat.le_refl _) (fun r3 M4 h => ?_))
      exact B_iret dX7_drop_42 h
    · have h := h.2 hc
      refine B_aload_n dX7_drop_22 0 rfl ?_
      refine B_iconst (v := 1) dX7_drop_23 (by decide) ?_
      refine B_callV (st := []) 0 [.int (1 : Int32)] dX7_drop_24 gX7_drop_X7_found rfl hyX7_found (Nat.le_of_ble_eq_true rfl) (Nat.le_of_ble_eq_true rfl) TX7 11 rfl (Nat.le_of_ble_eq_true rfl) (Nat.le_of_ble_eq_true rfl) rfl (Ct.mono h (Nat.le_refl _) (fun r4 M5 h => ?_))
      exact B_iret dX7_drop_27 h
  · have h := h.2 hc
    refine B_ldc (v := -1000001) dX7_drop_7 lkX7_drop_c73 ?_
    exact B_iret dX7_drop_9 h
set_option maxHeartbeats 4000000 in
set_option maxRecDepth 100000 in
theorem rX7_feed (d : Nat) (v1 : Int32) (M : Mm) (Q : Int32 → Mm → Prop)
    (h : ((v1 < 0 → Q (-1000001 : Int32) M) ∧ (¬ v1 < 0 → ((v1 ≤ (255 : Int32) → kX6_add d v1 M (fun (r1 : Int32) (M1 : Mm) => ((r1 = 0 → Q (-1000003 : Int32) M1) ∧ (¬ r1 = 0 → Q (M1 18 3) M1)))) ∧ (¬ v1 ≤ (255 : Int32) → Q (-1000001 : Int32) M))))) : kX7_feed (d + 1) v1 M Q := by
  refine Ct.of (cc := cX7_feed) (nL := 2) (by decide) rfl (Nat.le_of_ble_eq_true rfl) ?_
  show BX7_feed (d + 1) 0 [(0, .ref 0), (1, .int v1)] [] M Q
  refine B_iload_n dX7_feed_0 1 rfl ?_
  refine B_if_lt (tgt := 11) dX7_feed_1 (by decide) (fun hc => ?_) (fun hc => ?_)
  · have h := h.1 hc
    refine B_ldc (v := -1000001) dX7_feed_11 lkX7_feed_c73 ?_
    exact B_iret dX7_feed_13 h
  · have h := h.2 hc
    refine B_iload_n dX7_feed_4 1 rfl ?_
    refine B_sipush (v := 255) dX7_feed_5 (by decide) ?_
    refine B_icmp_le (tgt := 14) dX7_feed_8 (by decide) (fun hc => ?_) (fun hc => ?_)
    · have h := h.1 hc
      refine B_aload_n dX7_feed_14 0 rfl ?_
      refine B_getf (T := TX7) (N := 11) (v := .ref 18) 0 1 dX7_feed_15 inX7_feed_7 lkX7_feed_f18 (Nat.le_of_ble_eq_true rfl) (Nat.le_of_ble_eq_true rfl) rfl rfl (by decide) rfl ?_
      refine B_iload_n dX7_feed_18 1 rfl ?_
      refine B_callV (st := []) 18 [.int v1] dX7_feed_19 gX7_feed_X6_add rfl hyX6_add (Nat.le_of_ble_eq_true rfl) (Nat.le_of_ble_eq_true rfl) TX6 5 rfl (Nat.le_of_ble_eq_true rfl) (Nat.le_of_ble_eq_true rfl) rfl (Ct.mono h (Nat.le_refl _) (fun r1 M1 h => ?_))
      refine B_if_eq (tgt := 35) dX7_feed_22 (by decide) (fun hc => ?_) (fun hc => ?_)
      · have h := h.1 hc
        refine B_ldc (v := -1000003) dX7_feed_35 lkX7_feed_c124 ?_
        exact B_iret dX7_feed_37 h
      · have h := h.2 hc
        refine B_aload_n dX7_feed_25 0 rfl ?_
        refine B_getf (T := TX7) (N := 11) (v := .ref 18) 0 1 dX7_feed_26 inX7_feed_7 lkX7_feed_f18 (Nat.le_of_ble_eq_true rfl) (Nat.le_of_ble_eq_true rfl) rfl rfl (by decide) rfl ?_
        refine B_getf (T := TX6) (N := 5) (v := .int (M1 18 3)) 18 3 dX7_feed_29 inX7_feed_6 lkX7_feed_f121 (Nat.le_of_ble_eq_true rfl) (Nat.le_of_ble_eq_true rfl) rfl rfl (by decide) rfl ?_
        refine B_goto (tgt := 37) dX7_feed_32 (by decide) ?_
        exact B_iret dX7_feed_37 h
    · have h := h.2 hc
      refine B_ldc (v := -1000001) dX7_feed_11 lkX7_feed_c73 ?_
      exact B_iret dX7_feed_13 h
set_option maxHeartbeats 4000000 in
set_option maxRecDepth 100000 in
theorem rX7_saints (d : Nat)  (M : Mm) (Q : Int32 → Mm → Prop)
    (h : kX6_read d  M (fun (r1 : Int32) (M1 : Mm) => ((r1 < 0 → kX4_become d 23 20 M1 (fun (_r2 : Int32) (M2 : Mm) => kX0_forget d  M2 (fun (_r3 : Int32) (M3 : Mm) => Q (M3 23 2) M3))) ∧ (¬ r1 < 0 → Q ((-1000100 : Int32) - r1) M1)))) : kX7_saints (d + 1)  M Q := by
  refine Ct.of (cc := cX7_saints) (nL := 2) (by decide) rfl (Nat.le_of_ble_eq_true rfl) ?_
  show BX7_saints (d + 1) 0 [(0, .ref 0)] [] M Q
  refine B_aload_n dX7_saints_0 0 rfl ?_
  refine B_getf (T := TX7) (N := 11) (v := .ref 18) 0 1 dX7_saints_1 inX7_saints_7 lkX7_saints_f18 (Nat.le_of_ble_eq_true rfl) (Nat.le_of_ble_eq_true rfl) rfl rfl (by decide) rfl ?_
  refine B_callV (st := []) 18 [] dX7_saints_4 gX7_saints_X6_read rfl hyX6_read (Nat.le_of_ble_eq_true rfl) (Nat.le_of_ble_eq_true rfl) TX6 5 rfl (Nat.le_of_ble_eq_true rfl) (Nat.le_of_ble_eq_true rfl) rfl (Ct.mono h (Nat.le_refl _) (fun r1 M1 h => ?_))
  refine B_istore_n (lv1 := [(1, .int r1), (0, .ref 0)]) dX7_saints_7 (by decide) rfl ?_
  refine B_iload_n dX7_saints_8 0 rfl ?_
  refine B_if_lt (tgt := 17) dX7_saints_9 (by decide) (fun hc => ?_) (fun hc => ?_)
  · have h := h.1 hc
    refine B_aload_n dX7_saints_17 1 rfl ?_
    refine B_getf (T := TX7) (N := 11) (v := .ref 23) 0 2 dX7_saints_18 inX7_saints_7 lkX7_saints_f25 (Nat.le_of_ble_eq_true rfl) (Nat.le_of_ble_eq_true rfl) rfl rfl (by decide) rfl ?_
    refine B_aload_n dX7_saints_21 1 rfl ?_
    refine B_getf (T := TX7) (N := 11) (v := .ref 18) 0 1 dX7_saints_22 inX7_saints_7 lkX7_saints_f18 (Nat.le_of_ble_eq_true rfl) (Nat.le_of_ble_eq_true rfl) rfl rfl (by decide) rfl ?_
    refine B_getf (T := TX6) (N := 5) (v := .ref 20) 18 1 dX7_saints_25 inX7_saints_6 lkX7_saints_f129 (Nat.le_of_ble_eq_true rfl) (Nat.le_of_ble_eq_true rfl) rfl rfl (by decide) rfl ?_
    refine B_callV (st := []) 23 [.ref 20] dX7_saints_28 gX7_saints_X4_become rfl hyX4_become (Nat.le_of_ble_eq_true rfl) (Nat.le_of_ble_eq_true rfl) TX4 5 rfl (Nat.le_of_ble_eq_true rfl) (Nat.le_of_ble_eq_true rfl) rfl (Ct.mono h (Nat.le_refl _) (fun _r2 M2 h => ?_))
    refine B_aload_n dX7_saints_31 1 rfl ?_
    refine B_getf (T := TX7) (N := 11) (v := .ref 36) 0 5 dX7_saints_32 inX7_saints_7 lkX7_saints_f39 (Nat.le_of_ble_eq_true rfl) (Nat.le_of_ble_eq_true rfl) rfl rfl (by decide) rfl ?_
    refine B_callV (st := []) 36 [] dX7_saints_35 gX7_saints_X0_forget rfl hyX0_forget (Nat.le_of_ble_eq_true rfl) (Nat.le_of_ble_eq_true rfl) TX0 5 rfl (Nat.le_of_ble_eq_true rfl) (Nat.le_of_ble_eq_true rfl) rfl (Ct.mono h (Nat.le_refl _) (fun _r3 M3 h => ?_))
    refine B_aload_n dX7_saints_38 1 rfl ?_
    refine B_getf (T := TX7) (N := 11) (v := .ref 23) 0 2 dX7_saints_39 inX7_saints_7 lkX7_saints_f25 (Nat.le_of_ble_eq_true rfl) (Nat.le_of_ble_eq_true rfl) rfl rfl (by decide) rfl ?_
    refine B_getf (T := TX4) (N := 5) (v := .int (M3 23 2)) 23 2 dX7_saints_42 inX7_saints_4 lkX7_saints_f139 (Nat.le_of_ble_eq_true rfl) (Nat.le_of_ble_eq_true rfl) rfl rfl (by decide) rfl ?_
    exact B_iret dX7_saints_45 h
  · have h := h.2 hc
    refine B_ldc (v := -1000100) dX7_saints_12 lkX7_saints_c128 ?_
    refine B_iload_n dX7_saints_14 0 rfl ?_
    refine B_isub dX7_saints_15 ?_
    exact B_iret dX7_saints_16 h
set_option maxHeartbeats 4000000 in
set_option maxRecDepth 100000 in
theorem rX7_fault (d : Nat)  (M : Mm) (Q : Int32 → Mm → Prop)
    (h : Q (M 18 4) M) : kX7_fault d  M Q := by
  refine Ct.of (cc := cX7_fault) (nL := 1) (by decide) rfl (Nat.le_of_ble_eq_true rfl) ?_
  show BX7_fault d 0 [(0, .ref 0)] [] M Q
  refine B_aload_n dX7_fault_0 0 rfl ?_
  refine B_getf (T := TX7) (N := 11) (v := .ref 18) 0 1 dX7_fault_1 inX7_fault_7 lkX7_fault_f18 (Nat.le_of_ble_eq_true rfl) (Nat.le_of_ble_eq_true rfl) rfl rfl (by decide) rfl ?_
  refine B_getf (T := TX6) (N := 5) (v := .int (M 18 4)) 18 4 dX7_fault_4 inX7_fault_6 lkX7_fault_f140 (Nat.le_of_ble_eq_true rfl) (Nat.le_of_ble_eq_true rfl) rfl rfl (by decide) rfl ?_
  exact B_iret dX7_fault_7 h
set_option maxHeartbeats 4000000 in
set_option maxRecDepth 100000 in
theorem rX7_steps (d : Nat) (v1 : Int32) (M : Mm) (Q : Int32 → Mm → Prop)
    (h : ((¬ (M 23 2) = 0 → ((v1 < (1 : Int32) → Q (-1000001 : Int32) M) ∧ (¬ v1 < (1 : Int32) → ((v1 ≤ (24 : Int32) → ((((M 23 3) + v1) ≤ (9999 : Int32) → BX7_steps (d + 1) 47 [(0, .ref 0), (1, .int v1), (2, .int (0 : Int32))] [] M Q) ∧ (¬ ((M 23 3) + v1) ≤ (9999 : Int32) → Q (-1000003 : Int32) M))) ∧ (¬ v1 ≤ (24 : Int32) → Q (-1000001 : Int32) M))))) ∧ ((M 23 2) = 0 → Q (-1000002 : Int32) M))) : kX7_steps (d + 1) v1 M Q := by
  refine Ct.of (cc := cX7_steps) (nL := 3) (by decide) rfl (Nat.le_of_ble_eq_true rfl) ?_
  show BX7_steps (d + 1) 0 [(0, .ref 0), (1, .int v1)] [] M Q
  refine B_aload_n dX7_steps_0 0 rfl ?_
  refine B_getf (T := TX7) (N := 11) (v := .ref 23) 0 2 dX7_steps_1 inX7_steps_7 lkX7_steps_f25 (Nat.le_of_ble_eq_true rfl) (Nat.le_of_ble_eq_true rfl) rfl rfl (by decide) rfl ?_
  refine B_getf (T := TX4) (N := 5) (v := .int (M 23 2)) 23 2 dX7_steps_4 inX7_steps_4 lkX7_steps_f139 (Nat.le_of_ble_eq_true rfl) (Nat.le_of_ble_eq_true rfl) rfl rfl (by decide) rfl ?_
  refine B_if_ne (tgt := 13) dX7_steps_7 (by decide) (fun hc => ?_) (fun hc => ?_)
  · have h := h.1 hc
    refine B_iload_n dX7_steps_13 1 rfl ?_
    refine B_iconst (v := 1) dX7_steps_14 (by decide) ?_
    refine B_icmp_lt (tgt := 24) dX7_steps_15 (by decide) (fun hc => ?_) (fun hc => ?_)
    · have h := h.1 hc
      refine B_ldc (v := -1000001) dX7_steps_24 lkX7_steps_c73 ?_
      exact B_iret dX7_steps_26 h
    · have h := h.2 hc
      refine B_iload_n dX7_steps_18 1 rfl ?_
      refine B_bipush (v := 24) dX7_steps_19 (by decide) ?_
      refine B_icmp_le (tgt := 27) dX7_steps_21 (by decide) (fun hc => ?_) (fun hc => ?_)
      · have h := h.1 hc
        refine B_aload_n dX7_steps_27 0 rfl ?_
        refine B_getf (T := TX7) (N := 11) (v := .ref 23) 0 2 dX7_steps_28 inX7_steps_7 lkX7_steps_f25 (Nat.le_of_ble_eq_true rfl) (Nat.le_of_ble_eq_true rfl) rfl rfl (by decide) rfl ?_
        refine B_getf (T := TX4) (N := 5) (v := .int (M 23 3)) 23 3 dX7_steps_31 inX7_steps_4 lkX7_steps_f144 (Nat.le_of_ble_eq_true rfl) (Nat.le_of_ble_eq_true rfl) rfl rfl (by decide) rfl ?_
        refine B_iload_n dX7_steps_34 1 rfl ?_
        refine B_iadd dX7_steps_35 ?_
        refine B_sipush (v := 9999) dX7_steps_36 (by decide) ?_
        refine B_icmp_le (tgt := 45) dX7_steps_39 (by decide) (fun hc => ?_) (fun hc => ?_)
        · have h := h.1 hc
          refine B_iconst (v := 0) dX7_steps_45 (by decide) ?_
          refine B_istore_n (lv1 := [(2, .int (0 : Int32)), (0, .ref 0), (1, .int v1)]) dX7_steps_46 (by decide) rfl ?_
          refine B_weak [1, 2, 0] rfl ?_
          exact h
        · have h := h.2 hc
          refine B_ldc (v := -1000003) dX7_steps_42 lkX7_steps_c124 ?_
          exact B_iret dX7_steps_44 h
      · have h := h.2 hc
        refine B_ldc (v := -1000001) dX7_steps_24 lkX7_steps_c73 ?_
        exact B_iret dX7_steps_26 h
  · have h := h.2 hc
    refine B_ldc (v := -1000002) dX7_steps_10 lkX7_steps_c143 ?_
    exact B_iret dX7_steps_12 h
set_option maxHeartbeats 4000000 in
set_option maxRecDepth 100000 in
theorem rX7_steps_47 (d : Nat) (v1 : Int32) (v2 : Int32) (M : Mm) (Q : Int32 → Mm → Prop)
    (h : ((v1 ≤ v2 → Q (M 23 3) M) ∧ (¬ v1 ≤ v2 → kX0_keep d 23 M (fun (_r1 : Int32) (M1 : Mm) => kX4_advance d 23 (0 : Int32) M1 (fun (_r2 : Int32) (M2 : Mm) => BX7_steps (d + 1) 47 [(0, .ref 0), (1, .int v1), (2, .int (v2 + (1 : Int32)))] [] M2 Q))))) : BX7_steps (d + 1) 47 [(0, .ref 0), (1, .int v1), (2, .int v2)] [] M Q := by
  refine B_iload_n dX7_steps_47 2 rfl ?_
  refine B_iload_n dX7_steps_48 1 rfl ?_
  refine B_icmp_ge (tgt := 77) dX7_steps_49 (by decide) (fun hc => ?_) (fun hc => ?_)
  · have h := h.1 hc
    refine B_aload_n dX7_steps_77 0 rfl ?_
    refine B_getf (T := TX7) (N := 11) (v := .ref 23) 0 2 dX7_steps_78 inX7_steps_7 lkX7_steps_f25 (Nat.le_of_ble_eq_true rfl) (Nat.le_of_ble_eq_true rfl) rfl rfl (by decide) rfl ?_
    refine B_getf (T := TX4) (N := 5) (v := .int (M 23 3)) 23 3 dX7_steps_81 inX7_steps_4 lkX7_steps_f144 (Nat.le_of_ble_eq_true rfl) (Nat.le_of_ble_eq_true rfl) rfl rfl (by decide) rfl ?_
    exact B_iret dX7_steps_84 h
  · have h := h.2 hc
    refine B_aload_n dX7_steps_52 0 rfl ?_
    refine B_getf (T := TX7) (N := 11) (v := .ref 36) 0 5 dX7_steps_53 inX7_steps_7 lkX7_steps_f39 (Nat.le_of_ble_eq_true rfl) (Nat.le_of_ble_eq_true rfl) rfl rfl (by decide) rfl ?_
    refine B_aload_n dX7_steps_56 0 rfl ?_
    refine B_getf (T := TX7) (N := 11) (v := .ref 23) 0 2 dX7_steps_57 inX7_steps_7 lkX7_steps_f25 (Nat.le_of_ble_eq_true rfl) (Nat.le_of_ble_eq_true rfl) rfl rfl (by decide) rfl ?_
    refine B_callV (st := []) 36 [.ref 23] dX7_steps_60 gX7_steps_X0_keep rfl hyX0_keep (Nat.le_of_ble_eq_true rfl) (Nat.le_of_ble_eq_true rfl) TX0 5 rfl (Nat.le_of_ble_eq_true rfl) (Nat.le_of_ble_eq_true rfl) rfl (Ct.mono h (Nat.le_refl _) (fun _r1 M1 h => ?_))
    refine B_aload_n dX7_steps_63 0 rfl ?_
    refine B_getf (T := TX7) (N := 11) (v := .ref 23) 0 2 dX7_steps_64 inX7_steps_7 lkX7_steps_f25 (Nat.le_of_ble_eq_true rfl) (Nat.le_of_ble_eq_true rfl) rfl rfl (by decide) rfl ?_
    refine B_iconst (v := 0) dX7_steps_67 (by decide) ?_
    refine B_callV (st := []) 23 [.int (0 : Int32)] dX7_steps_68 gX7_steps_X4_advance rfl hyX4_advance (Nat.le_of_ble_eq_true rfl) (Nat.le_of_ble_eq_true rfl) TX4 5 rfl (Nat.le_of_ble_eq_true rfl) (Nat.le_of_ble_eq_true rfl) rfl (Ct.mono h (Nat.le_refl _) (fun _r2 M2 h => ?_))
    refine B_iinc (lv1 := [(2, .int (v2 + (1 : Int32))), (0, .ref 0), (1, .int v1)]) (v := (v2 + (1 : Int32))) dX7_steps_71 2 rfl rfl (by decide) rfl ?_
    refine B_goto (tgt := 47) dX7_steps_74 (by decide) ?_
    refine B_weak [1, 2, 0] rfl ?_
    exact h
set_option maxHeartbeats 4000000 in
set_option maxRecDepth 100000 in
theorem rX7_swap (d : Nat) (v1 : Int32) (v2 : Int32) (M : Mm) (Q : Int32 → Mm → Prop)
    (h : kX4_isSaint d 23 v1 M (fun (r1 : Int32) (M1 : Mm) => ((r1 = 0 → Q (-1000001 : Int32) M1) ∧ (¬ r1 = 0 → kX4_isSaint d 23 v2 M1 (fun (r2 : Int32) (M2 : Mm) => ((r2 = 0 → Q (-1000001 : Int32) M2) ∧ (¬ r2 = 0 → ((¬ v1 = v2 → kX0_keep d 23 M2 (fun (_r3 : Int32) (M3 : Mm) => kX4_exchange d 23 v1 v2 M3 (fun (_r4 : Int32) (M4 : Mm) => vp_in v1 7 ∧ vp_in v2 7 ∧ Q (((10 : Int32) * (M4 25 v1.toNatClampNeg)) + (M4 25 v2.toNatClampNeg)) M4))) ∧ (v1 = v2 → Q (-1000001 : Int32) M2))))))))) : kX7_swap (d + 1) v1 v2 M Q := by
  refine Ct.of (cc := cX7_swap) (nL := 3) (by decide) rfl (Nat.le_of_ble_eq_true rfl) ?_
  show BX7_swap (d + 1) 0 [(0, .ref 0), (1, .int v1), (2, .int v2)] [] M Q
  refine B_aload_n dX7_swap_0 0 rfl ?_
  refine B_getf (T := TX7) (N := 11) (v := .ref 23) 0 2 dX7_swap_1 inX7_swap_7 lkX7_swap_f25 (Nat.le_of_ble_eq_true rfl) (Nat.le_of_ble_eq_true rfl) rfl rfl (by decide) rfl ?_
  refine B_iload_n dX7_swap_4 1 rfl ?_
  refine B_callV (st := []) 23 [.int v1] dX7_swap_5 gX7_swap_X4_isSaint rfl hyX4_isSaint (Nat.le_of_ble_eq_true rfl) (Nat.le_of_ble_eq_true rfl) TX4 5 rfl (Nat.le_of_ble_eq_true rfl) (Nat.le_of_ble_eq_true rfl) rfl (Ct.mono h (Nat.le_refl _) (fun r1 M1 h => ?_))
  refine B_if_eq (tgt := 27) dX7_swap_8 (by decide) (fun hc => ?_) (fun hc => ?_)
  · have h := h.1 hc
    refine B_ldc (v := -1000001) dX7_swap_27 lkX7_swap_c73 ?_
    exact B_iret dX7_swap_29 h
  · have h := h.2 hc
    refine B_aload_n dX7_swap_11 0 rfl ?_
    refine B_getf (T := TX7) (N := 11) (v := .ref 23) 0 2 dX7_swap_12 inX7_swap_7 lkX7_swap_f25 (Nat.le_of_ble_eq_true rfl) (Nat.le_of_ble_eq_true rfl) rfl rfl (by decide) rfl ?_
    refine B_iload_n dX7_swap_15 2 rfl ?_
    refine B_callV (st := []) 23 [.int v2] dX7_swap_16 gX7_swap_X4_isSaint rfl hyX4_isSaint (Nat.le_of_ble_eq_true rfl) (Nat.le_of_ble_eq_true rfl) TX4 5 rfl (Nat.le_of_ble_eq_true rfl) (Nat.le_of_ble_eq_true rfl) rfl (Ct.mono h (Nat.le_refl _) (fun r2 M2 h => ?_))
    refine B_if_eq (tgt := 27) dX7_swap_19 (by decide) (fun hc => ?_) (fun hc => ?_)
    · have h := h.1 hc
      refine B_ldc (v := -1000001) dX7_swap_27 lkX7_swap_c73 ?_
      exact B_iret dX7_swap_29 h
    · have h := h.2 hc
      refine B_iload_n dX7_swap_22 1 rfl ?_
      refine B_iload_n dX7_swap_23 2 rfl ?_
      refine B_icmp_ne (tgt := 30) dX7_swap_24 (by decide) (fun hc => ?_) (fun hc => ?_)
      · have h := h.1 hc
        refine B_aload_n dX7_swap_30 0 rfl ?_
        refine B_getf (T := TX7) (N := 11) (v := .ref 36) 0 5 dX7_swap_31 inX7_swap_7 lkX7_swap_f39 (Nat.le_of_ble_eq_true rfl) (Nat.le_of_ble_eq_true rfl) rfl rfl (by decide) rfl ?_
        refine B_aload_n dX7_swap_34 0 rfl ?_
        refine B_getf (T := TX7) (N := 11) (v := .ref 23) 0 2 dX7_swap_35 inX7_swap_7 lkX7_swap_f25 (Nat.le_of_ble_eq_true rfl) (Nat.le_of_ble_eq_true rfl) rfl rfl (by decide) rfl ?_
        refine B_callV (st := []) 36 [.ref 23] dX7_swap_38 gX7_swap_X0_keep rfl hyX0_keep (Nat.le_of_ble_eq_true rfl) (Nat.le_of_ble_eq_true rfl) TX0 5 rfl (Nat.le_of_ble_eq_true rfl) (Nat.le_of_ble_eq_true rfl) rfl (Ct.mono h (Nat.le_refl _) (fun _r3 M3 h => ?_))
        refine B_aload_n dX7_swap_41 0 rfl ?_
        refine B_getf (T := TX7) (N := 11) (v := .ref 23) 0 2 dX7_swap_42 inX7_swap_7 lkX7_swap_f25 (Nat.le_of_ble_eq_true rfl) (Nat.le_of_ble_eq_true rfl) rfl rfl (by decide) rfl ?_
        refine B_iload_n dX7_swap_45 1 rfl ?_
        refine B_iload_n dX7_swap_46 2 rfl ?_
        refine B_callV (st := []) 23 [.int v1, .int v2] dX7_swap_47 gX7_swap_X4_exchange rfl hyX4_exchange (Nat.le_of_ble_eq_true rfl) (Nat.le_of_ble_eq_true rfl) TX4 5 rfl (Nat.le_of_ble_eq_true rfl) (Nat.le_of_ble_eq_true rfl) rfl (Ct.mono h (Nat.le_refl _) (fun _r4 M4 h => ?_))
        refine B_bipush (v := 10) dX7_swap_50 (by decide) ?_
        refine B_aload_n dX7_swap_52 0 rfl ?_
        refine B_getf (T := TX7) (N := 11) (v := .ref 23) 0 2 dX7_swap_53 inX7_swap_7 lkX7_swap_f25 (Nat.le_of_ble_eq_true rfl) (Nat.le_of_ble_eq_true rfl) rfl rfl (by decide) rfl ?_
        refine B_getf (T := TX4) (N := 5) (v := .ref 25) 23 1 dX7_swap_56 inX7_swap_4 lkX7_swap_f160 (Nat.le_of_ble_eq_true rfl) (Nat.le_of_ble_eq_true rfl) rfl rfl (by decide) rfl ?_
        refine B_iload_n dX7_swap_59 1 rfl ?_
        obtain ⟨hi, h⟩ := h
        refine B_iald (n := 7) 25 dX7_swap_60 (Nat.le_of_ble_eq_true rfl) rfl rfl hi ?_
        refine B_imul dX7_swap_61 ?_
        refine B_aload_n dX7_swap_62 0 rfl ?_
        refine B_getf (T := TX7) (N := 11) (v := .ref 23) 0 2 dX7_swap_63 inX7_swap_7 lkX7_swap_f25 (Nat.le_of_ble_eq_true rfl) (Nat.le_of_ble_eq_true rfl) rfl rfl (by decide) rfl ?_
        refine B_getf (T := TX4) (N := 5) (v := .ref 25) 23 1 dX7_swap_66 inX7_swap_4 lkX7_swap_f160 (Nat.le_of_ble_eq_true rfl) (Nat.le_of_ble_eq_true rfl) rfl rfl (by decide) rfl ?_
        refine B_iload_n dX7_swap_69 2 rfl ?_
        obtain ⟨hi, h⟩ := h
        refine B_iald (n := 7) 25 dX7_swap_70 (Nat.le_of_ble_eq_true rfl) rfl rfl hi ?_
        refine B_iadd dX7_swap_71 ?_
        exact B_iret dX7_swap_72 h
      · have h := h.2 hc
        refine B_ldc (v := -1000001) dX7_swap_27 lkX7_swap_c73 ?_
        exact B_iret dX7_swap_29 h
set_option maxHeartbeats 4000000 in
set_option maxRecDepth 100000 in
theorem rX7_night (d : Nat) (v1 : Int32) (M : Mm) (Q : Int32 → Mm → Prop)
    (h : ((¬ (M 23 2) = 0 → ((v1 < (1 : Int32) → Q (-1000001 : Int32) M) ∧ (¬ v1 < (1 : Int32) → ((v1 ≤ (9 : Int32) → kX0_keep d 23 M (fun (_r1 : Int32) (M1 : Mm) => (∀ M2 : Mm, M2 = (upd2 M1 23 4 v1) → Q (M 23 4) M2))) ∧ (¬ v1 ≤ (9 : Int32) → Q (-1000001 : Int32) M))))) ∧ ((M 23 2) = 0 → Q (-1000002 : Int32) M))) : kX7_night (d + 1) v1 M Q := by
  refine Ct.of (cc := cX7_night) (nL := 3) (by decide) rfl (Nat.le_of_ble_eq_true rfl) ?_
  show BX7_night (d + 1) 0 [(0, .ref 0), (1, .int v1)] [] M Q
  refine B_aload_n dX7_night_0 0 rfl ?_
  refine B_getf (T := TX7) (N := 11) (v := .ref 23) 0 2 dX7_night_1 inX7_night_7 lkX7_night_f25 (Nat.le_of_ble_eq_true rfl) (Nat.le_of_ble_eq_true rfl) rfl rfl (by decide) rfl ?_
  refine B_getf (T := TX4) (N := 5) (v := .int (M 23 2)) 23 2 dX7_night_4 inX7_night_4 lkX7_night_f139 (Nat.le_of_ble_eq_true rfl) (Nat.le_of_ble_eq_true rfl) rfl rfl (by decide) rfl ?_
  refine B_if_ne (tgt := 13) dX7_night_7 (by decide) (fun hc => ?_) (fun hc => ?_)
  · have h := h.1 hc
    refine B_iload_n dX7_night_13 1 rfl ?_
    refine B_iconst (v := 1) dX7_night_14 (by decide) ?_
    refine B_icmp_lt (tgt := 24) dX7_night_15 (by decide) (fun hc => ?_) (fun hc => ?_)
    · have h := h.1 hc
      refine B_ldc (v := -1000001) dX7_night_24 lkX7_night_c73 ?_
      exact B_iret dX7_night_26 h
    · have h := h.2 hc
      refine B_iload_n dX7_night_18 1 rfl ?_
      refine B_bipush (v := 9) dX7_night_19 (by decide) ?_
      refine B_icmp_le (tgt := 27) dX7_night_21 (by decide) (fun hc => ?_) (fun hc => ?_)
      · have h := h.1 hc
        refine B_aload_n dX7_night_27 0 rfl ?_
        refine B_getf (T := TX7) (N := 11) (v := .ref 23) 0 2 dX7_night_28 inX7_night_7 lkX7_night_f25 (Nat.le_of_ble_eq_true rfl) (Nat.le_of_ble_eq_true rfl) rfl rfl (by decide) rfl ?_
        refine B_getf (T := TX4) (N := 5) (v := .int (M 23 4)) 23 4 dX7_night_31 inX7_night_4 lkX7_night_f163 (Nat.le_of_ble_eq_true rfl) (Nat.le_of_ble_eq_true rfl) rfl rfl (by decide) rfl ?_
        refine B_istore_n (lv1 := [(2, .int (M 23 4)), (0, .ref 0), (1, .int v1)]) dX7_night_34 (by decide) rfl ?_
        refine B_aload_n dX7_night_35 1 rfl ?_
        refine B_getf (T := TX7) (N := 11) (v := .ref 36) 0 5 dX7_night_36 inX7_night_7 lkX7_night_f39 (Nat.le_of_ble_eq_true rfl) (Nat.le_of_ble_eq_true rfl) rfl rfl (by decide) rfl ?_
        refine B_aload_n dX7_night_39 1 rfl ?_
        refine B_getf (T := TX7) (N := 11) (v := .ref 23) 0 2 dX7_night_40 inX7_night_7 lkX7_night_f25 (Nat.le_of_ble_eq_true rfl) (Nat.le_of_ble_eq_true rfl) rfl rfl (by decide) rfl ?_
        refine B_callV (st := []) 36 [.ref 23] dX7_night_43 gX7_night_X0_keep rfl hyX0_keep (Nat.le_of_ble_eq_true rfl) (Nat.le_of_ble_eq_true rfl) TX0 5 rfl (Nat.le_of_ble_eq_true rfl) (Nat.le_of_ble_eq_true rfl) rfl (Ct.mono h (Nat.le_refl _) (fun _r1 M1 h => ?_))
        refine B_aload_n dX7_night_46 1 rfl ?_
        refine B_getf (T := TX7) (N := 11) (v := .ref 23) 0 2 dX7_night_47 inX7_night_7 lkX7_night_f25 (Nat.le_of_ble_eq_true rfl) (Nat.le_of_ble_eq_true rfl) rfl rfl (by decide) rfl ?_
        refine B_iload_n dX7_night_50 2 rfl ?_
        refine B_putf (T := TX4) (N := 5) 23 4 tyX4 tyX4_ok nmX4 dX7_night_51 inX7_night_4 lkX7_night_f163 (Nat.le_of_ble_eq_true rfl) (Nat.le_of_ble_eq_true rfl) rfl rfl (by decide) rfl rfl (by decide +kernel) ?_
        have h := h _ rfl
        generalize (upd2 M1 23 4 v1) = M2 at h ⊢
        refine B_iload_n dX7_night_54 0 rfl ?_
        exact B_iret dX7_night_55 h
      · have h := h.2 hc
        refine B_ldc (v := -1000001) dX7_night_24 lkX7_night_c73 ?_
        exact B_iret dX7_night_26 h
  · have h := h.2 hc
    refine B_ldc (v := -1000002) dX7_night_10 lkX7_night_c143 ?_
    exact B_iret dX7_night_12 h
set_option maxHeartbeats 4000000 in
set_option maxRecDepth 100000 in
theorem rX7_undo (d : Nat)  (M : Mm) (Q : Int32 → Mm → Prop)
    (h : ((¬ (M 36 4) = 0 → kX0_takeBack d 23 M (fun (_r1 : Int32) (M1 : Mm) => Q (M1 36 4) M1)) ∧ ((M 36 4) = 0 → Q (-1000002 : Int32) M))) : kX7_undo (d + 1)  M Q := by
  refine Ct.of (cc := cX7_undo) (nL := 1) (by decide) rfl (Nat.le_of_ble_eq_true rfl) ?_
  show BX7_undo (d + 1) 0 [(0, .ref 0)] [] M Q
  refine B_aload_n dX7_undo_0 0 rfl ?_
  refine B_getf (T := TX7) (N := 11) (v := .ref 36) 0 5 dX7_undo_1 inX7_undo_7 lkX7_undo_f39 (Nat.le_of_ble_eq_true rfl) (Nat.le_of_ble_eq_true rfl) rfl rfl (by decide) rfl ?_
  refine B_getf (T := TX0) (N := 5) (v := .int (M 36 4)) 36 4 dX7_undo_4 inX7_undo_0 lkX7_undo_f166 (Nat.le_of_ble_eq_true rfl) (Nat.le_of_ble_eq_true rfl) rfl rfl (by decide) rfl ?_
  refine B_if_ne (tgt := 13) dX7_undo_7 (by decide) (fun hc => ?_) (fun hc => ?_)
  · have h := h.1 hc
    refine B_aload_n dX7_undo_13 0 rfl ?_
    refine B_getf (T := TX7) (N := 11) (v := .ref 36) 0 5 dX7_undo_14 inX7_undo_7 lkX7_undo_f39 (Nat.le_of_ble_eq_true rfl) (Nat.le_of_ble_eq_true rfl) rfl rfl (by decide) rfl ?_
    refine B_aload_n dX7_undo_17 0 rfl ?_
    refine B_getf (T := TX7) (N := 11) (v := .ref 23) 0 2 dX7_undo_18 inX7_undo_7 lkX7_undo_f25 (Nat.le_of_ble_eq_true rfl) (Nat.le_of_ble_eq_true rfl) rfl rfl (by decide) rfl ?_
    refine B_callV (st := []) 36 [.ref 23] dX7_undo_21 gX7_undo_X0_takeBack rfl hyX0_takeBack (Nat.le_of_ble_eq_true rfl) (Nat.le_of_ble_eq_true rfl) TX0 5 rfl (Nat.le_of_ble_eq_true rfl) (Nat.le_of_ble_eq_true rfl) rfl (Ct.mono h (Nat.le_refl _) (fun _r1 M1 h => ?_))
    refine B_aload_n dX7_undo_24 0 rfl ?_
    refine B_getf (T := TX7) (N := 11) (v := .ref 36) 0 5 dX7_undo_25 inX7_undo_7 lkX7_undo_f39 (Nat.le_of_ble_eq_true rfl) (Nat.le_of_ble_eq_true rfl) rfl rfl (by decide) rfl ?_
    refine B_getf (T := TX0) (N := 5) (v := .int (M1 36 4)) 36 4 dX7_undo_28 inX7_undo_0 lkX7_undo_f166 (Nat.le_of_ble_eq_true rfl) (Nat.le_of_ble_eq_true rfl) rfl rfl (by decide) rfl ?_
    exact B_iret dX7_undo_31 h
  · have h := h.2 hc
    refine B_ldc (v := -1000002) dX7_undo_10 lkX7_undo_c143 ?_
    exact B_iret dX7_undo_12 h
set_option maxHeartbeats 4000000 in
set_option maxRecDepth 100000 in
theorem rX7_saint (d : Nat) (v1 : Int32) (v2 : Int32) (M : Mm) (Q : Int32 → Mm → Prop)
    (h : kX4_isSaint d 23 v1 M (fun (r1 : Int32) (M1 : Mm) => ((r1 = 0 → Q (-1000001 : Int32) M1) ∧ (¬ r1 = 0 → kX7_isFirstOrSecond d v2 M1 (fun (r2 : Int32) (M2 : Mm) => ((¬ r2 = 0 → ((¬ v2 = 0 → kX4_lets d 23 v1 M2 (fun (r3 : Int32) (M3 : Mm) => ((r3 = 0 → Q (0 : Int32) M3) ∧ (¬ r3 = 0 → Q (1 : Int32) M3)))) ∧ (v2 = 0 → vp_in v1 7 ∧ Q (M2 25 v1.toNatClampNeg) M2))) ∧ (r2 = 0 → Q (-1000001 : Int32) M2))))))) : kX7_saint (d + 1) v1 v2 M Q := by
  refine Ct.of (cc := cX7_saint) (nL := 3) (by decide) rfl (Nat.le_of_ble_eq_true rfl) ?_
  show BX7_saint (d + 1) 0 [(0, .ref 0), (1, .int v1), (2, .int v2)] [] M Q
  refine B_aload_n dX7_saint_0 0 rfl ?_
  refine B_getf (T := TX7) (N := 11) (v := .ref 23) 0 2 dX7_saint_1 inX7_saint_7 lkX7_saint_f25 (Nat.le_of_ble_eq_true rfl) (Nat.le_of_ble_eq_true rfl) rfl rfl (by decide) rfl ?_
  refine B_iload_n dX7_saint_4 1 rfl ?_
  refine B_callV (st := []) 23 [.int v1] dX7_saint_5 gX7_saint_X4_isSaint rfl hyX4_isSaint (Nat.le_of_ble_eq_true rfl) (Nat.le_of_ble_eq_true rfl) TX4 5 rfl (Nat.le_of_ble_eq_true rfl) (Nat.le_of_ble_eq_true rfl) rfl (Ct.mono h (Nat.le_refl _) (fun r1 M1 h => ?_))
  refine B_if_eq (tgt := 18) dX7_saint_8 (by decide) (fun hc => ?_) (fun hc => ?_)
  · have h := h.1 hc
    refine B_ldc (v := -1000001) dX7_saint_18 lkX7_saint_c73 ?_
    exact B_iret dX7_saint_20 h
  · have h := h.2 hc
    refine B_iload_n dX7_saint_11 2 rfl ?_
    refine B_callS (st := []) [.int v2] dX7_saint_12 gX7_saint_X7_isFirstOrSecond rfl hyX7_isFirstOrSecond (Nat.le_of_ble_eq_true rfl) (Nat.le_of_ble_eq_true rfl) rfl (Ct.mono h (Nat.le_refl _) (fun r2 M2 h => ?_))
    refine B_if_ne (tgt := 21) dX7_saint_15 (by decide) (fun hc => ?_) (fun hc => ?_)
    · have h := h.1 hc
      refine B_iload_n dX7_saint_21 2 rfl ?_
      refine B_if_ne (tgt := 35) dX7_saint_22 (by decide) (fun hc => ?_) (fun hc => ?_)
      · have h := h.1 hc
        refine B_aload_n dX7_saint_35 0 rfl ?_
        refine B_getf (T := TX7) (N := 11) (v := .ref 23) 0 2 dX7_saint_36 inX7_saint_7 lkX7_saint_f25 (Nat.le_of_ble_eq_true rfl) (Nat.le_of_ble_eq_true rfl) rfl rfl (by decide) rfl ?_
        refine B_iload_n dX7_saint_39 1 rfl ?_
        refine B_callV (st := []) 23 [.int v1] dX7_saint_40 gX7_saint_X4_lets rfl hyX4_lets (Nat.le_of_ble_eq_true rfl) (Nat.le_of_ble_eq_true rfl) TX4 5 rfl (Nat.le_of_ble_eq_true rfl) (Nat.le_of_ble_eq_true rfl) rfl (Ct.mono h (Nat.le_refl _) (fun r3 M3 h => ?_))
        refine B_if_eq (tgt := 50) dX7_saint_43 (by decide) (fun hc => ?_) (fun hc => ?_)
        · have h := h.1 hc
          refine B_iconst (v := 0) dX7_saint_50 (by decide) ?_
          exact B_iret dX7_saint_51 h
        · have h := h.2 hc
          refine B_iconst (v := 1) dX7_saint_46 (by decide) ?_
          refine B_goto (tgt := 51) dX7_saint_47 (by decide) ?_
          exact B_iret dX7_saint_51 h
      · have h := h.2 hc
        refine B_aload_n dX7_saint_25 0 rfl ?_
        refine B_getf (T := TX7) (N := 11) (v := .ref 23) 0 2 dX7_saint_26 inX7_saint_7 lkX7_saint_f25 (Nat.le_of_ble_eq_true rfl) (Nat.le_of_ble_eq_true rfl) rfl rfl (by decide) rfl ?_
        refine B_getf (T := TX4) (N := 5) (v := .ref 25) 23 1 dX7_saint_29 inX7_saint_4 lkX7_saint_f160 (Nat.le_of_ble_eq_true rfl) (Nat.le_of_ble_eq_true rfl) rfl rfl (by decide) rfl ?_
        refine B_iload_n dX7_saint_32 1 rfl ?_
        obtain ⟨hi, h⟩ := h
        refine B_iald (n := 7) 25 dX7_saint_33 (Nat.le_of_ble_eq_true rfl) rfl rfl hi ?_
        exact B_iret dX7_saint_34 h
    · have h := h.2 hc
      refine B_ldc (v := -1000001) dX7_saint_18 lkX7_saint_c73 ?_
      exact B_iret dX7_saint_20 h
set_option maxHeartbeats 4000000 in
set_option maxRecDepth 100000 in
theorem rX7_holder (d : Nat) (v1 : Int32) (M : Mm) (Q : Int32 → Mm → Prop)
    (h : kX7_isThing d v1 M (fun (r1 : Int32) (M1 : Mm) => ((r1 = 0 → Q (-1000001 : Int32) M1) ∧ (¬ r1 = 0 → kX4_whoHas d 23 v1 M1 (fun (r2 : Int32) (M2 : Mm) => Q r2 M2))))) : kX7_holder (d + 1) v1 M Q := by
  refine Ct.of (cc := cX7_holder) (nL := 2) (by decide) rfl (Nat.le_of_ble_eq_true rfl) ?_
  show BX7_holder (d + 1) 0 [(0, .ref 0), (1, .int v1)] [] M Q
  refine B_iload_n dX7_holder_0 1 rfl ?_
  refine B_callS (st := []) [.int v1] dX7_holder_1 gX7_holder_X7_isThing rfl hyX7_isThing (Nat.le_of_ble_eq_true rfl) (Nat.le_of_ble_eq_true rfl) rfl (Ct.mono h (Nat.le_refl _) (fun r1 M1 h => ?_))
  refine B_if_eq (tgt := 18) dX7_holder_4 (by decide) (fun hc => ?_) (fun hc => ?_)
  · have h := h.1 hc
    refine B_ldc (v := -1000001) dX7_holder_18 lkX7_holder_c73 ?_
    exact B_iret dX7_holder_20 h
  · have h := h.2 hc
    refine B_aload_n dX7_holder_7 0 rfl ?_
    refine B_getf (T := TX7) (N := 11) (v := .ref 23) 0 2 dX7_holder_8 inX7_holder_7 lkX7_holder_f25 (Nat.le_of_ble_eq_true rfl) (Nat.le_of_ble_eq_true rfl) rfl rfl (by decide) rfl ?_
    refine B_iload_n dX7_holder_11 1 rfl ?_
    refine B_callV (st := []) 23 [.int v1] dX7_holder_12 gX7_holder_X4_whoHas rfl hyX4_whoHas (Nat.le_of_ble_eq_true rfl) (Nat.le_of_ble_eq_true rfl) TX4 5 rfl (Nat.le_of_ble_eq_true rfl) (Nat.le_of_ble_eq_true rfl) rfl (Ct.mono h (Nat.le_refl _) (fun r2 M2 h => ?_))
    refine B_goto (tgt := 20) dX7_holder_15 (by decide) ?_
    exact B_iret dX7_holder_20 h
set_option maxHeartbeats 4000000 in
set_option maxRecDepth 100000 in
theorem rX7_ahead (d : Nat) (v1 : Int32) (v2 : Int32) (M : Mm) (Q : Int32 → Mm → Prop)
    (h : kX4_isSaint d 23 v1 M (fun (r1 : Int32) (M1 : Mm) => ((r1 = 0 → Q (-1000001 : Int32) M1) ∧ (¬ r1 = 0 → ((v2 < 0 → Q (-1000001 : Int32) M1) ∧ (¬ v2 < 0 → ((v2 ≤ (60 : Int32) → kX4_become d 26 23 M1 (fun (_r2 : Int32) (M2 : Mm) => BX7_ahead (d + 1) 37 [(0, .ref 0), (1, .int v1), (2, .int v2), (3, .int (0 : Int32))] [] M2 Q)) ∧ (¬ v2 ≤ (60 : Int32) → Q (-1000001 : Int32) M1)))))))) : kX7_ahead (d + 1) v1 v2 M Q := by
  refine Ct.of (cc := cX7_ahead) (nL := 4) (by decide) rfl (Nat.le_of_ble_eq_true rfl) ?_
  show BX7_ahead (d + 1) 0 [(0, .ref 0), (1, .int v1), (2, .int v2)] [] M Q
  refine B_aload_n dX7_ahead_0 0 rfl ?_
  refine B_getf (T := TX7) (N := 11) (v := .ref 23) 0 2 dX7_ahead_1 inX7_ahead_7 lkX7_ahead_f25 (Nat.le_of_ble_eq_true rfl) (Nat.le_of_ble_eq_true rfl) rfl rfl (by decide) rfl ?_
  refine B_iload_n dX7_ahead_4 1 rfl ?_
  refine B_callV (st := []) 23 [.int v1] dX7_ahead_5 gX7_ahead_X4_isSaint rfl hyX4_isSaint (Nat.le_of_ble_eq_true rfl) (Nat.le_of_ble_eq_true rfl) TX4 5 rfl (Nat.le_of_ble_eq_true rfl) (Nat.le_of_ble_eq_true rfl) rfl (Ct.mono h (Nat.le_refl _) (fun r1 M1 h => ?_))
  refine B_if_eq (tgt := 21) dX7_ahead_8 (by decide) (fun hc => ?_) (fun hc => ?_)
  · have h := h.1 hc
    refine B_ldc (v := -1000001) dX7_ahead_21 lkX7_ahead_c73 ?_
    exact B_iret dX7_ahead_23 h
  · have h := h.2 hc
    refine B_iload_n dX7_ahead_11 2 rfl ?_
    refine B_if_lt (tgt := 21) dX7_ahead_12 (by decide) (fun hc => ?_) (fun hc => ?_)
    · have h := h.1 hc
      refine B_ldc (v := -1000001) dX7_ahead_21 lkX7_ahead_c73 ?_
      exact B_iret dX7_ahead_23 h
    · have h := h.2 hc
      refine B_iload_n dX7_ahead_15 2 rfl ?_
      refine B_bipush (v := 60) dX7_ahead_16 (by decide) ?_
      refine B_icmp_le (tgt := 24) dX7_ahead_18 (by decide) (fun hc => ?_) (fun hc => ?_)
      · have h := h.1 hc
        refine B_aload_n dX7_ahead_24 0 rfl ?_
        refine B_getf (T := TX7) (N := 11) (v := .ref 26) 0 3 dX7_ahead_25 inX7_ahead_7 lkX7_ahead_f29 (Nat.le_of_ble_eq_true rfl) (Nat.le_of_ble_eq_true rfl) rfl rfl (by decide) rfl ?_
        refine B_aload_n dX7_ahead_28 0 rfl ?_
        refine B_getf (T := TX7) (N := 11) (v := .ref 23) 0 2 dX7_ahead_29 inX7_ahead_7 lkX7_ahead_f25 (Nat.le_of_ble_eq_true rfl) (Nat.le_of_ble_eq_true rfl) rfl rfl (by decide) rfl ?_
        refine B_callV (st := []) 26 [.ref 23] dX7_ahead_32 gX7_ahead_X4_become rfl hyX4_become (Nat.le_of_ble_eq_true rfl) (Nat.le_of_ble_eq_true rfl) TX4 5 rfl (Nat.le_of_ble_eq_true rfl) (Nat.le_of_ble_eq_true rfl) rfl (Ct.mono h (Nat.le_refl _) (fun _r2 M2 h => ?_))
        refine B_iconst (v := 0) dX7_ahead_35 (by decide) ?_
        refine B_istore_n (lv1 := [(3, .int (0 : Int32)), (0, .ref 0), (1, .int v1), (2, .int v2)]) dX7_ahead_36 (by decide) rfl ?_
        refine B_weak [1, 2, 3, 0] rfl ?_
        exact h
      · have h := h.2 hc
        refine B_ldc (v := -1000001) dX7_ahead_21 lkX7_ahead_c73 ?_
        exact B_iret dX7_ahead_23 h
set_option maxHeartbeats 4000000 in
set_option maxRecDepth 100000 in
theorem rX7_ahead_37 (d : Nat) (v1 : Int32) (v2 : Int32) (v3 : Int32) (M : Mm) (Q : Int32 → Mm → Prop)
    (h : ((v2 ≤ v3 → vp_in v1 7 ∧ Q (M 28 v1.toNatClampNeg) M) ∧ (¬ v2 ≤ v3 → kX4_advance d 26 (0 : Int32) M (fun (_r1 : Int32) (M1 : Mm) => BX7_ahead (d + 1) 37 [(0, .ref 0), (1, .int v1), (2, .int v2), (3, .int (v3 + (1 : Int32)))] [] M1 Q)))) : BX7_ahead (d + 1) 37 [(0, .ref 0), (1, .int v1), (2, .int v2), (3, .int v3)] [] M Q := by
  refine B_iload_n dX7_ahead_37 3 rfl ?_
  refine B_iload_n dX7_ahead_38 2 rfl ?_
  refine B_icmp_ge (tgt := 56) dX7_ahead_39 (by decide) (fun hc => ?_) (fun hc => ?_)
  · have h := h.1 hc
    refine B_aload_n dX7_ahead_56 0 rfl ?_
    refine B_getf (T := TX7) (N := 11) (v := .ref 26) 0 3 dX7_ahead_57 inX7_ahead_7 lkX7_ahead_f29 (Nat.le_of_ble_eq_true rfl) (Nat.le_of_ble_eq_true rfl) rfl rfl (by decide) rfl ?_
    refine B_getf (T := TX4) (N := 5) (v := .ref 28) 26 1 dX7_ahead_60 inX7_ahead_4 lkX7_ahead_f160 (Nat.le_of_ble_eq_true rfl) (Nat.le_of_ble_eq_true rfl) rfl rfl (by decide) rfl ?_
    refine B_iload_n dX7_ahead_63 1 rfl ?_
    obtain ⟨hi, h⟩ := h
    refine B_iald (n := 7) 28 dX7_ahead_64 (Nat.le_of_ble_eq_true rfl) rfl rfl hi ?_
    exact B_iret dX7_ahead_65 h
  · have h := h.2 hc
    refine B_aload_n dX7_ahead_42 0 rfl ?_
    refine B_getf (T := TX7) (N := 11) (v := .ref 26) 0 3 dX7_ahead_43 inX7_ahead_7 lkX7_ahead_f29 (Nat.le_of_ble_eq_true rfl) (Nat.le_of_ble_eq_true rfl) rfl rfl (by decide) rfl ?_
    refine B_iconst (v := 0) dX7_ahead_46 (by decide) ?_
    refine B_callV (st := []) 26 [.int (0 : Int32)] dX7_ahead_47 gX7_ahead_X4_advance rfl hyX4_advance (Nat.le_of_ble_eq_true rfl) (Nat.le_of_ble_eq_true rfl) TX4 5 rfl (Nat.le_of_ble_eq_true rfl) (Nat.le_of_ble_eq_true rfl) rfl (Ct.mono h (Nat.le_refl _) (fun _r1 M1 h => ?_))
    refine B_iinc (lv1 := [(3, .int (v3 + (1 : Int32))), (0, .ref 0), (1, .int v1), (2, .int v2)]) (v := (v3 + (1 : Int32))) dX7_ahead_50 3 rfl rfl (by decide) rfl ?_
    refine B_goto (tgt := 37) dX7_ahead_53 (by decide) ?_
    refine B_weak [1, 2, 3, 0] rfl ?_
    exact h
set_option maxHeartbeats 4000000 in
set_option maxRecDepth 100000 in
theorem rX7_when (d : Nat) (v1 : Int32) (v2 : Int32) (M : Mm) (Q : Int32 → Mm → Prop)
    (h : kX4_isSaint d 23 v1 M (fun (r1 : Int32) (M1 : Mm) => ((r1 = 0 → Q (-1000001 : Int32) M1) ∧ (¬ r1 = 0 → kX7_isThing d v2 M1 (fun (r2 : Int32) (M2 : Mm) => ((¬ r2 = 0 → kX4_become d 26 23 M2 (fun (_r3 : Int32) (M3 : Mm) => BX7_when (d + 1) 34 [(0, .ref 0), (1, .int v1), (2, .int v2), (3, .int (0 : Int32))] [] M3 Q)) ∧ (r2 = 0 → Q (-1000001 : Int32) M2))))))) : kX7_when (d + 1) v1 v2 M Q := by
  refine Ct.of (cc := cX7_when) (nL := 4) (by decide) rfl (Nat.le_of_ble_eq_true rfl) ?_
  show BX7_when (d + 1) 0 [(0, .ref 0), (1, .int v1), (2, .int v2)] [] M Q
  refine B_aload_n dX7_when_0 0 rfl ?_
  refine B_getf (T := TX7) (N := 11) (v := .ref 23) 0 2 dX7_when_1 inX7_when_7 lkX7_when_f25 (Nat.le_of_ble_eq_true rfl) (Nat.le_of_ble_eq_true rfl) rfl rfl (by decide) rfl ?_
  refine B_iload_n dX7_when_4 1 rfl ?_
  refine B_callV (st := []) 23 [.int v1] dX7_when_5 gX7_when_X4_isSaint rfl hyX4_isSaint (Nat.le_of_ble_eq_true rfl) (Nat.le_of_ble_eq_true rfl) TX4 5 rfl (Nat.le_of_ble_eq_true rfl) (Nat.le_of_ble_eq_true rfl) rfl (Ct.mono h (Nat.le_refl _) (fun r1 M1 h => ?_))
  refine B_if_eq (tgt := 18) dX7_when_8 (by decide) (fun hc => ?_) (fun hc => ?_)
  · have h := h.1 hc
    refine B_ldc (v := -1000001) dX7_when_18 lkX7_when_c73 ?_
    exact B_iret dX7_when_20 h
  · have h := h.2 hc
    refine B_iload_n dX7_when_11 2 rfl ?_
    refine B_callS (st := []) [.int v2] dX7_when_12 gX7_when_X7_isThing rfl hyX7_isThing (Nat.le_of_ble_eq_true rfl) (Nat.le_of_ble_eq_true rfl) rfl (Ct.mono h (Nat.le_refl _) (fun r2 M2 h => ?_))
    refine B_if_ne (tgt := 21) dX7_when_15 (by decide) (fun hc => ?_) (fun hc => ?_)
    · have h := h.1 hc
      refine B_aload_n dX7_when_21 0 rfl ?_
      refine B_getf (T := TX7) (N := 11) (v := .ref 26) 0 3 dX7_when_22 inX7_when_7 lkX7_when_f29 (Nat.le_of_ble_eq_true rfl) (Nat.le_of_ble_eq_true rfl) rfl rfl (by decide) rfl ?_
      refine B_aload_n dX7_when_25 0 rfl ?_
      refine B_getf (T := TX7) (N := 11) (v := .ref 23) 0 2 dX7_when_26 inX7_when_7 lkX7_when_f25 (Nat.le_of_ble_eq_true rfl) (Nat.le_of_ble_eq_true rfl) rfl rfl (by decide) rfl ?_
      refine B_callV (st := []) 26 [.ref 23] dX7_when_29 gX7_when_X4_become rfl hyX4_become (Nat.le_of_ble_eq_true rfl) (Nat.le_of_ble_eq_true rfl) TX4 5 rfl (Nat.le_of_ble_eq_true rfl) (Nat.le_of_ble_eq_true rfl) rfl (Ct.mono h (Nat.le_refl _) (fun _r3 M3 h => ?_))
      refine B_iconst (v := 0) dX7_when_32 (by decide) ?_
      refine B_istore_n (lv1 := [(3, .int (0 : Int32)), (0, .ref 0), (1, .int v1), (2, .int v2)]) dX7_when_33 (by decide) rfl ?_
      refine B_weak [1, 2, 3, 0] rfl ?_
      exact h
    · have h := h.2 hc
      refine B_ldc (v := -1000001) dX7_when_18 lkX7_when_c73 ?_
      exact B_iret dX7_when_20 h
set_option maxHeartbeats 4000000 in
set_option maxRecDepth 100000 in
theorem rX7_when_34 (d : Nat) (v1 : Int32) (v2 : Int32) (v3 : Int32) (M : Mm) (Q : Int32 → Mm → Prop)
    (h : (((60 : Int32) < v3 → Q (-1000000 : Int32) M) ∧ (¬ (60 : Int32) < v3 → vp_in v1 7 ∧ ((¬ (M 28 v1.toNatClampNeg) = v2 → kX4_advance d 26 (0 : Int32) M (fun (_r1 : Int32) (M1 : Mm) => BX7_when (d + 1) 34 [(0, .ref 0), (1, .int v1), (2, .int v2), (3, .int (v3 + (1 : Int32)))] [] M1 Q)) ∧ ((M 28 v1.toNatClampNeg) = v2 → Q v3 M))))) : BX7_when (d + 1) 34 [(0, .ref 0), (1, .int v1), (2, .int v2), (3, .int v3)] [] M Q := by
  refine B_iload_n dX7_when_34 3 rfl ?_
  refine B_bipush (v := 60) dX7_when_35 (by decide) ?_
  refine B_icmp_gt (tgt := 69) dX7_when_37 (by decide) (fun hc => ?_) (fun hc => ?_)
  · have h := h.1 hc
    refine B_ldc (v := -1000000) dX7_when_69 lkX7_when_c182 ?_
    exact B_iret dX7_when_71 h
  · have h := h.2 hc
    refine B_aload_n dX7_when_40 0 rfl ?_
    refine B_getf (T := TX7) (N := 11) (v := .ref 26) 0 3 dX7_when_41 inX7_when_7 lkX7_when_f29 (Nat.le_of_ble_eq_true rfl) (Nat.le_of_ble_eq_true rfl) rfl rfl (by decide) rfl ?_
    refine B_getf (T := TX4) (N := 5) (v := .ref 28) 26 1 dX7_when_44 inX7_when_4 lkX7_when_f160 (Nat.le_of_ble_eq_true rfl) (Nat.le_of_ble_eq_true rfl) rfl rfl (by decide) rfl ?_
    refine B_iload_n dX7_when_47 1 rfl ?_
    obtain ⟨hi, h⟩ := h
    refine B_iald (n := 7) 28 dX7_when_48 (Nat.le_of_ble_eq_true rfl) rfl rfl hi ?_
    refine B_iload_n dX7_when_49 2 rfl ?_
    refine B_icmp_ne (tgt := 55) dX7_when_50 (by decide) (fun hc => ?_) (fun hc => ?_)
    · have h := h.1 hc
      refine B_aload_n dX7_when_55 0 rfl ?_
      refine B_getf (T := TX7) (N := 11) (v := .ref 26) 0 3 dX7_when_56 inX7_when_7 lkX7_when_f29 (Nat.le_of_ble_eq_true rfl) (Nat.le_of_ble_eq_true rfl) rfl rfl (by decide) rfl ?_
      refine B_iconst (v := 0) dX7_when_59 (by decide) ?_
      refine B_callV (st := []) 26 [.int (0 : Int32)] dX7_when_60 gX7_when_X4_advance rfl hyX4_advance (Nat.le_of_ble_eq_true rfl) (Nat.le_of_ble_eq_true rfl) TX4 5 rfl (Nat.le_of_ble_eq_true rfl) (Nat.le_of_ble_eq_true rfl) rfl (Ct.mono h (Nat.le_refl _) (fun _r1 M1 h => ?_))
      refine B_iinc (lv1 := [(3, .int (v3 + (1 : Int32))), (0, .ref 0), (1, .int v1), (2, .int v2)]) (v := (v3 + (1 : Int32))) dX7_when_63 3 rfl rfl (by decide) rfl ?_
      refine B_goto (tgt := 34) dX7_when_66 (by decide) ?_
      refine B_weak [1, 2, 3, 0] rfl ?_
      exact h
    · have h := h.2 hc
      refine B_iload_n dX7_when_53 3 rfl ?_
      exact B_iret dX7_when_54 h
set_option maxHeartbeats 4000000 in
set_option maxRecDepth 100000 in
theorem rX7_pray (d : Nat) (v1 : Int32) (M : Mm) (Q : Int32 → Mm → Prop)
    (h : ((¬ (M 23 2) = 0 → kX7_isThing d v1 M (fun (r1 : Int32) (M1 : Mm) => ((¬ r1 = 0 → kX4_become d 26 23 M1 (fun (_r2 : Int32) (M2 : Mm) => kX4_advanceToMatins d 26 M2 (fun (_r3 : Int32) (M3 : Mm) => kX4_whoHas d 26 v1 M3 (fun (r4 : Int32) (M4 : Mm) => Q r4 M4)))) ∧ (r1 = 0 → Q (-1000001 : Int32) M1)))) ∧ ((M 23 2) = 0 → Q (-1000002 : Int32) M))) : kX7_pray (d + 1) v1 M Q := by
  refine Ct.of (cc := cX7_pray) (nL := 2) (by decide) rfl (Nat.le_of_ble_eq_true rfl) ?_
  show BX7_pray (d + 1) 0 [(0, .ref 0), (1, .int v1)] [] M Q
  refine B_aload_n dX7_pray_0 0 rfl ?_
  refine B_getf (T := TX7) (N := 11) (v := .ref 23) 0 2 dX7_pray_1 inX7_pray_7 lkX7_pray_f25 (Nat.le_of_ble_eq_true rfl) (Nat.le_of_ble_eq_true rfl) rfl rfl (by decide) rfl ?_
  refine B_getf (T := TX4) (N := 5) (v := .int (M 23 2)) 23 2 dX7_pray_4 inX7_pray_4 lkX7_pray_f139 (Nat.le_of_ble_eq_true rfl) (Nat.le_of_ble_eq_true rfl) rfl rfl (by decide) rfl ?_
  refine B_if_ne (tgt := 13) dX7_pray_7 (by decide) (fun hc => ?_) (fun hc => ?_)
  · have h := h.1 hc
    refine B_iload_n dX7_pray_13 1 rfl ?_
    refine B_callS (st := []) [.int v1] dX7_pray_14 gX7_pray_X7_isThing rfl hyX7_isThing (Nat.le_of_ble_eq_true rfl) (Nat.le_of_ble_eq_true rfl) rfl (Ct.mono h (Nat.le_refl _) (fun r1 M1 h => ?_))
    refine B_if_ne (tgt := 23) dX7_pray_17 (by decide) (fun hc => ?_) (fun hc => ?_)
    · have h := h.1 hc
      refine B_aload_n dX7_pray_23 0 rfl ?_
      refine B_getf (T := TX7) (N := 11) (v := .ref 26) 0 3 dX7_pray_24 inX7_pray_7 lkX7_pray_f29 (Nat.le_of_ble_eq_true rfl) (Nat.le_of_ble_eq_true rfl) rfl rfl (by decide) rfl ?_
      refine B_aload_n dX7_pray_27 0 rfl ?_
      refine B_getf (T := TX7) (N := 11) (v := .ref 23) 0 2 dX7_pray_28 inX7_pray_7 lkX7_pray_f25 (Nat.le_of_ble_eq_true rfl) (Nat.le_of_ble_eq_true rfl) rfl rfl (by decide) rfl ?_
      refine B_callV (st := []) 26 [.ref 23] dX7_pray_31 gX7_pray_X4_become rfl hyX4_become (Nat.le_of_ble_eq_true rfl) (Nat.le_of_ble_eq_true rfl) TX4 5 rfl (Nat.le_of_ble_eq_true rfl) (Nat.le_of_ble_eq_true rfl) rfl (Ct.mono h (Nat.le_refl _) (fun _r2 M2 h => ?_))
      refine B_aload_n dX7_pray_34 0 rfl ?_
      refine B_getf (T := TX7) (N := 11) (v := .ref 26) 0 3 dX7_pray_35 inX7_pray_7 lkX7_pray_f29 (Nat.le_of_ble_eq_true rfl) (Nat.le_of_ble_eq_true rfl) rfl rfl (by decide) rfl ?_
      refine B_callV (st := []) 26 [] dX7_pray_38 gX7_pray_X4_advanceToMatins rfl hyX4_advanceToMatins (Nat.le_of_ble_eq_true rfl) (Nat.le_of_ble_eq_true rfl) TX4 5 rfl (Nat.le_of_ble_eq_true rfl) (Nat.le_of_ble_eq_true rfl) rfl (Ct.mono h (Nat.le_refl _) (fun _r3 M3 h => ?_))
      refine B_aload_n dX7_pray_41 0 rfl ?_
      refine B_getf (T := TX7) (N := 11) (v := .ref 26) 0 3 dX7_pray_42 inX7_pray_7 lkX7_pray_f29 (Nat.le_of_ble_eq_true rfl) (Nat.le_of_ble_eq_true rfl) rfl rfl (by decide) rfl ?_
      refine B_iload_n dX7_pray_45 1 rfl ?_
      refine B_callV (st := []) 26 [.int v1] dX7_pray_46 gX7_pray_X4_whoHas rfl hyX4_whoHas (Nat.le_of_ble_eq_true rfl) (Nat.le_of_ble_eq_true rfl) TX4 5 rfl (Nat.le_of_ble_eq_true rfl) (Nat.le_of_ble_eq_true rfl) rfl (Ct.mono h (Nat.le_refl _) (fun r4 M4 h => ?_))
      exact B_iret dX7_pray_49 h
    · have h := h.2 hc
      refine B_ldc (v := -1000001) dX7_pray_20 lkX7_pray_c73 ?_
      exact B_iret dX7_pray_22 h
  · have h := h.2 hc
    refine B_ldc (v := -1000002) dX7_pray_10 lkX7_pray_c143 ?_
    exact B_iret dX7_pray_12 h
set_option maxHeartbeats 4000000 in
set_option maxRecDepth 100000 in
theorem rX7_round (d : Nat)  (M : Mm) (Q : Int32 → Mm → Prop)
    (h : ((¬ (M 23 2) = 0 → kX4_figures d 23 M (fun (r1 : Int32) (M1 : Mm) => kX4_become d 26 23 M1 (fun (_r2 : Int32) (M2 : Mm) => BX7_round (d + 1) 34 [(0, .ref 0), (1, .int r1), (2, .int (1 : Int32))] [] M2 Q))) ∧ ((M 23 2) = 0 → Q (-1000002 : Int32) M))) : kX7_round (d + 1)  M Q := by
  refine Ct.of (cc := cX7_round) (nL := 3) (by decide) rfl (Nat.le_of_ble_eq_true rfl) ?_
  show BX7_round (d + 1) 0 [(0, .ref 0)] [] M Q
  refine B_aload_n dX7_round_0 0 rfl ?_
  refine B_getf (T := TX7) (N := 11) (v := .ref 23) 0 2 dX7_round_1 inX7_round_7 lkX7_round_f25 (Nat.le_of_ble_eq_true rfl) (Nat.le_of_ble_eq_true rfl) rfl rfl (by decide) rfl ?_
  refine B_getf (T := TX4) (N := 5) (v := .int (M 23 2)) 23 2 dX7_round_4 inX7_round_4 lkX7_round_f139 (Nat.le_of_ble_eq_true rfl) (Nat.le_of_ble_eq_true rfl) rfl rfl (by decide) rfl ?_
  refine B_if_ne (tgt := 13) dX7_round_7 (by decide) (fun hc => ?_) (fun hc => ?_)
  · have h := h.1 hc
    refine B_aload_n dX7_round_13 0 rfl ?_
    refine B_getf (T := TX7) (N := 11) (v := .ref 23) 0 2 dX7_round_14 inX7_round_7 lkX7_round_f25 (Nat.le_of_ble_eq_true rfl) (Nat.le_of_ble_eq_true rfl) rfl rfl (by decide) rfl ?_
    refine B_callV (st := []) 23 [] dX7_round_17 gX7_round_X4_figures rfl hyX4_figures (Nat.le_of_ble_eq_true rfl) (Nat.le_of_ble_eq_true rfl) TX4 5 rfl (Nat.le_of_ble_eq_true rfl) (Nat.le_of_ble_eq_true rfl) rfl (Ct.mono h (Nat.le_refl _) (fun r1 M1 h => ?_))
    refine B_istore_n (lv1 := [(1, .int r1), (0, .ref 0)]) dX7_round_20 (by decide) rfl ?_
    refine B_aload_n dX7_round_21 1 rfl ?_
    refine B_getf (T := TX7) (N := 11) (v := .ref 26) 0 3 dX7_round_22 inX7_round_7 lkX7_round_f29 (Nat.le_of_ble_eq_true rfl) (Nat.le_of_ble_eq_true rfl) rfl rfl (by decide) rfl ?_
    refine B_aload_n dX7_round_25 1 rfl ?_
    refine B_getf (T := TX7) (N := 11) (v := .ref 23) 0 2 dX7_round_26 inX7_round_7 lkX7_round_f25 (Nat.le_of_ble_eq_true rfl) (Nat.le_of_ble_eq_true rfl) rfl rfl (by decide) rfl ?_
    refine B_callV (st := []) 26 [.ref 23] dX7_round_29 gX7_round_X4_become rfl hyX4_become (Nat.le_of_ble_eq_true rfl) (Nat.le_of_ble_eq_true rfl) TX4 5 rfl (Nat.le_of_ble_eq_true rfl) (Nat.le_of_ble_eq_true rfl) rfl (Ct.mono h (Nat.le_refl _) (fun _r2 M2 h => ?_))
    refine B_iconst (v := 1) dX7_round_32 (by decide) ?_
    refine B_istore_n (lv1 := [(2, .int (1 : Int32)), (1, .int r1), (0, .ref 0)]) dX7_round_33 (by decide) rfl ?_
    refine B_weak [2, 1, 0] rfl ?_
    exact h
  · have h := h.2 hc
    refine B_ldc (v := -1000002) dX7_round_10 lkX7_round_c143 ?_
    exact B_iret dX7_round_12 h
set_option maxHeartbeats 4000000 in
set_option maxRecDepth 100000 in
theorem rX7_round_34 (d : Nat) (v1 : Int32) (v2 : Int32) (M : Mm) (Q : Int32 → Mm → Prop)
    (h : (((200 : Int32) < v2 → Q (-1000000 : Int32) M) ∧ (¬ (200 : Int32) < v2 → kX4_advance d 26 (0 : Int32) M (fun (_r1 : Int32) (M1 : Mm) => kX4_figures d 26 M1 (fun (r2 : Int32) (M2 : Mm) => ((¬ r2 = v1 → BX7_round (d + 1) 34 [(0, .ref 0), (1, .int v1), (2, .int (v2 + (1 : Int32)))] [] M2 Q) ∧ (r2 = v1 → Q v2 M2))))))) : BX7_round (d + 1) 34 [(0, .ref 0), (1, .int v1), (2, .int v2)] [] M Q := by
  refine B_iload_n dX7_round_34 2 rfl ?_
  refine B_sipush (v := 200) dX7_round_35 (by decide) ?_
  refine B_icmp_gt (tgt := 68) dX7_round_38 (by decide) (fun hc => ?_) (fun hc => ?_)
  · have h := h.1 hc
    refine B_ldc (v := -1000000) dX7_round_68 lkX7_round_c182 ?_
    exact B_iret dX7_round_70 h
  · have h := h.2 hc
    refine B_aload_n dX7_round_41 0 rfl ?_
    refine B_getf (T := TX7) (N := 11) (v := .ref 26) 0 3 dX7_round_42 inX7_round_7 lkX7_round_f29 (Nat.le_of_ble_eq_true rfl) (Nat.le_of_ble_eq_true rfl) rfl rfl (by decide) rfl ?_
    refine B_iconst (v := 0) dX7_round_45 (by decide) ?_
    refine B_callV (st := []) 26 [.int (0 : Int32)] dX7_round_46 gX7_round_X4_advance rfl hyX4_advance (Nat.le_of_ble_eq_true rfl) (Nat.le_of_ble_eq_true rfl) TX4 5 rfl (Nat.le_of_ble_eq_true rfl) (Nat.le_of_ble_eq_true rfl) rfl (Ct.mono h (Nat.le_refl _) (fun _r1 M1 h => ?_))
    refine B_aload_n dX7_round_49 0 rfl ?_
    refine B_getf (T := TX7) (N := 11) (v := .ref 26) 0 3 dX7_round_50 inX7_round_7 lkX7_round_f29 (Nat.le_of_ble_eq_true rfl) (Nat.le_of_ble_eq_true rfl) rfl rfl (by decide) rfl ?_
    refine B_callV (st := []) 26 [] dX7_round_53 gX7_round_X4_figures rfl hyX4_figures (Nat.le_of_ble_eq_true rfl) (Nat.le_of_ble_eq_true rfl) TX4 5 rfl (Nat.le_of_ble_eq_true rfl) (Nat.le_of_ble_eq_true rfl) rfl (Ct.mono h (Nat.le_refl _) (fun r2 M2 h => ?_))
    refine B_iload_n dX7_round_56 1 rfl ?_
    refine B_icmp_ne (tgt := 62) dX7_round_57 (by decide) (fun hc => ?_) (fun hc => ?_)
    · have h := h.1 hc
      refine B_iinc (lv1 := [(2, .int (v2 + (1 : Int32))), (0, .ref 0), (1, .int v1)]) (v := (v2 + (1 : Int32))) dX7_round_62 2 rfl rfl (by decide) rfl ?_
      refine B_goto (tgt := 34) dX7_round_65 (by decide) ?_
      refine B_weak [1, 2, 0] rfl ?_
      exact h
    · have h := h.2 hc
      refine B_iload_n dX7_round_60 2 rfl ?_
      exact B_iret dX7_round_61 h
set_option maxHeartbeats 4000000 in
set_option maxRecDepth 100000 in
theorem rX7_home (d : Nat) (v1 : Int32) (M : Mm) (Q : Int32 → Mm → Prop)
    (h : ((¬ (M 23 2) = 0 → ((v1 = 0 → kX4_atHome d 23 M (fun (r1 : Int32) (M1 : Mm) => Q r1 M1)) ∧ (v1 = 1 → kX3_placeOf d 23 M (fun (r2 : Int32) (M2 : Mm) => Q r2 M2)) ∧ (v1 = 2 → kX3_howMany d 23 M (fun (r3 : Int32) (M3 : Mm) => Q r3 M3)) ∧ (¬ v1 = 0 ∧ ¬ v1 = 1 ∧ ¬ v1 = 2 → Q (-1000001 : Int32) M))) ∧ ((M 23 2) = 0 → Q (-1000002 : Int32) M))) : kX7_home (d + 1) v1 M Q := by
  refine Ct.of (cc := cX7_home) (nL := 2) (by decide) rfl (Nat.le_of_ble_eq_true rfl) ?_
  show BX7_home (d + 1) 0 [(0, .ref 0), (1, .int v1)] [] M Q
  refine B_aload_n dX7_home_0 0 rfl ?_
  refine B_getf (T := TX7) (N := 11) (v := .ref 23) 0 2 dX7_home_1 inX7_home_7 lkX7_home_f25 (Nat.le_of_ble_eq_true rfl) (Nat.le_of_ble_eq_true rfl) rfl rfl (by decide) rfl ?_
  refine B_getf (T := TX4) (N := 5) (v := .int (M 23 2)) 23 2 dX7_home_4 inX7_home_4 lkX7_home_f139 (Nat.le_of_ble_eq_true rfl) (Nat.le_of_ble_eq_true rfl) rfl rfl (by decide) rfl ?_
  refine B_if_ne (tgt := 13) dX7_home_7 (by decide) (fun hc => ?_) (fun hc => ?_)
  · have h := h.1 hc
    refine B_iload_n dX7_home_13 1 rfl ?_
    by_cases hc0 : v1 = 0
    · have h := h.1 hc0
      refine B_tabIn (tgt := 40) dX7_home_14 (by rw [hc0]; decide) (by rw [hc0]; decide) (by rw [hc0]; rfl) (by decide) ?_
      refine B_aload_n dX7_home_40 0 rfl ?_
      refine B_getf (T := TX7) (N := 11) (v := .ref 23) 0 2 dX7_home_41 inX7_home_7 lkX7_home_f25 (Nat.le_of_ble_eq_true rfl) (Nat.le_of_ble_eq_true rfl) rfl rfl (by decide) rfl ?_
      refine B_callV (st := []) 23 [] dX7_home_44 gX7_home_X4_atHome rfl hyX4_atHome (Nat.le_of_ble_eq_true rfl) (Nat.le_of_ble_eq_true rfl) TX4 5 rfl (Nat.le_of_ble_eq_true rfl) (Nat.le_of_ble_eq_true rfl) rfl (Ct.mono h (Nat.le_refl _) (fun r1 M1 h => ?_))
      exact B_iret dX7_home_47 h
    ·
      by_cases hc1 : v1 = 1
      · have h := h.2.1 hc1
        refine B_tabIn (tgt := 48) dX7_home_14 (by rw [hc1]; decide) (by rw [hc1]; decide) (by rw [hc1]; rfl) (by decide) ?_
        refine B_aload_n dX7_home_48 0 rfl ?_
        refine B_getf (T := TX7) (N := 11) (v := .ref 43) 0 7 dX7_home_49 inX7_home_7 lkX7_home_f53 (Nat.le_of_ble_eq_true rfl) (Nat.le_of_ble_eq_true rfl) rfl rfl (by decide) rfl ?_
        refine B_aload_n dX7_home_52 0 rfl ?_
        refine B_getf (T := TX7) (N := 11) (v := .ref 23) 0 2 dX7_home_53 inX7_home_7 lkX7_home_f25 (Nat.le_of_ble_eq_true rfl) (Nat.le_of_ble_eq_true rfl) rfl rfl (by decide) rfl ?_
        refine B_callV (st := []) 43 [.ref 23] dX7_home_56 gX7_home_X3_placeOf rfl hyX3_placeOf (Nat.le_of_ble_eq_true rfl) (Nat.le_of_ble_eq_true rfl) TX3 3 rfl (Nat.le_of_ble_eq_true rfl) (Nat.le_of_ble_eq_true rfl) rfl (Ct.mono h (Nat.le_refl _) (fun r2 M2 h => ?_))
        exact B_iret dX7_home_59 h
      ·
        by_cases hc2 : v1 = 2
        · have h := h.2.2.1 hc2
          refine B_tabIn (tgt := 60) dX7_home_14 (by rw [hc2]; decide) (by rw [hc2]; decide) (by rw [hc2]; rfl) (by decide) ?_
          refine B_aload_n dX7_home_60 0 rfl ?_
          refine B_getf (T := TX7) (N := 11) (v := .ref 43) 0 7 dX7_home_61 inX7_home_7 lkX7_home_f53 (Nat.le_of_ble_eq_true rfl) (Nat.le_of_ble_eq_true rfl) rfl rfl (by decide) rfl ?_
          refine B_aload_n dX7_home_64 0 rfl ?_
          refine B_getf (T := TX7) (N := 11) (v := .ref 23) 0 2 dX7_home_65 inX7_home_7 lkX7_home_f25 (Nat.le_of_ble_eq_true rfl) (Nat.le_of_ble_eq_true rfl) rfl rfl (by decide) rfl ?_
          refine B_callV (st := []) 43 [.ref 23] dX7_home_68 gX7_home_X3_howMany rfl hyX3_howMany (Nat.le_of_ble_eq_true rfl) (Nat.le_of_ble_eq_true rfl) TX3 3 rfl (Nat.le_of_ble_eq_true rfl) (Nat.le_of_ble_eq_true rfl) rfl (Ct.mono h (Nat.le_refl _) (fun r3 M3 h => ?_))
          exact B_iret dX7_home_71 h
        ·
          have h := h.2.2.2 ⟨hc0, hc1, hc2⟩
          refine B_tabOut (tgt := 72) dX7_home_14 (by have e0 := lv_neT hc0 (a := 0) (by decide); have e1 := lv_neT hc1 (a := 1) (by decide); have e2 := lv_neT hc2 (a := 2) (by decide); omega) (by decide) ?_
          refine B_ldc (v := -1000001) dX7_home_72 lkX7_home_c73 ?_
          exact B_iret dX7_home_74 h
  · have h := h.2 hc
    refine B_ldc (v := -1000002) dX7_home_10 lkX7_home_c143 ?_
    exact B_iret dX7_home_12 h
set_option maxHeartbeats 4000000 in
set_option maxRecDepth 100000 in
theorem rX7_swaps (d : Nat) (v1 : Int32) (v2 : Int32) (v3 : Int32) (M : Mm) (Q : Int32 → Mm → Prop)
    (h : ((¬ (M 23 2) = 0 → kX7_isRow d v1 M (fun (r1 : Int32) (M1 : Mm) => ((r1 = 0 → Q (-1000001 : Int32) M1) ∧ (¬ r1 = 0 → kX7_isFirstOrSecond d v3 M1 (fun (r2 : Int32) (M2 : Mm) => ((¬ r2 = 0 → kX7_findingOf d v1 v2 (M2 23 2) M2 (fun (r3 : Int32) (M3 : Mm) => ((r3 = 0 → (∀ M4 : Mm, M4 = (upd2 M3 0 10 (0 : Int32)) → vp_in v1 8 ∧ kX2_take d 23 (sh v1) v2 M4 (fun (r4 : Int32) (M5 : Mm) => ((¬ r4 = 0 → ((¬ v3 = 0 → kX2_evenOrOdd d 23 M5 (fun (r5 : Int32) (M6 : Mm) => Q r5 M6)) ∧ (v3 = 0 → kX2_fewestChanges d 23 M5 (fun (r6 : Int32) (M7 : Mm) => Q r6 M7)))) ∧ (r4 = 0 → Q (-1000000 : Int32) M5))))) ∧ (¬ r3 = 0 → kX7_found d r3 M3 (fun (r7 : Int32) (M8 : Mm) => Q r7 M8))))) ∧ (r2 = 0 → Q (-1000001 : Int32) M2))))))) ∧ ((M 23 2) = 0 → Q (-1000002 : Int32) M))) : kX7_swaps (d + 1) v1 v2 v3 M Q := by
  refine Ct.of (cc := cX7_swaps) (nL := 5) (by decide) rfl (Nat.le_of_ble_eq_true rfl) ?_
  show BX7_swaps (d + 1) 0 [(0, .ref 0), (1, .int v1), (2, .int v2), (3, .int v3)] [] M Q
  refine B_aload_n dX7_swaps_0 0 rfl ?_
  refine B_getf (T := TX7) (N := 11) (v := .ref 23) 0 2 dX7_swaps_1 inX7_swaps_7 lkX7_swaps_f25 (Nat.le_of_ble_eq_true rfl) (Nat.le_of_ble_eq_true rfl) rfl rfl (by decide) rfl ?_
  refine B_getf (T := TX4) (N := 5) (v := .int (M 23 2)) 23 2 dX7_swaps_4 inX7_swaps_4 lkX7_swaps_f139 (Nat.le_of_ble_eq_true rfl) (Nat.le_of_ble_eq_true rfl) rfl rfl (by decide) rfl ?_
  refine B_if_ne (tgt := 13) dX7_swaps_7 (by decide) (fun hc => ?_) (fun hc => ?_)
  · have h := h.1 hc
    refine B_iload_n dX7_swaps_13 1 rfl ?_
    refine B_callS (st := []) [.int v1] dX7_swaps_14 gX7_swaps_X7_isRow rfl hyX7_isRow (Nat.le_of_ble_eq_true rfl) (Nat.le_of_ble_eq_true rfl) rfl (Ct.mono h (Nat.le_refl _) (fun r1 M1 h => ?_))
    refine B_if_eq (tgt := 27) dX7_swaps_17 (by decide) (fun hc => ?_) (fun hc => ?_)
    · have h := h.1 hc
      refine B_ldc (v := -1000001) dX7_swaps_27 lkX7_swaps_c73 ?_
      exact B_iret dX7_swaps_29 h
    · have h := h.2 hc
      refine B_iload_n dX7_swaps_20 3 rfl ?_
      refine B_callS (st := []) [.int v3] dX7_swaps_21 gX7_swaps_X7_isFirstOrSecond rfl hyX7_isFirstOrSecond (Nat.le_of_ble_eq_true rfl) (Nat.le_of_ble_eq_true rfl) rfl (Ct.mono h (Nat.le_refl _) (fun r2 M2 h => ?_))
      refine B_if_ne (tgt := 30) dX7_swaps_24 (by decide) (fun hc => ?_) (fun hc => ?_)
      · have h := h.1 hc
        refine B_aload_n dX7_swaps_30 0 rfl ?_
        refine B_iload_n dX7_swaps_31 1 rfl ?_
        refine B_iload_n dX7_swaps_32 2 rfl ?_
        refine B_aload_n dX7_swaps_33 0 rfl ?_
        refine B_getf (T := TX7) (N := 11) (v := .ref 23) 0 2 dX7_swaps_34 inX7_swaps_7 lkX7_swaps_f25 (Nat.le_of_ble_eq_true rfl) (Nat.le_of_ble_eq_true rfl) rfl rfl (by decide) rfl ?_
        refine B_getf (T := TX4) (N := 5) (v := .int (M2 23 2)) 23 2 dX7_swaps_37 inX7_swaps_4 lkX7_swaps_f139 (Nat.le_of_ble_eq_true rfl) (Nat.le_of_ble_eq_true rfl) rfl rfl (by decide) rfl ?_
        refine B_callV (st := []) 0 [.int v1, .int v2, .int (M2 23 2)] dX7_swaps_40 gX7_swaps_X7_findingOf rfl hyX7_findingOf (Nat.le_of_ble_eq_true rfl) (Nat.le_of_ble_eq_true rfl) TX7 11 rfl (Nat.le_of_ble_eq_true rfl) (Nat.le_of_ble_eq_true rfl) rfl (Ct.mono h (Nat.le_refl _) (fun r3 M3 h => ?_))
        refine B_istore (lv1 := [(4, .int r3), (0, .ref 0), (1, .int v1), (2, .int v2), (3, .int v3)]) dX7_swaps_43 (by decide) rfl ?_
        refine B_iload dX7_swaps_45 0 rfl ?_
        refine B_if_eq (tgt := 57) dX7_swaps_47 (by decide) (fun hc => ?_) (fun hc => ?_)
        · have h := h.1 hc
          refine B_aload_n dX7_swaps_57 1 rfl ?_
          refine B_iconst (v := 0) dX7_swaps_58 (by decide) ?_
          refine B_putf (T := TX7) (N := 11) 0 10 tyX7 tyX7_ok nmX7 dX7_swaps_59 inX7_swaps_7 lkX7_swaps_f78 (Nat.le_of_ble_eq_true rfl) (Nat.le_of_ble_eq_true rfl) rfl rfl (by decide) rfl rfl (by decide +kernel) ?_
          have h := h _ rfl
          generalize (upd2 M3 0 10 (0 : Int32)) = M4 at h ⊢
          refine B_aload_n dX7_swaps_62 1 rfl ?_
          refine B_getf (T := TX7) (N := 11) (v := .ref 40) 0 6 dX7_swaps_63 inX7_swaps_7 lkX7_swaps_f46 (Nat.le_of_ble_eq_true rfl) (Nat.le_of_ble_eq_true rfl) rfl rfl (by decide) rfl ?_
          refine B_aload_n dX7_swaps_66 1 rfl ?_
          refine B_getf (T := TX7) (N := 11) (v := .ref 23) 0 2 dX7_swaps_67 inX7_swaps_7 lkX7_swaps_f25 (Nat.le_of_ble_eq_true rfl) (Nat.le_of_ble_eq_true rfl) rfl rfl (by decide) rfl ?_
          refine B_aload_n dX7_swaps_70 1 rfl ?_
          refine B_getf (T := TX7) (N := 11) (v := .ref 1) 0 0 dX7_swaps_71 inX7_swaps_7 lkX7_swaps_f11 (Nat.le_of_ble_eq_true rfl) (Nat.le_of_ble_eq_true rfl) rfl rfl (by decide) rfl ?_
          refine B_iload_n dX7_swaps_74 2 rfl ?_
          obtain ⟨hi1, h⟩ := h
          refine B_aaS dX7_swaps_75 hi1 ?_
          refine B_iload_n dX7_swaps_76 3 rfl ?_
          refine B_callV (st := []) 40 [.ref 23, .ref (sh v1), .int v2] dX7_swaps_77 gX7_swaps_X2_take rfl hyX2_take (Nat.le_of_ble_eq_true rfl) (Nat.le_of_ble_eq_true rfl) TX2 2 rfl (Nat.le_of_ble_eq_true rfl) (Nat.le_of_ble_eq_true rfl) rfl (Ct.mono h (Nat.le_refl _) (fun r4 M5 h => ?_))
          refine B_if_ne (tgt := 86) dX7_swaps_80 (by decide) (fun hc => ?_) (fun hc => ?_)
          · have h := h.1 hc
            refine B_iload_n dX7_swaps_86 4 rfl ?_
            refine B_if_ne (tgt := 104) dX7_swaps_87 (by decide) (fun hc => ?_) (fun hc => ?_)
            · have h := h.1 hc
              refine B_aload_n dX7_swaps_104 1 rfl ?_
              refine B_getf (T := TX7) (N := 11) (v := .ref 40) 0 6 dX7_swaps_105 inX7_swaps_7 lkX7_swaps_f46 (Nat.le_of_ble_eq_true rfl) (Nat.le_of_ble_eq_true rfl) rfl rfl (by decide) rfl ?_
              refine B_aload_n dX7_swaps_108 1 rfl ?_
              refine B_getf (T := TX7) (N := 11) (v := .ref 23) 0 2 dX7_swaps_109 inX7_swaps_7 lkX7_swaps_f25 (Nat.le_of_ble_eq_true rfl) (Nat.le_of_ble_eq_true rfl) rfl rfl (by decide) rfl ?_
              refine B_callV (st := []) 40 [.ref 23] dX7_swaps_112 gX7_swaps_X2_evenOrOdd rfl hyX2_evenOrOdd (Nat.le_of_ble_eq_true rfl) (Nat.le_of_ble_eq_true rfl) TX2 2 rfl (Nat.le_of_ble_eq_true rfl) (Nat.le_of_ble_eq_true rfl) rfl (Ct.mono h (Nat.le_refl _) (fun r5 M6 h => ?_))
              exact B_iret dX7_swaps_115 h
            · have h := h.2 hc
              refine B_aload_n dX7_swaps_90 1 rfl ?_
              refine B_getf (T := TX7) (N := 11) (v := .ref 40) 0 6 dX7_swaps_91 inX7_swaps_7 lkX7_swaps_f46 (Nat.le_of_ble_eq_true rfl) (Nat.le_of_ble_eq_true rfl) rfl rfl (by decide) rfl ?_
              refine B_aload_n dX7_swaps_94 1 rfl ?_
              refine B_getf (T := TX7) (N := 11) (v := .ref 23) 0 2 dX7_swaps_95 inX7_swaps_7 lkX7_swaps_f25 (Nat.le_of_ble_eq_true rfl) (Nat.le_of_ble_eq_true rfl) rfl rfl (by decide) rfl ?_
              refine B_callV (st := []) 40 [.ref 23] dX7_swaps_98 gX7_swaps_X2_fewestChanges rfl hyX2_fewestChanges (Nat.le_of_ble_eq_true rfl) (Nat.le_of_ble_eq_true rfl) TX2 2 rfl (Nat.le_of_ble_eq_true rfl) (Nat.le_of_ble_eq_true rfl) rfl (Ct.mono h (Nat.le_refl _) (fun r6 M7 h => ?_))
              refine B_goto (tgt := 115) dX7_swaps_101 (by decide) ?_
              exact B_iret dX7_swaps_115 h
          · have h := h.2 hc
            refine B_ldc (v := -1000000) dX7_swaps_83 lkX7_swaps_c182 ?_
            exact B_iret dX7_swaps_85 h
        · have h := h.2 hc
          refine B_aload_n dX7_swaps_50 1 rfl ?_
          refine B_iload dX7_swaps_51 0 rfl ?_
          refine B_callV (st := []) 0 [.int r3] dX7_swaps_53 gX7_swaps_X7_found rfl hyX7_found (Nat.le_of_ble_eq_true rfl) (Nat.le_of_ble_eq_true rfl) TX7 11 rfl (Nat.le_of_ble_eq_true rfl) (Nat.le_of_ble_eq_true rfl) rfl (Ct.mono h (Nat.le_refl _) (fun r7 M8 h => ?_))
          exact B_iret dX7_swaps_56 h
      · have h := h.2 hc
        refine B_ldc (v := -1000001) dX7_swaps_27 lkX7_swaps_c73 ?_
        exact B_iret dX7_swaps_29 h
  · have h := h.2 hc
    refine B_ldc (v := -1000002) dX7_swaps_10 lkX7_swaps_c143 ?_
    exact B_iret dX7_swaps_12 h
set_option maxHeartbeats 4000000 in
set_option maxRecDepth 100000 in
theorem rX7_sort (d : Nat) (v1 : Int32) (v2 : Int32) (v3 : Int32) (M : Mm) (Q : Int32 → Mm → Prop)
    (h : ((¬ (M 23 2) = 0 → kX7_isRow d v1 M (fun (r1 : Int32) (M1 : Mm) => ((r1 = 0 → Q (-1000001 : Int32) M1) ∧ (¬ r1 = 0 → (((-1 : Int32) ≤ v3 → kX7_findingOf d v1 v2 (M1 23 2) M1 (fun (r2 : Int32) (M2 : Mm) => ((r2 = 0 → (∀ M3 : Mm, M3 = (upd2 M2 0 10 (0 : Int32)) → vp_in v1 8 ∧ kX2_take d 23 (sh v1) v2 M3 (fun (r3 : Int32) (M4 : Mm) => ((¬ r3 = 0 → ((0 ≤ v3 → kX2_neighbourChange d 23 v3 M4 (fun (r4 : Int32) (M5 : Mm) => Q r4 M5)) ∧ (¬ 0 ≤ v3 → kX2_neighbourChanges d 23 M4 (fun (r5 : Int32) (M6 : Mm) => Q r5 M6)))) ∧ (r3 = 0 → Q (-1000000 : Int32) M4))))) ∧ (¬ r2 = 0 → kX7_found d r2 M2 (fun (r6 : Int32) (M7 : Mm) => Q r6 M7))))) ∧ (¬ (-1 : Int32) ≤ v3 → Q (-1000001 : Int32) M1)))))) ∧ ((M 23 2) = 0 → Q (-1000002 : Int32) M))) : kX7_sort (d + 1) v1 v2 v3 M Q := by
  refine Ct.of (cc := cX7_sort) (nL := 5) (by decide) rfl (Nat.le_of_ble_eq_true rfl) ?_
  show BX7_sort (d + 1) 0 [(0, .ref 0), (1, .int v1), (2, .int v2), (3, .int v3)] [] M Q
  refine B_aload_n dX7_sort_0 0 rfl ?_
  refine B_getf (T := TX7) (N := 11) (v := .ref 23) 0 2 dX7_sort_1 inX7_sort_7 lkX7_sort_f25 (Nat.le_of_ble_eq_true rfl) (Nat.le_of_ble_eq_true rfl) rfl rfl (by decide) rfl ?_
  refine B_getf (T := TX4) (N := 5) (v := .int (M 23 2)) 23 2 dX7_sort_4 inX7_sort_4 lkX7_sort_f139 (Nat.le_of_ble_eq_true rfl) (Nat.le_of_ble_eq_true rfl) rfl rfl (by decide) rfl ?_
  refine B_if_ne (tgt := 13) dX7_sort_7 (by decide) (fun hc => ?_) (fun hc => ?_)
  · have h := h.1 hc
    refine B_iload_n dX7_sort_13 1 rfl ?_
    refine B_callS (st := []) [.int v1] dX7_sort_14 gX7_sort_X7_isRow rfl hyX7_isRow (Nat.le_of_ble_eq_true rfl) (Nat.le_of_ble_eq_true rfl) rfl (Ct.mono h (Nat.le_refl _) (fun r1 M1 h => ?_))
    refine B_if_eq (tgt := 25) dX7_sort_17 (by decide) (fun hc => ?_) (fun hc => ?_)
    · have h := h.1 hc
      refine B_ldc (v := -1000001) dX7_sort_25 lkX7_sort_c73 ?_
      exact B_iret dX7_sort_27 h
    · have h := h.2 hc
      refine B_iload_n dX7_sort_20 3 rfl ?_
      refine B_iconst (v := -1) dX7_sort_21 (by decide) ?_
      refine B_icmp_ge (tgt := 28) dX7_sort_22 (by decide) (fun hc => ?_) (fun hc => ?_)
      · have h := h.1 hc
        refine B_aload_n dX7_sort_28 0 rfl ?_
        refine B_iload_n dX7_sort_29 1 rfl ?_
        refine B_iload_n dX7_sort_30 2 rfl ?_
        refine B_aload_n dX7_sort_31 0 rfl ?_
        refine B_getf (T := TX7) (N := 11) (v := .ref 23) 0 2 dX7_sort_32 inX7_sort_7 lkX7_sort_f25 (Nat.le_of_ble_eq_true rfl) (Nat.le_of_ble_eq_true rfl) rfl rfl (by decide) rfl ?_
        refine B_getf (T := TX4) (N := 5) (v := .int (M1 23 2)) 23 2 dX7_sort_35 inX7_sort_4 lkX7_sort_f139 (Nat.le_of_ble_eq_true rfl) (Nat.le_of_ble_eq_true rfl) rfl rfl (by decide) rfl ?_
        refine B_callV (st := []) 0 [.int v1, .int v2, .int (M1 23 2)] dX7_sort_38 gX7_sort_X7_findingOf rfl hyX7_findingOf (Nat.le_of_ble_eq_true rfl) (Nat.le_of_ble_eq_true rfl) TX7 11 rfl (Nat.le_of_ble_eq_true rfl) (Nat.le_of_ble_eq_true rfl) rfl (Ct.mono h (Nat.le_refl _) (fun r2 M2 h => ?_))
        refine B_istore (lv1 := [(4, .int r2), (0, .ref 0), (1, .int v1), (2, .int v2), (3, .int v3)]) dX7_sort_41 (by decide) rfl ?_
        refine B_iload dX7_sort_43 0 rfl ?_
        refine B_if_eq (tgt := 55) dX7_sort_45 (by decide) (fun hc => ?_) (fun hc => ?_)
        · have h := h.1 hc
          refine B_aload_n dX7_sort_55 1 rfl ?_
          refine B_iconst (v := 0) dX7_sort_56 (by decide) ?_
          refine B_putf (T := TX7) (N := 11) 0 10 tyX7 tyX7_ok nmX7 dX7_sort_57 inX7_sort_7 lkX7_sort_f78 (Nat.le_of_ble_eq_true rfl) (Nat.le_of_ble_eq_true rfl) rfl rfl (by decide) rfl rfl (by decide +kernel) ?_
          have h := h _ rfl
          generalize (upd2 M2 0 10 (0 : Int32)) = M3 at h ⊢
          refine B_aload_n dX7_sort_60 1 rfl ?_
          refine B_getf (T := TX7) (N := 11) (v := .ref 40) 0 6 dX7_sort_61 inX7_sort_7 lkX7_sort_f46 (Nat.le_of_ble_eq_true rfl) (Nat.le_of_ble_eq_true rfl) rfl rfl (by decide) rfl ?_
          refine B_aload_n dX7_sort_64 1 rfl ?_
          refine B_getf (T := TX7) (N := 11) (v := .ref 23) 0 2 dX7_sort_65 inX7_sort_7 lkX7_sort_f25 (Nat.le_of_ble_eq_true rfl) (Nat.le_of_ble_eq_true rfl) rfl rfl (by decide) rfl ?_
          refine B_aload_n dX7_sort_68 1 rfl ?_
          refine B_getf (T := TX7) (N := 11) (v := .ref 1) 0 0 dX7_sort_69 inX7_sort_7 lkX7_sort_f11 (Nat.le_of_ble_eq_true rfl) (Nat.le_of_ble_eq_true rfl) rfl rfl (by decide) rfl ?_
          refine B_iload_n dX7_sort_72 2 rfl ?_
          obtain ⟨hi1, h⟩ := h
          refine B_aaS dX7_sort_73 hi1 ?_
          refine B_iload_n dX7_sort_74 3 rfl ?_
          refine B_callV (st := []) 40 [.ref 23, .ref (sh v1), .int v2] dX7_sort_75 gX7_sort_X2_take rfl hyX2_take (Nat.le_of_ble_eq_true rfl) (Nat.le_of_ble_eq_true rfl) TX2 2 rfl (Nat.le_of_ble_eq_true rfl) (Nat.le_of_ble_eq_true rfl) rfl (Ct.mono h (Nat.le_refl _) (fun r3 M4 h => ?_))
          refine B_if_ne (tgt := 84) dX7_sort_78 (by decide) (fun hc => ?_) (fun hc => ?_)
          · have h := h.1 hc
            refine B_iload_n dX7_sort_84 4 rfl ?_
            refine B_if_ge (tgt := 102) dX7_sort_85 (by decide) (fun hc => ?_) (fun hc => ?_)
            · have h := h.1 hc
              refine B_aload_n dX7_sort_102 1 rfl ?_
              refine B_getf (T := TX7) (N := 11) (v := .ref 40) 0 6 dX7_sort_103 inX7_sort_7 lkX7_sort_f46 (Nat.le_of_ble_eq_true rfl) (Nat.le_of_ble_eq_true rfl) rfl rfl (by decide) rfl ?_
              refine B_aload_n dX7_sort_106 1 rfl ?_
              refine B_getf (T := TX7) (N := 11) (v := .ref 23) 0 2 dX7_sort_107 inX7_sort_7 lkX7_sort_f25 (Nat.le_of_ble_eq_true rfl) (Nat.le_of_ble_eq_true rfl) rfl rfl (by decide) rfl ?_
              refine B_iload_n dX7_sort_110 4 rfl ?_
              refine B_callV (st := []) 40 [.ref 23, .int v3] dX7_sort_111 gX7_sort_X2_neighbourChange rfl hyX2_neighbourChange (Nat.le_of_ble_eq_true rfl) (Nat.le_of_ble_eq_true rfl) TX2 2 rfl (Nat.le_of_ble_eq_true rfl) (Nat.le_of_ble_eq_true rfl) rfl (Ct.mono h (Nat.le_refl _) (fun r4 M5 h => ?_))
              exact B_iret dX7_sort_114 h
            · have h := h.2 hc
              refine B_aload_n dX7_sort_88 1 rfl ?_
              refine B_getf (T := TX7) (N := 11) (v := .ref 40) 0 6 dX7_sort_89 inX7_sort_7 lkX7_sort_f46 (Nat.le_of_ble_eq_true rfl) (Nat.le_of_ble_eq_true rfl) rfl rfl (by decide) rfl ?_
              refine B_aload_n dX7_sort_92 1 rfl ?_
              refine B_getf (T := TX7) (N := 11) (v := .ref 23) 0 2 dX7_sort_93 inX7_sort_7 lkX7_sort_f25 (Nat.le_of_ble_eq_true rfl) (Nat.le_of_ble_eq_true rfl) rfl rfl (by decide) rfl ?_
              refine B_callV (st := []) 40 [.ref 23] dX7_sort_96 gX7_sort_X2_neighbourChanges rfl hyX2_neighbourChanges (Nat.le_of_ble_eq_true rfl) (Nat.le_of_ble_eq_true rfl) TX2 2 rfl (Nat.le_of_ble_eq_true rfl) (Nat.le_of_ble_eq_true rfl) rfl (Ct.mono h (Nat.le_refl _) (fun r5 M6 h => ?_))
              refine B_goto (tgt := 114) dX7_sort_99 (by decide) ?_
              exact B_iret dX7_sort_114 h
          · have h := h.2 hc
            refine B_ldc (v := -1000000) dX7_sort_81 lkX7_sort_c182 ?_
            exact B_iret dX7_sort_83 h
        · have h := h.2 hc
          refine B_aload_n dX7_sort_48 1 rfl ?_
          refine B_iload dX7_sort_49 0 rfl ?_
          refine B_callV (st := []) 0 [.int r2] dX7_sort_51 gX7_sort_X7_found rfl hyX7_found (Nat.le_of_ble_eq_true rfl) (Nat.le_of_ble_eq_true rfl) TX7 11 rfl (Nat.le_of_ble_eq_true rfl) (Nat.le_of_ble_eq_true rfl) rfl (Ct.mono h (Nat.le_refl _) (fun r6 M7 h => ?_))
          exact B_iret dX7_sort_54 h
      · have h := h.2 hc
        refine B_ldc (v := -1000001) dX7_sort_25 lkX7_sort_c73 ?_
        exact B_iret dX7_sort_27 h
  · have h := h.2 hc
    refine B_ldc (v := -1000002) dX7_sort_10 lkX7_sort_c143 ?_
    exact B_iret dX7_sort_12 h
set_option maxHeartbeats 4000000 in
set_option maxRecDepth 100000 in
theorem rX7_plan (d : Nat) (v1 : Int32) (v2 : Int32) (v3 : Int32) (M : Mm) (Q : Int32 → Mm → Prop)
    (h : kX4_isSaint d 23 v1 M (fun (r1 : Int32) (M1 : Mm) => ((r1 = 0 → Q (-1000001 : Int32) M1) ∧ (¬ r1 = 0 → kX7_isThing d v2 M1 (fun (r2 : Int32) (M2 : Mm) => ((r2 = 0 → Q (-1000001 : Int32) M2) ∧ (¬ r2 = 0 → ((v3 < (-1 : Int32) → Q (-1000001 : Int32) M2) ∧ (¬ v3 < (-1 : Int32) → ((v3 ≤ (1 : Int32) → kX7_fewestByHand d v1 v2 M2 (fun (r3 : Int32) (M3 : Mm) => ((0 ≤ r3 → ((0 ≤ v3 → ((r3 ≤ v3 → Q (-1000000 : Int32) M3) ∧ (¬ r3 ≤ v3 → vp_in v3 2 ∧ Q (M3 48 v3.toNatClampNeg) M3))) ∧ (¬ 0 ≤ v3 → Q r3 M3))) ∧ (¬ 0 ≤ r3 → Q (-1000000 : Int32) M3)))) ∧ (¬ v3 ≤ (1 : Int32) → Q (-1000001 : Int32) M2))))))))))) : kX7_plan (d + 1) v1 v2 v3 M Q := by
  refine Ct.of (cc := cX7_plan) (nL := 5) (by decide) rfl (Nat.le_of_ble_eq_true rfl) ?_
  show BX7_plan (d + 1) 0 [(0, .ref 0), (1, .int v1), (2, .int v2), (3, .int v3)] [] M Q
  refine B_aload_n dX7_plan_0 0 rfl ?_
  refine B_getf (T := TX7) (N := 11) (v := .ref 23) 0 2 dX7_plan_1 inX7_plan_7 lkX7_plan_f25 (Nat.le_of_ble_eq_true rfl) (Nat.le_of_ble_eq_true rfl) rfl rfl (by decide) rfl ?_
  refine B_iload_n dX7_plan_4 1 rfl ?_
  refine B_callV (st := []) 23 [.int v1] dX7_plan_5 gX7_plan_X4_isSaint rfl hyX4_isSaint (Nat.le_of_ble_eq_true rfl) (Nat.le_of_ble_eq_true rfl) TX4 5 rfl (Nat.le_of_ble_eq_true rfl) (Nat.le_of_ble_eq_true rfl) rfl (Ct.mono h (Nat.le_refl _) (fun r1 M1 h => ?_))
  refine B_if_eq (tgt := 28) dX7_plan_8 (by decide) (fun hc => ?_) (fun hc => ?_)
  · have h := h.1 hc
    refine B_ldc (v := -1000001) dX7_plan_28 lkX7_plan_c73 ?_
    exact B_iret dX7_plan_30 h
  · have h := h.2 hc
    refine B_iload_n dX7_plan_11 2 rfl ?_
    refine B_callS (st := []) [.int v2] dX7_plan_12 gX7_plan_X7_isThing rfl hyX7_isThing (Nat.le_of_ble_eq_true rfl) (Nat.le_of_ble_eq_true rfl) rfl (Ct.mono h (Nat.le_refl _) (fun r2 M2 h => ?_))
    refine B_if_eq (tgt := 28) dX7_plan_15 (by decide) (fun hc => ?_) (fun hc => ?_)
    · have h := h.1 hc
      refine B_ldc (v := -1000001) dX7_plan_28 lkX7_plan_c73 ?_
      exact B_iret dX7_plan_30 h
    · have h := h.2 hc
      refine B_iload_n dX7_plan_18 3 rfl ?_
      refine B_iconst (v := -1) dX7_plan_19 (by decide) ?_
      refine B_icmp_lt (tgt := 28) dX7_plan_20 (by decide) (fun hc => ?_) (fun hc => ?_)
      · have h := h.1 hc
        refine B_ldc (v := -1000001) dX7_plan_28 lkX7_plan_c73 ?_
        exact B_iret dX7_plan_30 h
      · have h := h.2 hc
        refine B_iload_n dX7_plan_23 3 rfl ?_
        refine B_iconst (v := 1) dX7_plan_24 (by decide) ?_
        refine B_icmp_le (tgt := 31) dX7_plan_25 (by decide) (fun hc => ?_) (fun hc => ?_)
        · have h := h.1 hc
          refine B_aload_n dX7_plan_31 0 rfl ?_
          refine B_iload_n dX7_plan_32 1 rfl ?_
          refine B_iload_n dX7_plan_33 2 rfl ?_
          refine B_callV (st := []) 0 [.int v1, .int v2] dX7_plan_34 gX7_plan_X7_fewestByHand rfl hyX7_fewestByHand (Nat.le_of_ble_eq_true rfl) (Nat.le_of_ble_eq_true rfl) TX7 11 rfl (Nat.le_of_ble_eq_true rfl) (Nat.le_of_ble_eq_true rfl) rfl (Ct.mono h (Nat.le_refl _) (fun r3 M3 h => ?_))
          refine B_istore (lv1 := [(4, .int r3), (0, .ref 0), (1, .int v1), (2, .int v2), (3, .int v3)]) dX7_plan_37 (by decide) rfl ?_
          refine B_iload dX7_plan_39 0 rfl ?_
          refine B_if_ge (tgt := 47) dX7_plan_41 (by decide) (fun hc => ?_) (fun hc => ?_)
          · have h := h.1 hc
            refine B_iload_n dX7_plan_47 4 rfl ?_
            refine B_if_ge (tgt := 54) dX7_plan_48 (by decide) (fun hc => ?_) (fun hc => ?_)
            · have h := h.1 hc
              refine B_iload_n dX7_plan_54 4 rfl ?_
              refine B_iload dX7_plan_55 0 rfl ?_
              refine B_icmp_ge (tgt := 69) dX7_plan_57 (by decide) (fun hc => ?_) (fun hc => ?_)
              · have h := h.1 hc
                refine B_ldc (v := -1000000) dX7_plan_69 lkX7_plan_c182 ?_
                exact B_iret dX7_plan_71 h
              · have h := h.2 hc
                refine B_aload_n dX7_plan_60 1 rfl ?_
                refine B_getf (T := TX7) (N := 11) (v := .ref 48) 0 9 dX7_plan_61 inX7_plan_7 lkX7_plan_f64 (Nat.le_of_ble_eq_true rfl) (Nat.le_of_ble_eq_true rfl) rfl rfl (by decide) rfl ?_
                refine B_iload_n dX7_plan_64 4 rfl ?_
                obtain ⟨hi, h⟩ := h
                refine B_iald (n := 2) 48 dX7_plan_65 (Nat.le_of_ble_eq_true rfl) rfl rfl hi ?_
                refine B_goto (tgt := 71) dX7_plan_66 (by decide) ?_
                exact B_iret dX7_plan_71 h
            · have h := h.2 hc
              refine B_iload dX7_plan_51 0 rfl ?_
              exact B_iret dX7_plan_53 h
          · have h := h.2 hc
            refine B_ldc (v := -1000000) dX7_plan_44 lkX7_plan_c182 ?_
            exact B_iret dX7_plan_46 h
        · have h := h.2 hc
          refine B_ldc (v := -1000001) dX7_plan_28 lkX7_plan_c73 ?_
          exact B_iret dX7_plan_30 h
set_option maxHeartbeats 4000000 in
set_option maxRecDepth 100000 in
theorem rX7_fits (d : Nat) (v1 : Int32) (v2 : Int32) (v3 : Int32) (v4 : Int32) (v5 : Int32) (M : Mm) (Q : Int32 → Mm → Prop)
    (h : kX7_areCluesAsTold d v1 v2 v4 v5 M (fun (r1 : Int32) (M1 : Mm) => ((¬ r1 = 0 → kX7_findingOf d v2 v3 v4 M1 (fun (r2 : Int32) (M2 : Mm) => ((r2 = 0 → (∀ M3 : Mm, M3 = (upd2 M2 0 10 (0 : Int32)) → ((¬ v5 = 0 → kX7_nightsThatFit d v1 v2 v3 v4 M3 (fun (r3 : Int32) (M4 : Mm) => Q r3 M4)) ∧ (v5 = 0 → kX7_kindsThatFit d v1 v2 v3 v4 M3 (fun (r4 : Int32) (M5 : Mm) => Q r4 M5))))) ∧ (¬ r2 = 0 → kX7_found d r2 M2 (fun (r5 : Int32) (M6 : Mm) => Q r5 M6))))) ∧ (r1 = 0 → Q (-1000001 : Int32) M1)))) : kX7_fits (d + 1) v1 v2 v3 v4 v5 M Q := by
  refine Ct.of (cc := cX7_fits) (nL := 7) (by decide) rfl (Nat.le_of_ble_eq_true rfl) ?_
  show BX7_fits (d + 1) 0 [(0, .ref 0), (1, .int v1), (2, .int v2), (3, .int v3), (4, .int v4), (5, .int v5)] [] M Q
  refine B_aload_n dX7_fits_0 0 rfl ?_
  refine B_iload_n dX7_fits_1 1 rfl ?_
  refine B_iload_n dX7_fits_2 2 rfl ?_
  refine B_iload dX7_fits_3 4 rfl ?_
  refine B_iload dX7_fits_5 5 rfl ?_
  refine B_callV (st := []) 0 [.int v1, .int v2, .int v4, .int v5] dX7_fits_7 gX7_fits_X7_areCluesAsTold rfl hyX7_areCluesAsTold (Nat.le_of_ble_eq_true rfl) (Nat.le_of_ble_eq_true rfl) TX7 11 rfl (Nat.le_of_ble_eq_true rfl) (Nat.le_of_ble_eq_true rfl) rfl (Ct.mono h (Nat.le_refl _) (fun r1 M1 h => ?_))
  refine B_if_ne (tgt := 16) dX7_fits_10 (by decide) (fun hc => ?_) (fun hc => ?_)
  · have h := h.1 hc
    refine B_aload_n dX7_fits_16 0 rfl ?_
    refine B_iload_n dX7_fits_17 2 rfl ?_
    refine B_iload_n dX7_fits_18 3 rfl ?_
    refine B_iload dX7_fits_19 4 rfl ?_
    refine B_callV (st := []) 0 [.int v2, .int v3, .int v4] dX7_fits_21 gX7_fits_X7_findingOf rfl hyX7_findingOf (Nat.le_of_ble_eq_true rfl) (Nat.le_of_ble_eq_true rfl) TX7 11 rfl (Nat.le_of_ble_eq_true rfl) (Nat.le_of_ble_eq_true rfl) rfl (Ct.mono h (Nat.le_refl _) (fun r2 M2 h => ?_))
    refine B_istore (lv1 := [(6, .int r2), (0, .ref 0), (1, .int v1), (2, .int v2), (3, .int v3), (4, .int v4), (5, .int v5)]) dX7_fits_24 (by decide) rfl ?_
    refine B_iload dX7_fits_26 0 rfl ?_
    refine B_if_eq (tgt := 38) dX7_fits_28 (by decide) (fun hc => ?_) (fun hc => ?_)
    · have h := h.1 hc
      refine B_aload_n dX7_fits_38 1 rfl ?_
      refine B_iconst (v := 0) dX7_fits_39 (by decide) ?_
      refine B_putf (T := TX7) (N := 11) 0 10 tyX7 tyX7_ok nmX7 dX7_fits_40 inX7_fits_7 lkX7_fits_f78 (Nat.le_of_ble_eq_true rfl) (Nat.le_of_ble_eq_true rfl) rfl rfl (by decide) rfl rfl (by decide +kernel) ?_
      have h := h _ rfl
      generalize (upd2 M2 0 10 (0 : Int32)) = M3 at h ⊢
      refine B_iload dX7_fits_43 6 rfl ?_
      refine B_if_ne (tgt := 60) dX7_fits_45 (by decide) (fun hc => ?_) (fun hc => ?_)
      · have h := h.1 hc
        refine B_aload_n dX7_fits_60 1 rfl ?_
        refine B_iload_n dX7_fits_61 2 rfl ?_
        refine B_iload_n dX7_fits_62 3 rfl ?_
        refine B_iload_n dX7_fits_63 4 rfl ?_
        refine B_iload dX7_fits_64 5 rfl ?_
        refine B_callV (st := []) 0 [.int v1, .int v2, .int v3, .int v4] dX7_fits_66 gX7_fits_X7_nightsThatFit rfl hyX7_nightsThatFit (Nat.le_of_ble_eq_true rfl) (Nat.le_of_ble_eq_true rfl) TX7 11 rfl (Nat.le_of_ble_eq_true rfl) (Nat.le_of_ble_eq_true rfl) rfl (Ct.mono h (Nat.le_refl _) (fun r3 M4 h => ?_))
        exact B_iret dX7_fits_69 h
      · have h := h.2 hc
        refine B_aload_n dX7_fits_48 1 rfl ?_
        refine B_iload_n dX7_fits_49 2 rfl ?_
        refine B_iload_n dX7_fits_50 3 rfl ?_
        refine B_iload_n dX7_fits_51 4 rfl ?_
        refine B_iload dX7_fits_52 5 rfl ?_
        refine B_callV (st := []) 0 [.int v1, .int v2, .int v3, .int v4] dX7_fits_54 gX7_fits_X7_kindsThatFit rfl hyX7_kindsThatFit (Nat.le_of_ble_eq_true rfl) (Nat.le_of_ble_eq_true rfl) TX7 11 rfl (Nat.le_of_ble_eq_true rfl) (Nat.le_of_ble_eq_true rfl) rfl (Ct.mono h (Nat.le_refl _) (fun r4 M5 h => ?_))
        refine B_goto (tgt := 69) dX7_fits_57 (by decide) ?_
        exact B_iret dX7_fits_69 h
    · have h := h.2 hc
      refine B_aload_n dX7_fits_31 1 rfl ?_
      refine B_iload dX7_fits_32 0 rfl ?_
      refine B_callV (st := []) 0 [.int r2] dX7_fits_34 gX7_fits_X7_found rfl hyX7_found (Nat.le_of_ble_eq_true rfl) (Nat.le_of_ble_eq_true rfl) TX7 11 rfl (Nat.le_of_ble_eq_true rfl) (Nat.le_of_ble_eq_true rfl) rfl (Ct.mono h (Nat.le_refl _) (fun r5 M6 h => ?_))
      exact B_iret dX7_fits_37 h
  · have h := h.2 hc
    refine B_ldc (v := -1000001) dX7_fits_13 lkX7_fits_c73 ?_
    exact B_iret dX7_fits_15 h
set_option maxHeartbeats 4000000 in
set_option maxRecDepth 100000 in
theorem rX7_began (d : Nat) (v1 : Int32) (v2 : Int32) (v3 : Int32) (v4 : Int32) (v5 : Int32) (M : Mm) (Q : Int32 → Mm → Prop)
    (h : kX7_areCluesAsTold d v1 v2 v4 v5 M (fun (r1 : Int32) (M1 : Mm) => ((¬ r1 = 0 → kX7_findingOf d v2 v3 v4 M1 (fun (r2 : Int32) (M2 : Mm) => ((r2 = 0 → (∀ M3 : Mm, M3 = (upd2 M2 0 10 (0 : Int32)) → kX7_ordersThatFit d v1 v2 v3 v4 v5 M3 (fun (r3 : Int32) (M4 : Mm) => Q r3 M4))) ∧ (¬ r2 = 0 → kX7_found d r2 M2 (fun (r4 : Int32) (M5 : Mm) => Q r4 M5))))) ∧ (r1 = 0 → Q (-1000001 : Int32) M1)))) : kX7_began (d + 1) v1 v2 v3 v4 v5 M Q := by
  refine Ct.of (cc := cX7_began) (nL := 7) (by decide) rfl (Nat.le_of_ble_eq_true rfl) ?_
  show BX7_began (d + 1) 0 [(0, .ref 0), (1, .int v1), (2, .int v2), (3, .int v3), (4, .int v4), (5, .int v5)] [] M Q
  refine B_aload_n dX7_began_0 0 rfl ?_
  refine B_iload_n dX7_began_1 1 rfl ?_
  refine B_iload_n dX7_began_2 2 rfl ?_
  refine B_iload dX7_began_3 4 rfl ?_
  refine B_iload dX7_began_5 5 rfl ?_
  refine B_callV (st := []) 0 [.int v1, .int v2, .int v4, .int v5] dX7_began_7 gX7_began_X7_areCluesAsTold rfl hyX7_areCluesAsTold (Nat.le_of_ble_eq_true rfl) (Nat.le_of_ble_eq_true rfl) TX7 11 rfl (Nat.le_of_ble_eq_true rfl) (Nat.le_of_ble_eq_true rfl) rfl (Ct.mono h (Nat.le_refl _) (fun r1 M1 h => ?_))
  refine B_if_ne (tgt := 16) dX7_began_10 (by decide) (fun hc => ?_) (fun hc => ?_)
  · have h := h.1 hc
    refine B_aload_n dX7_began_16 0 rfl ?_
    refine B_iload_n dX7_began_17 2 rfl ?_
    refine B_iload_n dX7_began_18 3 rfl ?_
    refine B_iload dX7_began_19 4 rfl ?_
    refine B_callV (st := []) 0 [.int v2, .int v3, .int v4] dX7_began_21 gX7_began_X7_findingOf rfl hyX7_findingOf (Nat.le_of_ble_eq_true rfl) (Nat.le_of_ble_eq_true rfl) TX7 11 rfl (Nat.le_of_ble_eq_true rfl) (Nat.le_of_ble_eq_true rfl) rfl (Ct.mono h (Nat.le_refl _) (fun r2 M2 h => ?_))
    refine B_istore (lv1 := [(6, .int r2), (0, .ref 0), (1, .int v1), (2, .int v2), (3, .int v3), (4, .int v4), (5, .int v5)]) dX7_began_24 (by decide) rfl ?_
    refine B_iload dX7_began_26 0 rfl ?_
    refine B_if_eq (tgt := 38) dX7_began_28 (by decide) (fun hc => ?_) (fun hc => ?_)
    · have h := h.1 hc
      refine B_aload_n dX7_began_38 1 rfl ?_
      refine B_iconst (v := 0) dX7_began_39 (by decide) ?_
      refine B_putf (T := TX7) (N := 11) 0 10 tyX7 tyX7_ok nmX7 dX7_began_40 inX7_began_7 lkX7_began_f78 (Nat.le_of_ble_eq_true rfl) (Nat.le_of_ble_eq_true rfl) rfl rfl (by decide) rfl rfl (by decide +kernel) ?_
      have h := h _ rfl
      generalize (upd2 M2 0 10 (0 : Int32)) = M3 at h ⊢
      refine B_aload_n dX7_began_43 1 rfl ?_
      refine B_iload_n dX7_began_44 2 rfl ?_
      refine B_iload_n dX7_began_45 3 rfl ?_
      refine B_iload_n dX7_began_46 4 rfl ?_
      refine B_iload dX7_began_47 5 rfl ?_
      refine B_iload dX7_began_49 6 rfl ?_
      refine B_callV (st := []) 0 [.int v1, .int v2, .int v3, .int v4, .int v5] dX7_began_51 gX7_began_X7_ordersThatFit rfl hyX7_ordersThatFit (Nat.le_of_ble_eq_true rfl) (Nat.le_of_ble_eq_true rfl) TX7 11 rfl (Nat.le_of_ble_eq_true rfl) (Nat.le_of_ble_eq_true rfl) rfl (Ct.mono h (Nat.le_refl _) (fun r3 M4 h => ?_))
      exact B_iret dX7_began_54 h
    · have h := h.2 hc
      refine B_aload_n dX7_began_31 1 rfl ?_
      refine B_iload dX7_began_32 0 rfl ?_
      refine B_callV (st := []) 0 [.int r2] dX7_began_34 gX7_began_X7_found rfl hyX7_found (Nat.le_of_ble_eq_true rfl) (Nat.le_of_ble_eq_true rfl) TX7 11 rfl (Nat.le_of_ble_eq_true rfl) (Nat.le_of_ble_eq_true rfl) rfl (Ct.mono h (Nat.le_refl _) (fun r4 M5 h => ?_))
      exact B_iret dX7_began_37 h
  · have h := h.2 hc
    refine B_ldc (v := -1000001) dX7_began_13 lkX7_began_c73 ?_
    exact B_iret dX7_began_15 h
set_option maxHeartbeats 4000000 in
set_option maxRecDepth 100000 in
theorem rX7_sleep (d : Nat) (v1 : Int32) (v2 : Int32) (v3 : Int32) (v4 : Int32) (M : Mm) (Q : Int32 → Mm → Prop)
    (h : kX4_isSaint d 23 v1 M (fun (r1 : Int32) (M1 : Mm) => ((r1 = 0 → Q (-1000001 : Int32) M1) ∧ (¬ r1 = 0 → ((v2 < 0 → Q (-1000001 : Int32) M1) ∧ (¬ v2 < 0 → (((9 : Int32) < v2 → Q (-1000001 : Int32) M1) ∧ (¬ (9 : Int32) < v2 → ((v3 < 0 → Q (-1000001 : Int32) M1) ∧ (¬ v3 < 0 → (((10 : Int32) < v3 → Q (-1000001 : Int32) M1) ∧ (¬ (10 : Int32) < v3 → kX7_isFirstOrSecond d v4 M1 (fun (r2 : Int32) (M2 : Mm) => ((¬ r2 = 0 → BX7_sleep (d + 1) 48 [(0, .ref 0), (1, .int v1), (2, .int v2), (3, .int v3), (4, .int v4), (5, .int (0 : Int32)), (6, .int (0 : Int32))] [] M2 Q) ∧ (r2 = 0 → Q (-1000001 : Int32) M2))))))))))))))) : kX7_sleep (d + 1) v1 v2 v3 v4 M Q := by
  refine Ct.of (cc := cX7_sleep) (nL := 8) (by decide) rfl (Nat.le_of_ble_eq_true rfl) ?_
  show BX7_sleep (d + 1) 0 [(0, .ref 0), (1, .int v1), (2, .int v2), (3, .int v3), (4, .int v4)] [] M Q
  refine B_aload_n dX7_sleep_0 0 rfl ?_
  refine B_getf (T := TX7) (N := 11) (v := .ref 23) 0 2 dX7_sleep_1 inX7_sleep_7 lkX7_sleep_f25 (Nat.le_of_ble_eq_true rfl) (Nat.le_of_ble_eq_true rfl) rfl rfl (by decide) rfl ?_
  refine B_iload_n dX7_sleep_4 1 rfl ?_
  refine B_callV (st := []) 23 [.int v1] dX7_sleep_5 gX7_sleep_X4_isSaint rfl hyX4_isSaint (Nat.le_of_ble_eq_true rfl) (Nat.le_of_ble_eq_true rfl) TX4 5 rfl (Nat.le_of_ble_eq_true rfl) (Nat.le_of_ble_eq_true rfl) rfl (Ct.mono h (Nat.le_refl _) (fun r1 M1 h => ?_))
  refine B_if_eq (tgt := 39) dX7_sleep_8 (by decide) (fun hc => ?_) (fun hc => ?_)
  · have h := h.1 hc
    refine B_ldc (v := -1000001) dX7_sleep_39 lkX7_sleep_c73 ?_
    exact B_iret dX7_sleep_41 h
  · have h := h.2 hc
    refine B_iload_n dX7_sleep_11 2 rfl ?_
    refine B_if_lt (tgt := 39) dX7_sleep_12 (by decide) (fun hc => ?_) (fun hc => ?_)
    · have h := h.1 hc
      refine B_ldc (v := -1000001) dX7_sleep_39 lkX7_sleep_c73 ?_
      exact B_iret dX7_sleep_41 h
    · have h := h.2 hc
      refine B_iload_n dX7_sleep_15 2 rfl ?_
      refine B_bipush (v := 9) dX7_sleep_16 (by decide) ?_
      refine B_icmp_gt (tgt := 39) dX7_sleep_18 (by decide) (fun hc => ?_) (fun hc => ?_)
      · have h := h.1 hc
        refine B_ldc (v := -1000001) dX7_sleep_39 lkX7_sleep_c73 ?_
        exact B_iret dX7_sleep_41 h
      · have h := h.2 hc
        refine B_iload_n dX7_sleep_21 3 rfl ?_
        refine B_if_lt (tgt := 39) dX7_sleep_22 (by decide) (fun hc => ?_) (fun hc => ?_)
        · have h := h.1 hc
          refine B_ldc (v := -1000001) dX7_sleep_39 lkX7_sleep_c73 ?_
          exact B_iret dX7_sleep_41 h
        · have h := h.2 hc
          refine B_iload_n dX7_sleep_25 3 rfl ?_
          refine B_bipush (v := 10) dX7_sleep_26 (by decide) ?_
          refine B_icmp_gt (tgt := 39) dX7_sleep_28 (by decide) (fun hc => ?_) (fun hc => ?_)
          · have h := h.1 hc
            refine B_ldc (v := -1000001) dX7_sleep_39 lkX7_sleep_c73 ?_
            exact B_iret dX7_sleep_41 h
          · have h := h.2 hc
            refine B_iload dX7_sleep_31 4 rfl ?_
            refine B_callS (st := []) [.int v4] dX7_sleep_33 gX7_sleep_X7_isFirstOrSecond rfl hyX7_isFirstOrSecond (Nat.le_of_ble_eq_true rfl) (Nat.le_of_ble_eq_true rfl) rfl (Ct.mono h (Nat.le_refl _) (fun r2 M2 h => ?_))
            refine B_if_ne (tgt := 42) dX7_sleep_36 (by decide) (fun hc => ?_) (fun hc => ?_)
            · have h := h.1 hc
              refine B_iconst (v := 0) dX7_sleep_42 (by decide) ?_
              refine B_istore (lv1 := [(5, .int (0 : Int32)), (0, .ref 0), (1, .int v1), (2, .int v2), (3, .int v3), (4, .int v4)]) dX7_sleep_43 (by decide) rfl ?_
              refine B_iconst (v := 0) dX7_sleep_45 (by decide) ?_
              refine B_istore (lv1 := [(6, .int (0 : Int32)), (5, .int (0 : Int32)), (0, .ref 0), (1, .int v1), (2, .int v2), (3, .int v3), (4, .int v4)]) dX7_sleep_46 (by decide) rfl ?_
              refine B_weak [2, 3, 4, 5, 6, 1, 0] rfl ?_
              exact h
            · have h := h.2 hc
              refine B_ldc (v := -1000001) dX7_sleep_39 lkX7_sleep_c73 ?_
              exact B_iret dX7_sleep_41 h
set_option maxHeartbeats 4000000 in
set_option maxRecDepth 100000 in
theorem rX7_sleep_48 (d : Nat) (v1 : Int32) (v2 : Int32) (v3 : Int32) (v4 : Int32) (v5 : Int32) (v6 : Int32) (M : Mm) (Q : Int32 → Mm → Prop)
    (h : (((ishl (1 : Int32) (M 23 2)) ≤ v6 → kX7_power d (10 : Int32) (M 23 2) M (fun (r1 : Int32) (M1 : Mm) => kX7_commonDivisor d v5 r1 M1 (fun (r2 : Int32) (M2 : Mm) => ((0 < r2 → ((¬ v4 = 0 → ¬ r2 = 0 ∧ Q (r1 / r2) M2) ∧ (v4 = 0 → ¬ r2 = 0 ∧ Q (v5 / r2) M2))) ∧ (¬ 0 < r2 → Q (-1000001 : Int32) M2))))) ∧ (¬ (ishl (1 : Int32) (M 23 2)) ≤ v6 → kX4_become d 26 23 M (fun (_r3 : Int32) (M3 : Mm) => kX4_advance d 26 v6 M3 (fun (_r4 : Int32) (M4 : Mm) => vp_in v1 7 ∧ ((¬ (M4 28 v1.toNatClampNeg) = v2 → BX7_sleep (d + 1) 48 [(0, .ref 0), (1, .int v1), (2, .int v2), (3, .int v3), (4, .int v4), (5, .int v5), (6, .int (v6 + (1 : Int32)))] [] M4 Q) ∧ ((M4 28 v1.toNatClampNeg) = v2 → kJ6_bitCount_0f7a4 d v6 M4 (fun (r5 : Int32) (M5 : Mm) => kX7_power d v3 r5 M5 (fun (r6 : Int32) (M6 : Mm) => kX7_power d ((10 : Int32) - v3) ((M6 23 2) - r5) M6 (fun (r7 : Int32) (M7 : Mm) => BX7_sleep (d + 1) 48 [(0, .ref 0), (1, .int v1), (2, .int v2), (3, .int v3), (4, .int v4), (5, .int (v5 + (r6 * r7))), (6, .int (v6 + (1 : Int32)))] [] M7 Q)))))))))) : BX7_sleep (d + 1) 48 [(0, .ref 0), (1, .int v1), (2, .int v2), (3, .int v3), (4, .int v4), (5, .int v5), (6, .int v6)] [] M Q := by
  refine B_iload dX7_sleep_48 6 rfl ?_
  refine B_iconst (v := 1) dX7_sleep_50 (by decide) ?_
  refine B_aload_n dX7_sleep_51 0 rfl ?_
  refine B_getf (T := TX7) (N := 11) (v := .ref 23) 0 2 dX7_sleep_52 inX7_sleep_7 lkX7_sleep_f25 (Nat.le_of_ble_eq_true rfl) (Nat.le_of_ble_eq_true rfl) rfl rfl (by decide) rfl ?_
  refine B_getf (T := TX4) (N := 5) (v := .int (M 23 2)) 23 2 dX7_sleep_55 inX7_sleep_4 lkX7_sleep_f139 (Nat.le_of_ble_eq_true rfl) (Nat.le_of_ble_eq_true rfl) rfl rfl (by decide) rfl ?_
  refine B_ishl dX7_sleep_58 ?_
  refine B_icmp_ge (tgt := 137) dX7_sleep_59 (by decide) (fun hc => ?_) (fun hc => ?_)
  · have h := h.1 hc
    refine B_bipush (v := 10) dX7_sleep_137 (by decide) ?_
    refine B_aload_n dX7_sleep_139 0 rfl ?_
    refine B_getf (T := TX7) (N := 11) (v := .ref 23) 0 2 dX7_sleep_140 inX7_sleep_7 lkX7_sleep_f25 (Nat.le_of_ble_eq_true rfl) (Nat.le_of_ble_eq_true rfl) rfl rfl (by decide) rfl ?_
    refine B_getf (T := TX4) (N := 5) (v := .int (M 23 2)) 23 2 dX7_sleep_143 inX7_sleep_4 lkX7_sleep_f139 (Nat.le_of_ble_eq_true rfl) (Nat.le_of_ble_eq_true rfl) rfl rfl (by decide) rfl ?_
    refine B_callS (st := []) [.int (10 : Int32), .int (M 23 2)] dX7_sleep_146 gX7_sleep_X7_power rfl hyX7_power (Nat.le_of_ble_eq_true rfl) (Nat.le_of_ble_eq_true rfl) rfl (Ct.mono h (Nat.le_refl _) (fun r1 M1 h => ?_))
    refine B_istore (lv1 := [(6, .int r1), (0, .ref 0), (1, .int v1), (2, .int v2), (3, .int v3), (4, .int v4), (5, .int v5)]) dX7_sleep_149 (by decide) rfl ?_
    refine B_iload dX7_sleep_151 6 rfl ?_
    refine B_iload dX7_sleep_153 0 rfl ?_
    refine B_callS (st := []) [.int v5, .int r1] dX7_sleep_155 gX7_sleep_X7_commonDivisor rfl hyX7_commonDivisor (Nat.le_of_ble_eq_true rfl) (Nat.le_of_ble_eq_true rfl) rfl (Ct.mono h (Nat.le_refl _) (fun r2 M2 h => ?_))
    refine B_istore (lv1 := [(7, .int r2), (6, .int r1), (0, .ref 0), (1, .int v1), (2, .int v2), (3, .int v3), (4, .int v4), (5, .int v5)]) dX7_sleep_158 (by decide) rfl ?_
    refine B_iload dX7_sleep_160 0 rfl ?_
    refine B_if_gt (tgt := 168) dX7_sleep_162 (by decide) (fun hc => ?_) (fun hc => ?_)
    · have h := h.1 hc
      refine B_iload dX7_sleep_168 6 rfl ?_
      refine B_if_ne (tgt := 181) dX7_sleep_170 (by decide) (fun hc => ?_) (fun hc => ?_)
      · have h := h.1 hc
        refine B_iload dX7_sleep_181 1 rfl ?_
        refine B_iload dX7_sleep_183 0 rfl ?_
        obtain ⟨hz, h⟩ := h
        refine B_idiv dX7_sleep_185 hz ?_
        exact B_iret dX7_sleep_186 h
      · have h := h.2 hc
        refine B_iload dX7_sleep_173 7 rfl ?_
        refine B_iload dX7_sleep_175 0 rfl ?_
        obtain ⟨hz, h⟩ := h
        refine B_idiv dX7_sleep_177 hz ?_
        refine B_goto (tgt := 186) dX7_sleep_178 (by decide) ?_
        exact B_iret dX7_sleep_186 h
    · have h := h.2 hc
      refine B_ldc (v := -1000001) dX7_sleep_165 lkX7_sleep_c73 ?_
      exact B_iret dX7_sleep_167 h
  · have h := h.2 hc
    refine B_aload_n dX7_sleep_62 0 rfl ?_
    refine B_getf (T := TX7) (N := 11) (v := .ref 26) 0 3 dX7_sleep_63 inX7_sleep_7 lkX7_sleep_f29 (Nat.le_of_ble_eq_true rfl) (Nat.le_of_ble_eq_true rfl) rfl rfl (by decide) rfl ?_
    refine B_aload_n dX7_sleep_66 0 rfl ?_
    refine B_getf (T := TX7) (N := 11) (v := .ref 23) 0 2 dX7_sleep_67 inX7_sleep_7 lkX7_sleep_f25 (Nat.le_of_ble_eq_true rfl) (Nat.le_of_ble_eq_true rfl) rfl rfl (by decide) rfl ?_
    refine B_callV (st := []) 26 [.ref 23] dX7_sleep_70 gX7_sleep_X4_become rfl hyX4_become (Nat.le_of_ble_eq_true rfl) (Nat.le_of_ble_eq_true rfl) TX4 5 rfl (Nat.le_of_ble_eq_true rfl) (Nat.le_of_ble_eq_true rfl) rfl (Ct.mono h (Nat.le_refl _) (fun _r3 M3 h => ?_))
    refine B_aload_n dX7_sleep_73 0 rfl ?_
    refine B_getf (T := TX7) (N := 11) (v := .ref 26) 0 3 dX7_sleep_74 inX7_sleep_7 lkX7_sleep_f29 (Nat.le_of_ble_eq_true rfl) (Nat.le_of_ble_eq_true rfl) rfl rfl (by decide) rfl ?_
    refine B_iload dX7_sleep_77 6 rfl ?_
    refine B_callV (st := []) 26 [.int v6] dX7_sleep_79 gX7_sleep_X4_advance rfl hyX4_advance (Nat.le_of_ble_eq_true rfl) (Nat.le_of_ble_eq_true rfl) TX4 5 rfl (Nat.le_of_ble_eq_true rfl) (Nat.le_of_ble_eq_true rfl) rfl (Ct.mono h (Nat.le_refl _) (fun _r4 M4 h => ?_))
    refine B_aload_n dX7_sleep_82 0 rfl ?_
    refine B_getf (T := TX7) (N := 11) (v := .ref 26) 0 3 dX7_sleep_83 inX7_sleep_7 lkX7_sleep_f29 (Nat.le_of_ble_eq_true rfl) (Nat.le_of_ble_eq_true rfl) rfl rfl (by decide) rfl ?_
    refine B_getf (T := TX4) (N := 5) (v := .ref 28) 26 1 dX7_sleep_86 inX7_sleep_4 lkX7_sleep_f160 (Nat.le_of_ble_eq_true rfl) (Nat.le_of_ble_eq_true rfl) rfl rfl (by decide) rfl ?_
    refine B_iload_n dX7_sleep_89 1 rfl ?_
    obtain ⟨hi, h⟩ := h
    refine B_iald (n := 7) 28 dX7_sleep_90 (Nat.le_of_ble_eq_true rfl) rfl rfl hi ?_
    refine B_iload_n dX7_sleep_91 2 rfl ?_
    refine B_icmp_ne (tgt := 131) dX7_sleep_92 (by decide) (fun hc => ?_) (fun hc => ?_)
    · have h := h.1 hc
      refine B_iinc (lv1 := [(6, .int (v6 + (1 : Int32))), (0, .ref 0), (1, .int v1), (2, .int v2), (3, .int v3), (4, .int v4), (5, .int v5)]) (v := (v6 + (1 : Int32))) dX7_sleep_131 6 rfl rfl (by decide) rfl ?_
      refine B_goto (tgt := 48) dX7_sleep_134 (by decide) ?_
      refine B_weak [1, 2, 3, 4, 5, 6, 0] rfl ?_
      exact h
    · have h := h.2 hc
      refine B_iload dX7_sleep_95 6 rfl ?_
      refine B_callS (st := []) [.int v6] dX7_sleep_97 gX7_sleep_J6_bitCount_0f7a4 rfl hyJ6_bitCount_0f7a4 (Nat.le_of_ble_eq_true rfl) (Nat.le_of_ble_eq_true rfl) rfl (Ct.mono h (Nat.le_refl _) (fun r5 M5 h => ?_))
      refine B_istore (lv1 := [(7, .int r5), (0, .ref 0), (1, .int v1), (2, .int v2), (3, .int v3), (4, .int v4), (5, .int v5), (6, .int v6)]) dX7_sleep_100 (by decide) rfl ?_
      refine B_iload dX7_sleep_102 6 rfl ?_
      refine B_iload_n dX7_sleep_104 4 rfl ?_
      refine B_iload dX7_sleep_105 0 rfl ?_
      refine B_callS (st := [.int v5]) [.int v3, .int r5] dX7_sleep_107 gX7_sleep_X7_power rfl hyX7_power (Nat.le_of_ble_eq_true rfl) (Nat.le_of_ble_eq_true rfl) rfl (Ct.mono h (Nat.le_refl _) (fun r6 M6 h => ?_))
      refine B_bipush (v := 10) dX7_sleep_110 (by decide) ?_
      refine B_iload_n dX7_sleep_112 4 rfl ?_
      refine B_isub dX7_sleep_113 ?_
      refine B_aload_n dX7_sleep_114 1 rfl ?_
      refine B_getf (T := TX7) (N := 11) (v := .ref 23) 0 2 dX7_sleep_115 inX7_sleep_7 lkX7_sleep_f25 (Nat.le_of_ble_eq_true rfl) (Nat.le_of_ble_eq_true rfl) rfl rfl (by decide) rfl ?_
      refine B_getf (T := TX4) (N := 5) (v := .int (M6 23 2)) 23 2 dX7_sleep_118 inX7_sleep_4 lkX7_sleep_f139 (Nat.le_of_ble_eq_true rfl) (Nat.le_of_ble_eq_true rfl) rfl rfl (by decide) rfl ?_
      refine B_iload dX7_sleep_121 0 rfl ?_
      refine B_isub dX7_sleep_123 ?_
      refine B_callS (st := [.int r6, .int v5]) [.int ((10 : Int32) - v3), .int ((M6 23 2) - r5)] dX7_sleep_124 gX7_sleep_X7_power rfl hyX7_power (Nat.le_of_ble_eq_true rfl) (Nat.le_of_ble_eq_true rfl) rfl (Ct.mono h (Nat.le_refl _) (fun r7 M7 h => ?_))
      refine B_imul dX7_sleep_127 ?_
      refine B_iadd dX7_sleep_128 ?_
      refine B_istore (lv1 := [(5, .int (v5 + (r6 * r7))), (7, .int r5), (0, .ref 0), (1, .int v1), (2, .int v2), (3, .int v3), (4, .int v4), (6, .int v6)]) dX7_sleep_129 (by decide) rfl ?_
      refine B_iinc (lv1 := [(6, .int (v6 + (1 : Int32))), (5, .int (v5 + (r6 * r7))), (7, .int r5), (0, .ref 0), (1, .int v1), (2, .int v2), (3, .int v3), (4, .int v4)]) (v := (v6 + (1 : Int32))) dX7_sleep_131 7 rfl rfl (by decide) rfl ?_
      refine B_goto (tgt := 48) dX7_sleep_134 (by decide) ?_
      refine B_weak [3, 4, 5, 6, 7, 1, 0] rfl ?_
      exact h
set_option maxHeartbeats 4000000 in
set_option maxRecDepth 100000 in
theorem rX7_drawn (d : Nat) (v1 : Int32) (v2 : Int32) (v3 : Int32) (M : Mm) (Q : Int32 → Mm → Prop)
    (h : ((¬ (M 23 2) = 0 → ((v1 < 0 → Q (-1000001 : Int32) M) ∧ (¬ v1 < 0 → (((60 : Int32) < v1 → Q (-1000001 : Int32) M) ∧ (¬ (60 : Int32) < v1 → ((v2 < (1 : Int32) → Q (-1000001 : Int32) M) ∧ (¬ v2 < (1 : Int32) → (((999999 : Int32) < v2 → Q (-1000001 : Int32) M) ∧ (¬ (999999 : Int32) < v2 → kX7_isFirstOrSecond d v3 M (fun (r1 : Int32) (M1 : Mm) => ((¬ r1 = 0 → kX4_become d 26 23 M1 (fun (_r2 : Int32) (M2 : Mm) => BX7_drawn (d + 1) 65 [(0, .ref 0), (1, .int v1), (3, .int v3), (4, .long v2.toInt64), (6, .int (0 : Int32)), (7, .int (0 : Int32))] [] M2 Q)) ∧ (r1 = 0 → Q (-1000001 : Int32) M1)))))))))))) ∧ ((M 23 2) = 0 → Q (-1000002 : Int32) M))) : kX7_drawn (d + 1) v1 v2 v3 M Q := by
  refine Ct.of (cc := cX7_drawn) (nL := 9) (by decide) rfl (Nat.le_of_ble_eq_true rfl) ?_
  show BX7_drawn (d + 1) 0 [(0, .ref 0), (1, .int v1), (2, .int v2), (3, .int v3)] [] M Q
  refine B_aload_n dX7_drawn_0 0 rfl ?_
  refine B_getf (T := TX7) (N := 11) (v := .ref 23) 0 2 dX7_drawn_1 inX7_drawn_7 lkX7_drawn_f25 (Nat.le_of_ble_eq_true rfl) (Nat.le_of_ble_eq_true rfl) rfl rfl (by decide) rfl ?_
  refine B_getf (T := TX4) (N := 5) (v := .int (M 23 2)) 23 2 dX7_drawn_4 inX7_drawn_4 lkX7_drawn_f139 (Nat.le_of_ble_eq_true rfl) (Nat.le_of_ble_eq_true rfl) rfl rfl (by decide) rfl ?_
  refine B_if_ne (tgt := 13) dX7_drawn_7 (by decide) (fun hc => ?_) (fun hc => ?_)
  · have h := h.1 hc
    refine B_iload_n dX7_drawn_13 1 rfl ?_
    refine B_if_lt (tgt := 41) dX7_drawn_14 (by decide) (fun hc => ?_) (fun hc => ?_)
    · have h := h.1 hc
      refine B_ldc (v := -1000001) dX7_drawn_41 lkX7_drawn_c73 ?_
      exact B_iret dX7_drawn_43 h
    · have h := h.2 hc
      refine B_iload_n dX7_drawn_17 1 rfl ?_
      refine B_bipush (v := 60) dX7_drawn_18 (by decide) ?_
      refine B_icmp_gt (tgt := 41) dX7_drawn_20 (by decide) (fun hc => ?_) (fun hc => ?_)
      · have h := h.1 hc
        refine B_ldc (v := -1000001) dX7_drawn_41 lkX7_drawn_c73 ?_
        exact B_iret dX7_drawn_43 h
      · have h := h.2 hc
        refine B_iload_n dX7_drawn_23 2 rfl ?_
        refine B_iconst (v := 1) dX7_drawn_24 (by decide) ?_
        refine B_icmp_lt (tgt := 41) dX7_drawn_25 (by decide) (fun hc => ?_) (fun hc => ?_)
        · have h := h.1 hc
          refine B_ldc (v := -1000001) dX7_drawn_41 lkX7_drawn_c73 ?_
          exact B_iret dX7_drawn_43 h
        · have h := h.2 hc
          refine B_iload_n dX7_drawn_28 2 rfl ?_
          refine B_ldc (v := 999999) dX7_drawn_29 lkX7_drawn_c245 ?_
          refine B_icmp_gt (tgt := 41) dX7_drawn_31 (by decide) (fun hc => ?_) (fun hc => ?_)
          · have h := h.1 hc
            refine B_ldc (v := -1000001) dX7_drawn_41 lkX7_drawn_c73 ?_
            exact B_iret dX7_drawn_43 h
          · have h := h.2 hc
            refine B_iload_n dX7_drawn_34 3 rfl ?_
            refine B_callS (st := []) [.int v3] dX7_drawn_35 gX7_drawn_X7_isFirstOrSecond rfl hyX7_isFirstOrSecond (Nat.le_of_ble_eq_true rfl) (Nat.le_of_ble_eq_true rfl) rfl (Ct.mono h (Nat.le_refl _) (fun r1 M1 h => ?_))
            refine B_if_ne (tgt := 44) dX7_drawn_38 (by decide) (fun hc => ?_) (fun hc => ?_)
            · have h := h.1 hc
              refine B_aload_n dX7_drawn_44 0 rfl ?_
              refine B_getf (T := TX7) (N := 11) (v := .ref 26) 0 3 dX7_drawn_45 inX7_drawn_7 lkX7_drawn_f29 (Nat.le_of_ble_eq_true rfl) (Nat.le_of_ble_eq_true rfl) rfl rfl (by decide) rfl ?_
              refine B_aload_n dX7_drawn_48 0 rfl ?_
              refine B_getf (T := TX7) (N := 11) (v := .ref 23) 0 2 dX7_drawn_49 inX7_drawn_7 lkX7_drawn_f25 (Nat.le_of_ble_eq_true rfl) (Nat.le_of_ble_eq_true rfl) rfl rfl (by decide) rfl ?_
              refine B_callV (st := []) 26 [.ref 23] dX7_drawn_52 gX7_drawn_X4_become rfl hyX4_become (Nat.le_of_ble_eq_true rfl) (Nat.le_of_ble_eq_true rfl) TX4 5 rfl (Nat.le_of_ble_eq_true rfl) (Nat.le_of_ble_eq_true rfl) rfl (Ct.mono h (Nat.le_refl _) (fun _r2 M2 h => ?_))
              refine B_iload_n dX7_drawn_55 2 rfl ?_
              refine B_i2l dX7_drawn_56 ?_
              refine B_lstore (lv1 := [(4, .long v2.toInt64), (0, .ref 0), (1, .int v1), (2, .int v2), (3, .int v3)]) dX7_drawn_57 (by decide) rfl ?_
              refine B_iconst (v := 0) dX7_drawn_59 (by decide) ?_
              refine B_istore (lv1 := [(6, .int (0 : Int32)), (4, .long v2.toInt64), (0, .ref 0), (1, .int v1), (2, .int v2), (3, .int v3)]) dX7_drawn_60 (by decide) rfl ?_
              refine B_iconst (v := 0) dX7_drawn_62 (by decide) ?_
              refine B_istore (lv1 := [(7, .int (0 : Int32)), (6, .int (0 : Int32)), (4, .long v2.toInt64), (0, .ref 0), (1, .int v1), (2, .int v2), (3, .int v3)]) dX7_drawn_63 (by decide) rfl ?_
              refine B_weak [3, 4, 6, 2, 1, 0] rfl ?_
              exact h
            · have h := h.2 hc
              refine B_ldc (v := -1000001) dX7_drawn_41 lkX7_drawn_c73 ?_
              exact B_iret dX7_drawn_43 h
  · have h := h.2 hc
    refine B_ldc (v := -1000002) dX7_drawn_10 lkX7_drawn_c143 ?_
    exact B_iret dX7_drawn_12 h
set_option maxHeartbeats 4000000 in
set_option maxRecDepth 100000 in
theorem rX7_drawn_65 (d : Nat) (v1 : Int32) (v3 : Int32) (v4 : Int64) (v6 : Int32) (v7 : Int32) (M : Mm) (Q : Int32 → Mm → Prop)
    (h : ((v1 ≤ v7 → ((¬ v3 = 0 → Q v6 M) ∧ (v3 = 0 → kX4_figures d 26 M (fun (r1 : Int32) (M1 : Mm) => Q r1 M1)))) ∧ (¬ v1 ≤ v7 → ¬ (M 23 2).toInt64 = 0 ∧ kX4_after d 26 ((lrem (lrem (v4 * (16807 : Int64)) (2147483647 : Int64)) ((M 23 2).toInt64)).toInt32) M (fun (r2 : Int32) (M2 : Mm) => kX4_exchange d 26 ((lrem (lrem (v4 * (16807 : Int64)) (2147483647 : Int64)) ((M 23 2).toInt64)).toInt32) r2 M2 (fun (_r3 : Int32) (M3 : Mm) => kX4_advance d 26 (0 : Int32) M3 (fun (_r4 : Int32) (M4 : Mm) => kX4_hasHoodWithThing d 26 M4 (fun (r5 : Int32) (M5 : Mm) => ((r5 = 0 → BX7_drawn (d + 1) 65 [(0, .ref 0), (1, .int v1), (3, .int v3), (4, .long (lrem (v4 * (16807 : Int64)) (2147483647 : Int64))), (6, .int v6), (7, .int (v7 + (1 : Int32)))] [] M5 Q) ∧ (¬ r5 = 0 → BX7_drawn (d + 1) 65 [(0, .ref 0), (1, .int v1), (3, .int v3), (4, .long (lrem (v4 * (16807 : Int64)) (2147483647 : Int64))), (6, .int (v6 + (1 : Int32))), (7, .int (v7 + (1 : Int32)))] [] M5 Q))))))))) : BX7_drawn (d + 1) 65 [(0, .ref 0), (1, .int v1), (3, .int v3), (4, .long v4), (6, .int v6), (7, .int v7)] [] M Q := by
  refine B_iload dX7_drawn_65 5 rfl ?_
  refine B_iload_n dX7_drawn_67 1 rfl ?_
  refine B_icmp_ge (tgt := 142) dX7_drawn_68 (by decide) (fun hc => ?_) (fun hc => ?_)
  · have h := h.1 hc
    refine B_iload_n dX7_drawn_142 2 rfl ?_
    refine B_if_ne (tgt := 156) dX7_drawn_143 (by decide) (fun hc => ?_) (fun hc => ?_)
    · have h := h.1 hc
      refine B_iload dX7_drawn_156 4 rfl ?_
      exact B_iret dX7_drawn_158 h
    · have h := h.2 hc
      refine B_aload_n dX7_drawn_146 0 rfl ?_
      refine B_getf (T := TX7) (N := 11) (v := .ref 26) 0 3 dX7_drawn_147 inX7_drawn_7 lkX7_drawn_f29 (Nat.le_of_ble_eq_true rfl) (Nat.le_of_ble_eq_true rfl) rfl rfl (by decide) rfl ?_
      refine B_callV (st := []) 26 [] dX7_drawn_150 gX7_drawn_X4_figures rfl hyX4_figures (Nat.le_of_ble_eq_true rfl) (Nat.le_of_ble_eq_true rfl) TX4 5 rfl (Nat.le_of_ble_eq_true rfl) (Nat.le_of_ble_eq_true rfl) rfl (Ct.mono h (Nat.le_refl _) (fun r1 M1 h => ?_))
      refine B_goto (tgt := 158) dX7_drawn_153 (by decide) ?_
      exact B_iret dX7_drawn_158 h
  · have h := h.2 hc
    refine B_lload dX7_drawn_71 3 rfl ?_
    refine B_ldc2 (v := 16807) dX7_drawn_73 lkX7_drawn_l246 ?_
    refine B_lmul dX7_drawn_76 ?_
    refine B_ldc2 (v := 2147483647) dX7_drawn_77 lkX7_drawn_l248 ?_
    refine B_lrem dX7_drawn_80 (by decide) ?_
    refine B_lstore (lv1 := [(4, .long (lrem (v4 * (16807 : Int64)) (2147483647 : Int64))), (0, .ref 0), (1, .int v1), (3, .int v3), (6, .int v6), (7, .int v7)]) dX7_drawn_81 (by decide) rfl ?_
    refine B_lload dX7_drawn_83 0 rfl ?_
    refine B_aload_n dX7_drawn_85 1 rfl ?_
    refine B_getf (T := TX7) (N := 11) (v := .ref 23) 0 2 dX7_drawn_86 inX7_drawn_7 lkX7_drawn_f25 (Nat.le_of_ble_eq_true rfl) (Nat.le_of_ble_eq_true rfl) rfl rfl (by decide) rfl ?_
    refine B_getf (T := TX4) (N := 5) (v := .int (M 23 2)) 23 2 dX7_drawn_89 inX7_drawn_4 lkX7_drawn_f139 (Nat.le_of_ble_eq_true rfl) (Nat.le_of_ble_eq_true rfl) rfl rfl (by decide) rfl ?_
    refine B_i2l dX7_drawn_92 ?_
    obtain ⟨hz, h⟩ := h
    refine B_lrem dX7_drawn_93 hz ?_
    refine B_l2i dX7_drawn_94 ?_
    refine B_istore (lv1 := [(8, .int (lrem (lrem (v4 * (16807 : Int64)) (2147483647 : Int64)) ((M 23 2).toInt64)).toInt32), (4, .long (lrem (v4 * (16807 : Int64)) (2147483647 : Int64))), (0, .ref 0), (1, .int v1), (3, .int v3), (6, .int v6), (7, .int v7)]) dX7_drawn_95 (by decide) rfl ?_
    refine B_aload_n dX7_drawn_97 2 rfl ?_
    refine B_getf (T := TX7) (N := 11) (v := .ref 26) 0 3 dX7_drawn_98 inX7_drawn_7 lkX7_drawn_f29 (Nat.le_of_ble_eq_true rfl) (Nat.le_of_ble_eq_true rfl) rfl rfl (by decide) rfl ?_
    refine B_iload dX7_drawn_101 0 rfl ?_
    refine B_aload_n dX7_drawn_103 2 rfl ?_
    refine B_getf (T := TX7) (N := 11) (v := .ref 26) 0 3 dX7_drawn_104 inX7_drawn_7 lkX7_drawn_f29 (Nat.le_of_ble_eq_true rfl) (Nat.le_of_ble_eq_true rfl) rfl rfl (by decide) rfl ?_
    refine B_iload dX7_drawn_107 0 rfl ?_
    refine B_callV (st := [.int (lrem (lrem (v4 * (16807 : Int64)) (2147483647 : Int64)) ((M 23 2).toInt64)).toInt32, .ref 26]) 26 [.int (lrem (lrem (v4 * (16807 : Int64)) (2147483647 : Int64)) ((M 23 2).toInt64)).toInt32] dX7_drawn_109 gX7_drawn_X4_after rfl hyX4_after (Nat.le_of_ble_eq_true rfl) (Nat.le_of_ble_eq_true rfl) TX4 5 rfl (Nat.le_of_ble_eq_true rfl) (Nat.le_of_ble_eq_true rfl) rfl (Ct.mono h (Nat.le_refl _) (fun r2 M2 h => ?_))
    refine B_callV (st := []) 26 [.int (lrem (lrem (v4 * (16807 : Int64)) (2147483647 : Int64)) ((M 23 2).toInt64)).toInt32, .int r2] dX7_drawn_112 gX7_drawn_X4_exchange rfl hyX4_exchange (Nat.le_of_ble_eq_true rfl) (Nat.le_of_ble_eq_true rfl) TX4 5 rfl (Nat.le_of_ble_eq_true rfl) (Nat.le_of_ble_eq_true rfl) rfl (Ct.mono h (Nat.le_refl _) (fun _r3 M3 h => ?_))
    refine B_aload_n dX7_drawn_115 2 rfl ?_
    refine B_getf (T := TX7) (N := 11) (v := .ref 26) 0 3 dX7_drawn_116 inX7_drawn_7 lkX7_drawn_f29 (Nat.le_of_ble_eq_true rfl) (Nat.le_of_ble_eq_true rfl) rfl rfl (by decide) rfl ?_
    refine B_iconst (v := 0) dX7_drawn_119 (by decide) ?_
    refine B_callV (st := []) 26 [.int (0 : Int32)] dX7_drawn_120 gX7_drawn_X4_advance rfl hyX4_advance (Nat.le_of_ble_eq_true rfl) (Nat.le_of_ble_eq_true rfl) TX4 5 rfl (Nat.le_of_ble_eq_true rfl) (Nat.le_of_ble_eq_true rfl) rfl (Ct.mono h (Nat.le_refl _) (fun _r4 M4 h => ?_))
    refine B_aload_n dX7_drawn_123 2 rfl ?_
    refine B_getf (T := TX7) (N := 11) (v := .ref 26) 0 3 dX7_drawn_124 inX7_drawn_7 lkX7_drawn_f29 (Nat.le_of_ble_eq_true rfl) (Nat.le_of_ble_eq_true rfl) rfl rfl (by decide) rfl ?_
    refine B_callV (st := []) 26 [] dX7_drawn_127 gX7_drawn_X4_hasHoodWithThing rfl hyX4_hasHoodWithThing (Nat.le_of_ble_eq_true rfl) (Nat.le_of_ble_eq_true rfl) TX4 5 rfl (Nat.le_of_ble_eq_true rfl) (Nat.le_of_ble_eq_true rfl) rfl (Ct.mono h (Nat.le_refl _) (fun r5 M5 h => ?_))
    refine B_if_eq (tgt := 136) dX7_drawn_130 (by decide) (fun hc => ?_) (fun hc => ?_)
    · have h := h.1 hc
      refine B_iinc (lv1 := [(7, .int (v7 + (1 : Int32))), (8, .int (lrem (lrem (v4 * (16807 : Int64)) (2147483647 : Int64)) ((M 23 2).toInt64)).toInt32), (4, .long (lrem (v4 * (16807 : Int64)) (2147483647 : Int64))), (0, .ref 0), (1, .int v1), (3, .int v3), (6, .int v6)]) (v := (v7 + (1 : Int32))) dX7_drawn_136 6 rfl rfl (by decide) rfl ?_
      refine B_goto (tgt := 65) dX7_drawn_139 (by decide) ?_
      refine B_weak [3, 4, 5, 2, 6, 0] rfl ?_
      exact h
    · have h := h.2 hc
      refine B_iinc (lv1 := [(6, .int (v6 + (1 : Int32))), (8, .int (lrem (lrem (v4 * (16807 : Int64)) (2147483647 : Int64)) ((M 23 2).toInt64)).toInt32), (4, .long (lrem (v4 * (16807 : Int64)) (2147483647 : Int64))), (0, .ref 0), (1, .int v1), (3, .int v3), (7, .int v7)]) (v := (v6 + (1 : Int32))) dX7_drawn_133 5 rfl rfl (by decide) rfl ?_
      refine B_iinc (lv1 := [(7, .int (v7 + (1 : Int32))), (6, .int (v6 + (1 : Int32))), (8, .int (lrem (lrem (v4 * (16807 : Int64)) (2147483647 : Int64)) ((M 23 2).toInt64)).toInt32), (4, .long (lrem (v4 * (16807 : Int64)) (2147483647 : Int64))), (0, .ref 0), (1, .int v1), (3, .int v3)]) (v := (v7 + (1 : Int32))) dX7_drawn_136 6 rfl rfl (by decide) rfl ?_
      refine B_goto (tgt := 65) dX7_drawn_139 (by decide) ?_
      refine B_weak [4, 5, 6, 3, 1, 0] rfl ?_
      exact h
set_option maxHeartbeats 4000000 in
set_option maxRecDepth 100000 in
theorem rX7_image (d : Nat) (v1 : Int32) (M : Mm) (Q : Int32 → Mm → Prop)
    (h : ((v1 < 0 → Q (-1000001 : Int32) M) ∧ (¬ v1 < 0 → ((v1 < (2 : Int32) → ((¬ (M 23 2) = 0 → vp_in v1 2 ∧ kX4_become d (im v1) 23 M (fun (_r1 : Int32) (M1 : Mm) => Q (1 : Int32) M1)) ∧ ((M 23 2) = 0 → Q (-1000002 : Int32) M))) ∧ (¬ v1 < (2 : Int32) → Q (-1000001 : Int32) M))))) : kX7_image (d + 1) v1 M Q := by
  refine Ct.of (cc := cX7_image) (nL := 2) (by decide) rfl (Nat.le_of_ble_eq_true rfl) ?_
  show BX7_image (d + 1) 0 [(0, .ref 0), (1, .int v1)] [] M Q
  refine B_iload_n dX7_image_0 1 rfl ?_
  refine B_if_lt (tgt := 9) dX7_image_1 (by decide) (fun hc => ?_) (fun hc => ?_)
  · have h := h.1 hc
    refine B_ldc (v := -1000001) dX7_image_9 lkX7_image_c73 ?_
    exact B_iret dX7_image_11 h
  · have h := h.2 hc
    refine B_iload_n dX7_image_4 1 rfl ?_
    refine B_iconst (v := 2) dX7_image_5 (by decide) ?_
    refine B_icmp_lt (tgt := 12) dX7_image_6 (by decide) (fun hc => ?_) (fun hc => ?_)
    · have h := h.1 hc
      refine B_aload_n dX7_image_12 0 rfl ?_
      refine B_getf (T := TX7) (N := 11) (v := .ref 23) 0 2 dX7_image_13 inX7_image_7 lkX7_image_f25 (Nat.le_of_ble_eq_true rfl) (Nat.le_of_ble_eq_true rfl) rfl rfl (by decide) rfl ?_
      refine B_getf (T := TX4) (N := 5) (v := .int (M 23 2)) 23 2 dX7_image_16 inX7_image_4 lkX7_image_f139 (Nat.le_of_ble_eq_true rfl) (Nat.le_of_ble_eq_true rfl) rfl rfl (by decide) rfl ?_
      refine B_if_ne (tgt := 25) dX7_image_19 (by decide) (fun hc => ?_) (fun hc => ?_)
      · have h := h.1 hc
        refine B_aload_n dX7_image_25 0 rfl ?_
        refine B_getf (T := TX7) (N := 11) (v := .ref 29) 0 4 dX7_image_26 inX7_image_7 lkX7_image_f32 (Nat.le_of_ble_eq_true rfl) (Nat.le_of_ble_eq_true rfl) rfl rfl (by decide) rfl ?_
        refine B_iload_n dX7_image_29 1 rfl ?_
        obtain ⟨hi1, h⟩ := h
        refine B_aaR dX7_image_30 hi1 ?_
        refine B_aload_n dX7_image_31 0 rfl ?_
        refine B_getf (T := TX7) (N := 11) (v := .ref 23) 0 2 dX7_image_32 inX7_image_7 lkX7_image_f25 (Nat.le_of_ble_eq_true rfl) (Nat.le_of_ble_eq_true rfl) rfl rfl (by decide) rfl ?_
        refine B_callV (st := []) (im v1) [.ref 23] dX7_image_35 gX7_image_X4_become rfl hyX4_become (rg_lt (im_is hi1)) (rg_c9 (im_is hi1)) TX4 5 (rg_cl (im_is hi1)) (Nat.le_of_ble_eq_true rfl) (Nat.le_of_ble_eq_true rfl) rfl (Ct.mono h (Nat.le_refl _) (fun _r1 M1 h => ?_))
        refine B_iconst (v := 1) dX7_image_38 (by decide) ?_
        exact B_iret dX7_image_39 h
      · have h := h.2 hc
        refine B_ldc (v := -1000002) dX7_image_22 lkX7_image_c143 ?_
        exact B_iret dX7_image_24 h
    · have h := h.2 hc
      refine B_ldc (v := -1000001) dX7_image_9 lkX7_image_c73 ?_
      exact B_iret dX7_image_11 h
set_option maxHeartbeats 4000000 in
set_option maxRecDepth 100000 in
theorem rX7_restore (d : Nat) (v1 : Int32) (M : Mm) (Q : Int32 → Mm → Prop)
    (h : ((v1 < 0 → Q (-1000001 : Int32) M) ∧ (¬ v1 < 0 → ((v1 < (2 : Int32) → vp_in v1 2 ∧ ((¬ (M (im v1) 2) = 0 → vp_in v1 2 ∧ kX4_become d 23 (im v1) M (fun (_r1 : Int32) (M1 : Mm) => kX0_forget d  M1 (fun (_r2 : Int32) (M2 : Mm) => Q (1 : Int32) M2))) ∧ ((M (im v1) 2) = 0 → Q (-1000002 : Int32) M))) ∧ (¬ v1 < (2 : Int32) → Q (-1000001 : Int32) M))))) : kX7_restore (d + 1) v1 M Q := by
  refine Ct.of (cc := cX7_restore) (nL := 2) (by decide) rfl (Nat.le_of_ble_eq_true rfl) ?_
  show BX7_restore (d + 1) 0 [(0, .ref 0), (1, .int v1)] [] M Q
  refine B_iload_n dX7_restore_0 1 rfl ?_
  refine B_if_lt (tgt := 9) dX7_restore_1 (by decide) (fun hc => ?_) (fun hc => ?_)
  · have h := h.1 hc
    refine B_ldc (v := -1000001) dX7_restore_9 lkX7_restore_c73 ?_
    exact B_iret dX7_restore_11 h
  · have h := h.2 hc
    refine B_iload_n dX7_restore_4 1 rfl ?_
    refine B_iconst (v := 2) dX7_restore_5 (by decide) ?_
    refine B_icmp_lt (tgt := 12) dX7_restore_6 (by decide) (fun hc => ?_) (fun hc => ?_)
    · have h := h.1 hc
      refine B_aload_n dX7_restore_12 0 rfl ?_
      refine B_getf (T := TX7) (N := 11) (v := .ref 29) 0 4 dX7_restore_13 inX7_restore_7 lkX7_restore_f32 (Nat.le_of_ble_eq_true rfl) (Nat.le_of_ble_eq_true rfl) rfl rfl (by decide) rfl ?_
      refine B_iload_n dX7_restore_16 1 rfl ?_
      obtain ⟨hi1, h⟩ := h
      refine B_aaR dX7_restore_17 hi1 ?_
      refine B_getf (T := TX4) (N := 5) (v := .int (M (im v1) 2)) (im v1) 2 dX7_restore_18 inX7_restore_4 lkX7_restore_f139 (rg_lt (im_is hi1)) (rg_c9 (im_is hi1)) (rg_cl (im_is hi1)) (rg_nf (im_is hi1)) (by decide) (rg_v2 (im_is hi1)) ?_
      refine B_if_ne (tgt := 27) dX7_restore_21 (by decide) (fun hc => ?_) (fun hc => ?_)
      · have h := h.1 hc
        refine B_aload_n dX7_restore_27 0 rfl ?_
        refine B_getf (T := TX7) (N := 11) (v := .ref 23) 0 2 dX7_restore_28 inX7_restore_7 lkX7_restore_f25 (Nat.le_of_ble_eq_true rfl) (Nat.le_of_ble_eq_true rfl) rfl rfl (by decide) rfl ?_
        refine B_aload_n dX7_restore_31 0 rfl ?_
        refine B_getf (T := TX7) (N := 11) (v := .ref 29) 0 4 dX7_restore_32 inX7_restore_7 lkX7_restore_f32 (Nat.le_of_ble_eq_true rfl) (Nat.le_of_ble_eq_true rfl) rfl rfl (by decide) rfl ?_
        refine B_iload_n dX7_restore_35 1 rfl ?_
        obtain ⟨hi2, h⟩ := h
        refine B_aaR dX7_restore_36 hi2 ?_
        refine B_callV (st := []) 23 [.ref (im v1)] dX7_restore_37 gX7_restore_X4_become rfl hyX4_become (Nat.le_of_ble_eq_true rfl) (Nat.le_of_ble_eq_true rfl) TX4 5 rfl (Nat.le_of_ble_eq_true rfl) (Nat.le_of_ble_eq_true rfl) rfl (Ct.mono h (Nat.le_refl _) (fun _r1 M1 h => ?_))
        refine B_aload_n dX7_restore_40 0 rfl ?_
        refine B_getf (T := TX7) (N := 11) (v := .ref 36) 0 5 dX7_restore_41 inX7_restore_7 lkX7_restore_f39 (Nat.le_of_ble_eq_true rfl) (Nat.le_of_ble_eq_true rfl) rfl rfl (by decide) rfl ?_
        refine B_callV (st := []) 36 [] dX7_restore_44 gX7_restore_X0_forget rfl hyX0_forget (Nat.le_of_ble_eq_true rfl) (Nat.le_of_ble_eq_true rfl) TX0 5 rfl (Nat.le_of_ble_eq_true rfl) (Nat.le_of_ble_eq_true rfl) rfl (Ct.mono h (Nat.le_refl _) (fun _r2 M2 h => ?_))
        refine B_iconst (v := 1) dX7_restore_47 (by decide) ?_
        exact B_iret dX7_restore_48 h
      · have h := h.2 hc
        refine B_ldc (v := -1000002) dX7_restore_24 lkX7_restore_c143 ?_
        exact B_iret dX7_restore_26 h
    · have h := h.2 hc
      refine B_ldc (v := -1000001) dX7_restore_9 lkX7_restore_c73 ?_
      exact B_iret dX7_restore_11 h
set_option maxHeartbeats 4000000 in
set_option maxRecDepth 100000 in
theorem rX7_kind (d : Nat) (v1 : Int32) (M : Mm) (Q : Int32 → Mm → Prop)
    (h : kX4_isSaint d 23 v1 M (fun (r1 : Int32) (M1 : Mm) => ((r1 = 0 → Q (-1000001 : Int32) M1) ∧ (¬ r1 = 0 → vp_in v1 7 ∧ Q (M1 24 v1.toNatClampNeg) M1)))) : kX7_kind (d + 1) v1 M Q := by
  refine Ct.of (cc := cX7_kind) (nL := 2) (by decide) rfl (Nat.le_of_ble_eq_true rfl) ?_
  show BX7_kind (d + 1) 0 [(0, .ref 0), (1, .int v1)] [] M Q
  refine B_aload_n dX7_kind_0 0 rfl ?_
  refine B_getf (T := TX7) (N := 11) (v := .ref 23) 0 2 dX7_kind_1 inX7_kind_7 lkX7_kind_f25 (Nat.le_of_ble_eq_true rfl) (Nat.le_of_ble_eq_true rfl) rfl rfl (by decide) rfl ?_
  refine B_iload_n dX7_kind_4 1 rfl ?_
  refine B_callV (st := []) 23 [.int v1] dX7_kind_5 gX7_kind_X4_isSaint rfl hyX4_isSaint (Nat.le_of_ble_eq_true rfl) (Nat.le_of_ble_eq_true rfl) TX4 5 rfl (Nat.le_of_ble_eq_true rfl) (Nat.le_of_ble_eq_true rfl) rfl (Ct.mono h (Nat.le_refl _) (fun r1 M1 h => ?_))
  refine B_if_eq (tgt := 23) dX7_kind_8 (by decide) (fun hc => ?_) (fun hc => ?_)
  · have h := h.1 hc
    refine B_ldc (v := -1000001) dX7_kind_23 lkX7_kind_c73 ?_
    exact B_iret dX7_kind_25 h
  · have h := h.2 hc
    refine B_aload_n dX7_kind_11 0 rfl ?_
    refine B_getf (T := TX7) (N := 11) (v := .ref 23) 0 2 dX7_kind_12 inX7_kind_7 lkX7_kind_f25 (Nat.le_of_ble_eq_true rfl) (Nat.le_of_ble_eq_true rfl) rfl rfl (by decide) rfl ?_
    refine B_getf (T := TX4) (N := 5) (v := .ref 24) 23 0 dX7_kind_15 inX7_kind_4 lkX7_kind_f256 (Nat.le_of_ble_eq_true rfl) (Nat.le_of_ble_eq_true rfl) rfl rfl (by decide) rfl ?_
    refine B_iload_n dX7_kind_18 1 rfl ?_
    obtain ⟨hi, h⟩ := h
    refine B_iald (n := 7) 24 dX7_kind_19 (Nat.le_of_ble_eq_true rfl) rfl rfl hi ?_
    refine B_goto (tgt := 25) dX7_kind_20 (by decide) ?_
    exact B_iret dX7_kind_25 h
set_option maxHeartbeats 4000000 in
set_option maxRecDepth 100000 in
theorem rX7_as (d : Nat) (v1 : Int32) (v2 : Int32) (M : Mm) (Q : Int32 → Mm → Prop)
    (h : kX4_isSaint d 23 v1 M (fun (r1 : Int32) (M1 : Mm) => ((r1 = 0 → Q (-1000001 : Int32) M1) ∧ (¬ r1 = 0 → ((v2 < 0 → Q (-1000001 : Int32) M1) ∧ (¬ v2 < 0 → ((v2 ≤ (5 : Int32) → vp_in v1 7 ∧ kX7_isOfKind d (M1 24 v1.toNatClampNeg) v2 M1 (fun (r2 : Int32) (M2 : Mm) => ((¬ r2 = 0 → (∀ M3 : Mm, M3 = (upd2 M2 0 10 (0 : Int32)) → Q v1 M3)) ∧ (r2 = 0 → kX7_found d (3 : Int32) M2 (fun (r3 : Int32) (M4 : Mm) => Q r3 M4))))) ∧ (¬ v2 ≤ (5 : Int32) → Q (-1000001 : Int32) M1)))))))) : kX7_as (d + 1) v1 v2 M Q := by
  refine Ct.of (cc := cX7_as) (nL := 3) (by decide) rfl (Nat.le_of_ble_eq_true rfl) ?_
  show BX7_as (d + 1) 0 [(0, .ref 0), (1, .int v1), (2, .int v2)] [] M Q
  refine B_aload_n dX7_as_0 0 rfl ?_
  refine B_getf (T := TX7) (N := 11) (v := .ref 23) 0 2 dX7_as_1 inX7_as_7 lkX7_as_f25 (Nat.le_of_ble_eq_true rfl) (Nat.le_of_ble_eq_true rfl) rfl rfl (by decide) rfl ?_
  refine B_iload_n dX7_as_4 1 rfl ?_
  refine B_callV (st := []) 23 [.int v1] dX7_as_5 gX7_as_X4_isSaint rfl hyX4_isSaint (Nat.le_of_ble_eq_true rfl) (Nat.le_of_ble_eq_true rfl) TX4 5 rfl (Nat.le_of_ble_eq_true rfl) (Nat.le_of_ble_eq_true rfl) rfl (Ct.mono h (Nat.le_refl _) (fun r1 M1 h => ?_))
  refine B_if_eq (tgt := 20) dX7_as_8 (by decide) (fun hc => ?_) (fun hc => ?_)
  · have h := h.1 hc
    refine B_ldc (v := -1000001) dX7_as_20 lkX7_as_c73 ?_
    exact B_iret dX7_as_22 h
  · have h := h.2 hc
    refine B_iload_n dX7_as_11 2 rfl ?_
    refine B_if_lt (tgt := 20) dX7_as_12 (by decide) (fun hc => ?_) (fun hc => ?_)
    · have h := h.1 hc
      refine B_ldc (v := -1000001) dX7_as_20 lkX7_as_c73 ?_
      exact B_iret dX7_as_22 h
    · have h := h.2 hc
      refine B_iload_n dX7_as_15 2 rfl ?_
      refine B_iconst (v := 5) dX7_as_16 (by decide) ?_
      refine B_icmp_le (tgt := 23) dX7_as_17 (by decide) (fun hc => ?_) (fun hc => ?_)
      · have h := h.1 hc
        refine B_aload_n dX7_as_23 0 rfl ?_
        refine B_getf (T := TX7) (N := 11) (v := .ref 23) 0 2 dX7_as_24 inX7_as_7 lkX7_as_f25 (Nat.le_of_ble_eq_true rfl) (Nat.le_of_ble_eq_true rfl) rfl rfl (by decide) rfl ?_
        refine B_getf (T := TX4) (N := 5) (v := .ref 24) 23 0 dX7_as_27 inX7_as_4 lkX7_as_f256 (Nat.le_of_ble_eq_true rfl) (Nat.le_of_ble_eq_true rfl) rfl rfl (by decide) rfl ?_
        refine B_iload_n dX7_as_30 1 rfl ?_
        obtain ⟨hi, h⟩ := h
        refine B_iald (n := 7) 24 dX7_as_31 (Nat.le_of_ble_eq_true rfl) rfl rfl hi ?_
        refine B_iload_n dX7_as_32 2 rfl ?_
        refine B_callS (st := []) [.int (M1 24 v1.toNatClampNeg), .int v2] dX7_as_33 gX7_as_X7_isOfKind rfl hyX7_isOfKind (Nat.le_of_ble_eq_true rfl) (Nat.le_of_ble_eq_true rfl) rfl (Ct.mono h (Nat.le_refl _) (fun r2 M2 h => ?_))
        refine B_if_ne (tgt := 45) dX7_as_36 (by decide) (fun hc => ?_) (fun hc => ?_)
        · have h := h.1 hc
          refine B_aload_n dX7_as_45 0 rfl ?_
          refine B_iconst (v := 0) dX7_as_46 (by decide) ?_
          refine B_putf (T := TX7) (N := 11) 0 10 tyX7 tyX7_ok nmX7 dX7_as_47 inX7_as_7 lkX7_as_f78 (Nat.le_of_ble_eq_true rfl) (Nat.le_of_ble_eq_true rfl) rfl rfl (by decide) rfl rfl (by decide +kernel) ?_
          have h := h _ rfl
          generalize (upd2 M2 0 10 (0 : Int32)) = M3 at h ⊢
          refine B_iload_n dX7_as_50 1 rfl ?_
          exact B_iret dX7_as_51 h
        · have h := h.2 hc
          refine B_aload_n dX7_as_39 0 rfl ?_
          refine B_iconst (v := 3) dX7_as_40 (by decide) ?_
          refine B_callV (st := []) 0 [.int (3 : Int32)] dX7_as_41 gX7_as_X7_found rfl hyX7_found (Nat.le_of_ble_eq_true rfl) (Nat.le_of_ble_eq_true rfl) TX7 11 rfl (Nat.le_of_ble_eq_true rfl) (Nat.le_of_ble_eq_true rfl) rfl (Ct.mono h (Nat.le_refl _) (fun r3 M4 h => ?_))
          exact B_iret dX7_as_44 h
      · have h := h.2 hc
        refine B_ldc (v := -1000001) dX7_as_20 lkX7_as_c73 ?_
        exact B_iret dX7_as_22 h
set_option maxHeartbeats 4000000 in
set_option maxRecDepth 100000 in
theorem rX7_ask (d : Nat) (v1 : Int32) (v2 : Int32) (M : Mm) (Q : Int32 → Mm → Prop)
    (h : kX4_isSaint d 23 v1 M (fun (r1 : Int32) (M1 : Mm) => ((r1 = 0 → Q (-1000001 : Int32) M1) ∧ (¬ r1 = 0 → kX7_isFirstOrSecond d v2 M1 (fun (r2 : Int32) (M2 : Mm) => ((¬ r2 = 0 → kX1_answer d 23 v1 v2 M2 (fun (r3 : Int32) (M3 : Mm) => Q r3 M3)) ∧ (r2 = 0 → Q (-1000001 : Int32) M2))))))) : kX7_ask (d + 1) v1 v2 M Q := by
  refine Ct.of (cc := cX7_ask) (nL := 3) (by decide) rfl (Nat.le_of_ble_eq_true rfl) ?_
  show BX7_ask (d + 1) 0 [(0, .ref 0), (1, .int v1), (2, .int v2)] [] M Q
  refine B_aload_n dX7_ask_0 0 rfl ?_
  refine B_getf (T := TX7) (N := 11) (v := .ref 23) 0 2 dX7_ask_1 inX7_ask_7 lkX7_ask_f25 (Nat.le_of_ble_eq_true rfl) (Nat.le_of_ble_eq_true rfl) rfl rfl (by decide) rfl ?_
  refine B_iload_n dX7_ask_4 1 rfl ?_
  refine B_callV (st := []) 23 [.int v1] dX7_ask_5 gX7_ask_X4_isSaint rfl hyX4_isSaint (Nat.le_of_ble_eq_true rfl) (Nat.le_of_ble_eq_true rfl) TX4 5 rfl (Nat.le_of_ble_eq_true rfl) (Nat.le_of_ble_eq_true rfl) rfl (Ct.mono h (Nat.le_refl _) (fun r1 M1 h => ?_))
  refine B_if_eq (tgt := 18) dX7_ask_8 (by decide) (fun hc => ?_) (fun hc => ?_)
  · have h := h.1 hc
    refine B_ldc (v := -1000001) dX7_ask_18 lkX7_ask_c73 ?_
    exact B_iret dX7_ask_20 h
  · have h := h.2 hc
    refine B_iload_n dX7_ask_11 2 rfl ?_
    refine B_callS (st := []) [.int v2] dX7_ask_12 gX7_ask_X7_isFirstOrSecond rfl hyX7_isFirstOrSecond (Nat.le_of_ble_eq_true rfl) (Nat.le_of_ble_eq_true rfl) rfl (Ct.mono h (Nat.le_refl _) (fun r2 M2 h => ?_))
    refine B_if_ne (tgt := 21) dX7_ask_15 (by decide) (fun hc => ?_) (fun hc => ?_)
    · have h := h.1 hc
      refine B_aload_n dX7_ask_21 0 rfl ?_
      refine B_getf (T := TX7) (N := 11) (v := .ref 46) 0 8 dX7_ask_22 inX7_ask_7 lkX7_ask_f60 (Nat.le_of_ble_eq_true rfl) (Nat.le_of_ble_eq_true rfl) rfl rfl (by decide) rfl ?_
      refine B_aload_n dX7_ask_25 0 rfl ?_
      refine B_getf (T := TX7) (N := 11) (v := .ref 23) 0 2 dX7_ask_26 inX7_ask_7 lkX7_ask_f25 (Nat.le_of_ble_eq_true rfl) (Nat.le_of_ble_eq_true rfl) rfl rfl (by decide) rfl ?_
      refine B_iload_n dX7_ask_29 1 rfl ?_
      refine B_iload_n dX7_ask_30 2 rfl ?_
      refine B_callV (st := []) 46 [.ref 23, .int v1, .int v2] dX7_ask_31 gX7_ask_X1_answer rfl hyX1_answer (Nat.le_of_ble_eq_true rfl) (Nat.le_of_ble_eq_true rfl) TX1 2 rfl (Nat.le_of_ble_eq_true rfl) (Nat.le_of_ble_eq_true rfl) rfl (Ct.mono h (Nat.le_refl _) (fun r3 M3 h => ?_))
      exact B_iret dX7_ask_34 h
    · have h := h.2 hc
      refine B_ldc (v := -1000001) dX7_ask_18 lkX7_ask_c73 ?_
      exact B_iret dX7_ask_20 h
set_option maxHeartbeats 4000000 in
set_option maxRecDepth 100000 in
theorem rX7_trace (d : Nat) (v1 : Int32) (M : Mm) (Q : Int32 → Mm → Prop)
    (h : ((v1 < 0 → Q (-1000000 : Int32) M) ∧ (¬ v1 < 0 → (((M 46 1) ≤ v1 → Q (-1000000 : Int32) M) ∧ (¬ (M 46 1) ≤ v1 → vp_in v1 16 ∧ Q (M 47 v1.toNatClampNeg) M))))) : kX7_trace d v1 M Q := by
  refine Ct.of (cc := cX7_trace) (nL := 2) (by decide) rfl (Nat.le_of_ble_eq_true rfl) ?_
  show BX7_trace d 0 [(0, .ref 0), (1, .int v1)] [] M Q
  refine B_iload_n dX7_trace_0 1 rfl ?_
  refine B_if_lt (tgt := 27) dX7_trace_1 (by decide) (fun hc => ?_) (fun hc => ?_)
  · have h := h.1 hc
    refine B_ldc (v := -1000000) dX7_trace_27 lkX7_trace_c182 ?_
    exact B_iret dX7_trace_29 h
  · have h := h.2 hc
    refine B_iload_n dX7_trace_4 1 rfl ?_
    refine B_aload_n dX7_trace_5 0 rfl ?_
    refine B_getf (T := TX7) (N := 11) (v := .ref 46) 0 8 dX7_trace_6 inX7_trace_7 lkX7_trace_f60 (Nat.le_of_ble_eq_true rfl) (Nat.le_of_ble_eq_true rfl) rfl rfl (by decide) rfl ?_
    refine B_getf (T := TX1) (N := 2) (v := .int (M 46 1)) 46 1 dX7_trace_9 inX7_trace_1 lkX7_trace_f266 (Nat.le_of_ble_eq_true rfl) (Nat.le_of_ble_eq_true rfl) rfl rfl (by decide) rfl ?_
    refine B_icmp_ge (tgt := 27) dX7_trace_12 (by decide) (fun hc => ?_) (fun hc => ?_)
    · have h := h.1 hc
      refine B_ldc (v := -1000000) dX7_trace_27 lkX7_trace_c182 ?_
      exact B_iret dX7_trace_29 h
    · have h := h.2 hc
      refine B_aload_n dX7_trace_15 0 rfl ?_
      refine B_getf (T := TX7) (N := 11) (v := .ref 46) 0 8 dX7_trace_16 inX7_trace_7 lkX7_trace_f60 (Nat.le_of_ble_eq_true rfl) (Nat.le_of_ble_eq_true rfl) rfl rfl (by decide) rfl ?_
      refine B_getf (T := TX1) (N := 2) (v := .ref 47) 46 0 dX7_trace_19 inX7_trace_1 lkX7_trace_f269 (Nat.le_of_ble_eq_true rfl) (Nat.le_of_ble_eq_true rfl) rfl rfl (by decide) rfl ?_
      refine B_iload_n dX7_trace_22 1 rfl ?_
      obtain ⟨hi, h⟩ := h
      refine B_iald (n := 16) 47 dX7_trace_23 (Nat.le_of_ble_eq_true rfl) rfl rfl hi ?_
      refine B_goto (tgt := 29) dX7_trace_24 (by decide) ?_
      exact B_iret dX7_trace_29 h
set_option maxHeartbeats 4000000 in
set_option maxRecDepth 100000 in
theorem rX7_count (d : Nat) (v1 : Int32) (M : Mm) (Q : Int32 → Mm → Prop)
    (h : ((v1 = 0 → kX7_rowsThere d  M (fun (r1 : Int32) (M1 : Mm) => Q r1 M1)) ∧ (v1 = 1 → Q (M 23 2) M) ∧ (v1 = 2 → Q (M 23 3) M) ∧ (v1 = 3 → Q (M 23 4) M) ∧ (v1 = 4 → kX4_figures d 23 M (fun (r2 : Int32) (M2 : Mm) => Q r2 M2)) ∧ (v1 = 5 → kX4_withNone d 23 M (fun (r3 : Int32) (M3 : Mm) => Q r3 M3)) ∧ (v1 = 6 → Q (M 36 4) M) ∧ (v1 = 7 → Q (M 18 3) M) ∧ (¬ v1 = 0 ∧ ¬ v1 = 1 ∧ ¬ v1 = 2 ∧ ¬ v1 = 3 ∧ ¬ v1 = 4 ∧ ¬ v1 = 5 ∧ ¬ v1 = 6 ∧ ¬ v1 = 7 → Q (-1000001 : Int32) M))) : kX7_count (d + 1) v1 M Q := by
  refine Ct.of (cc := cX7_count) (nL := 2) (by decide) rfl (Nat.le_of_ble_eq_true rfl) ?_
  show BX7_count (d + 1) 0 [(0, .ref 0), (1, .int v1)] [] M Q
  refine B_iload_n dX7_count_0 1 rfl ?_
  by_cases hc0 : v1 = 0
  · have h := h.1 hc0
    refine B_tabIn (tgt := 48) dX7_count_1 (by rw [hc0]; decide) (by rw [hc0]; decide) (by rw [hc0]; rfl) (by decide) ?_
    refine B_aload_n dX7_count_48 0 rfl ?_
    refine B_callV (st := []) 0 [] dX7_count_49 gX7_count_X7_rowsThere rfl hyX7_rowsThere (Nat.le_of_ble_eq_true rfl) (Nat.le_of_ble_eq_true rfl) TX7 11 rfl (Nat.le_of_ble_eq_true rfl) (Nat.le_of_ble_eq_true rfl) rfl (Ct.mono h (Nat.le_refl _) (fun r1 M1 h => ?_))
    exact B_iret dX7_count_52 h
  ·
    by_cases hc1 : v1 = 1
    · have h := h.2.1 hc1
      refine B_tabIn (tgt := 53) dX7_count_1 (by rw [hc1]; decide) (by rw [hc1]; decide) (by rw [hc1]; rfl) (by decide) ?_
      refine B_aload_n dX7_count_53 0 rfl ?_
      refine B_getf (T := TX7) (N := 11) (v := .ref 23) 0 2 dX7_count_54 inX7_count_7 lkX7_count_f25 (Nat.le_of_ble_eq_true rfl) (Nat.le_of_ble_eq_true rfl) rfl rfl (by decide) rfl ?_
      refine B_getf (T := TX4) (N := 5) (v := .int (M 23 2)) 23 2 dX7_count_57 inX7_count_4 lkX7_count_f139 (Nat.le_of_ble_eq_true rfl) (Nat.le_of_ble_eq_true rfl) rfl rfl (by decide) rfl ?_
      exact B_iret dX7_count_60 h
    ·
      by_cases hc2 : v1 = 2
      · have h := h.2.2.1 hc2
        refine B_tabIn (tgt := 61) dX7_count_1 (by rw [hc2]; decide) (by rw [hc2]; decide) (by rw [hc2]; rfl) (by decide) ?_
        refine B_aload_n dX7_count_61 0 rfl ?_
        refine B_getf (T := TX7) (N := 11) (v := .ref 23) 0 2 dX7_count_62 inX7_count_7 lkX7_count_f25 (Nat.le_of_ble_eq_true rfl) (Nat.le_of_ble_eq_true rfl) rfl rfl (by decide) rfl ?_
        refine B_getf (T := TX4) (N := 5) (v := .int (M 23 3)) 23 3 dX7_count_65 inX7_count_4 lkX7_count_f144 (Nat.le_of_ble_eq_true rfl) (Nat.le_of_ble_eq_true rfl) rfl rfl (by decide) rfl ?_
        exact B_iret dX7_count_68 h
      ·
        by_cases hc3 : v1 = 3
        · have h := h.2.2.2.1 hc3
          refine B_tabIn (tgt := 69) dX7_count_1 (by rw [hc3]; decide) (by rw [hc3]; decide) (by rw [hc3]; rfl) (by decide) ?_
          refine B_aload_n dX7_count_69 0 rfl ?_
          refine B_getf (T := TX7) (N := 11) (v := .ref 23) 0 2 dX7_count_70 inX7_count_7 lkX7_count_f25 (Nat.le_of_ble_eq_true rfl) (Nat.le_of_ble_eq_true rfl) rfl rfl (by decide) rfl ?_
          refine B_getf (T := TX4) (N := 5) (v := .int (M 23 4)) 23 4 dX7_count_73 inX7_count_4 lkX7_count_f163 (Nat.le_of_ble_eq_true rfl) (Nat.le_of_ble_eq_true rfl) rfl rfl (by decide) rfl ?_
          exact B_iret dX7_count_76 h
        ·
          by_cases hc4 : v1 = 4
          · have h := h.2.2.2.2.1 hc4
            refine B_tabIn (tgt := 77) dX7_count_1 (by rw [hc4]; decide) (by rw [hc4]; decide) (by rw [hc4]; rfl) (by decide) ?_
            refine B_aload_n dX7_count_77 0 rfl ?_
            refine B_getf (T := TX7) (N := 11) (v := .ref 23) 0 2 dX7_count_78 inX7_count_7 lkX7_count_f25 (Nat.le_of_ble_eq_true rfl) (Nat.le_of_ble_eq_true rfl) rfl rfl (by decide) rfl ?_
            refine B_callV (st := []) 23 [] dX7_count_81 gX7_count_X4_figures rfl hyX4_figures (Nat.le_of_ble_eq_true rfl) (Nat.le_of_ble_eq_true rfl) TX4 5 rfl (Nat.le_of_ble_eq_true rfl) (Nat.le_of_ble_eq_true rfl) rfl (Ct.mono h (Nat.le_refl _) (fun r2 M2 h => ?_))
            exact B_iret dX7_count_84 h
          ·
            by_cases hc5 : v1 = 5
            · have h := h.2.2.2.2.2.1 hc5
              refine B_tabIn (tgt := 85) dX7_count_1 (by rw [hc5]; decide) (by rw [hc5]; decide) (by rw [hc5]; rfl) (by decide) ?_
              refine B_aload_n dX7_count_85 0 rfl ?_
              refine B_getf (T := TX7) (N := 11) (v := .ref 23) 0 2 dX7_count_86 inX7_count_7 lkX7_count_f25 (Nat.le_of_ble_eq_true rfl) (Nat.le_of_ble_eq_true rfl) rfl rfl (by decide) rfl ?_
              refine B_callV (st := []) 23 [] dX7_count_89 gX7_count_X4_withNone rfl hyX4_withNone (Nat.le_of_ble_eq_true rfl) (Nat.le_of_ble_eq_true rfl) TX4 5 rfl (Nat.le_of_ble_eq_true rfl) (Nat.le_of_ble_eq_true rfl) rfl (Ct.mono h (Nat.le_refl _) (fun r3 M3 h => ?_))
              exact B_iret dX7_count_92 h
            ·
              by_cases hc6 : v1 = 6
              · have h := h.2.2.2.2.2.2.1 hc6
                refine B_tabIn (tgt := 93) dX7_count_1 (by rw [hc6]; decide) (by rw [hc6]; decide) (by rw [hc6]; rfl) (by decide) ?_
                refine B_aload_n dX7_count_93 0 rfl ?_
                refine B_getf (T := TX7) (N := 11) (v := .ref 36) 0 5 dX7_count_94 inX7_count_7 lkX7_count_f39 (Nat.le_of_ble_eq_true rfl) (Nat.le_of_ble_eq_true rfl) rfl rfl (by decide) rfl ?_
                refine B_getf (T := TX0) (N := 5) (v := .int (M 36 4)) 36 4 dX7_count_97 inX7_count_0 lkX7_count_f166 (Nat.le_of_ble_eq_true rfl) (Nat.le_of_ble_eq_true rfl) rfl rfl (by decide) rfl ?_
                exact B_iret dX7_count_100 h
              ·
                by_cases hc7 : v1 = 7
                · have h := h.2.2.2.2.2.2.2.1 hc7
                  refine B_tabIn (tgt := 101) dX7_count_1 (by rw [hc7]; decide) (by rw [hc7]; decide) (by rw [hc7]; rfl) (by decide) ?_
                  refine B_aload_n dX7_count_101 0 rfl ?_
                  refine B_getf (T := TX7) (N := 11) (v := .ref 18) 0 1 dX7_count_102 inX7_count_7 lkX7_count_f18 (Nat.le_of_ble_eq_true rfl) (Nat.le_of_ble_eq_true rfl) rfl rfl (by decide) rfl ?_
                  refine B_getf (T := TX6) (N := 5) (v := .int (M 18 3)) 18 3 dX7_count_105 inX7_count_6 lkX7_count_f121 (Nat.le_of_ble_eq_true rfl) (Nat.le_of_ble_eq_true rfl) rfl rfl (by decide) rfl ?_
                  exact B_iret dX7_count_108 h
                ·
                  have h := h.2.2.2.2.2.2.2.2 ⟨hc0, hc1, hc2, hc3, hc4, hc5, hc6, hc7⟩
                  refine B_tabOut (tgt := 109) dX7_count_1 (by have e0 := lv_neT hc0 (a := 0) (by decide); have e1 := lv_neT hc1 (a := 1) (by decide); have e2 := lv_neT hc2 (a := 2) (by decide); have e3 := lv_neT hc3 (a := 3) (by decide); have e4 := lv_neT hc4 (a := 4) (by decide); have e5 := lv_neT hc5 (a := 5) (by decide); have e6 := lv_neT hc6 (a := 6) (by decide); have e7 := lv_neT hc7 (a := 7) (by decide); omega) (by decide) ?_
                  refine B_ldc (v := -1000001) dX7_count_109 lkX7_count_c73 ?_
                  exact B_iret dX7_count_111 h
set_option maxHeartbeats 4000000 in
set_option maxRecDepth 100000 in
theorem rX7_status (d : Nat)  (M : Mm) (Q : Int32 → Mm → Prop)
    (h : Q (M 0 10) M) : kX7_status d  M Q := by
  refine Ct.of (cc := cX7_status) (nL := 1) (by decide) rfl (Nat.le_of_ble_eq_true rfl) ?_
  show BX7_status d 0 [(0, .ref 0)] [] M Q
  refine B_aload_n dX7_status_0 0 rfl ?_
  refine B_getf (T := TX7) (N := 11) (v := .int (M 0 10)) 0 10 dX7_status_1 inX7_status_7 lkX7_status_f78 (Nat.le_of_ble_eq_true rfl) (Nat.le_of_ble_eq_true rfl) rfl rfl (by decide) rfl ?_
  exact B_iret dX7_status_4 h
set_option maxHeartbeats 4000000 in
set_option maxRecDepth 100000 in
theorem rX7_isRow (d : Nat) (v0 : Int32) (M : Mm) (Q : Int32 → Mm → Prop)
    (h : ((v0 < 0 → Q (0 : Int32) M) ∧ (¬ v0 < 0 → (((8 : Int32) ≤ v0 → Q (0 : Int32) M) ∧ (¬ (8 : Int32) ≤ v0 → Q (1 : Int32) M))))) : kX7_isRow d v0 M Q := by
  refine Ct.of (cc := cX7_isRow) (nL := 1) (by decide) rfl (Nat.le_of_ble_eq_true rfl) ?_
  show BX7_isRow d 0 [(0, .int v0)] [] M Q
  refine B_iload_n dX7_isRow_0 0 rfl ?_
  refine B_if_lt (tgt := 14) dX7_isRow_1 (by decide) (fun hc => ?_) (fun hc => ?_)
  · have h := h.1 hc
    refine B_iconst (v := 0) dX7_isRow_14 (by decide) ?_
    exact B_zret dX7_isRow_15 (Or.inl rfl) h
  · have h := h.2 hc
    refine B_iload_n dX7_isRow_4 0 rfl ?_
    refine B_bipush (v := 8) dX7_isRow_5 (by decide) ?_
    refine B_icmp_ge (tgt := 14) dX7_isRow_7 (by decide) (fun hc => ?_) (fun hc => ?_)
    · have h := h.1 hc
      refine B_iconst (v := 0) dX7_isRow_14 (by decide) ?_
      exact B_zret dX7_isRow_15 (Or.inl rfl) h
    · have h := h.2 hc
      refine B_iconst (v := 1) dX7_isRow_10 (by decide) ?_
      refine B_goto (tgt := 15) dX7_isRow_11 (by decide) ?_
      exact B_zret dX7_isRow_15 (Or.inr rfl) h
set_option maxHeartbeats 4000000 in
set_option maxRecDepth 100000 in
theorem rX7_isThing (d : Nat) (v0 : Int32) (M : Mm) (Q : Int32 → Mm → Prop)
    (h : ((v0 < (1 : Int32) → Q (0 : Int32) M) ∧ (¬ v0 < (1 : Int32) → (((9 : Int32) < v0 → Q (0 : Int32) M) ∧ (¬ (9 : Int32) < v0 → Q (1 : Int32) M))))) : kX7_isThing d v0 M Q := by
  refine Ct.of (cc := cX7_isThing) (nL := 1) (by decide) rfl (Nat.le_of_ble_eq_true rfl) ?_
  show BX7_isThing d 0 [(0, .int v0)] [] M Q
  refine B_iload_n dX7_isThing_0 0 rfl ?_
  refine B_iconst (v := 1) dX7_isThing_1 (by decide) ?_
  refine B_icmp_lt (tgt := 15) dX7_isThing_2 (by decide) (fun hc => ?_) (fun hc => ?_)
  · have h := h.1 hc
    refine B_iconst (v := 0) dX7_isThing_15 (by decide) ?_
    exact B_zret dX7_isThing_16 (Or.inl rfl) h
  · have h := h.2 hc
    refine B_iload_n dX7_isThing_5 0 rfl ?_
    refine B_bipush (v := 9) dX7_isThing_6 (by decide) ?_
    refine B_icmp_gt (tgt := 15) dX7_isThing_8 (by decide) (fun hc => ?_) (fun hc => ?_)
    · have h := h.1 hc
      refine B_iconst (v := 0) dX7_isThing_15 (by decide) ?_
      exact B_zret dX7_isThing_16 (Or.inl rfl) h
    · have h := h.2 hc
      refine B_iconst (v := 1) dX7_isThing_11 (by decide) ?_
      refine B_goto (tgt := 16) dX7_isThing_12 (by decide) ?_
      exact B_zret dX7_isThing_16 (Or.inr rfl) h
set_option maxHeartbeats 4000000 in
set_option maxRecDepth 100000 in
theorem rX7_isFirstOrSecond (d : Nat) (v0 : Int32) (M : Mm) (Q : Int32 → Mm → Prop)
    (h : ((v0 = 0 → Q (1 : Int32) M) ∧ (¬ v0 = 0 → ((¬ v0 = (1 : Int32) → Q (0 : Int32) M) ∧ (v0 = (1 : Int32) → Q (1 : Int32) M))))) : kX7_isFirstOrSecond d v0 M Q := by
  refine Ct.of (cc := cX7_isFirstOrSecond) (nL := 1) (by decide) rfl (Nat.le_of_ble_eq_true rfl) ?_
  show BX7_isFirstOrSecond d 0 [(0, .int v0)] [] M Q
  refine B_iload_n dX7_isFirstOrSecond_0 0 rfl ?_
  refine B_if_eq (tgt := 9) dX7_isFirstOrSecond_1 (by decide) (fun hc => ?_) (fun hc => ?_)
  · have h := h.1 hc
    refine B_iconst (v := 1) dX7_isFirstOrSecond_9 (by decide) ?_
    refine B_goto (tgt := 14) dX7_isFirstOrSecond_10 (by decide) ?_
    exact B_zret dX7_isFirstOrSecond_14 (Or.inr rfl) h
  · have h := h.2 hc
    refine B_iload_n dX7_isFirstOrSecond_4 0 rfl ?_
    refine B_iconst (v := 1) dX7_isFirstOrSecond_5 (by decide) ?_
    refine B_icmp_ne (tgt := 13) dX7_isFirstOrSecond_6 (by decide) (fun hc => ?_) (fun hc => ?_)
    · have h := h.1 hc
      refine B_iconst (v := 0) dX7_isFirstOrSecond_13 (by decide) ?_
      exact B_zret dX7_isFirstOrSecond_14 (Or.inl rfl) h
    · have h := h.2 hc
      refine B_iconst (v := 1) dX7_isFirstOrSecond_9 (by decide) ?_
      refine B_goto (tgt := 14) dX7_isFirstOrSecond_10 (by decide) ?_
      exact B_zret dX7_isFirstOrSecond_14 (Or.inr rfl) h
set_option maxHeartbeats 4000000 in
set_option maxRecDepth 100000 in
theorem rX7_isOfKind (d : Nat) (v0 : Int32) (v1 : Int32) (M : Mm) (Q : Int32 → Mm → Prop)
    (h : BX7_isOfKind d 4 [(1, .int v1), (2, .int v0), (3, .int (0 : Int32))] [] M Q) : kX7_isOfKind d v0 v1 M Q := by
  refine Ct.of (cc := cX7_isOfKind) (nL := 4) (by decide) rfl (Nat.le_of_ble_eq_true rfl) ?_
  show BX7_isOfKind d 0 [(0, .int v0), (1, .int v1)] [] M Q
  refine B_iload_n dX7_isOfKind_0 0 rfl ?_
  refine B_istore_n (lv1 := [(2, .int v0), (0, .int v0), (1, .int v1)]) dX7_isOfKind_1 (by decide) rfl ?_
  refine B_iconst (v := 0) dX7_isOfKind_2 (by decide) ?_
  refine B_istore_n (lv1 := [(3, .int (0 : Int32)), (2, .int v0), (0, .int v0), (1, .int v1)]) dX7_isOfKind_3 (by decide) rfl ?_
  refine B_weak [3, 1, 0] rfl ?_
  exact h
set_option maxHeartbeats 4000000 in
set_option maxRecDepth 100000 in
theorem rX7_isOfKind_4 (d : Nat) (v1 : Int32) (v2 : Int32) (v3 : Int32) (M : Mm) (Q : Int32 → Mm → Prop)
    (h : (((6 : Int32) ≤ v3 → Q (0 : Int32) M) ∧ (¬ (6 : Int32) ≤ v3 → ((v2 < 0 → Q (0 : Int32) M) ∧ (¬ v2 < 0 → (((6 : Int32) ≤ v2 → Q (0 : Int32) M) ∧ (¬ (6 : Int32) ≤ v2 → ((¬ v2 = v1 → vp_in v2 6 ∧ BX7_isOfKind d 4 [(1, .int v1), (2, .int ((stL 0).getD v2.toNatClampNeg 0)), (3, .int (v3 + (1 : Int32)))] [] M Q) ∧ (v2 = v1 → Q (1 : Int32) M))))))))) : BX7_isOfKind d 4 [(1, .int v1), (2, .int v2), (3, .int v3)] [] M Q := by
  refine B_iload_n dX7_isOfKind_4 2 rfl ?_
  refine B_gets 0 dX7_isOfKind_5 (by decide) lkX7_isOfKind_f278 ?_
  refine B_tlen (v := 6) 0 dX7_isOfKind_8 (by decide) rfl ?_
  refine B_icmp_ge (tgt := 43) dX7_isOfKind_9 (by decide) (fun hc => ?_) (fun hc => ?_)
  · have h := h.1 hc
    refine B_iconst (v := 0) dX7_isOfKind_43 (by decide) ?_
    exact B_zret dX7_isOfKind_44 (Or.inl rfl) h
  · have h := h.2 hc
    refine B_iload_n dX7_isOfKind_12 1 rfl ?_
    refine B_if_lt (tgt := 43) dX7_isOfKind_13 (by decide) (fun hc => ?_) (fun hc => ?_)
    · have h := h.1 hc
      refine B_iconst (v := 0) dX7_isOfKind_43 (by decide) ?_
      exact B_zret dX7_isOfKind_44 (Or.inl rfl) h
    · have h := h.2 hc
      refine B_iload_n dX7_isOfKind_16 1 rfl ?_
      refine B_gets 0 dX7_isOfKind_17 (by decide) lkX7_isOfKind_f278 ?_
      refine B_tlen (v := 6) 0 dX7_isOfKind_20 (by decide) rfl ?_
      refine B_icmp_ge (tgt := 43) dX7_isOfKind_21 (by decide) (fun hc => ?_) (fun hc => ?_)
      · have h := h.1 hc
        refine B_iconst (v := 0) dX7_isOfKind_43 (by decide) ?_
        exact B_zret dX7_isOfKind_44 (Or.inl rfl) h
      · have h := h.2 hc
        refine B_iload_n dX7_isOfKind_24 1 rfl ?_
        refine B_iload_n dX7_isOfKind_25 0 rfl ?_
        refine B_icmp_ne (tgt := 31) dX7_isOfKind_26 (by decide) (fun hc => ?_) (fun hc => ?_)
        · have h := h.1 hc
          refine B_gets 0 dX7_isOfKind_31 (by decide) lkX7_isOfKind_f278 ?_
          refine B_iload_n dX7_isOfKind_34 1 rfl ?_
          obtain ⟨hi, h⟩ := h
          refine B_ti 0 dX7_isOfKind_35 (by decide) hi rfl ?_
          refine B_istore_n (lv1 := [(2, .int ((stL 0).getD v2.toNatClampNeg 0)), (1, .int v1), (3, .int v3)]) dX7_isOfKind_36 (by decide) rfl ?_
          refine B_iinc (lv1 := [(3, .int (v3 + (1 : Int32))), (2, .int ((stL 0).getD v2.toNatClampNeg 0)), (1, .int v1)]) (v := (v3 + (1 : Int32))) dX7_isOfKind_37 2 rfl rfl (by decide) rfl ?_
          refine B_goto (tgt := 4) dX7_isOfKind_40 (by decide) ?_
          refine B_weak [2, 1, 0] rfl ?_
          exact h
        · have h := h.2 hc
          refine B_iconst (v := 1) dX7_isOfKind_29 (by decide) ?_
          exact B_zret dX7_isOfKind_30 (Or.inr rfl) h
set_option maxHeartbeats 4000000 in
set_option maxRecDepth 100000 in
theorem rX7_power (d : Nat) (v0 : Int32) (v1 : Int32) (M : Mm) (Q : Int32 → Mm → Prop)
    (h : BX7_power d 4 [(0, .int v0), (1, .int v1), (2, .int (1 : Int32)), (3, .int (0 : Int32))] [] M Q) : kX7_power d v0 v1 M Q := by
  refine Ct.of (cc := cX7_power) (nL := 4) (by decide) rfl (Nat.le_of_ble_eq_true rfl) ?_
  show BX7_power d 0 [(0, .int v0), (1, .int v1)] [] M Q
  refine B_iconst (v := 1) dX7_power_0 (by decide) ?_
  refine B_istore_n (lv1 := [(2, .int (1 : Int32)), (0, .int v0), (1, .int v1)]) dX7_power_1 (by decide) rfl ?_
  refine B_iconst (v := 0) dX7_power_2 (by decide) ?_
  refine B_istore_n (lv1 := [(3, .int (0 : Int32)), (2, .int (1 : Int32)), (0, .int v0), (1, .int v1)]) dX7_power_3 (by decide) rfl ?_
  refine B_weak [2, 3, 1, 0] rfl ?_
  exact h
set_option maxHeartbeats 4000000 in
set_option maxRecDepth 100000 in
theorem rX7_power_4 (d : Nat) (v0 : Int32) (v1 : Int32) (v2 : Int32) (v3 : Int32) (M : Mm) (Q : Int32 → Mm → Prop)
    (h : ((v1 ≤ v3 → Q v2 M) ∧ (¬ v1 ≤ v3 → BX7_power d 4 [(0, .int v0), (1, .int v1), (2, .int (v2 * v0)), (3, .int (v3 + (1 : Int32)))] [] M Q))) : BX7_power d 4 [(0, .int v0), (1, .int v1), (2, .int v2), (3, .int v3)] [] M Q := by
  refine B_iload_n dX7_power_4 3 rfl ?_
  refine B_iload_n dX7_power_5 1 rfl ?_
  refine B_icmp_ge (tgt := 19) dX7_power_6 (by decide) (fun hc => ?_) (fun hc => ?_)
  · have h := h.1 hc
    refine B_iload_n dX7_power_19 2 rfl ?_
    exact B_iret dX7_power_20 h
  · have h := h.2 hc
    refine B_iload_n dX7_power_9 2 rfl ?_
    refine B_iload_n dX7_power_10 0 rfl ?_
    refine B_imul dX7_power_11 ?_
    refine B_istore_n (lv1 := [(2, .int (v2 * v0)), (0, .int v0), (1, .int v1), (3, .int v3)]) dX7_power_12 (by decide) rfl ?_
    refine B_iinc (lv1 := [(3, .int (v3 + (1 : Int32))), (2, .int (v2 * v0)), (0, .int v0), (1, .int v1)]) (v := (v3 + (1 : Int32))) dX7_power_13 3 rfl rfl (by decide) rfl ?_
    refine B_goto (tgt := 4) dX7_power_16 (by decide) ?_
    refine B_weak [2, 3, 1, 0] rfl ?_
    exact h
set_option maxHeartbeats 4000000 in
set_option maxRecDepth 100000 in
theorem rX7_commonDivisor (d : Nat) (v0 : Int32) (v1 : Int32) (M : Mm) (Q : Int32 → Mm → Prop)
    (h : BX7_commonDivisor d 7 [(2, .int v0), (3, .int v1), (4, .int (0 : Int32))] [] M Q) : kX7_commonDivisor d v0 v1 M Q := by
  refine Ct.of (cc := cX7_commonDivisor) (nL := 6) (by decide) rfl (Nat.le_of_ble_eq_true rfl) ?_
  show BX7_commonDivisor d 0 [(0, .int v0), (1, .int v1)] [] M Q
  refine B_iload_n dX7_commonDivisor_0 0 rfl ?_
  refine B_istore_n (lv1 := [(2, .int v0), (0, .int v0), (1, .int v1)]) dX7_commonDivisor_1 (by decide) rfl ?_
  refine B_iload_n dX7_commonDivisor_2 2 rfl ?_
  refine B_istore_n (lv1 := [(3, .int v1), (2, .int v0), (0, .int v0), (1, .int v1)]) dX7_commonDivisor_3 (by decide) rfl ?_
  refine B_iconst (v := 0) dX7_commonDivisor_4 (by decide) ?_
  refine B_istore (lv1 := [(4, .int (0 : Int32)), (3, .int v1), (2, .int v0), (0, .int v0), (1, .int v1)]) dX7_commonDivisor_5 (by decide) rfl ?_
  refine B_weak [2, 1, 0] rfl ?_
  exact h
set_option maxHeartbeats 4000000 in
set_option maxRecDepth 100000 in
theorem rX7_commonDivisor_7 (d : Nat) (v2 : Int32) (v3 : Int32) (v4 : Int32) (M : Mm) (Q : Int32 → Mm → Prop)
    (h : (((64 : Int32) ≤ v4 → Q v2 M) ∧ (¬ (64 : Int32) ≤ v4 → ((v3 = 0 → Q v2 M) ∧ (¬ v3 = 0 → ¬ v3 = 0 ∧ BX7_commonDivisor d 7 [(2, .int v3), (3, .int (irem v2 v3)), (4, .int (v4 + (1 : Int32)))] [] M Q))))) : BX7_commonDivisor d 7 [(2, .int v2), (3, .int v3), (4, .int v4)] [] M Q := by
  refine B_iload dX7_commonDivisor_7 2 rfl ?_
  refine B_bipush (v := 64) dX7_commonDivisor_9 (by decide) ?_
  refine B_icmp_ge (tgt := 34) dX7_commonDivisor_11 (by decide) (fun hc => ?_) (fun hc => ?_)
  · have h := h.1 hc
    refine B_iload_n dX7_commonDivisor_34 0 rfl ?_
    exact B_iret dX7_commonDivisor_35 h
  · have h := h.2 hc
    refine B_iload_n dX7_commonDivisor_14 1 rfl ?_
    refine B_if_eq (tgt := 34) dX7_commonDivisor_15 (by decide) (fun hc => ?_) (fun hc => ?_)
    · have h := h.1 hc
      refine B_iload_n dX7_commonDivisor_34 0 rfl ?_
      exact B_iret dX7_commonDivisor_35 h
    · have h := h.2 hc
      refine B_iload_n dX7_commonDivisor_18 0 rfl ?_
      refine B_iload_n dX7_commonDivisor_19 1 rfl ?_
      obtain ⟨hz, h⟩ := h
      refine B_irem dX7_commonDivisor_20 hz ?_
      refine B_istore (lv1 := [(5, .int (irem v2 v3)), (2, .int v2), (3, .int v3), (4, .int v4)]) dX7_commonDivisor_21 (by decide) rfl ?_
      refine B_iload_n dX7_commonDivisor_23 2 rfl ?_
      refine B_istore_n (lv1 := [(2, .int v3), (5, .int (irem v2 v3)), (3, .int v3), (4, .int v4)]) dX7_commonDivisor_24 (by decide) rfl ?_
      refine B_iload dX7_commonDivisor_25 1 rfl ?_
      refine B_istore_n (lv1 := [(3, .int (irem v2 v3)), (2, .int v3), (5, .int (irem v2 v3)), (4, .int v4)]) dX7_commonDivisor_27 (by decide) rfl ?_
      refine B_iinc (lv1 := [(4, .int (v4 + (1 : Int32))), (3, .int (irem v2 v3)), (2, .int v3), (5, .int (irem v2 v3))]) (v := (v4 + (1 : Int32))) dX7_commonDivisor_28 3 rfl rfl (by decide) rfl ?_
      refine B_goto (tgt := 7) dX7_commonDivisor_31 (by decide) ?_
      refine B_weak [2, 1, 0] rfl ?_
      exact h
set_option maxHeartbeats 4000000 in
set_option maxRecDepth 100000 in
theorem rX7_found (d : Nat) (v1 : Int32) (M : Mm) (Q : Int32 → Mm → Prop)
    (h : (∀ M1 : Mm, M1 = (upd2 M 0 10 v1) → Q ((-1000010 : Int32) - v1) M1)) : kX7_found d v1 M Q := by
  refine Ct.of (cc := cX7_found) (nL := 2) (by decide) rfl (Nat.le_of_ble_eq_true rfl) ?_
  show BX7_found d 0 [(0, .ref 0), (1, .int v1)] [] M Q
  refine B_aload_n dX7_found_0 0 rfl ?_
  refine B_iload_n dX7_found_1 1 rfl ?_
  refine B_putf (T := TX7) (N := 11) 0 10 tyX7 tyX7_ok nmX7 dX7_found_2 inX7_found_7 lkX7_found_f78 (Nat.le_of_ble_eq_true rfl) (Nat.le_of_ble_eq_true rfl) rfl rfl (by decide) rfl rfl (by decide +kernel) ?_
  have h := h _ rfl
  generalize (upd2 M 0 10 v1) = M1 at h ⊢
  refine B_ldcw (v := -1000010) dX7_found_5 lkX7_found_c281 ?_
  refine B_iload_n dX7_found_8 1 rfl ?_
  refine B_isub dX7_found_9 ?_
  exact B_iret dX7_found_10 h
set_option maxHeartbeats 4000000 in
set_option maxRecDepth 100000 in
theorem rX7_findingOf (d : Nat) (v1 : Int32) (v2 : Int32) (v3 : Int32) (M : Mm) (Q : Int32 → Mm → Prop)
    (h : vp_in v1 8 ∧ kX5_isMissing d (sh v1) M (fun (r1 : Int32) (M1 : Mm) => ((r1 = 0 → kX5_has d (sh v1) v2 v3 M1 (fun (r2 : Int32) (M2 : Mm) => ((r2 = 0 → Q (2 : Int32) M2) ∧ (¬ r2 = 0 → Q (0 : Int32) M2)))) ∧ (¬ r1 = 0 → Q (1 : Int32) M1)))) : kX7_findingOf (d + 1) v1 v2 v3 M Q := by
  refine Ct.of (cc := cX7_findingOf) (nL := 5) (by decide) rfl (Nat.le_of_ble_eq_true rfl) ?_
  show BX7_findingOf (d + 1) 0 [(0, .ref 0), (1, .int v1), (2, .int v2), (3, .int v3)] [] M Q
  refine B_aload_n dX7_findingOf_0 0 rfl ?_
  refine B_getf (T := TX7) (N := 11) (v := .ref 1) 0 0 dX7_findingOf_1 inX7_findingOf_7 lkX7_findingOf_f11 (Nat.le_of_ble_eq_true rfl) (Nat.le_of_ble_eq_true rfl) rfl rfl (by decide) rfl ?_
  refine B_iload_n dX7_findingOf_4 1 rfl ?_
  obtain ⟨hi1, h⟩ := h
  refine B_aaS dX7_findingOf_5 hi1 ?_
  refine B_astore (lv1 := [(4, .ref (sh v1)), (0, .ref 0), (1, .int v1), (2, .int v2), (3, .int v3)]) dX7_findingOf_6 (by decide) rfl ?_
  refine B_aload dX7_findingOf_8 0 rfl ?_
  refine B_callV (st := []) (sh v1) [] dX7_findingOf_10 gX7_findingOf_X5_isMissing rfl hyX5_isMissing (sh_lt (sh_is hi1)) (sh_c9 (sh_is hi1)) TX5 3 (sh_cl (sh_is hi1)) (Nat.le_of_ble_eq_true rfl) (Nat.le_of_ble_eq_true rfl) rfl (Ct.mono h (Nat.le_refl _) (fun r1 M1 h => ?_))
  refine B_if_eq (tgt := 18) dX7_findingOf_13 (by decide) (fun hc => ?_) (fun hc => ?_)
  · have h := h.1 hc
    refine B_aload dX7_findingOf_18 0 rfl ?_
    refine B_iload_n dX7_findingOf_20 3 rfl ?_
    refine B_iload_n dX7_findingOf_21 4 rfl ?_
    refine B_callV (st := []) (sh v1) [.int v2, .int v3] dX7_findingOf_22 gX7_findingOf_X5_has rfl hyX5_has (sh_lt (sh_is hi1)) (sh_c9 (sh_is hi1)) TX5 3 (sh_cl (sh_is hi1)) (Nat.le_of_ble_eq_true rfl) (Nat.le_of_ble_eq_true rfl) rfl (Ct.mono h (Nat.le_refl _) (fun r2 M2 h => ?_))
    refine B_if_eq (tgt := 32) dX7_findingOf_25 (by decide) (fun hc => ?_) (fun hc => ?_)
    · have h := h.1 hc
      refine B_iconst (v := 2) dX7_findingOf_32 (by decide) ?_
      exact B_iret dX7_findingOf_33 h
    · have h := h.2 hc
      refine B_iconst (v := 0) dX7_findingOf_28 (by decide) ?_
      refine B_goto (tgt := 33) dX7_findingOf_29 (by decide) ?_
      exact B_iret dX7_findingOf_33 h
  · have h := h.2 hc
    refine B_iconst (v := 1) dX7_findingOf_16 (by decide) ?_
    exact B_iret dX7_findingOf_17 h
set_option maxHeartbeats 4000000 in
set_option maxRecDepth 100000 in
theorem rX7_rowsThere (d : Nat)  (M : Mm) (Q : Int32 → Mm → Prop)
    (h : BX7_rowsThere (d + 1) 4 [(0, .ref 0), (1, .int (0 : Int32)), (2, .int (0 : Int32))] [] M Q) : kX7_rowsThere (d + 1)  M Q := by
  refine Ct.of (cc := cX7_rowsThere) (nL := 3) (by decide) rfl (Nat.le_of_ble_eq_true rfl) ?_
  show BX7_rowsThere (d + 1) 0 [(0, .ref 0)] [] M Q
  refine B_iconst (v := 0) dX7_rowsThere_0 (by decide) ?_
  refine B_istore_n (lv1 := [(1, .int (0 : Int32)), (0, .ref 0)]) dX7_rowsThere_1 (by decide) rfl ?_
  refine B_iconst (v := 0) dX7_rowsThere_2 (by decide) ?_
  refine B_istore_n (lv1 := [(2, .int (0 : Int32)), (1, .int (0 : Int32)), (0, .ref 0)]) dX7_rowsThere_3 (by decide) rfl ?_
  refine B_weak [2, 1, 0] rfl ?_
  exact h
set_option maxHeartbeats 4000000 in
set_option maxRecDepth 100000 in
theorem rX7_rowsThere_4 (d : Nat) (v1 : Int32) (v2 : Int32) (M : Mm) (Q : Int32 → Mm → Prop)
    (h : (((8 : Int32) ≤ v2 → Q v1 M) ∧ (¬ (8 : Int32) ≤ v2 → vp_in v2 8 ∧ kX5_isMissing d (sh v2) M (fun (r1 : Int32) (M1 : Mm) => ((¬ r1 = 0 → BX7_rowsThere (d + 1) 4 [(0, .ref 0), (1, .int v1), (2, .int (v2 + (1 : Int32)))] [] M1 Q) ∧ (r1 = 0 → BX7_rowsThere (d + 1) 4 [(0, .ref 0), (1, .int (v1 + (1 : Int32))), (2, .int (v2 + (1 : Int32)))] [] M1 Q)))))) : BX7_rowsThere (d + 1) 4 [(0, .ref 0), (1, .int v1), (2, .int v2)] [] M Q := by
  refine B_iload_n dX7_rowsThere_4 2 rfl ?_
  refine B_bipush (v := 8) dX7_rowsThere_5 (by decide) ?_
  refine B_icmp_ge (tgt := 31) dX7_rowsThere_7 (by decide) (fun hc => ?_) (fun hc => ?_)
  · have h := h.1 hc
    refine B_iload_n dX7_rowsThere_31 1 rfl ?_
    exact B_iret dX7_rowsThere_32 h
  · have h := h.2 hc
    refine B_aload_n dX7_rowsThere_10 0 rfl ?_
    refine B_getf (T := TX7) (N := 11) (v := .ref 1) 0 0 dX7_rowsThere_11 inX7_rowsThere_7 lkX7_rowsThere_f11 (Nat.le_of_ble_eq_true rfl) (Nat.le_of_ble_eq_true rfl) rfl rfl (by decide) rfl ?_
    refine B_iload_n dX7_rowsThere_14 2 rfl ?_
    obtain ⟨hi1, h⟩ := h
    refine B_aaS dX7_rowsThere_15 hi1 ?_
    refine B_callV (st := []) (sh v2) [] dX7_rowsThere_16 gX7_rowsThere_X5_isMissing rfl hyX5_isMissing (sh_lt (sh_is hi1)) (sh_c9 (sh_is hi1)) TX5 3 (sh_cl (sh_is hi1)) (Nat.le_of_ble_eq_true rfl) (Nat.le_of_ble_eq_true rfl) rfl (Ct.mono h (Nat.le_refl _) (fun r1 M1 h => ?_))
    refine B_if_ne (tgt := 25) dX7_rowsThere_19 (by decide) (fun hc => ?_) (fun hc => ?_)
    · have h := h.1 hc
      refine B_iinc (lv1 := [(2, .int (v2 + (1 : Int32))), (0, .ref 0), (1, .int v1)]) (v := (v2 + (1 : Int32))) dX7_rowsThere_25 2 rfl rfl (by decide) rfl ?_
      refine B_goto (tgt := 4) dX7_rowsThere_28 (by decide) ?_
      refine B_weak [1, 2, 0] rfl ?_
      exact h
    · have h := h.2 hc
      refine B_iinc (lv1 := [(1, .int (v1 + (1 : Int32))), (0, .ref 0), (2, .int v2)]) (v := (v1 + (1 : Int32))) dX7_rowsThere_22 1 rfl rfl (by decide) rfl ?_
      refine B_iinc (lv1 := [(2, .int (v2 + (1 : Int32))), (1, .int (v1 + (1 : Int32))), (0, .ref 0)]) (v := (v2 + (1 : Int32))) dX7_rowsThere_25 2 rfl rfl (by decide) rfl ?_
      refine B_goto (tgt := 4) dX7_rowsThere_28 (by decide) ?_
      refine B_weak [2, 1, 0] rfl ?_
      exact h
set_option maxHeartbeats 4000000 in
set_option maxRecDepth 100000 in
theorem rX7_fewestByHand (d : Nat) (v1 : Int32) (v2 : Int32) (M : Mm) (Q : Int32 → Mm → Prop)
    (h : vp_in (0 : Int32) 2 ∧ (∀ M1 : Mm, M1 = (upd2 M 48 (0 : Int32).toNatClampNeg (0 : Int32)) → vp_in (1 : Int32) 2 ∧ (∀ M2 : Mm, M2 = (upd2 M1 48 (1 : Int32).toNatClampNeg (0 : Int32)) → kX7_comesByHand d v1 v2 M2 (fun (r1 : Int32) (M3 : Mm) => ((r1 = 0 → BX7_fewestByHand (d + 1) 27 [(0, .ref 0), (1, .int v1), (2, .int v2), (3, .int (1 : Int32))] [] M3 Q) ∧ (¬ r1 = 0 → Q (0 : Int32) M3)))))) : kX7_fewestByHand (d + 1) v1 v2 M Q := by
  refine Ct.of (cc := cX7_fewestByHand) (nL := 5) (by decide) rfl (Nat.le_of_ble_eq_true rfl) ?_
  show BX7_fewestByHand (d + 1) 0 [(0, .ref 0), (1, .int v1), (2, .int v2)] [] M Q
  refine B_aload_n dX7_fewestByHand_0 0 rfl ?_
  refine B_getf (T := TX7) (N := 11) (v := .ref 48) 0 9 dX7_fewestByHand_1 inX7_fewestByHand_7 lkX7_fewestByHand_f64 (Nat.le_of_ble_eq_true rfl) (Nat.le_of_ble_eq_true rfl) rfl rfl (by decide) rfl ?_
  refine B_iconst (v := 0) dX7_fewestByHand_4 (by decide) ?_
  refine B_iconst (v := 0) dX7_fewestByHand_5 (by decide) ?_
  obtain ⟨hi, h⟩ := h
  refine B_iast (n := 2) 48 dX7_fewestByHand_6 (Nat.le_of_ble_eq_true rfl) rfl rfl hi ?_
  have h := h _ rfl
  generalize (upd2 M 48 (0 : Int32).toNatClampNeg (0 : Int32)) = M1 at h ⊢
  refine B_aload_n dX7_fewestByHand_7 0 rfl ?_
  refine B_getf (T := TX7) (N := 11) (v := .ref 48) 0 9 dX7_fewestByHand_8 inX7_fewestByHand_7 lkX7_fewestByHand_f64 (Nat.le_of_ble_eq_true rfl) (Nat.le_of_ble_eq_true rfl) rfl rfl (by decide) rfl ?_
  refine B_iconst (v := 1) dX7_fewestByHand_11 (by decide) ?_
  refine B_iconst (v := 0) dX7_fewestByHand_12 (by decide) ?_
  obtain ⟨hi, h⟩ := h
  refine B_iast (n := 2) 48 dX7_fewestByHand_13 (Nat.le_of_ble_eq_true rfl) rfl rfl hi ?_
  have h := h _ rfl
  generalize (upd2 M1 48 (1 : Int32).toNatClampNeg (0 : Int32)) = M2 at h ⊢
  refine B_aload_n dX7_fewestByHand_14 0 rfl ?_
  refine B_iload_n dX7_fewestByHand_15 1 rfl ?_
  refine B_iload_n dX7_fewestByHand_16 2 rfl ?_
  refine B_callV (st := []) 0 [.int v1, .int v2] dX7_fewestByHand_17 gX7_fewestByHand_X7_comesByHand rfl hyX7_comesByHand (Nat.le_of_ble_eq_true rfl) (Nat.le_of_ble_eq_true rfl) TX7 11 rfl (Nat.le_of_ble_eq_true rfl) (Nat.le_of_ble_eq_true rfl) rfl (Ct.mono h (Nat.le_refl _) (fun r1 M3 h => ?_))
  refine B_if_eq (tgt := 25) dX7_fewestByHand_20 (by decide) (fun hc => ?_) (fun hc => ?_)
  · have h := h.1 hc
    refine B_iconst (v := 1) dX7_fewestByHand_25 (by decide) ?_
    refine B_istore_n (lv1 := [(3, .int (1 : Int32)), (0, .ref 0), (1, .int v1), (2, .int v2)]) dX7_fewestByHand_26 (by decide) rfl ?_
    refine B_weak [1, 2, 3, 0] rfl ?_
    exact h
  · have h := h.2 hc
    refine B_iconst (v := 0) dX7_fewestByHand_23 (by decide) ?_
    exact B_iret dX7_fewestByHand_24 h
set_option maxHeartbeats 4000000 in
set_option maxRecDepth 100000 in
theorem rX7_fewestByHand_27 (d : Nat) (v1 : Int32) (v2 : Int32) (v3 : Int32) (M : Mm) (Q : Int32 → Mm → Prop)
    (h : (((56 : Int32) < v3 → BX7_fewestByHand (d + 1) 67 [(0, .ref 0), (1, .int v1), (2, .int v2), (3, .int (1 : Int32))] [] M Q) ∧ (¬ (56 : Int32) < v3 → vp_in (0 : Int32) 2 ∧ (∀ M1 : Mm, M1 = (upd2 M 48 (0 : Int32).toNatClampNeg v3) → kX7_isPair d v3 M1 (fun (r1 : Int32) (M2 : Mm) => ((r1 = 0 → BX7_fewestByHand (d + 1) 27 [(0, .ref 0), (1, .int v1), (2, .int v2), (3, .int (v3 + (1 : Int32)))] [] M2 Q) ∧ (¬ r1 = 0 → kX7_comesByHand d v1 v2 M2 (fun (r2 : Int32) (M3 : Mm) => ((r2 = 0 → BX7_fewestByHand (d + 1) 27 [(0, .ref 0), (1, .int v1), (2, .int v2), (3, .int (v3 + (1 : Int32)))] [] M3 Q) ∧ (¬ r2 = 0 → Q (1 : Int32) M3)))))))))) : BX7_fewestByHand (d + 1) 27 [(0, .ref 0), (1, .int v1), (2, .int v2), (3, .int v3)] [] M Q := by
  refine B_iload_n dX7_fewestByHand_27 3 rfl ?_
  refine B_bipush (v := 56) dX7_fewestByHand_28 (by decide) ?_
  refine B_icmp_gt (tgt := 65) dX7_fewestByHand_30 (by decide) (fun hc => ?_) (fun hc => ?_)
  · have h := h.1 hc
    refine B_iconst (v := 1) dX7_fewestByHand_65 (by decide) ?_
    refine B_istore_n (lv1 := [(3, .int (1 : Int32)), (0, .ref 0), (1, .int v1), (2, .int v2)]) dX7_fewestByHand_66 (by decide) rfl ?_
    refine B_weak [1, 2, 3, 0] rfl ?_
    exact h
  · have h := h.2 hc
    refine B_aload_n dX7_fewestByHand_33 0 rfl ?_
    refine B_getf (T := TX7) (N := 11) (v := .ref 48) 0 9 dX7_fewestByHand_34 inX7_fewestByHand_7 lkX7_fewestByHand_f64 (Nat.le_of_ble_eq_true rfl) (Nat.le_of_ble_eq_true rfl) rfl rfl (by decide) rfl ?_
    refine B_iconst (v := 0) dX7_fewestByHand_37 (by decide) ?_
    refine B_iload_n dX7_fewestByHand_38 3 rfl ?_
    obtain ⟨hi, h⟩ := h
    refine B_iast (n := 2) 48 dX7_fewestByHand_39 (Nat.le_of_ble_eq_true rfl) rfl rfl hi ?_
    have h := h _ rfl
    generalize (upd2 M 48 (0 : Int32).toNatClampNeg v3) = M1 at h ⊢
    refine B_aload_n dX7_fewestByHand_40 0 rfl ?_
    refine B_iload_n dX7_fewestByHand_41 3 rfl ?_
    refine B_callV (st := []) 0 [.int v3] dX7_fewestByHand_42 gX7_fewestByHand_X7_isPair rfl hyX7_isPair (Nat.le_of_ble_eq_true rfl) (Nat.le_of_ble_eq_true rfl) TX7 11 rfl (Nat.le_of_ble_eq_true rfl) (Nat.le_of_ble_eq_true rfl) rfl (Ct.mono h (Nat.le_refl _) (fun r1 M2 h => ?_))
    refine B_if_eq (tgt := 59) dX7_fewestByHand_45 (by decide) (fun hc => ?_) (fun hc => ?_)
    · have h := h.1 hc
      refine B_iinc (lv1 := [(3, .int (v3 + (1 : Int32))), (0, .ref 0), (1, .int v1), (2, .int v2)]) (v := (v3 + (1 : Int32))) dX7_fewestByHand_59 3 rfl rfl (by decide) rfl ?_
      refine B_goto (tgt := 27) dX7_fewestByHand_62 (by decide) ?_
      refine B_weak [1, 2, 3, 0] rfl ?_
      exact h
    · have h := h.2 hc
      refine B_aload_n dX7_fewestByHand_48 0 rfl ?_
      refine B_iload_n dX7_fewestByHand_49 1 rfl ?_
      refine B_iload_n dX7_fewestByHand_50 2 rfl ?_
      refine B_callV (st := []) 0 [.int v1, .int v2] dX7_fewestByHand_51 gX7_fewestByHand_X7_comesByHand rfl hyX7_comesByHand (Nat.le_of_ble_eq_true rfl) (Nat.le_of_ble_eq_true rfl) TX7 11 rfl (Nat.le_of_ble_eq_true rfl) (Nat.le_of_ble_eq_true rfl) rfl (Ct.mono h (Nat.le_refl _) (fun r2 M3 h => ?_))
      refine B_if_eq (tgt := 59) dX7_fewestByHand_54 (by decide) (fun hc => ?_) (fun hc => ?_)
      · have h := h.1 hc
        refine B_iinc (lv1 := [(3, .int (v3 + (1 : Int32))), (0, .ref 0), (1, .int v1), (2, .int v2)]) (v := (v3 + (1 : Int32))) dX7_fewestByHand_59 3 rfl rfl (by decide) rfl ?_
        refine B_goto (tgt := 27) dX7_fewestByHand_62 (by decide) ?_
        refine B_weak [1, 2, 3, 0] rfl ?_
        exact h
      · have h := h.2 hc
        refine B_iconst (v := 1) dX7_fewestByHand_57 (by decide) ?_
        exact B_iret dX7_fewestByHand_58 h
set_option maxHeartbeats 4000000 in
set_option maxRecDepth 100000 in
theorem rX7_fewestByHand_67 (d : Nat) (v1 : Int32) (v2 : Int32) (v3 : Int32) (M : Mm) (Q : Int32 → Mm → Prop)
    (h : (((56 : Int32) < v3 → Q (-1 : Int32) M) ∧ (¬ (56 : Int32) < v3 → BX7_fewestByHand (d + 1) 76 [(0, .ref 0), (1, .int v1), (2, .int v2), (3, .int v3), (4, .int (1 : Int32))] [] M Q))) : BX7_fewestByHand (d + 1) 67 [(0, .ref 0), (1, .int v1), (2, .int v2), (3, .int v3)] [] M Q := by
  refine B_iload_n dX7_fewestByHand_67 3 rfl ?_
  refine B_bipush (v := 56) dX7_fewestByHand_68 (by decide) ?_
  refine B_icmp_gt (tgt := 138) dX7_fewestByHand_70 (by decide) (fun hc => ?_) (fun hc => ?_)
  · have h := h.1 hc
    refine B_iconst (v := -1) dX7_fewestByHand_138 (by decide) ?_
    exact B_iret dX7_fewestByHand_139 h
  · have h := h.2 hc
    refine B_iconst (v := 1) dX7_fewestByHand_73 (by decide) ?_
    refine B_istore (lv1 := [(4, .int (1 : Int32)), (0, .ref 0), (1, .int v1), (2, .int v2), (3, .int v3)]) dX7_fewestByHand_74 (by decide) rfl ?_
    refine B_weak [1, 2, 3, 4, 0] rfl ?_
    exact h
set_option maxHeartbeats 4000000 in
set_option maxRecDepth 100000 in
theorem rX7_fewestByHand_76 (d : Nat) (v1 : Int32) (v2 : Int32) (v3 : Int32) (v4 : Int32) (M : Mm) (Q : Int32 → Mm → Prop)
    (h : (((56 : Int32) < v4 → BX7_fewestByHand (d + 1) 67 [(0, .ref 0), (1, .int v1), (2, .int v2), (3, .int (v3 + (1 : Int32)))] [] M Q) ∧ (¬ (56 : Int32) < v4 → vp_in (0 : Int32) 2 ∧ (∀ M1 : Mm, M1 = (upd2 M 48 (0 : Int32).toNatClampNeg v3) → vp_in (1 : Int32) 2 ∧ (∀ M2 : Mm, M2 = (upd2 M1 48 (1 : Int32).toNatClampNeg v4) → kX7_isPair d v3 M2 (fun (r1 : Int32) (M3 : Mm) => ((r1 = 0 → BX7_fewestByHand (d + 1) 76 [(0, .ref 0), (1, .int v1), (2, .int v2), (3, .int v3), (4, .int (v4 + (1 : Int32)))] [] M3 Q) ∧ (¬ r1 = 0 → kX7_isPair d v4 M3 (fun (r2 : Int32) (M4 : Mm) => ((r2 = 0 → BX7_fewestByHand (d + 1) 76 [(0, .ref 0), (1, .int v1), (2, .int v2), (3, .int v3), (4, .int (v4 + (1 : Int32)))] [] M4 Q) ∧ (¬ r2 = 0 → kX7_comesByHand d v1 v2 M4 (fun (r3 : Int32) (M5 : Mm) => ((r3 = 0 → BX7_fewestByHand (d + 1) 76 [(0, .ref 0), (1, .int v1), (2, .int v2), (3, .int v3), (4, .int (v4 + (1 : Int32)))] [] M5 Q) ∧ (¬ r3 = 0 → Q (2 : Int32) M5)))))))))))))) : BX7_fewestByHand (d + 1) 76 [(0, .ref 0), (1, .int v1), (2, .int v2), (3, .int v3), (4, .int v4)] [] M Q := by
  refine B_iload dX7_fewestByHand_76 4 rfl ?_
  refine B_bipush (v := 56) dX7_fewestByHand_78 (by decide) ?_
  refine B_icmp_gt (tgt := 132) dX7_fewestByHand_80 (by decide) (fun hc => ?_) (fun hc => ?_)
  · have h := h.1 hc
    refine B_iinc (lv1 := [(3, .int (v3 + (1 : Int32))), (0, .ref 0), (1, .int v1), (2, .int v2), (4, .int v4)]) (v := (v3 + (1 : Int32))) dX7_fewestByHand_132 3 rfl rfl (by decide) rfl ?_
    refine B_goto (tgt := 67) dX7_fewestByHand_135 (by decide) ?_
    refine B_weak [1, 2, 3, 0] rfl ?_
    exact h
  · have h := h.2 hc
    refine B_aload_n dX7_fewestByHand_83 0 rfl ?_
    refine B_getf (T := TX7) (N := 11) (v := .ref 48) 0 9 dX7_fewestByHand_84 inX7_fewestByHand_7 lkX7_fewestByHand_f64 (Nat.le_of_ble_eq_true rfl) (Nat.le_of_ble_eq_true rfl) rfl rfl (by decide) rfl ?_
    refine B_iconst (v := 0) dX7_fewestByHand_87 (by decide) ?_
    refine B_iload_n dX7_fewestByHand_88 3 rfl ?_
    obtain ⟨hi, h⟩ := h
    refine B_iast (n := 2) 48 dX7_fewestByHand_89 (Nat.le_of_ble_eq_true rfl) rfl rfl hi ?_
    have h := h _ rfl
    generalize (upd2 M 48 (0 : Int32).toNatClampNeg v3) = M1 at h ⊢
    refine B_aload_n dX7_fewestByHand_90 0 rfl ?_
    refine B_getf (T := TX7) (N := 11) (v := .ref 48) 0 9 dX7_fewestByHand_91 inX7_fewestByHand_7 lkX7_fewestByHand_f64 (Nat.le_of_ble_eq_true rfl) (Nat.le_of_ble_eq_true rfl) rfl rfl (by decide) rfl ?_
    refine B_iconst (v := 1) dX7_fewestByHand_94 (by decide) ?_
    refine B_iload dX7_fewestByHand_95 4 rfl ?_
    obtain ⟨hi, h⟩ := h
    refine B_iast (n := 2) 48 dX7_fewestByHand_97 (Nat.le_of_ble_eq_true rfl) rfl rfl hi ?_
    have h := h _ rfl
    generalize (upd2 M1 48 (1 : Int32).toNatClampNeg v4) = M2 at h ⊢
    refine B_aload_n dX7_fewestByHand_98 0 rfl ?_
    refine B_iload_n dX7_fewestByHand_99 3 rfl ?_
    refine B_callV (st := []) 0 [.int v3] dX7_fewestByHand_100 gX7_fewestByHand_X7_isPair rfl hyX7_isPair (Nat.le_of_ble_eq_true rfl) (Nat.le_of_ble_eq_true rfl) TX7 11 rfl (Nat.le_of_ble_eq_true rfl) (Nat.le_of_ble_eq_true rfl) rfl (Ct.mono h (Nat.le_refl _) (fun r1 M3 h => ?_))
    refine B_if_eq (tgt := 126) dX7_fewestByHand_103 (by decide) (fun hc => ?_) (fun hc => ?_)
    · have h := h.1 hc
      refine B_iinc (lv1 := [(4, .int (v4 + (1 : Int32))), (0, .ref 0), (1, .int v1), (2, .int v2), (3, .int v3)]) (v := (v4 + (1 : Int32))) dX7_fewestByHand_126 4 rfl rfl (by decide) rfl ?_
      refine B_goto (tgt := 76) dX7_fewestByHand_129 (by decide) ?_
      refine B_weak [1, 2, 3, 4, 0] rfl ?_
      exact h
    · have h := h.2 hc
      refine B_aload_n dX7_fewestByHand_106 0 rfl ?_
      refine B_iload dX7_fewestByHand_107 4 rfl ?_
      refine B_callV (st := []) 0 [.int v4] dX7_fewestByHand_109 gX7_fewestByHand_X7_isPair rfl hyX7_isPair (Nat.le_of_ble_eq_true rfl) (Nat.le_of_ble_eq_true rfl) TX7 11 rfl (Nat.le_of_ble_eq_true rfl) (Nat.le_of_ble_eq_true rfl) rfl (Ct.mono h (Nat.le_refl _) (fun r2 M4 h => ?_))
      refine B_if_eq (tgt := 126) dX7_fewestByHand_112 (by decide) (fun hc => ?_) (fun hc => ?_)
      · have h := h.1 hc
        refine B_iinc (lv1 := [(4, .int (v4 + (1 : Int32))), (0, .ref 0), (1, .int v1), (2, .int v2), (3, .int v3)]) (v := (v4 + (1 : Int32))) dX7_fewestByHand_126 4 rfl rfl (by decide) rfl ?_
        refine B_goto (tgt := 76) dX7_fewestByHand_129 (by decide) ?_
        refine B_weak [1, 2, 3, 4, 0] rfl ?_
        exact h
      · have h := h.2 hc
        refine B_aload_n dX7_fewestByHand_115 0 rfl ?_
        refine B_iload_n dX7_fewestByHand_116 1 rfl ?_
        refine B_iload_n dX7_fewestByHand_117 2 rfl ?_
        refine B_callV (st := []) 0 [.int v1, .int v2] dX7_fewestByHand_118 gX7_fewestByHand_X7_comesByHand rfl hyX7_comesByHand (Nat.le_of_ble_eq_true rfl) (Nat.le_of_ble_eq_true rfl) TX7 11 rfl (Nat.le_of_ble_eq_true rfl) (Nat.le_of_ble_eq_true rfl) rfl (Ct.mono h (Nat.le_refl _) (fun r3 M5 h => ?_))
        refine B_if_eq (tgt := 126) dX7_fewestByHand_121 (by decide) (fun hc => ?_) (fun hc => ?_)
        · have h := h.1 hc
          refine B_iinc (lv1 := [(4, .int (v4 + (1 : Int32))), (0, .ref 0), (1, .int v1), (2, .int v2), (3, .int v3)]) (v := (v4 + (1 : Int32))) dX7_fewestByHand_126 4 rfl rfl (by decide) rfl ?_
          refine B_goto (tgt := 76) dX7_fewestByHand_129 (by decide) ?_
          refine B_weak [1, 2, 3, 4, 0] rfl ?_
          exact h
        · have h := h.2 hc
          refine B_iconst (v := 2) dX7_fewestByHand_124 (by decide) ?_
          exact B_iret dX7_fewestByHand_125 h
set_option maxHeartbeats 4000000 in
set_option maxRecDepth 100000 in
theorem rX7_isPair (d : Nat) (v1 : Int32) (M : Mm) (Q : Int32 → Mm → Prop)
    (h : (((irem v1 (10 : Int32)) ≤ (v1 / (10 : Int32)) → Q (0 : Int32) M) ∧ (¬ (irem v1 (10 : Int32)) ≤ (v1 / (10 : Int32)) → (((M 23 2) ≤ (irem v1 (10 : Int32)) → Q (0 : Int32) M) ∧ (¬ (M 23 2) ≤ (irem v1 (10 : Int32)) → Q (1 : Int32) M))))) : kX7_isPair d v1 M Q := by
  refine Ct.of (cc := cX7_isPair) (nL := 2) (by decide) rfl (Nat.le_of_ble_eq_true rfl) ?_
  show BX7_isPair d 0 [(0, .ref 0), (1, .int v1)] [] M Q
  refine B_iload_n dX7_isPair_0 1 rfl ?_
  refine B_bipush (v := 10) dX7_isPair_1 (by decide) ?_
  refine B_idiv dX7_isPair_3 (by decide) ?_
  refine B_iload_n dX7_isPair_4 1 rfl ?_
  refine B_bipush (v := 10) dX7_isPair_5 (by decide) ?_
  refine B_irem dX7_isPair_7 (by decide) ?_
  refine B_icmp_ge (tgt := 29) dX7_isPair_8 (by decide) (fun hc => ?_) (fun hc => ?_)
  · have h := h.1 hc
    refine B_iconst (v := 0) dX7_isPair_29 (by decide) ?_
    exact B_zret dX7_isPair_30 (Or.inl rfl) h
  · have h := h.2 hc
    refine B_iload_n dX7_isPair_11 1 rfl ?_
    refine B_bipush (v := 10) dX7_isPair_12 (by decide) ?_
    refine B_irem dX7_isPair_14 (by decide) ?_
    refine B_aload_n dX7_isPair_15 0 rfl ?_
    refine B_getf (T := TX7) (N := 11) (v := .ref 23) 0 2 dX7_isPair_16 inX7_isPair_7 lkX7_isPair_f25 (Nat.le_of_ble_eq_true rfl) (Nat.le_of_ble_eq_true rfl) rfl rfl (by decide) rfl ?_
    refine B_getf (T := TX4) (N := 5) (v := .int (M 23 2)) 23 2 dX7_isPair_19 inX7_isPair_4 lkX7_isPair_f139 (Nat.le_of_ble_eq_true rfl) (Nat.le_of_ble_eq_true rfl) rfl rfl (by decide) rfl ?_
    refine B_icmp_ge (tgt := 29) dX7_isPair_22 (by decide) (fun hc => ?_) (fun hc => ?_)
    · have h := h.1 hc
      refine B_iconst (v := 0) dX7_isPair_29 (by decide) ?_
      exact B_zret dX7_isPair_30 (Or.inl rfl) h
    · have h := h.2 hc
      refine B_iconst (v := 1) dX7_isPair_25 (by decide) ?_
      refine B_goto (tgt := 30) dX7_isPair_26 (by decide) ?_
      exact B_zret dX7_isPair_30 (Or.inr rfl) h
set_option maxHeartbeats 4000000 in
set_option maxRecDepth 100000 in
theorem rX7_comesByHand (d : Nat) (v1 : Int32) (v2 : Int32) (M : Mm) (Q : Int32 → Mm → Prop)
    (h : kX4_become d 26 23 M (fun (_r1 : Int32) (M1 : Mm) => vp_in (0 : Int32) 2 ∧ vp_in (0 : Int32) 2 ∧ kX4_exchange d 26 ((M1 48 (0 : Int32).toNatClampNeg) / (10 : Int32)) (irem (M1 48 (0 : Int32).toNatClampNeg) (10 : Int32)) M1 (fun (_r2 : Int32) (M2 : Mm) => vp_in (1 : Int32) 2 ∧ vp_in (1 : Int32) 2 ∧ kX4_exchange d 26 ((M2 48 (1 : Int32).toNatClampNeg) / (10 : Int32)) (irem (M2 48 (1 : Int32).toNatClampNeg) (10 : Int32)) M2 (fun (_r3 : Int32) (M3 : Mm) => kX4_advanceToMatins d 26 M3 (fun (_r4 : Int32) (M4 : Mm) => vp_in v1 7 ∧ ((¬ (M4 28 v1.toNatClampNeg) = v2 → Q (0 : Int32) M4) ∧ ((M4 28 v1.toNatClampNeg) = v2 → Q (1 : Int32) M4))))))) : kX7_comesByHand (d + 1) v1 v2 M Q := by
  refine Ct.of (cc := cX7_comesByHand) (nL := 3) (by decide) rfl (Nat.le_of_ble_eq_true rfl) ?_
  show BX7_comesByHand (d + 1) 0 [(0, .ref 0), (1, .int v1), (2, .int v2)] [] M Q
  refine B_aload_n dX7_comesByHand_0 0 rfl ?_
  refine B_getf (T := TX7) (N := 11) (v := .ref 26) 0 3 dX7_comesByHand_1 inX7_comesByHand_7 lkX7_comesByHand_f29 (Nat.le_of_ble_eq_true rfl) (Nat.le_of_ble_eq_true rfl) rfl rfl (by decide) rfl ?_
  refine B_aload_n dX7_comesByHand_4 0 rfl ?_
  refine B_getf (T := TX7) (N := 11) (v := .ref 23) 0 2 dX7_comesByHand_5 inX7_comesByHand_7 lkX7_comesByHand_f25 (Nat.le_of_ble_eq_true rfl) (Nat.le_of_ble_eq_true rfl) rfl rfl (by decide) rfl ?_
  refine B_callV (st := []) 26 [.ref 23] dX7_comesByHand_8 gX7_comesByHand_X4_become rfl hyX4_become (Nat.le_of_ble_eq_true rfl) (Nat.le_of_ble_eq_true rfl) TX4 5 rfl (Nat.le_of_ble_eq_true rfl) (Nat.le_of_ble_eq_true rfl) rfl (Ct.mono h (Nat.le_refl _) (fun _r1 M1 h => ?_))
  refine B_aload_n dX7_comesByHand_11 0 rfl ?_
  refine B_getf (T := TX7) (N := 11) (v := .ref 26) 0 3 dX7_comesByHand_12 inX7_comesByHand_7 lkX7_comesByHand_f29 (Nat.le_of_ble_eq_true rfl) (Nat.le_of_ble_eq_true rfl) rfl rfl (by decide) rfl ?_
  refine B_aload_n dX7_comesByHand_15 0 rfl ?_
  refine B_getf (T := TX7) (N := 11) (v := .ref 48) 0 9 dX7_comesByHand_16 inX7_comesByHand_7 lkX7_comesByHand_f64 (Nat.le_of_ble_eq_true rfl) (Nat.le_of_ble_eq_true rfl) rfl rfl (by decide) rfl ?_
  refine B_iconst (v := 0) dX7_comesByHand_19 (by decide) ?_
  obtain ⟨hi, h⟩ := h
  refine B_iald (n := 2) 48 dX7_comesByHand_20 (Nat.le_of_ble_eq_true rfl) rfl rfl hi ?_
  refine B_bipush (v := 10) dX7_comesByHand_21 (by decide) ?_
  refine B_idiv dX7_comesByHand_23 (by decide) ?_
  refine B_aload_n dX7_comesByHand_24 0 rfl ?_
  refine B_getf (T := TX7) (N := 11) (v := .ref 48) 0 9 dX7_comesByHand_25 inX7_comesByHand_7 lkX7_comesByHand_f64 (Nat.le_of_ble_eq_true rfl) (Nat.le_of_ble_eq_true rfl) rfl rfl (by decide) rfl ?_
  refine B_iconst (v := 0) dX7_comesByHand_28 (by decide) ?_
  obtain ⟨hi, h⟩ := h
  refine B_iald (n := 2) 48 dX7_comesByHand_29 (Nat.le_of_ble_eq_true rfl) rfl rfl hi ?_
  refine B_bipush (v := 10) dX7_comesByHand_30 (by decide) ?_
  refine B_irem dX7_comesByHand_32 (by decide) ?_
  refine B_callV (st := []) 26 [.int ((M1 48 (0 : Int32).toNatClampNeg) / (10 : Int32)), .int (irem (M1 48 (0 : Int32).toNatClampNeg) (10 : Int32))] dX7_comesByHand_33 gX7_comesByHand_X4_exchange rfl hyX4_exchange (Nat.le_of_ble_eq_true rfl) (Nat.le_of_ble_eq_true rfl) TX4 5 rfl (Nat.le_of_ble_eq_true rfl) (Nat.le_of_ble_eq_true rfl) rfl (Ct.mono h (Nat.le_refl _) (fun _r2 M2 h => ?_))
  refine B_aload_n dX7_comesByHand_36 0 rfl ?_
  refine B_getf (T := TX7) (N := 11) (v := .ref 26) 0 3 dX7_comesByHand_37 inX7_comesByHand_7 lkX7_comesByHand_f29 (Nat.le_of_ble_eq_true rfl) (Nat.le_of_ble_eq_true rfl) rfl rfl (by decide) rfl ?_
  refine B_aload_n dX7_comesByHand_40 0 rfl ?_
  refine B_getf (T := TX7) (N := 11) (v := .ref 48) 0 9 dX7_comesByHand_41 inX7_comesByHand_7 lkX7_comesByHand_f64 (Nat.le_of_ble_eq_true rfl) (Nat.le_of_ble_eq_true rfl) rfl rfl (by decide) rfl ?_
  refine B_iconst (v := 1) dX7_comesByHand_44 (by decide) ?_
  obtain ⟨hi, h⟩ := h
  refine B_iald (n := 2) 48 dX7_comesByHand_45 (Nat.le_of_ble_eq_true rfl) rfl rfl hi ?_
  refine B_bipush (v := 10) dX7_comesByHand_46 (by decide) ?_
  refine B_idiv dX7_comesByHand_48 (by decide) ?_
  refine B_aload_n dX7_comesByHand_49 0 rfl ?_
  refine B_getf (T := TX7) (N := 11) (v := .ref 48) 0 9 dX7_comesByHand_50 inX7_comesByHand_7 lkX7_comesByHand_f64 (Nat.le_of_ble_eq_true rfl) (Nat.le_of_ble_eq_true rfl) rfl rfl (by decide) rfl ?_
  refine B_iconst (v := 1) dX7_comesByHand_53 (by decide) ?_
  obtain ⟨hi, h⟩ := h
  refine B_iald (n := 2) 48 dX7_comesByHand_54 (Nat.le_of_ble_eq_true rfl) rfl rfl hi ?_
  refine B_bipush (v := 10) dX7_comesByHand_55 (by decide) ?_
  refine B_irem dX7_comesByHand_57 (by decide) ?_
  refine B_callV (st := []) 26 [.int ((M2 48 (1 : Int32).toNatClampNeg) / (10 : Int32)), .int (irem (M2 48 (1 : Int32).toNatClampNeg) (10 : Int32))] dX7_comesByHand_58 gX7_comesByHand_X4_exchange rfl hyX4_exchange (Nat.le_of_ble_eq_true rfl) (Nat.le_of_ble_eq_true rfl) TX4 5 rfl (Nat.le_of_ble_eq_true rfl) (Nat.le_of_ble_eq_true rfl) rfl (Ct.mono h (Nat.le_refl _) (fun _r3 M3 h => ?_))
  refine B_aload_n dX7_comesByHand_61 0 rfl ?_
  refine B_getf (T := TX7) (N := 11) (v := .ref 26) 0 3 dX7_comesByHand_62 inX7_comesByHand_7 lkX7_comesByHand_f29 (Nat.le_of_ble_eq_true rfl) (Nat.le_of_ble_eq_true rfl) rfl rfl (by decide) rfl ?_
  refine B_callV (st := []) 26 [] dX7_comesByHand_65 gX7_comesByHand_X4_advanceToMatins rfl hyX4_advanceToMatins (Nat.le_of_ble_eq_true rfl) (Nat.le_of_ble_eq_true rfl) TX4 5 rfl (Nat.le_of_ble_eq_true rfl) (Nat.le_of_ble_eq_true rfl) rfl (Ct.mono h (Nat.le_refl _) (fun _r4 M4 h => ?_))
  refine B_aload_n dX7_comesByHand_68 0 rfl ?_
  refine B_getf (T := TX7) (N := 11) (v := .ref 26) 0 3 dX7_comesByHand_69 inX7_comesByHand_7 lkX7_comesByHand_f29 (Nat.le_of_ble_eq_true rfl) (Nat.le_of_ble_eq_true rfl) rfl rfl (by decide) rfl ?_
  refine B_getf (T := TX4) (N := 5) (v := .ref 28) 26 1 dX7_comesByHand_72 inX7_comesByHand_4 lkX7_comesByHand_f160 (Nat.le_of_ble_eq_true rfl) (Nat.le_of_ble_eq_true rfl) rfl rfl (by decide) rfl ?_
  refine B_iload_n dX7_comesByHand_75 1 rfl ?_
  obtain ⟨hi, h⟩ := h
  refine B_iald (n := 7) 28 dX7_comesByHand_76 (Nat.le_of_ble_eq_true rfl) rfl rfl hi ?_
  refine B_iload_n dX7_comesByHand_77 2 rfl ?_
  refine B_icmp_ne (tgt := 85) dX7_comesByHand_78 (by decide) (fun hc => ?_) (fun hc => ?_)
  · have h := h.1 hc
    refine B_iconst (v := 0) dX7_comesByHand_85 (by decide) ?_
    exact B_zret dX7_comesByHand_86 (Or.inl rfl) h
  · have h := h.2 hc
    refine B_iconst (v := 1) dX7_comesByHand_81 (by decide) ?_
    refine B_goto (tgt := 86) dX7_comesByHand_82 (by decide) ?_
    exact B_zret dX7_comesByHand_86 (Or.inr rfl) h
set_option maxHeartbeats 4000000 in
set_option maxRecDepth 100000 in
theorem rX7_areCluesAsTold (d : Nat) (v1 : Int32) (v2 : Int32) (v3 : Int32) (v4 : Int32) (M : Mm) (Q : Int32 → Mm → Prop)
    (h : kX4_isSaint d 23 v1 M (fun (r1 : Int32) (M1 : Mm) => ((r1 = 0 → Q (0 : Int32) M1) ∧ (¬ r1 = 0 → kX7_isRow d v2 M1 (fun (r2 : Int32) (M2 : Mm) => ((r2 = 0 → Q (0 : Int32) M2) ∧ (¬ r2 = 0 → ((v3 < (1 : Int32) → Q (0 : Int32) M2) ∧ (¬ v3 < (1 : Int32) → (((12 : Int32) < v3 → Q (0 : Int32) M2) ∧ (¬ (12 : Int32) < v3 → kX7_isFirstOrSecond d v4 M2 (fun (r3 : Int32) (M3 : Mm) => ((r3 = 0 → Q (0 : Int32) M3) ∧ (¬ r3 = 0 → Q (1 : Int32) M3)))))))))))))) : kX7_areCluesAsTold (d + 1) v1 v2 v3 v4 M Q := by
  refine Ct.of (cc := cX7_areCluesAsTold) (nL := 5) (by decide) rfl (Nat.le_of_ble_eq_true rfl) ?_
  show BX7_areCluesAsTold (d + 1) 0 [(0, .ref 0), (1, .int v1), (2, .int v2), (3, .int v3), (4, .int v4)] [] M Q
  refine B_aload_n dX7_areCluesAsTold_0 0 rfl ?_
  refine B_getf (T := TX7) (N := 11) (v := .ref 23) 0 2 dX7_areCluesAsTold_1 inX7_areCluesAsTold_7 lkX7_areCluesAsTold_f25 (Nat.le_of_ble_eq_true rfl) (Nat.le_of_ble_eq_true rfl) rfl rfl (by decide) rfl ?_
  refine B_iload_n dX7_areCluesAsTold_4 1 rfl ?_
  refine B_callV (st := []) 23 [.int v1] dX7_areCluesAsTold_5 gX7_areCluesAsTold_X4_isSaint rfl hyX4_isSaint (Nat.le_of_ble_eq_true rfl) (Nat.le_of_ble_eq_true rfl) TX4 5 rfl (Nat.le_of_ble_eq_true rfl) (Nat.le_of_ble_eq_true rfl) rfl (Ct.mono h (Nat.le_refl _) (fun r1 M1 h => ?_))
  refine B_if_eq (tgt := 41) dX7_areCluesAsTold_8 (by decide) (fun hc => ?_) (fun hc => ?_)
  · have h := h.1 hc
    refine B_iconst (v := 0) dX7_areCluesAsTold_41 (by decide) ?_
    exact B_zret dX7_areCluesAsTold_42 (Or.inl rfl) h
  · have h := h.2 hc
    refine B_iload_n dX7_areCluesAsTold_11 2 rfl ?_
    refine B_callS (st := []) [.int v2] dX7_areCluesAsTold_12 gX7_areCluesAsTold_X7_isRow rfl hyX7_isRow (Nat.le_of_ble_eq_true rfl) (Nat.le_of_ble_eq_true rfl) rfl (Ct.mono h (Nat.le_refl _) (fun r2 M2 h => ?_))
    refine B_if_eq (tgt := 41) dX7_areCluesAsTold_15 (by decide) (fun hc => ?_) (fun hc => ?_)
    · have h := h.1 hc
      refine B_iconst (v := 0) dX7_areCluesAsTold_41 (by decide) ?_
      exact B_zret dX7_areCluesAsTold_42 (Or.inl rfl) h
    · have h := h.2 hc
      refine B_iload_n dX7_areCluesAsTold_18 3 rfl ?_
      refine B_iconst (v := 1) dX7_areCluesAsTold_19 (by decide) ?_
      refine B_icmp_lt (tgt := 41) dX7_areCluesAsTold_20 (by decide) (fun hc => ?_) (fun hc => ?_)
      · have h := h.1 hc
        refine B_iconst (v := 0) dX7_areCluesAsTold_41 (by decide) ?_
        exact B_zret dX7_areCluesAsTold_42 (Or.inl rfl) h
      · have h := h.2 hc
        refine B_iload_n dX7_areCluesAsTold_23 3 rfl ?_
        refine B_bipush (v := 12) dX7_areCluesAsTold_24 (by decide) ?_
        refine B_icmp_gt (tgt := 41) dX7_areCluesAsTold_26 (by decide) (fun hc => ?_) (fun hc => ?_)
        · have h := h.1 hc
          refine B_iconst (v := 0) dX7_areCluesAsTold_41 (by decide) ?_
          exact B_zret dX7_areCluesAsTold_42 (Or.inl rfl) h
        · have h := h.2 hc
          refine B_iload dX7_areCluesAsTold_29 4 rfl ?_
          refine B_callS (st := []) [.int v4] dX7_areCluesAsTold_31 gX7_areCluesAsTold_X7_isFirstOrSecond rfl hyX7_isFirstOrSecond (Nat.le_of_ble_eq_true rfl) (Nat.le_of_ble_eq_true rfl) rfl (Ct.mono h (Nat.le_refl _) (fun r3 M3 h => ?_))
          refine B_if_eq (tgt := 41) dX7_areCluesAsTold_34 (by decide) (fun hc => ?_) (fun hc => ?_)
          · have h := h.1 hc
            refine B_iconst (v := 0) dX7_areCluesAsTold_41 (by decide) ?_
            exact B_zret dX7_areCluesAsTold_42 (Or.inl rfl) h
          · have h := h.2 hc
            refine B_iconst (v := 1) dX7_areCluesAsTold_37 (by decide) ?_
            refine B_goto (tgt := 42) dX7_areCluesAsTold_38 (by decide) ?_
            exact B_zret dX7_areCluesAsTold_42 (Or.inr rfl) h
set_option maxHeartbeats 4000000 in
set_option maxRecDepth 100000 in
theorem rX7_kindsThatFit (d : Nat) (v1 : Int32) (v2 : Int32) (v3 : Int32) (v4 : Int32) (M : Mm) (Q : Int32 → Mm → Prop)
    (h : BX7_kindsThatFit (d + 1) 6 [(0, .ref 0), (1, .int v1), (2, .int v2), (3, .int v3), (4, .int v4), (5, .int (0 : Int32)), (6, .int (1 : Int32))] [] M Q) : kX7_kindsThatFit (d + 1) v1 v2 v3 v4 M Q := by
  refine Ct.of (cc := cX7_kindsThatFit) (nL := 7) (by decide) rfl (Nat.le_of_ble_eq_true rfl) ?_
  show BX7_kindsThatFit (d + 1) 0 [(0, .ref 0), (1, .int v1), (2, .int v2), (3, .int v3), (4, .int v4)] [] M Q
  refine B_iconst (v := 0) dX7_kindsThatFit_0 (by decide) ?_
  refine B_istore (lv1 := [(5, .int (0 : Int32)), (0, .ref 0), (1, .int v1), (2, .int v2), (3, .int v3), (4, .int v4)]) dX7_kindsThatFit_1 (by decide) rfl ?_
  refine B_iconst (v := 1) dX7_kindsThatFit_3 (by decide) ?_
  refine B_istore (lv1 := [(6, .int (1 : Int32)), (5, .int (0 : Int32)), (0, .ref 0), (1, .int v1), (2, .int v2), (3, .int v3), (4, .int v4)]) dX7_kindsThatFit_4 (by decide) rfl ?_
  refine B_weak [2, 3, 4, 5, 6, 1, 0] rfl ?_
  exact h
set_option maxHeartbeats 4000000 in
set_option maxRecDepth 100000 in
theorem rX7_kindsThatFit_6 (d : Nat) (v1 : Int32) (v2 : Int32) (v3 : Int32) (v4 : Int32) (v5 : Int32) (v6 : Int32) (M : Mm) (Q : Int32 → Mm → Prop)
    (h : (((5 : Int32) < v6 → Q v5 M) ∧ (¬ (5 : Int32) < v6 → kX4_become d 26 23 M (fun (_r1 : Int32) (M1 : Mm) => vp_in v1 7 ∧ (∀ M2 : Mm, M2 = (upd2 M1 27 v1.toNatClampNeg v6) → kX7_trialShows d v1 v2 v3 v4 M2 (fun (r2 : Int32) (M3 : Mm) => ((r2 = 0 → BX7_kindsThatFit (d + 1) 6 [(0, .ref 0), (1, .int v1), (2, .int v2), (3, .int v3), (4, .int v4), (5, .int v5), (6, .int (v6 + (1 : Int32)))] [] M3 Q) ∧ (¬ r2 = 0 → BX7_kindsThatFit (d + 1) 6 [(0, .ref 0), (1, .int v1), (2, .int v2), (3, .int v3), (4, .int v4), (5, .int (v5 ||| (ishl (1 : Int32) v6))), (6, .int (v6 + (1 : Int32)))] [] M3 Q)))))))) : BX7_kindsThatFit (d + 1) 6 [(0, .ref 0), (1, .int v1), (2, .int v2), (3, .int v3), (4, .int v4), (5, .int v5), (6, .int v6)] [] M Q := by
  refine B_iload dX7_kindsThatFit_6 6 rfl ?_
  refine B_iconst (v := 5) dX7_kindsThatFit_8 (by decide) ?_
  refine B_icmp_gt (tgt := 61) dX7_kindsThatFit_9 (by decide) (fun hc => ?_) (fun hc => ?_)
  · have h := h.1 hc
    refine B_iload dX7_kindsThatFit_61 5 rfl ?_
    exact B_iret dX7_kindsThatFit_63 h
  · have h := h.2 hc
    refine B_aload_n dX7_kindsThatFit_12 0 rfl ?_
    refine B_getf (T := TX7) (N := 11) (v := .ref 26) 0 3 dX7_kindsThatFit_13 inX7_kindsThatFit_7 lkX7_kindsThatFit_f29 (Nat.le_of_ble_eq_true rfl) (Nat.le_of_ble_eq_true rfl) rfl rfl (by decide) rfl ?_
    refine B_aload_n dX7_kindsThatFit_16 0 rfl ?_
    refine B_getf (T := TX7) (N := 11) (v := .ref 23) 0 2 dX7_kindsThatFit_17 inX7_kindsThatFit_7 lkX7_kindsThatFit_f25 (Nat.le_of_ble_eq_true rfl) (Nat.le_of_ble_eq_true rfl) rfl rfl (by decide) rfl ?_
    refine B_callV (st := []) 26 [.ref 23] dX7_kindsThatFit_20 gX7_kindsThatFit_X4_become rfl hyX4_become (Nat.le_of_ble_eq_true rfl) (Nat.le_of_ble_eq_true rfl) TX4 5 rfl (Nat.le_of_ble_eq_true rfl) (Nat.le_of_ble_eq_true rfl) rfl (Ct.mono h (Nat.le_refl _) (fun _r1 M1 h => ?_))
    refine B_aload_n dX7_kindsThatFit_23 0 rfl ?_
    refine B_getf (T := TX7) (N := 11) (v := .ref 26) 0 3 dX7_kindsThatFit_24 inX7_kindsThatFit_7 lkX7_kindsThatFit_f29 (Nat.le_of_ble_eq_true rfl) (Nat.le_of_ble_eq_true rfl) rfl rfl (by decide) rfl ?_
    refine B_getf (T := TX4) (N := 5) (v := .ref 27) 26 0 dX7_kindsThatFit_27 inX7_kindsThatFit_4 lkX7_kindsThatFit_f256 (Nat.le_of_ble_eq_true rfl) (Nat.le_of_ble_eq_true rfl) rfl rfl (by decide) rfl ?_
    refine B_iload_n dX7_kindsThatFit_30 1 rfl ?_
    refine B_iload dX7_kindsThatFit_31 6 rfl ?_
    obtain ⟨hi, h⟩ := h
    refine B_iast (n := 7) 27 dX7_kindsThatFit_33 (Nat.le_of_ble_eq_true rfl) rfl rfl hi ?_
    have h := h _ rfl
    generalize (upd2 M1 27 v1.toNatClampNeg v6) = M2 at h ⊢
    refine B_aload_n dX7_kindsThatFit_34 0 rfl ?_
    refine B_iload_n dX7_kindsThatFit_35 1 rfl ?_
    refine B_iload_n dX7_kindsThatFit_36 2 rfl ?_
    refine B_iload_n dX7_kindsThatFit_37 3 rfl ?_
    refine B_iload dX7_kindsThatFit_38 4 rfl ?_
    refine B_callV (st := []) 0 [.int v1, .int v2, .int v3, .int v4] dX7_kindsThatFit_40 gX7_kindsThatFit_X7_trialShows rfl hyX7_trialShows (Nat.le_of_ble_eq_true rfl) (Nat.le_of_ble_eq_true rfl) TX7 11 rfl (Nat.le_of_ble_eq_true rfl) (Nat.le_of_ble_eq_true rfl) rfl (Ct.mono h (Nat.le_refl _) (fun r2 M3 h => ?_))
    refine B_if_eq (tgt := 55) dX7_kindsThatFit_43 (by decide) (fun hc => ?_) (fun hc => ?_)
    · have h := h.1 hc
      refine B_iinc (lv1 := [(6, .int (v6 + (1 : Int32))), (0, .ref 0), (1, .int v1), (2, .int v2), (3, .int v3), (4, .int v4), (5, .int v5)]) (v := (v6 + (1 : Int32))) dX7_kindsThatFit_55 6 rfl rfl (by decide) rfl ?_
      refine B_goto (tgt := 6) dX7_kindsThatFit_58 (by decide) ?_
      refine B_weak [1, 2, 3, 4, 5, 6, 0] rfl ?_
      exact h
    · have h := h.2 hc
      refine B_iload dX7_kindsThatFit_46 5 rfl ?_
      refine B_iconst (v := 1) dX7_kindsThatFit_48 (by decide) ?_
      refine B_iload dX7_kindsThatFit_49 6 rfl ?_
      refine B_ishl dX7_kindsThatFit_51 ?_
      refine B_ior dX7_kindsThatFit_52 ?_
      refine B_istore (lv1 := [(5, .int (v5 ||| (ishl (1 : Int32) v6))), (0, .ref 0), (1, .int v1), (2, .int v2), (3, .int v3), (4, .int v4), (6, .int v6)]) dX7_kindsThatFit_53 (by decide) rfl ?_
      refine B_iinc (lv1 := [(6, .int (v6 + (1 : Int32))), (5, .int (v5 ||| (ishl (1 : Int32) v6))), (0, .ref 0), (1, .int v1), (2, .int v2), (3, .int v3), (4, .int v4)]) (v := (v6 + (1 : Int32))) dX7_kindsThatFit_55 6 rfl rfl (by decide) rfl ?_
      refine B_goto (tgt := 6) dX7_kindsThatFit_58 (by decide) ?_
      refine B_weak [2, 3, 4, 5, 6, 1, 0] rfl ?_
      exact h
set_option maxHeartbeats 4000000 in
set_option maxRecDepth 100000 in
theorem rX7_nightsThatFit (d : Nat) (v1 : Int32) (v2 : Int32) (v3 : Int32) (v4 : Int32) (M : Mm) (Q : Int32 → Mm → Prop)
    (h : BX7_nightsThatFit (d + 1) 6 [(0, .ref 0), (1, .int v1), (2, .int v2), (3, .int v3), (4, .int v4), (5, .int (0 : Int32)), (6, .int (1 : Int32))] [] M Q) : kX7_nightsThatFit (d + 1) v1 v2 v3 v4 M Q := by
  refine Ct.of (cc := cX7_nightsThatFit) (nL := 7) (by decide) rfl (Nat.le_of_ble_eq_true rfl) ?_
  show BX7_nightsThatFit (d + 1) 0 [(0, .ref 0), (1, .int v1), (2, .int v2), (3, .int v3), (4, .int v4)] [] M Q
  refine B_iconst (v := 0) dX7_nightsThatFit_0 (by decide) ?_
  refine B_istore (lv1 := [(5, .int (0 : Int32)), (0, .ref 0), (1, .int v1), (2, .int v2), (3, .int v3), (4, .int v4)]) dX7_nightsThatFit_1 (by decide) rfl ?_
  refine B_iconst (v := 1) dX7_nightsThatFit_3 (by decide) ?_
  refine B_istore (lv1 := [(6, .int (1 : Int32)), (5, .int (0 : Int32)), (0, .ref 0), (1, .int v1), (2, .int v2), (3, .int v3), (4, .int v4)]) dX7_nightsThatFit_4 (by decide) rfl ?_
  refine B_weak [2, 3, 4, 5, 6, 1, 0] rfl ?_
  exact h
set_option maxHeartbeats 4000000 in
set_option maxRecDepth 100000 in
theorem rX7_nightsThatFit_6 (d : Nat) (v1 : Int32) (v2 : Int32) (v3 : Int32) (v4 : Int32) (v5 : Int32) (v6 : Int32) (M : Mm) (Q : Int32 → Mm → Prop)
    (h : (((9 : Int32) < v6 → Q v5 M) ∧ (¬ (9 : Int32) < v6 → kX4_become d 26 23 M (fun (_r1 : Int32) (M1 : Mm) => (∀ M2 : Mm, M2 = (upd2 M1 26 4 v6) → kX7_trialShows d v1 v2 v3 v4 M2 (fun (r2 : Int32) (M3 : Mm) => ((r2 = 0 → BX7_nightsThatFit (d + 1) 6 [(0, .ref 0), (1, .int v1), (2, .int v2), (3, .int v3), (4, .int v4), (5, .int v5), (6, .int (v6 + (1 : Int32)))] [] M3 Q) ∧ (¬ r2 = 0 → BX7_nightsThatFit (d + 1) 6 [(0, .ref 0), (1, .int v1), (2, .int v2), (3, .int v3), (4, .int v4), (5, .int (v5 ||| (ishl (1 : Int32) v6))), (6, .int (v6 + (1 : Int32)))] [] M3 Q)))))))) : BX7_nightsThatFit (d + 1) 6 [(0, .ref 0), (1, .int v1), (2, .int v2), (3, .int v3), (4, .int v4), (5, .int v5), (6, .int v6)] [] M Q := by
  refine B_iload dX7_nightsThatFit_6 6 rfl ?_
  refine B_bipush (v := 9) dX7_nightsThatFit_8 (by decide) ?_
  refine B_icmp_gt (tgt := 60) dX7_nightsThatFit_10 (by decide) (fun hc => ?_) (fun hc => ?_)
  · have h := h.1 hc
    refine B_iload dX7_nightsThatFit_60 5 rfl ?_
    exact B_iret dX7_nightsThatFit_62 h
  · have h := h.2 hc
    refine B_aload_n dX7_nightsThatFit_13 0 rfl ?_
    refine B_getf (T := TX7) (N := 11) (v := .ref 26) 0 3 dX7_nightsThatFit_14 inX7_nightsThatFit_7 lkX7_nightsThatFit_f29 (Nat.le_of_ble_eq_true rfl) (Nat.le_of_ble_eq_true rfl) rfl rfl (by decide) rfl ?_
    refine B_aload_n dX7_nightsThatFit_17 0 rfl ?_
    refine B_getf (T := TX7) (N := 11) (v := .ref 23) 0 2 dX7_nightsThatFit_18 inX7_nightsThatFit_7 lkX7_nightsThatFit_f25 (Nat.le_of_ble_eq_true rfl) (Nat.le_of_ble_eq_true rfl) rfl rfl (by decide) rfl ?_
    refine B_callV (st := []) 26 [.ref 23] dX7_nightsThatFit_21 gX7_nightsThatFit_X4_become rfl hyX4_become (Nat.le_of_ble_eq_true rfl) (Nat.le_of_ble_eq_true rfl) TX4 5 rfl (Nat.le_of_ble_eq_true rfl) (Nat.le_of_ble_eq_true rfl) rfl (Ct.mono h (Nat.le_refl _) (fun _r1 M1 h => ?_))
    refine B_aload_n dX7_nightsThatFit_24 0 rfl ?_
    refine B_getf (T := TX7) (N := 11) (v := .ref 26) 0 3 dX7_nightsThatFit_25 inX7_nightsThatFit_7 lkX7_nightsThatFit_f29 (Nat.le_of_ble_eq_true rfl) (Nat.le_of_ble_eq_true rfl) rfl rfl (by decide) rfl ?_
    refine B_iload dX7_nightsThatFit_28 6 rfl ?_
    refine B_putf (T := TX4) (N := 5) 26 4 tyX4 tyX4_ok nmX4 dX7_nightsThatFit_30 inX7_nightsThatFit_4 lkX7_nightsThatFit_f163 (Nat.le_of_ble_eq_true rfl) (Nat.le_of_ble_eq_true rfl) rfl rfl (by decide) rfl rfl (by decide +kernel) ?_
    have h := h _ rfl
    generalize (upd2 M1 26 4 v6) = M2 at h ⊢
    refine B_aload_n dX7_nightsThatFit_33 0 rfl ?_
    refine B_iload_n dX7_nightsThatFit_34 1 rfl ?_
    refine B_iload_n dX7_nightsThatFit_35 2 rfl ?_
    refine B_iload_n dX7_nightsThatFit_36 3 rfl ?_
    refine B_iload dX7_nightsThatFit_37 4 rfl ?_
    refine B_callV (st := []) 0 [.int v1, .int v2, .int v3, .int v4] dX7_nightsThatFit_39 gX7_nightsThatFit_X7_trialShows rfl hyX7_trialShows (Nat.le_of_ble_eq_true rfl) (Nat.le_of_ble_eq_true rfl) TX7 11 rfl (Nat.le_of_ble_eq_true rfl) (Nat.le_of_ble_eq_true rfl) rfl (Ct.mono h (Nat.le_refl _) (fun r2 M3 h => ?_))
    refine B_if_eq (tgt := 54) dX7_nightsThatFit_42 (by decide) (fun hc => ?_) (fun hc => ?_)
    · have h := h.1 hc
      refine B_iinc (lv1 := [(6, .int (v6 + (1 : Int32))), (0, .ref 0), (1, .int v1), (2, .int v2), (3, .int v3), (4, .int v4), (5, .int v5)]) (v := (v6 + (1 : Int32))) dX7_nightsThatFit_54 6 rfl rfl (by decide) rfl ?_
      refine B_goto (tgt := 6) dX7_nightsThatFit_57 (by decide) ?_
      refine B_weak [1, 2, 3, 4, 5, 6, 0] rfl ?_
      exact h
    · have h := h.2 hc
      refine B_iload dX7_nightsThatFit_45 5 rfl ?_
      refine B_iconst (v := 1) dX7_nightsThatFit_47 (by decide) ?_
      refine B_iload dX7_nightsThatFit_48 6 rfl ?_
      refine B_ishl dX7_nightsThatFit_50 ?_
      refine B_ior dX7_nightsThatFit_51 ?_
      refine B_istore (lv1 := [(5, .int (v5 ||| (ishl (1 : Int32) v6))), (0, .ref 0), (1, .int v1), (2, .int v2), (3, .int v3), (4, .int v4), (6, .int v6)]) dX7_nightsThatFit_52 (by decide) rfl ?_
      refine B_iinc (lv1 := [(6, .int (v6 + (1 : Int32))), (5, .int (v5 ||| (ishl (1 : Int32) v6))), (0, .ref 0), (1, .int v1), (2, .int v2), (3, .int v3), (4, .int v4)]) (v := (v6 + (1 : Int32))) dX7_nightsThatFit_54 6 rfl rfl (by decide) rfl ?_
      refine B_goto (tgt := 6) dX7_nightsThatFit_57 (by decide) ?_
      refine B_weak [2, 3, 4, 5, 6, 1, 0] rfl ?_
      exact h
set_option maxHeartbeats 4000000 in
set_option maxRecDepth 100000 in
theorem rX7_ordersThatFit (d : Nat) (v1 : Int32) (v2 : Int32) (v3 : Int32) (v4 : Int32) (v5 : Int32) (M : Mm) (Q : Int32 → Mm → Prop)
    (h : kX3_begin d 23 M (fun (r1 : Int32) (M1 : Mm) => BX7_ordersThatFit (d + 1) 19 [(0, .ref 0), (1, .int v1), (2, .int v2), (3, .int v3), (4, .int v4), (5, .int v5), (6, .int r1), (7, .int (0 : Int32)), (8, .int (0 : Int32))] [] M1 Q)) : kX7_ordersThatFit (d + 1) v1 v2 v3 v4 v5 M Q := by
  refine Ct.of (cc := cX7_ordersThatFit) (nL := 9) (by decide) rfl (Nat.le_of_ble_eq_true rfl) ?_
  show BX7_ordersThatFit (d + 1) 0 [(0, .ref 0), (1, .int v1), (2, .int v2), (3, .int v3), (4, .int v4), (5, .int v5)] [] M Q
  refine B_aload_n dX7_ordersThatFit_0 0 rfl ?_
  refine B_getf (T := TX7) (N := 11) (v := .ref 43) 0 7 dX7_ordersThatFit_1 inX7_ordersThatFit_7 lkX7_ordersThatFit_f53 (Nat.le_of_ble_eq_true rfl) (Nat.le_of_ble_eq_true rfl) rfl rfl (by decide) rfl ?_
  refine B_aload_n dX7_ordersThatFit_4 0 rfl ?_
  refine B_getf (T := TX7) (N := 11) (v := .ref 23) 0 2 dX7_ordersThatFit_5 inX7_ordersThatFit_7 lkX7_ordersThatFit_f25 (Nat.le_of_ble_eq_true rfl) (Nat.le_of_ble_eq_true rfl) rfl rfl (by decide) rfl ?_
  refine B_callV (st := []) 43 [.ref 23] dX7_ordersThatFit_8 gX7_ordersThatFit_X3_begin rfl hyX3_begin (Nat.le_of_ble_eq_true rfl) (Nat.le_of_ble_eq_true rfl) TX3 3 rfl (Nat.le_of_ble_eq_true rfl) (Nat.le_of_ble_eq_true rfl) rfl (Ct.mono h (Nat.le_refl _) (fun r1 M1 h => ?_))
  refine B_istore (lv1 := [(6, .int r1), (0, .ref 0), (1, .int v1), (2, .int v2), (3, .int v3), (4, .int v4), (5, .int v5)]) dX7_ordersThatFit_11 (by decide) rfl ?_
  refine B_iconst (v := 0) dX7_ordersThatFit_13 (by decide) ?_
  refine B_istore (lv1 := [(7, .int (0 : Int32)), (6, .int r1), (0, .ref 0), (1, .int v1), (2, .int v2), (3, .int v3), (4, .int v4), (5, .int v5)]) dX7_ordersThatFit_14 (by decide) rfl ?_
  refine B_iconst (v := 0) dX7_ordersThatFit_16 (by decide) ?_
  refine B_istore (lv1 := [(8, .int (0 : Int32)), (7, .int (0 : Int32)), (6, .int r1), (0, .ref 0), (1, .int v1), (2, .int v2), (3, .int v3), (4, .int v4), (5, .int v5)]) dX7_ordersThatFit_17 (by decide) rfl ?_
  refine B_weak [3, 4, 5, 6, 7, 8, 2, 1, 0] rfl ?_
  exact h
set_option maxHeartbeats 4000000 in
set_option maxRecDepth 100000 in
theorem rX7_ordersThatFit_19 (d : Nat) (v1 : Int32) (v2 : Int32) (v3 : Int32) (v4 : Int32) (v5 : Int32) (v6 : Int32) (v7 : Int32) (v8 : Int32) (M : Mm) (Q : Int32 → Mm → Prop)
    (h : ((v6 ≤ v8 → ((¬ v5 = 0 → Q (-1000000 : Int32) M) ∧ (v5 = 0 → Q v7 M))) ∧ (¬ v6 ≤ v8 → kX4_become d 26 23 M (fun (_r1 : Int32) (M1 : Mm) => (¬ (0 : Int32) < 0 ∧ ¬ (0 : Int32) < 0 ∧ ¬ (M1 23 2) < 0 ∧ (0 : Int32).toNatClampNeg + (M1 23 2).toNatClampNeg ≤ 7 ∧ (0 : Int32).toNatClampNeg + (M1 23 2).toNatClampNeg ≤ 7) ∧ (∀ M2 : Mm, M2 = (setR M1 28 (va_cpy (M1 44) (M1 28) (0 : Int32).toNatClampNeg (0 : Int32).toNatClampNeg (M1 23 2).toNatClampNeg)) → kX7_trialShows d v1 v2 v3 v4 M2 (fun (r2 : Int32) (M3 : Mm) => ((r2 = 0 → BX7_ordersThatFit (d + 1) 87 [(0, .ref 0), (1, .int v1), (2, .int v2), (3, .int v3), (4, .int v4), (5, .int v5), (6, .int v6), (7, .int v7), (8, .int v8)] [] M3 Q) ∧ (¬ r2 = 0 → ((¬ v5 = (1 : Int32) → BX7_ordersThatFit (d + 1) 87 [(0, .ref 0), (1, .int v1), (2, .int v2), (3, .int v3), (4, .int v4), (5, .int v5), (6, .int v6), (7, .int (v7 + (1 : Int32))), (8, .int v8)] [] M3 Q) ∧ (v5 = (1 : Int32) → Q v8 M3)))))))))) : BX7_ordersThatFit (d + 1) 19 [(0, .ref 0), (1, .int v1), (2, .int v2), (3, .int v3), (4, .int v4), (5, .int v5), (6, .int v6), (7, .int v7), (8, .int v8)] [] M Q := by
  refine B_iload dX7_ordersThatFit_19 8 rfl ?_
  refine B_iload dX7_ordersThatFit_21 6 rfl ?_
  refine B_icmp_ge (tgt := 100) dX7_ordersThatFit_23 (by decide) (fun hc => ?_) (fun hc => ?_)
  · have h := h.1 hc
    refine B_iload dX7_ordersThatFit_100 5 rfl ?_
    refine B_if_ne (tgt := 110) dX7_ordersThatFit_102 (by decide) (fun hc => ?_) (fun hc => ?_)
    · have h := h.1 hc
      refine B_ldc (v := -1000000) dX7_ordersThatFit_110 lkX7_ordersThatFit_c182 ?_
      exact B_iret dX7_ordersThatFit_112 h
    · have h := h.2 hc
      refine B_iload dX7_ordersThatFit_105 7 rfl ?_
      refine B_goto (tgt := 112) dX7_ordersThatFit_107 (by decide) ?_
      exact B_iret dX7_ordersThatFit_112 h
  · have h := h.2 hc
    refine B_aload_n dX7_ordersThatFit_26 0 rfl ?_
    refine B_getf (T := TX7) (N := 11) (v := .ref 26) 0 3 dX7_ordersThatFit_27 inX7_ordersThatFit_7 lkX7_ordersThatFit_f29 (Nat.le_of_ble_eq_true rfl) (Nat.le_of_ble_eq_true rfl) rfl rfl (by decide) rfl ?_
    refine B_aload_n dX7_ordersThatFit_30 0 rfl ?_
    refine B_getf (T := TX7) (N := 11) (v := .ref 23) 0 2 dX7_ordersThatFit_31 inX7_ordersThatFit_7 lkX7_ordersThatFit_f25 (Nat.le_of_ble_eq_true rfl) (Nat.le_of_ble_eq_true rfl) rfl rfl (by decide) rfl ?_
    refine B_callV (st := []) 26 [.ref 23] dX7_ordersThatFit_34 gX7_ordersThatFit_X4_become rfl hyX4_become (Nat.le_of_ble_eq_true rfl) (Nat.le_of_ble_eq_true rfl) TX4 5 rfl (Nat.le_of_ble_eq_true rfl) (Nat.le_of_ble_eq_true rfl) rfl (Ct.mono h (Nat.le_refl _) (fun _r1 M1 h => ?_))
    refine B_aload_n dX7_ordersThatFit_37 0 rfl ?_
    refine B_getf (T := TX7) (N := 11) (v := .ref 43) 0 7 dX7_ordersThatFit_38 inX7_ordersThatFit_7 lkX7_ordersThatFit_f53 (Nat.le_of_ble_eq_true rfl) (Nat.le_of_ble_eq_true rfl) rfl rfl (by decide) rfl ?_
    refine B_getf (T := TX3) (N := 3) (v := .ref 44) 43 0 dX7_ordersThatFit_41 inX7_ordersThatFit_3 lkX7_ordersThatFit_f294 (Nat.le_of_ble_eq_true rfl) (Nat.le_of_ble_eq_true rfl) rfl rfl (by decide) rfl ?_
    refine B_iconst (v := 0) dX7_ordersThatFit_44 (by decide) ?_
    refine B_aload_n dX7_ordersThatFit_45 0 rfl ?_
    refine B_getf (T := TX7) (N := 11) (v := .ref 26) 0 3 dX7_ordersThatFit_46 inX7_ordersThatFit_7 lkX7_ordersThatFit_f29 (Nat.le_of_ble_eq_true rfl) (Nat.le_of_ble_eq_true rfl) rfl rfl (by decide) rfl ?_
    refine B_getf (T := TX4) (N := 5) (v := .ref 28) 26 1 dX7_ordersThatFit_49 inX7_ordersThatFit_4 lkX7_ordersThatFit_f160 (Nat.le_of_ble_eq_true rfl) (Nat.le_of_ble_eq_true rfl) rfl rfl (by decide) rfl ?_
    refine B_iconst (v := 0) dX7_ordersThatFit_52 (by decide) ?_
    refine B_aload_n dX7_ordersThatFit_53 0 rfl ?_
    refine B_getf (T := TX7) (N := 11) (v := .ref 23) 0 2 dX7_ordersThatFit_54 inX7_ordersThatFit_7 lkX7_ordersThatFit_f25 (Nat.le_of_ble_eq_true rfl) (Nat.le_of_ble_eq_true rfl) rfl rfl (by decide) rfl ?_
    refine B_getf (T := TX4) (N := 5) (v := .int (M1 23 2)) 23 2 dX7_ordersThatFit_57 inX7_ordersThatFit_4 lkX7_ordersThatFit_f139 (Nat.le_of_ble_eq_true rfl) (Nat.le_of_ble_eq_true rfl) rfl rfl (by decide) rfl ?_
    obtain ⟨⟨g1, g2, g3, g4, g5⟩, h⟩ := h
    refine B_copy (n0 := 7) (n1 := 7) 44 28 dX7_ordersThatFit_60 lkX7_ordersThatFit_m108 lkX7_ordersThatFit_n0 lkX7_ordersThatFit_s0 lkX7_ordersThatFit_i0 (Nat.le_of_ble_eq_true rfl) rfl rfl (Nat.le_of_ble_eq_true rfl) rfl rfl g1 g2 g3 g4 g5 (Nat.le_of_ble_eq_true rfl) ?_
    have h := h _ rfl
    generalize (setR M1 28 (va_cpy (M1 44) (M1 28) (0 : Int32).toNatClampNeg (0 : Int32).toNatClampNeg (M1 23 2).toNatClampNeg)) = M2 at h ⊢
    refine B_aload_n dX7_ordersThatFit_63 0 rfl ?_
    refine B_iload_n dX7_ordersThatFit_64 1 rfl ?_
    refine B_iload_n dX7_ordersThatFit_65 2 rfl ?_
    refine B_iload_n dX7_ordersThatFit_66 3 rfl ?_
    refine B_iload dX7_ordersThatFit_67 4 rfl ?_
    refine B_callV (st := []) 0 [.int v1, .int v2, .int v3, .int v4] dX7_ordersThatFit_69 gX7_ordersThatFit_X7_trialShows rfl hyX7_trialShows (Nat.le_of_ble_eq_true rfl) (Nat.le_of_ble_eq_true rfl) TX7 11 rfl (Nat.le_of_ble_eq_true rfl) (Nat.le_of_ble_eq_true rfl) rfl (Ct.mono h (Nat.le_refl _) (fun r2 M3 h => ?_))
    refine B_if_eq (tgt := 87) dX7_ordersThatFit_72 (by decide) (fun hc => ?_) (fun hc => ?_)
    · have h := h.1 hc
      refine B_weak [0, 1, 2, 3, 4, 5, 6, 7, 8] rfl ?_
      exact h
    · have h := h.2 hc
      refine B_iload dX7_ordersThatFit_75 5 rfl ?_
      refine B_iconst (v := 1) dX7_ordersThatFit_77 (by decide) ?_
      refine B_icmp_ne (tgt := 84) dX7_ordersThatFit_78 (by decide) (fun hc => ?_) (fun hc => ?_)
      · have h := h.1 hc
        refine B_iinc (lv1 := [(7, .int (v7 + (1 : Int32))), (0, .ref 0), (1, .int v1), (2, .int v2), (3, .int v3), (4, .int v4), (5, .int v5), (6, .int v6), (8, .int v8)]) (v := (v7 + (1 : Int32))) dX7_ordersThatFit_84 7 rfl rfl (by decide) rfl ?_
        refine B_weak [1, 2, 3, 4, 5, 6, 7, 0, 8] rfl ?_
        exact h
      · have h := h.2 hc
        refine B_iload dX7_ordersThatFit_81 8 rfl ?_
        exact B_iret dX7_ordersThatFit_83 h
set_option maxHeartbeats 4000000 in
set_option maxRecDepth 100000 in
theorem rX7_ordersThatFit_87 (d : Nat) (v1 : Int32) (v2 : Int32) (v3 : Int32) (v4 : Int32) (v5 : Int32) (v6 : Int32) (v7 : Int32) (v8 : Int32) (M : Mm) (Q : Int32 → Mm → Prop)
    (h : kX3_next d  M (fun (_r1 : Int32) (M1 : Mm) => BX7_ordersThatFit (d + 1) 19 [(0, .ref 0), (1, .int v1), (2, .int v2), (3, .int v3), (4, .int v4), (5, .int v5), (6, .int v6), (7, .int v7), (8, .int (v8 + (1 : Int32)))] [] M1 Q)) : BX7_ordersThatFit (d + 1) 87 [(0, .ref 0), (1, .int v1), (2, .int v2), (3, .int v3), (4, .int v4), (5, .int v5), (6, .int v6), (7, .int v7), (8, .int v8)] [] M Q := by
  refine B_aload_n dX7_ordersThatFit_87 0 rfl ?_
  refine B_getf (T := TX7) (N := 11) (v := .ref 43) 0 7 dX7_ordersThatFit_88 inX7_ordersThatFit_7 lkX7_ordersThatFit_f53 (Nat.le_of_ble_eq_true rfl) (Nat.le_of_ble_eq_true rfl) rfl rfl (by decide) rfl ?_
  refine B_callV (st := []) 43 [] dX7_ordersThatFit_91 gX7_ordersThatFit_X3_next rfl hyX3_next (Nat.le_of_ble_eq_true rfl) (Nat.le_of_ble_eq_true rfl) TX3 3 rfl (Nat.le_of_ble_eq_true rfl) (Nat.le_of_ble_eq_true rfl) rfl (Ct.mono h (Nat.le_refl _) (fun _r1 M1 h => ?_))
  refine B_iinc (lv1 := [(8, .int (v8 + (1 : Int32))), (0, .ref 0), (1, .int v1), (2, .int v2), (3, .int v3), (4, .int v4), (5, .int v5), (6, .int v6), (7, .int v7)]) (v := (v8 + (1 : Int32))) dX7_ordersThatFit_94 8 rfl rfl (by decide) rfl ?_
  refine B_goto (tgt := 19) dX7_ordersThatFit_97 (by decide) ?_
  refine B_weak [1, 2, 3, 4, 5, 6, 7, 8, 0] rfl ?_
  exact h
set_option maxHeartbeats 4000000 in
set_option maxRecDepth 100000 in
theorem rX7_trialShows (d : Nat) (v1 : Int32) (v2 : Int32) (v3 : Int32) (v4 : Int32) (M : Mm) (Q : Int32 → Mm → Prop)
    (h : vp_in v2 8 ∧ BX7_trialShows (d + 1) 11 [(0, .ref 0), (1, .int v1), (3, .int v3), (4, .int v4), (5, .ref (sh v2)), (6, .int (0 : Int32))] [] M Q) : kX7_trialShows (d + 1) v1 v2 v3 v4 M Q := by
  refine Ct.of (cc := cX7_trialShows) (nL := 7) (by decide) rfl (Nat.le_of_ble_eq_true rfl) ?_
  show BX7_trialShows (d + 1) 0 [(0, .ref 0), (1, .int v1), (2, .int v2), (3, .int v3), (4, .int v4)] [] M Q
  refine B_aload_n dX7_trialShows_0 0 rfl ?_
  refine B_getf (T := TX7) (N := 11) (v := .ref 1) 0 0 dX7_trialShows_1 inX7_trialShows_7 lkX7_trialShows_f11 (Nat.le_of_ble_eq_true rfl) (Nat.le_of_ble_eq_true rfl) rfl rfl (by decide) rfl ?_
  refine B_iload_n dX7_trialShows_4 2 rfl ?_
  obtain ⟨hi1, h⟩ := h
  refine B_aaS dX7_trialShows_5 hi1 ?_
  refine B_astore (lv1 := [(5, .ref (sh v2)), (0, .ref 0), (1, .int v1), (2, .int v2), (3, .int v3), (4, .int v4)]) dX7_trialShows_6 (by decide) rfl ?_
  refine B_iconst (v := 0) dX7_trialShows_8 (by decide) ?_
  refine B_istore (lv1 := [(6, .int (0 : Int32)), (5, .ref (sh v2)), (0, .ref 0), (1, .int v1), (2, .int v2), (3, .int v3), (4, .int v4)]) dX7_trialShows_9 (by decide) rfl ?_
  refine B_weak [2, 3, 5, 6, 1, 0] rfl ?_
  exact h
set_option maxHeartbeats 4000000 in
set_option maxRecDepth 100000 in
theorem rX7_trialShows_11 (d : Nat) (v1 : Int32) (v3 : Int32) (v4 : Int32) (o5 : Nat) (ho5 : isSh o5) (v6 : Int32) (M : Mm) (Q : Int32 → Mm → Prop)
    (h : ((v4 ≤ v6 → Q (1 : Int32) M) ∧ (¬ v4 ≤ v6 → kX4_advance d 26 (0 : Int32) M (fun (_r1 : Int32) (M1 : Mm) => vp_in v1 7 ∧ vp_in (v3 + v6) 40 ∧ (((M1 28 v1.toNatClampNeg) = (M1 (o5 + 1) (v3 + v6).toNatClampNeg) → BX7_trialShows (d + 1) 11 [(0, .ref 0), (1, .int v1), (3, .int v3), (4, .int v4), (5, .ref o5), (6, .int (v6 + (1 : Int32)))] [] M1 Q) ∧ (¬ (M1 28 v1.toNatClampNeg) = (M1 (o5 + 1) (v3 + v6).toNatClampNeg) → Q (0 : Int32) M1)))))) : BX7_trialShows (d + 1) 11 [(0, .ref 0), (1, .int v1), (3, .int v3), (4, .int v4), (5, .ref o5), (6, .int v6)] [] M Q := by
  refine B_iload dX7_trialShows_11 5 rfl ?_
  refine B_iload dX7_trialShows_13 3 rfl ?_
  refine B_icmp_ge (tgt := 56) dX7_trialShows_15 (by decide) (fun hc => ?_) (fun hc => ?_)
  · have h := h.1 hc
    refine B_iconst (v := 1) dX7_trialShows_56 (by decide) ?_
    exact B_zret dX7_trialShows_57 (Or.inr rfl) h
  · have h := h.2 hc
    refine B_aload_n dX7_trialShows_18 0 rfl ?_
    refine B_getf (T := TX7) (N := 11) (v := .ref 26) 0 3 dX7_trialShows_19 inX7_trialShows_7 lkX7_trialShows_f29 (Nat.le_of_ble_eq_true rfl) (Nat.le_of_ble_eq_true rfl) rfl rfl (by decide) rfl ?_
    refine B_iconst (v := 0) dX7_trialShows_22 (by decide) ?_
    refine B_callV (st := []) 26 [.int (0 : Int32)] dX7_trialShows_23 gX7_trialShows_X4_advance rfl hyX4_advance (Nat.le_of_ble_eq_true rfl) (Nat.le_of_ble_eq_true rfl) TX4 5 rfl (Nat.le_of_ble_eq_true rfl) (Nat.le_of_ble_eq_true rfl) rfl (Ct.mono h (Nat.le_refl _) (fun _r1 M1 h => ?_))
    refine B_aload_n dX7_trialShows_26 0 rfl ?_
    refine B_getf (T := TX7) (N := 11) (v := .ref 26) 0 3 dX7_trialShows_27 inX7_trialShows_7 lkX7_trialShows_f29 (Nat.le_of_ble_eq_true rfl) (Nat.le_of_ble_eq_true rfl) rfl rfl (by decide) rfl ?_
    refine B_getf (T := TX4) (N := 5) (v := .ref 28) 26 1 dX7_trialShows_30 inX7_trialShows_4 lkX7_trialShows_f160 (Nat.le_of_ble_eq_true rfl) (Nat.le_of_ble_eq_true rfl) rfl rfl (by decide) rfl ?_
    refine B_iload_n dX7_trialShows_33 1 rfl ?_
    obtain ⟨hi, h⟩ := h
    refine B_iald (n := 7) 28 dX7_trialShows_34 (Nat.le_of_ble_eq_true rfl) rfl rfl hi ?_
    refine B_aload dX7_trialShows_35 4 rfl ?_
    refine B_getf (T := TX5) (N := 3) (v := .ref (o5 + 1)) o5 0 dX7_trialShows_37 inX7_trialShows_5 lkX7_trialShows_f105 (sh_lt ho5) (sh_c9 ho5) (sh_cl ho5) (sh_nf ho5) (by decide) (sh_v0 ho5) ?_
    refine B_iload_n dX7_trialShows_40 2 rfl ?_
    refine B_iload dX7_trialShows_41 5 rfl ?_
    refine B_iadd dX7_trialShows_43 ?_
    obtain ⟨hi, h⟩ := h
    refine B_iald (n := 40) (o5 + 1) dX7_trialShows_44 (sh1_lt ho5) (sh1_c ho5) (sh1_n ho5) hi ?_
    refine B_icmp_eq (tgt := 50) dX7_trialShows_45 (by decide) (fun hc => ?_) (fun hc => ?_)
    · have h := h.1 hc
      refine B_iinc (lv1 := [(6, .int (v6 + (1 : Int32))), (0, .ref 0), (1, .int v1), (3, .int v3), (4, .int v4), (5, .ref o5)]) (v := (v6 + (1 : Int32))) dX7_trialShows_50 5 rfl rfl (by decide) rfl ?_
      refine B_goto (tgt := 11) dX7_trialShows_53 (by decide) ?_
      refine B_weak [1, 2, 3, 4, 5, 0] rfl ?_
      exact h
    · have h := h.2 hc
      refine B_iconst (v := 0) dX7_trialShows_48 (by decide) ?_
      exact B_zret dX7_trialShows_49 (Or.inl rfl) h
