set_option maxHeartbeats 4000000 in
set_option maxRecDepth 100000 in
theorem rX0_forget (d : Nat)  (M : Mm) (Q : Int32 → Mm → Prop)
    (h : (∀ M1 : Mm, M1 = (upd2 M 36 3 (0 : Int32)) → (∀ M2 : Mm, M2 = (upd2 M1 36 4 (0 : Int32)) → Q 0 M2))) : kX0_forget d  M Q := by
  refine Ct.of (cc := cX0_forget) (nL := 1) (by decide) rfl (Nat.le_of_ble_eq_true rfl) ?_
  show BX0_forget d 0 [(0, .ref 36)] [] M Q
  refine B_aload_n dX0_forget_0 0 rfl ?_
  refine B_iconst (v := 0) dX0_forget_1 (by decide) ?_
  refine B_putf (T := TX0) (N := 5) 36 3 tyX0 tyX0_ok nmX0 dX0_forget_2 inX0_forget_0 lkX0_forget_f21 (Nat.le_of_ble_eq_true rfl) (Nat.le_of_ble_eq_true rfl) rfl rfl (by decide) rfl rfl (by decide +kernel) ?_
  have h := h _ rfl
  generalize (upd2 M 36 3 (0 : Int32)) = M1 at h ⊢
  refine B_aload_n dX0_forget_5 0 rfl ?_
  refine B_iconst (v := 0) dX0_forget_6 (by decide) ?_
  refine B_putf (T := TX0) (N := 5) 36 4 tyX0 tyX0_ok nmX0 dX0_forget_7 inX0_forget_0 lkX0_forget_f25 (Nat.le_of_ble_eq_true rfl) (Nat.le_of_ble_eq_true rfl) rfl rfl (by decide) rfl rfl (by decide +kernel) ?_
  have h := h _ rfl
  generalize (upd2 M1 36 4 (0 : Int32)) = M2 at h ⊢
  exact B_vret dX0_forget_10 h
set_option maxHeartbeats 4000000 in
set_option maxRecDepth 100000 in
theorem rX0_keep (d : Nat) (o1 : Nat) (ho1 : isRg o1) (M : Mm) (Q : Int32 → Mm → Prop)
    (h : ((¬ (M 36 4) = (24 : Int32) → BX0_keep (d + 1) 32 [(0, .ref 36), (1, .ref o1)] [] M Q) ∧ ((M 36 4) = (24 : Int32) → (∀ M1 : Mm, M1 = (upd2 M 36 3 (irem ((M 36 3) + (1 : Int32)) (24 : Int32))) → (∀ M2 : Mm, M2 = (upd2 M1 36 4 ((M1 36 4) - (1 : Int32))) → BX0_keep (d + 1) 32 [(0, .ref 36), (1, .ref o1)] [] M2 Q))))) : kX0_keep (d + 1) o1 M Q := by
  refine Ct.of (cc := cX0_keep) (nL := 3) (by decide) rfl (Nat.le_of_ble_eq_true rfl) ?_
  show BX0_keep (d + 1) 0 [(0, .ref 36), (1, .ref o1)] [] M Q
  refine B_aload_n dX0_keep_0 0 rfl ?_
  refine B_getf (T := TX0) (N := 5) (v := .int (M 36 4)) 36 4 dX0_keep_1 inX0_keep_0 lkX0_keep_f25 (Nat.le_of_ble_eq_true rfl) (Nat.le_of_ble_eq_true rfl) rfl rfl (by decide) rfl ?_
  refine B_bipush (v := 24) dX0_keep_4 (by decide) ?_
  refine B_icmp_ne (tgt := 32) dX0_keep_6 (by decide) (fun hc => ?_) (fun hc => ?_)
  · have h := h.1 hc
    refine B_weak [0, 1] rfl ?_
    exact h
  · have h := h.2 hc
    refine B_aload_n dX0_keep_9 0 rfl ?_
    refine B_aload_n dX0_keep_10 0 rfl ?_
    refine B_getf (T := TX0) (N := 5) (v := .int (M 36 3)) 36 3 dX0_keep_11 inX0_keep_0 lkX0_keep_f21 (Nat.le_of_ble_eq_true rfl) (Nat.le_of_ble_eq_true rfl) rfl rfl (by decide) rfl ?_
    refine B_iconst (v := 1) dX0_keep_14 (by decide) ?_
    refine B_iadd dX0_keep_15 ?_
    refine B_bipush (v := 24) dX0_keep_16 (by decide) ?_
    refine B_irem dX0_keep_18 (by decide) ?_
    refine B_putf (T := TX0) (N := 5) 36 3 tyX0 tyX0_ok nmX0 dX0_keep_19 inX0_keep_0 lkX0_keep_f21 (Nat.le_of_ble_eq_true rfl) (Nat.le_of_ble_eq_true rfl) rfl rfl (by decide) rfl rfl (by decide +kernel) ?_
    have h := h _ rfl
    generalize (upd2 M 36 3 (irem ((M 36 3) + (1 : Int32)) (24 : Int32))) = M1 at h ⊢
    refine B_aload_n dX0_keep_22 0 rfl ?_
    refine B_dup dX0_keep_23 rfl ?_
    refine B_getf (T := TX0) (N := 5) (v := .int (M1 36 4)) 36 4 dX0_keep_24 inX0_keep_0 lkX0_keep_f25 (Nat.le_of_ble_eq_true rfl) (Nat.le_of_ble_eq_true rfl) rfl rfl (by decide) rfl ?_
    refine B_iconst (v := 1) dX0_keep_27 (by decide) ?_
    refine B_isub dX0_keep_28 ?_
    refine B_putf (T := TX0) (N := 5) 36 4 tyX0 tyX0_ok nmX0 dX0_keep_29 inX0_keep_0 lkX0_keep_f25 (Nat.le_of_ble_eq_true rfl) (Nat.le_of_ble_eq_true rfl) rfl rfl (by decide) rfl rfl (by decide +kernel) ?_
    have h := h _ rfl
    generalize (upd2 M1 36 4 ((M1 36 4) - (1 : Int32))) = M2 at h ⊢
    refine B_weak [0, 1] rfl ?_
    exact h
set_option maxHeartbeats 4000000 in
set_option maxRecDepth 100000 in
theorem rX0_keep_32 (d : Nat) (o1 : Nat) (ho1 : isRg o1) (M : Mm) (Q : Int32 → Mm → Prop)
    (h : kX4_figures d o1 M (fun (r1 : Int32) (M1 : Mm) => vp_in (irem ((M 36 3) + (M 36 4)) (24 : Int32)) 24 ∧ (∀ M2 : Mm, M2 = (upd2 M1 37 (irem ((M 36 3) + (M 36 4)) (24 : Int32)).toNatClampNeg r1) → vp_in (irem ((M 36 3) + (M 36 4)) (24 : Int32)) 24 ∧ (∀ M3 : Mm, M3 = (upd2 M2 38 (irem ((M 36 3) + (M 36 4)) (24 : Int32)).toNatClampNeg (M2 o1 3)) → vp_in (irem ((M 36 3) + (M 36 4)) (24 : Int32)) 24 ∧ (∀ M4 : Mm, M4 = (upd2 M3 39 (irem ((M 36 3) + (M 36 4)) (24 : Int32)).toNatClampNeg (M3 o1 4)) → (∀ M5 : Mm, M5 = (upd2 M4 36 4 ((M4 36 4) + (1 : Int32))) → Q 0 M5)))))) : BX0_keep (d + 1) 32 [(0, .ref 36), (1, .ref o1)] [] M Q := by
  refine B_aload_n dX0_keep_32 0 rfl ?_
  refine B_getf (T := TX0) (N := 5) (v := .int (M 36 3)) 36 3 dX0_keep_33 inX0_keep_0 lkX0_keep_f21 (Nat.le_of_ble_eq_true rfl) (Nat.le_of_ble_eq_true rfl) rfl rfl (by decide) rfl ?_
  refine B_aload_n dX0_keep_36 0 rfl ?_
  refine B_getf (T := TX0) (N := 5) (v := .int (M 36 4)) 36 4 dX0_keep_37 inX0_keep_0 lkX0_keep_f25 (Nat.le_of_ble_eq_true rfl) (Nat.le_of_ble_eq_true rfl) rfl rfl (by decide) rfl ?_
  refine B_iadd dX0_keep_40 ?_
  refine B_bipush (v := 24) dX0_keep_41 (by decide) ?_
  refine B_irem dX0_keep_43 (by decide) ?_
  refine B_istore_n (lv1 := [(2, .int (irem ((M 36 3) + (M 36 4)) (24 : Int32))), (0, .ref 36), (1, .ref o1)]) dX0_keep_44 (by decide) rfl ?_
  refine B_aload_n dX0_keep_45 1 rfl ?_
  refine B_getf (T := TX0) (N := 5) (v := .ref 37) 36 0 dX0_keep_46 inX0_keep_0 lkX0_keep_f9 (Nat.le_of_ble_eq_true rfl) (Nat.le_of_ble_eq_true rfl) rfl rfl (by decide) rfl ?_
  refine B_iload_n dX0_keep_49 0 rfl ?_
  refine B_aload_n dX0_keep_50 2 rfl ?_
  refine B_callV (st := [.int (irem ((M 36 3) + (M 36 4)) (24 : Int32)), .ref 37]) o1 [] dX0_keep_51 gX0_keep_X4_figures rfl hyX4_figures (rg_lt ho1) (rg_c9 ho1) TX4 5 (rg_cl ho1) (Nat.le_of_ble_eq_true rfl) (Nat.le_of_ble_eq_true rfl) rfl (Ct.mono h (Nat.le_refl _) (fun r1 M1 h => ?_))
  obtain ⟨hi, h⟩ := h
  refine B_iast (n := 24) 37 dX0_keep_54 (Nat.le_of_ble_eq_true rfl) rfl rfl hi ?_
  have h := h _ rfl
  generalize (upd2 M1 37 (irem ((M 36 3) + (M 36 4)) (24 : Int32)).toNatClampNeg r1) = M2 at h ⊢
  refine B_aload_n dX0_keep_55 1 rfl ?_
  refine B_getf (T := TX0) (N := 5) (v := .ref 38) 36 1 dX0_keep_56 inX0_keep_0 lkX0_keep_f15 (Nat.le_of_ble_eq_true rfl) (Nat.le_of_ble_eq_true rfl) rfl rfl (by decide) rfl ?_
  refine B_iload_n dX0_keep_59 0 rfl ?_
  refine B_aload_n dX0_keep_60 2 rfl ?_
  refine B_getf (T := TX4) (N := 5) (v := .int (M2 o1 3)) o1 3 dX0_keep_61 inX0_keep_4 lkX0_keep_f33 (rg_lt ho1) (rg_c9 ho1) (rg_cl ho1) (rg_nf ho1) (by decide) (rg_v3 ho1) ?_
  obtain ⟨hi, h⟩ := h
  refine B_iast (n := 24) 38 dX0_keep_64 (Nat.le_of_ble_eq_true rfl) rfl rfl hi ?_
  have h := h _ rfl
  generalize (upd2 M2 38 (irem ((M 36 3) + (M 36 4)) (24 : Int32)).toNatClampNeg (M2 o1 3)) = M3 at h ⊢
  refine B_aload_n dX0_keep_65 1 rfl ?_
  refine B_getf (T := TX0) (N := 5) (v := .ref 39) 36 2 dX0_keep_66 inX0_keep_0 lkX0_keep_f18 (Nat.le_of_ble_eq_true rfl) (Nat.le_of_ble_eq_true rfl) rfl rfl (by decide) rfl ?_
  refine B_iload_n dX0_keep_69 0 rfl ?_
  refine B_aload_n dX0_keep_70 2 rfl ?_
  refine B_getf (T := TX4) (N := 5) (v := .int (M3 o1 4)) o1 4 dX0_keep_71 inX0_keep_4 lkX0_keep_f36 (rg_lt ho1) (rg_c9 ho1) (rg_cl ho1) (rg_nf ho1) (by decide) (rg_v4 ho1) ?_
  obtain ⟨hi, h⟩ := h
  refine B_iast (n := 24) 39 dX0_keep_74 (Nat.le_of_ble_eq_true rfl) rfl rfl hi ?_
  have h := h _ rfl
  generalize (upd2 M3 39 (irem ((M 36 3) + (M 36 4)) (24 : Int32)).toNatClampNeg (M3 o1 4)) = M4 at h ⊢
  refine B_aload_n dX0_keep_75 1 rfl ?_
  refine B_dup dX0_keep_76 rfl ?_
  refine B_getf (T := TX0) (N := 5) (v := .int (M4 36 4)) 36 4 dX0_keep_77 inX0_keep_0 lkX0_keep_f25 (Nat.le_of_ble_eq_true rfl) (Nat.le_of_ble_eq_true rfl) rfl rfl (by decide) rfl ?_
  refine B_iconst (v := 1) dX0_keep_80 (by decide) ?_
  refine B_iadd dX0_keep_81 ?_
  refine B_putf (T := TX0) (N := 5) 36 4 tyX0 tyX0_ok nmX0 dX0_keep_82 inX0_keep_0 lkX0_keep_f25 (Nat.le_of_ble_eq_true rfl) (Nat.le_of_ble_eq_true rfl) rfl rfl (by decide) rfl rfl (by decide +kernel) ?_
  have h := h _ rfl
  generalize (upd2 M4 36 4 ((M4 36 4) + (1 : Int32))) = M5 at h ⊢
  exact B_vret dX0_keep_85 h
set_option maxHeartbeats 4000000 in
set_option maxRecDepth 100000 in
theorem rX0_takeBack (d : Nat) (o1 : Nat) (ho1 : isRg o1) (M : Mm) (Q : Int32 → Mm → Prop)
    (h : ((¬ (M 36 4) = 0 → (∀ M1 : Mm, M1 = (upd2 M 36 4 ((M 36 4) - (1 : Int32))) → vp_in (irem ((M1 36 3) + (M1 36 4)) (24 : Int32)) 24 ∧ kX4_takeFigures d o1 (M1 37 (irem ((M1 36 3) + (M1 36 4)) (24 : Int32)).toNatClampNeg) M1 (fun (_r1 : Int32) (M2 : Mm) => vp_in (irem ((M1 36 3) + (M1 36 4)) (24 : Int32)) 24 ∧ (∀ M3 : Mm, M3 = (upd2 M2 o1 3 (M2 38 (irem ((M1 36 3) + (M1 36 4)) (24 : Int32)).toNatClampNeg)) → vp_in (irem ((M1 36 3) + (M1 36 4)) (24 : Int32)) 24 ∧ (∀ M4 : Mm, M4 = (upd2 M3 o1 4 (M3 39 (irem ((M1 36 3) + (M1 36 4)) (24 : Int32)).toNatClampNeg)) → Q 0 M4))))) ∧ ((M 36 4) = 0 → Q 0 M))) : kX0_takeBack (d + 1) o1 M Q := by
  refine Ct.of (cc := cX0_takeBack) (nL := 3) (by decide) rfl (Nat.le_of_ble_eq_true rfl) ?_
  show BX0_takeBack (d + 1) 0 [(0, .ref 36), (1, .ref o1)] [] M Q
  refine B_aload_n dX0_takeBack_0 0 rfl ?_
  refine B_getf (T := TX0) (N := 5) (v := .int (M 36 4)) 36 4 dX0_takeBack_1 inX0_takeBack_0 lkX0_takeBack_f25 (Nat.le_of_ble_eq_true rfl) (Nat.le_of_ble_eq_true rfl) rfl rfl (by decide) rfl ?_
  refine B_if_ne (tgt := 8) dX0_takeBack_4 (by decide) (fun hc => ?_) (fun hc => ?_)
  · have h := h.1 hc
    refine B_aload_n dX0_takeBack_8 0 rfl ?_
    refine B_dup dX0_takeBack_9 rfl ?_
    refine B_getf (T := TX0) (N := 5) (v := .int (M 36 4)) 36 4 dX0_takeBack_10 inX0_takeBack_0 lkX0_takeBack_f25 (Nat.le_of_ble_eq_true rfl) (Nat.le_of_ble_eq_true rfl) rfl rfl (by decide) rfl ?_
    refine B_iconst (v := 1) dX0_takeBack_13 (by decide) ?_
    refine B_isub dX0_takeBack_14 ?_
    refine B_putf (T := TX0) (N := 5) 36 4 tyX0 tyX0_ok nmX0 dX0_takeBack_15 inX0_takeBack_0 lkX0_takeBack_f25 (Nat.le_of_ble_eq_true rfl) (Nat.le_of_ble_eq_true rfl) rfl rfl (by decide) rfl rfl (by decide +kernel) ?_
    have h := h _ rfl
    generalize (upd2 M 36 4 ((M 36 4) - (1 : Int32))) = M1 at h ⊢
    refine B_aload_n dX0_takeBack_18 0 rfl ?_
    refine B_getf (T := TX0) (N := 5) (v := .int (M1 36 3)) 36 3 dX0_takeBack_19 inX0_takeBack_0 lkX0_takeBack_f21 (Nat.le_of_ble_eq_true rfl) (Nat.le_of_ble_eq_true rfl) rfl rfl (by decide) rfl ?_
    refine B_aload_n dX0_takeBack_22 0 rfl ?_
    refine B_getf (T := TX0) (N := 5) (v := .int (M1 36 4)) 36 4 dX0_takeBack_23 inX0_takeBack_0 lkX0_takeBack_f25 (Nat.le_of_ble_eq_true rfl) (Nat.le_of_ble_eq_true rfl) rfl rfl (by decide) rfl ?_
    refine B_iadd dX0_takeBack_26 ?_
    refine B_bipush (v := 24) dX0_takeBack_27 (by decide) ?_
    refine B_irem dX0_takeBack_29 (by decide) ?_
    refine B_istore_n (lv1 := [(2, .int (irem ((M1 36 3) + (M1 36 4)) (24 : Int32))), (0, .ref 36), (1, .ref o1)]) dX0_takeBack_30 (by decide) rfl ?_
    refine B_aload_n dX0_takeBack_31 2 rfl ?_
    refine B_aload_n dX0_takeBack_32 1 rfl ?_
    refine B_getf (T := TX0) (N := 5) (v := .ref 37) 36 0 dX0_takeBack_33 inX0_takeBack_0 lkX0_takeBack_f9 (Nat.le_of_ble_eq_true rfl) (Nat.le_of_ble_eq_true rfl) rfl rfl (by decide) rfl ?_
    refine B_iload_n dX0_takeBack_36 0 rfl ?_
    obtain ⟨hi, h⟩ := h
    refine B_iald (n := 24) 37 dX0_takeBack_37 (Nat.le_of_ble_eq_true rfl) rfl rfl hi ?_
    refine B_callV (st := []) o1 [.int (M1 37 (irem ((M1 36 3) + (M1 36 4)) (24 : Int32)).toNatClampNeg)] dX0_takeBack_38 gX0_takeBack_X4_takeFigures rfl hyX4_takeFigures (rg_lt ho1) (rg_c9 ho1) TX4 5 (rg_cl ho1) (Nat.le_of_ble_eq_true rfl) (Nat.le_of_ble_eq_true rfl) rfl (Ct.mono h (Nat.le_refl _) (fun _r1 M2 h => ?_))
    refine B_aload_n dX0_takeBack_41 2 rfl ?_
    refine B_aload_n dX0_takeBack_42 1 rfl ?_
    refine B_getf (T := TX0) (N := 5) (v := .ref 38) 36 1 dX0_takeBack_43 inX0_takeBack_0 lkX0_takeBack_f15 (Nat.le_of_ble_eq_true rfl) (Nat.le_of_ble_eq_true rfl) rfl rfl (by decide) rfl ?_
    refine B_iload_n dX0_takeBack_46 0 rfl ?_
    obtain ⟨hi, h⟩ := h
    refine B_iald (n := 24) 38 dX0_takeBack_47 (Nat.le_of_ble_eq_true rfl) rfl rfl hi ?_
    refine B_putf (T := TX4) (N := 5) o1 3 tyX4 tyX4_ok nmX4 dX0_takeBack_48 inX0_takeBack_4 lkX0_takeBack_f33 (rg_lt ho1) (rg_c9 ho1) (rg_cl ho1) (rg_nf ho1) (by decide) (rg_r3 ho1) rfl (by decide +kernel) ?_
    have h := h _ rfl
    generalize (upd2 M2 o1 3 (M2 38 (irem ((M1 36 3) + (M1 36 4)) (24 : Int32)).toNatClampNeg)) = M3 at h ⊢
    refine B_aload_n dX0_takeBack_51 2 rfl ?_
    refine B_aload_n dX0_takeBack_52 1 rfl ?_
    refine B_getf (T := TX0) (N := 5) (v := .ref 39) 36 2 dX0_takeBack_53 inX0_takeBack_0 lkX0_takeBack_f18 (Nat.le_of_ble_eq_true rfl) (Nat.le_of_ble_eq_true rfl) rfl rfl (by decide) rfl ?_
    refine B_iload_n dX0_takeBack_56 0 rfl ?_
    obtain ⟨hi, h⟩ := h
    refine B_iald (n := 24) 39 dX0_takeBack_57 (Nat.le_of_ble_eq_true rfl) rfl rfl hi ?_
    refine B_putf (T := TX4) (N := 5) o1 4 tyX4 tyX4_ok nmX4 dX0_takeBack_58 inX0_takeBack_4 lkX0_takeBack_f36 (rg_lt ho1) (rg_c9 ho1) (rg_cl ho1) (rg_nf ho1) (by decide) (rg_r4 ho1) rfl (by decide +kernel) ?_
    have h := h _ rfl
    generalize (upd2 M3 o1 4 (M3 39 (irem ((M1 36 3) + (M1 36 4)) (24 : Int32)).toNatClampNeg)) = M4 at h ⊢
    exact B_vret dX0_takeBack_61 h
  · have h := h.2 hc
    exact B_vret dX0_takeBack_7 h
set_option maxHeartbeats 4000000 in
set_option maxRecDepth 100000 in
theorem rX1_answer (d : Nat) (o1 : Nat) (ho1 : isRg o1) (v2 : Int32) (v3 : Int32) (M : Mm) (Q : Int32 → Mm → Prop)
    (h : (∀ M1 : Mm, M1 = (upd2 M 46 1 (0 : Int32)) → vp_in v2 7 ∧ ((¬ v3 = 0 → vp_in (M1 (o1 + 1) v2.toNatClampNeg) 6 ∧ BX1_answer (d + 1) 33 [(1, .ref o1), (2, .int v2)] [.int ((stL 2).getD (M1 (o1 + 1) v2.toNatClampNeg).toNatClampNeg 0), .ref 46] M1 Q) ∧ (v3 = 0 → vp_in (M1 (o1 + 1) v2.toNatClampNeg) 6 ∧ BX1_answer (d + 1) 33 [(1, .ref o1), (2, .int v2)] [.int ((stL 1).getD (M1 (o1 + 1) v2.toNatClampNeg).toNatClampNeg 0), .ref 46] M1 Q)))) : kX1_answer (d + 1) o1 v2 v3 M Q := by
  refine Ct.of (cc := cX1_answer) (nL := 5) (by decide) rfl (Nat.le_of_ble_eq_true rfl) ?_
  show BX1_answer (d + 1) 0 [(0, .ref 46), (1, .ref o1), (2, .int v2), (3, .int v3)] [] M Q
  refine B_aload_n dX1_answer_0 0 rfl ?_
  refine B_iconst (v := 0) dX1_answer_1 (by decide) ?_
  refine B_putf (T := TX1) (N := 2) 46 1 tyX1 tyX1_ok nmX1 dX1_answer_2 inX1_answer_1 lkX1_answer_f15 (Nat.le_of_ble_eq_true rfl) (Nat.le_of_ble_eq_true rfl) rfl rfl (by decide) rfl rfl (by decide +kernel) ?_
  have h := h _ rfl
  generalize (upd2 M 46 1 (0 : Int32)) = M1 at h ⊢
  refine B_aload_n dX1_answer_5 1 rfl ?_
  refine B_getf (T := TX4) (N := 5) (v := .ref (o1 + 1)) o1 0 dX1_answer_6 inX1_answer_4 lkX1_answer_f19 (rg_lt ho1) (rg_c9 ho1) (rg_cl ho1) (rg_nf ho1) (by decide) (rg_v0 ho1) ?_
  refine B_iload_n dX1_answer_9 2 rfl ?_
  obtain ⟨hi, h⟩ := h
  refine B_iald (n := 7) (o1 + 1) dX1_answer_10 (rg1_lt ho1) (rg1_c ho1) (rg1_n ho1) hi ?_
  refine B_istore (lv1 := [(4, .int (M1 (o1 + 1) v2.toNatClampNeg)), (0, .ref 46), (1, .ref o1), (2, .int v2), (3, .int v3)]) dX1_answer_11 (by decide) rfl ?_
  refine B_aload_n dX1_answer_13 1 rfl ?_
  refine B_iload_n dX1_answer_14 4 rfl ?_
  refine B_if_ne (tgt := 27) dX1_answer_15 (by decide) (fun hc => ?_) (fun hc => ?_)
  · have h := h.1 hc
    refine B_getsN 2 dX1_answer_27 (by decide) (fun G A s h => h.2.2.2.2.2) ?_
    refine B_iload dX1_answer_30 0 rfl ?_
    obtain ⟨hi, h⟩ := h
    refine B_ti 2 dX1_answer_32 (by decide) hi rfl ?_
    refine B_weak [2, 3] rfl ?_
    exact h
  · have h := h.2 hc
    refine B_getsN 1 dX1_answer_18 (by decide) (fun G A s h => h.2.2.2.2.1) ?_
    refine B_iload dX1_answer_21 0 rfl ?_
    obtain ⟨hi, h⟩ := h
    refine B_ti 1 dX1_answer_23 (by decide) hi rfl ?_
    refine B_goto (tgt := 33) dX1_answer_24 (by decide) ?_
    refine B_weak [2, 3] rfl ?_
    exact h
set_option maxHeartbeats 4000000 in
set_option maxRecDepth 100000 in
theorem rX1_answer_33 (d : Nat) (o1 : Nat) (ho1 : isRg o1) (v2 : Int32) (x0 : Int32) (M : Mm) (Q : Int32 → Mm → Prop)
    (h : kX1_run d x0 o1 v2 (0 : Int32) M (fun (r1 : Int32) (M1 : Mm) => Q r1 M1)) : BX1_answer (d + 1) 33 [(1, .ref o1), (2, .int v2)] [.int x0, .ref 46] M Q := by
  refine B_aload_n dX1_answer_33 0 rfl ?_
  refine B_iload_n dX1_answer_34 1 rfl ?_
  refine B_iconst (v := 0) dX1_answer_35 (by decide) ?_
  refine B_callV (st := []) 46 [.int x0, .ref o1, .int v2, .int (0 : Int32)] dX1_answer_36 gX1_answer_X1_run rfl hyX1_run (Nat.le_of_ble_eq_true rfl) (Nat.le_of_ble_eq_true rfl) TX1 2 rfl (Nat.le_of_ble_eq_true rfl) (Nat.le_of_ble_eq_true rfl) rfl (Ct.mono h (Nat.le_refl _) (fun r1 M1 h => ?_))
  exact B_iret dX1_answer_39 h
set_option maxHeartbeats 4000000 in
set_option maxRecDepth 100000 in
theorem rX1_run (d : Nat) (v1 : Int32) (o2 : Nat) (ho2 : isRg o2) (v3 : Int32) (v4 : Int32) (M : Mm) (Q : Int32 → Mm → Prop)
    (h : ((v4 < (16 : Int32) → kX1_leave d v1 M (fun (_r1 : Int32) (M1 : Mm) => vp_in v3 7 ∧ vp_in (M1 (o2 + 1) v3.toNatClampNeg) 6 ∧ vp_in v3 7 ∧ vp_in (M1 (o2 + 1) v3.toNatClampNeg) 6 ∧ ((v1 = 10 → vp_in v3 7 ∧ Q (M1 (o2 + 2) v3.toNatClampNeg) M1) ∧ (v1 = 11 → kX1_run d (10 : Int32) o2 v3 (v4 + (1 : Int32)) M1 (fun (r2 : Int32) (M2 : Mm) => kX1_run d ((stL 2).getD (M1 (o2 + 1) v3.toNatClampNeg).toNatClampNeg 0) o2 v3 (v4 + (1 : Int32)) M2 (fun (r3 : Int32) (M3 : Mm) => Q (r2 + r3) M3))) ∧ (v1 = 12 → kX1_run d (11 : Int32) o2 v3 (v4 + (1 : Int32)) M1 (fun (r4 : Int32) (M4 : Mm) => Q (-r4) M4)) ∧ (v1 = 13 → kX1_run d (10 : Int32) o2 v3 (v4 + (1 : Int32)) M1 (fun (r5 : Int32) (M5 : Mm) => Q (r5 - (100 : Int32)) M5)) ∧ (v1 = 14 → kX1_run d (13 : Int32) o2 v3 (v4 + (1 : Int32)) M1 (fun (r6 : Int32) (M6 : Mm) => Q ((2 : Int32) * r6) M6)) ∧ (v1 = 20 → Q v3 M1) ∧ (v1 = 21 → kX1_run d (20 : Int32) o2 v3 (v4 + (1 : Int32)) M1 (fun (r7 : Int32) (M7 : Mm) => kX4_withNone d o2 M7 (fun (r8 : Int32) (M8 : Mm) => Q (r7 + r8) M8))) ∧ (v1 = 22 → kX1_run d (21 : Int32) o2 v3 (v4 + (1 : Int32)) M1 (fun (r9 : Int32) (M9 : Mm) => Q (r9 - (1000 : Int32)) M9)) ∧ (v1 = 23 → kX1_run d (20 : Int32) o2 v3 (v4 + (1 : Int32)) M1 (fun (r10 : Int32) (M10 : Mm) => kX1_run d ((stL 1).getD (M1 (o2 + 1) v3.toNatClampNeg).toNatClampNeg 0) o2 v3 (v4 + (1 : Int32)) M10 (fun (r11 : Int32) (M11 : Mm) => Q (r10 - r11) M11))) ∧ (v1 = 24 → kX1_run d (21 : Int32) o2 v3 (v4 + (1 : Int32)) M1 (fun (r12 : Int32) (M12 : Mm) => Q ((2 : Int32) * r12) M12)) ∧ (¬ v1 = 10 ∧ ¬ v1 = 11 ∧ ¬ v1 = 12 ∧ ¬ v1 = 13 ∧ ¬ v1 = 14 ∧ ¬ v1 = 20 ∧ ¬ v1 = 21 ∧ ¬ v1 = 22 ∧ ¬ v1 = 23 ∧ ¬ v1 = 24 → Q (0 : Int32) M1)))) ∧ (¬ v4 < (16 : Int32) → Q (0 : Int32) M))) : kX1_run (d + 1) v1 o2 v3 v4 M Q := by
  refine Ct.of (cc := cX1_run) (nL := 7) (by decide) rfl (Nat.le_of_ble_eq_true rfl) ?_
  show BX1_run (d + 1) 0 [(0, .ref 46), (1, .int v1), (2, .ref o2), (3, .int v3), (4, .int v4)] [] M Q
  refine B_iload dX1_run_0 4 rfl ?_
  refine B_bipush (v := 16) dX1_run_2 (by decide) ?_
  refine B_icmp_lt (tgt := 9) dX1_run_4 (by decide) (fun hc => ?_) (fun hc => ?_)
  · have h := h.1 hc
    refine B_aload_n dX1_run_9 0 rfl ?_
    refine B_iload_n dX1_run_10 1 rfl ?_
    refine B_callV (st := []) 46 [.int v1] dX1_run_11 gX1_run_X1_leave rfl hyX1_leave (Nat.le_of_ble_eq_true rfl) (Nat.le_of_ble_eq_true rfl) TX1 2 rfl (Nat.le_of_ble_eq_true rfl) (Nat.le_of_ble_eq_true rfl) rfl (Ct.mono h (Nat.le_refl _) (fun _r1 M1 h => ?_))
    refine B_getsN 1 dX1_run_14 (by decide) (fun G A s h => h.2.2.2.2.1) ?_
    refine B_aload_n dX1_run_17 2 rfl ?_
    refine B_getf (T := TX4) (N := 5) (v := .ref (o2 + 1)) o2 0 dX1_run_18 inX1_run_4 lkX1_run_f19 (rg_lt ho2) (rg_c9 ho2) (rg_cl ho2) (rg_nf ho2) (by decide) (rg_v0 ho2) ?_
    refine B_iload_n dX1_run_21 3 rfl ?_
    obtain ⟨hi, h⟩ := h
    refine B_iald (n := 7) (o2 + 1) dX1_run_22 (rg1_lt ho2) (rg1_c ho2) (rg1_n ho2) hi ?_
    obtain ⟨hi, h⟩ := h
    refine B_ti 1 dX1_run_23 (by decide) hi rfl ?_
    refine B_istore (lv1 := [(5, .int ((stL 1).getD (M1 (o2 + 1) v3.toNatClampNeg).toNatClampNeg 0)), (0, .ref 46), (1, .int v1), (2, .ref o2), (3, .int v3), (4, .int v4)]) dX1_run_24 (by decide) rfl ?_
    refine B_getsN 2 dX1_run_26 (by decide) (fun G A s h => h.2.2.2.2.2) ?_
    refine B_aload_n dX1_run_29 3 rfl ?_
    refine B_getf (T := TX4) (N := 5) (v := .ref (o2 + 1)) o2 0 dX1_run_30 inX1_run_4 lkX1_run_f19 (rg_lt ho2) (rg_c9 ho2) (rg_cl ho2) (rg_nf ho2) (by decide) (rg_v0 ho2) ?_
    refine B_iload_n dX1_run_33 4 rfl ?_
    obtain ⟨hi, h⟩ := h
    refine B_iald (n := 7) (o2 + 1) dX1_run_34 (rg1_lt ho2) (rg1_c ho2) (rg1_n ho2) hi ?_
    obtain ⟨hi, h⟩ := h
    refine B_ti 2 dX1_run_35 (by decide) hi rfl ?_
    refine B_istore (lv1 := [(6, .int ((stL 2).getD (M1 (o2 + 1) v3.toNatClampNeg).toNatClampNeg 0)), (5, .int ((stL 1).getD (M1 (o2 + 1) v3.toNatClampNeg).toNatClampNeg 0)), (0, .ref 46), (1, .int v1), (2, .ref o2), (3, .int v3), (4, .int v4)]) dX1_run_36 (by decide) rfl ?_
    refine B_iload_n dX1_run_38 3 rfl ?_
    by_cases hc0 : v1 = 10
    · have h := h.1 hc0
      refine B_tabIn (tgt := 112) dX1_run_39 (by rw [hc0]; decide) (by rw [hc0]; decide) (by rw [hc0]; rfl) (by decide) ?_
      refine B_aload_n dX1_run_112 4 rfl ?_
      refine B_getf (T := TX4) (N := 5) (v := .ref (o2 + 2)) o2 1 dX1_run_113 inX1_run_4 lkX1_run_f38 (rg_lt ho2) (rg_c9 ho2) (rg_cl ho2) (rg_nf ho2) (by decide) (rg_v1 ho2) ?_
      refine B_iload_n dX1_run_116 5 rfl ?_
      obtain ⟨hi, h⟩ := h
      refine B_iald (n := 7) (o2 + 2) dX1_run_117 (rg2_lt ho2) (rg2_c ho2) (rg2_n ho2) hi ?_
      exact B_iret dX1_run_118 h
    ·
      by_cases hc1 : v1 = 11
      · have h := h.2.1 hc1
        refine B_tabIn (tgt := 119) dX1_run_39 (by rw [hc1]; decide) (by rw [hc1]; decide) (by rw [hc1]; rfl) (by decide) ?_
        refine B_aload_n dX1_run_119 2 rfl ?_
        refine B_bipush (v := 10) dX1_run_120 (by decide) ?_
        refine B_aload_n dX1_run_122 4 rfl ?_
        refine B_iload_n dX1_run_123 5 rfl ?_
        refine B_iload dX1_run_124 6 rfl ?_
        refine B_iconst (v := 1) dX1_run_126 (by decide) ?_
        refine B_iadd dX1_run_127 ?_
        refine B_callV (st := []) 46 [.int (10 : Int32), .ref o2, .int v3, .int (v4 + (1 : Int32))] dX1_run_128 gX1_run_X1_run rfl hyX1_run (Nat.le_of_ble_eq_true rfl) (Nat.le_of_ble_eq_true rfl) TX1 2 rfl (Nat.le_of_ble_eq_true rfl) (Nat.le_of_ble_eq_true rfl) rfl (Ct.mono h (Nat.le_refl _) (fun r2 M2 h => ?_))
        refine B_aload_n dX1_run_131 2 rfl ?_
        refine B_iload dX1_run_132 0 rfl ?_
        refine B_aload_n dX1_run_134 4 rfl ?_
        refine B_iload_n dX1_run_135 5 rfl ?_
        refine B_iload dX1_run_136 6 rfl ?_
        refine B_iconst (v := 1) dX1_run_138 (by decide) ?_
        refine B_iadd dX1_run_139 ?_
        refine B_callV (st := [.int r2]) 46 [.int ((stL 2).getD (M1 (o2 + 1) v3.toNatClampNeg).toNatClampNeg 0), .ref o2, .int v3, .int (v4 + (1 : Int32))] dX1_run_140 gX1_run_X1_run rfl hyX1_run (Nat.le_of_ble_eq_true rfl) (Nat.le_of_ble_eq_true rfl) TX1 2 rfl (Nat.le_of_ble_eq_true rfl) (Nat.le_of_ble_eq_true rfl) rfl (Ct.mono h (Nat.le_refl _) (fun r3 M3 h => ?_))
        refine B_iadd dX1_run_143 ?_
        exact B_iret dX1_run_144 h
      ·
        by_cases hc2 : v1 = 12
        · have h := h.2.2.1 hc2
          refine B_tabIn (tgt := 145) dX1_run_39 (by rw [hc2]; decide) (by rw [hc2]; decide) (by rw [hc2]; rfl) (by decide) ?_
          refine B_aload_n dX1_run_145 2 rfl ?_
          refine B_bipush (v := 11) dX1_run_146 (by decide) ?_
          refine B_aload_n dX1_run_148 4 rfl ?_
          refine B_iload_n dX1_run_149 5 rfl ?_
          refine B_iload dX1_run_150 6 rfl ?_
          refine B_iconst (v := 1) dX1_run_152 (by decide) ?_
          refine B_iadd dX1_run_153 ?_
          refine B_callV (st := []) 46 [.int (11 : Int32), .ref o2, .int v3, .int (v4 + (1 : Int32))] dX1_run_154 gX1_run_X1_run rfl hyX1_run (Nat.le_of_ble_eq_true rfl) (Nat.le_of_ble_eq_true rfl) TX1 2 rfl (Nat.le_of_ble_eq_true rfl) (Nat.le_of_ble_eq_true rfl) rfl (Ct.mono h (Nat.le_refl _) (fun r4 M4 h => ?_))
          refine B_ineg dX1_run_157 ?_
          exact B_iret dX1_run_158 h
        ·
          by_cases hc3 : v1 = 13
          · have h := h.2.2.2.1 hc3
            refine B_tabIn (tgt := 159) dX1_run_39 (by rw [hc3]; decide) (by rw [hc3]; decide) (by rw [hc3]; rfl) (by decide) ?_
            refine B_aload_n dX1_run_159 2 rfl ?_
            refine B_bipush (v := 10) dX1_run_160 (by decide) ?_
            refine B_aload_n dX1_run_162 4 rfl ?_
            refine B_iload_n dX1_run_163 5 rfl ?_
            refine B_iload dX1_run_164 6 rfl ?_
            refine B_iconst (v := 1) dX1_run_166 (by decide) ?_
            refine B_iadd dX1_run_167 ?_
            refine B_callV (st := []) 46 [.int (10 : Int32), .ref o2, .int v3, .int (v4 + (1 : Int32))] dX1_run_168 gX1_run_X1_run rfl hyX1_run (Nat.le_of_ble_eq_true rfl) (Nat.le_of_ble_eq_true rfl) TX1 2 rfl (Nat.le_of_ble_eq_true rfl) (Nat.le_of_ble_eq_true rfl) rfl (Ct.mono h (Nat.le_refl _) (fun r5 M5 h => ?_))
            refine B_bipush (v := 100) dX1_run_171 (by decide) ?_
            refine B_isub dX1_run_173 ?_
            exact B_iret dX1_run_174 h
          ·
            by_cases hc4 : v1 = 14
            · have h := h.2.2.2.2.1 hc4
              refine B_tabIn (tgt := 175) dX1_run_39 (by rw [hc4]; decide) (by rw [hc4]; decide) (by rw [hc4]; rfl) (by decide) ?_
              refine B_iconst (v := 2) dX1_run_175 (by decide) ?_
              refine B_aload_n dX1_run_176 2 rfl ?_
              refine B_bipush (v := 13) dX1_run_177 (by decide) ?_
              refine B_aload_n dX1_run_179 4 rfl ?_
              refine B_iload_n dX1_run_180 5 rfl ?_
              refine B_iload dX1_run_181 6 rfl ?_
              refine B_iconst (v := 1) dX1_run_183 (by decide) ?_
              refine B_iadd dX1_run_184 ?_
              refine B_callV (st := [.int (2 : Int32)]) 46 [.int (13 : Int32), .ref o2, .int v3, .int (v4 + (1 : Int32))] dX1_run_185 gX1_run_X1_run rfl hyX1_run (Nat.le_of_ble_eq_true rfl) (Nat.le_of_ble_eq_true rfl) TX1 2 rfl (Nat.le_of_ble_eq_true rfl) (Nat.le_of_ble_eq_true rfl) rfl (Ct.mono h (Nat.le_refl _) (fun r6 M6 h => ?_))
              refine B_imul dX1_run_188 ?_
              exact B_iret dX1_run_189 h
            ·
              by_cases hc5 : v1 = 20
              · have h := h.2.2.2.2.2.1 hc5
                refine B_tabIn (tgt := 190) dX1_run_39 (by rw [hc5]; decide) (by rw [hc5]; decide) (by rw [hc5]; rfl) (by decide) ?_
                refine B_iload_n dX1_run_190 5 rfl ?_
                exact B_iret dX1_run_191 h
              ·
                by_cases hc6 : v1 = 21
                · have h := h.2.2.2.2.2.2.1 hc6
                  refine B_tabIn (tgt := 192) dX1_run_39 (by rw [hc6]; decide) (by rw [hc6]; decide) (by rw [hc6]; rfl) (by decide) ?_
                  refine B_aload_n dX1_run_192 2 rfl ?_
                  refine B_bipush (v := 20) dX1_run_193 (by decide) ?_
                  refine B_aload_n dX1_run_195 4 rfl ?_
                  refine B_iload_n dX1_run_196 5 rfl ?_
                  refine B_iload dX1_run_197 6 rfl ?_
                  refine B_iconst (v := 1) dX1_run_199 (by decide) ?_
                  refine B_iadd dX1_run_200 ?_
                  refine B_callV (st := []) 46 [.int (20 : Int32), .ref o2, .int v3, .int (v4 + (1 : Int32))] dX1_run_201 gX1_run_X1_run rfl hyX1_run (Nat.le_of_ble_eq_true rfl) (Nat.le_of_ble_eq_true rfl) TX1 2 rfl (Nat.le_of_ble_eq_true rfl) (Nat.le_of_ble_eq_true rfl) rfl (Ct.mono h (Nat.le_refl _) (fun r7 M7 h => ?_))
                  refine B_aload_n dX1_run_204 4 rfl ?_
                  refine B_callV (st := [.int r7]) o2 [] dX1_run_205 gX1_run_X4_withNone rfl hyX4_withNone (rg_lt ho2) (rg_c9 ho2) TX4 5 (rg_cl ho2) (Nat.le_of_ble_eq_true rfl) (Nat.le_of_ble_eq_true rfl) rfl (Ct.mono h (Nat.le_refl _) (fun r8 M8 h => ?_))
                  refine B_iadd dX1_run_208 ?_
                  exact B_iret dX1_run_209 h
                ·
                  by_cases hc7 : v1 = 22
                  · have h := h.2.2.2.2.2.2.2.1 hc7
                    refine B_tabIn (tgt := 210) dX1_run_39 (by rw [hc7]; decide) (by rw [hc7]; decide) (by rw [hc7]; rfl) (by decide) ?_
                    refine B_aload_n dX1_run_210 2 rfl ?_
                    refine B_bipush (v := 21) dX1_run_211 (by decide) ?_
                    refine B_aload_n dX1_run_213 4 rfl ?_
                    refine B_iload_n dX1_run_214 5 rfl ?_
                    refine B_iload dX1_run_215 6 rfl ?_
                    refine B_iconst (v := 1) dX1_run_217 (by decide) ?_
                    refine B_iadd dX1_run_218 ?_
                    refine B_callV (st := []) 46 [.int (21 : Int32), .ref o2, .int v3, .int (v4 + (1 : Int32))] dX1_run_219 gX1_run_X1_run rfl hyX1_run (Nat.le_of_ble_eq_true rfl) (Nat.le_of_ble_eq_true rfl) TX1 2 rfl (Nat.le_of_ble_eq_true rfl) (Nat.le_of_ble_eq_true rfl) rfl (Ct.mono h (Nat.le_refl _) (fun r9 M9 h => ?_))
                    refine B_sipush (v := 1000) dX1_run_222 (by decide) ?_
                    refine B_isub dX1_run_225 ?_
                    exact B_iret dX1_run_226 h
                  ·
                    by_cases hc8 : v1 = 23
                    · have h := h.2.2.2.2.2.2.2.2.1 hc8
                      refine B_tabIn (tgt := 227) dX1_run_39 (by rw [hc8]; decide) (by rw [hc8]; decide) (by rw [hc8]; rfl) (by decide) ?_
                      refine B_aload_n dX1_run_227 2 rfl ?_
                      refine B_bipush (v := 20) dX1_run_228 (by decide) ?_
                      refine B_aload_n dX1_run_230 4 rfl ?_
                      refine B_iload_n dX1_run_231 5 rfl ?_
                      refine B_iload dX1_run_232 6 rfl ?_
                      refine B_iconst (v := 1) dX1_run_234 (by decide) ?_
                      refine B_iadd dX1_run_235 ?_
                      refine B_callV (st := []) 46 [.int (20 : Int32), .ref o2, .int v3, .int (v4 + (1 : Int32))] dX1_run_236 gX1_run_X1_run rfl hyX1_run (Nat.le_of_ble_eq_true rfl) (Nat.le_of_ble_eq_true rfl) TX1 2 rfl (Nat.le_of_ble_eq_true rfl) (Nat.le_of_ble_eq_true rfl) rfl (Ct.mono h (Nat.le_refl _) (fun r10 M10 h => ?_))
                      refine B_aload_n dX1_run_239 2 rfl ?_
                      refine B_iload dX1_run_240 1 rfl ?_
                      refine B_aload_n dX1_run_242 4 rfl ?_
                      refine B_iload_n dX1_run_243 5 rfl ?_
                      refine B_iload dX1_run_244 6 rfl ?_
                      refine B_iconst (v := 1) dX1_run_246 (by decide) ?_
                      refine B_iadd dX1_run_247 ?_
                      refine B_callV (st := [.int r10]) 46 [.int ((stL 1).getD (M1 (o2 + 1) v3.toNatClampNeg).toNatClampNeg 0), .ref o2, .int v3, .int (v4 + (1 : Int32))] dX1_run_248 gX1_run_X1_run rfl hyX1_run (Nat.le_of_ble_eq_true rfl) (Nat.le_of_ble_eq_true rfl) TX1 2 rfl (Nat.le_of_ble_eq_true rfl) (Nat.le_of_ble_eq_true rfl) rfl (Ct.mono h (Nat.le_refl _) (fun r11 M11 h => ?_))
                      refine B_isub dX1_run_251 ?_
                      exact B_iret dX1_run_252 h
                    ·
                      by_cases hc9 : v1 = 24
                      · have h := h.2.2.2.2.2.2.2.2.2.1 hc9
                        refine B_tabIn (tgt := 253) dX1_run_39 (by rw [hc9]; decide) (by rw [hc9]; decide) (by rw [hc9]; rfl) (by decide) ?_
                        refine B_iconst (v := 2) dX1_run_253 (by decide) ?_
                        refine B_aload_n dX1_run_254 2 rfl ?_
                        refine B_bipush (v := 21) dX1_run_255 (by decide) ?_
                        refine B_aload_n dX1_run_257 4 rfl ?_
                        refine B_iload_n dX1_run_258 5 rfl ?_
                        refine B_iload dX1_run_259 6 rfl ?_
                        refine B_iconst (v := 1) dX1_run_261 (by decide) ?_
                        refine B_iadd dX1_run_262 ?_
                        refine B_callV (st := [.int (2 : Int32)]) 46 [.int (21 : Int32), .ref o2, .int v3, .int (v4 + (1 : Int32))] dX1_run_263 gX1_run_X1_run rfl hyX1_run (Nat.le_of_ble_eq_true rfl) (Nat.le_of_ble_eq_true rfl) TX1 2 rfl (Nat.le_of_ble_eq_true rfl) (Nat.le_of_ble_eq_true rfl) rfl (Ct.mono h (Nat.le_refl _) (fun r12 M12 h => ?_))
                        refine B_imul dX1_run_266 ?_
                        exact B_iret dX1_run_267 h
                      ·
                        have h := h.2.2.2.2.2.2.2.2.2.2 ⟨hc0, hc1, hc2, hc3, hc4, hc5, hc6, hc7, hc8, hc9⟩
                        by_cases hd0 : v1 = 15
                        · refine B_tabIn (tgt := 268) dX1_run_39 (by rw [hd0]; decide) (by rw [hd0]; decide) (by rw [hd0]; rfl) (by decide) ?_
                          refine B_iconst (v := 0) dX1_run_268 (by decide) ?_
                          exact B_iret dX1_run_269 h
                        ·
                          by_cases hd1 : v1 = 16
                          · refine B_tabIn (tgt := 268) dX1_run_39 (by rw [hd1]; decide) (by rw [hd1]; decide) (by rw [hd1]; rfl) (by decide) ?_
                            refine B_iconst (v := 0) dX1_run_268 (by decide) ?_
                            exact B_iret dX1_run_269 h
                          ·
                            by_cases hd2 : v1 = 17
                            · refine B_tabIn (tgt := 268) dX1_run_39 (by rw [hd2]; decide) (by rw [hd2]; decide) (by rw [hd2]; rfl) (by decide) ?_
                              refine B_iconst (v := 0) dX1_run_268 (by decide) ?_
                              exact B_iret dX1_run_269 h
                            ·
                              by_cases hd3 : v1 = 18
                              · refine B_tabIn (tgt := 268) dX1_run_39 (by rw [hd3]; decide) (by rw [hd3]; decide) (by rw [hd3]; rfl) (by decide) ?_
                                refine B_iconst (v := 0) dX1_run_268 (by decide) ?_
                                exact B_iret dX1_run_269 h
                              ·
                                by_cases hd4 : v1 = 19
                                · refine B_tabIn (tgt := 268) dX1_run_39 (by rw [hd4]; decide) (by rw [hd4]; decide) (by rw [hd4]; rfl) (by decide) ?_
                                  refine B_iconst (v := 0) dX1_run_268 (by decide) ?_
                                  exact B_iret dX1_run_269 h
                                ·
                                  refine B_tabOut (tgt := 268) dX1_run_39 (by have e0 := lv_neT hc0 (a := 10) (by decide); have e1 := lv_neT hc1 (a := 11) (by decide); have e2 := lv_neT hc2 (a := 12) (by decide); have e3 := lv_neT hc3 (a := 13) (by decide); have e4 := lv_neT hc4 (a := 14) (by decide); have e5 := lv_neT hc5 (a := 20) (by decide); have e6 := lv_neT hc6 (a := 21) (by decide); have e7 := lv_neT hc7 (a := 22) (by decide); have e8 := lv_neT hc8 (a := 23) (by decide); have e9 := lv_neT hc9 (a := 24) (by decide); have f0 := lv_neT hd0 (a := 15) (by decide); have f1 := lv_neT hd1 (a := 16) (by decide); have f2 := lv_neT hd2 (a := 17) (by decide); have f3 := lv_neT hd3 (a := 18) (by decide); have f4 := lv_neT hd4 (a := 19) (by decide); omega) (by decide) ?_
                                  refine B_iconst (v := 0) dX1_run_268 (by decide) ?_
                                  exact B_iret dX1_run_269 h
  · have h := h.2 hc
    refine B_iconst (v := 0) dX1_run_7 (by decide) ?_
    exact B_iret dX1_run_8 h
set_option maxHeartbeats 4000000 in
set_option maxRecDepth 100000 in
theorem rX1_leave (d : Nat) (v1 : Int32) (M : Mm) (Q : Int32 → Mm → Prop)
    (h : (((16 : Int32) ≤ (M 46 1) → Q 0 M) ∧ (¬ (16 : Int32) ≤ (M 46 1) → vp_in (M 46 1) 16 ∧ (∀ M1 : Mm, M1 = (upd2 M 47 (M 46 1).toNatClampNeg v1) → (∀ M2 : Mm, M2 = (upd2 M1 46 1 ((M1 46 1) + (1 : Int32))) → Q 0 M2))))) : kX1_leave d v1 M Q := by
  refine Ct.of (cc := cX1_leave) (nL := 2) (by decide) rfl (Nat.le_of_ble_eq_true rfl) ?_
  show BX1_leave d 0 [(0, .ref 46), (1, .int v1)] [] M Q
  refine B_aload_n dX1_leave_0 0 rfl ?_
  refine B_getf (T := TX1) (N := 2) (v := .int (M 46 1)) 46 1 dX1_leave_1 inX1_leave_1 lkX1_leave_f15 (Nat.le_of_ble_eq_true rfl) (Nat.le_of_ble_eq_true rfl) rfl rfl (by decide) rfl ?_
  refine B_bipush (v := 16) dX1_leave_4 (by decide) ?_
  refine B_icmp_ge (tgt := 29) dX1_leave_6 (by decide) (fun hc => ?_) (fun hc => ?_)
  · have h := h.1 hc
    exact B_vret dX1_leave_29 h
  · have h := h.2 hc
    refine B_aload_n dX1_leave_9 0 rfl ?_
    refine B_getf (T := TX1) (N := 2) (v := .ref 47) 46 0 dX1_leave_10 inX1_leave_1 lkX1_leave_f9 (Nat.le_of_ble_eq_true rfl) (Nat.le_of_ble_eq_true rfl) rfl rfl (by decide) rfl ?_
    refine B_aload_n dX1_leave_13 0 rfl ?_
    refine B_getf (T := TX1) (N := 2) (v := .int (M 46 1)) 46 1 dX1_leave_14 inX1_leave_1 lkX1_leave_f15 (Nat.le_of_ble_eq_true rfl) (Nat.le_of_ble_eq_true rfl) rfl rfl (by decide) rfl ?_
    refine B_iload_n dX1_leave_17 1 rfl ?_
    obtain ⟨hi, h⟩ := h
    refine B_iast (n := 16) 47 dX1_leave_18 (Nat.le_of_ble_eq_true rfl) rfl rfl hi ?_
    have h := h _ rfl
    generalize (upd2 M 47 (M 46 1).toNatClampNeg v1) = M1 at h ⊢
    refine B_aload_n dX1_leave_19 0 rfl ?_
    refine B_dup dX1_leave_20 rfl ?_
    refine B_getf (T := TX1) (N := 2) (v := .int (M1 46 1)) 46 1 dX1_leave_21 inX1_leave_1 lkX1_leave_f15 (Nat.le_of_ble_eq_true rfl) (Nat.le_of_ble_eq_true rfl) rfl rfl (by decide) rfl ?_
    refine B_iconst (v := 1) dX1_leave_24 (by decide) ?_
    refine B_iadd dX1_leave_25 ?_
    refine B_putf (T := TX1) (N := 2) 46 1 tyX1 tyX1_ok nmX1 dX1_leave_26 inX1_leave_1 lkX1_leave_f15 (Nat.le_of_ble_eq_true rfl) (Nat.le_of_ble_eq_true rfl) rfl rfl (by decide) rfl rfl (by decide +kernel) ?_
    have h := h _ rfl
    generalize (upd2 M1 46 1 ((M1 46 1) + (1 : Int32))) = M2 at h ⊢
    exact B_vret dX1_leave_29 h
set_option maxHeartbeats 4000000 in
set_option maxRecDepth 100000 in
theorem rX2_take (d : Nat) (o1 : Nat) (ho1 : isRg o1) (o2 : Nat) (ho2 : isSh o2) (v3 : Int32) (M : Mm) (Q : Int32 → Mm → Prop)
    (h : BX2_take (d + 1) 6 [(0, .ref 40), (1, .ref o1), (2, .ref o2), (3, .int v3), (4, .int (0 : Int32)), (5, .int (0 : Int32))] [] M Q) : kX2_take (d + 1) o1 o2 v3 M Q := by
  refine Ct.of (cc := cX2_take) (nL := 7) (by decide) rfl (Nat.le_of_ble_eq_true rfl) ?_
  show BX2_take (d + 1) 0 [(0, .ref 40), (1, .ref o1), (2, .ref o2), (3, .int v3)] [] M Q
  refine B_iconst (v := 0) dX2_take_0 (by decide) ?_
  refine B_istore (lv1 := [(4, .int (0 : Int32)), (0, .ref 40), (1, .ref o1), (2, .ref o2), (3, .int v3)]) dX2_take_1 (by decide) rfl ?_
  refine B_iconst (v := 0) dX2_take_3 (by decide) ?_
  refine B_istore (lv1 := [(5, .int (0 : Int32)), (4, .int (0 : Int32)), (0, .ref 40), (1, .ref o1), (2, .ref o2), (3, .int v3)]) dX2_take_4 (by decide) rfl ?_
  refine B_weak [2, 3, 4, 5, 1, 0] rfl ?_
  exact h
set_option maxHeartbeats 4000000 in
set_option maxRecDepth 100000 in
theorem rX2_take_6 (d : Nat) (o1 : Nat) (ho1 : isRg o1) (o2 : Nat) (ho2 : isSh o2) (v3 : Int32) (v4 : Int32) (v5 : Int32) (M : Mm) (Q : Int32 → Mm → Prop)
    (h : (((M o1 2) ≤ v5 → BX2_take (d + 1) 40 [(0, .ref 40), (1, .ref o1), (4, .int v4), (5, .int (0 : Int32))] [] M Q) ∧ (¬ (M o1 2) ≤ v5 → vp_in (v3 + v5) 40 ∧ vp_in v5 7 ∧ (∀ M1 : Mm, M1 = (upd2 M 41 v5.toNatClampNeg (M (o2 + 1) (v3 + v5).toNatClampNeg)) → BX2_take (d + 1) 6 [(0, .ref 40), (1, .ref o1), (2, .ref o2), (3, .int v3), (4, .int v4), (5, .int (v5 + (1 : Int32)))] [] M1 Q)))) : BX2_take (d + 1) 6 [(0, .ref 40), (1, .ref o1), (2, .ref o2), (3, .int v3), (4, .int v4), (5, .int v5)] [] M Q := by
  refine B_iload dX2_take_6 5 rfl ?_
  refine B_aload_n dX2_take_8 1 rfl ?_
  refine B_getf (T := TX4) (N := 5) (v := .int (M o1 2)) o1 2 dX2_take_9 inX2_take_4 lkX2_take_f18 (rg_lt ho1) (rg_c9 ho1) (rg_cl ho1) (rg_nf ho1) (by decide) (rg_v2 ho1) ?_
  refine B_icmp_ge (tgt := 37) dX2_take_12 (by decide) (fun hc => ?_) (fun hc => ?_)
  · have h := h.1 hc
    refine B_iconst (v := 0) dX2_take_37 (by decide) ?_
    refine B_istore (lv1 := [(5, .int (0 : Int32)), (0, .ref 40), (1, .ref o1), (2, .ref o2), (3, .int v3), (4, .int v4)]) dX2_take_38 (by decide) rfl ?_
    refine B_weak [1, 2, 5, 0] rfl ?_
    exact h
  · have h := h.2 hc
    refine B_aload_n dX2_take_15 0 rfl ?_
    refine B_getf (T := TX2) (N := 2) (v := .ref 41) 40 0 dX2_take_16 inX2_take_2 lkX2_take_f9 (Nat.le_of_ble_eq_true rfl) (Nat.le_of_ble_eq_true rfl) rfl rfl (by decide) rfl ?_
    refine B_iload dX2_take_19 5 rfl ?_
    refine B_aload_n dX2_take_21 2 rfl ?_
    refine B_getf (T := TX5) (N := 3) (v := .ref (o2 + 1)) o2 0 dX2_take_22 inX2_take_5 lkX2_take_f24 (sh_lt ho2) (sh_c9 ho2) (sh_cl ho2) (sh_nf ho2) (by decide) (sh_v0 ho2) ?_
    refine B_iload_n dX2_take_25 3 rfl ?_
    refine B_iload dX2_take_26 5 rfl ?_
    refine B_iadd dX2_take_28 ?_
    obtain ⟨hi, h⟩ := h
    refine B_iald (n := 40) (o2 + 1) dX2_take_29 (sh1_lt ho2) (sh1_c ho2) (sh1_n ho2) hi ?_
    obtain ⟨hi, h⟩ := h
    refine B_iast (n := 7) 41 dX2_take_30 (Nat.le_of_ble_eq_true rfl) rfl rfl hi ?_
    have h := h _ rfl
    generalize (upd2 M 41 v5.toNatClampNeg (M (o2 + 1) (v3 + v5).toNatClampNeg)) = M1 at h ⊢
    refine B_iinc (lv1 := [(5, .int (v5 + (1 : Int32))), (0, .ref 40), (1, .ref o1), (2, .ref o2), (3, .int v3), (4, .int v4)]) (v := (v5 + (1 : Int32))) dX2_take_31 5 rfl rfl (by decide) rfl ?_
    refine B_goto (tgt := 6) dX2_take_34 (by decide) ?_
    refine B_weak [1, 2, 3, 4, 5, 0] rfl ?_
    exact h
set_option maxHeartbeats 4000000 in
set_option maxRecDepth 100000 in
theorem rX2_take_40 (d : Nat) (o1 : Nat) (ho1 : isRg o1) (v4 : Int32) (v5 : Int32) (M : Mm) (Q : Int32 → Mm → Prop)
    (h : (((M o1 2) ≤ v5 → Q (1 : Int32) M) ∧ (¬ (M o1 2) ≤ v5 → vp_in v5 7 ∧ kX2_freePlaceOf d (M (o1 + 2) v5.toNatClampNeg) v4 (M o1 2) M (fun (r1 : Int32) (M1 : Mm) => ((0 ≤ r1 → vp_in v5 7 ∧ (∀ M2 : Mm, M2 = (upd2 M1 42 v5.toNatClampNeg r1) → BX2_take (d + 1) 40 [(0, .ref 40), (1, .ref o1), (4, .int (v4 ||| (ishl (1 : Int32) r1))), (5, .int (v5 + (1 : Int32)))] [] M2 Q)) ∧ (¬ 0 ≤ r1 → Q (0 : Int32) M1)))))) : BX2_take (d + 1) 40 [(0, .ref 40), (1, .ref o1), (4, .int v4), (5, .int v5)] [] M Q := by
  refine B_iload dX2_take_40 3 rfl ?_
  refine B_aload_n dX2_take_42 1 rfl ?_
  refine B_getf (T := TX4) (N := 5) (v := .int (M o1 2)) o1 2 dX2_take_43 inX2_take_4 lkX2_take_f18 (rg_lt ho1) (rg_c9 ho1) (rg_cl ho1) (rg_nf ho1) (by decide) (rg_v2 ho1) ?_
  refine B_icmp_ge (tgt := 99) dX2_take_46 (by decide) (fun hc => ?_) (fun hc => ?_)
  · have h := h.1 hc
    refine B_iconst (v := 1) dX2_take_99 (by decide) ?_
    exact B_zret dX2_take_100 (Or.inr rfl) h
  · have h := h.2 hc
    refine B_aload_n dX2_take_49 0 rfl ?_
    refine B_aload_n dX2_take_50 1 rfl ?_
    refine B_getf (T := TX4) (N := 5) (v := .ref (o1 + 2)) o1 1 dX2_take_51 inX2_take_4 lkX2_take_f29 (rg_lt ho1) (rg_c9 ho1) (rg_cl ho1) (rg_nf ho1) (by decide) (rg_v1 ho1) ?_
    refine B_iload dX2_take_54 3 rfl ?_
    obtain ⟨hi, h⟩ := h
    refine B_iald (n := 7) (o1 + 2) dX2_take_56 (rg2_lt ho1) (rg2_c ho1) (rg2_n ho1) hi ?_
    refine B_iload dX2_take_57 2 rfl ?_
    refine B_aload_n dX2_take_59 1 rfl ?_
    refine B_getf (T := TX4) (N := 5) (v := .int (M o1 2)) o1 2 dX2_take_60 inX2_take_4 lkX2_take_f18 (rg_lt ho1) (rg_c9 ho1) (rg_cl ho1) (rg_nf ho1) (by decide) (rg_v2 ho1) ?_
    refine B_callV (st := []) 40 [.int (M (o1 + 2) v5.toNatClampNeg), .int v4, .int (M o1 2)] dX2_take_63 gX2_take_X2_freePlaceOf rfl hyX2_freePlaceOf (Nat.le_of_ble_eq_true rfl) (Nat.le_of_ble_eq_true rfl) TX2 2 rfl (Nat.le_of_ble_eq_true rfl) (Nat.le_of_ble_eq_true rfl) rfl (Ct.mono h (Nat.le_refl _) (fun r1 M1 h => ?_))
    refine B_istore (lv1 := [(6, .int r1), (0, .ref 40), (1, .ref o1), (4, .int v4), (5, .int v5)]) dX2_take_66 (by decide) rfl ?_
    refine B_iload dX2_take_68 0 rfl ?_
    refine B_if_ge (tgt := 75) dX2_take_70 (by decide) (fun hc => ?_) (fun hc => ?_)
    · have h := h.1 hc
      refine B_iload dX2_take_75 3 rfl ?_
      refine B_iconst (v := 1) dX2_take_77 (by decide) ?_
      refine B_iload dX2_take_78 0 rfl ?_
      refine B_ishl dX2_take_80 ?_
      refine B_ior dX2_take_81 ?_
      refine B_istore (lv1 := [(4, .int (v4 ||| (ishl (1 : Int32) r1))), (6, .int r1), (0, .ref 40), (1, .ref o1), (5, .int v5)]) dX2_take_82 (by decide) rfl ?_
      refine B_aload_n dX2_take_84 2 rfl ?_
      refine B_getf (T := TX2) (N := 2) (v := .ref 42) 40 1 dX2_take_85 inX2_take_2 lkX2_take_f15 (Nat.le_of_ble_eq_true rfl) (Nat.le_of_ble_eq_true rfl) rfl rfl (by decide) rfl ?_
      refine B_iload dX2_take_88 4 rfl ?_
      refine B_iload dX2_take_90 1 rfl ?_
      obtain ⟨hi, h⟩ := h
      refine B_iast (n := 7) 42 dX2_take_92 (Nat.le_of_ble_eq_true rfl) rfl rfl hi ?_
      have h := h _ rfl
      generalize (upd2 M1 42 v5.toNatClampNeg r1) = M2 at h ⊢
      refine B_iinc (lv1 := [(5, .int (v5 + (1 : Int32))), (4, .int (v4 ||| (ishl (1 : Int32) r1))), (6, .int r1), (0, .ref 40), (1, .ref o1)]) (v := (v5 + (1 : Int32))) dX2_take_93 4 rfl rfl (by decide) rfl ?_
      refine B_goto (tgt := 40) dX2_take_96 (by decide) ?_
      refine B_weak [3, 4, 1, 0] rfl ?_
      exact h
    · have h := h.2 hc
      refine B_iconst (v := 0) dX2_take_73 (by decide) ?_
      exact B_zret dX2_take_74 (Or.inl rfl) h
set_option maxHeartbeats 4000000 in
set_option maxRecDepth 100000 in
theorem rX2_freePlaceOf (d : Nat) (v1 : Int32) (v2 : Int32) (v3 : Int32) (M : Mm) (Q : Int32 → Mm → Prop)
    (h : BX2_freePlaceOf d 3 [(0, .ref 40), (1, .int v1), (2, .int v2), (3, .int v3), (4, .int (0 : Int32))] [] M Q) : kX2_freePlaceOf d v1 v2 v3 M Q := by
  refine Ct.of (cc := cX2_freePlaceOf) (nL := 5) (by decide) rfl (Nat.le_of_ble_eq_true rfl) ?_
  show BX2_freePlaceOf d 0 [(0, .ref 40), (1, .int v1), (2, .int v2), (3, .int v3)] [] M Q
  refine B_iconst (v := 0) dX2_freePlaceOf_0 (by decide) ?_
  refine B_istore (lv1 := [(4, .int (0 : Int32)), (0, .ref 40), (1, .int v1), (2, .int v2), (3, .int v3)]) dX2_freePlaceOf_1 (by decide) rfl ?_
  refine B_weak [1, 2, 3, 4, 0] rfl ?_
  exact h
set_option maxHeartbeats 4000000 in
set_option maxRecDepth 100000 in
theorem rX2_freePlaceOf_3 (d : Nat) (v1 : Int32) (v2 : Int32) (v3 : Int32) (v4 : Int32) (M : Mm) (Q : Int32 → Mm → Prop)
    (h : ((v3 ≤ v4 → Q (-1 : Int32) M) ∧ (¬ v3 ≤ v4 → vp_in v4 7 ∧ ((¬ (M 41 v4.toNatClampNeg) = v1 → BX2_freePlaceOf d 3 [(0, .ref 40), (1, .int v1), (2, .int v2), (3, .int v3), (4, .int (v4 + (1 : Int32)))] [] M Q) ∧ ((M 41 v4.toNatClampNeg) = v1 → ((¬ ((ishr v2 v4) &&& (1 : Int32)) = 0 → BX2_freePlaceOf d 3 [(0, .ref 40), (1, .int v1), (2, .int v2), (3, .int v3), (4, .int (v4 + (1 : Int32)))] [] M Q) ∧ (((ishr v2 v4) &&& (1 : Int32)) = 0 → Q v4 M))))))) : BX2_freePlaceOf d 3 [(0, .ref 40), (1, .int v1), (2, .int v2), (3, .int v3), (4, .int v4)] [] M Q := by
  refine B_iload dX2_freePlaceOf_3 4 rfl ?_
  refine B_iload_n dX2_freePlaceOf_5 3 rfl ?_
  refine B_icmp_ge (tgt := 38) dX2_freePlaceOf_6 (by decide) (fun hc => ?_) (fun hc => ?_)
  · have h := h.1 hc
    refine B_iconst (v := -1) dX2_freePlaceOf_38 (by decide) ?_
    exact B_iret dX2_freePlaceOf_39 h
  · have h := h.2 hc
    refine B_aload_n dX2_freePlaceOf_9 0 rfl ?_
    refine B_getf (T := TX2) (N := 2) (v := .ref 41) 40 0 dX2_freePlaceOf_10 inX2_freePlaceOf_2 lkX2_freePlaceOf_f9 (Nat.le_of_ble_eq_true rfl) (Nat.le_of_ble_eq_true rfl) rfl rfl (by decide) rfl ?_
    refine B_iload dX2_freePlaceOf_13 4 rfl ?_
    obtain ⟨hi, h⟩ := h
    refine B_iald (n := 7) 41 dX2_freePlaceOf_15 (Nat.le_of_ble_eq_true rfl) rfl rfl hi ?_
    refine B_iload_n dX2_freePlaceOf_16 1 rfl ?_
    refine B_icmp_ne (tgt := 32) dX2_freePlaceOf_17 (by decide) (fun hc => ?_) (fun hc => ?_)
    · have h := h.1 hc
      refine B_iinc (lv1 := [(4, .int (v4 + (1 : Int32))), (0, .ref 40), (1, .int v1), (2, .int v2), (3, .int v3)]) (v := (v4 + (1 : Int32))) dX2_freePlaceOf_32 4 rfl rfl (by decide) rfl ?_
      refine B_goto (tgt := 3) dX2_freePlaceOf_35 (by decide) ?_
      refine B_weak [1, 2, 3, 4, 0] rfl ?_
      exact h
    · have h := h.2 hc
      refine B_iload_n dX2_freePlaceOf_20 2 rfl ?_
      refine B_iload dX2_freePlaceOf_21 4 rfl ?_
      refine B_ishr dX2_freePlaceOf_23 ?_
      refine B_iconst (v := 1) dX2_freePlaceOf_24 (by decide) ?_
      refine B_iand dX2_freePlaceOf_25 ?_
      refine B_if_ne (tgt := 32) dX2_freePlaceOf_26 (by decide) (fun hc => ?_) (fun hc => ?_)
      · have h := h.1 hc
        refine B_iinc (lv1 := [(4, .int (v4 + (1 : Int32))), (0, .ref 40), (1, .int v1), (2, .int v2), (3, .int v3)]) (v := (v4 + (1 : Int32))) dX2_freePlaceOf_32 4 rfl rfl (by decide) rfl ?_
        refine B_goto (tgt := 3) dX2_freePlaceOf_35 (by decide) ?_
        refine B_weak [1, 2, 3, 4, 0] rfl ?_
        exact h
      · have h := h.2 hc
        refine B_iload dX2_freePlaceOf_29 4 rfl ?_
        exact B_iret dX2_freePlaceOf_31 h
set_option maxHeartbeats 4000000 in
set_option maxRecDepth 100000 in
theorem rX2_fewestChanges (d : Nat) (o1 : Nat) (ho1 : isRg o1) (M : Mm) (Q : Int32 → Mm → Prop)
    (h : kX4_withNone d o1 M (fun (r1 : Int32) (M1 : Mm) => kX2_cyclesWithoutNone d o1 M1 (fun (r2 : Int32) (M2 : Mm) => Q (((M o1 2) - r1) - r2) M2))) : kX2_fewestChanges (d + 1) o1 M Q := by
  refine Ct.of (cc := cX2_fewestChanges) (nL := 2) (by decide) rfl (Nat.le_of_ble_eq_true rfl) ?_
  show BX2_fewestChanges (d + 1) 0 [(0, .ref 40), (1, .ref o1)] [] M Q
  refine B_aload_n dX2_fewestChanges_0 1 rfl ?_
  refine B_getf (T := TX4) (N := 5) (v := .int (M o1 2)) o1 2 dX2_fewestChanges_1 inX2_fewestChanges_4 lkX2_fewestChanges_f18 (rg_lt ho1) (rg_c9 ho1) (rg_cl ho1) (rg_nf ho1) (by decide) (rg_v2 ho1) ?_
  refine B_aload_n dX2_fewestChanges_4 1 rfl ?_
  refine B_callV (st := [.int (M o1 2)]) o1 [] dX2_fewestChanges_5 gX2_fewestChanges_X4_withNone rfl hyX4_withNone (rg_lt ho1) (rg_c9 ho1) TX4 5 (rg_cl ho1) (Nat.le_of_ble_eq_true rfl) (Nat.le_of_ble_eq_true rfl) rfl (Ct.mono h (Nat.le_refl _) (fun r1 M1 h => ?_))
  refine B_isub dX2_fewestChanges_8 ?_
  refine B_aload_n dX2_fewestChanges_9 0 rfl ?_
  refine B_aload_n dX2_fewestChanges_10 1 rfl ?_
  refine B_callV (st := [.int ((M o1 2) - r1)]) 40 [.ref o1] dX2_fewestChanges_11 gX2_fewestChanges_X2_cyclesWithoutNone rfl hyX2_cyclesWithoutNone (Nat.le_of_ble_eq_true rfl) (Nat.le_of_ble_eq_true rfl) TX2 2 rfl (Nat.le_of_ble_eq_true rfl) (Nat.le_of_ble_eq_true rfl) rfl (Ct.mono h (Nat.le_refl _) (fun r2 M2 h => ?_))
  refine B_isub dX2_fewestChanges_14 ?_
  exact B_iret dX2_fewestChanges_15 h
set_option maxHeartbeats 4000000 in
set_option maxRecDepth 100000 in
theorem rX2_evenOrOdd (d : Nat) (o1 : Nat) (ho1 : isRg o1) (M : Mm) (Q : Int32 → Mm → Prop)
    (h : kX4_withNone d o1 M (fun (r1 : Int32) (M1 : Mm) => ((r1 < (2 : Int32) → kX2_fewestChanges d o1 M1 (fun (r2 : Int32) (M2 : Mm) => ((¬ (irem r2 (2 : Int32)) = 0 → Q (2 : Int32) M2) ∧ ((irem r2 (2 : Int32)) = 0 → Q (1 : Int32) M2)))) ∧ (¬ r1 < (2 : Int32) → Q (3 : Int32) M1)))) : kX2_evenOrOdd (d + 1) o1 M Q := by
  refine Ct.of (cc := cX2_evenOrOdd) (nL := 2) (by decide) rfl (Nat.le_of_ble_eq_true rfl) ?_
  show BX2_evenOrOdd (d + 1) 0 [(0, .ref 40), (1, .ref o1)] [] M Q
  refine B_aload_n dX2_evenOrOdd_0 1 rfl ?_
  refine B_callV (st := []) o1 [] dX2_evenOrOdd_1 gX2_evenOrOdd_X4_withNone rfl hyX4_withNone (rg_lt ho1) (rg_c9 ho1) TX4 5 (rg_cl ho1) (Nat.le_of_ble_eq_true rfl) (Nat.le_of_ble_eq_true rfl) rfl (Ct.mono h (Nat.le_refl _) (fun r1 M1 h => ?_))
  refine B_iconst (v := 2) dX2_evenOrOdd_4 (by decide) ?_
  refine B_icmp_lt (tgt := 10) dX2_evenOrOdd_5 (by decide) (fun hc => ?_) (fun hc => ?_)
  · have h := h.1 hc
    refine B_aload_n dX2_evenOrOdd_10 0 rfl ?_
    refine B_aload_n dX2_evenOrOdd_11 1 rfl ?_
    refine B_callV (st := []) 40 [.ref o1] dX2_evenOrOdd_12 gX2_evenOrOdd_X2_fewestChanges rfl hyX2_fewestChanges (Nat.le_of_ble_eq_true rfl) (Nat.le_of_ble_eq_true rfl) TX2 2 rfl (Nat.le_of_ble_eq_true rfl) (Nat.le_of_ble_eq_true rfl) rfl (Ct.mono h (Nat.le_refl _) (fun r2 M2 h => ?_))
    refine B_iconst (v := 2) dX2_evenOrOdd_15 (by decide) ?_
    refine B_irem dX2_evenOrOdd_16 (by decide) ?_
    refine B_if_ne (tgt := 24) dX2_evenOrOdd_17 (by decide) (fun hc => ?_) (fun hc => ?_)
    · have h := h.1 hc
      refine B_iconst (v := 2) dX2_evenOrOdd_24 (by decide) ?_
      exact B_iret dX2_evenOrOdd_25 h
    · have h := h.2 hc
      refine B_iconst (v := 1) dX2_evenOrOdd_20 (by decide) ?_
      refine B_goto (tgt := 25) dX2_evenOrOdd_21 (by decide) ?_
      exact B_iret dX2_evenOrOdd_25 h
  · have h := h.2 hc
    refine B_iconst (v := 3) dX2_evenOrOdd_8 (by decide) ?_
    exact B_iret dX2_evenOrOdd_9 h
set_option maxHeartbeats 4000000 in
set_option maxRecDepth 100000 in
theorem rX2_cyclesWithoutNone (d : Nat) (o1 : Nat) (ho1 : isRg o1) (M : Mm) (Q : Int32 → Mm → Prop)
    (h : BX2_cyclesWithoutNone d 7 [(0, .ref 40), (1, .ref o1), (2, .int (0 : Int32)), (3, .int (0 : Int32)), (4, .int (0 : Int32))] [] M Q) : kX2_cyclesWithoutNone d o1 M Q := by
  refine Ct.of (cc := cX2_cyclesWithoutNone) (nL := 8) (by decide) rfl (Nat.le_of_ble_eq_true rfl) ?_
  show BX2_cyclesWithoutNone d 0 [(0, .ref 40), (1, .ref o1)] [] M Q
  refine B_iconst (v := 0) dX2_cyclesWithoutNone_0 (by decide) ?_
  refine B_istore_n (lv1 := [(2, .int (0 : Int32)), (0, .ref 40), (1, .ref o1)]) dX2_cyclesWithoutNone_1 (by decide) rfl ?_
  refine B_iconst (v := 0) dX2_cyclesWithoutNone_2 (by decide) ?_
  refine B_istore_n (lv1 := [(3, .int (0 : Int32)), (2, .int (0 : Int32)), (0, .ref 40), (1, .ref o1)]) dX2_cyclesWithoutNone_3 (by decide) rfl ?_
  refine B_iconst (v := 0) dX2_cyclesWithoutNone_4 (by decide) ?_
  refine B_istore (lv1 := [(4, .int (0 : Int32)), (3, .int (0 : Int32)), (2, .int (0 : Int32)), (0, .ref 40), (1, .ref o1)]) dX2_cyclesWithoutNone_5 (by decide) rfl ?_
  refine B_weak [3, 4, 2, 1, 0] rfl ?_
  exact h
set_option maxHeartbeats 4000000 in
set_option maxRecDepth 100000 in
theorem rX2_cyclesWithoutNone_7 (d : Nat) (o1 : Nat) (ho1 : isRg o1) (v2 : Int32) (v3 : Int32) (v4 : Int32) (M : Mm) (Q : Int32 → Mm → Prop)
    (h : (((M o1 2) ≤ v4 → Q v2 M) ∧ (¬ (M o1 2) ≤ v4 → ((¬ ((ishr v3 v4) &&& (1 : Int32)) = 0 → BX2_cyclesWithoutNone d 39 [(0, .ref 40), (1, .ref o1), (2, .int v2), (3, .int v3), (4, .int v4), (5, .int v4), (6, .int (0 : Int32)), (7, .int (0 : Int32))] [] M Q) ∧ (((ishr v3 v4) &&& (1 : Int32)) = 0 → BX2_cyclesWithoutNone d 39 [(0, .ref 40), (1, .ref o1), (2, .int v2), (3, .int v3), (4, .int v4), (5, .int v4), (6, .int (1 : Int32)), (7, .int (0 : Int32))] [] M Q))))) : BX2_cyclesWithoutNone d 7 [(0, .ref 40), (1, .ref o1), (2, .int v2), (3, .int v3), (4, .int v4)] [] M Q := by
  refine B_iload dX2_cyclesWithoutNone_7 4 rfl ?_
  refine B_aload_n dX2_cyclesWithoutNone_9 1 rfl ?_
  refine B_getf (T := TX4) (N := 5) (v := .int (M o1 2)) o1 2 dX2_cyclesWithoutNone_10 inX2_cyclesWithoutNone_4 lkX2_cyclesWithoutNone_f18 (rg_lt ho1) (rg_c9 ho1) (rg_cl ho1) (rg_nf ho1) (by decide) (rg_v2 ho1) ?_
  refine B_icmp_ge (tgt := 120) dX2_cyclesWithoutNone_13 (by decide) (fun hc => ?_) (fun hc => ?_)
  · have h := h.1 hc
    refine B_iload_n dX2_cyclesWithoutNone_120 2 rfl ?_
    exact B_iret dX2_cyclesWithoutNone_121 h
  · have h := h.2 hc
    refine B_iload dX2_cyclesWithoutNone_16 4 rfl ?_
    refine B_istore (lv1 := [(5, .int v4), (0, .ref 40), (1, .ref o1), (2, .int v2), (3, .int v3), (4, .int v4)]) dX2_cyclesWithoutNone_18 (by decide) rfl ?_
    refine B_iload_n dX2_cyclesWithoutNone_20 4 rfl ?_
    refine B_iload dX2_cyclesWithoutNone_21 5 rfl ?_
    refine B_ishr dX2_cyclesWithoutNone_23 ?_
    refine B_iconst (v := 1) dX2_cyclesWithoutNone_24 (by decide) ?_
    refine B_iand dX2_cyclesWithoutNone_25 ?_
    refine B_if_ne (tgt := 33) dX2_cyclesWithoutNone_26 (by decide) (fun hc => ?_) (fun hc => ?_)
    · have h := h.1 hc
      refine B_iconst (v := 0) dX2_cyclesWithoutNone_33 (by decide) ?_
      refine B_istore (lv1 := [(6, .int (0 : Int32)), (5, .int v4), (0, .ref 40), (1, .ref o1), (2, .int v2), (3, .int v3), (4, .int v4)]) dX2_cyclesWithoutNone_34 (by decide) rfl ?_
      refine B_iconst (v := 0) dX2_cyclesWithoutNone_36 (by decide) ?_
      refine B_istore (lv1 := [(7, .int (0 : Int32)), (6, .int (0 : Int32)), (5, .int v4), (0, .ref 40), (1, .ref o1), (2, .int v2), (3, .int v3), (4, .int v4)]) dX2_cyclesWithoutNone_37 (by decide) rfl ?_
      refine B_weak [3, 4, 5, 6, 7, 2, 1, 0] rfl ?_
      exact h
    · have h := h.2 hc
      refine B_iconst (v := 1) dX2_cyclesWithoutNone_29 (by decide) ?_
      refine B_goto (tgt := 34) dX2_cyclesWithoutNone_30 (by decide) ?_
      refine B_istore (lv1 := [(6, .int (1 : Int32)), (5, .int v4), (0, .ref 40), (1, .ref o1), (2, .int v2), (3, .int v3), (4, .int v4)]) dX2_cyclesWithoutNone_34 (by decide) rfl ?_
      refine B_iconst (v := 0) dX2_cyclesWithoutNone_36 (by decide) ?_
      refine B_istore (lv1 := [(7, .int (0 : Int32)), (6, .int (1 : Int32)), (5, .int v4), (0, .ref 40), (1, .ref o1), (2, .int v2), (3, .int v3), (4, .int v4)]) dX2_cyclesWithoutNone_37 (by decide) rfl ?_
      refine B_weak [3, 4, 5, 6, 7, 2, 1, 0] rfl ?_
      exact h
set_option maxHeartbeats 4000000 in
set_option maxRecDepth 100000 in
theorem rX2_cyclesWithoutNone_39 (d : Nat) (o1 : Nat) (ho1 : isRg o1) (v2 : Int32) (v3 : Int32) (v4 : Int32) (v5 : Int32) (v6 : Int32) (v7 : Int32) (M : Mm) (Q : Int32 → Mm → Prop)
    (h : (((M o1 2) ≤ v7 → BX2_cyclesWithoutNone d 89 [(0, .ref 40), (1, .ref o1), (2, .int v2), (3, .int v3), (4, .int v4), (5, .int v5), (6, .int v6)] [] M Q) ∧ (¬ (M o1 2) ≤ v7 → ((¬ ((ishr v3 v5) &&& (1 : Int32)) = 0 → BX2_cyclesWithoutNone d 89 [(0, .ref 40), (1, .ref o1), (2, .int v2), (3, .int v3), (4, .int v4), (5, .int v5), (6, .int v6)] [] M Q) ∧ (((ishr v3 v5) &&& (1 : Int32)) = 0 → vp_in v5 7 ∧ (((M (o1 + 2) v5.toNatClampNeg) = 0 → BX2_cyclesWithoutNone d 89 [(0, .ref 40), (1, .ref o1), (2, .int v2), (3, .int v3), (4, .int v4), (5, .int v5), (6, .int v6)] [] M Q) ∧ (¬ (M (o1 + 2) v5.toNatClampNeg) = 0 → vp_in v5 7 ∧ BX2_cyclesWithoutNone d 39 [(0, .ref 40), (1, .ref o1), (2, .int v2), (3, .int (v3 ||| (ishl (1 : Int32) v5))), (4, .int v4), (5, .int (M 42 v5.toNatClampNeg)), (6, .int v6), (7, .int (v7 + (1 : Int32)))] [] M Q))))))) : BX2_cyclesWithoutNone d 39 [(0, .ref 40), (1, .ref o1), (2, .int v2), (3, .int v3), (4, .int v4), (5, .int v5), (6, .int v6), (7, .int v7)] [] M Q := by
  refine B_iload dX2_cyclesWithoutNone_39 7 rfl ?_
  refine B_aload_n dX2_cyclesWithoutNone_41 1 rfl ?_
  refine B_getf (T := TX4) (N := 5) (v := .int (M o1 2)) o1 2 dX2_cyclesWithoutNone_42 inX2_cyclesWithoutNone_4 lkX2_cyclesWithoutNone_f18 (rg_lt ho1) (rg_c9 ho1) (rg_cl ho1) (rg_nf ho1) (by decide) (rg_v2 ho1) ?_
  refine B_icmp_ge (tgt := 89) dX2_cyclesWithoutNone_45 (by decide) (fun hc => ?_) (fun hc => ?_)
  · have h := h.1 hc
    refine B_weak [0, 1, 2, 3, 4, 5, 6] rfl ?_
    exact h
  · have h := h.2 hc
    refine B_iload_n dX2_cyclesWithoutNone_48 3 rfl ?_
    refine B_iload dX2_cyclesWithoutNone_49 5 rfl ?_
    refine B_ishr dX2_cyclesWithoutNone_51 ?_
    refine B_iconst (v := 1) dX2_cyclesWithoutNone_52 (by decide) ?_
    refine B_iand dX2_cyclesWithoutNone_53 ?_
    refine B_if_ne (tgt := 89) dX2_cyclesWithoutNone_54 (by decide) (fun hc => ?_) (fun hc => ?_)
    · have h := h.1 hc
      refine B_weak [0, 1, 2, 3, 4, 5, 6] rfl ?_
      exact h
    · have h := h.2 hc
      refine B_aload_n dX2_cyclesWithoutNone_57 1 rfl ?_
      refine B_getf (T := TX4) (N := 5) (v := .ref (o1 + 2)) o1 1 dX2_cyclesWithoutNone_58 inX2_cyclesWithoutNone_4 lkX2_cyclesWithoutNone_f29 (rg_lt ho1) (rg_c9 ho1) (rg_cl ho1) (rg_nf ho1) (by decide) (rg_v1 ho1) ?_
      refine B_iload dX2_cyclesWithoutNone_61 5 rfl ?_
      obtain ⟨hi, h⟩ := h
      refine B_iald (n := 7) (o1 + 2) dX2_cyclesWithoutNone_63 (rg2_lt ho1) (rg2_c ho1) (rg2_n ho1) hi ?_
      refine B_if_eq (tgt := 89) dX2_cyclesWithoutNone_64 (by decide) (fun hc => ?_) (fun hc => ?_)
      · have h := h.1 hc
        refine B_weak [0, 1, 2, 3, 4, 5, 6] rfl ?_
        exact h
      · have h := h.2 hc
        refine B_iload_n dX2_cyclesWithoutNone_67 3 rfl ?_
        refine B_iconst (v := 1) dX2_cyclesWithoutNone_68 (by decide) ?_
        refine B_iload dX2_cyclesWithoutNone_69 5 rfl ?_
        refine B_ishl dX2_cyclesWithoutNone_71 ?_
        refine B_ior dX2_cyclesWithoutNone_72 ?_
        refine B_istore_n (lv1 := [(3, .int (v3 ||| (ishl (1 : Int32) v5))), (0, .ref 40), (1, .ref o1), (2, .int v2), (4, .int v4), (5, .int v5), (6, .int v6), (7, .int v7)]) dX2_cyclesWithoutNone_73 (by decide) rfl ?_
        refine B_aload_n dX2_cyclesWithoutNone_74 1 rfl ?_
        refine B_getf (T := TX2) (N := 2) (v := .ref 42) 40 1 dX2_cyclesWithoutNone_75 inX2_cyclesWithoutNone_2 lkX2_cyclesWithoutNone_f15 (Nat.le_of_ble_eq_true rfl) (Nat.le_of_ble_eq_true rfl) rfl rfl (by decide) rfl ?_
        refine B_iload dX2_cyclesWithoutNone_78 5 rfl ?_
        obtain ⟨hi, h⟩ := h
        refine B_iald (n := 7) 42 dX2_cyclesWithoutNone_80 (Nat.le_of_ble_eq_true rfl) rfl rfl hi ?_
        refine B_istore (lv1 := [(5, .int (M 42 v5.toNatClampNeg)), (3, .int (v3 ||| (ishl (1 : Int32) v5))), (0, .ref 40), (1, .ref o1), (2, .int v2), (4, .int v4), (6, .int v6), (7, .int v7)]) dX2_cyclesWithoutNone_81 (by decide) rfl ?_
        refine B_iinc (lv1 := [(7, .int (v7 + (1 : Int32))), (5, .int (M 42 v5.toNatClampNeg)), (3, .int (v3 ||| (ishl (1 : Int32) v5))), (0, .ref 40), (1, .ref o1), (2, .int v2), (4, .int v4), (6, .int v6)]) (v := (v7 + (1 : Int32))) dX2_cyclesWithoutNone_83 7 rfl rfl (by decide) rfl ?_
        refine B_goto (tgt := 39) dX2_cyclesWithoutNone_86 (by decide) ?_
        refine B_weak [3, 4, 5, 2, 6, 1, 7, 0] rfl ?_
        exact h
set_option maxHeartbeats 4000000 in
set_option maxRecDepth 100000 in
theorem rX2_cyclesWithoutNone_89 (d : Nat) (o1 : Nat) (ho1 : isRg o1) (v2 : Int32) (v3 : Int32) (v4 : Int32) (v5 : Int32) (v6 : Int32) (M : Mm) (Q : Int32 → Mm → Prop)
    (h : ((v6 = 0 → BX2_cyclesWithoutNone d 7 [(0, .ref 40), (1, .ref o1), (2, .int v2), (3, .int v3), (4, .int (v4 + (1 : Int32)))] [] M Q) ∧ (¬ v6 = 0 → ((¬ v5 = v4 → BX2_cyclesWithoutNone d 7 [(0, .ref 40), (1, .ref o1), (2, .int v2), (3, .int v3), (4, .int (v4 + (1 : Int32)))] [] M Q) ∧ (v5 = v4 → vp_in v5 7 ∧ (((M (o1 + 2) v5.toNatClampNeg) = 0 → BX2_cyclesWithoutNone d 7 [(0, .ref 40), (1, .ref o1), (2, .int v2), (3, .int v3), (4, .int (v4 + (1 : Int32)))] [] M Q) ∧ (¬ (M (o1 + 2) v5.toNatClampNeg) = 0 → BX2_cyclesWithoutNone d 7 [(0, .ref 40), (1, .ref o1), (2, .int (v2 + (1 : Int32))), (3, .int v3), (4, .int (v4 + (1 : Int32)))] [] M Q))))))) : BX2_cyclesWithoutNone d 89 [(0, .ref 40), (1, .ref o1), (2, .int v2), (3, .int v3), (4, .int v4), (5, .int v5), (6, .int v6)] [] M Q := by
  refine B_iload dX2_cyclesWithoutNone_89 6 rfl ?_
  refine B_if_eq (tgt := 114) dX2_cyclesWithoutNone_91 (by decide) (fun hc => ?_) (fun hc => ?_)
  · have h := h.1 hc
    refine B_iinc (lv1 := [(4, .int (v4 + (1 : Int32))), (0, .ref 40), (1, .ref o1), (2, .int v2), (3, .int v3), (5, .int v5), (6, .int v6)]) (v := (v4 + (1 : Int32))) dX2_cyclesWithoutNone_114 4 rfl rfl (by decide) rfl ?_
    refine B_goto (tgt := 7) dX2_cyclesWithoutNone_117 (by decide) ?_
    refine B_weak [1, 2, 3, 4, 0] rfl ?_
    exact h
  · have h := h.2 hc
    refine B_iload dX2_cyclesWithoutNone_94 5 rfl ?_
    refine B_iload dX2_cyclesWithoutNone_96 4 rfl ?_
    refine B_icmp_ne (tgt := 114) dX2_cyclesWithoutNone_98 (by decide) (fun hc => ?_) (fun hc => ?_)
    · have h := h.1 hc
      refine B_iinc (lv1 := [(4, .int (v4 + (1 : Int32))), (0, .ref 40), (1, .ref o1), (2, .int v2), (3, .int v3), (5, .int v5), (6, .int v6)]) (v := (v4 + (1 : Int32))) dX2_cyclesWithoutNone_114 4 rfl rfl (by decide) rfl ?_
      refine B_goto (tgt := 7) dX2_cyclesWithoutNone_117 (by decide) ?_
      refine B_weak [1, 2, 3, 4, 0] rfl ?_
      exact h
    · have h := h.2 hc
      refine B_aload_n dX2_cyclesWithoutNone_101 1 rfl ?_
      refine B_getf (T := TX4) (N := 5) (v := .ref (o1 + 2)) o1 1 dX2_cyclesWithoutNone_102 inX2_cyclesWithoutNone_4 lkX2_cyclesWithoutNone_f29 (rg_lt ho1) (rg_c9 ho1) (rg_cl ho1) (rg_nf ho1) (by decide) (rg_v1 ho1) ?_
      refine B_iload dX2_cyclesWithoutNone_105 5 rfl ?_
      obtain ⟨hi, h⟩ := h
      refine B_iald (n := 7) (o1 + 2) dX2_cyclesWithoutNone_107 (rg2_lt ho1) (rg2_c ho1) (rg2_n ho1) hi ?_
      refine B_if_eq (tgt := 114) dX2_cyclesWithoutNone_108 (by decide) (fun hc => ?_) (fun hc => ?_)
      · have h := h.1 hc
        refine B_iinc (lv1 := [(4, .int (v4 + (1 : Int32))), (0, .ref 40), (1, .ref o1), (2, .int v2), (3, .int v3), (5, .int v5), (6, .int v6)]) (v := (v4 + (1 : Int32))) dX2_cyclesWithoutNone_114 4 rfl rfl (by decide) rfl ?_
        refine B_goto (tgt := 7) dX2_cyclesWithoutNone_117 (by decide) ?_
        refine B_weak [1, 2, 3, 4, 0] rfl ?_
        exact h
      · have h := h.2 hc
        refine B_iinc (lv1 := [(2, .int (v2 + (1 : Int32))), (0, .ref 40), (1, .ref o1), (3, .int v3), (4, .int v4), (5, .int v5), (6, .int v6)]) (v := (v2 + (1 : Int32))) dX2_cyclesWithoutNone_111 2 rfl rfl (by decide) rfl ?_
        refine B_iinc (lv1 := [(4, .int (v4 + (1 : Int32))), (2, .int (v2 + (1 : Int32))), (0, .ref 40), (1, .ref o1), (3, .int v3), (5, .int v5), (6, .int v6)]) (v := (v4 + (1 : Int32))) dX2_cyclesWithoutNone_114 4 rfl rfl (by decide) rfl ?_
        refine B_goto (tgt := 7) dX2_cyclesWithoutNone_117 (by decide) ?_
        refine B_weak [2, 3, 1, 4, 0] rfl ?_
        exact h
set_option maxHeartbeats 4000000 in
set_option maxRecDepth 100000 in
theorem rX2_neighbourChanges (d : Nat) (o1 : Nat) (ho1 : isRg o1) (M : Mm) (Q : Int32 → Mm → Prop)
    (h : BX2_neighbourChanges d 4 [(0, .ref 40), (1, .ref o1), (2, .int (0 : Int32)), (3, .int (0 : Int32))] [] M Q) : kX2_neighbourChanges d o1 M Q := by
  refine Ct.of (cc := cX2_neighbourChanges) (nL := 5) (by decide) rfl (Nat.le_of_ble_eq_true rfl) ?_
  show BX2_neighbourChanges d 0 [(0, .ref 40), (1, .ref o1)] [] M Q
  refine B_iconst (v := 0) dX2_neighbourChanges_0 (by decide) ?_
  refine B_istore_n (lv1 := [(2, .int (0 : Int32)), (0, .ref 40), (1, .ref o1)]) dX2_neighbourChanges_1 (by decide) rfl ?_
  refine B_iconst (v := 0) dX2_neighbourChanges_2 (by decide) ?_
  refine B_istore_n (lv1 := [(3, .int (0 : Int32)), (2, .int (0 : Int32)), (0, .ref 40), (1, .ref o1)]) dX2_neighbourChanges_3 (by decide) rfl ?_
  refine B_weak [2, 3, 1, 0] rfl ?_
  exact h
set_option maxHeartbeats 4000000 in
set_option maxRecDepth 100000 in
theorem rX2_neighbourChanges_4 (d : Nat) (o1 : Nat) (ho1 : isRg o1) (v2 : Int32) (v3 : Int32) (M : Mm) (Q : Int32 → Mm → Prop)
    (h : (((M o1 2) ≤ v3 → Q v2 M) ∧ (¬ (M o1 2) ≤ v3 → BX2_neighbourChanges d 17 [(0, .ref 40), (1, .ref o1), (2, .int v2), (3, .int v3), (4, .int (v3 + (1 : Int32)))] [] M Q))) : BX2_neighbourChanges d 4 [(0, .ref 40), (1, .ref o1), (2, .int v2), (3, .int v3)] [] M Q := by
  refine B_iload_n dX2_neighbourChanges_4 3 rfl ?_
  refine B_aload_n dX2_neighbourChanges_5 1 rfl ?_
  refine B_getf (T := TX4) (N := 5) (v := .int (M o1 2)) o1 2 dX2_neighbourChanges_6 inX2_neighbourChanges_4 lkX2_neighbourChanges_f18 (rg_lt ho1) (rg_c9 ho1) (rg_cl ho1) (rg_nf ho1) (by decide) (rg_v2 ho1) ?_
  refine B_icmp_ge (tgt := 57) dX2_neighbourChanges_9 (by decide) (fun hc => ?_) (fun hc => ?_)
  · have h := h.1 hc
    refine B_iload_n dX2_neighbourChanges_57 2 rfl ?_
    exact B_iret dX2_neighbourChanges_58 h
  · have h := h.2 hc
    refine B_iload_n dX2_neighbourChanges_12 3 rfl ?_
    refine B_iconst (v := 1) dX2_neighbourChanges_13 (by decide) ?_
    refine B_iadd dX2_neighbourChanges_14 ?_
    refine B_istore (lv1 := [(4, .int (v3 + (1 : Int32))), (0, .ref 40), (1, .ref o1), (2, .int v2), (3, .int v3)]) dX2_neighbourChanges_15 (by decide) rfl ?_
    refine B_weak [1, 2, 3, 4, 0] rfl ?_
    exact h
set_option maxHeartbeats 4000000 in
set_option maxRecDepth 100000 in
theorem rX2_neighbourChanges_17 (d : Nat) (o1 : Nat) (ho1 : isRg o1) (v2 : Int32) (v3 : Int32) (v4 : Int32) (M : Mm) (Q : Int32 → Mm → Prop)
    (h : (((M o1 2) ≤ v4 → BX2_neighbourChanges d 4 [(0, .ref 40), (1, .ref o1), (2, .int v2), (3, .int (v3 + (1 : Int32)))] [] M Q) ∧ (¬ (M o1 2) ≤ v4 → vp_in v3 7 ∧ vp_in v4 7 ∧ (((M 42 v3.toNatClampNeg) ≤ (M 42 v4.toNatClampNeg) → BX2_neighbourChanges d 17 [(0, .ref 40), (1, .ref o1), (2, .int v2), (3, .int v3), (4, .int (v4 + (1 : Int32)))] [] M Q) ∧ (¬ (M 42 v3.toNatClampNeg) ≤ (M 42 v4.toNatClampNeg) → BX2_neighbourChanges d 17 [(0, .ref 40), (1, .ref o1), (2, .int (v2 + (1 : Int32))), (3, .int v3), (4, .int (v4 + (1 : Int32)))] [] M Q))))) : BX2_neighbourChanges d 17 [(0, .ref 40), (1, .ref o1), (2, .int v2), (3, .int v3), (4, .int v4)] [] M Q := by
  refine B_iload dX2_neighbourChanges_17 4 rfl ?_
  refine B_aload_n dX2_neighbourChanges_19 1 rfl ?_
  refine B_getf (T := TX4) (N := 5) (v := .int (M o1 2)) o1 2 dX2_neighbourChanges_20 inX2_neighbourChanges_4 lkX2_neighbourChanges_f18 (rg_lt ho1) (rg_c9 ho1) (rg_cl ho1) (rg_nf ho1) (by decide) (rg_v2 ho1) ?_
  refine B_icmp_ge (tgt := 51) dX2_neighbourChanges_23 (by decide) (fun hc => ?_) (fun hc => ?_)
  · have h := h.1 hc
    refine B_iinc (lv1 := [(3, .int (v3 + (1 : Int32))), (0, .ref 40), (1, .ref o1), (2, .int v2), (4, .int v4)]) (v := (v3 + (1 : Int32))) dX2_neighbourChanges_51 3 rfl rfl (by decide) rfl ?_
    refine B_goto (tgt := 4) dX2_neighbourChanges_54 (by decide) ?_
    refine B_weak [1, 2, 3, 0] rfl ?_
    exact h
  · have h := h.2 hc
    refine B_aload_n dX2_neighbourChanges_26 0 rfl ?_
    refine B_getf (T := TX2) (N := 2) (v := .ref 42) 40 1 dX2_neighbourChanges_27 inX2_neighbourChanges_2 lkX2_neighbourChanges_f15 (Nat.le_of_ble_eq_true rfl) (Nat.le_of_ble_eq_true rfl) rfl rfl (by decide) rfl ?_
    refine B_iload_n dX2_neighbourChanges_30 3 rfl ?_
    obtain ⟨hi, h⟩ := h
    refine B_iald (n := 7) 42 dX2_neighbourChanges_31 (Nat.le_of_ble_eq_true rfl) rfl rfl hi ?_
    refine B_aload_n dX2_neighbourChanges_32 0 rfl ?_
    refine B_getf (T := TX2) (N := 2) (v := .ref 42) 40 1 dX2_neighbourChanges_33 inX2_neighbourChanges_2 lkX2_neighbourChanges_f15 (Nat.le_of_ble_eq_true rfl) (Nat.le_of_ble_eq_true rfl) rfl rfl (by decide) rfl ?_
    refine B_iload dX2_neighbourChanges_36 4 rfl ?_
    obtain ⟨hi, h⟩ := h
    refine B_iald (n := 7) 42 dX2_neighbourChanges_38 (Nat.le_of_ble_eq_true rfl) rfl rfl hi ?_
    refine B_icmp_le (tgt := 45) dX2_neighbourChanges_39 (by decide) (fun hc => ?_) (fun hc => ?_)
    · have h := h.1 hc
      refine B_iinc (lv1 := [(4, .int (v4 + (1 : Int32))), (0, .ref 40), (1, .ref o1), (2, .int v2), (3, .int v3)]) (v := (v4 + (1 : Int32))) dX2_neighbourChanges_45 4 rfl rfl (by decide) rfl ?_
      refine B_goto (tgt := 17) dX2_neighbourChanges_48 (by decide) ?_
      refine B_weak [1, 2, 3, 4, 0] rfl ?_
      exact h
    · have h := h.2 hc
      refine B_iinc (lv1 := [(2, .int (v2 + (1 : Int32))), (0, .ref 40), (1, .ref o1), (3, .int v3), (4, .int v4)]) (v := (v2 + (1 : Int32))) dX2_neighbourChanges_42 2 rfl rfl (by decide) rfl ?_
      refine B_iinc (lv1 := [(4, .int (v4 + (1 : Int32))), (2, .int (v2 + (1 : Int32))), (0, .ref 40), (1, .ref o1), (3, .int v3)]) (v := (v4 + (1 : Int32))) dX2_neighbourChanges_45 4 rfl rfl (by decide) rfl ?_
      refine B_goto (tgt := 17) dX2_neighbourChanges_48 (by decide) ?_
      refine B_weak [2, 3, 1, 4, 0] rfl ?_
      exact h
set_option maxHeartbeats 4000000 in
set_option maxRecDepth 100000 in
theorem rX2_neighbourChange (d : Nat) (o1 : Nat) (ho1 : isRg o1) (v2 : Int32) (M : Mm) (Q : Int32 → Mm → Prop)
    (h : BX2_neighbourChange (d + 1) 6 [(0, .ref 40), (1, .ref o1), (2, .int v2), (3, .int (-1000000 : Int32)), (4, .int (0 : Int32))] [] M Q) : kX2_neighbourChange (d + 1) o1 v2 M Q := by
  refine Ct.of (cc := cX2_neighbourChange) (nL := 6) (by decide) rfl (Nat.le_of_ble_eq_true rfl) ?_
  show BX2_neighbourChange (d + 1) 0 [(0, .ref 40), (1, .ref o1), (2, .int v2)] [] M Q
  refine B_ldc (v := -1000000) dX2_neighbourChange_0 lkX2_neighbourChange_c45 ?_
  refine B_istore_n (lv1 := [(3, .int (-1000000 : Int32)), (0, .ref 40), (1, .ref o1), (2, .int v2)]) dX2_neighbourChange_2 (by decide) rfl ?_
  refine B_iconst (v := 0) dX2_neighbourChange_3 (by decide) ?_
  refine B_istore (lv1 := [(4, .int (0 : Int32)), (3, .int (-1000000 : Int32)), (0, .ref 40), (1, .ref o1), (2, .int v2)]) dX2_neighbourChange_4 (by decide) rfl ?_
  refine B_weak [2, 3, 4, 1, 0] rfl ?_
  exact h
set_option maxHeartbeats 4000000 in
set_option maxRecDepth 100000 in
theorem rX2_neighbourChange_6 (d : Nat) (o1 : Nat) (ho1 : isRg o1) (v2 : Int32) (v3 : Int32) (v4 : Int32) (M : Mm) (Q : Int32 → Mm → Prop)
    (h : ((v2 < v4 → Q v3 M) ∧ (¬ v2 < v4 → (((21 : Int32) < v4 → Q v3 M) ∧ (¬ (21 : Int32) < v4 → kX2_firstFall d (M o1 2) M (fun (r1 : Int32) (M1 : Mm) => ((0 ≤ r1 → vp_in r1 7 ∧ vp_in (r1 + (1 : Int32)) 7 ∧ vp_in r1 7 ∧ (∀ M2 : Mm, M2 = (upd2 M1 42 r1.toNatClampNeg (M1 42 (r1 + (1 : Int32)).toNatClampNeg)) → vp_in (r1 + (1 : Int32)) 7 ∧ (∀ M3 : Mm, M3 = (upd2 M2 42 (r1 + (1 : Int32)).toNatClampNeg (M1 42 r1.toNatClampNeg)) → BX2_neighbourChange (d + 1) 6 [(0, .ref 40), (1, .ref o1), (2, .int v2), (3, .int r1), (4, .int (v4 + (1 : Int32)))] [] M3 Q))) ∧ (¬ 0 ≤ r1 → Q (-1000000 : Int32) M1)))))))) : BX2_neighbourChange (d + 1) 6 [(0, .ref 40), (1, .ref o1), (2, .int v2), (3, .int v3), (4, .int v4)] [] M Q := by
  refine B_iload dX2_neighbourChange_6 4 rfl ?_
  refine B_iload_n dX2_neighbourChange_8 2 rfl ?_
  refine B_icmp_gt (tgt := 73) dX2_neighbourChange_9 (by decide) (fun hc => ?_) (fun hc => ?_)
  · have h := h.1 hc
    refine B_iload_n dX2_neighbourChange_73 3 rfl ?_
    exact B_iret dX2_neighbourChange_74 h
  · have h := h.2 hc
    refine B_iload dX2_neighbourChange_12 4 rfl ?_
    refine B_bipush (v := 21) dX2_neighbourChange_14 (by decide) ?_
    refine B_icmp_gt (tgt := 73) dX2_neighbourChange_16 (by decide) (fun hc => ?_) (fun hc => ?_)
    · have h := h.1 hc
      refine B_iload_n dX2_neighbourChange_73 3 rfl ?_
      exact B_iret dX2_neighbourChange_74 h
    · have h := h.2 hc
      refine B_aload_n dX2_neighbourChange_19 0 rfl ?_
      refine B_aload_n dX2_neighbourChange_20 1 rfl ?_
      refine B_getf (T := TX4) (N := 5) (v := .int (M o1 2)) o1 2 dX2_neighbourChange_21 inX2_neighbourChange_4 lkX2_neighbourChange_f18 (rg_lt ho1) (rg_c9 ho1) (rg_cl ho1) (rg_nf ho1) (by decide) (rg_v2 ho1) ?_
      refine B_callV (st := []) 40 [.int (M o1 2)] dX2_neighbourChange_24 gX2_neighbourChange_X2_firstFall rfl hyX2_firstFall (Nat.le_of_ble_eq_true rfl) (Nat.le_of_ble_eq_true rfl) TX2 2 rfl (Nat.le_of_ble_eq_true rfl) (Nat.le_of_ble_eq_true rfl) rfl (Ct.mono h (Nat.le_refl _) (fun r1 M1 h => ?_))
      refine B_istore_n (lv1 := [(3, .int r1), (0, .ref 40), (1, .ref o1), (2, .int v2), (4, .int v4)]) dX2_neighbourChange_27 (by decide) rfl ?_
      refine B_iload_n dX2_neighbourChange_28 0 rfl ?_
      refine B_if_ge (tgt := 35) dX2_neighbourChange_29 (by decide) (fun hc => ?_) (fun hc => ?_)
      · have h := h.1 hc
        refine B_aload_n dX2_neighbourChange_35 1 rfl ?_
        refine B_getf (T := TX2) (N := 2) (v := .ref 42) 40 1 dX2_neighbourChange_36 inX2_neighbourChange_2 lkX2_neighbourChange_f15 (Nat.le_of_ble_eq_true rfl) (Nat.le_of_ble_eq_true rfl) rfl rfl (by decide) rfl ?_
        refine B_iload_n dX2_neighbourChange_39 0 rfl ?_
        obtain ⟨hi, h⟩ := h
        refine B_iald (n := 7) 42 dX2_neighbourChange_40 (Nat.le_of_ble_eq_true rfl) rfl rfl hi ?_
        refine B_istore (lv1 := [(5, .int (M1 42 r1.toNatClampNeg)), (3, .int r1), (0, .ref 40), (1, .ref o1), (2, .int v2), (4, .int v4)]) dX2_neighbourChange_41 (by decide) rfl ?_
        refine B_aload_n dX2_neighbourChange_43 2 rfl ?_
        refine B_getf (T := TX2) (N := 2) (v := .ref 42) 40 1 dX2_neighbourChange_44 inX2_neighbourChange_2 lkX2_neighbourChange_f15 (Nat.le_of_ble_eq_true rfl) (Nat.le_of_ble_eq_true rfl) rfl rfl (by decide) rfl ?_
        refine B_iload_n dX2_neighbourChange_47 1 rfl ?_
        refine B_aload_n dX2_neighbourChange_48 2 rfl ?_
        refine B_getf (T := TX2) (N := 2) (v := .ref 42) 40 1 dX2_neighbourChange_49 inX2_neighbourChange_2 lkX2_neighbourChange_f15 (Nat.le_of_ble_eq_true rfl) (Nat.le_of_ble_eq_true rfl) rfl rfl (by decide) rfl ?_
        refine B_iload_n dX2_neighbourChange_52 1 rfl ?_
        refine B_iconst (v := 1) dX2_neighbourChange_53 (by decide) ?_
        refine B_iadd dX2_neighbourChange_54 ?_
        obtain ⟨hi, h⟩ := h
        refine B_iald (n := 7) 42 dX2_neighbourChange_55 (Nat.le_of_ble_eq_true rfl) rfl rfl hi ?_
        obtain ⟨hi, h⟩ := h
        refine B_iast (n := 7) 42 dX2_neighbourChange_56 (Nat.le_of_ble_eq_true rfl) rfl rfl hi ?_
        have h := h _ rfl
        generalize (upd2 M1 42 r1.toNatClampNeg (M1 42 (r1 + (1 : Int32)).toNatClampNeg)) = M2 at h ⊢
        refine B_aload_n dX2_neighbourChange_57 2 rfl ?_
        refine B_getf (T := TX2) (N := 2) (v := .ref 42) 40 1 dX2_neighbourChange_58 inX2_neighbourChange_2 lkX2_neighbourChange_f15 (Nat.le_of_ble_eq_true rfl) (Nat.le_of_ble_eq_true rfl) rfl rfl (by decide) rfl ?_
        refine B_iload_n dX2_neighbourChange_61 1 rfl ?_
        refine B_iconst (v := 1) dX2_neighbourChange_62 (by decide) ?_
        refine B_iadd dX2_neighbourChange_63 ?_
        refine B_iload dX2_neighbourChange_64 0 rfl ?_
        obtain ⟨hi, h⟩ := h
        refine B_iast (n := 7) 42 dX2_neighbourChange_66 (Nat.le_of_ble_eq_true rfl) rfl rfl hi ?_
        have h := h _ rfl
        generalize (upd2 M2 42 (r1 + (1 : Int32)).toNatClampNeg (M1 42 r1.toNatClampNeg)) = M3 at h ⊢
        refine B_iinc (lv1 := [(4, .int (v4 + (1 : Int32))), (5, .int (M1 42 r1.toNatClampNeg)), (3, .int r1), (0, .ref 40), (1, .ref o1), (2, .int v2)]) (v := (v4 + (1 : Int32))) dX2_neighbourChange_67 5 rfl rfl (by decide) rfl ?_
        refine B_goto (tgt := 6) dX2_neighbourChange_70 (by decide) ?_
        refine B_weak [3, 4, 5, 2, 0] rfl ?_
        exact h
      · have h := h.2 hc
        refine B_ldc (v := -1000000) dX2_neighbourChange_32 lkX2_neighbourChange_c45 ?_
        exact B_iret dX2_neighbourChange_34 h
set_option maxHeartbeats 4000000 in
set_option maxRecDepth 100000 in
theorem rX2_firstFall (d : Nat) (v1 : Int32) (M : Mm) (Q : Int32 → Mm → Prop)
    (h : BX2_firstFall d 2 [(0, .ref 40), (1, .int v1), (2, .int (0 : Int32))] [] M Q) : kX2_firstFall d v1 M Q := by
  refine Ct.of (cc := cX2_firstFall) (nL := 3) (by decide) rfl (Nat.le_of_ble_eq_true rfl) ?_
  show BX2_firstFall d 0 [(0, .ref 40), (1, .int v1)] [] M Q
  refine B_iconst (v := 0) dX2_firstFall_0 (by decide) ?_
  refine B_istore_n (lv1 := [(2, .int (0 : Int32)), (0, .ref 40), (1, .int v1)]) dX2_firstFall_1 (by decide) rfl ?_
  refine B_weak [1, 2, 0] rfl ?_
  exact h
set_option maxHeartbeats 4000000 in
set_option maxRecDepth 100000 in
theorem rX2_firstFall_2 (d : Nat) (v1 : Int32) (v2 : Int32) (M : Mm) (Q : Int32 → Mm → Prop)
    (h : ((v1 ≤ (v2 + (1 : Int32)) → Q (-1000000 : Int32) M) ∧ (¬ v1 ≤ (v2 + (1 : Int32)) → vp_in v2 7 ∧ vp_in (v2 + (1 : Int32)) 7 ∧ (((M 42 v2.toNatClampNeg) ≤ (M 42 (v2 + (1 : Int32)).toNatClampNeg) → BX2_firstFall d 2 [(0, .ref 40), (1, .int v1), (2, .int (v2 + (1 : Int32)))] [] M Q) ∧ (¬ (M 42 v2.toNatClampNeg) ≤ (M 42 (v2 + (1 : Int32)).toNatClampNeg) → Q v2 M))))) : BX2_firstFall d 2 [(0, .ref 40), (1, .int v1), (2, .int v2)] [] M Q := by
  refine B_iload_n dX2_firstFall_2 2 rfl ?_
  refine B_iconst (v := 1) dX2_firstFall_3 (by decide) ?_
  refine B_iadd dX2_firstFall_4 ?_
  refine B_iload_n dX2_firstFall_5 1 rfl ?_
  refine B_icmp_ge (tgt := 34) dX2_firstFall_6 (by decide) (fun hc => ?_) (fun hc => ?_)
  · have h := h.1 hc
    refine B_ldc (v := -1000000) dX2_firstFall_34 lkX2_firstFall_c45 ?_
    exact B_iret dX2_firstFall_36 h
  · have h := h.2 hc
    refine B_aload_n dX2_firstFall_9 0 rfl ?_
    refine B_getf (T := TX2) (N := 2) (v := .ref 42) 40 1 dX2_firstFall_10 inX2_firstFall_2 lkX2_firstFall_f15 (Nat.le_of_ble_eq_true rfl) (Nat.le_of_ble_eq_true rfl) rfl rfl (by decide) rfl ?_
    refine B_iload_n dX2_firstFall_13 2 rfl ?_
    obtain ⟨hi, h⟩ := h
    refine B_iald (n := 7) 42 dX2_firstFall_14 (Nat.le_of_ble_eq_true rfl) rfl rfl hi ?_
    refine B_aload_n dX2_firstFall_15 0 rfl ?_
    refine B_getf (T := TX2) (N := 2) (v := .ref 42) 40 1 dX2_firstFall_16 inX2_firstFall_2 lkX2_firstFall_f15 (Nat.le_of_ble_eq_true rfl) (Nat.le_of_ble_eq_true rfl) rfl rfl (by decide) rfl ?_
    refine B_iload_n dX2_firstFall_19 2 rfl ?_
    refine B_iconst (v := 1) dX2_firstFall_20 (by decide) ?_
    refine B_iadd dX2_firstFall_21 ?_
    obtain ⟨hi, h⟩ := h
    refine B_iald (n := 7) 42 dX2_firstFall_22 (Nat.le_of_ble_eq_true rfl) rfl rfl hi ?_
    refine B_icmp_le (tgt := 28) dX2_firstFall_23 (by decide) (fun hc => ?_) (fun hc => ?_)
    · have h := h.1 hc
      refine B_iinc (lv1 := [(2, .int (v2 + (1 : Int32))), (0, .ref 40), (1, .int v1)]) (v := (v2 + (1 : Int32))) dX2_firstFall_28 2 rfl rfl (by decide) rfl ?_
      refine B_goto (tgt := 2) dX2_firstFall_31 (by decide) ?_
      refine B_weak [1, 2, 0] rfl ?_
      exact h
    · have h := h.2 hc
      refine B_iload_n dX2_firstFall_26 2 rfl ?_
      exact B_iret dX2_firstFall_27 h
set_option maxHeartbeats 4000000 in
set_option maxRecDepth 100000 in
theorem rX3_howMany (d : Nat) (o1 : Nat) (ho1 : isRg o1) (M : Mm) (Q : Int32 → Mm → Prop)
    (h : kX3_tally d o1 M (fun (_r1 : Int32) (M1 : Mm) => kX3_ways d (M1 o1 2) M1 (fun (r2 : Int32) (M2 : Mm) => Q r2 M2))) : kX3_howMany (d + 1) o1 M Q := by
  refine Ct.of (cc := cX3_howMany) (nL := 2) (by decide) rfl (Nat.le_of_ble_eq_true rfl) ?_
  show BX3_howMany (d + 1) 0 [(0, .ref 43), (1, .ref o1)] [] M Q
  refine B_aload_n dX3_howMany_0 0 rfl ?_
  refine B_aload_n dX3_howMany_1 1 rfl ?_
  refine B_callV (st := []) 43 [.ref o1] dX3_howMany_2 gX3_howMany_X3_tally rfl hyX3_tally (Nat.le_of_ble_eq_true rfl) (Nat.le_of_ble_eq_true rfl) TX3 3 rfl (Nat.le_of_ble_eq_true rfl) (Nat.le_of_ble_eq_true rfl) rfl (Ct.mono h (Nat.le_refl _) (fun _r1 M1 h => ?_))
  refine B_aload_n dX3_howMany_5 0 rfl ?_
  refine B_aload_n dX3_howMany_6 1 rfl ?_
  refine B_getf (T := TX4) (N := 5) (v := .int (M1 o1 2)) o1 2 dX3_howMany_7 inX3_howMany_4 lkX3_howMany_f22 (rg_lt ho1) (rg_c9 ho1) (rg_cl ho1) (rg_nf ho1) (by decide) (rg_v2 ho1) ?_
  refine B_callV (st := []) 43 [.int (M1 o1 2)] dX3_howMany_10 gX3_howMany_X3_ways rfl hyX3_ways (Nat.le_of_ble_eq_true rfl) (Nat.le_of_ble_eq_true rfl) TX3 3 rfl (Nat.le_of_ble_eq_true rfl) (Nat.le_of_ble_eq_true rfl) rfl (Ct.mono h (Nat.le_refl _) (fun r2 M2 h => ?_))
  exact B_iret dX3_howMany_13 h
set_option maxHeartbeats 4000000 in
set_option maxRecDepth 100000 in
theorem rX3_placeOf (d : Nat) (o1 : Nat) (ho1 : isRg o1) (M : Mm) (Q : Int32 → Mm → Prop)
    (h : kX3_tally d o1 M (fun (_r1 : Int32) (M1 : Mm) => BX3_placeOf (d + 1) 9 [(0, .ref 43), (1, .ref o1), (2, .int (0 : Int32)), (3, .int (0 : Int32))] [] M1 Q)) : kX3_placeOf (d + 1) o1 M Q := by
  refine Ct.of (cc := cX3_placeOf) (nL := 6) (by decide) rfl (Nat.le_of_ble_eq_true rfl) ?_
  show BX3_placeOf (d + 1) 0 [(0, .ref 43), (1, .ref o1)] [] M Q
  refine B_aload_n dX3_placeOf_0 0 rfl ?_
  refine B_aload_n dX3_placeOf_1 1 rfl ?_
  refine B_callV (st := []) 43 [.ref o1] dX3_placeOf_2 gX3_placeOf_X3_tally rfl hyX3_tally (Nat.le_of_ble_eq_true rfl) (Nat.le_of_ble_eq_true rfl) TX3 3 rfl (Nat.le_of_ble_eq_true rfl) (Nat.le_of_ble_eq_true rfl) rfl (Ct.mono h (Nat.le_refl _) (fun _r1 M1 h => ?_))
  refine B_iconst (v := 0) dX3_placeOf_5 (by decide) ?_
  refine B_istore_n (lv1 := [(2, .int (0 : Int32)), (0, .ref 43), (1, .ref o1)]) dX3_placeOf_6 (by decide) rfl ?_
  refine B_iconst (v := 0) dX3_placeOf_7 (by decide) ?_
  refine B_istore_n (lv1 := [(3, .int (0 : Int32)), (2, .int (0 : Int32)), (0, .ref 43), (1, .ref o1)]) dX3_placeOf_8 (by decide) rfl ?_
  refine B_weak [2, 3, 1, 0] rfl ?_
  exact h
set_option maxHeartbeats 4000000 in
set_option maxRecDepth 100000 in
theorem rX3_placeOf_9 (d : Nat) (o1 : Nat) (ho1 : isRg o1) (v2 : Int32) (v3 : Int32) (M : Mm) (Q : Int32 → Mm → Prop)
    (h : (((M o1 2) ≤ v3 → Q v2 M) ∧ (¬ (M o1 2) ≤ v3 → vp_in v3 7 ∧ BX3_placeOf (d + 1) 28 [(0, .ref 43), (1, .ref o1), (2, .int v2), (3, .int v3), (4, .int (M (o1 + 2) v3.toNatClampNeg)), (5, .int (0 : Int32))] [] M Q))) : BX3_placeOf (d + 1) 9 [(0, .ref 43), (1, .ref o1), (2, .int v2), (3, .int v3)] [] M Q := by
  refine B_iload_n dX3_placeOf_9 3 rfl ?_
  refine B_aload_n dX3_placeOf_10 1 rfl ?_
  refine B_getf (T := TX4) (N := 5) (v := .int (M o1 2)) o1 2 dX3_placeOf_11 inX3_placeOf_4 lkX3_placeOf_f22 (rg_lt ho1) (rg_c9 ho1) (rg_cl ho1) (rg_nf ho1) (by decide) (rg_v2 ho1) ?_
  refine B_icmp_ge (tgt := 105) dX3_placeOf_14 (by decide) (fun hc => ?_) (fun hc => ?_)
  · have h := h.1 hc
    refine B_iload_n dX3_placeOf_105 2 rfl ?_
    exact B_iret dX3_placeOf_106 h
  · have h := h.2 hc
    refine B_aload_n dX3_placeOf_17 1 rfl ?_
    refine B_getf (T := TX4) (N := 5) (v := .ref (o1 + 2)) o1 1 dX3_placeOf_18 inX3_placeOf_4 lkX3_placeOf_f32 (rg_lt ho1) (rg_c9 ho1) (rg_cl ho1) (rg_nf ho1) (by decide) (rg_v1 ho1) ?_
    refine B_iload_n dX3_placeOf_21 3 rfl ?_
    obtain ⟨hi, h⟩ := h
    refine B_iald (n := 7) (o1 + 2) dX3_placeOf_22 (rg2_lt ho1) (rg2_c ho1) (rg2_n ho1) hi ?_
    refine B_istore (lv1 := [(4, .int (M (o1 + 2) v3.toNatClampNeg)), (0, .ref 43), (1, .ref o1), (2, .int v2), (3, .int v3)]) dX3_placeOf_23 (by decide) rfl ?_
    refine B_iconst (v := 0) dX3_placeOf_25 (by decide) ?_
    refine B_istore (lv1 := [(5, .int (0 : Int32)), (4, .int (M (o1 + 2) v3.toNatClampNeg)), (0, .ref 43), (1, .ref o1), (2, .int v2), (3, .int v3)]) dX3_placeOf_26 (by decide) rfl ?_
    refine B_weak [2, 3, 4, 5, 1, 0] rfl ?_
    exact h
set_option maxHeartbeats 4000000 in
set_option maxRecDepth 100000 in
theorem rX3_placeOf_28 (d : Nat) (o1 : Nat) (ho1 : isRg o1) (v2 : Int32) (v3 : Int32) (v4 : Int32) (v5 : Int32) (M : Mm) (Q : Int32 → Mm → Prop)
    (h : ((v4 ≤ v5 → vp_in v4 10 ∧ vp_in v4 10 ∧ (∀ M1 : Mm, M1 = (upd2 M 45 v4.toNatClampNeg ((M 45 v4.toNatClampNeg) - (1 : Int32))) → BX3_placeOf (d + 1) 9 [(0, .ref 43), (1, .ref o1), (2, .int v2), (3, .int (v3 + (1 : Int32)))] [] M1 Q)) ∧ (¬ v4 ≤ v5 → vp_in v5 10 ∧ (((M 45 v5.toNatClampNeg) ≤ 0 → BX3_placeOf (d + 1) 28 [(0, .ref 43), (1, .ref o1), (2, .int v2), (3, .int v3), (4, .int v4), (5, .int (v5 + (1 : Int32)))] [] M Q) ∧ (¬ (M 45 v5.toNatClampNeg) ≤ 0 → vp_in v5 10 ∧ vp_in v5 10 ∧ (∀ M2 : Mm, M2 = (upd2 M 45 v5.toNatClampNeg ((M 45 v5.toNatClampNeg) - (1 : Int32))) → kX3_ways d (((M2 o1 2) - (1 : Int32)) - v3) M2 (fun (r1 : Int32) (M3 : Mm) => vp_in v5 10 ∧ vp_in v5 10 ∧ (∀ M4 : Mm, M4 = (upd2 M3 45 v5.toNatClampNeg ((M3 45 v5.toNatClampNeg) + (1 : Int32))) → BX3_placeOf (d + 1) 28 [(0, .ref 43), (1, .ref o1), (2, .int (v2 + r1)), (3, .int v3), (4, .int v4), (5, .int (v5 + (1 : Int32)))] [] M4 Q)))))))) : BX3_placeOf (d + 1) 28 [(0, .ref 43), (1, .ref o1), (2, .int v2), (3, .int v3), (4, .int v4), (5, .int v5)] [] M Q := by
  refine B_iload dX3_placeOf_28 5 rfl ?_
  refine B_iload dX3_placeOf_30 4 rfl ?_
  refine B_icmp_ge (tgt := 88) dX3_placeOf_32 (by decide) (fun hc => ?_) (fun hc => ?_)
  · have h := h.1 hc
    refine B_aload_n dX3_placeOf_88 0 rfl ?_
    refine B_getf (T := TX3) (N := 3) (v := .ref 45) 43 1 dX3_placeOf_89 inX3_placeOf_3 lkX3_placeOf_f15 (Nat.le_of_ble_eq_true rfl) (Nat.le_of_ble_eq_true rfl) rfl rfl (by decide) rfl ?_
    refine B_iload dX3_placeOf_92 4 rfl ?_
    refine B_dup2 dX3_placeOf_94 rfl rfl ?_
    obtain ⟨hi, h⟩ := h
    refine B_iald (n := 10) 45 dX3_placeOf_95 (Nat.le_of_ble_eq_true rfl) rfl rfl hi ?_
    refine B_iconst (v := 1) dX3_placeOf_96 (by decide) ?_
    refine B_isub dX3_placeOf_97 ?_
    obtain ⟨hi, h⟩ := h
    refine B_iast (n := 10) 45 dX3_placeOf_98 (Nat.le_of_ble_eq_true rfl) rfl rfl hi ?_
    have h := h _ rfl
    generalize (upd2 M 45 v4.toNatClampNeg ((M 45 v4.toNatClampNeg) - (1 : Int32))) = M1 at h ⊢
    refine B_iinc (lv1 := [(3, .int (v3 + (1 : Int32))), (0, .ref 43), (1, .ref o1), (2, .int v2), (4, .int v4), (5, .int v5)]) (v := (v3 + (1 : Int32))) dX3_placeOf_99 3 rfl rfl (by decide) rfl ?_
    refine B_goto (tgt := 9) dX3_placeOf_102 (by decide) ?_
    refine B_weak [1, 2, 3, 0] rfl ?_
    exact h
  · have h := h.2 hc
    refine B_aload_n dX3_placeOf_35 0 rfl ?_
    refine B_getf (T := TX3) (N := 3) (v := .ref 45) 43 1 dX3_placeOf_36 inX3_placeOf_3 lkX3_placeOf_f15 (Nat.le_of_ble_eq_true rfl) (Nat.le_of_ble_eq_true rfl) rfl rfl (by decide) rfl ?_
    refine B_iload dX3_placeOf_39 5 rfl ?_
    obtain ⟨hi, h⟩ := h
    refine B_iald (n := 10) 45 dX3_placeOf_41 (Nat.le_of_ble_eq_true rfl) rfl rfl hi ?_
    refine B_if_le (tgt := 82) dX3_placeOf_42 (by decide) (fun hc => ?_) (fun hc => ?_)
    · have h := h.1 hc
      refine B_iinc (lv1 := [(5, .int (v5 + (1 : Int32))), (0, .ref 43), (1, .ref o1), (2, .int v2), (3, .int v3), (4, .int v4)]) (v := (v5 + (1 : Int32))) dX3_placeOf_82 5 rfl rfl (by decide) rfl ?_
      refine B_goto (tgt := 28) dX3_placeOf_85 (by decide) ?_
      refine B_weak [1, 2, 3, 4, 5, 0] rfl ?_
      exact h
    · have h := h.2 hc
      refine B_aload_n dX3_placeOf_45 0 rfl ?_
      refine B_getf (T := TX3) (N := 3) (v := .ref 45) 43 1 dX3_placeOf_46 inX3_placeOf_3 lkX3_placeOf_f15 (Nat.le_of_ble_eq_true rfl) (Nat.le_of_ble_eq_true rfl) rfl rfl (by decide) rfl ?_
      refine B_iload dX3_placeOf_49 5 rfl ?_
      refine B_dup2 dX3_placeOf_51 rfl rfl ?_
      obtain ⟨hi, h⟩ := h
      refine B_iald (n := 10) 45 dX3_placeOf_52 (Nat.le_of_ble_eq_true rfl) rfl rfl hi ?_
      refine B_iconst (v := 1) dX3_placeOf_53 (by decide) ?_
      refine B_isub dX3_placeOf_54 ?_
      obtain ⟨hi, h⟩ := h
      refine B_iast (n := 10) 45 dX3_placeOf_55 (Nat.le_of_ble_eq_true rfl) rfl rfl hi ?_
      have h := h _ rfl
      generalize (upd2 M 45 v5.toNatClampNeg ((M 45 v5.toNatClampNeg) - (1 : Int32))) = M2 at h ⊢
      refine B_iload_n dX3_placeOf_56 2 rfl ?_
      refine B_aload_n dX3_placeOf_57 0 rfl ?_
      refine B_aload_n dX3_placeOf_58 1 rfl ?_
      refine B_getf (T := TX4) (N := 5) (v := .int (M2 o1 2)) o1 2 dX3_placeOf_59 inX3_placeOf_4 lkX3_placeOf_f22 (rg_lt ho1) (rg_c9 ho1) (rg_cl ho1) (rg_nf ho1) (by decide) (rg_v2 ho1) ?_
      refine B_iconst (v := 1) dX3_placeOf_62 (by decide) ?_
      refine B_isub dX3_placeOf_63 ?_
      refine B_iload_n dX3_placeOf_64 3 rfl ?_
      refine B_isub dX3_placeOf_65 ?_
      refine B_callV (st := [.int v2]) 43 [.int (((M2 o1 2) - (1 : Int32)) - v3)] dX3_placeOf_66 gX3_placeOf_X3_ways rfl hyX3_ways (Nat.le_of_ble_eq_true rfl) (Nat.le_of_ble_eq_true rfl) TX3 3 rfl (Nat.le_of_ble_eq_true rfl) (Nat.le_of_ble_eq_true rfl) rfl (Ct.mono h (Nat.le_refl _) (fun r1 M3 h => ?_))
      refine B_iadd dX3_placeOf_69 ?_
      refine B_istore_n (lv1 := [(2, .int (v2 + r1)), (0, .ref 43), (1, .ref o1), (3, .int v3), (4, .int v4), (5, .int v5)]) dX3_placeOf_70 (by decide) rfl ?_
      refine B_aload_n dX3_placeOf_71 1 rfl ?_
      refine B_getf (T := TX3) (N := 3) (v := .ref 45) 43 1 dX3_placeOf_72 inX3_placeOf_3 lkX3_placeOf_f15 (Nat.le_of_ble_eq_true rfl) (Nat.le_of_ble_eq_true rfl) rfl rfl (by decide) rfl ?_
      refine B_iload dX3_placeOf_75 5 rfl ?_
      refine B_dup2 dX3_placeOf_77 rfl rfl ?_
      obtain ⟨hi, h⟩ := h
      refine B_iald (n := 10) 45 dX3_placeOf_78 (Nat.le_of_ble_eq_true rfl) rfl rfl hi ?_
      refine B_iconst (v := 1) dX3_placeOf_79 (by decide) ?_
      refine B_iadd dX3_placeOf_80 ?_
      obtain ⟨hi, h⟩ := h
      refine B_iast (n := 10) 45 dX3_placeOf_81 (Nat.le_of_ble_eq_true rfl) rfl rfl hi ?_
      have h := h _ rfl
      generalize (upd2 M3 45 v5.toNatClampNeg ((M3 45 v5.toNatClampNeg) + (1 : Int32))) = M4 at h ⊢
      refine B_iinc (lv1 := [(5, .int (v5 + (1 : Int32))), (2, .int (v2 + r1)), (0, .ref 43), (1, .ref o1), (3, .int v3), (4, .int v4)]) (v := (v5 + (1 : Int32))) dX3_placeOf_82 5 rfl rfl (by decide) rfl ?_
      refine B_goto (tgt := 28) dX3_placeOf_85 (by decide) ?_
      refine B_weak [2, 3, 1, 4, 5, 0] rfl ?_
      exact h
set_option maxHeartbeats 4000000 in
set_option maxRecDepth 100000 in
theorem rX3_begin (d : Nat) (o1 : Nat) (ho1 : isRg o1) (M : Mm) (Q : Int32 → Mm → Prop)
    (h : kX3_howMany d o1 M (fun (r1 : Int32) (M1 : Mm) => (∀ M2 : Mm, M2 = (upd2 M1 43 2 (0 : Int32)) → BX3_begin (d + 1) 13 [(0, .ref 43), (2, .int r1), (3, .int (0 : Int32))] [] M2 Q))) : kX3_begin (d + 1) o1 M Q := by
  refine Ct.of (cc := cX3_begin) (nL := 5) (by decide) rfl (Nat.le_of_ble_eq_true rfl) ?_
  show BX3_begin (d + 1) 0 [(0, .ref 43), (1, .ref o1)] [] M Q
  refine B_aload_n dX3_begin_0 0 rfl ?_
  refine B_aload_n dX3_begin_1 1 rfl ?_
  refine B_callV (st := []) 43 [.ref o1] dX3_begin_2 gX3_begin_X3_howMany rfl hyX3_howMany (Nat.le_of_ble_eq_true rfl) (Nat.le_of_ble_eq_true rfl) TX3 3 rfl (Nat.le_of_ble_eq_true rfl) (Nat.le_of_ble_eq_true rfl) rfl (Ct.mono h (Nat.le_refl _) (fun r1 M1 h => ?_))
  refine B_istore_n (lv1 := [(2, .int r1), (0, .ref 43), (1, .ref o1)]) dX3_begin_5 (by decide) rfl ?_
  refine B_aload_n dX3_begin_6 1 rfl ?_
  refine B_iconst (v := 0) dX3_begin_7 (by decide) ?_
  refine B_putf (T := TX3) (N := 3) 43 2 tyX3 tyX3_ok nmX3 dX3_begin_8 inX3_begin_3 lkX3_begin_f37 (Nat.le_of_ble_eq_true rfl) (Nat.le_of_ble_eq_true rfl) rfl rfl (by decide) rfl rfl (by decide +kernel) ?_
  have h := h _ rfl
  generalize (upd2 M1 43 2 (0 : Int32)) = M2 at h ⊢
  refine B_iconst (v := 0) dX3_begin_11 (by decide) ?_
  refine B_istore_n (lv1 := [(3, .int (0 : Int32)), (2, .int r1), (0, .ref 43), (1, .ref o1)]) dX3_begin_12 (by decide) rfl ?_
  refine B_weak [2, 1, 0] rfl ?_
  exact h
set_option maxHeartbeats 4000000 in
set_option maxRecDepth 100000 in
theorem rX3_begin_13 (d : Nat) (v2 : Int32) (v3 : Int32) (M : Mm) (Q : Int32 → Mm → Prop)
    (h : (((9 : Int32) < v3 → Q v2 M) ∧ (¬ (9 : Int32) < v3 → BX3_begin (d + 1) 22 [(0, .ref 43), (2, .int v2), (3, .int v3), (4, .int (0 : Int32))] [] M Q))) : BX3_begin (d + 1) 13 [(0, .ref 43), (2, .int v2), (3, .int v3)] [] M Q := by
  refine B_iload_n dX3_begin_13 2 rfl ?_
  refine B_bipush (v := 9) dX3_begin_14 (by decide) ?_
  refine B_icmp_gt (tgt := 74) dX3_begin_16 (by decide) (fun hc => ?_) (fun hc => ?_)
  · have h := h.1 hc
    refine B_iload_n dX3_begin_74 1 rfl ?_
    exact B_iret dX3_begin_75 h
  · have h := h.2 hc
    refine B_iconst (v := 0) dX3_begin_19 (by decide) ?_
    refine B_istore (lv1 := [(4, .int (0 : Int32)), (0, .ref 43), (2, .int v2), (3, .int v3)]) dX3_begin_20 (by decide) rfl ?_
    refine B_weak [1, 2, 3, 0] rfl ?_
    exact h
set_option maxHeartbeats 4000000 in
set_option maxRecDepth 100000 in
theorem rX3_begin_22 (d : Nat) (v2 : Int32) (v3 : Int32) (v4 : Int32) (M : Mm) (Q : Int32 → Mm → Prop)
    (h : vp_in v3 10 ∧ (((M 45 v3.toNatClampNeg) ≤ v4 → BX3_begin (d + 1) 13 [(0, .ref 43), (2, .int v2), (3, .int (v3 + (1 : Int32)))] [] M Q) ∧ (¬ (M 45 v3.toNatClampNeg) ≤ v4 → (((7 : Int32) ≤ (M 43 2) → BX3_begin (d + 1) 13 [(0, .ref 43), (2, .int v2), (3, .int (v3 + (1 : Int32)))] [] M Q) ∧ (¬ (7 : Int32) ≤ (M 43 2) → vp_in (M 43 2) 7 ∧ (∀ M1 : Mm, M1 = (upd2 M 44 (M 43 2).toNatClampNeg v3) → (∀ M2 : Mm, M2 = (upd2 M1 43 2 ((M1 43 2) + (1 : Int32))) → BX3_begin (d + 1) 22 [(0, .ref 43), (2, .int v2), (3, .int v3), (4, .int (v4 + (1 : Int32)))] [] M2 Q))))))) : BX3_begin (d + 1) 22 [(0, .ref 43), (2, .int v2), (3, .int v3), (4, .int v4)] [] M Q := by
  refine B_iload dX3_begin_22 3 rfl ?_
  refine B_aload_n dX3_begin_24 0 rfl ?_
  refine B_getf (T := TX3) (N := 3) (v := .ref 45) 43 1 dX3_begin_25 inX3_begin_3 lkX3_begin_f15 (Nat.le_of_ble_eq_true rfl) (Nat.le_of_ble_eq_true rfl) rfl rfl (by decide) rfl ?_
  refine B_iload_n dX3_begin_28 2 rfl ?_
  obtain ⟨hi, h⟩ := h
  refine B_iald (n := 10) 45 dX3_begin_29 (Nat.le_of_ble_eq_true rfl) rfl rfl hi ?_
  refine B_icmp_ge (tgt := 68) dX3_begin_30 (by decide) (fun hc => ?_) (fun hc => ?_)
  · have h := h.1 hc
    refine B_iinc (lv1 := [(3, .int (v3 + (1 : Int32))), (0, .ref 43), (2, .int v2), (4, .int v4)]) (v := (v3 + (1 : Int32))) dX3_begin_68 2 rfl rfl (by decide) rfl ?_
    refine B_goto (tgt := 13) dX3_begin_71 (by decide) ?_
    refine B_weak [1, 2, 0] rfl ?_
    exact h
  · have h := h.2 hc
    refine B_aload_n dX3_begin_33 0 rfl ?_
    refine B_getf (T := TX3) (N := 3) (v := .int (M 43 2)) 43 2 dX3_begin_34 inX3_begin_3 lkX3_begin_f37 (Nat.le_of_ble_eq_true rfl) (Nat.le_of_ble_eq_true rfl) rfl rfl (by decide) rfl ?_
    refine B_bipush (v := 7) dX3_begin_37 (by decide) ?_
    refine B_icmp_ge (tgt := 68) dX3_begin_39 (by decide) (fun hc => ?_) (fun hc => ?_)
    · have h := h.1 hc
      refine B_iinc (lv1 := [(3, .int (v3 + (1 : Int32))), (0, .ref 43), (2, .int v2), (4, .int v4)]) (v := (v3 + (1 : Int32))) dX3_begin_68 2 rfl rfl (by decide) rfl ?_
      refine B_goto (tgt := 13) dX3_begin_71 (by decide) ?_
      refine B_weak [1, 2, 0] rfl ?_
      exact h
    · have h := h.2 hc
      refine B_aload_n dX3_begin_42 0 rfl ?_
      refine B_getf (T := TX3) (N := 3) (v := .ref 44) 43 0 dX3_begin_43 inX3_begin_3 lkX3_begin_f9 (Nat.le_of_ble_eq_true rfl) (Nat.le_of_ble_eq_true rfl) rfl rfl (by decide) rfl ?_
      refine B_aload_n dX3_begin_46 0 rfl ?_
      refine B_getf (T := TX3) (N := 3) (v := .int (M 43 2)) 43 2 dX3_begin_47 inX3_begin_3 lkX3_begin_f37 (Nat.le_of_ble_eq_true rfl) (Nat.le_of_ble_eq_true rfl) rfl rfl (by decide) rfl ?_
      refine B_iload_n dX3_begin_50 2 rfl ?_
      obtain ⟨hi, h⟩ := h
      refine B_iast (n := 7) 44 dX3_begin_51 (Nat.le_of_ble_eq_true rfl) rfl rfl hi ?_
      have h := h _ rfl
      generalize (upd2 M 44 (M 43 2).toNatClampNeg v3) = M1 at h ⊢
      refine B_aload_n dX3_begin_52 0 rfl ?_
      refine B_dup dX3_begin_53 rfl ?_
      refine B_getf (T := TX3) (N := 3) (v := .int (M1 43 2)) 43 2 dX3_begin_54 inX3_begin_3 lkX3_begin_f37 (Nat.le_of_ble_eq_true rfl) (Nat.le_of_ble_eq_true rfl) rfl rfl (by decide) rfl ?_
      refine B_iconst (v := 1) dX3_begin_57 (by decide) ?_
      refine B_iadd dX3_begin_58 ?_
      refine B_putf (T := TX3) (N := 3) 43 2 tyX3 tyX3_ok nmX3 dX3_begin_59 inX3_begin_3 lkX3_begin_f37 (Nat.le_of_ble_eq_true rfl) (Nat.le_of_ble_eq_true rfl) rfl rfl (by decide) rfl rfl (by decide +kernel) ?_
      have h := h _ rfl
      generalize (upd2 M1 43 2 ((M1 43 2) + (1 : Int32))) = M2 at h ⊢
      refine B_iinc (lv1 := [(4, .int (v4 + (1 : Int32))), (0, .ref 43), (2, .int v2), (3, .int v3)]) (v := (v4 + (1 : Int32))) dX3_begin_62 3 rfl rfl (by decide) rfl ?_
      refine B_goto (tgt := 22) dX3_begin_65 (by decide) ?_
      refine B_weak [1, 2, 3, 0] rfl ?_
      exact h
set_option maxHeartbeats 4000000 in
set_option maxRecDepth 100000 in
theorem rX3_next (d : Nat)  (M : Mm) (Q : Int32 → Mm → Prop)
    (h : BX3_next (d + 1) 7 [(0, .ref 43), (1, .int ((M 43 2) - (2 : Int32)))] [] M Q) : kX3_next (d + 1)  M Q := by
  refine Ct.of (cc := cX3_next) (nL := 5) (by decide) rfl (Nat.le_of_ble_eq_true rfl) ?_
  show BX3_next (d + 1) 0 [(0, .ref 43)] [] M Q
  refine B_aload_n dX3_next_0 0 rfl ?_
  refine B_getf (T := TX3) (N := 3) (v := .int (M 43 2)) 43 2 dX3_next_1 inX3_next_3 lkX3_next_f37 (Nat.le_of_ble_eq_true rfl) (Nat.le_of_ble_eq_true rfl) rfl rfl (by decide) rfl ?_
  refine B_iconst (v := 2) dX3_next_4 (by decide) ?_
  refine B_isub dX3_next_5 ?_
  refine B_istore_n (lv1 := [(1, .int ((M 43 2) - (2 : Int32))), (0, .ref 43)]) dX3_next_6 (by decide) rfl ?_
  refine B_weak [1, 0] rfl ?_
  exact h
set_option maxHeartbeats 4000000 in
set_option maxRecDepth 100000 in
theorem rX3_next_7 (d : Nat) (v1 : Int32) (M : Mm) (Q : Int32 → Mm → Prop)
    (h : ((v1 < 0 → BX3_next (d + 1) 34 [(0, .ref 43), (1, .int v1)] [] M Q) ∧ (¬ v1 < 0 → vp_in v1 7 ∧ vp_in (v1 + (1 : Int32)) 7 ∧ (((M 44 v1.toNatClampNeg) < (M 44 (v1 + (1 : Int32)).toNatClampNeg) → BX3_next (d + 1) 34 [(0, .ref 43), (1, .int v1)] [] M Q) ∧ (¬ (M 44 v1.toNatClampNeg) < (M 44 (v1 + (1 : Int32)).toNatClampNeg) → BX3_next (d + 1) 7 [(0, .ref 43), (1, .int (v1 + (-1 : Int32)))] [] M Q))))) : BX3_next (d + 1) 7 [(0, .ref 43), (1, .int v1)] [] M Q := by
  refine B_iload_n dX3_next_7 1 rfl ?_
  refine B_if_lt (tgt := 34) dX3_next_8 (by decide) (fun hc => ?_) (fun hc => ?_)
  · have h := h.1 hc
    refine B_weak [0, 1] rfl ?_
    exact h
  · have h := h.2 hc
    refine B_aload_n dX3_next_11 0 rfl ?_
    refine B_getf (T := TX3) (N := 3) (v := .ref 44) 43 0 dX3_next_12 inX3_next_3 lkX3_next_f9 (Nat.le_of_ble_eq_true rfl) (Nat.le_of_ble_eq_true rfl) rfl rfl (by decide) rfl ?_
    refine B_iload_n dX3_next_15 1 rfl ?_
    obtain ⟨hi, h⟩ := h
    refine B_iald (n := 7) 44 dX3_next_16 (Nat.le_of_ble_eq_true rfl) rfl rfl hi ?_
    refine B_aload_n dX3_next_17 0 rfl ?_
    refine B_getf (T := TX3) (N := 3) (v := .ref 44) 43 0 dX3_next_18 inX3_next_3 lkX3_next_f9 (Nat.le_of_ble_eq_true rfl) (Nat.le_of_ble_eq_true rfl) rfl rfl (by decide) rfl ?_
    refine B_iload_n dX3_next_21 1 rfl ?_
    refine B_iconst (v := 1) dX3_next_22 (by decide) ?_
    refine B_iadd dX3_next_23 ?_
    obtain ⟨hi, h⟩ := h
    refine B_iald (n := 7) 44 dX3_next_24 (Nat.le_of_ble_eq_true rfl) rfl rfl hi ?_
    refine B_icmp_lt (tgt := 34) dX3_next_25 (by decide) (fun hc => ?_) (fun hc => ?_)
    · have h := h.1 hc
      refine B_weak [0, 1] rfl ?_
      exact h
    · have h := h.2 hc
      refine B_iinc (lv1 := [(1, .int (v1 + (-1 : Int32))), (0, .ref 43)]) (v := (v1 + (-1 : Int32))) dX3_next_28 1 rfl rfl (by decide) rfl ?_
      refine B_goto (tgt := 7) dX3_next_31 (by decide) ?_
      refine B_weak [1, 0] rfl ?_
      exact h
set_option maxHeartbeats 4000000 in
set_option maxRecDepth 100000 in
theorem rX3_next_34 (d : Nat) (v1 : Int32) (M : Mm) (Q : Int32 → Mm → Prop)
    (h : ((0 ≤ v1 → BX3_next (d + 1) 46 [(0, .ref 43), (1, .int v1), (2, .int ((M 43 2) - (1 : Int32)))] [] M Q) ∧ (¬ 0 ≤ v1 → Q 0 M))) : BX3_next (d + 1) 34 [(0, .ref 43), (1, .int v1)] [] M Q := by
  refine B_iload_n dX3_next_34 1 rfl ?_
  refine B_if_ge (tgt := 39) dX3_next_35 (by decide) (fun hc => ?_) (fun hc => ?_)
  · have h := h.1 hc
    refine B_aload_n dX3_next_39 0 rfl ?_
    refine B_getf (T := TX3) (N := 3) (v := .int (M 43 2)) 43 2 dX3_next_40 inX3_next_3 lkX3_next_f37 (Nat.le_of_ble_eq_true rfl) (Nat.le_of_ble_eq_true rfl) rfl rfl (by decide) rfl ?_
    refine B_iconst (v := 1) dX3_next_43 (by decide) ?_
    refine B_isub dX3_next_44 ?_
    refine B_istore_n (lv1 := [(2, .int ((M 43 2) - (1 : Int32))), (0, .ref 43), (1, .int v1)]) dX3_next_45 (by decide) rfl ?_
    refine B_weak [1, 2, 0] rfl ?_
    exact h
  · have h := h.2 hc
    exact B_vret dX3_next_38 h
set_option maxHeartbeats 4000000 in
set_option maxRecDepth 100000 in
theorem rX3_next_46 (d : Nat) (v1 : Int32) (v2 : Int32) (M : Mm) (Q : Int32 → Mm → Prop)
    (h : ((v2 ≤ v1 → BX3_next (d + 1) 72 [(0, .ref 43), (1, .int v1), (2, .int v2)] [] M Q) ∧ (¬ v2 ≤ v1 → vp_in v2 7 ∧ vp_in v1 7 ∧ (((M 44 v1.toNatClampNeg) < (M 44 v2.toNatClampNeg) → BX3_next (d + 1) 72 [(0, .ref 43), (1, .int v1), (2, .int v2)] [] M Q) ∧ (¬ (M 44 v1.toNatClampNeg) < (M 44 v2.toNatClampNeg) → BX3_next (d + 1) 46 [(0, .ref 43), (1, .int v1), (2, .int (v2 + (-1 : Int32)))] [] M Q))))) : BX3_next (d + 1) 46 [(0, .ref 43), (1, .int v1), (2, .int v2)] [] M Q := by
  refine B_iload_n dX3_next_46 2 rfl ?_
  refine B_iload_n dX3_next_47 1 rfl ?_
  refine B_icmp_le (tgt := 72) dX3_next_48 (by decide) (fun hc => ?_) (fun hc => ?_)
  · have h := h.1 hc
    refine B_weak [0, 1, 2] rfl ?_
    exact h
  · have h := h.2 hc
    refine B_aload_n dX3_next_51 0 rfl ?_
    refine B_getf (T := TX3) (N := 3) (v := .ref 44) 43 0 dX3_next_52 inX3_next_3 lkX3_next_f9 (Nat.le_of_ble_eq_true rfl) (Nat.le_of_ble_eq_true rfl) rfl rfl (by decide) rfl ?_
    refine B_iload_n dX3_next_55 2 rfl ?_
    obtain ⟨hi, h⟩ := h
    refine B_iald (n := 7) 44 dX3_next_56 (Nat.le_of_ble_eq_true rfl) rfl rfl hi ?_
    refine B_aload_n dX3_next_57 0 rfl ?_
    refine B_getf (T := TX3) (N := 3) (v := .ref 44) 43 0 dX3_next_58 inX3_next_3 lkX3_next_f9 (Nat.le_of_ble_eq_true rfl) (Nat.le_of_ble_eq_true rfl) rfl rfl (by decide) rfl ?_
    refine B_iload_n dX3_next_61 1 rfl ?_
    obtain ⟨hi, h⟩ := h
    refine B_iald (n := 7) 44 dX3_next_62 (Nat.le_of_ble_eq_true rfl) rfl rfl hi ?_
    refine B_icmp_gt (tgt := 72) dX3_next_63 (by decide) (fun hc => ?_) (fun hc => ?_)
    · have h := h.1 hc
      refine B_weak [0, 1, 2] rfl ?_
      exact h
    · have h := h.2 hc
      refine B_iinc (lv1 := [(2, .int (v2 + (-1 : Int32))), (0, .ref 43), (1, .int v1)]) (v := (v2 + (-1 : Int32))) dX3_next_66 2 rfl rfl (by decide) rfl ?_
      refine B_goto (tgt := 46) dX3_next_69 (by decide) ?_
      refine B_weak [1, 2, 0] rfl ?_
      exact h
set_option maxHeartbeats 4000000 in
set_option maxRecDepth 100000 in
theorem rX3_next_72 (d : Nat) (v1 : Int32) (v2 : Int32) (M : Mm) (Q : Int32 → Mm → Prop)
    (h : kX3_exchange d v1 v2 M (fun (_r1 : Int32) (M1 : Mm) => BX3_next (d + 1) 90 [(0, .ref 43), (3, .int (v1 + (1 : Int32))), (4, .int ((M1 43 2) - (1 : Int32)))] [] M1 Q)) : BX3_next (d + 1) 72 [(0, .ref 43), (1, .int v1), (2, .int v2)] [] M Q := by
  refine B_aload_n dX3_next_72 0 rfl ?_
  refine B_iload_n dX3_next_73 1 rfl ?_
  refine B_iload_n dX3_next_74 2 rfl ?_
  refine B_callV (st := []) 43 [.int v1, .int v2] dX3_next_75 gX3_next_X3_exchange rfl hyX3_exchange (Nat.le_of_ble_eq_true rfl) (Nat.le_of_ble_eq_true rfl) TX3 3 rfl (Nat.le_of_ble_eq_true rfl) (Nat.le_of_ble_eq_true rfl) rfl (Ct.mono h (Nat.le_refl _) (fun _r1 M1 h => ?_))
  refine B_iload_n dX3_next_78 1 rfl ?_
  refine B_iconst (v := 1) dX3_next_79 (by decide) ?_
  refine B_iadd dX3_next_80 ?_
  refine B_istore_n (lv1 := [(3, .int (v1 + (1 : Int32))), (0, .ref 43), (1, .int v1), (2, .int v2)]) dX3_next_81 (by decide) rfl ?_
  refine B_aload_n dX3_next_82 1 rfl ?_
  refine B_getf (T := TX3) (N := 3) (v := .int (M1 43 2)) 43 2 dX3_next_83 inX3_next_3 lkX3_next_f37 (Nat.le_of_ble_eq_true rfl) (Nat.le_of_ble_eq_true rfl) rfl rfl (by decide) rfl ?_
  refine B_iconst (v := 1) dX3_next_86 (by decide) ?_
  refine B_isub dX3_next_87 ?_
  refine B_istore (lv1 := [(4, .int ((M1 43 2) - (1 : Int32))), (3, .int (v1 + (1 : Int32))), (0, .ref 43), (1, .int v1), (2, .int v2)]) dX3_next_88 (by decide) rfl ?_
  refine B_weak [2, 1, 0] rfl ?_
  exact h
set_option maxHeartbeats 4000000 in
set_option maxRecDepth 100000 in
theorem rX3_next_90 (d : Nat) (v3 : Int32) (v4 : Int32) (M : Mm) (Q : Int32 → Mm → Prop)
    (h : ((v4 ≤ v3 → Q 0 M) ∧ (¬ v4 ≤ v3 → kX3_exchange d v3 v4 M (fun (_r1 : Int32) (M1 : Mm) => BX3_next (d + 1) 90 [(0, .ref 43), (3, .int (v3 + (1 : Int32))), (4, .int (v4 + (-1 : Int32)))] [] M1 Q)))) : BX3_next (d + 1) 90 [(0, .ref 43), (3, .int v3), (4, .int v4)] [] M Q := by
  refine B_iload_n dX3_next_90 1 rfl ?_
  refine B_iload dX3_next_91 2 rfl ?_
  refine B_icmp_ge (tgt := 112) dX3_next_93 (by decide) (fun hc => ?_) (fun hc => ?_)
  · have h := h.1 hc
    exact B_vret dX3_next_112 h
  · have h := h.2 hc
    refine B_aload_n dX3_next_96 0 rfl ?_
    refine B_iload_n dX3_next_97 1 rfl ?_
    refine B_iload dX3_next_98 2 rfl ?_
    refine B_callV (st := []) 43 [.int v3, .int v4] dX3_next_100 gX3_next_X3_exchange rfl hyX3_exchange (Nat.le_of_ble_eq_true rfl) (Nat.le_of_ble_eq_true rfl) TX3 3 rfl (Nat.le_of_ble_eq_true rfl) (Nat.le_of_ble_eq_true rfl) rfl (Ct.mono h (Nat.le_refl _) (fun _r1 M1 h => ?_))
    refine B_iinc (lv1 := [(3, .int (v3 + (1 : Int32))), (0, .ref 43), (4, .int v4)]) (v := (v3 + (1 : Int32))) dX3_next_103 1 rfl rfl (by decide) rfl ?_
    refine B_iinc (lv1 := [(4, .int (v4 + (-1 : Int32))), (3, .int (v3 + (1 : Int32))), (0, .ref 43)]) (v := (v4 + (-1 : Int32))) dX3_next_106 2 rfl rfl (by decide) rfl ?_
    refine B_goto (tgt := 90) dX3_next_109 (by decide) ?_
    refine B_weak [2, 1, 0] rfl ?_
    exact h
set_option maxHeartbeats 4000000 in
set_option maxRecDepth 100000 in
theorem rX3_exchange (d : Nat) (v1 : Int32) (v2 : Int32) (M : Mm) (Q : Int32 → Mm → Prop)
    (h : vp_in v1 7 ∧ vp_in v2 7 ∧ vp_in v1 7 ∧ (∀ M1 : Mm, M1 = (upd2 M 44 v1.toNatClampNeg (M 44 v2.toNatClampNeg)) → vp_in v2 7 ∧ (∀ M2 : Mm, M2 = (upd2 M1 44 v2.toNatClampNeg (M 44 v1.toNatClampNeg)) → Q 0 M2))) : kX3_exchange d v1 v2 M Q := by
  refine Ct.of (cc := cX3_exchange) (nL := 4) (by decide) rfl (Nat.le_of_ble_eq_true rfl) ?_
  show BX3_exchange d 0 [(0, .ref 43), (1, .int v1), (2, .int v2)] [] M Q
  refine B_aload_n dX3_exchange_0 0 rfl ?_
  refine B_getf (T := TX3) (N := 3) (v := .ref 44) 43 0 dX3_exchange_1 inX3_exchange_3 lkX3_exchange_f9 (Nat.le_of_ble_eq_true rfl) (Nat.le_of_ble_eq_true rfl) rfl rfl (by decide) rfl ?_
  refine B_iload_n dX3_exchange_4 1 rfl ?_
  obtain ⟨hi, h⟩ := h
  refine B_iald (n := 7) 44 dX3_exchange_5 (Nat.le_of_ble_eq_true rfl) rfl rfl hi ?_
  refine B_istore_n (lv1 := [(3, .int (M 44 v1.toNatClampNeg)), (0, .ref 43), (1, .int v1), (2, .int v2)]) dX3_exchange_6 (by decide) rfl ?_
  refine B_aload_n dX3_exchange_7 1 rfl ?_
  refine B_getf (T := TX3) (N := 3) (v := .ref 44) 43 0 dX3_exchange_8 inX3_exchange_3 lkX3_exchange_f9 (Nat.le_of_ble_eq_true rfl) (Nat.le_of_ble_eq_true rfl) rfl rfl (by decide) rfl ?_
  refine B_iload_n dX3_exchange_11 2 rfl ?_
  refine B_aload_n dX3_exchange_12 1 rfl ?_
  refine B_getf (T := TX3) (N := 3) (v := .ref 44) 43 0 dX3_exchange_13 inX3_exchange_3 lkX3_exchange_f9 (Nat.le_of_ble_eq_true rfl) (Nat.le_of_ble_eq_true rfl) rfl rfl (by decide) rfl ?_
  refine B_iload_n dX3_exchange_16 3 rfl ?_
  obtain ⟨hi, h⟩ := h
  refine B_iald (n := 7) 44 dX3_exchange_17 (Nat.le_of_ble_eq_true rfl) rfl rfl hi ?_
  obtain ⟨hi, h⟩ := h
  refine B_iast (n := 7) 44 dX3_exchange_18 (Nat.le_of_ble_eq_true rfl) rfl rfl hi ?_
  have h := h _ rfl
  generalize (upd2 M 44 v1.toNatClampNeg (M 44 v2.toNatClampNeg)) = M1 at h ⊢
  refine B_aload_n dX3_exchange_19 1 rfl ?_
  refine B_getf (T := TX3) (N := 3) (v := .ref 44) 43 0 dX3_exchange_20 inX3_exchange_3 lkX3_exchange_f9 (Nat.le_of_ble_eq_true rfl) (Nat.le_of_ble_eq_true rfl) rfl rfl (by decide) rfl ?_
  refine B_iload_n dX3_exchange_23 3 rfl ?_
  refine B_iload_n dX3_exchange_24 0 rfl ?_
  obtain ⟨hi, h⟩ := h
  refine B_iast (n := 7) 44 dX3_exchange_25 (Nat.le_of_ble_eq_true rfl) rfl rfl hi ?_
  have h := h _ rfl
  generalize (upd2 M1 44 v2.toNatClampNeg (M 44 v1.toNatClampNeg)) = M2 at h ⊢
  exact B_vret dX3_exchange_26 h
set_option maxHeartbeats 4000000 in
set_option maxRecDepth 100000 in
theorem rX3_tally (d : Nat) (o1 : Nat) (ho1 : isRg o1) (M : Mm) (Q : Int32 → Mm → Prop)
    (h : kJ7_fill_53178 d 45 (0 : Int32) M (fun (_r1 : Int32) (M1 : Mm) => BX3_tally (d + 1) 10 [(0, .ref 43), (1, .ref o1), (2, .int (0 : Int32))] [] M1 Q)) : kX3_tally (d + 1) o1 M Q := by
  refine Ct.of (cc := cX3_tally) (nL := 3) (by decide) rfl (Nat.le_of_ble_eq_true rfl) ?_
  show BX3_tally (d + 1) 0 [(0, .ref 43), (1, .ref o1)] [] M Q
  refine B_aload_n dX3_tally_0 0 rfl ?_
  refine B_getf (T := TX3) (N := 3) (v := .ref 45) 43 1 dX3_tally_1 inX3_tally_3 lkX3_tally_f15 (Nat.le_of_ble_eq_true rfl) (Nat.le_of_ble_eq_true rfl) rfl rfl (by decide) rfl ?_
  refine B_iconst (v := 0) dX3_tally_4 (by decide) ?_
  refine B_callS (st := []) [.ref 45, .int (0 : Int32)] dX3_tally_5 gX3_tally_J7_fill_53178 rfl hyJ7_fill_53178 (Nat.le_of_ble_eq_true rfl) (Nat.le_of_ble_eq_true rfl) rfl (Ct.mono h (Nat.le_refl _) (fun _r1 M1 h => ?_))
  refine B_iconst (v := 0) dX3_tally_8 (by decide) ?_
  refine B_istore_n (lv1 := [(2, .int (0 : Int32)), (0, .ref 43), (1, .ref o1)]) dX3_tally_9 (by decide) rfl ?_
  refine B_weak [1, 2, 0] rfl ?_
  exact h
set_option maxHeartbeats 4000000 in
set_option maxRecDepth 100000 in
theorem rX3_tally_10 (d : Nat) (o1 : Nat) (ho1 : isRg o1) (v2 : Int32) (M : Mm) (Q : Int32 → Mm → Prop)
    (h : (((M o1 2) ≤ v2 → Q 0 M) ∧ (¬ (M o1 2) ≤ v2 → vp_in v2 7 ∧ vp_in (M (o1 + 2) v2.toNatClampNeg) 10 ∧ vp_in (M (o1 + 2) v2.toNatClampNeg) 10 ∧ (∀ M1 : Mm, M1 = (upd2 M 45 (M (o1 + 2) v2.toNatClampNeg).toNatClampNeg ((M 45 (M (o1 + 2) v2.toNatClampNeg).toNatClampNeg) + (1 : Int32))) → BX3_tally (d + 1) 10 [(0, .ref 43), (1, .ref o1), (2, .int (v2 + (1 : Int32)))] [] M1 Q)))) : BX3_tally (d + 1) 10 [(0, .ref 43), (1, .ref o1), (2, .int v2)] [] M Q := by
  refine B_iload_n dX3_tally_10 2 rfl ?_
  refine B_aload_n dX3_tally_11 1 rfl ?_
  refine B_getf (T := TX4) (N := 5) (v := .int (M o1 2)) o1 2 dX3_tally_12 inX3_tally_4 lkX3_tally_f22 (rg_lt ho1) (rg_c9 ho1) (rg_cl ho1) (rg_nf ho1) (by decide) (rg_v2 ho1) ?_
  refine B_icmp_ge (tgt := 39) dX3_tally_15 (by decide) (fun hc => ?_) (fun hc => ?_)
  · have h := h.1 hc
    exact B_vret dX3_tally_39 h
  · have h := h.2 hc
    refine B_aload_n dX3_tally_18 0 rfl ?_
    refine B_getf (T := TX3) (N := 3) (v := .ref 45) 43 1 dX3_tally_19 inX3_tally_3 lkX3_tally_f15 (Nat.le_of_ble_eq_true rfl) (Nat.le_of_ble_eq_true rfl) rfl rfl (by decide) rfl ?_
    refine B_aload_n dX3_tally_22 1 rfl ?_
    refine B_getf (T := TX4) (N := 5) (v := .ref (o1 + 2)) o1 1 dX3_tally_23 inX3_tally_4 lkX3_tally_f32 (rg_lt ho1) (rg_c9 ho1) (rg_cl ho1) (rg_nf ho1) (by decide) (rg_v1 ho1) ?_
    refine B_iload_n dX3_tally_26 2 rfl ?_
    obtain ⟨hi, h⟩ := h
    refine B_iald (n := 7) (o1 + 2) dX3_tally_27 (rg2_lt ho1) (rg2_c ho1) (rg2_n ho1) hi ?_
    refine B_dup2 dX3_tally_28 rfl rfl ?_
    obtain ⟨hi, h⟩ := h
    refine B_iald (n := 10) 45 dX3_tally_29 (Nat.le_of_ble_eq_true rfl) rfl rfl hi ?_
    refine B_iconst (v := 1) dX3_tally_30 (by decide) ?_
    refine B_iadd dX3_tally_31 ?_
    obtain ⟨hi, h⟩ := h
    refine B_iast (n := 10) 45 dX3_tally_32 (Nat.le_of_ble_eq_true rfl) rfl rfl hi ?_
    have h := h _ rfl
    generalize (upd2 M 45 (M (o1 + 2) v2.toNatClampNeg).toNatClampNeg ((M 45 (M (o1 + 2) v2.toNatClampNeg).toNatClampNeg) + (1 : Int32))) = M1 at h ⊢
    refine B_iinc (lv1 := [(2, .int (v2 + (1 : Int32))), (0, .ref 43), (1, .ref o1)]) (v := (v2 + (1 : Int32))) dX3_tally_33 2 rfl rfl (by decide) rfl ?_
    refine B_goto (tgt := 10) dX3_tally_36 (by decide) ?_
    refine B_weak [1, 2, 0] rfl ?_
    exact h
set_option maxHeartbeats 4000000 in
set_option maxRecDepth 100000 in
theorem rX3_ways (d : Nat) (v1 : Int32) (M : Mm) (Q : Int32 → Mm → Prop)
    (h : vp_in (0 : Int32) 10 ∧ BX3_ways d 11 [(1, .int v1), (2, .int (1 : Int32)), (3, .int ((M 45 (0 : Int32).toNatClampNeg) + (1 : Int32)))] [] M Q) : kX3_ways d v1 M Q := by
  refine Ct.of (cc := cX3_ways) (nL := 4) (by decide) rfl (Nat.le_of_ble_eq_true rfl) ?_
  show BX3_ways d 0 [(0, .ref 43), (1, .int v1)] [] M Q
  refine B_iconst (v := 1) dX3_ways_0 (by decide) ?_
  refine B_istore_n (lv1 := [(2, .int (1 : Int32)), (0, .ref 43), (1, .int v1)]) dX3_ways_1 (by decide) rfl ?_
  refine B_aload_n dX3_ways_2 1 rfl ?_
  refine B_getf (T := TX3) (N := 3) (v := .ref 45) 43 1 dX3_ways_3 inX3_ways_3 lkX3_ways_f15 (Nat.le_of_ble_eq_true rfl) (Nat.le_of_ble_eq_true rfl) rfl rfl (by decide) rfl ?_
  refine B_iconst (v := 0) dX3_ways_6 (by decide) ?_
  obtain ⟨hi, h⟩ := h
  refine B_iald (n := 10) 45 dX3_ways_7 (Nat.le_of_ble_eq_true rfl) rfl rfl hi ?_
  refine B_iconst (v := 1) dX3_ways_8 (by decide) ?_
  refine B_iadd dX3_ways_9 ?_
  refine B_istore_n (lv1 := [(3, .int ((M 45 (0 : Int32).toNatClampNeg) + (1 : Int32))), (2, .int (1 : Int32)), (0, .ref 43), (1, .int v1)]) dX3_ways_10 (by decide) rfl ?_
  refine B_weak [3, 1, 0] rfl ?_
  exact h
set_option maxHeartbeats 4000000 in
set_option maxRecDepth 100000 in
theorem rX3_ways_11 (d : Nat) (v1 : Int32) (v2 : Int32) (v3 : Int32) (M : Mm) (Q : Int32 → Mm → Prop)
    (h : ((v1 < v3 → Q v2 M) ∧ (¬ v1 < v3 → BX3_ways d 11 [(1, .int v1), (2, .int (v2 * v3)), (3, .int (v3 + (1 : Int32)))] [] M Q))) : BX3_ways d 11 [(1, .int v1), (2, .int v2), (3, .int v3)] [] M Q := by
  refine B_iload_n dX3_ways_11 2 rfl ?_
  refine B_iload_n dX3_ways_12 0 rfl ?_
  refine B_icmp_gt (tgt := 26) dX3_ways_13 (by decide) (fun hc => ?_) (fun hc => ?_)
  · have h := h.1 hc
    refine B_iload_n dX3_ways_26 1 rfl ?_
    exact B_iret dX3_ways_27 h
  · have h := h.2 hc
    refine B_iload_n dX3_ways_16 1 rfl ?_
    refine B_iload_n dX3_ways_17 2 rfl ?_
    refine B_imul dX3_ways_18 ?_
    refine B_istore_n (lv1 := [(2, .int (v2 * v3)), (1, .int v1), (3, .int v3)]) dX3_ways_19 (by decide) rfl ?_
    refine B_iinc (lv1 := [(3, .int (v3 + (1 : Int32))), (2, .int (v2 * v3)), (1, .int v1)]) (v := (v3 + (1 : Int32))) dX3_ways_20 2 rfl rfl (by decide) rfl ?_
    refine B_goto (tgt := 11) dX3_ways_23 (by decide) ?_
    refine B_weak [2, 1, 0] rfl ?_
    exact h
set_option maxHeartbeats 4000000 in
set_option maxRecDepth 100000 in
theorem rX4_become (d : Nat) (o0 : Nat) (ho0 : isRg o0) (o1 : Nat) (ho1 : isRg o1) (M : Mm) (Q : Int32 → Mm → Prop)
    (h : (¬ (0 : Int32) < 0 ∧ ¬ (0 : Int32) < 0 ∧ ¬ (7 : Int32) < 0 ∧ (0 : Int32).toNatClampNeg + (7 : Int32).toNatClampNeg ≤ 7 ∧ (0 : Int32).toNatClampNeg + (7 : Int32).toNatClampNeg ≤ 7) ∧ (∀ M1 : Mm, M1 = (setR M (o0 + 1) (va_cpy (M (o1 + 1)) (M (o0 + 1)) (0 : Int32).toNatClampNeg (0 : Int32).toNatClampNeg (7 : Int32).toNatClampNeg)) → (¬ (0 : Int32) < 0 ∧ ¬ (0 : Int32) < 0 ∧ ¬ (7 : Int32) < 0 ∧ (0 : Int32).toNatClampNeg + (7 : Int32).toNatClampNeg ≤ 7 ∧ (0 : Int32).toNatClampNeg + (7 : Int32).toNatClampNeg ≤ 7) ∧ (∀ M2 : Mm, M2 = (setR M1 (o0 + 2) (va_cpy (M1 (o1 + 2)) (M1 (o0 + 2)) (0 : Int32).toNatClampNeg (0 : Int32).toNatClampNeg (7 : Int32).toNatClampNeg)) → (∀ M3 : Mm, M3 = (upd2 M2 o0 2 (M2 o1 2)) → (∀ M4 : Mm, M4 = (upd2 M3 o0 3 (M3 o1 3)) → (∀ M5 : Mm, M5 = (upd2 M4 o0 4 (M4 o1 4)) → Q 0 M5)))))) : kX4_become (d + 1) o0 o1 M Q := by
  refine Ct.of (cc := cX4_become) (nL := 2) (by decide) rfl (Nat.le_of_ble_eq_true rfl) ?_
  show BX4_become (d + 1) 0 [(0, .ref o0), (1, .ref o1)] [] M Q
  refine B_aload_n dX4_become_0 1 rfl ?_
  refine B_getf (T := TX4) (N := 5) (v := .ref (o1 + 1)) o1 0 dX4_become_1 inX4_become_4 lkX4_become_f9 (rg_lt ho1) (rg_c9 ho1) (rg_cl ho1) (rg_nf ho1) (by decide) (rg_v0 ho1) ?_
  refine B_iconst (v := 0) dX4_become_4 (by decide) ?_
  refine B_aload_n dX4_become_5 0 rfl ?_
  refine B_getf (T := TX4) (N := 5) (v := .ref (o0 + 1)) o0 0 dX4_become_6 inX4_become_4 lkX4_become_f9 (rg_lt ho0) (rg_c9 ho0) (rg_cl ho0) (rg_nf ho0) (by decide) (rg_v0 ho0) ?_
  refine B_iconst (v := 0) dX4_become_9 (by decide) ?_
  refine B_bipush (v := 7) dX4_become_10 (by decide) ?_
  obtain ⟨⟨g1, g2, g3, g4, g5⟩, h⟩ := h
  refine B_copy (n0 := 7) (n1 := 7) (o1 + 1) (o0 + 1) dX4_become_12 lkX4_become_m18 lkX4_become_n0 lkX4_become_s0 lkX4_become_i0 (rg1_lt ho1) (rg1_c ho1) (rg1_n ho1) (rg1_lt ho0) (rg1_c ho0) (rg1_n ho0) g1 g2 g3 g4 g5 (Nat.le_of_ble_eq_true rfl) ?_
  have h := h _ rfl
  generalize (setR M (o0 + 1) (va_cpy (M (o1 + 1)) (M (o0 + 1)) (0 : Int32).toNatClampNeg (0 : Int32).toNatClampNeg (7 : Int32).toNatClampNeg)) = M1 at h ⊢
  refine B_aload_n dX4_become_15 1 rfl ?_
  refine B_getf (T := TX4) (N := 5) (v := .ref (o1 + 2)) o1 1 dX4_become_16 inX4_become_4 lkX4_become_f15 (rg_lt ho1) (rg_c9 ho1) (rg_cl ho1) (rg_nf ho1) (by decide) (rg_v1 ho1) ?_
  refine B_iconst (v := 0) dX4_become_19 (by decide) ?_
  refine B_aload_n dX4_become_20 0 rfl ?_
  refine B_getf (T := TX4) (N := 5) (v := .ref (o0 + 2)) o0 1 dX4_become_21 inX4_become_4 lkX4_become_f15 (rg_lt ho0) (rg_c9 ho0) (rg_cl ho0) (rg_nf ho0) (by decide) (rg_v1 ho0) ?_
  refine B_iconst (v := 0) dX4_become_24 (by decide) ?_
  refine B_bipush (v := 7) dX4_become_25 (by decide) ?_
  obtain ⟨⟨g1, g2, g3, g4, g5⟩, h⟩ := h
  refine B_copy (n0 := 7) (n1 := 7) (o1 + 2) (o0 + 2) dX4_become_27 lkX4_become_m18 lkX4_become_n0 lkX4_become_s0 lkX4_become_i0 (rg2_lt ho1) (rg2_c ho1) (rg2_n ho1) (rg2_lt ho0) (rg2_c ho0) (rg2_n ho0) g1 g2 g3 g4 g5 (Nat.le_of_ble_eq_true rfl) ?_
  have h := h _ rfl
  generalize (setR M1 (o0 + 2) (va_cpy (M1 (o1 + 2)) (M1 (o0 + 2)) (0 : Int32).toNatClampNeg (0 : Int32).toNatClampNeg (7 : Int32).toNatClampNeg)) = M2 at h ⊢
  refine B_aload_n dX4_become_30 0 rfl ?_
  refine B_aload_n dX4_become_31 1 rfl ?_
  refine B_getf (T := TX4) (N := 5) (v := .int (M2 o1 2)) o1 2 dX4_become_32 inX4_become_4 lkX4_become_f24 (rg_lt ho1) (rg_c9 ho1) (rg_cl ho1) (rg_nf ho1) (by decide) (rg_v2 ho1) ?_
  refine B_putf (T := TX4) (N := 5) o0 2 tyX4 tyX4_ok nmX4 dX4_become_35 inX4_become_4 lkX4_become_f24 (rg_lt ho0) (rg_c9 ho0) (rg_cl ho0) (rg_nf ho0) (by decide) (rg_r2 ho0) rfl (by decide +kernel) ?_
  have h := h _ rfl
  generalize (upd2 M2 o0 2 (M2 o1 2)) = M3 at h ⊢
  refine B_aload_n dX4_become_38 0 rfl ?_
  refine B_aload_n dX4_become_39 1 rfl ?_
  refine B_getf (T := TX4) (N := 5) (v := .int (M3 o1 3)) o1 3 dX4_become_40 inX4_become_4 lkX4_become_f28 (rg_lt ho1) (rg_c9 ho1) (rg_cl ho1) (rg_nf ho1) (by decide) (rg_v3 ho1) ?_
  refine B_putf (T := TX4) (N := 5) o0 3 tyX4 tyX4_ok nmX4 dX4_become_43 inX4_become_4 lkX4_become_f28 (rg_lt ho0) (rg_c9 ho0) (rg_cl ho0) (rg_nf ho0) (by decide) (rg_r3 ho0) rfl (by decide +kernel) ?_
  have h := h _ rfl
  generalize (upd2 M3 o0 3 (M3 o1 3)) = M4 at h ⊢
  refine B_aload_n dX4_become_46 0 rfl ?_
  refine B_aload_n dX4_become_47 1 rfl ?_
  refine B_getf (T := TX4) (N := 5) (v := .int (M4 o1 4)) o1 4 dX4_become_48 inX4_become_4 lkX4_become_f31 (rg_lt ho1) (rg_c9 ho1) (rg_cl ho1) (rg_nf ho1) (by decide) (rg_v4 ho1) ?_
  refine B_putf (T := TX4) (N := 5) o0 4 tyX4 tyX4_ok nmX4 dX4_become_51 inX4_become_4 lkX4_become_f31 (rg_lt ho0) (rg_c9 ho0) (rg_cl ho0) (rg_nf ho0) (by decide) (rg_r4 ho0) rfl (by decide +kernel) ?_
  have h := h _ rfl
  generalize (upd2 M4 o0 4 (M4 o1 4)) = M5 at h ⊢
  exact B_vret dX4_become_54 h
set_option maxHeartbeats 4000000 in
set_option maxRecDepth 100000 in
theorem rX4_isSaint (d : Nat) (o0 : Nat) (ho0 : isRg o0) (v1 : Int32) (M : Mm) (Q : Int32 → Mm → Prop)
    (h : ((v1 < 0 → Q (0 : Int32) M) ∧ (¬ v1 < 0 → (((M o0 2) ≤ v1 → Q (0 : Int32) M) ∧ (¬ (M o0 2) ≤ v1 → Q (1 : Int32) M))))) : kX4_isSaint d o0 v1 M Q := by
  refine Ct.of (cc := cX4_isSaint) (nL := 2) (by decide) rfl (Nat.le_of_ble_eq_true rfl) ?_
  show BX4_isSaint d 0 [(0, .ref o0), (1, .int v1)] [] M Q
  refine B_iload_n dX4_isSaint_0 1 rfl ?_
  refine B_if_lt (tgt := 16) dX4_isSaint_1 (by decide) (fun hc => ?_) (fun hc => ?_)
  · have h := h.1 hc
    refine B_iconst (v := 0) dX4_isSaint_16 (by decide) ?_
    exact B_zret dX4_isSaint_17 (Or.inl rfl) h
  · have h := h.2 hc
    refine B_iload_n dX4_isSaint_4 1 rfl ?_
    refine B_aload_n dX4_isSaint_5 0 rfl ?_
    refine B_getf (T := TX4) (N := 5) (v := .int (M o0 2)) o0 2 dX4_isSaint_6 inX4_isSaint_4 lkX4_isSaint_f24 (rg_lt ho0) (rg_c9 ho0) (rg_cl ho0) (rg_nf ho0) (by decide) (rg_v2 ho0) ?_
    refine B_icmp_ge (tgt := 16) dX4_isSaint_9 (by decide) (fun hc => ?_) (fun hc => ?_)
    · have h := h.1 hc
      refine B_iconst (v := 0) dX4_isSaint_16 (by decide) ?_
      exact B_zret dX4_isSaint_17 (Or.inl rfl) h
    · have h := h.2 hc
      refine B_iconst (v := 1) dX4_isSaint_12 (by decide) ?_
      refine B_goto (tgt := 17) dX4_isSaint_13 (by decide) ?_
      exact B_zret dX4_isSaint_17 (Or.inr rfl) h
set_option maxHeartbeats 4000000 in
set_option maxRecDepth 100000 in
theorem rX4_after (d : Nat) (o0 : Nat) (ho0 : isRg o0) (v1 : Int32) (M : Mm) (Q : Int32 → Mm → Prop)
    (h : (((M o0 2) ≤ (v1 + (1 : Int32)) → Q (0 : Int32) M) ∧ (¬ (M o0 2) ≤ (v1 + (1 : Int32)) → Q (v1 + (1 : Int32)) M))) : kX4_after d o0 v1 M Q := by
  refine Ct.of (cc := cX4_after) (nL := 2) (by decide) rfl (Nat.le_of_ble_eq_true rfl) ?_
  show BX4_after d 0 [(0, .ref o0), (1, .int v1)] [] M Q
  refine B_iload_n dX4_after_0 1 rfl ?_
  refine B_iconst (v := 1) dX4_after_1 (by decide) ?_
  refine B_iadd dX4_after_2 ?_
  refine B_aload_n dX4_after_3 0 rfl ?_
  refine B_getf (T := TX4) (N := 5) (v := .int (M o0 2)) o0 2 dX4_after_4 inX4_after_4 lkX4_after_f24 (rg_lt ho0) (rg_c9 ho0) (rg_cl ho0) (rg_nf ho0) (by decide) (rg_v2 ho0) ?_
  refine B_icmp_ge (tgt := 16) dX4_after_7 (by decide) (fun hc => ?_) (fun hc => ?_)
  · have h := h.1 hc
    refine B_iconst (v := 0) dX4_after_16 (by decide) ?_
    exact B_iret dX4_after_17 h
  · have h := h.2 hc
    refine B_iload_n dX4_after_10 1 rfl ?_
    refine B_iconst (v := 1) dX4_after_11 (by decide) ?_
    refine B_iadd dX4_after_12 ?_
    refine B_goto (tgt := 17) dX4_after_13 (by decide) ?_
    exact B_iret dX4_after_17 h
set_option maxHeartbeats 4000000 in
set_option maxRecDepth 100000 in
theorem rX4_before (d : Nat) (o0 : Nat) (ho0 : isRg o0) (v1 : Int32) (M : Mm) (Q : Int32 → Mm → Prop)
    (h : ((v1 ≤ 0 → Q ((M o0 2) - (1 : Int32)) M) ∧ (¬ v1 ≤ 0 → Q (v1 - (1 : Int32)) M))) : kX4_before d o0 v1 M Q := by
  refine Ct.of (cc := cX4_before) (nL := 2) (by decide) rfl (Nat.le_of_ble_eq_true rfl) ?_
  show BX4_before d 0 [(0, .ref o0), (1, .int v1)] [] M Q
  refine B_iload_n dX4_before_0 1 rfl ?_
  refine B_if_le (tgt := 10) dX4_before_1 (by decide) (fun hc => ?_) (fun hc => ?_)
  · have h := h.1 hc
    refine B_aload_n dX4_before_10 0 rfl ?_
    refine B_getf (T := TX4) (N := 5) (v := .int (M o0 2)) o0 2 dX4_before_11 inX4_before_4 lkX4_before_f24 (rg_lt ho0) (rg_c9 ho0) (rg_cl ho0) (rg_nf ho0) (by decide) (rg_v2 ho0) ?_
    refine B_iconst (v := 1) dX4_before_14 (by decide) ?_
    refine B_isub dX4_before_15 ?_
    exact B_iret dX4_before_16 h
  · have h := h.2 hc
    refine B_iload_n dX4_before_4 1 rfl ?_
    refine B_iconst (v := 1) dX4_before_5 (by decide) ?_
    refine B_isub dX4_before_6 ?_
    refine B_goto (tgt := 16) dX4_before_7 (by decide) ?_
    exact B_iret dX4_before_16 h
set_option maxHeartbeats 4000000 in
set_option maxRecDepth 100000 in
theorem rX4_lets (d : Nat) (o0 : Nat) (ho0 : isRg o0) (v1 : Int32) (M : Mm) (Q : Int32 → Mm → Prop)
    (h : vp_in v1 7 ∧ (((M (o0 + 2) v1.toNatClampNeg) = 0 → Q (1 : Int32) M) ∧ (¬ (M (o0 + 2) v1.toNatClampNeg) = 0 → vp_in v1 7 ∧ (((M (o0 + 1) v1.toNatClampNeg) = (4 : Int32) → Q (0 : Int32) M) ∧ (¬ (M (o0 + 1) v1.toNatClampNeg) = (4 : Int32) → vp_in v1 7 ∧ (((M (o0 + 1) v1.toNatClampNeg) = (5 : Int32) → Q (0 : Int32) M) ∧ (¬ (M (o0 + 1) v1.toNatClampNeg) = (5 : Int32) → Q (1 : Int32) M))))))) : kX4_lets d o0 v1 M Q := by
  refine Ct.of (cc := cX4_lets) (nL := 2) (by decide) rfl (Nat.le_of_ble_eq_true rfl) ?_
  show BX4_lets d 0 [(0, .ref o0), (1, .int v1)] [] M Q
  refine B_aload_n dX4_lets_0 0 rfl ?_
  refine B_getf (T := TX4) (N := 5) (v := .ref (o0 + 2)) o0 1 dX4_lets_1 inX4_lets_4 lkX4_lets_f15 (rg_lt ho0) (rg_c9 ho0) (rg_cl ho0) (rg_nf ho0) (by decide) (rg_v1 ho0) ?_
  refine B_iload_n dX4_lets_4 1 rfl ?_
  obtain ⟨hi, h⟩ := h
  refine B_iald (n := 7) (o0 + 2) dX4_lets_5 (rg2_lt ho0) (rg2_c ho0) (rg2_n ho0) hi ?_
  refine B_if_eq (tgt := 29) dX4_lets_6 (by decide) (fun hc => ?_) (fun hc => ?_)
  · have h := h.1 hc
    refine B_iconst (v := 1) dX4_lets_29 (by decide) ?_
    refine B_goto (tgt := 34) dX4_lets_30 (by decide) ?_
    exact B_zret dX4_lets_34 (Or.inr rfl) h
  · have h := h.2 hc
    refine B_aload_n dX4_lets_9 0 rfl ?_
    refine B_getf (T := TX4) (N := 5) (v := .ref (o0 + 1)) o0 0 dX4_lets_10 inX4_lets_4 lkX4_lets_f9 (rg_lt ho0) (rg_c9 ho0) (rg_cl ho0) (rg_nf ho0) (by decide) (rg_v0 ho0) ?_
    refine B_iload_n dX4_lets_13 1 rfl ?_
    obtain ⟨hi, h⟩ := h
    refine B_iald (n := 7) (o0 + 1) dX4_lets_14 (rg1_lt ho0) (rg1_c ho0) (rg1_n ho0) hi ?_
    refine B_iconst (v := 4) dX4_lets_15 (by decide) ?_
    refine B_icmp_eq (tgt := 33) dX4_lets_16 (by decide) (fun hc => ?_) (fun hc => ?_)
    · have h := h.1 hc
      refine B_iconst (v := 0) dX4_lets_33 (by decide) ?_
      exact B_zret dX4_lets_34 (Or.inl rfl) h
    · have h := h.2 hc
      refine B_aload_n dX4_lets_19 0 rfl ?_
      refine B_getf (T := TX4) (N := 5) (v := .ref (o0 + 1)) o0 0 dX4_lets_20 inX4_lets_4 lkX4_lets_f9 (rg_lt ho0) (rg_c9 ho0) (rg_cl ho0) (rg_nf ho0) (by decide) (rg_v0 ho0) ?_
      refine B_iload_n dX4_lets_23 1 rfl ?_
      obtain ⟨hi, h⟩ := h
      refine B_iald (n := 7) (o0 + 1) dX4_lets_24 (rg1_lt ho0) (rg1_c ho0) (rg1_n ho0) hi ?_
      refine B_iconst (v := 5) dX4_lets_25 (by decide) ?_
      refine B_icmp_eq (tgt := 33) dX4_lets_26 (by decide) (fun hc => ?_) (fun hc => ?_)
      · have h := h.1 hc
        refine B_iconst (v := 0) dX4_lets_33 (by decide) ?_
        exact B_zret dX4_lets_34 (Or.inl rfl) h
      · have h := h.2 hc
        refine B_iconst (v := 1) dX4_lets_29 (by decide) ?_
        refine B_goto (tgt := 34) dX4_lets_30 (by decide) ?_
        exact B_zret dX4_lets_34 (Or.inr rfl) h
set_option maxHeartbeats 4000000 in
set_option maxRecDepth 100000 in
theorem rX4_exchange (d : Nat) (o0 : Nat) (ho0 : isRg o0) (v1 : Int32) (v2 : Int32) (M : Mm) (Q : Int32 → Mm → Prop)
    (h : vp_in v1 7 ∧ vp_in v2 7 ∧ vp_in v1 7 ∧ (∀ M1 : Mm, M1 = (upd2 M (o0 + 2) v1.toNatClampNeg (M (o0 + 2) v2.toNatClampNeg)) → vp_in v2 7 ∧ (∀ M2 : Mm, M2 = (upd2 M1 (o0 + 2) v2.toNatClampNeg (M (o0 + 2) v1.toNatClampNeg)) → Q 0 M2))) : kX4_exchange d o0 v1 v2 M Q := by
  refine Ct.of (cc := cX4_exchange) (nL := 4) (by decide) rfl (Nat.le_of_ble_eq_true rfl) ?_
  show BX4_exchange d 0 [(0, .ref o0), (1, .int v1), (2, .int v2)] [] M Q
  refine B_aload_n dX4_exchange_0 0 rfl ?_
  refine B_getf (T := TX4) (N := 5) (v := .ref (o0 + 2)) o0 1 dX4_exchange_1 inX4_exchange_4 lkX4_exchange_f15 (rg_lt ho0) (rg_c9 ho0) (rg_cl ho0) (rg_nf ho0) (by decide) (rg_v1 ho0) ?_
  refine B_iload_n dX4_exchange_4 1 rfl ?_
  obtain ⟨hi, h⟩ := h
  refine B_iald (n := 7) (o0 + 2) dX4_exchange_5 (rg2_lt ho0) (rg2_c ho0) (rg2_n ho0) hi ?_
  refine B_istore_n (lv1 := [(3, .int (M (o0 + 2) v1.toNatClampNeg)), (0, .ref o0), (1, .int v1), (2, .int v2)]) dX4_exchange_6 (by decide) rfl ?_
  refine B_aload_n dX4_exchange_7 1 rfl ?_
  refine B_getf (T := TX4) (N := 5) (v := .ref (o0 + 2)) o0 1 dX4_exchange_8 inX4_exchange_4 lkX4_exchange_f15 (rg_lt ho0) (rg_c9 ho0) (rg_cl ho0) (rg_nf ho0) (by decide) (rg_v1 ho0) ?_
  refine B_iload_n dX4_exchange_11 2 rfl ?_
  refine B_aload_n dX4_exchange_12 1 rfl ?_
  refine B_getf (T := TX4) (N := 5) (v := .ref (o0 + 2)) o0 1 dX4_exchange_13 inX4_exchange_4 lkX4_exchange_f15 (rg_lt ho0) (rg_c9 ho0) (rg_cl ho0) (rg_nf ho0) (by decide) (rg_v1 ho0) ?_
  refine B_iload_n dX4_exchange_16 3 rfl ?_
  obtain ⟨hi, h⟩ := h
  refine B_iald (n := 7) (o0 + 2) dX4_exchange_17 (rg2_lt ho0) (rg2_c ho0) (rg2_n ho0) hi ?_
  obtain ⟨hi, h⟩ := h
  refine B_iast (n := 7) (o0 + 2) dX4_exchange_18 (rg2_lt ho0) (rg2_c ho0) (rg2_n ho0) hi ?_
  have h := h _ rfl
  generalize (upd2 M (o0 + 2) v1.toNatClampNeg (M (o0 + 2) v2.toNatClampNeg)) = M1 at h ⊢
  refine B_aload_n dX4_exchange_19 1 rfl ?_
  refine B_getf (T := TX4) (N := 5) (v := .ref (o0 + 2)) o0 1 dX4_exchange_20 inX4_exchange_4 lkX4_exchange_f15 (rg_lt ho0) (rg_c9 ho0) (rg_cl ho0) (rg_nf ho0) (by decide) (rg_v1 ho0) ?_
  refine B_iload_n dX4_exchange_23 3 rfl ?_
  refine B_iload_n dX4_exchange_24 0 rfl ?_
  obtain ⟨hi, h⟩ := h
  refine B_iast (n := 7) (o0 + 2) dX4_exchange_25 (rg2_lt ho0) (rg2_c ho0) (rg2_n ho0) hi ?_
  have h := h _ rfl
  generalize (upd2 M1 (o0 + 2) v2.toNatClampNeg (M (o0 + 2) v1.toNatClampNeg)) = M2 at h ⊢
  exact B_vret dX4_exchange_26 h
set_option maxHeartbeats 4000000 in
set_option maxRecDepth 100000 in
theorem rX4_advance (d : Nat) (o0 : Nat) (ho0 : isRg o0) (v1 : Int32) (M : Mm) (Q : Int32 → Mm → Prop)
    (h : BX4_advance (d + 1) 2 [(0, .ref o0), (1, .int v1), (2, .int (0 : Int32))] [] M Q) : kX4_advance (d + 1) o0 v1 M Q := by
  refine Ct.of (cc := cX4_advance) (nL := 3) (by decide) rfl (Nat.le_of_ble_eq_true rfl) ?_
  show BX4_advance (d + 1) 0 [(0, .ref o0), (1, .int v1)] [] M Q
  refine B_iconst (v := 0) dX4_advance_0 (by decide) ?_
  refine B_istore_n (lv1 := [(2, .int (0 : Int32)), (0, .ref o0), (1, .int v1)]) dX4_advance_1 (by decide) rfl ?_
  refine B_weak [1, 2, 0] rfl ?_
  exact h
set_option maxHeartbeats 4000000 in
set_option maxRecDepth 100000 in
theorem rX4_advance_2 (d : Nat) (o0 : Nat) (ho0 : isRg o0) (v1 : Int32) (v2 : Int32) (M : Mm) (Q : Int32 → Mm → Prop)
    (h : (((M o0 2) ≤ v2 → (∀ M1 : Mm, M1 = (upd2 M o0 3 ((M o0 3) + (1 : Int32))) → kX4_isMatins d o0 M1 (fun (r1 : Int32) (M2 : Mm) => ((r1 = 0 → Q 0 M2) ∧ (¬ r1 = 0 → kX4_singMatins d o0 M2 (fun (_r2 : Int32) (M3 : Mm) => Q 0 M3)))))) ∧ (¬ (M o0 2) ≤ v2 → ((¬ ((ishr v1 v2) &&& (1 : Int32)) = 0 → BX4_advance (d + 1) 2 [(0, .ref o0), (1, .int v1), (2, .int (v2 + (1 : Int32)))] [] M Q) ∧ (((ishr v1 v2) &&& (1 : Int32)) = 0 → kX4_turn d o0 v2 M (fun (_r3 : Int32) (M4 : Mm) => BX4_advance (d + 1) 2 [(0, .ref o0), (1, .int v1), (2, .int (v2 + (1 : Int32)))] [] M4 Q)))))) : BX4_advance (d + 1) 2 [(0, .ref o0), (1, .int v1), (2, .int v2)] [] M Q := by
  refine B_iload_n dX4_advance_2 2 rfl ?_
  refine B_aload_n dX4_advance_3 0 rfl ?_
  refine B_getf (T := TX4) (N := 5) (v := .int (M o0 2)) o0 2 dX4_advance_4 inX4_advance_4 lkX4_advance_f24 (rg_lt ho0) (rg_c9 ho0) (rg_cl ho0) (rg_nf ho0) (by decide) (rg_v2 ho0) ?_
  refine B_icmp_ge (tgt := 29) dX4_advance_7 (by decide) (fun hc => ?_) (fun hc => ?_)
  · have h := h.1 hc
    refine B_aload_n dX4_advance_29 0 rfl ?_
    refine B_dup dX4_advance_30 rfl ?_
    refine B_getf (T := TX4) (N := 5) (v := .int (M o0 3)) o0 3 dX4_advance_31 inX4_advance_4 lkX4_advance_f28 (rg_lt ho0) (rg_c9 ho0) (rg_cl ho0) (rg_nf ho0) (by decide) (rg_v3 ho0) ?_
    refine B_iconst (v := 1) dX4_advance_34 (by decide) ?_
    refine B_iadd dX4_advance_35 ?_
    refine B_putf (T := TX4) (N := 5) o0 3 tyX4 tyX4_ok nmX4 dX4_advance_36 inX4_advance_4 lkX4_advance_f28 (rg_lt ho0) (rg_c9 ho0) (rg_cl ho0) (rg_nf ho0) (by decide) (rg_r3 ho0) rfl (by decide +kernel) ?_
    have h := h _ rfl
    generalize (upd2 M o0 3 ((M o0 3) + (1 : Int32))) = M1 at h ⊢
    refine B_aload_n dX4_advance_39 0 rfl ?_
    refine B_callV (st := []) o0 [] dX4_advance_40 gX4_advance_X4_isMatins rfl hyX4_isMatins (rg_lt ho0) (rg_c9 ho0) TX4 5 (rg_cl ho0) (Nat.le_of_ble_eq_true rfl) (Nat.le_of_ble_eq_true rfl) rfl (Ct.mono h (Nat.le_refl _) (fun r1 M2 h => ?_))
    refine B_if_eq (tgt := 50) dX4_advance_43 (by decide) (fun hc => ?_) (fun hc => ?_)
    · have h := h.1 hc
      exact B_vret dX4_advance_50 h
    · have h := h.2 hc
      refine B_aload_n dX4_advance_46 0 rfl ?_
      refine B_callV (st := []) o0 [] dX4_advance_47 gX4_advance_X4_singMatins rfl hyX4_singMatins (rg_lt ho0) (rg_c9 ho0) TX4 5 (rg_cl ho0) (Nat.le_of_ble_eq_true rfl) (Nat.le_of_ble_eq_true rfl) rfl (Ct.mono h (Nat.le_refl _) (fun _r2 M3 h => ?_))
      exact B_vret dX4_advance_50 h
  · have h := h.2 hc
    refine B_iload_n dX4_advance_10 1 rfl ?_
    refine B_iload_n dX4_advance_11 2 rfl ?_
    refine B_ishr dX4_advance_12 ?_
    refine B_iconst (v := 1) dX4_advance_13 (by decide) ?_
    refine B_iand dX4_advance_14 ?_
    refine B_if_ne (tgt := 23) dX4_advance_15 (by decide) (fun hc => ?_) (fun hc => ?_)
    · have h := h.1 hc
      refine B_iinc (lv1 := [(2, .int (v2 + (1 : Int32))), (0, .ref o0), (1, .int v1)]) (v := (v2 + (1 : Int32))) dX4_advance_23 2 rfl rfl (by decide) rfl ?_
      refine B_goto (tgt := 2) dX4_advance_26 (by decide) ?_
      refine B_weak [1, 2, 0] rfl ?_
      exact h
    · have h := h.2 hc
      refine B_aload_n dX4_advance_18 0 rfl ?_
      refine B_iload_n dX4_advance_19 2 rfl ?_
      refine B_callV (st := []) o0 [.int v2] dX4_advance_20 gX4_advance_X4_turn rfl hyX4_turn (rg_lt ho0) (rg_c9 ho0) TX4 5 (rg_cl ho0) (Nat.le_of_ble_eq_true rfl) (Nat.le_of_ble_eq_true rfl) rfl (Ct.mono h (Nat.le_refl _) (fun _r3 M4 h => ?_))
      refine B_iinc (lv1 := [(2, .int (v2 + (1 : Int32))), (0, .ref o0), (1, .int v1)]) (v := (v2 + (1 : Int32))) dX4_advance_23 2 rfl rfl (by decide) rfl ?_
      refine B_goto (tgt := 2) dX4_advance_26 (by decide) ?_
      refine B_weak [1, 2, 0] rfl ?_
      exact h
set_option maxHeartbeats 4000000 in
set_option maxRecDepth 100000 in
theorem rX4_advanceToMatins (d : Nat) (o0 : Nat) (ho0 : isRg o0) (M : Mm) (Q : Int32 → Mm → Prop)
    (h : kX4_advance d o0 (0 : Int32) M (fun (_r1 : Int32) (M1 : Mm) => BX4_advanceToMatins (d + 1) 7 [(0, .ref o0), (1, .int (1 : Int32))] [] M1 Q)) : kX4_advanceToMatins (d + 1) o0 M Q := by
  refine Ct.of (cc := cX4_advanceToMatins) (nL := 2) (by decide) rfl (Nat.le_of_ble_eq_true rfl) ?_
  show BX4_advanceToMatins (d + 1) 0 [(0, .ref o0)] [] M Q
  refine B_aload_n dX4_advanceToMatins_0 0 rfl ?_
  refine B_iconst (v := 0) dX4_advanceToMatins_1 (by decide) ?_
  refine B_callV (st := []) o0 [.int (0 : Int32)] dX4_advanceToMatins_2 gX4_advanceToMatins_X4_advance rfl hyX4_advance (rg_lt ho0) (rg_c9 ho0) TX4 5 (rg_cl ho0) (Nat.le_of_ble_eq_true rfl) (Nat.le_of_ble_eq_true rfl) rfl (Ct.mono h (Nat.le_refl _) (fun _r1 M1 h => ?_))
  refine B_iconst (v := 1) dX4_advanceToMatins_5 (by decide) ?_
  refine B_istore_n (lv1 := [(1, .int (1 : Int32)), (0, .ref o0)]) dX4_advanceToMatins_6 (by decide) rfl ?_
  refine B_weak [1, 0] rfl ?_
  exact h
set_option maxHeartbeats 4000000 in
set_option maxRecDepth 100000 in
theorem rX4_advanceToMatins_7 (d : Nat) (o0 : Nat) (ho0 : isRg o0) (v1 : Int32) (M : Mm) (Q : Int32 → Mm → Prop)
    (h : (((9 : Int32) ≤ v1 → Q 0 M) ∧ (¬ (9 : Int32) ≤ v1 → kX4_isMatins d o0 M (fun (r1 : Int32) (M1 : Mm) => ((¬ r1 = 0 → Q 0 M1) ∧ (r1 = 0 → kX4_advance d o0 (0 : Int32) M1 (fun (_r2 : Int32) (M2 : Mm) => BX4_advanceToMatins (d + 1) 7 [(0, .ref o0), (1, .int (v1 + (1 : Int32)))] [] M2 Q))))))) : BX4_advanceToMatins (d + 1) 7 [(0, .ref o0), (1, .int v1)] [] M Q := by
  refine B_iload_n dX4_advanceToMatins_7 1 rfl ?_
  refine B_bipush (v := 9) dX4_advanceToMatins_8 (by decide) ?_
  refine B_icmp_ge (tgt := 31) dX4_advanceToMatins_10 (by decide) (fun hc => ?_) (fun hc => ?_)
  · have h := h.1 hc
    exact B_vret dX4_advanceToMatins_31 h
  · have h := h.2 hc
    refine B_aload_n dX4_advanceToMatins_13 0 rfl ?_
    refine B_callV (st := []) o0 [] dX4_advanceToMatins_14 gX4_advanceToMatins_X4_isMatins rfl hyX4_isMatins (rg_lt ho0) (rg_c9 ho0) TX4 5 (rg_cl ho0) (Nat.le_of_ble_eq_true rfl) (Nat.le_of_ble_eq_true rfl) rfl (Ct.mono h (Nat.le_refl _) (fun r1 M1 h => ?_))
    refine B_if_ne (tgt := 31) dX4_advanceToMatins_17 (by decide) (fun hc => ?_) (fun hc => ?_)
    · have h := h.1 hc
      exact B_vret dX4_advanceToMatins_31 h
    · have h := h.2 hc
      refine B_aload_n dX4_advanceToMatins_20 0 rfl ?_
      refine B_iconst (v := 0) dX4_advanceToMatins_21 (by decide) ?_
      refine B_callV (st := []) o0 [.int (0 : Int32)] dX4_advanceToMatins_22 gX4_advanceToMatins_X4_advance rfl hyX4_advance (rg_lt ho0) (rg_c9 ho0) TX4 5 (rg_cl ho0) (Nat.le_of_ble_eq_true rfl) (Nat.le_of_ble_eq_true rfl) rfl (Ct.mono h (Nat.le_refl _) (fun _r2 M2 h => ?_))
      refine B_iinc (lv1 := [(1, .int (v1 + (1 : Int32))), (0, .ref o0)]) (v := (v1 + (1 : Int32))) dX4_advanceToMatins_25 1 rfl rfl (by decide) rfl ?_
      refine B_goto (tgt := 7) dX4_advanceToMatins_28 (by decide) ?_
      refine B_weak [1, 0] rfl ?_
      exact h
set_option maxHeartbeats 4000000 in
set_option maxRecDepth 100000 in
theorem rX4_isMatins (d : Nat) (o0 : Nat) (ho0 : isRg o0) (M : Mm) (Q : Int32 → Mm → Prop)
    (h : (((M o0 4) ≤ 0 → Q (0 : Int32) M) ∧ (¬ (M o0 4) ≤ 0 → ¬ (M o0 4) = 0 ∧ ((¬ (irem (M o0 3) (M o0 4)) = 0 → Q (0 : Int32) M) ∧ ((irem (M o0 3) (M o0 4)) = 0 → Q (1 : Int32) M))))) : kX4_isMatins d o0 M Q := by
  refine Ct.of (cc := cX4_isMatins) (nL := 1) (by decide) rfl (Nat.le_of_ble_eq_true rfl) ?_
  show BX4_isMatins d 0 [(0, .ref o0)] [] M Q
  refine B_aload_n dX4_isMatins_0 0 rfl ?_
  refine B_getf (T := TX4) (N := 5) (v := .int (M o0 4)) o0 4 dX4_isMatins_1 inX4_isMatins_4 lkX4_isMatins_f31 (rg_lt ho0) (rg_c9 ho0) (rg_cl ho0) (rg_nf ho0) (by decide) (rg_v4 ho0) ?_
  refine B_if_le (tgt := 23) dX4_isMatins_4 (by decide) (fun hc => ?_) (fun hc => ?_)
  · have h := h.1 hc
    refine B_iconst (v := 0) dX4_isMatins_23 (by decide) ?_
    exact B_zret dX4_isMatins_24 (Or.inl rfl) h
  · have h := h.2 hc
    refine B_aload_n dX4_isMatins_7 0 rfl ?_
    refine B_getf (T := TX4) (N := 5) (v := .int (M o0 3)) o0 3 dX4_isMatins_8 inX4_isMatins_4 lkX4_isMatins_f28 (rg_lt ho0) (rg_c9 ho0) (rg_cl ho0) (rg_nf ho0) (by decide) (rg_v3 ho0) ?_
    refine B_aload_n dX4_isMatins_11 0 rfl ?_
    refine B_getf (T := TX4) (N := 5) (v := .int (M o0 4)) o0 4 dX4_isMatins_12 inX4_isMatins_4 lkX4_isMatins_f31 (rg_lt ho0) (rg_c9 ho0) (rg_cl ho0) (rg_nf ho0) (by decide) (rg_v4 ho0) ?_
    obtain ⟨hz, h⟩ := h
    refine B_irem dX4_isMatins_15 hz ?_
    refine B_if_ne (tgt := 23) dX4_isMatins_16 (by decide) (fun hc => ?_) (fun hc => ?_)
    · have h := h.1 hc
      refine B_iconst (v := 0) dX4_isMatins_23 (by decide) ?_
      exact B_zret dX4_isMatins_24 (Or.inl rfl) h
    · have h := h.2 hc
      refine B_iconst (v := 1) dX4_isMatins_19 (by decide) ?_
      refine B_goto (tgt := 24) dX4_isMatins_20 (by decide) ?_
      exact B_zret dX4_isMatins_24 (Or.inr rfl) h
set_option maxHeartbeats 4000000 in
set_option maxRecDepth 100000 in
theorem rX4_turn (d : Nat) (o0 : Nat) (ho0 : isRg o0) (v1 : Int32) (M : Mm) (Q : Int32 → Mm → Prop)
    (h : kX4_after d o0 v1 M (fun (r1 : Int32) (M1 : Mm) => vp_in v1 7 ∧ (((M1 (o0 + 1) v1.toNatClampNeg) = 1 → kX4_handOn d o0 v1 r1 M1 (fun (_r2 : Int32) (M2 : Mm) => Q 0 M2)) ∧ ((M1 (o0 + 1) v1.toNatClampNeg) = 2 → vp_in v1 7 ∧ vp_in r1 7 ∧ (((M1 (o0 + 2) v1.toNatClampNeg) ≤ (M1 (o0 + 2) r1.toNatClampNeg) → Q 0 M1) ∧ (¬ (M1 (o0 + 2) v1.toNatClampNeg) ≤ (M1 (o0 + 2) r1.toNatClampNeg) → kX4_handOn d o0 v1 r1 M1 (fun (_r3 : Int32) (M3 : Mm) => Q 0 M3)))) ∧ ((M1 (o0 + 1) v1.toNatClampNeg) = 3 → ((¬ (irem (M1 o0 3) (2 : Int32)) = 0 → Q 0 M1) ∧ ((irem (M1 o0 3) (2 : Int32)) = 0 → kX4_handOn d o0 v1 r1 M1 (fun (_r4 : Int32) (M4 : Mm) => Q 0 M4)))) ∧ ((M1 (o0 + 1) v1.toNatClampNeg) = 5 → vp_in v1 7 ∧ ((¬ (M1 (o0 + 2) v1.toNatClampNeg) = 0 → Q 0 M1) ∧ ((M1 (o0 + 2) v1.toNatClampNeg) = 0 → kX4_before d o0 v1 M1 (fun (r5 : Int32) (M5 : Mm) => kX4_handOn d o0 v1 r5 M5 (fun (_r6 : Int32) (M6 : Mm) => Q 0 M6))))) ∧ (¬ (M1 (o0 + 1) v1.toNatClampNeg) = 1 ∧ ¬ (M1 (o0 + 1) v1.toNatClampNeg) = 2 ∧ ¬ (M1 (o0 + 1) v1.toNatClampNeg) = 3 ∧ ¬ (M1 (o0 + 1) v1.toNatClampNeg) = 5 → Q 0 M1)))) : kX4_turn (d + 1) o0 v1 M Q := by
  refine Ct.of (cc := cX4_turn) (nL := 3) (by decide) rfl (Nat.le_of_ble_eq_true rfl) ?_
  show BX4_turn (d + 1) 0 [(0, .ref o0), (1, .int v1)] [] M Q
  refine B_aload_n dX4_turn_0 0 rfl ?_
  refine B_iload_n dX4_turn_1 1 rfl ?_
  refine B_callV (st := []) o0 [.int v1] dX4_turn_2 gX4_turn_X4_after rfl hyX4_after (rg_lt ho0) (rg_c9 ho0) TX4 5 (rg_cl ho0) (Nat.le_of_ble_eq_true rfl) (Nat.le_of_ble_eq_true rfl) rfl (Ct.mono h (Nat.le_refl _) (fun r1 M1 h => ?_))
  refine B_istore_n (lv1 := [(2, .int r1), (0, .ref o0), (1, .int v1)]) dX4_turn_5 (by decide) rfl ?_
  refine B_aload_n dX4_turn_6 1 rfl ?_
  refine B_getf (T := TX4) (N := 5) (v := .ref (o0 + 1)) o0 0 dX4_turn_7 inX4_turn_4 lkX4_turn_f9 (rg_lt ho0) (rg_c9 ho0) (rg_cl ho0) (rg_nf ho0) (by decide) (rg_v0 ho0) ?_
  refine B_iload_n dX4_turn_10 2 rfl ?_
  obtain ⟨hi, h⟩ := h
  refine B_iald (n := 7) (o0 + 1) dX4_turn_11 (rg1_lt ho0) (rg1_c ho0) (rg1_n ho0) hi ?_
  by_cases hc0 : (M1 (o0 + 1) v1.toNatClampNeg) = 1
  · have h := h.1 hc0
    refine B_tabIn (tgt := 48) dX4_turn_12 (by rw [hc0]; decide) (by rw [hc0]; decide) (by rw [hc0]; rfl) (by decide) ?_
    refine B_aload_n dX4_turn_48 1 rfl ?_
    refine B_iload_n dX4_turn_49 2 rfl ?_
    refine B_iload_n dX4_turn_50 0 rfl ?_
    refine B_callV (st := []) o0 [.int v1, .int r1] dX4_turn_51 gX4_turn_X4_handOn rfl hyX4_handOn (rg_lt ho0) (rg_c9 ho0) TX4 5 (rg_cl ho0) (Nat.le_of_ble_eq_true rfl) (Nat.le_of_ble_eq_true rfl) rfl (Ct.mono h (Nat.le_refl _) (fun _r2 M2 h => ?_))
    refine B_goto (tgt := 121) dX4_turn_54 (by decide) ?_
    exact B_vret dX4_turn_121 h
  ·
    by_cases hc1 : (M1 (o0 + 1) v1.toNatClampNeg) = 2
    · have h := h.2.1 hc1
      refine B_tabIn (tgt := 57) dX4_turn_12 (by rw [hc1]; decide) (by rw [hc1]; decide) (by rw [hc1]; rfl) (by decide) ?_
      refine B_aload_n dX4_turn_57 1 rfl ?_
      refine B_getf (T := TX4) (N := 5) (v := .ref (o0 + 2)) o0 1 dX4_turn_58 inX4_turn_4 lkX4_turn_f15 (rg_lt ho0) (rg_c9 ho0) (rg_cl ho0) (rg_nf ho0) (by decide) (rg_v1 ho0) ?_
      refine B_iload_n dX4_turn_61 2 rfl ?_
      obtain ⟨hi, h⟩ := h
      refine B_iald (n := 7) (o0 + 2) dX4_turn_62 (rg2_lt ho0) (rg2_c ho0) (rg2_n ho0) hi ?_
      refine B_aload_n dX4_turn_63 1 rfl ?_
      refine B_getf (T := TX4) (N := 5) (v := .ref (o0 + 2)) o0 1 dX4_turn_64 inX4_turn_4 lkX4_turn_f15 (rg_lt ho0) (rg_c9 ho0) (rg_cl ho0) (rg_nf ho0) (by decide) (rg_v1 ho0) ?_
      refine B_iload_n dX4_turn_67 0 rfl ?_
      obtain ⟨hi, h⟩ := h
      refine B_iald (n := 7) (o0 + 2) dX4_turn_68 (rg2_lt ho0) (rg2_c ho0) (rg2_n ho0) hi ?_
      refine B_icmp_le (tgt := 121) dX4_turn_69 (by decide) (fun hc => ?_) (fun hc => ?_)
      · have h := h.1 hc
        exact B_vret dX4_turn_121 h
      · have h := h.2 hc
        refine B_aload_n dX4_turn_72 1 rfl ?_
        refine B_iload_n dX4_turn_73 2 rfl ?_
        refine B_iload_n dX4_turn_74 0 rfl ?_
        refine B_callV (st := []) o0 [.int v1, .int r1] dX4_turn_75 gX4_turn_X4_handOn rfl hyX4_handOn (rg_lt ho0) (rg_c9 ho0) TX4 5 (rg_cl ho0) (Nat.le_of_ble_eq_true rfl) (Nat.le_of_ble_eq_true rfl) rfl (Ct.mono h (Nat.le_refl _) (fun _r3 M3 h => ?_))
        refine B_goto (tgt := 121) dX4_turn_78 (by decide) ?_
        exact B_vret dX4_turn_121 h
    ·
      by_cases hc2 : (M1 (o0 + 1) v1.toNatClampNeg) = 3
      · have h := h.2.2.1 hc2
        refine B_tabIn (tgt := 81) dX4_turn_12 (by rw [hc2]; decide) (by rw [hc2]; decide) (by rw [hc2]; rfl) (by decide) ?_
        refine B_aload_n dX4_turn_81 1 rfl ?_
        refine B_getf (T := TX4) (N := 5) (v := .int (M1 o0 3)) o0 3 dX4_turn_82 inX4_turn_4 lkX4_turn_f28 (rg_lt ho0) (rg_c9 ho0) (rg_cl ho0) (rg_nf ho0) (by decide) (rg_v3 ho0) ?_
        refine B_iconst (v := 2) dX4_turn_85 (by decide) ?_
        refine B_irem dX4_turn_86 (by decide) ?_
        refine B_if_ne (tgt := 121) dX4_turn_87 (by decide) (fun hc => ?_) (fun hc => ?_)
        · have h := h.1 hc
          exact B_vret dX4_turn_121 h
        · have h := h.2 hc
          refine B_aload_n dX4_turn_90 1 rfl ?_
          refine B_iload_n dX4_turn_91 2 rfl ?_
          refine B_iload_n dX4_turn_92 0 rfl ?_
          refine B_callV (st := []) o0 [.int v1, .int r1] dX4_turn_93 gX4_turn_X4_handOn rfl hyX4_handOn (rg_lt ho0) (rg_c9 ho0) TX4 5 (rg_cl ho0) (Nat.le_of_ble_eq_true rfl) (Nat.le_of_ble_eq_true rfl) rfl (Ct.mono h (Nat.le_refl _) (fun _r4 M4 h => ?_))
          refine B_goto (tgt := 121) dX4_turn_96 (by decide) ?_
          exact B_vret dX4_turn_121 h
      ·
        by_cases hc3 : (M1 (o0 + 1) v1.toNatClampNeg) = 5
        · have h := h.2.2.2.1 hc3
          refine B_tabIn (tgt := 99) dX4_turn_12 (by rw [hc3]; decide) (by rw [hc3]; decide) (by rw [hc3]; rfl) (by decide) ?_
          refine B_aload_n dX4_turn_99 1 rfl ?_
          refine B_getf (T := TX4) (N := 5) (v := .ref (o0 + 2)) o0 1 dX4_turn_100 inX4_turn_4 lkX4_turn_f15 (rg_lt ho0) (rg_c9 ho0) (rg_cl ho0) (rg_nf ho0) (by decide) (rg_v1 ho0) ?_
          refine B_iload_n dX4_turn_103 2 rfl ?_
          obtain ⟨hi, h⟩ := h
          refine B_iald (n := 7) (o0 + 2) dX4_turn_104 (rg2_lt ho0) (rg2_c ho0) (rg2_n ho0) hi ?_
          refine B_if_ne (tgt := 121) dX4_turn_105 (by decide) (fun hc => ?_) (fun hc => ?_)
          · have h := h.1 hc
            exact B_vret dX4_turn_121 h
          · have h := h.2 hc
            refine B_aload_n dX4_turn_108 1 rfl ?_
            refine B_iload_n dX4_turn_109 2 rfl ?_
            refine B_aload_n dX4_turn_110 1 rfl ?_
            refine B_iload_n dX4_turn_111 2 rfl ?_
            refine B_callV (st := [.int v1, .ref o0]) o0 [.int v1] dX4_turn_112 gX4_turn_X4_before rfl hyX4_before (rg_lt ho0) (rg_c9 ho0) TX4 5 (rg_cl ho0) (Nat.le_of_ble_eq_true rfl) (Nat.le_of_ble_eq_true rfl) rfl (Ct.mono h (Nat.le_refl _) (fun r5 M5 h => ?_))
            refine B_callV (st := []) o0 [.int v1, .int r5] dX4_turn_115 gX4_turn_X4_handOn rfl hyX4_handOn (rg_lt ho0) (rg_c9 ho0) TX4 5 (rg_cl ho0) (Nat.le_of_ble_eq_true rfl) (Nat.le_of_ble_eq_true rfl) rfl (Ct.mono h (Nat.le_refl _) (fun _r6 M6 h => ?_))
            refine B_goto (tgt := 121) dX4_turn_118 (by decide) ?_
            exact B_vret dX4_turn_121 h
        ·
          have h := h.2.2.2.2 ⟨hc0, hc1, hc2, hc3⟩
          by_cases hd0 : (M1 (o0 + 1) v1.toNatClampNeg) = 4
          · refine B_tabIn (tgt := 121) dX4_turn_12 (by rw [hd0]; decide) (by rw [hd0]; decide) (by rw [hd0]; rfl) (by decide) ?_
            exact B_vret dX4_turn_121 h
          ·
            refine B_tabOut (tgt := 121) dX4_turn_12 (by have e0 := lv_neT hc0 (a := 1) (by decide); have e1 := lv_neT hc1 (a := 2) (by decide); have e2 := lv_neT hc2 (a := 3) (by decide); have e3 := lv_neT hc3 (a := 5) (by decide); have f0 := lv_neT hd0 (a := 4) (by decide); omega) (by decide) ?_
            exact B_vret dX4_turn_121 h
set_option maxHeartbeats 4000000 in
set_option maxRecDepth 100000 in
theorem rX4_handOn (d : Nat) (o0 : Nat) (ho0 : isRg o0) (v1 : Int32) (v2 : Int32) (M : Mm) (Q : Int32 → Mm → Prop)
    (h : kX4_lets d o0 v2 M (fun (r1 : Int32) (M1 : Mm) => ((r1 = 0 → Q 0 M1) ∧ (¬ r1 = 0 → kX4_exchange d o0 v1 v2 M1 (fun (_r2 : Int32) (M2 : Mm) => Q 0 M2))))) : kX4_handOn (d + 1) o0 v1 v2 M Q := by
  refine Ct.of (cc := cX4_handOn) (nL := 3) (by decide) rfl (Nat.le_of_ble_eq_true rfl) ?_
  show BX4_handOn (d + 1) 0 [(0, .ref o0), (1, .int v1), (2, .int v2)] [] M Q
  refine B_aload_n dX4_handOn_0 0 rfl ?_
  refine B_iload_n dX4_handOn_1 2 rfl ?_
  refine B_callV (st := []) o0 [.int v2] dX4_handOn_2 gX4_handOn_X4_lets rfl hyX4_lets (rg_lt ho0) (rg_c9 ho0) TX4 5 (rg_cl ho0) (Nat.le_of_ble_eq_true rfl) (Nat.le_of_ble_eq_true rfl) rfl (Ct.mono h (Nat.le_refl _) (fun r1 M1 h => ?_))
  refine B_if_eq (tgt := 14) dX4_handOn_5 (by decide) (fun hc => ?_) (fun hc => ?_)
  · have h := h.1 hc
    exact B_vret dX4_handOn_14 h
  · have h := h.2 hc
    refine B_aload_n dX4_handOn_8 0 rfl ?_
    refine B_iload_n dX4_handOn_9 1 rfl ?_
    refine B_iload_n dX4_handOn_10 2 rfl ?_
    refine B_callV (st := []) o0 [.int v1, .int v2] dX4_handOn_11 gX4_handOn_X4_exchange rfl hyX4_exchange (rg_lt ho0) (rg_c9 ho0) TX4 5 (rg_cl ho0) (Nat.le_of_ble_eq_true rfl) (Nat.le_of_ble_eq_true rfl) rfl (Ct.mono h (Nat.le_refl _) (fun _r2 M2 h => ?_))
    exact B_vret dX4_handOn_14 h
set_option maxHeartbeats 4000000 in
set_option maxRecDepth 100000 in
theorem rX4_singMatins (d : Nat) (o0 : Nat) (ho0 : isRg o0) (M : Mm) (Q : Int32 → Mm → Prop)
    (h : BX4_singMatins (d + 1) 2 [(0, .ref o0), (1, .int (0 : Int32))] [] M Q) : kX4_singMatins (d + 1) o0 M Q := by
  refine Ct.of (cc := cX4_singMatins) (nL := 3) (by decide) rfl (Nat.le_of_ble_eq_true rfl) ?_
  show BX4_singMatins (d + 1) 0 [(0, .ref o0)] [] M Q
  refine B_iconst (v := 0) dX4_singMatins_0 (by decide) ?_
  refine B_istore_n (lv1 := [(1, .int (0 : Int32)), (0, .ref o0)]) dX4_singMatins_1 (by decide) rfl ?_
  refine B_weak [1, 0] rfl ?_
  exact h
set_option maxHeartbeats 4000000 in
set_option maxRecDepth 100000 in
theorem rX4_singMatins_2 (d : Nat) (o0 : Nat) (ho0 : isRg o0) (v1 : Int32) (M : Mm) (Q : Int32 → Mm → Prop)
    (h : (((M o0 2) ≤ v1 → Q 0 M) ∧ (¬ (M o0 2) ≤ v1 → vp_in v1 7 ∧ vp_in v1 7 ∧ ((¬ (M (o0 + 1) v1.toNatClampNeg) = (5 : Int32) → BX4_singMatins (d + 1) 2 [(0, .ref o0), (1, .int (v1 + (1 : Int32)))] [] M Q) ∧ ((M (o0 + 1) v1.toNatClampNeg) = (5 : Int32) → kX4_isSaint d o0 ((M (o0 + 2) v1.toNatClampNeg) - (1 : Int32)) M (fun (r1 : Int32) (M1 : Mm) => ((r1 = 0 → BX4_singMatins (d + 1) 2 [(0, .ref o0), (1, .int (v1 + (1 : Int32)))] [] M1 Q) ∧ (¬ r1 = 0 → kX4_exchange d o0 v1 ((M (o0 + 2) v1.toNatClampNeg) - (1 : Int32)) M1 (fun (_r2 : Int32) (M2 : Mm) => BX4_singMatins (d + 1) 2 [(0, .ref o0), (1, .int (v1 + (1 : Int32)))] [] M2 Q))))))))) : BX4_singMatins (d + 1) 2 [(0, .ref o0), (1, .int v1)] [] M Q := by
  refine B_iload_n dX4_singMatins_2 1 rfl ?_
  refine B_aload_n dX4_singMatins_3 0 rfl ?_
  refine B_getf (T := TX4) (N := 5) (v := .int (M o0 2)) o0 2 dX4_singMatins_4 inX4_singMatins_4 lkX4_singMatins_f24 (rg_lt ho0) (rg_c9 ho0) (rg_cl ho0) (rg_nf ho0) (by decide) (rg_v2 ho0) ?_
  refine B_icmp_ge (tgt := 49) dX4_singMatins_7 (by decide) (fun hc => ?_) (fun hc => ?_)
  · have h := h.1 hc
    exact B_vret dX4_singMatins_49 h
  · have h := h.2 hc
    refine B_aload_n dX4_singMatins_10 0 rfl ?_
    refine B_getf (T := TX4) (N := 5) (v := .ref (o0 + 2)) o0 1 dX4_singMatins_11 inX4_singMatins_4 lkX4_singMatins_f15 (rg_lt ho0) (rg_c9 ho0) (rg_cl ho0) (rg_nf ho0) (by decide) (rg_v1 ho0) ?_
    refine B_iload_n dX4_singMatins_14 1 rfl ?_
    obtain ⟨hi, h⟩ := h
    refine B_iald (n := 7) (o0 + 2) dX4_singMatins_15 (rg2_lt ho0) (rg2_c ho0) (rg2_n ho0) hi ?_
    refine B_iconst (v := 1) dX4_singMatins_16 (by decide) ?_
    refine B_isub dX4_singMatins_17 ?_
    refine B_istore_n (lv1 := [(2, .int ((M (o0 + 2) v1.toNatClampNeg) - (1 : Int32))), (0, .ref o0), (1, .int v1)]) dX4_singMatins_18 (by decide) rfl ?_
    refine B_aload_n dX4_singMatins_19 1 rfl ?_
    refine B_getf (T := TX4) (N := 5) (v := .ref (o0 + 1)) o0 0 dX4_singMatins_20 inX4_singMatins_4 lkX4_singMatins_f9 (rg_lt ho0) (rg_c9 ho0) (rg_cl ho0) (rg_nf ho0) (by decide) (rg_v0 ho0) ?_
    refine B_iload_n dX4_singMatins_23 2 rfl ?_
    obtain ⟨hi, h⟩ := h
    refine B_iald (n := 7) (o0 + 1) dX4_singMatins_24 (rg1_lt ho0) (rg1_c ho0) (rg1_n ho0) hi ?_
    refine B_iconst (v := 5) dX4_singMatins_25 (by decide) ?_
    refine B_icmp_ne (tgt := 43) dX4_singMatins_26 (by decide) (fun hc => ?_) (fun hc => ?_)
    · have h := h.1 hc
      refine B_iinc (lv1 := [(1, .int (v1 + (1 : Int32))), (2, .int ((M (o0 + 2) v1.toNatClampNeg) - (1 : Int32))), (0, .ref o0)]) (v := (v1 + (1 : Int32))) dX4_singMatins_43 2 rfl rfl (by decide) rfl ?_
      refine B_goto (tgt := 2) dX4_singMatins_46 (by decide) ?_
      refine B_weak [2, 0] rfl ?_
      exact h
    · have h := h.2 hc
      refine B_aload_n dX4_singMatins_29 1 rfl ?_
      refine B_iload_n dX4_singMatins_30 0 rfl ?_
      refine B_callV (st := []) o0 [.int ((M (o0 + 2) v1.toNatClampNeg) - (1 : Int32))] dX4_singMatins_31 gX4_singMatins_X4_isSaint rfl hyX4_isSaint (rg_lt ho0) (rg_c9 ho0) TX4 5 (rg_cl ho0) (Nat.le_of_ble_eq_true rfl) (Nat.le_of_ble_eq_true rfl) rfl (Ct.mono h (Nat.le_refl _) (fun r1 M1 h => ?_))
      refine B_if_eq (tgt := 43) dX4_singMatins_34 (by decide) (fun hc => ?_) (fun hc => ?_)
      · have h := h.1 hc
        refine B_iinc (lv1 := [(1, .int (v1 + (1 : Int32))), (2, .int ((M (o0 + 2) v1.toNatClampNeg) - (1 : Int32))), (0, .ref o0)]) (v := (v1 + (1 : Int32))) dX4_singMatins_43 2 rfl rfl (by decide) rfl ?_
        refine B_goto (tgt := 2) dX4_singMatins_46 (by decide) ?_
        refine B_weak [2, 0] rfl ?_
        exact h
      · have h := h.2 hc
        refine B_aload_n dX4_singMatins_37 1 rfl ?_
        refine B_iload_n dX4_singMatins_38 2 rfl ?_
        refine B_iload_n dX4_singMatins_39 0 rfl ?_
        refine B_callV (st := []) o0 [.int v1, .int ((M (o0 + 2) v1.toNatClampNeg) - (1 : Int32))] dX4_singMatins_40 gX4_singMatins_X4_exchange rfl hyX4_exchange (rg_lt ho0) (rg_c9 ho0) TX4 5 (rg_cl ho0) (Nat.le_of_ble_eq_true rfl) (Nat.le_of_ble_eq_true rfl) rfl (Ct.mono h (Nat.le_refl _) (fun _r2 M2 h => ?_))
        refine B_iinc (lv1 := [(1, .int (v1 + (1 : Int32))), (2, .int ((M (o0 + 2) v1.toNatClampNeg) - (1 : Int32))), (0, .ref o0)]) (v := (v1 + (1 : Int32))) dX4_singMatins_43 2 rfl rfl (by decide) rfl ?_
        refine B_goto (tgt := 2) dX4_singMatins_46 (by decide) ?_
        refine B_weak [2, 0] rfl ?_
        exact h
set_option maxHeartbeats 4000000 in
set_option maxRecDepth 100000 in
theorem rX4_whoHas (d : Nat) (o0 : Nat) (ho0 : isRg o0) (v1 : Int32) (M : Mm) (Q : Int32 → Mm → Prop)
    (h : BX4_whoHas d 2 [(0, .ref o0), (1, .int v1), (2, .int (0 : Int32))] [] M Q) : kX4_whoHas d o0 v1 M Q := by
  refine Ct.of (cc := cX4_whoHas) (nL := 3) (by decide) rfl (Nat.le_of_ble_eq_true rfl) ?_
  show BX4_whoHas d 0 [(0, .ref o0), (1, .int v1)] [] M Q
  refine B_iconst (v := 0) dX4_whoHas_0 (by decide) ?_
  refine B_istore_n (lv1 := [(2, .int (0 : Int32)), (0, .ref o0), (1, .int v1)]) dX4_whoHas_1 (by decide) rfl ?_
  refine B_weak [1, 2, 0] rfl ?_
  exact h
set_option maxHeartbeats 4000000 in
set_option maxRecDepth 100000 in
theorem rX4_whoHas_2 (d : Nat) (o0 : Nat) (ho0 : isRg o0) (v1 : Int32) (v2 : Int32) (M : Mm) (Q : Int32 → Mm → Prop)
    (h : (((M o0 2) ≤ v2 → Q (-1000000 : Int32) M) ∧ (¬ (M o0 2) ≤ v2 → vp_in v2 7 ∧ ((¬ (M (o0 + 2) v2.toNatClampNeg) = v1 → BX4_whoHas d 2 [(0, .ref o0), (1, .int v1), (2, .int (v2 + (1 : Int32)))] [] M Q) ∧ ((M (o0 + 2) v2.toNatClampNeg) = v1 → Q v2 M))))) : BX4_whoHas d 2 [(0, .ref o0), (1, .int v1), (2, .int v2)] [] M Q := by
  refine B_iload_n dX4_whoHas_2 2 rfl ?_
  refine B_aload_n dX4_whoHas_3 0 rfl ?_
  refine B_getf (T := TX4) (N := 5) (v := .int (M o0 2)) o0 2 dX4_whoHas_4 inX4_whoHas_4 lkX4_whoHas_f24 (rg_lt ho0) (rg_c9 ho0) (rg_cl ho0) (rg_nf ho0) (by decide) (rg_v2 ho0) ?_
  refine B_icmp_ge (tgt := 28) dX4_whoHas_7 (by decide) (fun hc => ?_) (fun hc => ?_)
  · have h := h.1 hc
    refine B_ldc (v := -1000000) dX4_whoHas_28 lkX4_whoHas_c69 ?_
    exact B_iret dX4_whoHas_30 h
  · have h := h.2 hc
    refine B_aload_n dX4_whoHas_10 0 rfl ?_
    refine B_getf (T := TX4) (N := 5) (v := .ref (o0 + 2)) o0 1 dX4_whoHas_11 inX4_whoHas_4 lkX4_whoHas_f15 (rg_lt ho0) (rg_c9 ho0) (rg_cl ho0) (rg_nf ho0) (by decide) (rg_v1 ho0) ?_
    refine B_iload_n dX4_whoHas_14 2 rfl ?_
    obtain ⟨hi, h⟩ := h
    refine B_iald (n := 7) (o0 + 2) dX4_whoHas_15 (rg2_lt ho0) (rg2_c ho0) (rg2_n ho0) hi ?_
    refine B_iload_n dX4_whoHas_16 1 rfl ?_
    refine B_icmp_ne (tgt := 22) dX4_whoHas_17 (by decide) (fun hc => ?_) (fun hc => ?_)
    · have h := h.1 hc
      refine B_iinc (lv1 := [(2, .int (v2 + (1 : Int32))), (0, .ref o0), (1, .int v1)]) (v := (v2 + (1 : Int32))) dX4_whoHas_22 2 rfl rfl (by decide) rfl ?_
      refine B_goto (tgt := 2) dX4_whoHas_25 (by decide) ?_
      refine B_weak [1, 2, 0] rfl ?_
      exact h
    · have h := h.2 hc
      refine B_iload_n dX4_whoHas_20 2 rfl ?_
      exact B_iret dX4_whoHas_21 h
set_option maxHeartbeats 4000000 in
set_option maxRecDepth 100000 in
theorem rX4_withNone (d : Nat) (o0 : Nat) (ho0 : isRg o0) (M : Mm) (Q : Int32 → Mm → Prop)
    (h : BX4_withNone d 4 [(0, .ref o0), (1, .int (0 : Int32)), (2, .int (0 : Int32))] [] M Q) : kX4_withNone d o0 M Q := by
  refine Ct.of (cc := cX4_withNone) (nL := 3) (by decide) rfl (Nat.le_of_ble_eq_true rfl) ?_
  show BX4_withNone d 0 [(0, .ref o0)] [] M Q
  refine B_iconst (v := 0) dX4_withNone_0 (by decide) ?_
  refine B_istore_n (lv1 := [(1, .int (0 : Int32)), (0, .ref o0)]) dX4_withNone_1 (by decide) rfl ?_
  refine B_iconst (v := 0) dX4_withNone_2 (by decide) ?_
  refine B_istore_n (lv1 := [(2, .int (0 : Int32)), (1, .int (0 : Int32)), (0, .ref o0)]) dX4_withNone_3 (by decide) rfl ?_
  refine B_weak [2, 1, 0] rfl ?_
  exact h
set_option maxHeartbeats 4000000 in
set_option maxRecDepth 100000 in
theorem rX4_withNone_4 (d : Nat) (o0 : Nat) (ho0 : isRg o0) (v1 : Int32) (v2 : Int32) (M : Mm) (Q : Int32 → Mm → Prop)
    (h : (((M o0 2) ≤ v2 → Q v1 M) ∧ (¬ (M o0 2) ≤ v2 → vp_in v2 7 ∧ ((¬ (M (o0 + 2) v2.toNatClampNeg) = 0 → BX4_withNone d 4 [(0, .ref o0), (1, .int v1), (2, .int (v2 + (1 : Int32)))] [] M Q) ∧ ((M (o0 + 2) v2.toNatClampNeg) = 0 → BX4_withNone d 4 [(0, .ref o0), (1, .int (v1 + (1 : Int32))), (2, .int (v2 + (1 : Int32)))] [] M Q))))) : BX4_withNone d 4 [(0, .ref o0), (1, .int v1), (2, .int v2)] [] M Q := by
  refine B_iload_n dX4_withNone_4 2 rfl ?_
  refine B_aload_n dX4_withNone_5 0 rfl ?_
  refine B_getf (T := TX4) (N := 5) (v := .int (M o0 2)) o0 2 dX4_withNone_6 inX4_withNone_4 lkX4_withNone_f24 (rg_lt ho0) (rg_c9 ho0) (rg_cl ho0) (rg_nf ho0) (by decide) (rg_v2 ho0) ?_
  refine B_icmp_ge (tgt := 30) dX4_withNone_9 (by decide) (fun hc => ?_) (fun hc => ?_)
  · have h := h.1 hc
    refine B_iload_n dX4_withNone_30 1 rfl ?_
    exact B_iret dX4_withNone_31 h
  · have h := h.2 hc
    refine B_aload_n dX4_withNone_12 0 rfl ?_
    refine B_getf (T := TX4) (N := 5) (v := .ref (o0 + 2)) o0 1 dX4_withNone_13 inX4_withNone_4 lkX4_withNone_f15 (rg_lt ho0) (rg_c9 ho0) (rg_cl ho0) (rg_nf ho0) (by decide) (rg_v1 ho0) ?_
    refine B_iload_n dX4_withNone_16 2 rfl ?_
    obtain ⟨hi, h⟩ := h
    refine B_iald (n := 7) (o0 + 2) dX4_withNone_17 (rg2_lt ho0) (rg2_c ho0) (rg2_n ho0) hi ?_
    refine B_if_ne (tgt := 24) dX4_withNone_18 (by decide) (fun hc => ?_) (fun hc => ?_)
    · have h := h.1 hc
      refine B_iinc (lv1 := [(2, .int (v2 + (1 : Int32))), (0, .ref o0), (1, .int v1)]) (v := (v2 + (1 : Int32))) dX4_withNone_24 2 rfl rfl (by decide) rfl ?_
      refine B_goto (tgt := 4) dX4_withNone_27 (by decide) ?_
      refine B_weak [1, 2, 0] rfl ?_
      exact h
    · have h := h.2 hc
      refine B_iinc (lv1 := [(1, .int (v1 + (1 : Int32))), (0, .ref o0), (2, .int v2)]) (v := (v1 + (1 : Int32))) dX4_withNone_21 1 rfl rfl (by decide) rfl ?_
      refine B_iinc (lv1 := [(2, .int (v2 + (1 : Int32))), (1, .int (v1 + (1 : Int32))), (0, .ref o0)]) (v := (v2 + (1 : Int32))) dX4_withNone_24 2 rfl rfl (by decide) rfl ?_
      refine B_goto (tgt := 4) dX4_withNone_27 (by decide) ?_
      refine B_weak [2, 1, 0] rfl ?_
      exact h
set_option maxHeartbeats 4000000 in
set_option maxRecDepth 100000 in
theorem rX4_atHome (d : Nat) (o0 : Nat) (ho0 : isRg o0) (M : Mm) (Q : Int32 → Mm → Prop)
    (h : BX4_atHome d 4 [(0, .ref o0), (1, .int (0 : Int32)), (2, .int (0 : Int32))] [] M Q) : kX4_atHome d o0 M Q := by
  refine Ct.of (cc := cX4_atHome) (nL := 3) (by decide) rfl (Nat.le_of_ble_eq_true rfl) ?_
  show BX4_atHome d 0 [(0, .ref o0)] [] M Q
  refine B_iconst (v := 0) dX4_atHome_0 (by decide) ?_
  refine B_istore_n (lv1 := [(1, .int (0 : Int32)), (0, .ref o0)]) dX4_atHome_1 (by decide) rfl ?_
  refine B_iconst (v := 0) dX4_atHome_2 (by decide) ?_
  refine B_istore_n (lv1 := [(2, .int (0 : Int32)), (1, .int (0 : Int32)), (0, .ref o0)]) dX4_atHome_3 (by decide) rfl ?_
  refine B_weak [2, 1, 0] rfl ?_
  exact h
set_option maxHeartbeats 4000000 in
set_option maxRecDepth 100000 in
theorem rX4_atHome_4 (d : Nat) (o0 : Nat) (ho0 : isRg o0) (v1 : Int32) (v2 : Int32) (M : Mm) (Q : Int32 → Mm → Prop)
    (h : (((M o0 2) ≤ v2 → Q v1 M) ∧ (¬ (M o0 2) ≤ v2 → vp_in v2 7 ∧ ((¬ (M (o0 + 2) v2.toNatClampNeg) = (v2 + (1 : Int32)) → BX4_atHome d 4 [(0, .ref o0), (1, .int v1), (2, .int (v2 + (1 : Int32)))] [] M Q) ∧ ((M (o0 + 2) v2.toNatClampNeg) = (v2 + (1 : Int32)) → BX4_atHome d 4 [(0, .ref o0), (1, .int (v1 + (1 : Int32))), (2, .int (v2 + (1 : Int32)))] [] M Q))))) : BX4_atHome d 4 [(0, .ref o0), (1, .int v1), (2, .int v2)] [] M Q := by
  refine B_iload_n dX4_atHome_4 2 rfl ?_
  refine B_aload_n dX4_atHome_5 0 rfl ?_
  refine B_getf (T := TX4) (N := 5) (v := .int (M o0 2)) o0 2 dX4_atHome_6 inX4_atHome_4 lkX4_atHome_f24 (rg_lt ho0) (rg_c9 ho0) (rg_cl ho0) (rg_nf ho0) (by decide) (rg_v2 ho0) ?_
  refine B_icmp_ge (tgt := 33) dX4_atHome_9 (by decide) (fun hc => ?_) (fun hc => ?_)
  · have h := h.1 hc
    refine B_iload_n dX4_atHome_33 1 rfl ?_
    exact B_iret dX4_atHome_34 h
  · have h := h.2 hc
    refine B_aload_n dX4_atHome_12 0 rfl ?_
    refine B_getf (T := TX4) (N := 5) (v := .ref (o0 + 2)) o0 1 dX4_atHome_13 inX4_atHome_4 lkX4_atHome_f15 (rg_lt ho0) (rg_c9 ho0) (rg_cl ho0) (rg_nf ho0) (by decide) (rg_v1 ho0) ?_
    refine B_iload_n dX4_atHome_16 2 rfl ?_
    obtain ⟨hi, h⟩ := h
    refine B_iald (n := 7) (o0 + 2) dX4_atHome_17 (rg2_lt ho0) (rg2_c ho0) (rg2_n ho0) hi ?_
    refine B_iload_n dX4_atHome_18 2 rfl ?_
    refine B_iconst (v := 1) dX4_atHome_19 (by decide) ?_
    refine B_iadd dX4_atHome_20 ?_
    refine B_icmp_ne (tgt := 27) dX4_atHome_21 (by decide) (fun hc => ?_) (fun hc => ?_)
    · have h := h.1 hc
      refine B_iinc (lv1 := [(2, .int (v2 + (1 : Int32))), (0, .ref o0), (1, .int v1)]) (v := (v2 + (1 : Int32))) dX4_atHome_27 2 rfl rfl (by decide) rfl ?_
      refine B_goto (tgt := 4) dX4_atHome_30 (by decide) ?_
      refine B_weak [1, 2, 0] rfl ?_
      exact h
    · have h := h.2 hc
      refine B_iinc (lv1 := [(1, .int (v1 + (1 : Int32))), (0, .ref o0), (2, .int v2)]) (v := (v1 + (1 : Int32))) dX4_atHome_24 1 rfl rfl (by decide) rfl ?_
      refine B_iinc (lv1 := [(2, .int (v2 + (1 : Int32))), (1, .int (v1 + (1 : Int32))), (0, .ref o0)]) (v := (v2 + (1 : Int32))) dX4_atHome_27 2 rfl rfl (by decide) rfl ?_
      refine B_goto (tgt := 4) dX4_atHome_30 (by decide) ?_
      refine B_weak [2, 1, 0] rfl ?_
      exact h
set_option maxHeartbeats 4000000 in
set_option maxRecDepth 100000 in
theorem rX4_hasHoodWithThing (d : Nat) (o0 : Nat) (ho0 : isRg o0) (M : Mm) (Q : Int32 → Mm → Prop)
    (h : BX4_hasHoodWithThing d 2 [(0, .ref o0), (1, .int (0 : Int32))] [] M Q) : kX4_hasHoodWithThing d o0 M Q := by
  refine Ct.of (cc := cX4_hasHoodWithThing) (nL := 2) (by decide) rfl (Nat.le_of_ble_eq_true rfl) ?_
  show BX4_hasHoodWithThing d 0 [(0, .ref o0)] [] M Q
  refine B_iconst (v := 0) dX4_hasHoodWithThing_0 (by decide) ?_
  refine B_istore_n (lv1 := [(1, .int (0 : Int32)), (0, .ref o0)]) dX4_hasHoodWithThing_1 (by decide) rfl ?_
  refine B_weak [1, 0] rfl ?_
  exact h
set_option maxHeartbeats 4000000 in
set_option maxRecDepth 100000 in
theorem rX4_hasHoodWithThing_2 (d : Nat) (o0 : Nat) (ho0 : isRg o0) (v1 : Int32) (M : Mm) (Q : Int32 → Mm → Prop)
    (h : (((M o0 2) ≤ v1 → Q (0 : Int32) M) ∧ (¬ (M o0 2) ≤ v1 → vp_in v1 7 ∧ ((¬ (M (o0 + 1) v1.toNatClampNeg) = (5 : Int32) → BX4_hasHoodWithThing d 2 [(0, .ref o0), (1, .int (v1 + (1 : Int32)))] [] M Q) ∧ ((M (o0 + 1) v1.toNatClampNeg) = (5 : Int32) → vp_in v1 7 ∧ (((M (o0 + 2) v1.toNatClampNeg) = 0 → BX4_hasHoodWithThing d 2 [(0, .ref o0), (1, .int (v1 + (1 : Int32)))] [] M Q) ∧ (¬ (M (o0 + 2) v1.toNatClampNeg) = 0 → Q (1 : Int32) M))))))) : BX4_hasHoodWithThing d 2 [(0, .ref o0), (1, .int v1)] [] M Q := by
  refine B_iload_n dX4_hasHoodWithThing_2 1 rfl ?_
  refine B_aload_n dX4_hasHoodWithThing_3 0 rfl ?_
  refine B_getf (T := TX4) (N := 5) (v := .int (M o0 2)) o0 2 dX4_hasHoodWithThing_4 inX4_hasHoodWithThing_4 lkX4_hasHoodWithThing_f24 (rg_lt ho0) (rg_c9 ho0) (rg_cl ho0) (rg_nf ho0) (by decide) (rg_v2 ho0) ?_
  refine B_icmp_ge (tgt := 37) dX4_hasHoodWithThing_7 (by decide) (fun hc => ?_) (fun hc => ?_)
  · have h := h.1 hc
    refine B_iconst (v := 0) dX4_hasHoodWithThing_37 (by decide) ?_
    exact B_zret dX4_hasHoodWithThing_38 (Or.inl rfl) h
  · have h := h.2 hc
    refine B_aload_n dX4_hasHoodWithThing_10 0 rfl ?_
    refine B_getf (T := TX4) (N := 5) (v := .ref (o0 + 1)) o0 0 dX4_hasHoodWithThing_11 inX4_hasHoodWithThing_4 lkX4_hasHoodWithThing_f9 (rg_lt ho0) (rg_c9 ho0) (rg_cl ho0) (rg_nf ho0) (by decide) (rg_v0 ho0) ?_
    refine B_iload_n dX4_hasHoodWithThing_14 1 rfl ?_
    obtain ⟨hi, h⟩ := h
    refine B_iald (n := 7) (o0 + 1) dX4_hasHoodWithThing_15 (rg1_lt ho0) (rg1_c ho0) (rg1_n ho0) hi ?_
    refine B_iconst (v := 5) dX4_hasHoodWithThing_16 (by decide) ?_
    refine B_icmp_ne (tgt := 31) dX4_hasHoodWithThing_17 (by decide) (fun hc => ?_) (fun hc => ?_)
    · have h := h.1 hc
      refine B_iinc (lv1 := [(1, .int (v1 + (1 : Int32))), (0, .ref o0)]) (v := (v1 + (1 : Int32))) dX4_hasHoodWithThing_31 1 rfl rfl (by decide) rfl ?_
      refine B_goto (tgt := 2) dX4_hasHoodWithThing_34 (by decide) ?_
      refine B_weak [1, 0] rfl ?_
      exact h
    · have h := h.2 hc
      refine B_aload_n dX4_hasHoodWithThing_20 0 rfl ?_
      refine B_getf (T := TX4) (N := 5) (v := .ref (o0 + 2)) o0 1 dX4_hasHoodWithThing_21 inX4_hasHoodWithThing_4 lkX4_hasHoodWithThing_f15 (rg_lt ho0) (rg_c9 ho0) (rg_cl ho0) (rg_nf ho0) (by decide) (rg_v1 ho0) ?_
      refine B_iload_n dX4_hasHoodWithThing_24 1 rfl ?_
      obtain ⟨hi, h⟩ := h
      refine B_iald (n := 7) (o0 + 2) dX4_hasHoodWithThing_25 (rg2_lt ho0) (rg2_c ho0) (rg2_n ho0) hi ?_
      refine B_if_eq (tgt := 31) dX4_hasHoodWithThing_26 (by decide) (fun hc => ?_) (fun hc => ?_)
      · have h := h.1 hc
        refine B_iinc (lv1 := [(1, .int (v1 + (1 : Int32))), (0, .ref o0)]) (v := (v1 + (1 : Int32))) dX4_hasHoodWithThing_31 1 rfl rfl (by decide) rfl ?_
        refine B_goto (tgt := 2) dX4_hasHoodWithThing_34 (by decide) ?_
        refine B_weak [1, 0] rfl ?_
        exact h
      · have h := h.2 hc
        refine B_iconst (v := 1) dX4_hasHoodWithThing_29 (by decide) ?_
        exact B_zret dX4_hasHoodWithThing_30 (Or.inr rfl) h
set_option maxHeartbeats 4000000 in
set_option maxRecDepth 100000 in
theorem rX4_figures (d : Nat) (o0 : Nat) (ho0 : isRg o0) (M : Mm) (Q : Int32 → Mm → Prop)
    (h : BX4_figures d 4 [(0, .ref o0), (1, .int (0 : Int32)), (2, .int (0 : Int32))] [] M Q) : kX4_figures d o0 M Q := by
  refine Ct.of (cc := cX4_figures) (nL := 3) (by decide) rfl (Nat.le_of_ble_eq_true rfl) ?_
  show BX4_figures d 0 [(0, .ref o0)] [] M Q
  refine B_iconst (v := 0) dX4_figures_0 (by decide) ?_
  refine B_istore_n (lv1 := [(1, .int (0 : Int32)), (0, .ref o0)]) dX4_figures_1 (by decide) rfl ?_
  refine B_iconst (v := 0) dX4_figures_2 (by decide) ?_
  refine B_istore_n (lv1 := [(2, .int (0 : Int32)), (1, .int (0 : Int32)), (0, .ref o0)]) dX4_figures_3 (by decide) rfl ?_
  refine B_weak [2, 1, 0] rfl ?_
  exact h
set_option maxHeartbeats 4000000 in
set_option maxRecDepth 100000 in
theorem rX4_figures_4 (d : Nat) (o0 : Nat) (ho0 : isRg o0) (v1 : Int32) (v2 : Int32) (M : Mm) (Q : Int32 → Mm → Prop)
    (h : (((M o0 2) ≤ v2 → Q v1 M) ∧ (¬ (M o0 2) ≤ v2 → vp_in v2 7 ∧ BX4_figures d 4 [(0, .ref o0), (1, .int (((10 : Int32) * v1) + (M (o0 + 2) v2.toNatClampNeg))), (2, .int (v2 + (1 : Int32)))] [] M Q))) : BX4_figures d 4 [(0, .ref o0), (1, .int v1), (2, .int v2)] [] M Q := by
  refine B_iload_n dX4_figures_4 2 rfl ?_
  refine B_aload_n dX4_figures_5 0 rfl ?_
  refine B_getf (T := TX4) (N := 5) (v := .int (M o0 2)) o0 2 dX4_figures_6 inX4_figures_4 lkX4_figures_f24 (rg_lt ho0) (rg_c9 ho0) (rg_cl ho0) (rg_nf ho0) (by decide) (rg_v2 ho0) ?_
  refine B_icmp_ge (tgt := 30) dX4_figures_9 (by decide) (fun hc => ?_) (fun hc => ?_)
  · have h := h.1 hc
    refine B_iload_n dX4_figures_30 1 rfl ?_
    exact B_iret dX4_figures_31 h
  · have h := h.2 hc
    refine B_bipush (v := 10) dX4_figures_12 (by decide) ?_
    refine B_iload_n dX4_figures_14 1 rfl ?_
    refine B_imul dX4_figures_15 ?_
    refine B_aload_n dX4_figures_16 0 rfl ?_
    refine B_getf (T := TX4) (N := 5) (v := .ref (o0 + 2)) o0 1 dX4_figures_17 inX4_figures_4 lkX4_figures_f15 (rg_lt ho0) (rg_c9 ho0) (rg_cl ho0) (rg_nf ho0) (by decide) (rg_v1 ho0) ?_
    refine B_iload_n dX4_figures_20 2 rfl ?_
    obtain ⟨hi, h⟩ := h
    refine B_iald (n := 7) (o0 + 2) dX4_figures_21 (rg2_lt ho0) (rg2_c ho0) (rg2_n ho0) hi ?_
    refine B_iadd dX4_figures_22 ?_
    refine B_istore_n (lv1 := [(1, .int (((10 : Int32) * v1) + (M (o0 + 2) v2.toNatClampNeg))), (0, .ref o0), (2, .int v2)]) dX4_figures_23 (by decide) rfl ?_
    refine B_iinc (lv1 := [(2, .int (v2 + (1 : Int32))), (1, .int (((10 : Int32) * v1) + (M (o0 + 2) v2.toNatClampNeg))), (0, .ref o0)]) (v := (v2 + (1 : Int32))) dX4_figures_24 2 rfl rfl (by decide) rfl ?_
    refine B_goto (tgt := 4) dX4_figures_27 (by decide) ?_
    refine B_weak [2, 1, 0] rfl ?_
    exact h
set_option maxHeartbeats 4000000 in
set_option maxRecDepth 100000 in
theorem rX4_takeFigures (d : Nat) (o0 : Nat) (ho0 : isRg o0) (v1 : Int32) (M : Mm) (Q : Int32 → Mm → Prop)
    (h : BX4_takeFigures d 9 [(0, .ref o0), (2, .int v1), (3, .int ((M o0 2) - (1 : Int32)))] [] M Q) : kX4_takeFigures d o0 v1 M Q := by
  refine Ct.of (cc := cX4_takeFigures) (nL := 4) (by decide) rfl (Nat.le_of_ble_eq_true rfl) ?_
  show BX4_takeFigures d 0 [(0, .ref o0), (1, .int v1)] [] M Q
  refine B_iload_n dX4_takeFigures_0 1 rfl ?_
  refine B_istore_n (lv1 := [(2, .int v1), (0, .ref o0), (1, .int v1)]) dX4_takeFigures_1 (by decide) rfl ?_
  refine B_aload_n dX4_takeFigures_2 1 rfl ?_
  refine B_getf (T := TX4) (N := 5) (v := .int (M o0 2)) o0 2 dX4_takeFigures_3 inX4_takeFigures_4 lkX4_takeFigures_f24 (rg_lt ho0) (rg_c9 ho0) (rg_cl ho0) (rg_nf ho0) (by decide) (rg_v2 ho0) ?_
  refine B_iconst (v := 1) dX4_takeFigures_6 (by decide) ?_
  refine B_isub dX4_takeFigures_7 ?_
  refine B_istore_n (lv1 := [(3, .int ((M o0 2) - (1 : Int32))), (2, .int v1), (0, .ref o0), (1, .int v1)]) dX4_takeFigures_8 (by decide) rfl ?_
  refine B_weak [2, 1, 0] rfl ?_
  exact h
set_option maxHeartbeats 4000000 in
set_option maxRecDepth 100000 in
theorem rX4_takeFigures_9 (d : Nat) (o0 : Nat) (ho0 : isRg o0) (v2 : Int32) (v3 : Int32) (M : Mm) (Q : Int32 → Mm → Prop)
    (h : ((v3 < 0 → Q 0 M) ∧ (¬ v3 < 0 → vp_in v3 7 ∧ (∀ M1 : Mm, M1 = (upd2 M (o0 + 2) v3.toNatClampNeg (irem v2 (10 : Int32))) → BX4_takeFigures d 9 [(0, .ref o0), (2, .int (v2 / (10 : Int32))), (3, .int (v3 + (-1 : Int32)))] [] M1 Q)))) : BX4_takeFigures d 9 [(0, .ref o0), (2, .int v2), (3, .int v3)] [] M Q := by
  refine B_iload_n dX4_takeFigures_9 2 rfl ?_
  refine B_if_lt (tgt := 34) dX4_takeFigures_10 (by decide) (fun hc => ?_) (fun hc => ?_)
  · have h := h.1 hc
    exact B_vret dX4_takeFigures_34 h
  · have h := h.2 hc
    refine B_aload_n dX4_takeFigures_13 0 rfl ?_
    refine B_getf (T := TX4) (N := 5) (v := .ref (o0 + 2)) o0 1 dX4_takeFigures_14 inX4_takeFigures_4 lkX4_takeFigures_f15 (rg_lt ho0) (rg_c9 ho0) (rg_cl ho0) (rg_nf ho0) (by decide) (rg_v1 ho0) ?_
    refine B_iload_n dX4_takeFigures_17 2 rfl ?_
    refine B_iload_n dX4_takeFigures_18 1 rfl ?_
    refine B_bipush (v := 10) dX4_takeFigures_19 (by decide) ?_
    refine B_irem dX4_takeFigures_21 (by decide) ?_
    obtain ⟨hi, h⟩ := h
    refine B_iast (n := 7) (o0 + 2) dX4_takeFigures_22 (rg2_lt ho0) (rg2_c ho0) (rg2_n ho0) hi ?_
    have h := h _ rfl
    generalize (upd2 M (o0 + 2) v3.toNatClampNeg (irem v2 (10 : Int32))) = M1 at h ⊢
    refine B_iload_n dX4_takeFigures_23 1 rfl ?_
    refine B_bipush (v := 10) dX4_takeFigures_24 (by decide) ?_
    refine B_idiv dX4_takeFigures_26 (by decide) ?_
    refine B_istore_n (lv1 := [(2, .int (v2 / (10 : Int32))), (0, .ref o0), (3, .int v3)]) dX4_takeFigures_27 (by decide) rfl ?_
    refine B_iinc (lv1 := [(3, .int (v3 + (-1 : Int32))), (2, .int (v2 / (10 : Int32))), (0, .ref o0)]) (v := (v3 + (-1 : Int32))) dX4_takeFigures_28 2 rfl rfl (by decide) rfl ?_
    refine B_goto (tgt := 9) dX4_takeFigures_31 (by decide) ?_
    refine B_weak [2, 1, 0] rfl ?_
    exact h
set_option maxHeartbeats 4000000 in
set_option maxRecDepth 100000 in
theorem rX5_isMissing (d : Nat) (o0 : Nat) (ho0 : isSh o0) (M : Mm) (Q : Int32 → Mm → Prop)
    (h : ((0 ≤ (M o0 1) → Q (0 : Int32) M) ∧ (¬ 0 ≤ (M o0 1) → Q (1 : Int32) M))) : kX5_isMissing d o0 M Q := by
  refine Ct.of (cc := cX5_isMissing) (nL := 1) (by decide) rfl (Nat.le_of_ble_eq_true rfl) ?_
  show BX5_isMissing d 0 [(0, .ref o0)] [] M Q
  refine B_aload_n dX5_isMissing_0 0 rfl ?_
  refine B_getf (T := TX5) (N := 3) (v := .int (M o0 1)) o0 1 dX5_isMissing_1 inX5_isMissing_5 lkX5_isMissing_f15 (sh_lt ho0) (sh_c9 ho0) (sh_cl ho0) (sh_nf ho0) (by decide) (sh_v1 ho0) ?_
  refine B_if_ge (tgt := 11) dX5_isMissing_4 (by decide) (fun hc => ?_) (fun hc => ?_)
  · have h := h.1 hc
    refine B_iconst (v := 0) dX5_isMissing_11 (by decide) ?_
    exact B_zret dX5_isMissing_12 (Or.inl rfl) h
  · have h := h.2 hc
    refine B_iconst (v := 1) dX5_isMissing_7 (by decide) ?_
    refine B_goto (tgt := 12) dX5_isMissing_8 (by decide) ?_
    exact B_zret dX5_isMissing_12 (Or.inr rfl) h
set_option maxHeartbeats 4000000 in
set_option maxRecDepth 100000 in
theorem rX5_lay (d : Nat) (o0 : Nat) (ho0 : isSh o0) (v1 : Int32) (v2 : Int32) (M : Mm) (Q : Int32 → Mm → Prop)
    (h : kJ7_fill_53178 d (o0 + 1) (0 : Int32) M (fun (_r1 : Int32) (M1 : Mm) => (∀ M2 : Mm, M2 = (upd2 M1 o0 1 v1) → (∀ M3 : Mm, M3 = (upd2 M2 o0 2 v2) → Q 0 M3)))) : kX5_lay (d + 1) o0 v1 v2 M Q := by
  refine Ct.of (cc := cX5_lay) (nL := 3) (by decide) rfl (Nat.le_of_ble_eq_true rfl) ?_
  show BX5_lay (d + 1) 0 [(0, .ref o0), (1, .int v1), (2, .int v2)] [] M Q
  refine B_aload_n dX5_lay_0 0 rfl ?_
  refine B_getf (T := TX5) (N := 3) (v := .ref (o0 + 1)) o0 0 dX5_lay_1 inX5_lay_5 lkX5_lay_f9 (sh_lt ho0) (sh_c9 ho0) (sh_cl ho0) (sh_nf ho0) (by decide) (sh_v0 ho0) ?_
  refine B_iconst (v := 0) dX5_lay_4 (by decide) ?_
  refine B_callS (st := []) [.ref (o0 + 1), .int (0 : Int32)] dX5_lay_5 gX5_lay_J7_fill_53178 rfl hyJ7_fill_53178 (Nat.le_of_ble_eq_true rfl) (Nat.le_of_ble_eq_true rfl) rfl (Ct.mono h (Nat.le_refl _) (fun _r1 M1 h => ?_))
  refine B_aload_n dX5_lay_8 0 rfl ?_
  refine B_iload_n dX5_lay_9 1 rfl ?_
  refine B_putf (T := TX5) (N := 3) o0 1 tyX5 tyX5_ok nmX5 dX5_lay_10 inX5_lay_5 lkX5_lay_f15 (sh_lt ho0) (sh_c9 ho0) (sh_cl ho0) (sh_nf ho0) (by decide) (sh_r1 ho0) rfl (by decide +kernel) ?_
  have h := h _ rfl
  generalize (upd2 M1 o0 1 v1) = M2 at h ⊢
  refine B_aload_n dX5_lay_13 0 rfl ?_
  refine B_iload_n dX5_lay_14 2 rfl ?_
  refine B_putf (T := TX5) (N := 3) o0 2 tyX5 tyX5_ok nmX5 dX5_lay_15 inX5_lay_5 lkX5_lay_f25 (sh_lt ho0) (sh_c9 ho0) (sh_cl ho0) (sh_nf ho0) (by decide) (sh_r2 ho0) rfl (by decide +kernel) ?_
  have h := h _ rfl
  generalize (upd2 M2 o0 2 v2) = M3 at h ⊢
  exact B_vret dX5_lay_18 h
set_option maxHeartbeats 4000000 in
set_option maxRecDepth 100000 in
theorem rX5_clear (d : Nat) (o0 : Nat) (ho0 : isSh o0) (M : Mm) (Q : Int32 → Mm → Prop)
    (h : (∀ M1 : Mm, M1 = (upd2 M o0 1 (-1 : Int32)) → (∀ M2 : Mm, M2 = (upd2 M1 o0 2 (0 : Int32)) → Q (M o0 2) M2))) : kX5_clear d o0 M Q := by
  refine Ct.of (cc := cX5_clear) (nL := 2) (by decide) rfl (Nat.le_of_ble_eq_true rfl) ?_
  show BX5_clear d 0 [(0, .ref o0)] [] M Q
  refine B_aload_n dX5_clear_0 0 rfl ?_
  refine B_getf (T := TX5) (N := 3) (v := .int (M o0 2)) o0 2 dX5_clear_1 inX5_clear_5 lkX5_clear_f25 (sh_lt ho0) (sh_c9 ho0) (sh_cl ho0) (sh_nf ho0) (by decide) (sh_v2 ho0) ?_
  refine B_istore_n (lv1 := [(1, .int (M o0 2)), (0, .ref o0)]) dX5_clear_4 (by decide) rfl ?_
  refine B_aload_n dX5_clear_5 1 rfl ?_
  refine B_iconst (v := -1) dX5_clear_6 (by decide) ?_
  refine B_putf (T := TX5) (N := 3) o0 1 tyX5 tyX5_ok nmX5 dX5_clear_7 inX5_clear_5 lkX5_clear_f15 (sh_lt ho0) (sh_c9 ho0) (sh_cl ho0) (sh_nf ho0) (by decide) (sh_r1 ho0) rfl (by decide +kernel) ?_
  have h := h _ rfl
  generalize (upd2 M o0 1 (-1 : Int32)) = M1 at h ⊢
  refine B_aload_n dX5_clear_10 1 rfl ?_
  refine B_iconst (v := 0) dX5_clear_11 (by decide) ?_
  refine B_putf (T := TX5) (N := 3) o0 2 tyX5 tyX5_ok nmX5 dX5_clear_12 inX5_clear_5 lkX5_clear_f25 (sh_lt ho0) (sh_c9 ho0) (sh_cl ho0) (sh_nf ho0) (by decide) (sh_r2 ho0) rfl (by decide +kernel) ?_
  have h := h _ rfl
  generalize (upd2 M1 o0 2 (0 : Int32)) = M2 at h ⊢
  refine B_iload_n dX5_clear_15 0 rfl ?_
  exact B_iret dX5_clear_16 h
set_option maxHeartbeats 4000000 in
set_option maxRecDepth 100000 in
theorem rX5_has (d : Nat) (o0 : Nat) (ho0 : isSh o0) (v1 : Int32) (v2 : Int32) (M : Mm) (Q : Int32 → Mm → Prop)
    (h : ((v2 < 0 → Q (0 : Int32) M) ∧ (¬ v2 < 0 → ((v1 < 0 → Q (0 : Int32) M) ∧ (¬ v1 < 0 → ((((M o0 2) - v2) < v1 → Q (0 : Int32) M) ∧ (¬ ((M o0 2) - v2) < v1 → Q (1 : Int32) M))))))) : kX5_has d o0 v1 v2 M Q := by
  refine Ct.of (cc := cX5_has) (nL := 3) (by decide) rfl (Nat.le_of_ble_eq_true rfl) ?_
  show BX5_has d 0 [(0, .ref o0), (1, .int v1), (2, .int v2)] [] M Q
  refine B_iload_n dX5_has_0 2 rfl ?_
  refine B_if_lt (tgt := 22) dX5_has_1 (by decide) (fun hc => ?_) (fun hc => ?_)
  · have h := h.1 hc
    refine B_iconst (v := 0) dX5_has_22 (by decide) ?_
    exact B_zret dX5_has_23 (Or.inl rfl) h
  · have h := h.2 hc
    refine B_iload_n dX5_has_4 1 rfl ?_
    refine B_if_lt (tgt := 22) dX5_has_5 (by decide) (fun hc => ?_) (fun hc => ?_)
    · have h := h.1 hc
      refine B_iconst (v := 0) dX5_has_22 (by decide) ?_
      exact B_zret dX5_has_23 (Or.inl rfl) h
    · have h := h.2 hc
      refine B_iload_n dX5_has_8 1 rfl ?_
      refine B_aload_n dX5_has_9 0 rfl ?_
      refine B_getf (T := TX5) (N := 3) (v := .int (M o0 2)) o0 2 dX5_has_10 inX5_has_5 lkX5_has_f25 (sh_lt ho0) (sh_c9 ho0) (sh_cl ho0) (sh_nf ho0) (by decide) (sh_v2 ho0) ?_
      refine B_iload_n dX5_has_13 2 rfl ?_
      refine B_isub dX5_has_14 ?_
      refine B_icmp_gt (tgt := 22) dX5_has_15 (by decide) (fun hc => ?_) (fun hc => ?_)
      · have h := h.1 hc
        refine B_iconst (v := 0) dX5_has_22 (by decide) ?_
        exact B_zret dX5_has_23 (Or.inl rfl) h
      · have h := h.2 hc
        refine B_iconst (v := 1) dX5_has_18 (by decide) ?_
        refine B_goto (tgt := 23) dX5_has_19 (by decide) ?_
        exact B_zret dX5_has_23 (Or.inr rfl) h
set_option maxHeartbeats 4000000 in
set_option maxRecDepth 100000 in
theorem rX5_put (d : Nat) (o0 : Nat) (ho0 : isSh o0) (v1 : Int32) (v2 : Int32) (M : Mm) (Q : Int32 → Mm → Prop)
    (h : kX5_cut d o0 v2 M (fun (r1 : Int32) (M1 : Mm) => vp_in v1 40 ∧ (∀ M2 : Mm, M2 = (upd2 M1 (o0 + 1) v1.toNatClampNeg r1) → vp_in v1 40 ∧ Q (M2 (o0 + 1) v1.toNatClampNeg) M2))) : kX5_put (d + 1) o0 v1 v2 M Q := by
  refine Ct.of (cc := cX5_put) (nL := 3) (by decide) rfl (Nat.le_of_ble_eq_true rfl) ?_
  show BX5_put (d + 1) 0 [(0, .ref o0), (1, .int v1), (2, .int v2)] [] M Q
  refine B_aload_n dX5_put_0 0 rfl ?_
  refine B_getf (T := TX5) (N := 3) (v := .ref (o0 + 1)) o0 0 dX5_put_1 inX5_put_5 lkX5_put_f9 (sh_lt ho0) (sh_c9 ho0) (sh_cl ho0) (sh_nf ho0) (by decide) (sh_v0 ho0) ?_
  refine B_iload_n dX5_put_4 1 rfl ?_
  refine B_aload_n dX5_put_5 0 rfl ?_
  refine B_iload_n dX5_put_6 2 rfl ?_
  refine B_callV (st := [.int v1, .ref (o0 + 1)]) o0 [.int v2] dX5_put_7 gX5_put_X5_cut rfl hyX5_cut (sh_lt ho0) (sh_c9 ho0) TX5 3 (sh_cl ho0) (Nat.le_of_ble_eq_true rfl) (Nat.le_of_ble_eq_true rfl) rfl (Ct.mono h (Nat.le_refl _) (fun r1 M1 h => ?_))
  obtain ⟨hi, h⟩ := h
  refine B_iast (n := 40) (o0 + 1) dX5_put_10 (sh1_lt ho0) (sh1_c ho0) (sh1_n ho0) hi ?_
  have h := h _ rfl
  generalize (upd2 M1 (o0 + 1) v1.toNatClampNeg r1) = M2 at h ⊢
  refine B_aload_n dX5_put_11 0 rfl ?_
  refine B_getf (T := TX5) (N := 3) (v := .ref (o0 + 1)) o0 0 dX5_put_12 inX5_put_5 lkX5_put_f9 (sh_lt ho0) (sh_c9 ho0) (sh_cl ho0) (sh_nf ho0) (by decide) (sh_v0 ho0) ?_
  refine B_iload_n dX5_put_15 1 rfl ?_
  obtain ⟨hi, h⟩ := h
  refine B_iald (n := 40) (o0 + 1) dX5_put_16 (sh1_lt ho0) (sh1_c ho0) (sh1_n ho0) hi ?_
  exact B_iret dX5_put_17 h
set_option maxHeartbeats 4000000 in
set_option maxRecDepth 100000 in
theorem rX5_cut (d : Nat) (o0 : Nat) (ho0 : isSh o0) (v1 : Int32) (M : Mm) (Q : Int32 → Mm → Prop)
    (h : (((M o0 1) = 0 → Q v1.toInt8.toInt32 M) ∧ ((M o0 1) = 1 → Q v1.toInt16.toInt32 M) ∧ (¬ (M o0 1) = 0 ∧ ¬ (M o0 1) = 1 → Q v1 M))) : kX5_cut d o0 v1 M Q := by
  refine Ct.of (cc := cX5_cut) (nL := 2) (by decide) rfl (Nat.le_of_ble_eq_true rfl) ?_
  show BX5_cut d 0 [(0, .ref o0), (1, .int v1)] [] M Q
  refine B_aload_n dX5_cut_0 0 rfl ?_
  refine B_getf (T := TX5) (N := 3) (v := .int (M o0 1)) o0 1 dX5_cut_1 inX5_cut_5 lkX5_cut_f15 (sh_lt ho0) (sh_c9 ho0) (sh_cl ho0) (sh_nf ho0) (by decide) (sh_v1 ho0) ?_
  by_cases hc0 : (M o0 1) = 0
  · have h := h.1 hc0
    refine B_look (off := 28) (tgt := 32) dX5_cut_4 (by decide) (by rw [hc0] <;> rfl) (by decide) ?_
    refine B_iload_n dX5_cut_32 1 rfl ?_
    refine B_i2b dX5_cut_33 ?_
    exact B_iret dX5_cut_34 h
  ·
    by_cases hc1 : (M o0 1) = 1
    · have h := h.2.1 hc1
      refine B_look (off := 31) (tgt := 35) dX5_cut_4 (by decide) (by rw [hc1] <;> rfl) (by decide) ?_
      refine B_iload_n dX5_cut_35 1 rfl ?_
      refine B_i2s dX5_cut_36 ?_
      exact B_iret dX5_cut_37 h
    ·
      have h := h.2.2 ⟨hc0, hc1⟩
      refine B_look (off := 34) (tgt := 38) dX5_cut_4 (by decide) (by rw [lv_osw hc0 (by decide), lv_osw hc1 (by decide)] <;> rfl) (by decide) ?_
      refine B_iload_n dX5_cut_38 1 rfl ?_
      exact B_iret dX5_cut_39 h
set_option maxHeartbeats 4000000 in
set_option maxRecDepth 100000 in
theorem rX6_add (d : Nat) (v1 : Int32) (M : Mm) (Q : Int32 → Mm → Prop)
    (h : ((¬ (M 18 3) = (50 : Int32) → vp_in (M 18 3) 50 ∧ (∀ M1 : Mm, M1 = (upd2 M 19 (M 18 3).toNatClampNeg v1) → (∀ M2 : Mm, M2 = (upd2 M1 18 3 ((M1 18 3) + (1 : Int32))) → Q (1 : Int32) M2))) ∧ ((M 18 3) = (50 : Int32) → Q (0 : Int32) M))) : kX6_add d v1 M Q := by
  refine Ct.of (cc := cX6_add) (nL := 2) (by decide) rfl (Nat.le_of_ble_eq_true rfl) ?_
  show BX6_add d 0 [(0, .ref 18), (1, .int v1)] [] M Q
  refine B_aload_n dX6_add_0 0 rfl ?_
  refine B_getf (T := TX6) (N := 5) (v := .int (M 18 3)) 18 3 dX6_add_1 inX6_add_6 lkX6_add_f22 (Nat.le_of_ble_eq_true rfl) (Nat.le_of_ble_eq_true rfl) rfl rfl (by decide) rfl ?_
  refine B_bipush (v := 50) dX6_add_4 (by decide) ?_
  refine B_icmp_ne (tgt := 11) dX6_add_6 (by decide) (fun hc => ?_) (fun hc => ?_)
  · have h := h.1 hc
    refine B_aload_n dX6_add_11 0 rfl ?_
    refine B_getf (T := TX6) (N := 5) (v := .ref 19) 18 0 dX6_add_12 inX6_add_6 lkX6_add_f9 (Nat.le_of_ble_eq_true rfl) (Nat.le_of_ble_eq_true rfl) rfl rfl (by decide) rfl ?_
    refine B_aload_n dX6_add_15 0 rfl ?_
    refine B_getf (T := TX6) (N := 5) (v := .int (M 18 3)) 18 3 dX6_add_16 inX6_add_6 lkX6_add_f22 (Nat.le_of_ble_eq_true rfl) (Nat.le_of_ble_eq_true rfl) rfl rfl (by decide) rfl ?_
    refine B_iload_n dX6_add_19 1 rfl ?_
    obtain ⟨hi, h⟩ := h
    refine B_iast (n := 50) 19 dX6_add_20 (Nat.le_of_ble_eq_true rfl) rfl rfl hi ?_
    have h := h _ rfl
    generalize (upd2 M 19 (M 18 3).toNatClampNeg v1) = M1 at h ⊢
    refine B_aload_n dX6_add_21 0 rfl ?_
    refine B_dup dX6_add_22 rfl ?_
    refine B_getf (T := TX6) (N := 5) (v := .int (M1 18 3)) 18 3 dX6_add_23 inX6_add_6 lkX6_add_f22 (Nat.le_of_ble_eq_true rfl) (Nat.le_of_ble_eq_true rfl) rfl rfl (by decide) rfl ?_
    refine B_iconst (v := 1) dX6_add_26 (by decide) ?_
    refine B_iadd dX6_add_27 ?_
    refine B_putf (T := TX6) (N := 5) 18 3 tyX6 tyX6_ok nmX6 dX6_add_28 inX6_add_6 lkX6_add_f22 (Nat.le_of_ble_eq_true rfl) (Nat.le_of_ble_eq_true rfl) rfl rfl (by decide) rfl rfl (by decide +kernel) ?_
    have h := h _ rfl
    generalize (upd2 M1 18 3 ((M1 18 3) + (1 : Int32))) = M2 at h ⊢
    refine B_iconst (v := 1) dX6_add_31 (by decide) ?_
    exact B_zret dX6_add_32 (Or.inr rfl) h
  · have h := h.2 hc
    refine B_iconst (v := 0) dX6_add_9 (by decide) ?_
    exact B_zret dX6_add_10 (Or.inl rfl) h
set_option maxHeartbeats 4000000 in
set_option maxRecDepth 100000 in
theorem rX6_read (d : Nat)  (M : Mm) (Q : Int32 → Mm → Prop)
    (h : (∀ M1 : Mm, M1 = (upd2 M 20 2 (0 : Int32)) → (∀ M2 : Mm, M2 = (upd2 M1 18 2 (0 : Int32)) → BX6_read (d + 1) 22 [(0, .ref 18), (1, .int (M 18 3)), (2, .int (0 : Int32)), (3, .int (0 : Int32))] [] M2 Q))) : kX6_read (d + 1)  M Q := by
  refine Ct.of (cc := cX6_read) (nL := 6) (by decide) rfl (Nat.le_of_ble_eq_true rfl) ?_
  show BX6_read (d + 1) 0 [(0, .ref 18)] [] M Q
  refine B_aload_n dX6_read_0 0 rfl ?_
  refine B_getf (T := TX6) (N := 5) (v := .int (M 18 3)) 18 3 dX6_read_1 inX6_read_6 lkX6_read_f22 (Nat.le_of_ble_eq_true rfl) (Nat.le_of_ble_eq_true rfl) rfl rfl (by decide) rfl ?_
  refine B_istore_n (lv1 := [(1, .int (M 18 3)), (0, .ref 18)]) dX6_read_4 (by decide) rfl ?_
  refine B_aload_n dX6_read_5 1 rfl ?_
  refine B_getf (T := TX6) (N := 5) (v := .ref 20) 18 1 dX6_read_6 inX6_read_6 lkX6_read_f18 (Nat.le_of_ble_eq_true rfl) (Nat.le_of_ble_eq_true rfl) rfl rfl (by decide) rfl ?_
  refine B_iconst (v := 0) dX6_read_9 (by decide) ?_
  refine B_putf (T := TX4) (N := 5) 20 2 tyX4 tyX4_ok nmX4 dX6_read_10 inX6_read_4 lkX6_read_f26 (Nat.le_of_ble_eq_true rfl) (Nat.le_of_ble_eq_true rfl) rfl rfl (by decide) rfl rfl (by decide +kernel) ?_
  have h := h _ rfl
  generalize (upd2 M 20 2 (0 : Int32)) = M1 at h ⊢
  refine B_aload_n dX6_read_13 1 rfl ?_
  refine B_iconst (v := 0) dX6_read_14 (by decide) ?_
  refine B_putf (T := TX6) (N := 5) 18 2 tyX6 tyX6_ok nmX6 dX6_read_15 inX6_read_6 lkX6_read_f27 (Nat.le_of_ble_eq_true rfl) (Nat.le_of_ble_eq_true rfl) rfl rfl (by decide) rfl rfl (by decide +kernel) ?_
  have h := h _ rfl
  generalize (upd2 M1 18 2 (0 : Int32)) = M2 at h ⊢
  refine B_iconst (v := 0) dX6_read_18 (by decide) ?_
  refine B_istore_n (lv1 := [(2, .int (0 : Int32)), (1, .int (M 18 3)), (0, .ref 18)]) dX6_read_19 (by decide) rfl ?_
  refine B_iconst (v := 0) dX6_read_20 (by decide) ?_
  refine B_istore_n (lv1 := [(3, .int (0 : Int32)), (2, .int (0 : Int32)), (1, .int (M 18 3)), (0, .ref 18)]) dX6_read_21 (by decide) rfl ?_
  refine B_weak [3, 2, 1, 0] rfl ?_
  exact h
set_option maxHeartbeats 4000000 in
set_option maxRecDepth 100000 in
theorem rX6_read_22 (d : Nat) (v1 : Int32) (v2 : Int32) (v3 : Int32) (M : Mm) (Q : Int32 → Mm → Prop)
    (h : (((50 : Int32) ≤ v3 → BX6_read (d + 1) 73 [(0, .ref 18), (1, .int v1)] [] M Q) ∧ (¬ (50 : Int32) ≤ v3 → ((v1 ≤ v2 → BX6_read (d + 1) 73 [(0, .ref 18), (1, .int v1)] [] M Q) ∧ (¬ v1 ≤ v2 → kX6_tokenLength d v2 M (fun (r1 : Int32) (M1 : Mm) => kX6_take d v2 r1 M1 (fun (r2 : Int32) (M2 : Mm) => ((r2 = 0 → BX6_read (d + 1) 22 [(0, .ref 18), (1, .int v1), (2, .int (v2 + r1)), (3, .int (v3 + (1 : Int32)))] [] M2 Q) ∧ (¬ r2 = 0 → kX6_fail d r2 v2 M2 (fun (r3 : Int32) (M3 : Mm) => Q r3 M3)))))))))) : BX6_read (d + 1) 22 [(0, .ref 18), (1, .int v1), (2, .int v2), (3, .int v3)] [] M Q := by
  refine B_iload_n dX6_read_22 3 rfl ?_
  refine B_bipush (v := 50) dX6_read_23 (by decide) ?_
  refine B_icmp_ge (tgt := 73) dX6_read_25 (by decide) (fun hc => ?_) (fun hc => ?_)
  · have h := h.1 hc
    refine B_weak [0, 1] rfl ?_
    exact h
  · have h := h.2 hc
    refine B_iload_n dX6_read_28 2 rfl ?_
    refine B_iload_n dX6_read_29 1 rfl ?_
    refine B_icmp_ge (tgt := 73) dX6_read_30 (by decide) (fun hc => ?_) (fun hc => ?_)
    · have h := h.1 hc
      refine B_weak [0, 1] rfl ?_
      exact h
    · have h := h.2 hc
      refine B_aload_n dX6_read_33 0 rfl ?_
      refine B_iload_n dX6_read_34 2 rfl ?_
      refine B_callV (st := []) 18 [.int v2] dX6_read_35 gX6_read_X6_tokenLength rfl hyX6_tokenLength (Nat.le_of_ble_eq_true rfl) (Nat.le_of_ble_eq_true rfl) TX6 5 rfl (Nat.le_of_ble_eq_true rfl) (Nat.le_of_ble_eq_true rfl) rfl (Ct.mono h (Nat.le_refl _) (fun r1 M1 h => ?_))
      refine B_istore (lv1 := [(4, .int r1), (0, .ref 18), (1, .int v1), (2, .int v2), (3, .int v3)]) dX6_read_38 (by decide) rfl ?_
      refine B_aload_n dX6_read_40 1 rfl ?_
      refine B_iload_n dX6_read_41 3 rfl ?_
      refine B_iload dX6_read_42 0 rfl ?_
      refine B_callV (st := []) 18 [.int v2, .int r1] dX6_read_44 gX6_read_X6_take rfl hyX6_take (Nat.le_of_ble_eq_true rfl) (Nat.le_of_ble_eq_true rfl) TX6 5 rfl (Nat.le_of_ble_eq_true rfl) (Nat.le_of_ble_eq_true rfl) rfl (Ct.mono h (Nat.le_refl _) (fun r2 M2 h => ?_))
      refine B_istore (lv1 := [(5, .int r2), (4, .int r1), (0, .ref 18), (1, .int v1), (2, .int v2), (3, .int v3)]) dX6_read_47 (by decide) rfl ?_
      refine B_iload dX6_read_49 0 rfl ?_
      refine B_if_eq (tgt := 62) dX6_read_51 (by decide) (fun hc => ?_) (fun hc => ?_)
      · have h := h.1 hc
        refine B_iload_n dX6_read_62 4 rfl ?_
        refine B_iload dX6_read_63 1 rfl ?_
        refine B_iadd dX6_read_65 ?_
        refine B_istore_n (lv1 := [(2, .int (v2 + r1)), (5, .int r2), (4, .int r1), (0, .ref 18), (1, .int v1), (3, .int v3)]) dX6_read_66 (by decide) rfl ?_
        refine B_iinc (lv1 := [(3, .int (v3 + (1 : Int32))), (2, .int (v2 + r1)), (5, .int r2), (4, .int r1), (0, .ref 18), (1, .int v1)]) (v := (v3 + (1 : Int32))) dX6_read_67 5 rfl rfl (by decide) rfl ?_
        refine B_goto (tgt := 22) dX6_read_70 (by decide) ?_
        refine B_weak [4, 5, 1, 0] rfl ?_
        exact h
      · have h := h.2 hc
        refine B_aload_n dX6_read_54 2 rfl ?_
        refine B_iload dX6_read_55 0 rfl ?_
        refine B_iload_n dX6_read_57 4 rfl ?_
        refine B_callV (st := []) 18 [.int r2, .int v2] dX6_read_58 gX6_read_X6_fail rfl hyX6_fail (Nat.le_of_ble_eq_true rfl) (Nat.le_of_ble_eq_true rfl) TX6 5 rfl (Nat.le_of_ble_eq_true rfl) (Nat.le_of_ble_eq_true rfl) rfl (Ct.mono h (Nat.le_refl _) (fun r3 M3 h => ?_))
        exact B_iret dX6_read_61 h
set_option maxHeartbeats 4000000 in
set_option maxRecDepth 100000 in
theorem rX6_read_73 (d : Nat) (v1 : Int32) (M : Mm) (Q : Int32 → Mm → Prop)
    (h : ((¬ (M 18 2) = (3 : Int32) → BX6_read (d + 1) 92 [(0, .ref 18), (1, .int v1)] [] M Q) ∧ ((M 18 2) = (3 : Int32) → (((2 : Int32) ≤ (M 20 2) → (∀ M1 : Mm, M1 = (upd2 M 18 3 (0 : Int32)) → Q (-1 : Int32) M1)) ∧ (¬ (2 : Int32) ≤ (M 20 2) → BX6_read (d + 1) 92 [(0, .ref 18), (1, .int v1)] [] M Q))))) : BX6_read (d + 1) 73 [(0, .ref 18), (1, .int v1)] [] M Q := by
  refine B_aload_n dX6_read_73 0 rfl ?_
  refine B_getf (T := TX6) (N := 5) (v := .int (M 18 2)) 18 2 dX6_read_74 inX6_read_6 lkX6_read_f27 (Nat.le_of_ble_eq_true rfl) (Nat.le_of_ble_eq_true rfl) rfl rfl (by decide) rfl ?_
  refine B_iconst (v := 3) dX6_read_77 (by decide) ?_
  refine B_icmp_ne (tgt := 92) dX6_read_78 (by decide) (fun hc => ?_) (fun hc => ?_)
  · have h := h.1 hc
    refine B_weak [0, 1] rfl ?_
    exact h
  · have h := h.2 hc
    refine B_aload_n dX6_read_81 0 rfl ?_
    refine B_getf (T := TX6) (N := 5) (v := .ref 20) 18 1 dX6_read_82 inX6_read_6 lkX6_read_f18 (Nat.le_of_ble_eq_true rfl) (Nat.le_of_ble_eq_true rfl) rfl rfl (by decide) rfl ?_
    refine B_getf (T := TX4) (N := 5) (v := .int (M 20 2)) 20 2 dX6_read_85 inX6_read_4 lkX6_read_f26 (Nat.le_of_ble_eq_true rfl) (Nat.le_of_ble_eq_true rfl) rfl rfl (by decide) rfl ?_
    refine B_iconst (v := 2) dX6_read_88 (by decide) ?_
    refine B_icmp_ge (tgt := 99) dX6_read_89 (by decide) (fun hc => ?_) (fun hc => ?_)
    · have h := h.1 hc
      refine B_aload_n dX6_read_99 0 rfl ?_
      refine B_iconst (v := 0) dX6_read_100 (by decide) ?_
      refine B_putf (T := TX6) (N := 5) 18 3 tyX6 tyX6_ok nmX6 dX6_read_101 inX6_read_6 lkX6_read_f22 (Nat.le_of_ble_eq_true rfl) (Nat.le_of_ble_eq_true rfl) rfl rfl (by decide) rfl rfl (by decide +kernel) ?_
      have h := h _ rfl
      generalize (upd2 M 18 3 (0 : Int32)) = M1 at h ⊢
      refine B_iconst (v := -1) dX6_read_104 (by decide) ?_
      exact B_iret dX6_read_105 h
    · have h := h.2 hc
      refine B_weak [0, 1] rfl ?_
      exact h
set_option maxHeartbeats 4000000 in
set_option maxRecDepth 100000 in
theorem rX6_read_92 (d : Nat) (v1 : Int32) (M : Mm) (Q : Int32 → Mm → Prop)
    (h : kX6_fail d (1 : Int32) v1 M (fun (r1 : Int32) (M1 : Mm) => Q r1 M1)) : BX6_read (d + 1) 92 [(0, .ref 18), (1, .int v1)] [] M Q := by
  refine B_aload_n dX6_read_92 0 rfl ?_
  refine B_iconst (v := 1) dX6_read_93 (by decide) ?_
  refine B_iload_n dX6_read_94 1 rfl ?_
  refine B_callV (st := []) 18 [.int (1 : Int32), .int v1] dX6_read_95 gX6_read_X6_fail rfl hyX6_fail (Nat.le_of_ble_eq_true rfl) (Nat.le_of_ble_eq_true rfl) TX6 5 rfl (Nat.le_of_ble_eq_true rfl) (Nat.le_of_ble_eq_true rfl) rfl (Ct.mono h (Nat.le_refl _) (fun r1 M1 h => ?_))
  exact B_iret dX6_read_98 h
set_option maxHeartbeats 4000000 in
set_option maxRecDepth 100000 in
theorem rX6_fail (d : Nat) (v1 : Int32) (v2 : Int32) (M : Mm) (Q : Int32 → Mm → Prop)
    (h : (∀ M1 : Mm, M1 = (upd2 M 18 3 (0 : Int32)) → (∀ M2 : Mm, M2 = (upd2 M1 18 4 v1) → Q v2 M2))) : kX6_fail d v1 v2 M Q := by
  refine Ct.of (cc := cX6_fail) (nL := 3) (by decide) rfl (Nat.le_of_ble_eq_true rfl) ?_
  show BX6_fail d 0 [(0, .ref 18), (1, .int v1), (2, .int v2)] [] M Q
  refine B_aload_n dX6_fail_0 0 rfl ?_
  refine B_iconst (v := 0) dX6_fail_1 (by decide) ?_
  refine B_putf (T := TX6) (N := 5) 18 3 tyX6 tyX6_ok nmX6 dX6_fail_2 inX6_fail_6 lkX6_fail_f22 (Nat.le_of_ble_eq_true rfl) (Nat.le_of_ble_eq_true rfl) rfl rfl (by decide) rfl rfl (by decide +kernel) ?_
  have h := h _ rfl
  generalize (upd2 M 18 3 (0 : Int32)) = M1 at h ⊢
  refine B_aload_n dX6_fail_5 0 rfl ?_
  refine B_iload_n dX6_fail_6 1 rfl ?_
  refine B_putf (T := TX6) (N := 5) 18 4 tyX6 tyX6_ok nmX6 dX6_fail_7 inX6_fail_6 lkX6_fail_f41 (Nat.le_of_ble_eq_true rfl) (Nat.le_of_ble_eq_true rfl) rfl rfl (by decide) rfl rfl (by decide +kernel) ?_
  have h := h _ rfl
  generalize (upd2 M1 18 4 v1) = M2 at h ⊢
  refine B_iload_n dX6_fail_10 2 rfl ?_
  exact B_iret dX6_fail_11 h
set_option maxHeartbeats 4000000 in
set_option maxRecDepth 100000 in
theorem rX6_isFigure (d : Nat) (v1 : Int32) (M : Mm) (Q : Int32 → Mm → Prop)
    (h : vp_in v1 50 ∧ (((M 19 v1.toNatClampNeg) < (48 : Int32) → Q (0 : Int32) M) ∧ (¬ (M 19 v1.toNatClampNeg) < (48 : Int32) → vp_in v1 50 ∧ (((57 : Int32) < (M 19 v1.toNatClampNeg) → Q (0 : Int32) M) ∧ (¬ (57 : Int32) < (M 19 v1.toNatClampNeg) → Q (1 : Int32) M))))) : kX6_isFigure d v1 M Q := by
  refine Ct.of (cc := cX6_isFigure) (nL := 2) (by decide) rfl (Nat.le_of_ble_eq_true rfl) ?_
  show BX6_isFigure d 0 [(0, .ref 18), (1, .int v1)] [] M Q
  refine B_aload_n dX6_isFigure_0 0 rfl ?_
  refine B_getf (T := TX6) (N := 5) (v := .ref 19) 18 0 dX6_isFigure_1 inX6_isFigure_6 lkX6_isFigure_f9 (Nat.le_of_ble_eq_true rfl) (Nat.le_of_ble_eq_true rfl) rfl rfl (by decide) rfl ?_
  refine B_iload_n dX6_isFigure_4 1 rfl ?_
  obtain ⟨hi, h⟩ := h
  refine B_iald (n := 50) 19 dX6_isFigure_5 (Nat.le_of_ble_eq_true rfl) rfl rfl hi ?_
  refine B_bipush (v := 48) dX6_isFigure_6 (by decide) ?_
  refine B_icmp_lt (tgt := 26) dX6_isFigure_8 (by decide) (fun hc => ?_) (fun hc => ?_)
  · have h := h.1 hc
    refine B_iconst (v := 0) dX6_isFigure_26 (by decide) ?_
    exact B_zret dX6_isFigure_27 (Or.inl rfl) h
  · have h := h.2 hc
    refine B_aload_n dX6_isFigure_11 0 rfl ?_
    refine B_getf (T := TX6) (N := 5) (v := .ref 19) 18 0 dX6_isFigure_12 inX6_isFigure_6 lkX6_isFigure_f9 (Nat.le_of_ble_eq_true rfl) (Nat.le_of_ble_eq_true rfl) rfl rfl (by decide) rfl ?_
    refine B_iload_n dX6_isFigure_15 1 rfl ?_
    obtain ⟨hi, h⟩ := h
    refine B_iald (n := 50) 19 dX6_isFigure_16 (Nat.le_of_ble_eq_true rfl) rfl rfl hi ?_
    refine B_bipush (v := 57) dX6_isFigure_17 (by decide) ?_
    refine B_icmp_gt (tgt := 26) dX6_isFigure_19 (by decide) (fun hc => ?_) (fun hc => ?_)
    · have h := h.1 hc
      refine B_iconst (v := 0) dX6_isFigure_26 (by decide) ?_
      exact B_zret dX6_isFigure_27 (Or.inl rfl) h
    · have h := h.2 hc
      refine B_iconst (v := 1) dX6_isFigure_22 (by decide) ?_
      refine B_goto (tgt := 27) dX6_isFigure_23 (by decide) ?_
      exact B_zret dX6_isFigure_27 (Or.inr rfl) h
set_option maxHeartbeats 4000000 in
set_option maxRecDepth 100000 in
theorem rX6_tokenLength (d : Nat) (v1 : Int32) (M : Mm) (Q : Int32 → Mm → Prop)
    (h : BX6_tokenLength (d + 1) 2 [(0, .ref 18), (1, .int v1), (2, .int v1)] [] M Q) : kX6_tokenLength (d + 1) v1 M Q := by
  refine Ct.of (cc := cX6_tokenLength) (nL := 3) (by decide) rfl (Nat.le_of_ble_eq_true rfl) ?_
  show BX6_tokenLength (d + 1) 0 [(0, .ref 18), (1, .int v1)] [] M Q
  refine B_iload_n dX6_tokenLength_0 1 rfl ?_
  refine B_istore_n (lv1 := [(2, .int v1), (0, .ref 18), (1, .int v1)]) dX6_tokenLength_1 (by decide) rfl ?_
  refine B_weak [1, 2, 0] rfl ?_
  exact h
set_option maxHeartbeats 4000000 in
set_option maxRecDepth 100000 in
theorem rX6_tokenLength_2 (d : Nat) (v1 : Int32) (v2 : Int32) (M : Mm) (Q : Int32 → Mm → Prop)
    (h : (((M 18 3) ≤ v2 → BX6_tokenLength (d + 1) 24 [(1, .int v1), (2, .int v2)] [] M Q) ∧ (¬ (M 18 3) ≤ v2 → kX6_isFigure d v2 M (fun (r1 : Int32) (M1 : Mm) => ((r1 = 0 → BX6_tokenLength (d + 1) 24 [(1, .int v1), (2, .int v2)] [] M1 Q) ∧ (¬ r1 = 0 → BX6_tokenLength (d + 1) 2 [(0, .ref 18), (1, .int v1), (2, .int (v2 + (1 : Int32)))] [] M1 Q)))))) : BX6_tokenLength (d + 1) 2 [(0, .ref 18), (1, .int v1), (2, .int v2)] [] M Q := by
  refine B_iload_n dX6_tokenLength_2 2 rfl ?_
  refine B_aload_n dX6_tokenLength_3 0 rfl ?_
  refine B_getf (T := TX6) (N := 5) (v := .int (M 18 3)) 18 3 dX6_tokenLength_4 inX6_tokenLength_6 lkX6_tokenLength_f22 (Nat.le_of_ble_eq_true rfl) (Nat.le_of_ble_eq_true rfl) rfl rfl (by decide) rfl ?_
  refine B_icmp_ge (tgt := 24) dX6_tokenLength_7 (by decide) (fun hc => ?_) (fun hc => ?_)
  · have h := h.1 hc
    refine B_weak [1, 2] rfl ?_
    exact h
  · have h := h.2 hc
    refine B_aload_n dX6_tokenLength_10 0 rfl ?_
    refine B_iload_n dX6_tokenLength_11 2 rfl ?_
    refine B_callV (st := []) 18 [.int v2] dX6_tokenLength_12 gX6_tokenLength_X6_isFigure rfl hyX6_isFigure (Nat.le_of_ble_eq_true rfl) (Nat.le_of_ble_eq_true rfl) TX6 5 rfl (Nat.le_of_ble_eq_true rfl) (Nat.le_of_ble_eq_true rfl) rfl (Ct.mono h (Nat.le_refl _) (fun r1 M1 h => ?_))
    refine B_if_eq (tgt := 24) dX6_tokenLength_15 (by decide) (fun hc => ?_) (fun hc => ?_)
    · have h := h.1 hc
      refine B_weak [1, 2] rfl ?_
      exact h
    · have h := h.2 hc
      refine B_iinc (lv1 := [(2, .int (v2 + (1 : Int32))), (0, .ref 18), (1, .int v1)]) (v := (v2 + (1 : Int32))) dX6_tokenLength_18 2 rfl rfl (by decide) rfl ?_
      refine B_goto (tgt := 2) dX6_tokenLength_21 (by decide) ?_
      refine B_weak [1, 2, 0] rfl ?_
      exact h
set_option maxHeartbeats 4000000 in
set_option maxRecDepth 100000 in
theorem rX6_tokenLength_24 (d : Nat) (v1 : Int32) (v2 : Int32) (M : Mm) (Q : Int32 → Mm → Prop)
    (h : Q (imax (1 : Int32) (v2 - v1)) M) : BX6_tokenLength (d + 1) 24 [(1, .int v1), (2, .int v2)] [] M Q := by
  refine B_iconst (v := 1) dX6_tokenLength_24 (by decide) ?_
  refine B_iload_n dX6_tokenLength_25 1 rfl ?_
  refine B_iload_n dX6_tokenLength_26 0 rfl ?_
  refine B_isub dX6_tokenLength_27 ?_
  refine B_max dX6_tokenLength_28 lkX6_tokenLength_m48 lkX6_tokenLength_smax0 lkX6_tokenLength_imax0 lkX6_tokenLength_kmax0 (Nat.le_of_ble_eq_true rfl) ?_
  exact B_iret dX6_tokenLength_31 h
set_option maxHeartbeats 4000000 in
set_option maxRecDepth 100000 in
theorem rX6_take (d : Nat) (v1 : Int32) (v2 : Int32) (M : Mm) (Q : Int32 → Mm → Prop)
    (h : (((M 18 2) = 0 → kX6_takeSign d v1 (114 : Int32) (1 : Int32) M (fun (r1 : Int32) (M1 : Mm) => Q r1 M1)) ∧ ((M 18 2) = 1 → kX6_takeNight d v1 v2 M (fun (r2 : Int32) (M2 : Mm) => Q r2 M2)) ∧ ((M 18 2) = 2 → kX6_takeSign d v1 (59 : Int32) (3 : Int32) M (fun (r3 : Int32) (M3 : Mm) => Q r3 M3)) ∧ ((M 18 2) = 3 → kX6_takeSort d v1 M (fun (r4 : Int32) (M4 : Mm) => Q r4 M4)) ∧ (¬ (M 18 2) = 0 ∧ ¬ (M 18 2) = 1 ∧ ¬ (M 18 2) = 2 ∧ ¬ (M 18 2) = 3 → kX6_takeThing d v1 v2 M (fun (r5 : Int32) (M5 : Mm) => Q r5 M5)))) : kX6_take (d + 1) v1 v2 M Q := by
  refine Ct.of (cc := cX6_take) (nL := 3) (by decide) rfl (Nat.le_of_ble_eq_true rfl) ?_
  show BX6_take (d + 1) 0 [(0, .ref 18), (1, .int v1), (2, .int v2)] [] M Q
  refine B_aload_n dX6_take_0 0 rfl ?_
  refine B_getf (T := TX6) (N := 5) (v := .int (M 18 2)) 18 2 dX6_take_1 inX6_take_6 lkX6_take_f27 (Nat.le_of_ble_eq_true rfl) (Nat.le_of_ble_eq_true rfl) rfl rfl (by decide) rfl ?_
  by_cases hc0 : (M 18 2) = 0
  · have h := h.1 hc0
    refine B_tabIn (tgt := 36) dX6_take_4 (by rw [hc0]; decide) (by rw [hc0]; decide) (by rw [hc0]; rfl) (by decide) ?_
    refine B_aload_n dX6_take_36 0 rfl ?_
    refine B_iload_n dX6_take_37 1 rfl ?_
    refine B_bipush (v := 114) dX6_take_38 (by decide) ?_
    refine B_iconst (v := 1) dX6_take_40 (by decide) ?_
    refine B_callV (st := []) 18 [.int v1, .int (114 : Int32), .int (1 : Int32)] dX6_take_41 gX6_take_X6_takeSign rfl hyX6_takeSign (Nat.le_of_ble_eq_true rfl) (Nat.le_of_ble_eq_true rfl) TX6 5 rfl (Nat.le_of_ble_eq_true rfl) (Nat.le_of_ble_eq_true rfl) rfl (Ct.mono h (Nat.le_refl _) (fun r1 M1 h => ?_))
    exact B_iret dX6_take_44 h
  ·
    by_cases hc1 : (M 18 2) = 1
    · have h := h.2.1 hc1
      refine B_tabIn (tgt := 45) dX6_take_4 (by rw [hc1]; decide) (by rw [hc1]; decide) (by rw [hc1]; rfl) (by decide) ?_
      refine B_aload_n dX6_take_45 0 rfl ?_
      refine B_iload_n dX6_take_46 1 rfl ?_
      refine B_iload_n dX6_take_47 2 rfl ?_
      refine B_callV (st := []) 18 [.int v1, .int v2] dX6_take_48 gX6_take_X6_takeNight rfl hyX6_takeNight (Nat.le_of_ble_eq_true rfl) (Nat.le_of_ble_eq_true rfl) TX6 5 rfl (Nat.le_of_ble_eq_true rfl) (Nat.le_of_ble_eq_true rfl) rfl (Ct.mono h (Nat.le_refl _) (fun r2 M2 h => ?_))
      exact B_iret dX6_take_51 h
    ·
      by_cases hc2 : (M 18 2) = 2
      · have h := h.2.2.1 hc2
        refine B_tabIn (tgt := 52) dX6_take_4 (by rw [hc2]; decide) (by rw [hc2]; decide) (by rw [hc2]; rfl) (by decide) ?_
        refine B_aload_n dX6_take_52 0 rfl ?_
        refine B_iload_n dX6_take_53 1 rfl ?_
        refine B_bipush (v := 59) dX6_take_54 (by decide) ?_
        refine B_iconst (v := 3) dX6_take_56 (by decide) ?_
        refine B_callV (st := []) 18 [.int v1, .int (59 : Int32), .int (3 : Int32)] dX6_take_57 gX6_take_X6_takeSign rfl hyX6_takeSign (Nat.le_of_ble_eq_true rfl) (Nat.le_of_ble_eq_true rfl) TX6 5 rfl (Nat.le_of_ble_eq_true rfl) (Nat.le_of_ble_eq_true rfl) rfl (Ct.mono h (Nat.le_refl _) (fun r3 M3 h => ?_))
        exact B_iret dX6_take_60 h
      ·
        by_cases hc3 : (M 18 2) = 3
        · have h := h.2.2.2.1 hc3
          refine B_tabIn (tgt := 61) dX6_take_4 (by rw [hc3]; decide) (by rw [hc3]; decide) (by rw [hc3]; rfl) (by decide) ?_
          refine B_aload_n dX6_take_61 0 rfl ?_
          refine B_iload_n dX6_take_62 1 rfl ?_
          refine B_callV (st := []) 18 [.int v1] dX6_take_63 gX6_take_X6_takeSort rfl hyX6_takeSort (Nat.le_of_ble_eq_true rfl) (Nat.le_of_ble_eq_true rfl) TX6 5 rfl (Nat.le_of_ble_eq_true rfl) (Nat.le_of_ble_eq_true rfl) rfl (Ct.mono h (Nat.le_refl _) (fun r4 M4 h => ?_))
          exact B_iret dX6_take_66 h
        ·
          have h := h.2.2.2.2 ⟨hc0, hc1, hc2, hc3⟩
          refine B_tabOut (tgt := 67) dX6_take_4 (by have e0 := lv_neT hc0 (a := 0) (by decide); have e1 := lv_neT hc1 (a := 1) (by decide); have e2 := lv_neT hc2 (a := 2) (by decide); have e3 := lv_neT hc3 (a := 3) (by decide); omega) (by decide) ?_
          refine B_aload_n dX6_take_67 0 rfl ?_
          refine B_iload_n dX6_take_68 1 rfl ?_
          refine B_iload_n dX6_take_69 2 rfl ?_
          refine B_callV (st := []) 18 [.int v1, .int v2] dX6_take_70 gX6_take_X6_takeThing rfl hyX6_takeThing (Nat.le_of_ble_eq_true rfl) (Nat.le_of_ble_eq_true rfl) TX6 5 rfl (Nat.le_of_ble_eq_true rfl) (Nat.le_of_ble_eq_true rfl) rfl (Ct.mono h (Nat.le_refl _) (fun r5 M5 h => ?_))
          exact B_iret dX6_take_73 h
set_option maxHeartbeats 4000000 in
set_option maxRecDepth 100000 in
theorem rX6_takeSign (d : Nat) (v1 : Int32) (v2 : Int32) (v3 : Int32) (M : Mm) (Q : Int32 → Mm → Prop)
    (h : vp_in v1 50 ∧ (((M 19 v1.toNatClampNeg) = v2 → (∀ M1 : Mm, M1 = (upd2 M 18 2 v3) → Q (0 : Int32) M1)) ∧ (¬ (M 19 v1.toNatClampNeg) = v2 → Q (1 : Int32) M))) : kX6_takeSign d v1 v2 v3 M Q := by
  refine Ct.of (cc := cX6_takeSign) (nL := 4) (by decide) rfl (Nat.le_of_ble_eq_true rfl) ?_
  show BX6_takeSign d 0 [(0, .ref 18), (1, .int v1), (2, .int v2), (3, .int v3)] [] M Q
  refine B_aload_n dX6_takeSign_0 0 rfl ?_
  refine B_getf (T := TX6) (N := 5) (v := .ref 19) 18 0 dX6_takeSign_1 inX6_takeSign_6 lkX6_takeSign_f9 (Nat.le_of_ble_eq_true rfl) (Nat.le_of_ble_eq_true rfl) rfl rfl (by decide) rfl ?_
  refine B_iload_n dX6_takeSign_4 1 rfl ?_
  obtain ⟨hi, h⟩ := h
  refine B_iald (n := 50) 19 dX6_takeSign_5 (Nat.le_of_ble_eq_true rfl) rfl rfl hi ?_
  refine B_iload_n dX6_takeSign_6 2 rfl ?_
  refine B_icmp_eq (tgt := 12) dX6_takeSign_7 (by decide) (fun hc => ?_) (fun hc => ?_)
  · have h := h.1 hc
    refine B_aload_n dX6_takeSign_12 0 rfl ?_
    refine B_iload_n dX6_takeSign_13 3 rfl ?_
    refine B_putf (T := TX6) (N := 5) 18 2 tyX6 tyX6_ok nmX6 dX6_takeSign_14 inX6_takeSign_6 lkX6_takeSign_f27 (Nat.le_of_ble_eq_true rfl) (Nat.le_of_ble_eq_true rfl) rfl rfl (by decide) rfl rfl (by decide +kernel) ?_
    have h := h _ rfl
    generalize (upd2 M 18 2 v3) = M1 at h ⊢
    refine B_iconst (v := 0) dX6_takeSign_17 (by decide) ?_
    exact B_iret dX6_takeSign_18 h
  · have h := h.2 hc
    refine B_iconst (v := 1) dX6_takeSign_10 (by decide) ?_
    exact B_iret dX6_takeSign_11 h
set_option maxHeartbeats 4000000 in
set_option maxRecDepth 100000 in
theorem rX6_takeNight (d : Nat) (v1 : Int32) (v2 : Int32) (M : Mm) (Q : Int32 → Mm → Prop)
    (h : kX6_isNumber d v1 v2 M (fun (r1 : Int32) (M1 : Mm) => ((¬ r1 = 0 → kX6_numberAt d v1 v2 M1 (fun (r2 : Int32) (M2 : Mm) => ((r2 < (1 : Int32) → Q (2 : Int32) M2) ∧ (¬ r2 < (1 : Int32) → ((r2 ≤ (9 : Int32) → (∀ M3 : Mm, M3 = (upd2 M2 20 4 r2) → (∀ M4 : Mm, M4 = (upd2 M3 18 2 (2 : Int32)) → Q (0 : Int32) M4))) ∧ (¬ r2 ≤ (9 : Int32) → Q (2 : Int32) M2)))))) ∧ (r1 = 0 → Q (1 : Int32) M1)))) : kX6_takeNight (d + 1) v1 v2 M Q := by
  refine Ct.of (cc := cX6_takeNight) (nL := 4) (by decide) rfl (Nat.le_of_ble_eq_true rfl) ?_
  show BX6_takeNight (d + 1) 0 [(0, .ref 18), (1, .int v1), (2, .int v2)] [] M Q
  refine B_aload_n dX6_takeNight_0 0 rfl ?_
  refine B_iload_n dX6_takeNight_1 1 rfl ?_
  refine B_iload_n dX6_takeNight_2 2 rfl ?_
  refine B_callV (st := []) 18 [.int v1, .int v2] dX6_takeNight_3 gX6_takeNight_X6_isNumber rfl hyX6_isNumber (Nat.le_of_ble_eq_true rfl) (Nat.le_of_ble_eq_true rfl) TX6 5 rfl (Nat.le_of_ble_eq_true rfl) (Nat.le_of_ble_eq_true rfl) rfl (Ct.mono h (Nat.le_refl _) (fun r1 M1 h => ?_))
  refine B_if_ne (tgt := 11) dX6_takeNight_6 (by decide) (fun hc => ?_) (fun hc => ?_)
  · have h := h.1 hc
    refine B_aload_n dX6_takeNight_11 0 rfl ?_
    refine B_iload_n dX6_takeNight_12 1 rfl ?_
    refine B_iload_n dX6_takeNight_13 2 rfl ?_
    refine B_callV (st := []) 18 [.int v1, .int v2] dX6_takeNight_14 gX6_takeNight_X6_numberAt rfl hyX6_numberAt (Nat.le_of_ble_eq_true rfl) (Nat.le_of_ble_eq_true rfl) TX6 5 rfl (Nat.le_of_ble_eq_true rfl) (Nat.le_of_ble_eq_true rfl) rfl (Ct.mono h (Nat.le_refl _) (fun r2 M2 h => ?_))
    refine B_istore_n (lv1 := [(3, .int r2), (0, .ref 18), (1, .int v1), (2, .int v2)]) dX6_takeNight_17 (by decide) rfl ?_
    refine B_iload_n dX6_takeNight_18 0 rfl ?_
    refine B_iconst (v := 1) dX6_takeNight_19 (by decide) ?_
    refine B_icmp_lt (tgt := 29) dX6_takeNight_20 (by decide) (fun hc => ?_) (fun hc => ?_)
    · have h := h.1 hc
      refine B_iconst (v := 2) dX6_takeNight_29 (by decide) ?_
      exact B_iret dX6_takeNight_30 h
    · have h := h.2 hc
      refine B_iload_n dX6_takeNight_23 0 rfl ?_
      refine B_bipush (v := 9) dX6_takeNight_24 (by decide) ?_
      refine B_icmp_le (tgt := 31) dX6_takeNight_26 (by decide) (fun hc => ?_) (fun hc => ?_)
      · have h := h.1 hc
        refine B_aload_n dX6_takeNight_31 1 rfl ?_
        refine B_getf (T := TX6) (N := 5) (v := .ref 20) 18 1 dX6_takeNight_32 inX6_takeNight_6 lkX6_takeNight_f18 (Nat.le_of_ble_eq_true rfl) (Nat.le_of_ble_eq_true rfl) rfl rfl (by decide) rfl ?_
        refine B_iload_n dX6_takeNight_35 0 rfl ?_
        refine B_putf (T := TX4) (N := 5) 20 4 tyX4 tyX4_ok nmX4 dX6_takeNight_36 inX6_takeNight_4 lkX6_takeNight_f73 (Nat.le_of_ble_eq_true rfl) (Nat.le_of_ble_eq_true rfl) rfl rfl (by decide) rfl rfl (by decide +kernel) ?_
        have h := h _ rfl
        generalize (upd2 M2 20 4 r2) = M3 at h ⊢
        refine B_aload_n dX6_takeNight_39 1 rfl ?_
        refine B_iconst (v := 2) dX6_takeNight_40 (by decide) ?_
        refine B_putf (T := TX6) (N := 5) 18 2 tyX6 tyX6_ok nmX6 dX6_takeNight_41 inX6_takeNight_6 lkX6_takeNight_f27 (Nat.le_of_ble_eq_true rfl) (Nat.le_of_ble_eq_true rfl) rfl rfl (by decide) rfl rfl (by decide +kernel) ?_
        have h := h _ rfl
        generalize (upd2 M3 18 2 (2 : Int32)) = M4 at h ⊢
        refine B_iconst (v := 0) dX6_takeNight_44 (by decide) ?_
        exact B_iret dX6_takeNight_45 h
      · have h := h.2 hc
        refine B_iconst (v := 2) dX6_takeNight_29 (by decide) ?_
        exact B_iret dX6_takeNight_30 h
  · have h := h.2 hc
    refine B_iconst (v := 1) dX6_takeNight_9 (by decide) ?_
    exact B_iret dX6_takeNight_10 h
set_option maxHeartbeats 4000000 in
set_option maxRecDepth 100000 in
theorem rX6_takeSort (d : Nat) (v1 : Int32) (M : Mm) (Q : Int32 → Mm → Prop)
    (h : vp_in v1 50 ∧ kJ0_indexOf_0f7a4 d (((M 19 v1.toNatClampNeg).toUInt32 % 65536).toInt32) M (fun (r1 : Int32) (M1 : Mm) => ((¬ (r1 + (1 : Int32)) = 0 → ((¬ (M1 20 2) = (7 : Int32) → vp_in (M1 20 2) 7 ∧ (∀ M2 : Mm, M2 = (upd2 M1 21 (M1 20 2).toNatClampNeg (r1 + (1 : Int32))) → (∀ M3 : Mm, M3 = (upd2 M2 18 2 (4 : Int32)) → Q (0 : Int32) M3))) ∧ ((M1 20 2) = (7 : Int32) → Q (3 : Int32) M1))) ∧ ((r1 + (1 : Int32)) = 0 → Q (1 : Int32) M1)))) : kX6_takeSort (d + 1) v1 M Q := by
  refine Ct.of (cc := cX6_takeSort) (nL := 3) (by decide) rfl (Nat.le_of_ble_eq_true rfl) ?_
  show BX6_takeSort (d + 1) 0 [(0, .ref 18), (1, .int v1)] [] M Q
  refine B_ldcS dX6_takeSort_0 rfl ?_
  refine B_aload_n dX6_takeSort_2 0 rfl ?_
  refine B_getf (T := TX6) (N := 5) (v := .ref 19) 18 0 dX6_takeSort_3 inX6_takeSort_6 lkX6_takeSort_f9 (Nat.le_of_ble_eq_true rfl) (Nat.le_of_ble_eq_true rfl) rfl rfl (by decide) rfl ?_
  refine B_iload_n dX6_takeSort_6 1 rfl ?_
  obtain ⟨hi, h⟩ := h
  refine B_iald (n := 50) 19 dX6_takeSort_7 (Nat.le_of_ble_eq_true rfl) rfl rfl hi ?_
  refine B_i2c dX6_takeSort_8 ?_
  refine B_callT (st := []) [.int ((M 19 v1.toNatClampNeg).toUInt32 % 65536).toInt32] dX6_takeSort_9 gX6_takeSort_J0_indexOf_0f7a4 rfl hyJ0_indexOf_0f7a4 (Nat.le_of_ble_eq_true rfl) (Nat.le_of_ble_eq_true rfl) rfl (Ct.mono h (Nat.le_refl _) (fun r1 M1 h => ?_))
  refine B_iconst (v := 1) dX6_takeSort_12 (by decide) ?_
  refine B_iadd dX6_takeSort_13 ?_
  refine B_istore_n (lv1 := [(2, .int (r1 + (1 : Int32))), (0, .ref 18), (1, .int v1)]) dX6_takeSort_14 (by decide) rfl ?_
  refine B_iload_n dX6_takeSort_15 0 rfl ?_
  refine B_if_ne (tgt := 21) dX6_takeSort_16 (by decide) (fun hc => ?_) (fun hc => ?_)
  · have h := h.1 hc
    refine B_aload_n dX6_takeSort_21 1 rfl ?_
    refine B_getf (T := TX6) (N := 5) (v := .ref 20) 18 1 dX6_takeSort_22 inX6_takeSort_6 lkX6_takeSort_f18 (Nat.le_of_ble_eq_true rfl) (Nat.le_of_ble_eq_true rfl) rfl rfl (by decide) rfl ?_
    refine B_getf (T := TX4) (N := 5) (v := .int (M1 20 2)) 20 2 dX6_takeSort_25 inX6_takeSort_4 lkX6_takeSort_f26 (Nat.le_of_ble_eq_true rfl) (Nat.le_of_ble_eq_true rfl) rfl rfl (by decide) rfl ?_
    refine B_bipush (v := 7) dX6_takeSort_28 (by decide) ?_
    refine B_icmp_ne (tgt := 35) dX6_takeSort_30 (by decide) (fun hc => ?_) (fun hc => ?_)
    · have h := h.1 hc
      refine B_aload_n dX6_takeSort_35 1 rfl ?_
      refine B_getf (T := TX6) (N := 5) (v := .ref 20) 18 1 dX6_takeSort_36 inX6_takeSort_6 lkX6_takeSort_f18 (Nat.le_of_ble_eq_true rfl) (Nat.le_of_ble_eq_true rfl) rfl rfl (by decide) rfl ?_
      refine B_getf (T := TX4) (N := 5) (v := .ref 21) 20 0 dX6_takeSort_39 inX6_takeSort_4 lkX6_takeSort_f83 (Nat.le_of_ble_eq_true rfl) (Nat.le_of_ble_eq_true rfl) rfl rfl (by decide) rfl ?_
      refine B_aload_n dX6_takeSort_42 1 rfl ?_
      refine B_getf (T := TX6) (N := 5) (v := .ref 20) 18 1 dX6_takeSort_43 inX6_takeSort_6 lkX6_takeSort_f18 (Nat.le_of_ble_eq_true rfl) (Nat.le_of_ble_eq_true rfl) rfl rfl (by decide) rfl ?_
      refine B_getf (T := TX4) (N := 5) (v := .int (M1 20 2)) 20 2 dX6_takeSort_46 inX6_takeSort_4 lkX6_takeSort_f26 (Nat.le_of_ble_eq_true rfl) (Nat.le_of_ble_eq_true rfl) rfl rfl (by decide) rfl ?_
      refine B_iload_n dX6_takeSort_49 0 rfl ?_
      obtain ⟨hi, h⟩ := h
      refine B_iast (n := 7) 21 dX6_takeSort_50 (Nat.le_of_ble_eq_true rfl) rfl rfl hi ?_
      have h := h _ rfl
      generalize (upd2 M1 21 (M1 20 2).toNatClampNeg (r1 + (1 : Int32))) = M2 at h ⊢
      refine B_aload_n dX6_takeSort_51 1 rfl ?_
      refine B_iconst (v := 4) dX6_takeSort_52 (by decide) ?_
      refine B_putf (T := TX6) (N := 5) 18 2 tyX6 tyX6_ok nmX6 dX6_takeSort_53 inX6_takeSort_6 lkX6_takeSort_f27 (Nat.le_of_ble_eq_true rfl) (Nat.le_of_ble_eq_true rfl) rfl rfl (by decide) rfl rfl (by decide +kernel) ?_
      have h := h _ rfl
      generalize (upd2 M2 18 2 (4 : Int32)) = M3 at h ⊢
      refine B_iconst (v := 0) dX6_takeSort_56 (by decide) ?_
      exact B_iret dX6_takeSort_57 h
    · have h := h.2 hc
      refine B_iconst (v := 3) dX6_takeSort_33 (by decide) ?_
      exact B_iret dX6_takeSort_34 h
  · have h := h.2 hc
    refine B_iconst (v := 1) dX6_takeSort_19 (by decide) ?_
    exact B_iret dX6_takeSort_20 h
set_option maxHeartbeats 4000000 in
set_option maxRecDepth 100000 in
theorem rX6_takeThing (d : Nat) (v1 : Int32) (v2 : Int32) (M : Mm) (Q : Int32 → Mm → Prop)
    (h : kX6_isNumber d v1 v2 M (fun (r1 : Int32) (M1 : Mm) => ((¬ r1 = 0 → kX6_numberAt d v1 v2 M1 (fun (r2 : Int32) (M2 : Mm) => (((9 : Int32) < r2 → Q (2 : Int32) M2) ∧ (¬ (9 : Int32) < r2 → ((r2 = 0 → BX6_takeThing (d + 1) 43 [(0, .ref 18), (3, .int r2)] [] M2 Q) ∧ (¬ r2 = 0 → kX4_whoHas d 20 r2 M2 (fun (r3 : Int32) (M3 : Mm) => ((r3 = (-1000000 : Int32) → BX6_takeThing (d + 1) 43 [(0, .ref 18), (3, .int r2)] [] M3 Q) ∧ (¬ r3 = (-1000000 : Int32) → Q (2 : Int32) M3))))))))) ∧ (r1 = 0 → Q (1 : Int32) M1)))) : kX6_takeThing (d + 1) v1 v2 M Q := by
  refine Ct.of (cc := cX6_takeThing) (nL := 4) (by decide) rfl (Nat.le_of_ble_eq_true rfl) ?_
  show BX6_takeThing (d + 1) 0 [(0, .ref 18), (1, .int v1), (2, .int v2)] [] M Q
  refine B_aload_n dX6_takeThing_0 0 rfl ?_
  refine B_iload_n dX6_takeThing_1 1 rfl ?_
  refine B_iload_n dX6_takeThing_2 2 rfl ?_
  refine B_callV (st := []) 18 [.int v1, .int v2] dX6_takeThing_3 gX6_takeThing_X6_isNumber rfl hyX6_isNumber (Nat.le_of_ble_eq_true rfl) (Nat.le_of_ble_eq_true rfl) TX6 5 rfl (Nat.le_of_ble_eq_true rfl) (Nat.le_of_ble_eq_true rfl) rfl (Ct.mono h (Nat.le_refl _) (fun r1 M1 h => ?_))
  refine B_if_ne (tgt := 11) dX6_takeThing_6 (by decide) (fun hc => ?_) (fun hc => ?_)
  · have h := h.1 hc
    refine B_aload_n dX6_takeThing_11 0 rfl ?_
    refine B_iload_n dX6_takeThing_12 1 rfl ?_
    refine B_iload_n dX6_takeThing_13 2 rfl ?_
    refine B_callV (st := []) 18 [.int v1, .int v2] dX6_takeThing_14 gX6_takeThing_X6_numberAt rfl hyX6_numberAt (Nat.le_of_ble_eq_true rfl) (Nat.le_of_ble_eq_true rfl) TX6 5 rfl (Nat.le_of_ble_eq_true rfl) (Nat.le_of_ble_eq_true rfl) rfl (Ct.mono h (Nat.le_refl _) (fun r2 M2 h => ?_))
    refine B_istore_n (lv1 := [(3, .int r2), (0, .ref 18), (1, .int v1), (2, .int v2)]) dX6_takeThing_17 (by decide) rfl ?_
    refine B_iload_n dX6_takeThing_18 0 rfl ?_
    refine B_bipush (v := 9) dX6_takeThing_19 (by decide) ?_
    refine B_icmp_gt (tgt := 41) dX6_takeThing_21 (by decide) (fun hc => ?_) (fun hc => ?_)
    · have h := h.1 hc
      refine B_iconst (v := 2) dX6_takeThing_41 (by decide) ?_
      exact B_iret dX6_takeThing_42 h
    · have h := h.2 hc
      refine B_iload_n dX6_takeThing_24 0 rfl ?_
      refine B_if_eq (tgt := 43) dX6_takeThing_25 (by decide) (fun hc => ?_) (fun hc => ?_)
      · have h := h.1 hc
        refine B_weak [1, 0] rfl ?_
        exact h
      · have h := h.2 hc
        refine B_aload_n dX6_takeThing_28 1 rfl ?_
        refine B_getf (T := TX6) (N := 5) (v := .ref 20) 18 1 dX6_takeThing_29 inX6_takeThing_6 lkX6_takeThing_f18 (Nat.le_of_ble_eq_true rfl) (Nat.le_of_ble_eq_true rfl) rfl rfl (by decide) rfl ?_
        refine B_iload_n dX6_takeThing_32 0 rfl ?_
        refine B_callV (st := []) 20 [.int r2] dX6_takeThing_33 gX6_takeThing_X4_whoHas rfl hyX4_whoHas (Nat.le_of_ble_eq_true rfl) (Nat.le_of_ble_eq_true rfl) TX4 5 rfl (Nat.le_of_ble_eq_true rfl) (Nat.le_of_ble_eq_true rfl) rfl (Ct.mono h (Nat.le_refl _) (fun r3 M3 h => ?_))
        refine B_ldc (v := -1000000) dX6_takeThing_36 lkX6_takeThing_c89 ?_
        refine B_icmp_eq (tgt := 43) dX6_takeThing_38 (by decide) (fun hc => ?_) (fun hc => ?_)
        · have h := h.1 hc
          refine B_weak [1, 0] rfl ?_
          exact h
        · have h := h.2 hc
          refine B_iconst (v := 2) dX6_takeThing_41 (by decide) ?_
          exact B_iret dX6_takeThing_42 h
  · have h := h.2 hc
    refine B_iconst (v := 1) dX6_takeThing_9 (by decide) ?_
    exact B_iret dX6_takeThing_10 h
set_option maxHeartbeats 4000000 in
set_option maxRecDepth 100000 in
theorem rX6_takeThing_43 (d : Nat) (v3 : Int32) (M : Mm) (Q : Int32 → Mm → Prop)
    (h : vp_in (M 20 2) 7 ∧ (∀ M1 : Mm, M1 = (upd2 M 22 (M 20 2).toNatClampNeg v3) → (∀ M2 : Mm, M2 = (upd2 M1 20 2 ((M1 20 2) + (1 : Int32))) → (∀ M3 : Mm, M3 = (upd2 M2 18 2 (2 : Int32)) → Q (0 : Int32) M3)))) : BX6_takeThing (d + 1) 43 [(0, .ref 18), (3, .int v3)] [] M Q := by
  refine B_aload_n dX6_takeThing_43 0 rfl ?_
  refine B_getf (T := TX6) (N := 5) (v := .ref 20) 18 1 dX6_takeThing_44 inX6_takeThing_6 lkX6_takeThing_f18 (Nat.le_of_ble_eq_true rfl) (Nat.le_of_ble_eq_true rfl) rfl rfl (by decide) rfl ?_
  refine B_getf (T := TX4) (N := 5) (v := .ref 22) 20 1 dX6_takeThing_47 inX6_takeThing_4 lkX6_takeThing_f90 (Nat.le_of_ble_eq_true rfl) (Nat.le_of_ble_eq_true rfl) rfl rfl (by decide) rfl ?_
  refine B_aload_n dX6_takeThing_50 0 rfl ?_
  refine B_getf (T := TX6) (N := 5) (v := .ref 20) 18 1 dX6_takeThing_51 inX6_takeThing_6 lkX6_takeThing_f18 (Nat.le_of_ble_eq_true rfl) (Nat.le_of_ble_eq_true rfl) rfl rfl (by decide) rfl ?_
  refine B_getf (T := TX4) (N := 5) (v := .int (M 20 2)) 20 2 dX6_takeThing_54 inX6_takeThing_4 lkX6_takeThing_f26 (Nat.le_of_ble_eq_true rfl) (Nat.le_of_ble_eq_true rfl) rfl rfl (by decide) rfl ?_
  refine B_iload_n dX6_takeThing_57 1 rfl ?_
  obtain ⟨hi, h⟩ := h
  refine B_iast (n := 7) 22 dX6_takeThing_58 (Nat.le_of_ble_eq_true rfl) rfl rfl hi ?_
  have h := h _ rfl
  generalize (upd2 M 22 (M 20 2).toNatClampNeg v3) = M1 at h ⊢
  refine B_aload_n dX6_takeThing_59 0 rfl ?_
  refine B_getf (T := TX6) (N := 5) (v := .ref 20) 18 1 dX6_takeThing_60 inX6_takeThing_6 lkX6_takeThing_f18 (Nat.le_of_ble_eq_true rfl) (Nat.le_of_ble_eq_true rfl) rfl rfl (by decide) rfl ?_
  refine B_dup dX6_takeThing_63 rfl ?_
  refine B_getf (T := TX4) (N := 5) (v := .int (M1 20 2)) 20 2 dX6_takeThing_64 inX6_takeThing_4 lkX6_takeThing_f26 (Nat.le_of_ble_eq_true rfl) (Nat.le_of_ble_eq_true rfl) rfl rfl (by decide) rfl ?_
  refine B_iconst (v := 1) dX6_takeThing_67 (by decide) ?_
  refine B_iadd dX6_takeThing_68 ?_
  refine B_putf (T := TX4) (N := 5) 20 2 tyX4 tyX4_ok nmX4 dX6_takeThing_69 inX6_takeThing_4 lkX6_takeThing_f26 (Nat.le_of_ble_eq_true rfl) (Nat.le_of_ble_eq_true rfl) rfl rfl (by decide) rfl rfl (by decide +kernel) ?_
  have h := h _ rfl
  generalize (upd2 M1 20 2 ((M1 20 2) + (1 : Int32))) = M2 at h ⊢
  refine B_aload_n dX6_takeThing_72 0 rfl ?_
  refine B_iconst (v := 2) dX6_takeThing_73 (by decide) ?_
  refine B_putf (T := TX6) (N := 5) 18 2 tyX6 tyX6_ok nmX6 dX6_takeThing_74 inX6_takeThing_6 lkX6_takeThing_f27 (Nat.le_of_ble_eq_true rfl) (Nat.le_of_ble_eq_true rfl) rfl rfl (by decide) rfl rfl (by decide +kernel) ?_
  have h := h _ rfl
  generalize (upd2 M2 18 2 (2 : Int32)) = M3 at h ⊢
  refine B_iconst (v := 0) dX6_takeThing_77 (by decide) ?_
  exact B_iret dX6_takeThing_78 h
set_option maxHeartbeats 4000000 in
set_option maxRecDepth 100000 in
theorem rX6_isNumber (d : Nat) (v1 : Int32) (v2 : Int32) (M : Mm) (Q : Int32 → Mm → Prop)
    (h : kX6_isFigure d v1 M (fun (r1 : Int32) (M1 : Mm) => ((r1 = 0 → Q (0 : Int32) M1) ∧ (¬ r1 = 0 → (((2 : Int32) < v2 → Q (0 : Int32) M1) ∧ (¬ (2 : Int32) < v2 → Q (1 : Int32) M1)))))) : kX6_isNumber (d + 1) v1 v2 M Q := by
  refine Ct.of (cc := cX6_isNumber) (nL := 3) (by decide) rfl (Nat.le_of_ble_eq_true rfl) ?_
  show BX6_isNumber (d + 1) 0 [(0, .ref 18), (1, .int v1), (2, .int v2)] [] M Q
  refine B_aload_n dX6_isNumber_0 0 rfl ?_
  refine B_iload_n dX6_isNumber_1 1 rfl ?_
  refine B_callV (st := []) 18 [.int v1] dX6_isNumber_2 gX6_isNumber_X6_isFigure rfl hyX6_isFigure (Nat.le_of_ble_eq_true rfl) (Nat.le_of_ble_eq_true rfl) TX6 5 rfl (Nat.le_of_ble_eq_true rfl) (Nat.le_of_ble_eq_true rfl) rfl (Ct.mono h (Nat.le_refl _) (fun r1 M1 h => ?_))
  refine B_if_eq (tgt := 17) dX6_isNumber_5 (by decide) (fun hc => ?_) (fun hc => ?_)
  · have h := h.1 hc
    refine B_iconst (v := 0) dX6_isNumber_17 (by decide) ?_
    exact B_zret dX6_isNumber_18 (Or.inl rfl) h
  · have h := h.2 hc
    refine B_iload_n dX6_isNumber_8 2 rfl ?_
    refine B_iconst (v := 2) dX6_isNumber_9 (by decide) ?_
    refine B_icmp_gt (tgt := 17) dX6_isNumber_10 (by decide) (fun hc => ?_) (fun hc => ?_)
    · have h := h.1 hc
      refine B_iconst (v := 0) dX6_isNumber_17 (by decide) ?_
      exact B_zret dX6_isNumber_18 (Or.inl rfl) h
    · have h := h.2 hc
      refine B_iconst (v := 1) dX6_isNumber_13 (by decide) ?_
      refine B_goto (tgt := 18) dX6_isNumber_14 (by decide) ?_
      exact B_zret dX6_isNumber_18 (Or.inr rfl) h
set_option maxHeartbeats 4000000 in
set_option maxRecDepth 100000 in
theorem rX6_numberAt (d : Nat) (v1 : Int32) (v2 : Int32) (M : Mm) (Q : Int32 → Mm → Prop)
    (h : BX6_numberAt d 5 [(0, .ref 18), (1, .int v1), (2, .int v2), (3, .int (0 : Int32)), (4, .int (0 : Int32))] [] M Q) : kX6_numberAt d v1 v2 M Q := by
  refine Ct.of (cc := cX6_numberAt) (nL := 5) (by decide) rfl (Nat.le_of_ble_eq_true rfl) ?_
  show BX6_numberAt d 0 [(0, .ref 18), (1, .int v1), (2, .int v2)] [] M Q
  refine B_iconst (v := 0) dX6_numberAt_0 (by decide) ?_
  refine B_istore_n (lv1 := [(3, .int (0 : Int32)), (0, .ref 18), (1, .int v1), (2, .int v2)]) dX6_numberAt_1 (by decide) rfl ?_
  refine B_iconst (v := 0) dX6_numberAt_2 (by decide) ?_
  refine B_istore (lv1 := [(4, .int (0 : Int32)), (3, .int (0 : Int32)), (0, .ref 18), (1, .int v1), (2, .int v2)]) dX6_numberAt_3 (by decide) rfl ?_
  refine B_weak [2, 3, 4, 1, 0] rfl ?_
  exact h
set_option maxHeartbeats 4000000 in
set_option maxRecDepth 100000 in
theorem rX6_numberAt_5 (d : Nat) (v1 : Int32) (v2 : Int32) (v3 : Int32) (v4 : Int32) (M : Mm) (Q : Int32 → Mm → Prop)
    (h : ((v2 ≤ v4 → Q v3 M) ∧ (¬ v2 ≤ v4 → vp_in (v1 + v4) 50 ∧ BX6_numberAt d 5 [(0, .ref 18), (1, .int v1), (2, .int v2), (3, .int ((((10 : Int32) * v3) + (M 19 (v1 + v4).toNatClampNeg)) - (48 : Int32))), (4, .int (v4 + (1 : Int32)))] [] M Q))) : BX6_numberAt d 5 [(0, .ref 18), (1, .int v1), (2, .int v2), (3, .int v3), (4, .int v4)] [] M Q := by
  refine B_iload dX6_numberAt_5 4 rfl ?_
  refine B_iload_n dX6_numberAt_7 2 rfl ?_
  refine B_icmp_ge (tgt := 35) dX6_numberAt_8 (by decide) (fun hc => ?_) (fun hc => ?_)
  · have h := h.1 hc
    refine B_iload_n dX6_numberAt_35 3 rfl ?_
    exact B_iret dX6_numberAt_36 h
  · have h := h.2 hc
    refine B_bipush (v := 10) dX6_numberAt_11 (by decide) ?_
    refine B_iload_n dX6_numberAt_13 3 rfl ?_
    refine B_imul dX6_numberAt_14 ?_
    refine B_aload_n dX6_numberAt_15 0 rfl ?_
    refine B_getf (T := TX6) (N := 5) (v := .ref 19) 18 0 dX6_numberAt_16 inX6_numberAt_6 lkX6_numberAt_f9 (Nat.le_of_ble_eq_true rfl) (Nat.le_of_ble_eq_true rfl) rfl rfl (by decide) rfl ?_
    refine B_iload_n dX6_numberAt_19 1 rfl ?_
    refine B_iload dX6_numberAt_20 4 rfl ?_
    refine B_iadd dX6_numberAt_22 ?_
    obtain ⟨hi, h⟩ := h
    refine B_iald (n := 50) 19 dX6_numberAt_23 (Nat.le_of_ble_eq_true rfl) rfl rfl hi ?_
    refine B_iadd dX6_numberAt_24 ?_
    refine B_bipush (v := 48) dX6_numberAt_25 (by decide) ?_
    refine B_isub dX6_numberAt_27 ?_
    refine B_istore_n (lv1 := [(3, .int ((((10 : Int32) * v3) + (M 19 (v1 + v4).toNatClampNeg)) - (48 : Int32))), (0, .ref 18), (1, .int v1), (2, .int v2), (4, .int v4)]) dX6_numberAt_28 (by decide) rfl ?_
    refine B_iinc (lv1 := [(4, .int (v4 + (1 : Int32))), (3, .int ((((10 : Int32) * v3) + (M 19 (v1 + v4).toNatClampNeg)) - (48 : Int32))), (0, .ref 18), (1, .int v1), (2, .int v2)]) (v := (v4 + (1 : Int32))) dX6_numberAt_29 4 rfl rfl (by decide) rfl ?_
    refine B_goto (tgt := 5) dX6_numberAt_32 (by decide) ?_
    refine B_weak [2, 3, 4, 1, 0] rfl ?_
    exact h
set_option maxHeartbeats 4000000 in
set_option maxRecDepth 100000 in
theorem rJ6_bitCount_0f7a4 (d : Nat) (v0 : Int32) (M : Mm) (Q : Int32 → Mm → Prop)
    (h : Q ((((((((v0 - ((iushr v0 (1 : Int32)) &&& (1431655765 : Int32))) &&& (858993459 : Int32)) + ((iushr (v0 - ((iushr v0 (1 : Int32)) &&& (1431655765 : Int32))) (2 : Int32)) &&& (858993459 : Int32))) + (iushr (((v0 - ((iushr v0 (1 : Int32)) &&& (1431655765 : Int32))) &&& (858993459 : Int32)) + ((iushr (v0 - ((iushr v0 (1 : Int32)) &&& (1431655765 : Int32))) (2 : Int32)) &&& (858993459 : Int32))) (4 : Int32))) &&& (252645135 : Int32)) + (iushr (((((v0 - ((iushr v0 (1 : Int32)) &&& (1431655765 : Int32))) &&& (858993459 : Int32)) + ((iushr (v0 - ((iushr v0 (1 : Int32)) &&& (1431655765 : Int32))) (2 : Int32)) &&& (858993459 : Int32))) + (iushr (((v0 - ((iushr v0 (1 : Int32)) &&& (1431655765 : Int32))) &&& (858993459 : Int32)) + ((iushr (v0 - ((iushr v0 (1 : Int32)) &&& (1431655765 : Int32))) (2 : Int32)) &&& (858993459 : Int32))) (4 : Int32))) &&& (252645135 : Int32)) (8 : Int32))) + (iushr ((((((v0 - ((iushr v0 (1 : Int32)) &&& (1431655765 : Int32))) &&& (858993459 : Int32)) + ((iushr (v0 - ((iushr v0 (1 : Int32)) &&& (1431655765 : Int32))) (2 : Int32)) &&& (858993459 : Int32))) + (iushr (((v0 - ((iushr v0 (1 : Int32)) &&& (1431655765 : Int32))) &&& (858993459 : Int32)) + ((iushr (v0 - ((iushr v0 (1 : Int32)) &&& (1431655765 : Int32))) (2 : Int32)) &&& (858993459 : Int32))) (4 : Int32))) &&& (252645135 : Int32)) + (iushr (((((v0 - ((iushr v0 (1 : Int32)) &&& (1431655765 : Int32))) &&& (858993459 : Int32)) + ((iushr (v0 - ((iushr v0 (1 : Int32)) &&& (1431655765 : Int32))) (2 : Int32)) &&& (858993459 : Int32))) + (iushr (((v0 - ((iushr v0 (1 : Int32)) &&& (1431655765 : Int32))) &&& (858993459 : Int32)) + ((iushr (v0 - ((iushr v0 (1 : Int32)) &&& (1431655765 : Int32))) (2 : Int32)) &&& (858993459 : Int32))) (4 : Int32))) &&& (252645135 : Int32)) (8 : Int32))) (16 : Int32))) &&& (63 : Int32)) M) : kJ6_bitCount_0f7a4 d v0 M Q := by
  refine Ct.of (cc := cJ6_bitCount_0f7a4) (nL := 1) (by decide) rfl (Nat.le_of_ble_eq_true rfl) ?_
  show BJ6_bitCount_0f7a4 d 0 [(0, .int v0)] [] M Q
  refine B_iload_n dJ6_bitCount_0f7a4_0 0 rfl ?_
  refine B_iload_n dJ6_bitCount_0f7a4_1 0 rfl ?_
  refine B_iconst (v := 1) dJ6_bitCount_0f7a4_2 (by decide) ?_
  refine B_iushr dJ6_bitCount_0f7a4_3 ?_
  refine B_ldcw (v := 1431655765) dJ6_bitCount_0f7a4_4 lkJ6_bitCount_0f7a4_c265 ?_
  refine B_iand dJ6_bitCount_0f7a4_7 ?_
  refine B_isub dJ6_bitCount_0f7a4_8 ?_
  refine B_istore_n (lv1 := [(0, .int (v0 - ((iushr v0 (1 : Int32)) &&& (1431655765 : Int32))))]) dJ6_bitCount_0f7a4_9 (by decide) rfl ?_
  refine B_iload_n dJ6_bitCount_0f7a4_10 0 rfl ?_
  refine B_ldcw (v := 858993459) dJ6_bitCount_0f7a4_11 lkJ6_bitCount_0f7a4_c266 ?_
  refine B_iand dJ6_bitCount_0f7a4_14 ?_
  refine B_iload_n dJ6_bitCount_0f7a4_15 0 rfl ?_
  refine B_iconst (v := 2) dJ6_bitCount_0f7a4_16 (by decide) ?_
  refine B_iushr dJ6_bitCount_0f7a4_17 ?_
  refine B_ldcw (v := 858993459) dJ6_bitCount_0f7a4_18 lkJ6_bitCount_0f7a4_c266 ?_
  refine B_iand dJ6_bitCount_0f7a4_21 ?_
  refine B_iadd dJ6_bitCount_0f7a4_22 ?_
  refine B_istore_n (lv1 := [(0, .int (((v0 - ((iushr v0 (1 : Int32)) &&& (1431655765 : Int32))) &&& (858993459 : Int32)) + ((iushr (v0 - ((iushr v0 (1 : Int32)) &&& (1431655765 : Int32))) (2 : Int32)) &&& (858993459 : Int32))))]) dJ6_bitCount_0f7a4_23 (by decide) rfl ?_
  refine B_iload_n dJ6_bitCount_0f7a4_24 0 rfl ?_
  refine B_iload_n dJ6_bitCount_0f7a4_25 0 rfl ?_
  refine B_iconst (v := 4) dJ6_bitCount_0f7a4_26 (by decide) ?_
  refine B_iushr dJ6_bitCount_0f7a4_27 ?_
  refine B_iadd dJ6_bitCount_0f7a4_28 ?_
  refine B_ldcw (v := 252645135) dJ6_bitCount_0f7a4_29 lkJ6_bitCount_0f7a4_c267 ?_
  refine B_iand dJ6_bitCount_0f7a4_32 ?_
  refine B_istore_n (lv1 := [(0, .int (((((v0 - ((iushr v0 (1 : Int32)) &&& (1431655765 : Int32))) &&& (858993459 : Int32)) + ((iushr (v0 - ((iushr v0 (1 : Int32)) &&& (1431655765 : Int32))) (2 : Int32)) &&& (858993459 : Int32))) + (iushr (((v0 - ((iushr v0 (1 : Int32)) &&& (1431655765 : Int32))) &&& (858993459 : Int32)) + ((iushr (v0 - ((iushr v0 (1 : Int32)) &&& (1431655765 : Int32))) (2 : Int32)) &&& (858993459 : Int32))) (4 : Int32))) &&& (252645135 : Int32)))]) dJ6_bitCount_0f7a4_33 (by decide) rfl ?_
  refine B_iload_n dJ6_bitCount_0f7a4_34 0 rfl ?_
  refine B_iload_n dJ6_bitCount_0f7a4_35 0 rfl ?_
  refine B_bipush (v := 8) dJ6_bitCount_0f7a4_36 (by decide) ?_
  refine B_iushr dJ6_bitCount_0f7a4_38 ?_
  refine B_iadd dJ6_bitCount_0f7a4_39 ?_
  refine B_istore_n (lv1 := [(0, .int ((((((v0 - ((iushr v0 (1 : Int32)) &&& (1431655765 : Int32))) &&& (858993459 : Int32)) + ((iushr (v0 - ((iushr v0 (1 : Int32)) &&& (1431655765 : Int32))) (2 : Int32)) &&& (858993459 : Int32))) + (iushr (((v0 - ((iushr v0 (1 : Int32)) &&& (1431655765 : Int32))) &&& (858993459 : Int32)) + ((iushr (v0 - ((iushr v0 (1 : Int32)) &&& (1431655765 : Int32))) (2 : Int32)) &&& (858993459 : Int32))) (4 : Int32))) &&& (252645135 : Int32)) + (iushr (((((v0 - ((iushr v0 (1 : Int32)) &&& (1431655765 : Int32))) &&& (858993459 : Int32)) + ((iushr (v0 - ((iushr v0 (1 : Int32)) &&& (1431655765 : Int32))) (2 : Int32)) &&& (858993459 : Int32))) + (iushr (((v0 - ((iushr v0 (1 : Int32)) &&& (1431655765 : Int32))) &&& (858993459 : Int32)) + ((iushr (v0 - ((iushr v0 (1 : Int32)) &&& (1431655765 : Int32))) (2 : Int32)) &&& (858993459 : Int32))) (4 : Int32))) &&& (252645135 : Int32)) (8 : Int32))))]) dJ6_bitCount_0f7a4_40 (by decide) rfl ?_
  refine B_iload_n dJ6_bitCount_0f7a4_41 0 rfl ?_
  refine B_iload_n dJ6_bitCount_0f7a4_42 0 rfl ?_
  refine B_bipush (v := 16) dJ6_bitCount_0f7a4_43 (by decide) ?_
  refine B_iushr dJ6_bitCount_0f7a4_45 ?_
  refine B_iadd dJ6_bitCount_0f7a4_46 ?_
  refine B_istore_n (lv1 := [(0, .int (((((((v0 - ((iushr v0 (1 : Int32)) &&& (1431655765 : Int32))) &&& (858993459 : Int32)) + ((iushr (v0 - ((iushr v0 (1 : Int32)) &&& (1431655765 : Int32))) (2 : Int32)) &&& (858993459 : Int32))) + (iushr (((v0 - ((iushr v0 (1 : Int32)) &&& (1431655765 : Int32))) &&& (858993459 : Int32)) + ((iushr (v0 - ((iushr v0 (1 : Int32)) &&& (1431655765 : Int32))) (2 : Int32)) &&& (858993459 : Int32))) (4 : Int32))) &&& (252645135 : Int32)) + (iushr (((((v0 - ((iushr v0 (1 : Int32)) &&& (1431655765 : Int32))) &&& (858993459 : Int32)) + ((iushr (v0 - ((iushr v0 (1 : Int32)) &&& (1431655765 : Int32))) (2 : Int32)) &&& (858993459 : Int32))) + (iushr (((v0 - ((iushr v0 (1 : Int32)) &&& (1431655765 : Int32))) &&& (858993459 : Int32)) + ((iushr (v0 - ((iushr v0 (1 : Int32)) &&& (1431655765 : Int32))) (2 : Int32)) &&& (858993459 : Int32))) (4 : Int32))) &&& (252645135 : Int32)) (8 : Int32))) + (iushr ((((((v0 - ((iushr v0 (1 : Int32)) &&& (1431655765 : Int32))) &&& (858993459 : Int32)) + ((iushr (v0 - ((iushr v0 (1 : Int32)) &&& (1431655765 : Int32))) (2 : Int32)) &&& (858993459 : Int32))) + (iushr (((v0 - ((iushr v0 (1 : Int32)) &&& (1431655765 : Int32))) &&& (858993459 : Int32)) + ((iushr (v0 - ((iushr v0 (1 : Int32)) &&& (1431655765 : Int32))) (2 : Int32)) &&& (858993459 : Int32))) (4 : Int32))) &&& (252645135 : Int32)) + (iushr (((((v0 - ((iushr v0 (1 : Int32)) &&& (1431655765 : Int32))) &&& (858993459 : Int32)) + ((iushr (v0 - ((iushr v0 (1 : Int32)) &&& (1431655765 : Int32))) (2 : Int32)) &&& (858993459 : Int32))) + (iushr (((v0 - ((iushr v0 (1 : Int32)) &&& (1431655765 : Int32))) &&& (858993459 : Int32)) + ((iushr (v0 - ((iushr v0 (1 : Int32)) &&& (1431655765 : Int32))) (2 : Int32)) &&& (858993459 : Int32))) (4 : Int32))) &&& (252645135 : Int32)) (8 : Int32))) (16 : Int32))))]) dJ6_bitCount_0f7a4_47 (by decide) rfl ?_
  refine B_iload_n dJ6_bitCount_0f7a4_48 0 rfl ?_
  refine B_bipush (v := 63) dJ6_bitCount_0f7a4_49 (by decide) ?_
  refine B_iand dJ6_bitCount_0f7a4_51 ?_
  exact B_iret dJ6_bitCount_0f7a4_52 h
set_option maxHeartbeats 4000000 in
set_option maxRecDepth 100000 in
theorem rJ0_length_8abf5 (d : Nat)  (M : Mm) (Q : Int32 → Mm → Prop)
    (h : kJ0_coder_7d493 d  M (fun (r1 : Int32) (M1 : Mm) => Q (ishr (5 : Int32) r1) M1)) : kJ0_length_8abf5 (d + 1)  M Q := by
  refine Ct.of (cc := cJ0_length_8abf5) (nL := 1) (by decide) rfl (Nat.le_of_ble_eq_true rfl) ?_
  show BJ0_length_8abf5 (d + 1) 0 [(0, .ref 1004)] [] M Q
  refine B_aload_n dJ0_length_8abf5_0 0 rfl ?_
  refine B_strV dJ0_length_8abf5_1 lkJ0_length_8abf5_f9 ?_
  refine B_strL dJ0_length_8abf5_4 ?_
  refine B_aload_n dJ0_length_8abf5_5 0 rfl ?_
  refine B_callT (st := [.int (5 : Int32)]) [] dJ0_length_8abf5_6 gJ0_length_8abf5_J0_coder_7d493 rfl hyJ0_coder_7d493 (Nat.le_of_ble_eq_true rfl) (Nat.le_of_ble_eq_true rfl) rfl (Ct.mono h (Nat.le_refl _) (fun r1 M1 h => ?_))
  refine B_ishr dJ0_length_8abf5_9 ?_
  exact B_iret dJ0_length_8abf5_10 h
set_option maxHeartbeats 4000000 in
set_option maxRecDepth 100000 in
theorem rJ0_indexOf_0f7a4 (d : Nat) (v1 : Int32) (M : Mm) (Q : Int32 → Mm → Prop)
    (h : kJ0_indexOf_7cf53 d v1 (0 : Int32) M (fun (r1 : Int32) (M1 : Mm) => Q r1 M1)) : kJ0_indexOf_0f7a4 (d + 1) v1 M Q := by
  refine Ct.of (cc := cJ0_indexOf_0f7a4) (nL := 2) (by decide) rfl (Nat.le_of_ble_eq_true rfl) ?_
  show BJ0_indexOf_0f7a4 (d + 1) 0 [(0, .ref 1004), (1, .int v1)] [] M Q
  refine B_aload_n dJ0_indexOf_0f7a4_0 0 rfl ?_
  refine B_iload_n dJ0_indexOf_0f7a4_1 1 rfl ?_
  refine B_iconst (v := 0) dJ0_indexOf_0f7a4_2 (by decide) ?_
  refine B_callT (st := []) [.int v1, .int (0 : Int32)] dJ0_indexOf_0f7a4_3 gJ0_indexOf_0f7a4_J0_indexOf_7cf53 rfl hyJ0_indexOf_7cf53 (Nat.le_of_ble_eq_true rfl) (Nat.le_of_ble_eq_true rfl) rfl (Ct.mono h (Nat.le_refl _) (fun r1 M1 h => ?_))
  exact B_iret dJ0_indexOf_0f7a4_6 h
set_option maxHeartbeats 4000000 in
set_option maxRecDepth 100000 in
theorem rJ0_indexOf_7cf53 (d : Nat) (v1 : Int32) (v2 : Int32) (M : Mm) (Q : Int32 → Mm → Prop)
    (h : kJ0_isLatin1_aae02 d  M (fun (r1 : Int32) (M1 : Mm) => ((r1 = 0 → kJ0_length_8abf5 d  M1 (fun (r2 : Int32) (M2 : Mm) => kJ2_indexOf_4cfef d v1 v2 r2 M2 (fun (r3 : Int32) (M3 : Mm) => Q r3 M3))) ∧ (¬ r1 = 0 → kJ0_length_8abf5 d  M1 (fun (r4 : Int32) (M4 : Mm) => kJ1_indexOf_4cfef d v1 v2 r4 M4 (fun (r5 : Int32) (M5 : Mm) => Q r5 M5)))))) : kJ0_indexOf_7cf53 (d + 1) v1 v2 M Q := by
  refine Ct.of (cc := cJ0_indexOf_7cf53) (nL := 3) (by decide) rfl (Nat.le_of_ble_eq_true rfl) ?_
  show BJ0_indexOf_7cf53 (d + 1) 0 [(0, .ref 1004), (1, .int v1), (2, .int v2)] [] M Q
  refine B_aload_n dJ0_indexOf_7cf53_0 0 rfl ?_
  refine B_callT (st := []) [] dJ0_indexOf_7cf53_1 gJ0_indexOf_7cf53_J0_isLatin1_aae02 rfl hyJ0_isLatin1_aae02 (Nat.le_of_ble_eq_true rfl) (Nat.le_of_ble_eq_true rfl) rfl (Ct.mono h (Nat.le_refl _) (fun r1 M1 h => ?_))
  refine B_if_eq (tgt := 23) dJ0_indexOf_7cf53_4 (by decide) (fun hc => ?_) (fun hc => ?_)
  · have h := h.1 hc
    refine B_aload_n dJ0_indexOf_7cf53_23 0 rfl ?_
    refine B_strV dJ0_indexOf_7cf53_24 lkJ0_indexOf_7cf53_f9 ?_
    refine B_iload_n dJ0_indexOf_7cf53_27 1 rfl ?_
    refine B_iload_n dJ0_indexOf_7cf53_28 2 rfl ?_
    refine B_aload_n dJ0_indexOf_7cf53_29 0 rfl ?_
    refine B_callT (st := [.int v2, .int v1, .ref 1005]) [] dJ0_indexOf_7cf53_30 gJ0_indexOf_7cf53_J0_length_8abf5 rfl hyJ0_length_8abf5 (Nat.le_of_ble_eq_true rfl) (Nat.le_of_ble_eq_true rfl) rfl (Ct.mono h (Nat.le_refl _) (fun r2 M2 h => ?_))
    refine B_callS (st := []) [.ref 1005, .int v1, .int v2, .int r2] dJ0_indexOf_7cf53_33 gJ0_indexOf_7cf53_J2_indexOf_4cfef rfl hyJ2_indexOf_4cfef (Nat.le_of_ble_eq_true rfl) (Nat.le_of_ble_eq_true rfl) rfl (Ct.mono h (Nat.le_refl _) (fun r3 M3 h => ?_))
    exact B_iret dJ0_indexOf_7cf53_36 h
  · have h := h.2 hc
    refine B_aload_n dJ0_indexOf_7cf53_7 0 rfl ?_
    refine B_strV dJ0_indexOf_7cf53_8 lkJ0_indexOf_7cf53_f9 ?_
    refine B_iload_n dJ0_indexOf_7cf53_11 1 rfl ?_
    refine B_iload_n dJ0_indexOf_7cf53_12 2 rfl ?_
    refine B_aload_n dJ0_indexOf_7cf53_13 0 rfl ?_
    refine B_callT (st := [.int v2, .int v1, .ref 1005]) [] dJ0_indexOf_7cf53_14 gJ0_indexOf_7cf53_J0_length_8abf5 rfl hyJ0_length_8abf5 (Nat.le_of_ble_eq_true rfl) (Nat.le_of_ble_eq_true rfl) rfl (Ct.mono h (Nat.le_refl _) (fun r4 M4 h => ?_))
    refine B_callS (st := []) [.ref 1005, .int v1, .int v2, .int r4] dJ0_indexOf_7cf53_17 gJ0_indexOf_7cf53_J1_indexOf_4cfef rfl hyJ1_indexOf_4cfef (Nat.le_of_ble_eq_true rfl) (Nat.le_of_ble_eq_true rfl) rfl (Ct.mono h (Nat.le_refl _) (fun r5 M5 h => ?_))
    refine B_goto (tgt := 36) dJ0_indexOf_7cf53_20 (by decide) ?_
    exact B_iret dJ0_indexOf_7cf53_36 h
set_option maxHeartbeats 4000000 in
set_option maxRecDepth 100000 in
theorem rJ0_coder_7d493 (d : Nat)  (M : Mm) (Q : Int32 → Mm → Prop)
    (h : (((1 : Int32) = 0 → (narrow .byte (.int (1 : Int32)) = .int (1 : Int32) ∧ Q (1 : Int32) M)) ∧ (¬ (1 : Int32) = 0 → (narrow .byte (.int (0 : Int32)) = .int (0 : Int32) ∧ Q (0 : Int32) M)))) : kJ0_coder_7d493 d  M Q := by
  refine Ct.of (cc := cJ0_coder_7d493) (nL := 1) (by decide) rfl (Nat.le_of_ble_eq_true rfl) ?_
  show BJ0_coder_7d493 d 0 [(0, .ref 1004)] [] M Q
  refine B_strX dJ0_coder_7d493_0 lkJ0_coder_7d493_f38 ?_
  refine B_if_eq (tgt := 13) dJ0_coder_7d493_3 (by decide) (fun hc => ?_) (fun hc => ?_)
  · have h := h.1 hc
    refine B_iconst (v := 1) dJ0_coder_7d493_13 (by decide) ?_
    exact B_nret dJ0_coder_7d493_14 h.1 h.2
  · have h := h.2 hc
    refine B_aload_n dJ0_coder_7d493_6 0 rfl ?_
    refine B_strC dJ0_coder_7d493_7 lkJ0_coder_7d493_f15 ?_
    refine B_goto (tgt := 14) dJ0_coder_7d493_10 (by decide) ?_
    exact B_nret dJ0_coder_7d493_14 h.1 h.2
set_option maxHeartbeats 4000000 in
set_option maxRecDepth 100000 in
theorem rJ0_isLatin1_aae02 (d : Nat)  (M : Mm) (Q : Int32 → Mm → Prop)
    (h : (((1 : Int32) = 0 → Q (0 : Int32) M) ∧ (¬ (1 : Int32) = 0 → ((¬ (0 : Int32) = 0 → Q (0 : Int32) M) ∧ ((0 : Int32) = 0 → Q (1 : Int32) M))))) : kJ0_isLatin1_aae02 d  M Q := by
  refine Ct.of (cc := cJ0_isLatin1_aae02) (nL := 1) (by decide) rfl (Nat.le_of_ble_eq_true rfl) ?_
  show BJ0_isLatin1_aae02 d 0 [(0, .ref 1004)] [] M Q
  refine B_strX dJ0_isLatin1_aae02_0 lkJ0_isLatin1_aae02_f38 ?_
  refine B_if_eq (tgt := 17) dJ0_isLatin1_aae02_3 (by decide) (fun hc => ?_) (fun hc => ?_)
  · have h := h.1 hc
    refine B_iconst (v := 0) dJ0_isLatin1_aae02_17 (by decide) ?_
    exact B_zret dJ0_isLatin1_aae02_18 (Or.inl rfl) h
  · have h := h.2 hc
    refine B_aload_n dJ0_isLatin1_aae02_6 0 rfl ?_
    refine B_strC dJ0_isLatin1_aae02_7 lkJ0_isLatin1_aae02_f15 ?_
    refine B_if_ne (tgt := 17) dJ0_isLatin1_aae02_10 (by decide) (fun hc => ?_) (fun hc => ?_)
    · have h := h.1 hc
      refine B_iconst (v := 0) dJ0_isLatin1_aae02_17 (by decide) ?_
      exact B_zret dJ0_isLatin1_aae02_18 (Or.inl rfl) h
    · have h := h.2 hc
      refine B_iconst (v := 1) dJ0_isLatin1_aae02_13 (by decide) ?_
      refine B_goto (tgt := 18) dJ0_isLatin1_aae02_14 (by decide) ?_
      exact B_zret dJ0_isLatin1_aae02_18 (Or.inr rfl) h
set_option maxHeartbeats 4000000 in
set_option maxRecDepth 100000 in
theorem rJ1_canEncode_9a6ad (d : Nat) (v0 : Int32) (M : Mm) (Q : Int32 → Mm → Prop)
    (h : ((v0 < 0 → Q (0 : Int32) M) ∧ (¬ v0 < 0 → (((255 : Int32) < v0 → Q (0 : Int32) M) ∧ (¬ (255 : Int32) < v0 → Q (1 : Int32) M))))) : kJ1_canEncode_9a6ad d v0 M Q := by
  refine Ct.of (cc := cJ1_canEncode_9a6ad) (nL := 1) (by decide) rfl (Nat.le_of_ble_eq_true rfl) ?_
  show BJ1_canEncode_9a6ad d 0 [(0, .int v0)] [] M Q
  refine B_iload_n dJ1_canEncode_9a6ad_0 0 rfl ?_
  refine B_if_lt (tgt := 15) dJ1_canEncode_9a6ad_1 (by decide) (fun hc => ?_) (fun hc => ?_)
  · have h := h.1 hc
    refine B_iconst (v := 0) dJ1_canEncode_9a6ad_15 (by decide) ?_
    exact B_zret dJ1_canEncode_9a6ad_16 (Or.inl rfl) h
  · have h := h.2 hc
    refine B_iload_n dJ1_canEncode_9a6ad_4 0 rfl ?_
    refine B_sipush (v := 255) dJ1_canEncode_9a6ad_5 (by decide) ?_
    refine B_icmp_gt (tgt := 15) dJ1_canEncode_9a6ad_8 (by decide) (fun hc => ?_) (fun hc => ?_)
    · have h := h.1 hc
      refine B_iconst (v := 0) dJ1_canEncode_9a6ad_15 (by decide) ?_
      exact B_zret dJ1_canEncode_9a6ad_16 (Or.inl rfl) h
    · have h := h.2 hc
      refine B_iconst (v := 1) dJ1_canEncode_9a6ad_11 (by decide) ?_
      refine B_goto (tgt := 16) dJ1_canEncode_9a6ad_12 (by decide) ?_
      exact B_zret dJ1_canEncode_9a6ad_16 (Or.inr rfl) h
set_option maxHeartbeats 4000000 in
set_option maxRecDepth 100000 in
theorem rJ1_indexOf_4cfef (d : Nat) (v1 : Int32) (v2 : Int32) (v3 : Int32) (M : Mm) (Q : Int32 → Mm → Prop)
    (h : kJ1_canEncode_9a6ad d v1 M (fun (r1 : Int32) (M1 : Mm) => ((¬ r1 = 0 → (((imax v2 (0 : Int32)) < (imin v3 (5 : Int32)) → kJ1_indexOfChar_4cfef d v1 (imax v2 (0 : Int32)) (imin v3 (5 : Int32)) M1 (fun (r2 : Int32) (M2 : Mm) => Q r2 M2)) ∧ (¬ (imax v2 (0 : Int32)) < (imin v3 (5 : Int32)) → Q (-1 : Int32) M1))) ∧ (r1 = 0 → Q (-1 : Int32) M1)))) : kJ1_indexOf_4cfef (d + 1) v1 v2 v3 M Q := by
  refine Ct.of (cc := cJ1_indexOf_4cfef) (nL := 4) (by decide) rfl (Nat.le_of_ble_eq_true rfl) ?_
  show BJ1_indexOf_4cfef (d + 1) 0 [(0, .ref 1005), (1, .int v1), (2, .int v2), (3, .int v3)] [] M Q
  refine B_iload_n dJ1_indexOf_4cfef_0 1 rfl ?_
  refine B_callS (st := []) [.int v1] dJ1_indexOf_4cfef_1 gJ1_indexOf_4cfef_J1_canEncode_9a6ad rfl hyJ1_canEncode_9a6ad (Nat.le_of_ble_eq_true rfl) (Nat.le_of_ble_eq_true rfl) rfl (Ct.mono h (Nat.le_refl _) (fun r1 M1 h => ?_))
  refine B_if_ne (tgt := 9) dJ1_indexOf_4cfef_4 (by decide) (fun hc => ?_) (fun hc => ?_)
  · have h := h.1 hc
    refine B_iload_n dJ1_indexOf_4cfef_9 2 rfl ?_
    refine B_iconst (v := 0) dJ1_indexOf_4cfef_10 (by decide) ?_
    refine B_max dJ1_indexOf_4cfef_11 lkJ1_indexOf_4cfef_m92 lkJ1_indexOf_4cfef_smax0 lkJ1_indexOf_4cfef_imax0 lkJ1_indexOf_4cfef_kmax0 (Nat.le_of_ble_eq_true rfl) ?_
    refine B_istore_n (lv1 := [(2, .int (imax v2 (0 : Int32))), (0, .ref 1005), (1, .int v1), (3, .int v3)]) dJ1_indexOf_4cfef_14 (by decide) rfl ?_
    refine B_iload_n dJ1_indexOf_4cfef_15 3 rfl ?_
    refine B_aload_n dJ1_indexOf_4cfef_16 1 rfl ?_
    refine B_strL dJ1_indexOf_4cfef_17 ?_
    refine B_min dJ1_indexOf_4cfef_18 lkJ1_indexOf_4cfef_m38 lkJ1_indexOf_4cfef_smin0 lkJ1_indexOf_4cfef_imin0 lkJ1_indexOf_4cfef_kmin0 (Nat.le_of_ble_eq_true rfl) ?_
    refine B_istore_n (lv1 := [(3, .int (imin v3 (5 : Int32))), (2, .int (imax v2 (0 : Int32))), (0, .ref 1005), (1, .int v1)]) dJ1_indexOf_4cfef_21 (by decide) rfl ?_
    refine B_iload_n dJ1_indexOf_4cfef_22 1 rfl ?_
    refine B_iload_n dJ1_indexOf_4cfef_23 0 rfl ?_
    refine B_icmp_lt (tgt := 29) dJ1_indexOf_4cfef_24 (by decide) (fun hc => ?_) (fun hc => ?_)
    · have h := h.1 hc
      refine B_aload_n dJ1_indexOf_4cfef_29 2 rfl ?_
      refine B_iload_n dJ1_indexOf_4cfef_30 3 rfl ?_
      refine B_iload_n dJ1_indexOf_4cfef_31 1 rfl ?_
      refine B_iload_n dJ1_indexOf_4cfef_32 0 rfl ?_
      refine B_callS (st := []) [.ref 1005, .int v1, .int (imax v2 (0 : Int32)), .int (imin v3 (5 : Int32))] dJ1_indexOf_4cfef_33 gJ1_indexOf_4cfef_J1_indexOfChar_4cfef rfl hyJ1_indexOfChar_4cfef (Nat.le_of_ble_eq_true rfl) (Nat.le_of_ble_eq_true rfl) rfl (Ct.mono h (Nat.le_refl _) (fun r2 M2 h => ?_))
      exact B_iret dJ1_indexOf_4cfef_36 h
    · have h := h.2 hc
      refine B_iconst (v := -1) dJ1_indexOf_4cfef_27 (by decide) ?_
      exact B_iret dJ1_indexOf_4cfef_28 h
  · have h := h.2 hc
    refine B_iconst (v := -1) dJ1_indexOf_4cfef_7 (by decide) ?_
    exact B_iret dJ1_indexOf_4cfef_8 h
set_option maxHeartbeats 4000000 in
set_option maxRecDepth 100000 in
theorem rJ1_indexOfChar_4cfef (d : Nat) (v1 : Int32) (v2 : Int32) (v3 : Int32) (M : Mm) (Q : Int32 → Mm → Prop)
    (h : BJ1_indexOfChar_4cfef d 7 [(0, .ref 1005), (3, .int v3), (4, .int v1.toInt8.toInt32), (5, .int v2)] [] M Q) : kJ1_indexOfChar_4cfef d v1 v2 v3 M Q := by
  refine Ct.of (cc := cJ1_indexOfChar_4cfef) (nL := 6) (by decide) rfl (Nat.le_of_ble_eq_true rfl) ?_
  show BJ1_indexOfChar_4cfef d 0 [(0, .ref 1005), (1, .int v1), (2, .int v2), (3, .int v3)] [] M Q
  refine B_iload_n dJ1_indexOfChar_4cfef_0 1 rfl ?_
  refine B_i2b dJ1_indexOfChar_4cfef_1 ?_
  refine B_istore (lv1 := [(4, .int v1.toInt8.toInt32), (0, .ref 1005), (1, .int v1), (2, .int v2), (3, .int v3)]) dJ1_indexOfChar_4cfef_2 (by decide) rfl ?_
  refine B_iload_n dJ1_indexOfChar_4cfef_4 3 rfl ?_
  refine B_istore (lv1 := [(5, .int v2), (4, .int v1.toInt8.toInt32), (0, .ref 1005), (1, .int v1), (2, .int v2), (3, .int v3)]) dJ1_indexOfChar_4cfef_5 (by decide) rfl ?_
  refine B_weak [2, 5, 1, 0] rfl ?_
  exact h
set_option maxHeartbeats 4000000 in
set_option maxRecDepth 100000 in
theorem rJ1_indexOfChar_4cfef_7 (d : Nat) (v3 : Int32) (v4 : Int32) (v5 : Int32) (M : Mm) (Q : Int32 → Mm → Prop)
    (h : ((v3 ≤ v5 → Q (-1 : Int32) M) ∧ (¬ v3 ≤ v5 → vp_in v5 5 ∧ ((¬ (([103, 115, 112, 104, 111] : List Int32).getD v5.toNatClampNeg 0) = v4 → BJ1_indexOfChar_4cfef d 7 [(0, .ref 1005), (3, .int v3), (4, .int v4), (5, .int (v5 + (1 : Int32)))] [] M Q) ∧ ((([103, 115, 112, 104, 111] : List Int32).getD v5.toNatClampNeg 0) = v4 → Q v5 M))))) : BJ1_indexOfChar_4cfef d 7 [(0, .ref 1005), (3, .int v3), (4, .int v4), (5, .int v5)] [] M Q := by
  refine B_iload dJ1_indexOfChar_4cfef_7 3 rfl ?_
  refine B_iload_n dJ1_indexOfChar_4cfef_9 1 rfl ?_
  refine B_icmp_ge (tgt := 31) dJ1_indexOfChar_4cfef_10 (by decide) (fun hc => ?_) (fun hc => ?_)
  · have h := h.1 hc
    refine B_iconst (v := -1) dJ1_indexOfChar_4cfef_31 (by decide) ?_
    exact B_iret dJ1_indexOfChar_4cfef_32 h
  · have h := h.2 hc
    refine B_aload_n dJ1_indexOfChar_4cfef_13 0 rfl ?_
    refine B_iload dJ1_indexOfChar_4cfef_14 3 rfl ?_
    obtain ⟨hi, h⟩ := h
    refine B_strB dJ1_indexOfChar_4cfef_16 hi rfl ?_
    refine B_iload dJ1_indexOfChar_4cfef_17 2 rfl ?_
    refine B_icmp_ne (tgt := 25) dJ1_indexOfChar_4cfef_19 (by decide) (fun hc => ?_) (fun hc => ?_)
    · have h := h.1 hc
      refine B_iinc (lv1 := [(5, .int (v5 + (1 : Int32))), (0, .ref 1005), (3, .int v3), (4, .int v4)]) (v := (v5 + (1 : Int32))) dJ1_indexOfChar_4cfef_25 3 rfl rfl (by decide) rfl ?_
      refine B_goto (tgt := 7) dJ1_indexOfChar_4cfef_28 (by decide) ?_
      refine B_weak [1, 2, 3, 0] rfl ?_
      exact h
    · have h := h.2 hc
      refine B_iload dJ1_indexOfChar_4cfef_22 3 rfl ?_
      exact B_iret dJ1_indexOfChar_4cfef_24 h
set_option maxHeartbeats 4000000 in
set_option maxRecDepth 100000 in
theorem rJ7_fill_53178 (d : Nat) (o0 : Nat) (ho0 : isIa o0) (v1 : Int32) (M : Mm) (Q : Int32 → Mm → Prop)
    (h : BJ7_fill_53178 d 5 [(0, .ref o0), (1, .int v1), (2, .int (0 : Int32)), (3, .int (Int32.ofNat (ob_n o0)))] [] M Q) : kJ7_fill_53178 d o0 v1 M Q := by
  refine Ct.of (cc := cJ7_fill_53178) (nL := 4) (by decide) rfl (Nat.le_of_ble_eq_true rfl) ?_
  show BJ7_fill_53178 d 0 [(0, .ref o0), (1, .int v1)] [] M Q
  refine B_iconst (v := 0) dJ7_fill_53178_0 (by decide) ?_
  refine B_istore_n (lv1 := [(2, .int (0 : Int32)), (0, .ref o0), (1, .int v1)]) dJ7_fill_53178_1 (by decide) rfl ?_
  refine B_aload_n dJ7_fill_53178_2 1 rfl ?_
  refine B_alen o0 dJ7_fill_53178_3 ho0.1 ho0.2 rfl ?_
  refine B_istore_n (lv1 := [(3, .int (Int32.ofNat (ob_n o0))), (2, .int (0 : Int32)), (0, .ref o0), (1, .int v1)]) dJ7_fill_53178_4 (by decide) rfl ?_
  refine B_weak [2, 3, 1, 0] rfl ?_
  exact h
set_option maxHeartbeats 4000000 in
set_option maxRecDepth 100000 in
theorem rJ7_fill_53178_5 (d : Nat) (o0 : Nat) (ho0 : isIa o0) (v1 : Int32) (v2 : Int32) (v3 : Int32) (M : Mm) (Q : Int32 → Mm → Prop)
    (h : ((v3 ≤ v2 → Q 0 M) ∧ (¬ v3 ≤ v2 → vp_in v2 (ob_n o0) ∧ (∀ M1 : Mm, M1 = (upd2 M o0 v2.toNatClampNeg v1) → BJ7_fill_53178 d 5 [(0, .ref o0), (1, .int v1), (2, .int (v2 + (1 : Int32))), (3, .int v3)] [] M1 Q)))) : BJ7_fill_53178 d 5 [(0, .ref o0), (1, .int v1), (2, .int v2), (3, .int v3)] [] M Q := by
  refine B_iload_n dJ7_fill_53178_5 2 rfl ?_
  refine B_iload_n dJ7_fill_53178_6 3 rfl ?_
  refine B_icmp_ge (tgt := 20) dJ7_fill_53178_7 (by decide) (fun hc => ?_) (fun hc => ?_)
  · have h := h.1 hc
    exact B_vret dJ7_fill_53178_20 h
  · have h := h.2 hc
    refine B_aload_n dJ7_fill_53178_10 0 rfl ?_
    refine B_iload_n dJ7_fill_53178_11 2 rfl ?_
    refine B_iload_n dJ7_fill_53178_12 1 rfl ?_
    obtain ⟨hi, h⟩ := h
    refine B_iast (n := (ob_n o0)) o0 dJ7_fill_53178_13 ho0.1 ho0.2 rfl hi ?_
    have h := h _ rfl
    generalize (upd2 M o0 v2.toNatClampNeg v1) = M1 at h ⊢
    refine B_iinc (lv1 := [(2, .int (v2 + (1 : Int32))), (0, .ref o0), (1, .int v1), (3, .int v3)]) (v := (v2 + (1 : Int32))) dJ7_fill_53178_14 2 rfl rfl (by decide) rfl ?_
    refine B_goto (tgt := 5) dJ7_fill_53178_17 (by decide) ?_
    refine B_weak [1, 2, 0, 3] rfl ?_
    exact h
