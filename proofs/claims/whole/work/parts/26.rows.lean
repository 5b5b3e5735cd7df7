/-! ROWS, STATUS, FAULT, FEED -/
theorem c8_y (d j hi : Nat) (M : Mm) (Q : Int32 → Mm → Prop) (hj : j ≤ hi) (hh : hi < 2 ^ 31) (h : Q 1 M) : kX8_in d (nI j).toInt64 (0 : Int64) (nI hi).toInt64 M Q := by
  refine c8_inI d (nI j) 0 (nI hi) M _ ?_
  rw [if_pos (by rw [li_0]; simp (disch := omega) only [nI_leI]; omega)]
  exact h
theorem c8_n (d hi : Nat) (v : Int32) (M : Mm) (Q : Int32 → Mm → Prop) (hh : hi + 1 < 2 ^ 31) (hj : v < 0 ∨ nI (hi + 1) ≤ v) (h : Q 0 M) : kX8_in d v.toInt64 (0 : Int64) (nI hi).toInt64 M Q := by
  refine c8_inI d v 0 (nI hi) M _ ?_
  rw [if_neg (fun q => ?_)]
  · exact h
  · have e8 : (nI (hi + 1)).toInt = ((hi + 1 : Nat) : Int) := nI_toInt hh
    have e7 : (nI hi).toInt = (hi : Int) := nI_toInt (by omega)
    have e0 : (0 : Int32).toInt = 0 := rfl
    rw [fa_le, fa_le] at q
    rw [fa_lt, fa_le] at hj
    omega
/-- 'in' from 1 on -/
theorem c8_y1 (d j hi : Nat) (M : Mm) (Q : Int32 → Mm → Prop) (h1 : 1 ≤ j) (hj : j ≤ hi) (hh : hi < 2 ^ 31) (h : Q 1 M) : kX8_in d (nI j).toInt64 (1 : Int64) (nI hi).toInt64 M Q := by
  refine c8_inI d (nI j) 1 (nI hi) M _ ?_
  rw [if_pos (by rw [li_1]; simp (disch := omega) only [nI_leI]; omega)]
  exact h
theorem c8_n1 (d hi : Nat) (v : Int32) (M : Mm) (Q : Int32 → Mm → Prop) (hh : hi + 1 < 2 ^ 31) (hj : v < nI 1 ∨ nI (hi + 1) ≤ v) (h : Q 0 M) : kX8_in d v.toInt64 (1 : Int64) (nI hi).toInt64 M Q := by
  refine c8_inI d v 1 (nI hi) M _ ?_
  rw [if_neg (fun q => ?_)]
  · exact h
  · have e8 : (nI (hi + 1)).toInt = ((hi + 1 : Nat) : Int) := nI_toInt hh
    have e7 : (nI hi).toInt = (hi : Int) := nI_toInt (by omega)
    have e1 : (nI 1).toInt = 1 := nI_toInt (by omega)
    have e0 : (1 : Int32).toInt = 1 := rfl
    rw [fa_le, fa_le] at q
    rw [fa_lt, fa_le] at hj
    omega
theorem neg_lt {v : Int32} {n : Nat} (h : v < 0) (hn : n < 2 ^ 31) : v < nI n := by
  rw [fa_lt] at *
  rw [nI_toInt hn]
  have e0 : (0 : Int32).toInt = 0 := rfl
  omega
theorem big_ge {v : Int32} {m n : Nat} (h : nI n ≤ v) (hm : m ≤ n) (hn : n < 2 ^ 31) : nI m ≤ v := by
  rw [fa_le] at *
  rw [nI_toInt hn] at h
  rw [nI_toInt (by omega)]
  omega
theorem big_gt {v : Int32} {m n : Nat} (h : nI n ≤ v) (hm : m < n) (hn : n < 2 ^ 31) : ¬ v ≤ nI m := by
  rw [fa_le] at *
  rw [nI_toInt hn] at h
  rw [nI_toInt (by omega)]
  omega
theorem big_pos {v : Int32} {n : Nat} (h : nI n ≤ v) (hn : n < 2 ^ 31) : ¬ v < 0 := by
  rw [fa_le] at h
  rw [fa_lt]
  rw [nI_toInt hn] at h
  have e0 : (0 : Int32).toInt = 0 := rfl
  omega
theorem neg_nge {v : Int32} (h : v < 0) : ¬ 0 ≤ v := by
  rw [fa_lt] at h
  rw [fa_le]
  omega
theorem neg_le {v : Int32} {n : Nat} (h : v < 0) (hn : n < 2 ^ 31) : v ≤ nI n := by
  rw [fa_lt] at h
  rw [fa_le, nI_toInt hn]
  have e0 : (0 : Int32).toInt = 0 := rfl
  omega
theorem fill_loop (d o n : Nat) (ho : isIa o) (hn : ob_n o = n) (hn2 : n < 2 ^ 30) (v : Int32) (Q : Int32 → Mm → Prop) (M : Mm) (h : Q 0 (setR M o (fun i => if i < n then v else M o i))) : ∀ (k : Nat), k ≤ n → BJ7_fill_53178 d 5 [(0, .ref o), (1, .int v), (2, .int (nI (n - k))), (3, .int (nI n))] [] (setR M o (fun i => if i < n - k then v else M o i)) Q
  | 0, _ => by
    apply rJ7_fill_53178_5 _ _ ho
    simp (disch := omega) only [li_0, li_1, li_2, li_3, li_4, li_5, li_6, li_7, li_8, li_9, li_10, li_16, li_17, li_20, li_24, li_34, li_40, li_50, li_60, li_68, li_85, li_200, li_9999, nI_add, nI_clamp, vpT, nI_leI, nI_ltI, nI_eq, irem_nI, true_and, and_true, forall_eq, not_true_eq_false, not_false_eq_true, forall_const, false_and, and_false, false_imp_iff, true_imp_iff, imp_self]
    exact ⟨fun _ => h, fun q => by omega⟩
  | k + 1, hk => by
    apply rJ7_fill_53178_5 _ _ ho
    rw [hn]
    have e : n - (k + 1) + 1 = n - k := by omega
    simp (disch := omega) only [li_0, li_1, li_2, li_3, li_4, li_5, li_6, li_7, li_8, li_9, li_10, li_16, li_17, li_20, li_24, li_34, li_40, li_50, li_60, li_68, li_85, li_200, li_9999, nI_add, nI_clamp, vpT, nI_leI, nI_ltI, nI_eq, irem_nI, true_and, and_true, forall_eq, not_true_eq_false, not_false_eq_true, forall_const, false_and, and_false, false_imp_iff, true_imp_iff, imp_self, e]
    refine ⟨fun q => by omega, fun _ => ?_⟩
    have e2 : upd2 (setR M o (fun i => if i < n - (k + 1) then v else M o i)) o (n - (k + 1)) v = setR M o (fun i => if i < n - k then v else M o i) := by
      funext q i
      by_cases hq : q = o
      · subst hq
        rw [upd2_r, setR_eq, setR_eq]
        by_cases c : i = n - (k + 1)
        · rw [if_pos c, if_pos (by omega)]
        · rw [if_neg c]
          by_cases c2 : i < n - (k + 1)
          · rw [if_pos c2, if_pos (by omega)]
          · rw [if_neg c2, if_neg (by omega)]
      · rw [upd2_off hq, setR_ne hq, setR_ne hq]
    rw [e2]
    exact fill_loop d o n ho hn hn2 v Q M h k (by omega)
theorem cJ_fill (d o n : Nat) (ho : isIa o) (hn : ob_n o = n) (hn2 : n < 2 ^ 30) (v : Int32) (M : Mm) (Q : Int32 → Mm → Prop) (h : Q 0 (setR M o (fun i => if i < n then v else M o i))) : kJ7_fill_53178 d o v M Q := by
  apply rJ7_fill_53178 _ _ ho
  have := fill_loop d o n ho hn hn2 v Q M h n (Nat.le_refl n)
  rw [Nat.sub_self] at this
  have e : setR M o (fun i => if i < 0 then v else M o i) = M := by
    funext q i
    by_cases hq : q = o
    · subst hq; rw [setR_eq]; rfl
    · rw [setR_ne hq]
  rw [e] at this
  rw [hn]
  exact this
theorem sh_nI {j : Nat} (hj : j < 8) : sh (nI j) = 2 + 2 * j := by unfold sh; rw [nI_clamp (by omega)]
theorem isSh_of {j : Nat} (hj : j < 8) : isSh (2 + 2 * j) := by unfold isSh; omega
theorem isIa_of {j : Nat} (hj : j < 8) : isIa (2 + 2 * j + 1) := ⟨sh1_lt (isSh_of hj), sh1_c (isSh_of hj)⟩
/-- one row changes, and how it was found -/
theorem Inv_row {M M' : Mm} (h : Inv M) {j : Nat} (hj : j < 8) (hr : I_row M' j) (hf : M' 0 10 = M' 49 5) (hk : ∀ k, k ≠ 0 → k ≠ 2 + 2 * j → k ≠ 3 + 2 * j → k ≠ 49 → k ≠ 52 → k ≠ 53 → k ≠ 54 → k ≠ 55 → M' k = M k) (h49 : ∀ i, i ≠ 5 → M' 49 i = M 49 i) (h52 : ∀ i, i ≠ j → M' 52 i = M 52 i) (h53 : ∀ i, i ≠ j → M' 53 i = M 53 i) (h54 : ∀ i, (i < 40 * j ∨ 40 * j + 40 ≤ i) → M' 54 i = M 54 i) : Inv M' := by
  obtain ⟨a, b, c, d, e, f⟩ := h
  have r : ∀ k, k ≠ 0 → (k < 2 ∨ 17 < k) → k < 49 → M' k = M k := fun k h1 h2 h3 => hk k h1 (by omega) (by omega) (by omega) (by omega) (by omega) (by omega) (by omega)
  have r50 : M' 50 = M 50 := hk 50 (by omega) (by omega) (by omega) (by omega) (by omega) (by omega) (by omega) (by omega)
  refine ⟨fun i hi => ?_, I_tape_c b (by rw [r 18 (by omega) (by omega) (by omega)]) (by rw [r 18 (by omega) (by omega) (by omega)]) (r 19 (by omega) (by omega) (by omega)) (h49 3 (by omega)) (h49 4 (by omega)) (hk 51 (by omega) (by omega) (by omega) (by omega) (by omega) (by omega) (by omega) (by omega)) (by rw [r 20 (by omega) (by omega) (by omega)]), I_ra_c c (r 23 (by omega) (by omega) (by omega)) (r 24 (by omega) (by omega) (by omega)) (r 25 (by omega) (by omega) (by omega)) (r 36 (by omega) (by omega) (by omega)) (r 37 (by omega) (by omega) (by omega)) (r 38 (by omega) (by omega) (by omega)) (r 39 (by omega) (by omega) (by omega)) (h49 1 (by omega)) (fun i _ => by rw [r50]), I_img_c d (fun k h1 h2 => r k (by omega) (by omega) (by omega)) (fun i _ _ => by rw [r50]), hf, I_trc_c f (by rw [r 46 (by omega) (by omega) (by omega)]) (h49 22 (by omega)) (r 47 (by omega) (by omega) (by omega)) (hk 64 (by omega) (by omega) (by omega) (by omega) (by omega) (by omega) (by omega) (by omega))⟩
  by_cases hij : i = j
  · subst hij; exact hr
  · have q := a i hi
    unfold I_row at *
    rw [hk (2 + 2 * i) (by omega) (by omega) (by omega) (by omega) (by omega) (by omega) (by omega) (by omega), hk (3 + 2 * i) (by omega) (by omega) (by omega) (by omega) (by omega) (by omega) (by omega) (by omega), h52 i hij, h53 i hij]
    rcases q with q | ⟨ln, sz, q1, q2, q3, q4, q5, q6, q7⟩
    · exact Or.inl q
    · exact Or.inr ⟨ln, sz, q1, q2, q3, q4, q5, q6, fun x hx => by rw [h54 _ (by omega)]; exact q7 x hx⟩
theorem row_loop (d j m : Nat) (hj : j < 8) (hm : m ≤ 40) (Q : Int32 → Mm → Prop) (M : Mm) (h : Q (nI m) (setR M 54 (fun i => if 40 * j ≤ i ∧ i < 40 * j + 40 then 0 else M 54 i))) : ∀ (k : Nat), k ≤ 40 → BX8_row (d + 1) 60 [(0, .ref 49), (1, .int (nI j)), (3, .int (nI m)), (4, .int (nI (40 - k)))] [] (setR M 54 (fun i => if 40 * j ≤ i ∧ i < 40 * j + (40 - k) then 0 else M 54 i)) Q
  | 0, _ => by
    apply rX8_row_60
    simp (disch := omega) only [li_0, li_1, li_2, li_3, li_4, li_5, li_6, li_7, li_8, li_9, li_10, li_16, li_17, li_20, li_24, li_34, li_40, li_50, li_60, li_68, li_85, li_200, li_9999, nI_add, nI_clamp, vpT, nI_leI, nI_ltI, nI_eq, irem_nI, true_and, and_true, forall_eq, not_true_eq_false, not_false_eq_true, forall_const, false_and, and_false, false_imp_iff, true_imp_iff, imp_self]
    exact ⟨fun _ => h, fun q => by omega⟩
  | k + 1, hk => by
    apply rX8_row_60
    have e : 40 - (k + 1) + 1 = 40 - k := by omega
    simp (disch := omega) only [li_0, li_1, li_2, li_3, li_4, li_5, li_6, li_7, li_8, li_9, li_10, li_16, li_17, li_20, li_24, li_34, li_40, li_50, li_60, li_68, li_85, li_200, li_9999, nI_add, nI_clamp, vpT, nI_leI, nI_ltI, nI_eq, irem_nI, true_and, and_true, forall_eq, not_true_eq_false, not_false_eq_true, forall_const, false_and, and_false, false_imp_iff, true_imp_iff, imp_self, e, pk_mul]
    refine ⟨fun q => by omega, fun _ => ?_⟩
    have e2 : upd2 (setR M 54 (fun i => if 40 * j ≤ i ∧ i < 40 * j + (40 - (k + 1)) then 0 else M 54 i)) 54 (40 * j + (40 - (k + 1))) (nI 0) = setR M 54 (fun i => if 40 * j ≤ i ∧ i < 40 * j + (40 - k) then 0 else M 54 i) := by
      funext q i
      by_cases hq : q = 54
      · subst hq
        rw [upd2_r, setR_eq, setR_eq]
        by_cases c : i = 40 * j + (40 - (k + 1))
        · rw [if_pos c, if_pos (by omega)]; rfl
        · rw [if_neg c]
          by_cases c2 : 40 * j ≤ i ∧ i < 40 * j + (40 - (k + 1))
          · rw [if_pos c2, if_pos (by omega)]
          · rw [if_neg c2, if_neg (by omega)]
      · rw [upd2_off hq, setR_ne hq, setR_ne hq]
    have q := row_loop d j m hj hm Q M h k (by omega)
    rw [← e2] at q
    exact q
theorem L_row (v1 v2 v3 : Int32) (M : Mm) (hI : Inv M) : kX7_row 40 v1 v2 v3 M (fun r1 M1 => kX8_row 40 v1 v2 v3 M1 (fun r2 M2 => r1 = r2 ∧ Inv M2)) := by
  have bad : (∀ (Q : Int32 → Mm → Prop), Q (-1000001) M → kX8_row 40 v1 v2 v3 M Q) → kX8_row 40 v1 v2 v3 M (fun r2 M2 => (-1000001) = r2 ∧ Inv M2) := fun h => h _ ⟨rfl, hI⟩
  apply rX7_row
  rcases pk_ix v1 (n := 8) (by omega) with h1 | h1 | ⟨j, hj, rfl⟩
  · refine c7_row_n _ _ _ _ (Or.inl h1) ⟨fun _ => bad (fun Q hQ => ?_), fun q => absurd rfl q⟩
    apply rX8_row
    exact c8_row_n _ _ _ _ (Or.inl h1) ⟨fun _ => hQ, fun q => absurd rfl q⟩
  · refine c7_row_n _ _ _ _ (Or.inr h1) ⟨fun _ => bad (fun Q hQ => ?_), fun q => absurd rfl q⟩
    apply rX8_row
    exact c8_row_n _ _ _ _ (Or.inr h1) ⟨fun _ => hQ, fun q => absurd rfl q⟩
  · refine c7_row_y _ j _ _ hj ⟨fun q => absurd q (by decide), fun _ => ?_⟩
    rcases pk_ix v2 (n := 3) (by omega) with h2 | h2 | ⟨ln, hln, rfl⟩
    · refine ⟨fun _ => bad (fun Q hQ => ?_), fun q => absurd h2 q⟩
      apply rX8_row
      refine c8_row_y _ j _ _ hj ⟨fun q => absurd q (by decide), fun _ => ?_⟩
      exact c8_n _ 2 v2 _ _ (by omega) (Or.inl h2) ⟨fun _ => hQ, fun q => absurd rfl q⟩
    · refine ⟨fun q => absurd q (big_pos h2 (by omega)), fun _ => ⟨fun _ => bad (fun Q hQ => ?_), fun q => absurd h2 q⟩⟩
      apply rX8_row
      refine c8_row_y _ j _ _ hj ⟨fun q => absurd q (by decide), fun _ => ?_⟩
      exact c8_n _ 2 v2 _ _ (by omega) (Or.inr h2) ⟨fun _ => hQ, fun q => absurd rfl q⟩
    · have st : ∀ (Q : Int32 → Mm → Prop) (M : Mm), (((v3 ≤ (40 : Int32) → ((0 ≤ v3 → (∀ M3 : Mm, M3 = (upd2 M 49 5 (0 : Int32)) → vp_in (nI j) 8 ∧ (∀ M4 : Mm, M4 = (upd2 M3 52 (nI j).toNatClampNeg v3) → vp_in (nI j) 8 ∧ (∀ M5 : Mm, M5 = (upd2 M4 53 (nI j).toNatClampNeg (nI ln)) → BX8_row (39 + 1) 60 [(0, .ref 49), (1, .int (nI j)), (3, .int v3), (4, .int (0 : Int32))] [] M5 Q)))) ∧ (¬ 0 ≤ v3 → kX8_finds 39 (4 : Int32) M (fun (r3 : Int32) (M6 : Mm) => Q r3 M6)))) ∧ (¬ v3 ≤ (40 : Int32) → Q (-1000001 : Int32) M))) → kX8_row 40 (nI j) (nI ln) v3 M Q := by
        intro Q M h
        apply rX8_row
        refine c8_row_y _ j _ _ hj ⟨fun q => absurd q (by decide), fun _ => ?_⟩
        exact c8_y _ ln 2 _ _ (by omega) (by omega) ⟨fun q => absurd q (by decide), fun _ => h⟩
      refine ⟨fun q => absurd q (nI_pos (by omega)), fun _ => ⟨fun q => absurd q (nI_ge (a := ln) (b := 3) (by omega) (by omega)), fun _ => ?_⟩⟩
      rcases pk_ix v3 (n := 41) (by omega) with h3 | h3 | ⟨m, hm, rfl⟩
      · refine ⟨fun _ => ⟨fun q => absurd q (neg_nge h3), fun _ => c7_found _ _ _ _ ?_⟩, fun q => absurd (neg_le (n := 40) h3 (by omega)) q⟩
        refine st _ _ ⟨fun _ => ⟨fun q => absurd q (neg_nge h3), fun _ => c8_finds _ _ _ _ ⟨rfl, Inv_f hI _⟩⟩, fun q => absurd (neg_le (n := 40) h3 (by omega)) q⟩
      · refine ⟨fun q => absurd q (big_gt (m := 40) h3 (by omega) (by omega)), fun _ => ?_⟩
        exact st _ _ ⟨fun q => absurd q (big_gt (m := 40) h3 (by omega) (by omega)), fun _ => ⟨rfl, hI⟩⟩
      · have z0 : (0 : Int32) ≤ nI m := nI_pos' (by omega)
        have z1 : nI m ≤ (40 : Int32) := nI_le (a := m) (b := 40) (by omega) (by omega)
        refine ⟨fun _ => ⟨fun _ => ?_, fun q => absurd z0 q⟩, fun q => absurd z1 q⟩
        rintro M1 rfl
        refine ⟨vp_in_nI hj (by omega), ?_⟩
        rw [sh_nI hj]
        apply rX5_lay _ _ (isSh_of hj)
        refine cJ_fill _ _ 40 (isIa_of hj) (sh1_n (isSh_of hj)) (by omega) 0 _ _ ?_
        rintro M2 rfl M3 rfl
        refine st _ _ ⟨fun _ => ⟨fun _ => ?_, fun q => absurd z0 q⟩, fun q => absurd z1 q⟩
        rintro M4 rfl
        refine ⟨vp_in_nI hj (by omega), ?_⟩
        rintro M5 rfl
        refine ⟨vp_in_nI hj (by omega), ?_⟩
        rintro M6 rfl
        rw [nI_clamp (show j < 2 ^ 31 by omega)]
        generalize hM : upd2 (upd2 (upd2 (upd2 (upd2 (setR (upd2 M 0 10 0) (2 + 2 * j + 1) fun i => if i < 40 then 0 else upd2 M 0 10 0 (2 + 2 * j + 1) i) (2 + 2 * j) 1 (nI ln)) (2 + 2 * j) 2 (nI m)) 49 5 0) 52 j (nI m)) 53 j (nI ln) = MM
        have := row_loop 39 j m hj (by omega) (fun r2 M2 => nI m = r2 ∧ Inv M2) MM ⟨rfl, ?_⟩ 40 (Nat.le_refl 40)
        · have e : setR MM 54 (fun i => if 40 * j ≤ i ∧ i < 40 * j + (40 - 40) then 0 else MM 54 i) = MM := by
            funext q i
            by_cases hq : q = 54
            · subst hq; rw [setR_eq, if_neg (by omega)]
            · rw [setR_ne hq]
          rw [e] at this
          exact this
        · have f : ∀ k, k ≠ 54 → setR MM 54 (fun i => if 40 * j ≤ i ∧ i < 40 * j + 40 then 0 else MM 54 i) k = MM k := fun k hk => setR_ne hk
          refine Inv_row hI hj (Or.inr ⟨ln, m, by omega, by omega, ?_, ?_, ?_, ?_, ?_⟩) ?_ ?_ ?_ ?_ ?_ ?_
          · rw [f _ (by omega), ← hM, upd2_off (by omega), upd2_off (by omega), upd2_off (by omega), upd2_row (by omega), upd2_at]
          · rw [f _ (by omega), ← hM, upd2_off (by omega), upd2_off (by omega), upd2_off (by omega), upd2_at]
          · rw [f _ (by omega), ← hM, upd2_off (by omega), upd2_at]
          · rw [f _ (by omega), ← hM, upd2_at]
          · intro i hi
            rw [f _ (by omega), setR_eq, if_pos (by omega), ← hM, upd2_off (by omega), upd2_off (by omega), upd2_off (by omega), upd2_off (by omega), upd2_off (by omega), show 3 + 2 * j = 2 + 2 * j + 1 by omega, setR_eq, if_pos hi]
          · rw [f _ (by omega), f _ (by omega), ← hM, upd2_off (by omega), upd2_off (by omega), upd2_off (by omega), upd2_off (by omega), upd2_off (by omega), setR_ne (by omega), upd2_at, upd2_off (by omega), upd2_off (by omega), upd2_at]
          · intro k a1 a2 a3 a4 a5 a6 a7 a8
            rw [f _ a7, ← hM, upd2_off a6, upd2_off a5, upd2_off a4, upd2_off a2, upd2_off a2, setR_ne (by omega), upd2_off a1]
          · intro i hi
            rw [f _ (by omega), ← hM, upd2_off (by omega), upd2_off (by omega), upd2_row hi, upd2_off (by omega), upd2_off (by omega), setR_ne (by omega), upd2_off (by omega)]
          · intro i hi
            rw [f _ (by omega), ← hM, upd2_off (by omega), upd2_row hi, upd2_off (by omega), upd2_off (by omega), upd2_off (by omega), setR_ne (by omega), upd2_off (by omega)]
          · intro i hi
            rw [f _ (by omega), ← hM, upd2_row hi, upd2_off (by omega), upd2_off (by omega), upd2_off (by omega), upd2_off (by omega), setR_ne (by omega), upd2_off (by omega)]
          · intro i hi
            rw [setR_eq, if_neg (by omega), ← hM, upd2_off (by omega), upd2_off (by omega), upd2_off (by omega), upd2_off (by omega), upd2_off (by omega), setR_ne (by omega), upd2_off (by omega)]
theorem L_status (M : Mm) (hI : Inv M) : kX7_status 40 M (fun r1 M1 => kX8_status 40 M1 (fun r2 M2 => r1 = r2 ∧ Inv M2)) := by
  apply rX7_status
  apply rX8_status
  exact ⟨hI.2.2.2.2.1, hI⟩
theorem L_fault (M : Mm) (hI : Inv M) : kX7_fault 40 M (fun r1 M1 => kX8_fault 40 M1 (fun r2 M2 => r1 = r2 ∧ Inv M2)) := by
  apply rX7_fault
  apply rX8_fault
  exact ⟨hI.2.1.2.1, hI⟩
