/-! the reference's ring: the block of w at r -/
def inW (r : Nat) : Prop := r + 17 ≤ 301
/-- outside the block's things and step nothing changes -/
def keepM (M M' : Mm) (r n : Nat) : Prop := (∀ k, k ≠ 50 → M' k = M k) ∧ ∀ i, (i < r + 2 ∨ r + 3 + n ≤ i) → M' 50 i = M 50 i
theorem keepM_rf {M : Mm} {r n : Nat} : keepM M M r n := ⟨fun _ _ => rfl, fun _ _ => rfl⟩
theorem keepM_tr {M M' M'' : Mm} {r n : Nat} (h : keepM M M' r n) (h2 : keepM M' M'' r n) : keepM M M'' r n := ⟨fun k hk => (h2.1 k hk).trans (h.1 k hk), fun i hi => (h2.2 i hi).trans (h.2 i hi)⟩
theorem c8_lets (d r n s : Nat) (kd th : Nat → Nat) (stp ngt : Nat) (M : Mm) (Q : Int32 → Mm → Prop) (hR : RgM M r n kd th stp ngt) (hr : inW r) (hk : okK n kd) (ht : okT n th) (h7 : n ≤ 7) (hs : s < n) (h : Q (if th s = 0 ∨ kd s < 4 then 1 else 0) M) : kX8_lets d (nI r) (nI s) M Q := by
  apply rX8_lets
  obtain ⟨-, -, -, h2, h1⟩ := hR
  unfold inW at hr
  have hk1 := hk s hs
  have ht1 := ht s hs
  have e1 : M 50 (r + 10 + s) = nI (kd s) := h1 s hs
  have e2 : M 50 (r + 3 + s) = nI (th s) := h2 s hs
  simp (disch := omega) only [li_0, li_1, li_2, li_3, li_4, li_5, li_6, li_7, li_8, li_9, li_10, li_16, li_17, li_20, li_24, li_34, li_40, li_50, li_60, li_68, li_85, li_200, li_9999, nI_add, nI_clamp, vpT, nI_leI, nI_ltI, nI_eq, irem_nI, true_and, and_true, forall_eq, not_true_eq_false, not_false_eq_true, forall_const, false_and, and_false, false_imp_iff, true_imp_iff, imp_self, e1, e2]
  refine ⟨fun q => ?_, fun q => ⟨fun q2 => ?_, fun q2 => ?_⟩⟩
  · rw [if_pos (by omega)] at h; exact h
  · rw [if_neg (by omega)] at h; exact h
  · rw [if_pos (by omega)] at h; exact h
theorem c8_changes (d r n a b : Nat) (kd th : Nat → Nat) (stp ngt : Nat) (M : Mm) (Q : Int32 → Mm → Prop) (hR : RgM M r n kd th stp ngt) (hr : inW r) (h7 : n ≤ 7) (ha : a < n) (hb : b < n)
    (h : ∀ M', RgM M' r n kd (swp th a b) stp ngt → keepM M M' r n → Q 0 M') : kX8_changes d (nI r) (nI a) (nI b) M Q := by
  apply rX8_changes
  obtain ⟨g1, g2, g3, h2, h1⟩ := hR
  unfold inW at hr
  simp (disch := omega) only [li_0, li_1, li_2, li_3, li_4, li_5, li_6, li_7, li_8, li_9, li_10, li_16, li_17, li_20, li_24, li_34, li_40, li_50, li_60, li_68, li_85, li_200, li_9999, nI_add, nI_clamp, vpT, nI_leI, nI_ltI, nI_eq, irem_nI, true_and, and_true, forall_eq, not_true_eq_false, not_false_eq_true, forall_const, false_and, and_false, false_imp_iff, true_imp_iff, imp_self]
  apply h
  · refine ⟨by rw [upd2_r, upd2_r, if_neg (by omega), if_neg (by omega)]; exact g1, by rw [upd2_r, upd2_r, if_neg (by omega), if_neg (by omega)]; exact g2, by rw [upd2_r, upd2_r, if_neg (by omega), if_neg (by omega)]; exact g3, fun i hi => ?_, fun i hi => by rw [upd2_r, upd2_r, if_neg (by omega), if_neg (by omega)]; exact h1 i hi⟩
    rw [upd2_r, upd2_r, h2 a ha, h2 b hb, h2 i hi]
    unfold swp
    by_cases q1 : i = b
    · rw [if_pos (by omega), if_pos q1]
    · rw [if_neg (by omega), if_neg q1]
      by_cases q2 : i = a
      · rw [if_pos (by omega), if_pos q2]
      · rw [if_neg (by omega), if_neg q2]
  · refine ⟨fun k hk => by rw [upd2_off hk, upd2_off hk], fun i hi => ?_⟩
    rw [upd2_r, upd2_r, if_neg (by omega), if_neg (by omega)]
theorem c8_turns (d r n s : Nat) (kd th : Nat → Nat) (stp ngt : Nat) (M : Mm) (Q : Int32 → Mm → Prop) (hR : RgM M r n kd th stp ngt) (hr : inW r) (hk : okK n kd) (ht : okT n th) (h7 : n ≤ 7) (hstp : stp < 2 ^ 30) (hs : s < n)
    (h : ∀ M', RgM M' r n kd (turnS n kd stp th s) stp ngt → keepM M M' r n → Q 0 M') : kX8_turns (d + 1) (nI r) (nI s) M Q := by
  have hr2 : r + 17 ≤ 301 := hr
  have hnx := nxS_lt hs
  have hpv := pvS_lt hs
  -- the last block
  have last : BX8_turns (d + 1) 38 [(0, .ref 49), (1, .int (nI r)), (2, .int (nI s)), (4, .int (nI (nxS n s)))] [.int (nI (pvS n s))] M Q := by
    apply rX8_turns_38
    have e1 : M 50 (r + 10 + s) = nI (kd s) := hR.2.2.2.2 s hs
    have e2 : M 50 (r + 3 + s) = nI (th s) := hR.2.2.2.1 s hs
    have e3 : M 50 (r + 3 + nxS n s) = nI (th (nxS n s)) := hR.2.2.2.1 _ hnx
    have e4 : M 50 (r + 2) = nI stp := hR.2.2.1
    have hk1 := hk s hs
    have ht1 := ht s hs
    have ht2 := ht _ hnx
    have hm : stp % 2 < 2 := Nat.mod_lt _ (by omega)
    have same : turnS n kd stp th s = th → Q 0 M := fun e => h M (by rw [e]; exact hR) keepM_rf
    have ch : ∀ b, b < n → turnS n kd stp th s = swp th s b → kX8_changes d (nI r) (nI s) (nI b) M (fun _ M2 => Q 0 M2) := fun b hb e =>
      c8_changes d r n s b kd th stp ngt M _ hR hr h7 hs hb (fun M' h1 h2 => h M' (by rw [e]; exact h1) h2)
    have lt : ∀ b, b < n → ∀ (Q' : Int32 → Mm → Prop), Q' (if th b = 0 ∨ kd b < 4 then 1 else 0) M → kX8_lets d (nI r) (nI b) M Q' := fun b hb Q' q => c8_lets d r n b kd th stp ngt M Q' hR hr hk ht h7 hb q
    simp (disch := omega) only [li_0, li_1, li_2, li_3, li_4, li_5, li_6, li_7, li_8, li_9, li_10, li_16, li_17, li_20, li_24, li_34, li_40, li_50, li_60, li_68, li_85, li_200, li_9999, nI_add, nI_clamp, vpT, nI_leI, nI_ltI, nI_eq, irem_nI, true_and, and_true, forall_eq, not_true_eq_false, not_false_eq_true, forall_const, false_and, and_false, false_imp_iff, true_imp_iff, imp_self, e1, e2]
    unfold turnS handS at same ch
    refine ⟨fun q => lt _ hnx _ ?_, fun q => lt _ hnx _ ?_, fun q => lt _ hnx _ ?_, fun q => ⟨fun q2 => same ?_, fun q2 => lt _ hpv _ ?_⟩, fun q => same ?_⟩
    · rw [if_pos q] at same ch
      split
      · rename_i c
        rw [if_pos c] at ch
        exact ⟨fun q => absurd q (by decide), fun _ => ch _ hnx rfl⟩
      · rename_i c
        rw [if_neg c] at same
        exact ⟨fun _ => same rfl, fun q => absurd rfl q⟩
    · rw [if_neg (by omega), if_pos q] at same ch
      simp (disch := omega) only [li_0, li_1, li_2, li_3, li_4, li_5, li_6, li_7, li_8, li_9, li_10, li_16, li_17, li_20, li_24, li_34, li_40, li_50, li_60, li_68, li_85, li_200, li_9999, nI_add, nI_clamp, vpT, nI_leI, nI_ltI, nI_eq, irem_nI, true_and, and_true, forall_eq, not_true_eq_false, not_false_eq_true, forall_const, false_and, and_false, false_imp_iff, true_imp_iff, imp_self, e2, e3]
      split
      · rename_i c
        rw [if_pos c] at same ch
        refine ⟨fun q => absurd q (by decide), fun _ => ⟨fun q2 => same (by rw [if_neg (by omega)]), fun q2 => ch _ hnx (by rw [if_pos (by omega)])⟩⟩
      · rename_i c
        rw [if_neg c] at same
        exact ⟨fun _ => same (by split <;> rfl), fun q => absurd rfl q⟩
    · rw [if_neg (by omega), if_neg (by omega), if_pos q] at same ch
      simp (disch := omega) only [li_0, li_1, li_2, li_3, li_4, li_5, li_6, li_7, li_8, li_9, li_10, li_16, li_17, li_20, li_24, li_34, li_40, li_50, li_60, li_68, li_85, li_200, li_9999, nI_add, nI_clamp, vpT, nI_leI, nI_ltI, nI_eq, irem_nI, true_and, and_true, forall_eq, not_true_eq_false, not_false_eq_true, forall_const, false_and, and_false, false_imp_iff, true_imp_iff, imp_self, e4]
      split
      · rename_i c
        rw [if_pos c] at same ch
        refine ⟨fun q => absurd q (by decide), fun _ => ⟨fun q2 => same (by rw [if_neg (by omega)]), fun q2 => ch _ hnx (by rw [if_pos (by omega)])⟩⟩
      · rename_i c
        rw [if_neg c] at same
        exact ⟨fun _ => same (by split <;> rfl), fun q => absurd rfl q⟩
    · rw [if_neg (by omega), if_neg (by omega), if_neg (by omega), if_pos q, if_neg (by omega)]
    · rw [if_neg (by omega), if_neg (by omega), if_neg (by omega), if_pos q, if_pos q2] at same ch
      split
      · rename_i c
        rw [if_pos c] at ch
        exact ⟨fun q => absurd q (by decide), fun _ => ch _ hpv rfl⟩
      · rename_i c
        rw [if_neg c] at same
        exact ⟨fun _ => same rfl, fun q => absurd rfl q⟩
    · rw [if_neg (by omega), if_neg (by omega), if_neg (by omega), if_neg (by omega)]
  have mid : BX8_turns (d + 1) 23 [(0, .ref 49), (1, .int (nI r)), (2, .int (nI s)), (3, .int (nI n))] [.int (nI (nxS n s))] M Q := by
    apply rX8_turns_23
    unfold pvS at last
    simp (disch := omega) only [li_0, li_1, li_2, li_3, li_4, li_5, li_6, li_7, li_8, li_9, li_10, li_16, li_17, li_20, li_24, li_34, li_40, li_50, li_60, li_68, li_85, li_200, li_9999, nI_add, nI_clamp, vpT, nI_leI, nI_ltI, nI_eq, irem_nI, true_and, and_true, forall_eq, not_true_eq_false, not_false_eq_true, forall_const, false_and, and_false, false_imp_iff, true_imp_iff, imp_self]
    refine ⟨fun q => ?_, fun q => ?_⟩
    · rw [pk_sub (by omega)]
      rw [if_pos (by omega)] at last
      exact last
    · rw [pk_sub (by omega)]
      rw [if_neg (by omega)] at last
      subst q
      exact last
  apply rX8_turns
  unfold nxS at mid
  have e0 : M 50 r = nI n := hR.1
  simp (disch := omega) only [li_0, li_1, li_2, li_3, li_4, li_5, li_6, li_7, li_8, li_9, li_10, li_16, li_17, li_20, li_24, li_34, li_40, li_50, li_60, li_68, li_85, li_200, li_9999, nI_add, nI_clamp, vpT, nI_leI, nI_ltI, nI_eq, irem_nI, true_and, and_true, forall_eq, not_true_eq_false, not_false_eq_true, forall_const, false_and, and_false, false_imp_iff, true_imp_iff, imp_self, e0, Nat.add_zero]
  rw [pk_sub (by omega)]
  simp (disch := omega) only [nI_eq]
  refine ⟨fun q => ?_, fun q => ?_⟩
  · rw [if_pos (by omega)] at mid
    exact mid
  · rw [if_neg (by omega)] at mid
    exact mid
theorem c8_matLoop (d r n : Nat) (kd : Nat → Nat) (stp ngt : Nat) (Q : Int32 → Mm → Prop) (hr : inW r) (hk : okK n kd) (h7 : n ≤ 7) : ∀ (k : Nat) (M : Mm) (th : Nat → Nat), k ≤ n → RgM M r n kd th stp ngt → okT n th →
    (∀ M', RgM M' r n kd (matsS n kd k th) stp ngt → keepM M M' r n → Q 0 M') → BX8_stepsBy (d + 1) 68 [(0, .ref 49), (1, .int (nI r)), (3, .int (nI (n - k)))] [] M Q
  | 0, M, th, _, hR, ht, h => by
    apply rX8_stepsBy_68
    have hr2 : r + 17 ≤ 301 := hr
    have e0 : M 50 r = nI n := hR.1
    simp (disch := omega) only [li_0, li_1, li_2, li_3, li_4, li_5, li_6, li_7, li_8, li_9, li_10, li_16, li_17, li_20, li_24, li_34, li_40, li_50, li_60, li_68, li_85, li_200, li_9999, nI_add, nI_clamp, vpT, nI_leI, nI_ltI, nI_eq, irem_nI, true_and, and_true, forall_eq, not_true_eq_false, not_false_eq_true, forall_const, false_and, and_false, false_imp_iff, true_imp_iff, imp_self, e0, Nat.add_zero]
    refine ⟨fun _ => h M hR keepM_rf, fun q => by omega⟩
  | k + 1, M, th, hkn, hR, ht, h => by
    apply rX8_stepsBy_68
    have hr2 : r + 17 ≤ 301 := hr
    have hs : n - (k + 1) < n := by omega
    have e0 : M 50 r = nI n := hR.1
    have e1 : M 50 (r + 10 + (n - (k + 1))) = nI (kd (n - (k + 1))) := hR.2.2.2.2 _ hs
    have e2 : M 50 (r + 3 + (n - (k + 1))) = nI (th (n - (k + 1))) := hR.2.2.2.1 _ hs
    have hk1 := hk _ hs
    have ht1 := ht _ hs
    have hn1 : n - (k + 1) + 1 = n - k := by omega
    simp (disch := omega) only [li_0, li_1, li_2, li_3, li_4, li_5, li_6, li_7, li_8, li_9, li_10, li_16, li_17, li_20, li_24, li_34, li_40, li_50, li_60, li_68, li_85, li_200, li_9999, nI_add, nI_clamp, vpT, nI_leI, nI_ltI, nI_eq, irem_nI, true_and, and_true, forall_eq, not_true_eq_false, not_false_eq_true, forall_const, false_and, and_false, false_imp_iff, true_imp_iff, imp_self, e0, e1, e2, Nat.add_zero, hn1]
    have go : ∀ M1, RgM M1 r n kd (matS n kd th (n - (k + 1))) stp ngt → keepM M M1 r n → BX8_stepsBy (d + 1) 68 [(0, .ref 49), (1, .int (nI r)), (3, .int (nI (n - k)))] [] M1 Q := fun M1 h1 h2 =>
      c8_matLoop d r n kd stp ngt Q hr hk h7 k M1 _ (by omega) h1 (okT_mat ht hs) (fun M' g1 g2 => h M' g1 (keepM_tr h2 g2))
    unfold matS at go
    refine ⟨fun q => by omega, fun q => ⟨fun q2 => go M ?_ keepM_rf, fun q2 => ?_⟩⟩
    · rw [if_neg (by omega)]; exact hR
    · refine c8_inI d (nI (th (n - (k + 1)))) 1 (nI n) M _ ?_
      rw [show ((1 : Int32)) = nI 1 from rfl]
      simp (disch := omega) only [nI_leI]
      by_cases c : 1 ≤ th (n - (k + 1)) ∧ th (n - (k + 1)) ≤ n
      · rw [if_pos c]
        refine ⟨fun q => absurd q (by decide), fun _ => ?_⟩
        rw [pk_sub (by omega)]
        simp (disch := omega) only [nI_eq]
        refine ⟨fun q3 => go M ?_ keepM_rf, fun q3 => ?_⟩
        · rw [if_pos ⟨q2, c⟩, q3]
          have : swp th (n - (k + 1)) (n - (k + 1)) = th := by
            funext i
            unfold swp
            by_cases z : i = n - (k + 1)
            · rw [if_pos z, z]
            · rw [if_neg z, if_neg z]
          rw [this]; exact hR
        · refine c8_changes d r n _ _ kd th stp ngt M _ hR hr h7 hs (by omega) (fun M' g1 g2 => go M' ?_ g2)
          rw [if_pos ⟨q2, c⟩]
          exact g1
      · rw [if_neg c]
        refine ⟨fun _ => go M ?_ keepM_rf, fun q => absurd rfl q⟩
        rw [if_neg (fun z => c z.2)]; exact hR
theorem c8_stepLoop (d r n : Nat) (kd : Nat → Nat) (stp ngt asl : Nat) (Q : Int32 → Mm → Prop) (hr : inW r) (hk : okK n kd) (h7 : n ≤ 7) (hstp : stp < 2 ^ 30) (hn : 1 ≤ ngt ∧ ngt ≤ 9) (hasl : asl < 128) : ∀ (k : Nat) (M : Mm) (th : Nat → Nat), k ≤ n → RgM M r n kd th stp ngt → okT n th →
    (∀ M', RgM M' r n kd (if (stp + 1) % ngt = 0 then matsS n kd n (turnsS n kd stp asl k th) else turnsS n kd stp asl k th) (stp + 1) ngt → keepM M M' r n → Q 0 M') → BX8_stepsBy (d + 2) 2 [(0, .ref 49), (1, .int (nI r)), (2, .int (nI asl)), (3, .int (nI (n - k)))] [] M Q
  | 0, M, th, _, hR, ht, h => by
    apply rX8_stepsBy_2
    have hr2 : r + 17 ≤ 301 := hr
    have e0 : M 50 r = nI n := hR.1
    have e2 : M 50 (r + 2) = nI stp := hR.2.2.1
    have e1 : M 50 (r + 1) = nI ngt := hR.2.1
    simp (disch := omega) only [li_0, li_1, li_2, li_3, li_4, li_5, li_6, li_7, li_8, li_9, li_10, li_16, li_17, li_20, li_24, li_34, li_40, li_50, li_60, li_68, li_85, li_200, li_9999, nI_add, nI_clamp, vpT, nI_leI, nI_ltI, nI_eq, irem_nI, true_and, and_true, forall_eq, not_true_eq_false, not_false_eq_true, forall_const, false_and, and_false, false_imp_iff, true_imp_iff, imp_self, e0, e2, Nat.add_zero]
    refine ⟨fun _ => ?_, fun q => by omega⟩
    have hR2 : RgM (upd2 M 50 (r + 2) (nI (stp + 1))) r n kd th (stp + 1) ngt := by
      obtain ⟨g1, g2, g3, g4, g5⟩ := hR
      exact ⟨by rw [upd2_row (by omega)]; exact g1, by rw [upd2_row (by omega)]; exact g2, upd2_at, fun i hi => by rw [upd2_row (by omega)]; exact g4 i hi, fun i hi => by rw [upd2_row (by omega)]; exact g5 i hi⟩
    have hk2 : keepM M (upd2 M 50 (r + 2) (nI (stp + 1))) r n := ⟨fun k hk => upd2_off hk, fun i hi => upd2_row (by omega)⟩
    have hm : (stp + 1) % ngt < ngt := Nat.mod_lt _ (by omega)
    rw [upd2_at, upd2_row (by omega), e1]
    simp (disch := omega) only [li_0, li_1, li_2, li_3, li_4, li_5, li_6, li_7, li_8, li_9, li_10, li_16, li_17, li_20, li_24, li_34, li_40, li_50, li_60, li_68, li_85, li_200, li_9999, nI_add, nI_clamp, vpT, nI_leI, nI_ltI, nI_eq, irem_nI, true_and, and_true, forall_eq, not_true_eq_false, not_false_eq_true, forall_const, false_and, and_false, false_imp_iff, true_imp_iff, imp_self]
    refine ⟨by omega, fun q => ?_, fun q => ?_⟩
    · rw [if_neg q] at h
      exact h _ hR2 hk2
    · rw [if_pos q] at h
      have := c8_matLoop (d + 1) r n kd (stp + 1) ngt Q hr hk h7 n _ th (Nat.le_refl n) hR2 ht (fun M' g1 g2 => h M' g1 (keepM_tr hk2 g2))
      rw [Nat.sub_self] at this
      exact this
  | k + 1, M, th, hkn, hR, ht, h => by
    apply rX8_stepsBy_2
    have hr2 : r + 17 ≤ 301 := hr
    have hs : n - (k + 1) < n := by omega
    have e0 : M 50 r = nI n := hR.1
    have hn1 : n - (k + 1) + 1 = n - k := by omega
    simp (disch := omega) only [li_0, li_1, li_2, li_3, li_4, li_5, li_6, li_7, li_8, li_9, li_10, li_16, li_17, li_20, li_24, li_34, li_40, li_50, li_60, li_68, li_85, li_200, li_9999, nI_add, nI_clamp, vpT, nI_leI, nI_ltI, nI_eq, irem_nI, true_and, and_true, forall_eq, not_true_eq_false, not_false_eq_true, forall_const, false_and, and_false, false_imp_iff, true_imp_iff, imp_self, e0, Nat.add_zero, hn1]
    refine ⟨fun q => by omega, fun _ => ?_⟩
    refine c8_has (d + 1) asl _ M _ (by omega) (by omega) ?_
    by_cases c : asl.testBit (n - (k + 1)) = true
    · rw [if_pos c]
      refine ⟨fun _ => ?_, fun q => absurd q (by decide)⟩
      refine c8_stepLoop d r n kd stp ngt asl Q hr hk h7 hstp hn hasl k M th (by omega) hR ht (fun M' g1 g2 => h M' ?_ g2)
      rw [turnsS, if_pos c]
      exact g1
    · rw [if_neg c]
      refine ⟨fun q => absurd rfl q, fun _ => ?_⟩
      refine c8_turns d r n _ kd th stp ngt M _ hR hr hk ht h7 hstp hs (fun M1 h1 h2 => ?_)
      refine c8_stepLoop d r n kd stp ngt asl Q hr hk h7 hstp hn hasl k M1 _ (by omega) h1 (okT_turn ht hs) (fun M' g1 g2 => h M' ?_ (keepM_tr h2 g2))
      rw [turnsS, if_neg c]
      exact g1
theorem c8_stepsBy (d r n : Nat) (kd th : Nat → Nat) (stp ngt asl : Nat) (M : Mm) (Q : Int32 → Mm → Prop) (hR : RgM M r n kd th stp ngt) (hr : inW r) (hk : okK n kd) (ht : okT n th) (h7 : n ≤ 7) (hstp : stp < 2 ^ 30) (hn : 1 ≤ ngt ∧ ngt ≤ 9) (hasl : asl < 128)
    (h : ∀ M', RgM M' r n kd (stepS n kd ngt stp asl th) (stp + 1) ngt → keepM M M' r n → Q 0 M') : kX8_stepsBy (d + 2) (nI r) (nI asl) M Q := by
  apply rX8_stepsBy
  have := c8_stepLoop d r n kd stp ngt asl Q hr hk h7 hstp hn hasl n M th (Nat.le_refl n) hR ht h
  rw [Nat.sub_self] at this
  exact this
