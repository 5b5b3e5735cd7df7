/-! COUNT, FEED, DROP, SET -/
def cnt0 (th : Nat → Nat) : Nat → Nat
  | 0 => 0
  | k + 1 => cnt0 th k + (if th k = 0 then 1 else 0)
theorem fig_lt {n : Nat} {th : Nat → Nat} (h : okT n th) : ∀ k, k ≤ n → fig th k < 10 ^ k
  | 0, _ => by show 0 < 1; decide
  | k + 1, hk => by
    have := fig_lt h k (by omega)
    have := h k (by omega)
    rw [fig, Nat.pow_succ]
    omega
theorem fig_lt7 {n : Nat} {th : Nat → Nat} (h : okT n th) (h7 : n ≤ 7) : fig th n < 10 ^ 7 := Nat.lt_of_lt_of_le (fig_lt h n (Nat.le_refl n)) (Nat.pow_le_pow_right (by omega) h7)
theorem cnt0_le (th : Nat → Nat) : ∀ k, cnt0 th k ≤ k
  | 0 => Nat.le_refl 0
  | k + 1 => by
    have := cnt0_le th k
    rw [cnt0]
    split <;> omega
theorem c4_figLoop (d o : Nat) (ho : isRg o) (n : Nat) (kd th : Nat → Nat) (stp ngt : Nat) (M : Mm) (Q : Int32 → Mm → Prop) (hR : RgC M o n kd th stp ngt) (h7 : n ≤ 7) (h : Q (nI (fig th n)) M) : ∀ k, k ≤ n → BX4_figures d 4 [(0, .ref o), (1, .int (nI (fig th (n - k)))), (2, .int (nI (n - k)))] [] M Q
  | 0, _ => by
    apply rX4_figures_4 _ _ ho
    rw [hR.1]
    simp (disch := omega) only [li_0, li_1, li_2, li_3, li_4, li_5, li_6, li_7, li_8, li_9, li_10, li_16, li_17, li_20, li_24, li_34, li_40, li_50, li_60, li_68, li_85, li_200, li_9999, nI_add, nI_clamp, vpT, nI_leI, nI_ltI, nI_eq, irem_nI, true_and, and_true, forall_eq, not_true_eq_false, not_false_eq_true, forall_const, false_and, and_false, false_imp_iff, true_imp_iff, imp_self]
    exact ⟨fun _ => h, fun q => by omega⟩
  | k + 1, hk => by
    apply rX4_figures_4 _ _ ho
    have hs : n - (k + 1) < n := by omega
    have e2 : M (o + 2) (n - (k + 1)) = nI (th (n - (k + 1))) := hR.2.2.2.2 _ hs
    have e : n - (k + 1) + 1 = n - k := by omega
    rw [hR.1]
    simp (disch := omega) only [li_0, li_1, li_2, li_3, li_4, li_5, li_6, li_7, li_8, li_9, li_10, li_16, li_17, li_20, li_24, li_34, li_40, li_50, li_60, li_68, li_85, li_200, li_9999, nI_add, nI_clamp, vpT, nI_leI, nI_ltI, nI_eq, irem_nI, true_and, and_true, forall_eq, not_true_eq_false, not_false_eq_true, forall_const, false_and, and_false, false_imp_iff, true_imp_iff, imp_self, e2, e, pk_mul]
    have := c4_figLoop d o ho n kd th stp ngt M Q hR h7 h k (by omega)
    rw [← e, fig, e] at this
    exact ⟨fun q => by omega, fun _ => this⟩
theorem c4_figures (d o : Nat) (ho : isRg o) (n : Nat) (kd th : Nat → Nat) (stp ngt : Nat) (M : Mm) (Q : Int32 → Mm → Prop) (hR : RgC M o n kd th stp ngt) (h7 : n ≤ 7) (h : Q (nI (fig th n)) M) : kX4_figures d o M Q := by
  apply rX4_figures _ _ ho
  have := c4_figLoop d o ho n kd th stp ngt M Q hR h7 h n (Nat.le_refl n)
  rw [Nat.sub_self] at this
  exact this
theorem c8_figLoop (d r n : Nat) (kd th : Nat → Nat) (stp ngt : Nat) (M : Mm) (Q : Int32 → Mm → Prop) (hR : RgM M r n kd th stp ngt) (hr : inW r) (h7 : n ≤ 7) (h : Q (nI (fig th n)) M) : ∀ k, k ≤ n → BX8_figures d 4 [(0, .ref 49), (1, .int (nI r)), (2, .int (nI (fig th (n - k)))), (3, .int (nI (n - k)))] [] M Q
  | 0, _ => by
    apply rX8_figures_4
    have hr2 : r + 17 ≤ 301 := hr
    have e0 : M 50 r = nI n := hR.1
    simp (disch := omega) only [li_0, li_1, li_2, li_3, li_4, li_5, li_6, li_7, li_8, li_9, li_10, li_16, li_17, li_20, li_24, li_34, li_40, li_50, li_60, li_68, li_85, li_200, li_9999, nI_add, nI_clamp, vpT, nI_leI, nI_ltI, nI_eq, irem_nI, true_and, and_true, forall_eq, not_true_eq_false, not_false_eq_true, forall_const, false_and, and_false, false_imp_iff, true_imp_iff, imp_self, e0, Nat.add_zero]
    exact ⟨fun _ => h, fun q => by omega⟩
  | k + 1, hk => by
    apply rX8_figures_4
    have hr2 : r + 17 ≤ 301 := hr
    have hs : n - (k + 1) < n := by omega
    have e0 : M 50 r = nI n := hR.1
    have e2 : M 50 (r + 3 + (n - (k + 1))) = nI (th (n - (k + 1))) := hR.2.2.2.1 _ hs
    have e : n - (k + 1) + 1 = n - k := by omega
    simp (disch := omega) only [li_0, li_1, li_2, li_3, li_4, li_5, li_6, li_7, li_8, li_9, li_10, li_16, li_17, li_20, li_24, li_34, li_40, li_50, li_60, li_68, li_85, li_200, li_9999, nI_add, nI_clamp, vpT, nI_leI, nI_ltI, nI_eq, irem_nI, true_and, and_true, forall_eq, not_true_eq_false, not_false_eq_true, forall_const, false_and, and_false, false_imp_iff, true_imp_iff, imp_self, e0, e2, e, pk_mul, Nat.add_zero]
    have := c8_figLoop d r n kd th stp ngt M Q hR hr h7 h k (by omega)
    rw [← e, fig, e] at this
    exact ⟨fun q => by omega, fun _ => this⟩
theorem c8_figures (d r n : Nat) (kd th : Nat → Nat) (stp ngt : Nat) (M : Mm) (Q : Int32 → Mm → Prop) (hR : RgM M r n kd th stp ngt) (hr : inW r) (h7 : n ≤ 7) (h : Q (nI (fig th n)) M) : kX8_figures d (nI r) M Q := by
  apply rX8_figures
  have := c8_figLoop d r n kd th stp ngt M Q hR hr h7 h n (Nat.le_refl n)
  rw [Nat.sub_self] at this
  exact this
theorem c4_noneLoop (d o : Nat) (ho : isRg o) (n : Nat) (kd th : Nat → Nat) (stp ngt : Nat) (M : Mm) (Q : Int32 → Mm → Prop) (hR : RgC M o n kd th stp ngt) (ht : okT n th) (h7 : n ≤ 7) (h : Q (nI (cnt0 th n)) M) : ∀ k, k ≤ n → BX4_withNone d 4 [(0, .ref o), (1, .int (nI (cnt0 th (n - k)))), (2, .int (nI (n - k)))] [] M Q
  | 0, _ => by
    apply rX4_withNone_4 _ _ ho
    rw [hR.1]
    simp (disch := omega) only [li_0, li_1, li_2, li_3, li_4, li_5, li_6, li_7, li_8, li_9, li_10, li_16, li_17, li_20, li_24, li_34, li_40, li_50, li_60, li_68, li_85, li_200, li_9999, nI_add, nI_clamp, vpT, nI_leI, nI_ltI, nI_eq, irem_nI, true_and, and_true, forall_eq, not_true_eq_false, not_false_eq_true, forall_const, false_and, and_false, false_imp_iff, true_imp_iff, imp_self]
    exact ⟨fun _ => h, fun q => by omega⟩
  | k + 1, hk => by
    apply rX4_withNone_4 _ _ ho
    have hs : n - (k + 1) < n := by omega
    have e2 : M (o + 2) (n - (k + 1)) = nI (th (n - (k + 1))) := hR.2.2.2.2 _ hs
    have ht1 := ht _ hs
    have e : n - (k + 1) + 1 = n - k := by omega
    rw [hR.1]
    simp (disch := omega) only [li_0, li_1, li_2, li_3, li_4, li_5, li_6, li_7, li_8, li_9, li_10, li_16, li_17, li_20, li_24, li_34, li_40, li_50, li_60, li_68, li_85, li_200, li_9999, nI_add, nI_clamp, vpT, nI_leI, nI_ltI, nI_eq, irem_nI, true_and, and_true, forall_eq, not_true_eq_false, not_false_eq_true, forall_const, false_and, and_false, false_imp_iff, true_imp_iff, imp_self, e2, e]
    have := c4_noneLoop d o ho n kd th stp ngt M Q hR ht h7 h k (by omega)
    rw [← e, cnt0, e] at this
    refine ⟨fun q => by omega, fun _ => ⟨fun q => ?_, fun q => ?_⟩⟩
    · rw [if_neg q] at this; exact this
    · rw [if_pos q] at this; exact this
theorem c4_withNone (d o : Nat) (ho : isRg o) (n : Nat) (kd th : Nat → Nat) (stp ngt : Nat) (M : Mm) (Q : Int32 → Mm → Prop) (hR : RgC M o n kd th stp ngt) (ht : okT n th) (h7 : n ≤ 7) (h : Q (nI (cnt0 th n)) M) : kX4_withNone d o M Q := by
  apply rX4_withNone _ _ ho
  have := c4_noneLoop d o ho n kd th stp ngt M Q hR ht h7 h n (Nat.le_refl n)
  rw [Nat.sub_self] at this
  exact this
theorem c8_noneLoop (d n : Nat) (kd th : Nat → Nat) (stp ngt : Nat) (M : Mm) (Q : Int32 → Mm → Prop) (hR : RgM M 0 n kd th stp ngt) (ht : okT n th) (h7 : n ≤ 7) (h : Q (nI (cnt0 th n)) M) : ∀ k, k ≤ n → BX8_noneOf d 4 [(0, .ref 49), (1, .int (nI (cnt0 th (n - k)))), (2, .int (nI (n - k)))] [] M Q
  | 0, _ => by
    apply rX8_noneOf_4
    have e0 : M 50 0 = nI n := hR.1
    simp (disch := omega) only [li_0, li_1, li_2, li_3, li_4, li_5, li_6, li_7, li_8, li_9, li_10, li_16, li_17, li_20, li_24, li_34, li_40, li_50, li_60, li_68, li_85, li_200, li_9999, nI_add, nI_clamp, vpT, nI_leI, nI_ltI, nI_eq, irem_nI, true_and, and_true, forall_eq, not_true_eq_false, not_false_eq_true, forall_const, false_and, and_false, false_imp_iff, true_imp_iff, imp_self, e0]
    exact ⟨fun _ => h, fun q => by omega⟩
  | k + 1, hk => by
    apply rX8_noneOf_4
    have hs : n - (k + 1) < n := by omega
    have e0 : M 50 0 = nI n := hR.1
    have e2 : M 50 (0 + 3 + (n - (k + 1))) = nI (th (n - (k + 1))) := hR.2.2.2.1 _ hs
    rw [Nat.zero_add] at e2
    have ht1 := ht _ hs
    have e : n - (k + 1) + 1 = n - k := by omega
    simp (disch := omega) only [li_0, li_1, li_2, li_3, li_4, li_5, li_6, li_7, li_8, li_9, li_10, li_16, li_17, li_20, li_24, li_34, li_40, li_50, li_60, li_68, li_85, li_200, li_9999, nI_add, nI_clamp, vpT, nI_leI, nI_ltI, nI_eq, irem_nI, true_and, and_true, forall_eq, not_true_eq_false, not_false_eq_true, forall_const, false_and, and_false, false_imp_iff, true_imp_iff, imp_self, e0, e2, e, Nat.add_zero]
    have := c8_noneLoop d n kd th stp ngt M Q hR ht h7 h k (by omega)
    rw [← e, cnt0, e] at this
    refine ⟨fun q => by omega, fun _ => ⟨fun q => ?_, fun q => ?_⟩⟩
    · rw [if_neg q] at this; exact this
    · rw [if_pos q] at this; exact this
theorem c8_noneOf (d n : Nat) (kd th : Nat → Nat) (stp ngt : Nat) (M : Mm) (Q : Int32 → Mm → Prop) (hR : RgM M 0 n kd th stp ngt) (ht : okT n th) (h7 : n ≤ 7) (h : Q (nI (cnt0 th n)) M) : kX8_noneOf d M Q := by
  apply rX8_noneOf
  have := c8_noneLoop d n kd th stp ngt M Q hR ht h7 h n (Nat.le_refl n)
  rw [Nat.sub_self] at this
  exact this
/-- a row is missing, or it isn't: both know -/
theorem miss {M : Mm} {j : Nat} (h : I_row M j) : (M (2 + 2 * j) 1 = -1 ∧ M 52 j = -1) ∨ (0 ≤ M (2 + 2 * j) 1 ∧ 0 ≤ M 52 j ∧ ¬ M 52 j < 0) := by
  rcases h with h | ⟨ln, sz, q1, q2, q3, q4, q5, q6, q7⟩
  · exact Or.inl h
  · refine Or.inr ⟨by rw [q3]; exact nI_pos' (by omega), by rw [q5]; exact nI_pos' (by omega), by rw [q5]; exact nI_pos (by omega)⟩
theorem c5_my (d j : Nat) (hj : j < 8) (M : Mm) (Q : Int32 → Mm → Prop) (hm : M (2 + 2 * j) 1 = -1) (h : Q 1 M) : kX5_isMissing d (2 + 2 * j) M Q := by
  apply rX5_isMissing _ _ (isSh_of hj)
  rw [hm]
  exact ⟨fun q => absurd q (by decide), fun _ => h⟩
theorem c5_mn (d j : Nat) (hj : j < 8) (M : Mm) (Q : Int32 → Mm → Prop) (hm : 0 ≤ M (2 + 2 * j) 1) (h : Q 0 M) : kX5_isMissing d (2 + 2 * j) M Q := by
  apply rX5_isMissing _ _ (isSh_of hj)
  exact ⟨fun _ => h, fun q => absurd hm q⟩
def cntR (M : Mm) : Nat → Nat
  | 0 => 0
  | k + 1 => cntR M k + (if M 52 k = -1 then 0 else 1)
theorem c7_rowsLoop (d : Nat) (M : Mm) (hI : I_rows M) (Q : Int32 → Mm → Prop) (h : Q (nI (cntR M 8)) M) : ∀ k, k ≤ 8 → BX7_rowsThere (d + 1) 4 [(0, .ref 0), (1, .int (nI (cntR M (8 - k)))), (2, .int (nI (8 - k)))] [] M Q
  | 0, _ => by
    apply rX7_rowsThere_4
    simp (disch := omega) only [li_0, li_1, li_2, li_3, li_4, li_5, li_6, li_7, li_8, li_9, li_10, li_16, li_17, li_20, li_24, li_34, li_40, li_50, li_60, li_68, li_85, li_200, li_9999, nI_add, nI_clamp, vpT, nI_leI, nI_ltI, nI_eq, irem_nI, true_and, and_true, forall_eq, not_true_eq_false, not_false_eq_true, forall_const, false_and, and_false, false_imp_iff, true_imp_iff, imp_self]
    exact ⟨fun _ => h, fun q => by omega⟩
  | k + 1, hk => by
    apply rX7_rowsThere_4
    have hs : 8 - (k + 1) < 8 := by omega
    have e : 8 - (k + 1) + 1 = 8 - k := by omega
    simp (disch := omega) only [li_0, li_1, li_2, li_3, li_4, li_5, li_6, li_7, li_8, li_9, li_10, li_16, li_17, li_20, li_24, li_34, li_40, li_50, li_60, li_68, li_85, li_200, li_9999, nI_add, nI_clamp, vpT, nI_leI, nI_ltI, nI_eq, irem_nI, true_and, and_true, forall_eq, not_true_eq_false, not_false_eq_true, forall_const, false_and, and_false, false_imp_iff, true_imp_iff, imp_self, e]
    have this := c7_rowsLoop d M hI Q h k (by omega)
    rw [← e, cntR, e] at this
    refine ⟨fun q => by omega, fun _ => ?_⟩
    rw [sh_nI hs]
    rcases miss (hI _ hs) with ⟨g1, g2⟩ | ⟨g1, g2, g3⟩
    · rw [if_pos g2] at this
      exact c5_my d _ hs M _ g1 ⟨fun _ => this, fun q => absurd q (by decide)⟩
    · rw [if_neg (fun z => by rw [z] at g2; exact absurd g2 (by decide))] at this
      exact c5_mn d _ hs M _ g1 ⟨fun q => absurd rfl q, fun _ => this⟩
theorem c8_rowsLoop (d : Nat) (M : Mm) (hI : I_rows M) (Q : Int32 → Mm → Prop) (h : Q (nI (cntR M 8)) M) : ∀ k, k ≤ 8 → BX8_rowsThere d 4 [(0, .ref 49), (1, .int (nI (cntR M (8 - k)))), (2, .int (nI (8 - k)))] [] M Q
  | 0, _ => by
    apply rX8_rowsThere_4
    simp (disch := omega) only [li_0, li_1, li_2, li_3, li_4, li_5, li_6, li_7, li_8, li_9, li_10, li_16, li_17, li_20, li_24, li_34, li_40, li_50, li_60, li_68, li_85, li_200, li_9999, nI_add, nI_clamp, vpT, nI_leI, nI_ltI, nI_eq, irem_nI, true_and, and_true, forall_eq, not_true_eq_false, not_false_eq_true, forall_const, false_and, and_false, false_imp_iff, true_imp_iff, imp_self]
    exact ⟨fun _ => h, fun q => by omega⟩
  | k + 1, hk => by
    apply rX8_rowsThere_4
    have hs : 8 - (k + 1) < 8 := by omega
    have e : 8 - (k + 1) + 1 = 8 - k := by omega
    have hl : ∀ x : Int32, (x < nI 0) = (x < 0) := fun _ => rfl
    simp (disch := omega) only [li_0, li_1, li_2, li_3, li_4, li_5, li_6, li_7, li_8, li_9, li_10, li_16, li_17, li_20, li_24, li_34, li_40, li_50, li_60, li_68, li_85, li_200, li_9999, nI_add, nI_clamp, vpT, nI_leI, nI_ltI, nI_eq, irem_nI, true_and, and_true, forall_eq, not_true_eq_false, not_false_eq_true, forall_const, false_and, and_false, false_imp_iff, true_imp_iff, imp_self, e, hl, Nat.add_zero]
    have this := c8_rowsLoop d M hI Q h k (by omega)
    rw [← e, cntR, e] at this
    refine ⟨fun q => by omega, fun _ => ?_⟩
    rcases miss (hI _ hs) with ⟨g1, g2⟩ | ⟨g1, g2, g3⟩
    · rw [if_pos g2] at this
      exact ⟨fun _ => this, fun q => absurd (by rw [g2]; decide) q⟩
    · rw [if_neg (fun z => by rw [z] at g2; exact absurd g2 (by decide))] at this
      exact ⟨fun q => absurd q g3, fun _ => this⟩
theorem L_count (v1 : Int32) (M : Mm) (hI : Inv M) : kX7_count 40 v1 M (fun r1 M1 => kX8_count 40 v1 M1 (fun r2 M2 => r1 = r2 ∧ Inv M2)) := by
  obtain ⟨n, kd, th, stp, ngt, hC, hM, hok, na, A, ⟨old, -, -, a1, -⟩, ⟨a2, -⟩, -⟩ := hI.2.2.1
  obtain ⟨⟨tz, -, t1, t2, -⟩, -⟩ := hI.2.1
  have h7 := okR_7 hok
  apply rX7_count
  refine ⟨?_, ?_, ?_, ?_, ?_, ?_, ?_, ?_, ?_⟩
  · rintro rfl
    apply rX7_rowsThere
    refine c7_rowsLoop 38 M hI.1 _ ?_ 8 (Nat.le_refl 8)
    apply rX8_count
    refine ⟨fun _ => ?_, fun q => absurd q (by decide), fun q => absurd q (by decide), fun q => absurd q (by decide), fun q => absurd q (by decide), fun q => absurd q (by decide), fun q => absurd q (by decide), fun q => absurd q (by decide), fun q => absurd rfl q.1⟩
    apply rX8_rowsThere
    exact c8_rowsLoop 39 M hI.1 _ ⟨rfl, hI⟩ 8 (Nat.le_refl 8)
  · rintro rfl
    apply rX8_count
    refine ⟨fun q => absurd q (by decide), fun _ => ⟨vp_in_nI (n := 0) (by omega) (by omega), ?_, hI⟩, fun q => absurd q (by decide), fun q => absurd q (by decide), fun q => absurd q (by decide), fun q => absurd q (by decide), fun q => absurd q (by decide), fun q => absurd q (by decide), fun q => absurd rfl q.2.1⟩
    exact hC.1.trans hM.1.symm
  · rintro rfl
    apply rX8_count
    refine ⟨fun q => absurd q (by decide), fun q => absurd q (by decide), fun _ => ⟨vp_in_nI (n := 2) (by omega) (by omega), ?_, hI⟩, fun q => absurd q (by decide), fun q => absurd q (by decide), fun q => absurd q (by decide), fun q => absurd q (by decide), fun q => absurd q (by decide), fun q => absurd rfl q.2.2.1⟩
    exact hC.2.1.trans hM.2.2.1.symm
  · rintro rfl
    apply rX8_count
    refine ⟨fun q => absurd q (by decide), fun q => absurd q (by decide), fun q => absurd q (by decide), fun _ => ⟨vp_in_nI (n := 1) (by omega) (by omega), ?_, hI⟩, fun q => absurd q (by decide), fun q => absurd q (by decide), fun q => absurd q (by decide), fun q => absurd q (by decide), fun q => absurd rfl q.2.2.2.1⟩
    exact hC.2.2.1.trans hM.2.1.symm
  · rintro rfl
    refine c4_figures _ 23 rg23 n kd th stp ngt M _ hC h7 ?_
    apply rX8_count
    refine ⟨fun q => absurd q (by decide), fun q => absurd q (by decide), fun q => absurd q (by decide), fun q => absurd q (by decide), fun _ => ?_, fun q => absurd q (by decide), fun q => absurd q (by decide), fun q => absurd q (by decide), fun q => absurd rfl q.2.2.2.2.1⟩
    exact c8_figures _ 0 n kd th stp ngt M _ hM inW0 h7 ⟨rfl, hI⟩
  · rintro rfl
    refine c4_withNone _ 23 rg23 n kd th stp ngt M _ hC (okR_T hok).1 h7 ?_
    apply rX8_count
    refine ⟨fun q => absurd q (by decide), fun q => absurd q (by decide), fun q => absurd q (by decide), fun q => absurd q (by decide), fun q => absurd q (by decide), fun _ => ?_, fun q => absurd q (by decide), fun q => absurd q (by decide), fun q => absurd rfl q.2.2.2.2.2.1⟩
    exact c8_noneOf _ n kd th stp ngt M _ hM (okR_T hok).1 h7 ⟨rfl, hI⟩
  · rintro rfl
    apply rX8_count
    exact ⟨fun q => absurd q (by decide), fun q => absurd q (by decide), fun q => absurd q (by decide), fun q => absurd q (by decide), fun q => absurd q (by decide), fun q => absurd q (by decide), fun _ => ⟨a1.trans a2.symm, hI⟩, fun q => absurd q (by decide), fun q => absurd rfl q.2.2.2.2.2.2.1⟩
  · rintro rfl
    apply rX8_count
    exact ⟨fun q => absurd q (by decide), fun q => absurd q (by decide), fun q => absurd q (by decide), fun q => absurd q (by decide), fun q => absurd q (by decide), fun q => absurd q (by decide), fun q => absurd q (by decide), fun _ => ⟨t1.trans t2.symm, hI⟩, fun q => absurd rfl q.2.2.2.2.2.2.2⟩
  · intro q
    apply rX8_count
    exact ⟨fun z => absurd z q.1, fun z => absurd z q.2.1, fun z => absurd z q.2.2.1, fun z => absurd z q.2.2.2.1, fun z => absurd z q.2.2.2.2.1, fun z => absurd z q.2.2.2.2.2.1, fun z => absurd z q.2.2.2.2.2.2.1, fun z => absurd z q.2.2.2.2.2.2.2, fun _ => ⟨rfl, hI⟩⟩
theorem L_feed (v1 : Int32) (M : Mm) (hI : Inv M) : kX7_feed 40 v1 M (fun r1 M1 => kX8_feed 40 v1 M1 (fun r2 M2 => r1 = r2 ∧ Inv M2)) := by
  obtain ⟨a, ⟨⟨tz, h50, t1, t2, t3⟩, b2, b3⟩, c, dd, e, f⟩ := id hI
  apply rX7_feed
  rcases pk_ix v1 (n := 256) (by omega) with h1 | h1 | ⟨j, hj, rfl⟩
  · refine ⟨fun _ => ?_, fun q => absurd h1 q⟩
    apply rX8_feed
    exact c8_n _ 255 v1 _ _ (by omega) (Or.inl h1) ⟨fun q => absurd rfl q, fun _ => ⟨rfl, hI⟩⟩
  · refine ⟨fun q => absurd q (big_pos h1 (by omega)), fun _ => ⟨fun q => absurd q (big_gt (m := 255) h1 (by omega) (by omega)), fun _ => ?_⟩⟩
    apply rX8_feed
    exact c8_n _ 255 v1 _ _ (by omega) (Or.inr h1) ⟨fun q => absurd rfl q, fun _ => ⟨rfl, hI⟩⟩
  · refine ⟨fun q => absurd q (nI_pos (by omega)), fun _ => ⟨fun _ => ?_, fun q => absurd (nI_le (a := j) (b := 255) (by omega) (by omega)) q⟩⟩
    have m8 : ∀ (M : Mm) (Q : Int32 → Mm → Prop), ((¬ (M 49 3) = 50 → vp_in (M 49 3) 50 ∧ (∀ M2, M2 = (upd2 M 51 (M 49 3).toNatClampNeg (nI j)) → (∀ M3, M3 = (upd2 M2 49 3 ((M2 49 3) + 1)) → Q (M3 49 3) M3))) ∧ ((M 49 3) = 50 → Q (-1000003) M)) → kX8_feed 40 (nI j) M Q := by
      intro M Q h
      apply rX8_feed
      exact c8_y _ j 255 _ _ (by omega) (by omega) ⟨fun _ => h, fun q => absurd q (by decide)⟩
    apply rX6_add
    rw [t1, li_50]
    simp (disch := omega) only [nI_eq]
    refine ⟨fun q => ⟨vp_in_nI (by omega) (by omega), ?_⟩, fun q => ⟨fun _ => m8 _ _ ?_, fun z => absurd trivial z⟩⟩
    · rintro M1 rfl M2 rfl
      refine ⟨fun z => absurd z (by decide), fun _ => m8 _ _ ?_⟩
      rw [nI_clamp (by omega)]
      have e1 : upd2 M 19 tz (nI j) 18 3 = nI tz := by rw [upd2_off (by omega)]; exact t1
      rw [e1]
      have e2 : (upd2 (upd2 M 19 tz (nI j)) 18 3 (nI tz + 1)) 49 3 = nI tz := by rw [upd2_off (by omega), upd2_off (by omega)]; exact t2
      rw [e2, li_50]
      simp (disch := omega) only [nI_eq]
      refine ⟨fun _ => ⟨vp_in_nI (by omega) (by omega), ?_⟩, fun z => absurd z q⟩
      rintro M3 rfl M4 rfl
      rw [nI_clamp (by omega)]
      have e3 : upd2 (upd2 (upd2 M 19 tz (nI j)) 18 3 (nI tz + 1)) 51 tz (nI j) 49 3 = nI tz := by rw [upd2_off (by omega)]; exact e2
      rw [e3]
      refine ⟨by rw [upd2_at, upd2_at], ?_⟩
      have r : ∀ k, k ≠ 18 → k ≠ 19 → k ≠ 49 → k ≠ 51 → upd2 (upd2 (upd2 (upd2 M 19 tz (nI j)) 18 3 (nI tz + 1)) 51 tz (nI j)) 49 3 (nI tz + 1) k = M k := fun k x1 x2 x3 x4 => by rw [upd2_off x3, upd2_off x4, upd2_off x1, upd2_off x2]
      have q49 : ∀ i, i ≠ 3 → upd2 (upd2 (upd2 (upd2 M 19 tz (nI j)) 18 3 (nI tz + 1)) 51 tz (nI j)) 49 3 (nI tz + 1) 49 i = M 49 i := fun i hi => by rw [upd2_row hi, upd2_off (by omega), upd2_off (by omega), upd2_off (by omega)]
      refine ⟨I_rows_c a (fun k x1 x2 => r k (by omega) (by omega) (by omega) (by omega)) (r 52 (by omega) (by omega) (by omega) (by omega)) (r 53 (by omega) (by omega) (by omega) (by omega)) (r 54 (by omega) (by omega) (by omega) (by omega)), ⟨⟨tz + 1, by omega, ?_, ?_, fun i hi => ?_⟩, ?_, by rw [r 20 (by omega) (by omega) (by omega) (by omega)]; exact b3⟩, I_ra_c c (r 23 (by omega) (by omega) (by omega) (by omega)) (r 24 (by omega) (by omega) (by omega) (by omega)) (r 25 (by omega) (by omega) (by omega) (by omega)) (r 36 (by omega) (by omega) (by omega) (by omega)) (r 37 (by omega) (by omega) (by omega) (by omega)) (r 38 (by omega) (by omega) (by omega) (by omega)) (r 39 (by omega) (by omega) (by omega) (by omega)) (q49 1 (by omega)) (fun i _ => by rw [r 50 (by omega) (by omega) (by omega) (by omega)]), I_img_c dd (fun k x1 x2 => r k (by omega) (by omega) (by omega) (by omega)) (fun i _ _ => by rw [r 50 (by omega) (by omega) (by omega) (by omega)]), ?_, I_trc_c f (by rw [r 46 (by omega) (by omega) (by omega) (by omega)]) (q49 22 (by omega)) (r 47 (by omega) (by omega) (by omega) (by omega)) (r 64 (by omega) (by omega) (by omega) (by omega))⟩
      · rw [upd2_off (by omega), upd2_off (by omega), upd2_at]; exact nI_1 tz
      · rw [upd2_at]; exact nI_1 tz
      · by_cases c : i = tz
        · subst c
          refine ⟨j, hj, ?_, ?_⟩
          · rw [upd2_off (by omega), upd2_off (by omega), upd2_off (by omega), upd2_at]
          · rw [upd2_off (by omega), upd2_at]
        · obtain ⟨x, y1, y2, y3⟩ := t3 i (by omega)
          refine ⟨x, y1, ?_, ?_⟩
          · rw [upd2_off (by omega), upd2_off (by omega), upd2_off (by omega), upd2_row c]; exact y2
          · rw [upd2_off (by omega), upd2_row c, upd2_off (by omega), upd2_off (by omega)]; exact y3
      · rw [q49 4 (by omega), upd2_off (by omega), upd2_off (by omega), upd2_row (by omega), upd2_off (by omega)]; exact b2
      · unfold I_fnd
        rw [q49 5 (by omega), r 0 (by omega) (by omega) (by omega) (by omega)]; exact e
    · rw [t2, li_50]
      simp (disch := omega) only [nI_eq]
      exact ⟨fun z => absurd q z, fun _ => ⟨trivial, hI⟩⟩
