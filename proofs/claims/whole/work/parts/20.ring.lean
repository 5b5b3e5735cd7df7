/-! RINGS: what a step does, in whole numbers; the class's Ring object and the reference's block of w hold the same -/
def swp (th : Nat → Nat) (a b : Nat) : Nat → Nat := fun i => if i = b then th a else if i = a then th b else th i
def letS (kd th : Nat → Nat) (s : Nat) : Prop := th s = 0 ∨ kd s < 4
def nxS (n s : Nat) : Nat := if s + 1 < n then s + 1 else 0
def pvS (n s : Nat) : Nat := if 0 < s then s - 1 else n - 1
def handS (kd th : Nat → Nat) (s o : Nat) : Nat → Nat := if th o = 0 ∨ kd o < 4 then swp th s o else th
def turnS (n : Nat) (kd : Nat → Nat) (stp : Nat) (th : Nat → Nat) (s : Nat) : Nat → Nat :=
  if kd s = 1 then handS kd th s (nxS n s)
  else if kd s = 2 then (if th (nxS n s) < th s then handS kd th s (nxS n s) else th)
  else if kd s = 3 then (if stp % 2 = 0 then handS kd th s (nxS n s) else th)
  else if kd s = 5 then (if th s = 0 then handS kd th s (pvS n s) else th)
  else th
def turnsS (n : Nat) (kd : Nat → Nat) (stp asl : Nat) : Nat → (Nat → Nat) → Nat → Nat
  | 0, th => th
  | k + 1, th => turnsS n kd stp asl k (if asl.testBit (n - (k + 1)) then th else turnS n kd stp th (n - (k + 1)))
def matS (n : Nat) (kd : Nat → Nat) (th : Nat → Nat) (s : Nat) : Nat → Nat := if kd s = 5 ∧ 1 ≤ th s ∧ th s ≤ n then swp th s (th s - 1) else th
def matsS (n : Nat) (kd : Nat → Nat) : Nat → (Nat → Nat) → Nat → Nat
  | 0, th => th
  | k + 1, th => matsS n kd k (matS n kd th (n - (k + 1)))
def stepS (n : Nat) (kd : Nat → Nat) (ngt stp asl : Nat) (th : Nat → Nat) : Nat → Nat :=
  if (stp + 1) % ngt = 0 then matsS n kd n (turnsS n kd stp asl n th) else turnsS n kd stp asl n th
/-- the class's Ring object o -/
def RgC (M : Mm) (o n : Nat) (kd th : Nat → Nat) (stp ngt : Nat) : Prop :=
  M o 2 = nI n ∧ M o 3 = nI stp ∧ M o 4 = nI ngt ∧ (∀ i, i < n → M (o + 1) i = nI (kd i)) ∧ ∀ i, i < n → M (o + 2) i = nI (th i)
/-- the reference's block at r -/
def RgM (M : Mm) (r n : Nat) (kd th : Nat → Nat) (stp ngt : Nat) : Prop :=
  M 50 r = nI n ∧ M 50 (r + 1) = nI ngt ∧ M 50 (r + 2) = nI stp ∧ (∀ i, i < n → M 50 (r + 3 + i) = nI (th i)) ∧ ∀ i, i < n → M 50 (r + 10 + i) = nI (kd i)
/-- bounds -/
def okT (n : Nat) (th : Nat → Nat) : Prop := ∀ i, i < n → th i ≤ 9
def okK (n : Nat) (kd : Nat → Nat) : Prop := ∀ i, i < n → 1 ≤ kd i ∧ kd i ≤ 5
theorem okT_swp {n : Nat} {th : Nat → Nat} {a b : Nat} (h : okT n th) (ha : a < n) (hb : b < n) : okT n (swp th a b) := by
  intro i hi
  unfold swp
  split
  · exact h a ha
  · split
    · exact h b hb
    · exact h i hi
theorem nxS_lt {n s : Nat} (h : s < n) : nxS n s < n := by unfold nxS; split <;> omega
theorem pvS_lt {n s : Nat} (h : s < n) : pvS n s < n := by unfold pvS; split <;> omega
theorem okT_hand {n : Nat} {kd th : Nat → Nat} {a b : Nat} (h : okT n th) (ha : a < n) (hb : b < n) : okT n (handS kd th a b) := by
  unfold handS
  split
  · exact okT_swp h ha hb
  · exact h
theorem okT_turn {n : Nat} {kd th : Nat → Nat} {stp s : Nat} (h : okT n th) (hs : s < n) : okT n (turnS n kd stp th s) := by
  unfold turnS
  have h1 := okT_hand (kd := kd) h hs (nxS_lt hs)
  have h2 := okT_hand (kd := kd) h hs (pvS_lt hs)
  repeat' split
  all_goals assumption
theorem okT_turns {n : Nat} {kd : Nat → Nat} {stp asl : Nat} : ∀ (k : Nat) (th : Nat → Nat), k ≤ n → okT n th → okT n (turnsS n kd stp asl k th)
  | 0, th, _, h => h
  | k + 1, th, hk, h => by
    refine okT_turns k _ (by omega) ?_
    split
    · exact h
    · exact okT_turn h (by omega)
theorem okT_mat {n : Nat} {kd th : Nat → Nat} {s : Nat} (h : okT n th) (hs : s < n) : okT n (matS n kd th s) := by
  unfold matS
  split
  · exact okT_swp h hs (by omega)
  · exact h
theorem okT_mats {n : Nat} {kd : Nat → Nat} : ∀ (k : Nat) (th : Nat → Nat), k ≤ n → okT n th → okT n (matsS n kd k th)
  | 0, th, _, h => h
  | k + 1, th, hk, h => okT_mats k _ (by omega) (okT_mat h (by omega))
theorem okT_step {n : Nat} {kd th : Nat → Nat} {ngt stp asl : Nat} (h : okT n th) : okT n (stepS n kd ngt stp asl th) := by
  unfold stepS
  split
  · exact okT_mats n _ (Nat.le_refl n) (okT_turns n th (Nat.le_refl n) h)
  · exact okT_turns n th (Nat.le_refl n) h
/-- the class's leaves -/
theorem c4_isSaint (d o : Nat) (ho : isRg o) (v : Int32) (M : Mm) (Q : Int32 → Mm → Prop) (h : Q (if ¬ v < 0 ∧ ¬ M o 2 ≤ v then 1 else 0) M) : kX4_isSaint d o v M Q := by
  apply rX4_isSaint _ _ ho
  refine ⟨fun h1 => ?_, fun h1 => ⟨fun h2 => ?_, fun h2 => ?_⟩⟩
  · rw [if_neg (fun q => q.1 h1)] at h; exact h
  · rw [if_neg (fun q => q.2 h2)] at h; exact h
  · rw [if_pos ⟨h1, h2⟩] at h; exact h
theorem c4_after (d o : Nat) (ho : isRg o) (n s : Nat) (M : Mm) (Q : Int32 → Mm → Prop) (hn : M o 2 = nI n) (h7 : n ≤ 7) (hs : s < n) (h : Q (nI (nxS n s)) M) : kX4_after d o (nI s) M Q := by
  apply rX4_after _ _ ho
  rw [hn]
  simp (disch := omega) only [li_0, li_1, li_2, li_3, li_4, li_5, li_6, li_7, li_8, li_9, li_10, li_16, li_17, li_20, li_24, li_34, li_40, li_50, li_60, li_68, li_85, li_200, li_9999, nI_add, nI_clamp, vpT, nI_leI, nI_ltI, nI_eq, irem_nI, true_and, and_true, forall_eq, not_true_eq_false, not_false_eq_true, forall_const, false_and, and_false, false_imp_iff, true_imp_iff, imp_self]
  unfold nxS at h
  refine ⟨fun q => ?_, fun q => ?_⟩
  · rw [if_neg (by omega)] at h; exact h
  · rw [if_pos (by omega)] at h; exact h
theorem c4_before (d o : Nat) (ho : isRg o) (n s : Nat) (M : Mm) (Q : Int32 → Mm → Prop) (hn : M o 2 = nI n) (h7 : n ≤ 7) (hs : s < n) (h : Q (nI (pvS n s)) M) : kX4_before d o (nI s) M Q := by
  apply rX4_before _ _ ho
  rw [hn]
  simp (disch := omega) only [li_0, li_1, li_2, li_3, li_4, li_5, li_6, li_7, li_8, li_9, li_10, li_16, li_17, li_20, li_24, li_34, li_40, li_50, li_60, li_68, li_85, li_200, li_9999, nI_add, nI_clamp, vpT, nI_leI, nI_ltI, nI_eq, irem_nI, true_and, and_true, forall_eq, not_true_eq_false, not_false_eq_true, forall_const, false_and, and_false, false_imp_iff, true_imp_iff, imp_self, pk_sub]
  unfold pvS at h
  refine ⟨fun q => ?_, fun q => ?_⟩
  · rw [if_neg (by omega)] at h
    exact h
  · rw [if_pos (by omega)] at h
    rw [pk_sub (by omega)]; exact h
theorem c4_lets (d o : Nat) (ho : isRg o) (n s : Nat) (kd th : Nat → Nat) (stp ngt : Nat) (M : Mm) (Q : Int32 → Mm → Prop) (hR : RgC M o n kd th stp ngt) (hk : okK n kd) (ht : okT n th) (h7 : n ≤ 7) (hs : s < n) (h : Q (if th s = 0 ∨ kd s < 4 then 1 else 0) M) : kX4_lets d o (nI s) M Q := by
  apply rX4_lets _ _ ho
  obtain ⟨-, -, -, h1, h2⟩ := hR
  have hk1 := hk s hs
  have ht1 := ht s hs
  have e1 : M (o + 1) s = nI (kd s) := h1 s hs
  have e2 : M (o + 2) s = nI (th s) := h2 s hs
  simp (disch := omega) only [li_0, li_1, li_2, li_3, li_4, li_5, li_6, li_7, li_8, li_9, li_10, li_16, li_17, li_20, li_24, li_34, li_40, li_50, li_60, li_68, li_85, li_200, li_9999, nI_add, nI_clamp, vpT, nI_leI, nI_ltI, nI_eq, irem_nI, true_and, and_true, forall_eq, not_true_eq_false, not_false_eq_true, forall_const, false_and, and_false, false_imp_iff, true_imp_iff, imp_self, e1, e2]
  refine ⟨fun q => ?_, fun q => ⟨fun q2 => ?_, fun q2 => ⟨fun q3 => ?_, fun q3 => ?_⟩⟩⟩
  · rw [if_pos (by omega)] at h; exact h
  · rw [if_neg (by omega)] at h; exact h
  · rw [if_neg (by omega)] at h; exact h
  · rw [if_pos (by omega)] at h; exact h
theorem c4_exchange (d o : Nat) (ho : isRg o) (n a b : Nat) (kd th : Nat → Nat) (stp ngt : Nat) (M : Mm) (Q : Int32 → Mm → Prop) (hR : RgC M o n kd th stp ngt) (h7 : n ≤ 7) (ha : a < n) (hb : b < n)
    (h : ∀ M', RgC M' o n kd (swp th a b) stp ngt → (∀ k, k ≠ o + 2 → M' k = M k) → Q 0 M') : kX4_exchange d o (nI a) (nI b) M Q := by
  apply rX4_exchange _ _ ho
  obtain ⟨g1, g2, g3, h1, h2⟩ := hR
  simp (disch := omega) only [li_0, li_1, li_2, li_3, li_4, li_5, li_6, li_7, li_8, li_9, li_10, li_16, li_17, li_20, li_24, li_34, li_40, li_50, li_60, li_68, li_85, li_200, li_9999, nI_add, nI_clamp, vpT, nI_leI, nI_ltI, nI_eq, irem_nI, true_and, and_true, forall_eq, not_true_eq_false, not_false_eq_true, forall_const, false_and, and_false, false_imp_iff, true_imp_iff, imp_self]
  apply h
  · refine ⟨by rw [upd2_off (by omega), upd2_off (by omega)]; exact g1, by rw [upd2_off (by omega), upd2_off (by omega)]; exact g2, by rw [upd2_off (by omega), upd2_off (by omega)]; exact g3, fun i hi => by rw [upd2_off (by omega), upd2_off (by omega)]; exact h1 i hi, fun i hi => ?_⟩
    rw [upd2_r, upd2_r, h2 a ha, h2 b hb, h2 i hi]
    unfold swp
    repeat' split
    all_goals rfl
  · intro k hk
    rw [upd2_off hk, upd2_off hk]
theorem c4_handOn (d o : Nat) (ho : isRg o) (n a b : Nat) (kd th : Nat → Nat) (stp ngt : Nat) (M : Mm) (Q : Int32 → Mm → Prop) (hR : RgC M o n kd th stp ngt) (hk : okK n kd) (ht : okT n th) (h7 : n ≤ 7) (ha : a < n) (hb : b < n)
    (h : ∀ M', RgC M' o n kd (handS kd th a b) stp ngt → (∀ k, k ≠ o + 2 → M' k = M k) → Q 0 M') : kX4_handOn (d + 1) o (nI a) (nI b) M Q := by
  apply rX4_handOn _ _ ho
  refine c4_lets d o ho n b kd th stp ngt M _ hR hk ht h7 hb ?_
  unfold handS at h
  by_cases c : th b = 0 ∨ kd b < 4
  · rw [if_pos c] at *
    refine ⟨fun q => absurd q (by decide), fun _ => ?_⟩
    exact c4_exchange d o ho n a b kd th stp ngt M _ hR h7 ha hb (fun M' h1 h2 => h M' h1 h2)
  · rw [if_neg c] at *
    exact ⟨fun _ => h M hR (fun _ _ => rfl), fun q => absurd rfl q⟩
theorem c4_turn (d o : Nat) (ho : isRg o) (n s : Nat) (kd th : Nat → Nat) (stp ngt : Nat) (M : Mm) (Q : Int32 → Mm → Prop) (hR : RgC M o n kd th stp ngt) (hk : okK n kd) (ht : okT n th) (h7 : n ≤ 7) (hstp : stp < 2 ^ 30) (hs : s < n)
    (h : ∀ M', RgC M' o n kd (turnS n kd stp th s) stp ngt → (∀ k, k ≠ o + 2 → M' k = M k) → Q 0 M') : kX4_turn (d + 2) o (nI s) M Q := by
  apply rX4_turn _ _ ho
  refine c4_after (d + 1) o ho n s M _ hR.1 h7 hs ?_
  have e1 : M (o + 1) s = nI (kd s) := hR.2.2.2.1 s hs
  have e2 : M (o + 2) s = nI (th s) := hR.2.2.2.2 s hs
  have e3 : M (o + 2) (nxS n s) = nI (th (nxS n s)) := hR.2.2.2.2 _ (nxS_lt hs)
  have e4 : M o 3 = nI stp := hR.2.1
  have hk1 := hk s hs
  have ht1 := ht s hs
  have ht2 := ht _ (nxS_lt hs)
  have hnx := nxS_lt hs
  have hm : stp % 2 < 2 := Nat.mod_lt _ (by omega)
  simp (disch := omega) only [li_0, li_1, li_2, li_3, li_4, li_5, li_6, li_7, li_8, li_9, li_10, li_16, li_17, li_20, li_24, li_34, li_40, li_50, li_60, li_68, li_85, li_200, li_9999, nI_add, nI_clamp, vpT, nI_leI, nI_ltI, nI_eq, irem_nI, true_and, and_true, forall_eq, not_true_eq_false, not_false_eq_true, forall_const, false_and, and_false, false_imp_iff, true_imp_iff, imp_self, e1, e2, e3, e4]
  have same : turnS n kd stp th s = th → Q 0 M := fun e => h M (by rw [e]; exact hR) (fun _ _ => rfl)
  have hand : ∀ b, b < n → turnS n kd stp th s = handS kd th s b → kX4_handOn (d + 1) o (nI s) (nI b) M (fun _ M2 => Q 0 M2) := fun b hb e =>
    c4_handOn d o ho n s b kd th stp ngt M _ hR hk ht h7 hs hb (fun M' h1 h2 => h M' (by rw [e]; exact h1) h2)
  unfold turnS at same hand
  refine ⟨fun q => hand _ (nxS_lt hs) (by rw [if_pos q]), fun q => ⟨fun q2 => same ?_, fun q2 => hand _ (nxS_lt hs) ?_⟩, fun q => ⟨fun q2 => same ?_, fun q2 => hand _ (nxS_lt hs) ?_⟩, fun q => ⟨fun q2 => same ?_, fun q2 => ?_⟩, fun q => same ?_⟩
  · rw [if_neg (by omega), if_pos q, if_neg (by omega)]
  · rw [if_neg (by omega), if_pos q, if_pos (by omega)]
  · rw [if_neg (by omega), if_neg (by omega), if_pos q, if_neg (by omega)]
  · rw [if_neg (by omega), if_neg (by omega), if_pos q, if_pos (by omega)]
  · rw [if_neg (by omega), if_neg (by omega), if_neg (by omega), if_pos q, if_neg (by omega)]
  · refine c4_before (d + 1) o ho n s M _ hR.1 h7 hs (hand _ (pvS_lt hs) ?_)
    rw [if_neg (by omega), if_neg (by omega), if_neg (by omega), if_pos q, if_pos (by omega)]
  · rw [if_neg (by omega), if_neg (by omega), if_neg (by omega), if_neg (by omega)]
theorem c4_isMatins (d o : Nat) (ho : isRg o) (stp ngt : Nat) (M : Mm) (Q : Int32 → Mm → Prop) (h3 : M o 3 = nI stp) (h4 : M o 4 = nI ngt) (hstp : stp < 2 ^ 31) (hn : 1 ≤ ngt ∧ ngt ≤ 9) (h : Q (if stp % ngt = 0 then 1 else 0) M) : kX4_isMatins d o M Q := by
  apply rX4_isMatins _ _ ho
  rw [h3, h4]
  have hm : stp % ngt < ngt := Nat.mod_lt _ (by omega)
  simp (disch := omega) only [li_0, li_1, li_2, li_3, li_4, li_5, li_6, li_7, li_8, li_9, li_10, li_16, li_17, li_20, li_24, li_34, li_40, li_50, li_60, li_68, li_85, li_200, li_9999, nI_add, nI_clamp, vpT, nI_leI, nI_ltI, nI_eq, irem_nI, true_and, and_true, forall_eq, not_true_eq_false, not_false_eq_true, forall_const, false_and, and_false, false_imp_iff, true_imp_iff, imp_self]
  refine ⟨fun q => by omega, fun q => ⟨by omega, fun q2 => ?_, fun q2 => ?_⟩⟩
  · rw [if_neg q2] at h; exact h
  · rw [if_pos q2] at h; exact h
theorem c4_matLoop (d o : Nat) (ho : isRg o) (n : Nat) (kd : Nat → Nat) (stp ngt : Nat) (Q : Int32 → Mm → Prop) (hk : okK n kd) (h7 : n ≤ 7) : ∀ (k : Nat) (M : Mm) (th : Nat → Nat), k ≤ n → RgC M o n kd th stp ngt → okT n th →
    (∀ M', RgC M' o n kd (matsS n kd k th) stp ngt → (∀ k, k ≠ o + 2 → M' k = M k) → Q 0 M') → BX4_singMatins (d + 1) 2 [(0, .ref o), (1, .int (nI (n - k)))] [] M Q
  | 0, M, th, _, hR, ht, h => by
    apply rX4_singMatins_2 _ _ ho
    rw [hR.1]
    simp (disch := omega) only [li_0, li_1, li_2, li_3, li_4, li_5, li_6, li_7, li_8, li_9, li_10, li_16, li_17, li_20, li_24, li_34, li_40, li_50, li_60, li_68, li_85, li_200, li_9999, nI_add, nI_clamp, vpT, nI_leI, nI_ltI, nI_eq, irem_nI, true_and, and_true, forall_eq, not_true_eq_false, not_false_eq_true, forall_const, false_and, and_false, false_imp_iff, true_imp_iff, imp_self]
    refine ⟨fun _ => h M hR (fun _ _ => rfl), fun q => by omega⟩
  | k + 1, M, th, hkn, hR, ht, h => by
    apply rX4_singMatins_2 _ _ ho
    have hs : n - (k + 1) < n := by omega
    have e1 : M (o + 1) (n - (k + 1)) = nI (kd (n - (k + 1))) := hR.2.2.2.1 _ hs
    have e2 : M (o + 2) (n - (k + 1)) = nI (th (n - (k + 1))) := hR.2.2.2.2 _ hs
    have hk1 := hk _ hs
    have ht1 := ht _ hs
    rw [hR.1]
    simp (disch := omega) only [li_0, li_1, li_2, li_3, li_4, li_5, li_6, li_7, li_8, li_9, li_10, li_16, li_17, li_20, li_24, li_34, li_40, li_50, li_60, li_68, li_85, li_200, li_9999, nI_add, nI_clamp, vpT, nI_leI, nI_ltI, nI_eq, irem_nI, true_and, and_true, forall_eq, not_true_eq_false, not_false_eq_true, forall_const, false_and, and_false, false_imp_iff, true_imp_iff, imp_self, e1, e2]
    have hn1 : n - (k + 1) + 1 = n - k := by omega
    rw [hn1]
    have go : ∀ M1, RgC M1 o n kd (matS n kd th (n - (k + 1))) stp ngt → (∀ k, k ≠ o + 2 → M1 k = M k) → BX4_singMatins (d + 1) 2 [(0, .ref o), (1, .int (nI (n - k)))] [] M1 Q := fun M1 h1 h2 =>
      c4_matLoop d o ho n kd stp ngt Q hk h7 k M1 _ (by omega) h1 (okT_mat ht hs) (fun M' g1 g2 => h M' g1 (fun j hj => (g2 j hj).trans (h2 j hj)))
    unfold matS at go
    refine ⟨fun q => by omega, fun q => ⟨fun q2 => go M ?_ (fun _ _ => rfl), fun q2 => ?_⟩⟩
    · rw [if_neg (by omega)]; exact hR
    · refine c4_isSaint d o ho _ M _ ?_
      rw [hR.1]
      rcases Nat.eq_zero_or_pos (th (n - (k + 1))) with z | z
      · rw [z, if_neg (fun q => q.1 (by decide))]
        refine ⟨fun _ => go M ?_ (fun _ _ => rfl), fun q => absurd rfl q⟩
        rw [if_neg (by omega)]; exact hR
      · rw [pk_sub (by omega), show ((0 : Int32)) = nI 0 from rfl]
        simp (disch := omega) only [nI_ltI, nI_leI]
        by_cases c : th (n - (k + 1)) ≤ n
        · rw [if_pos (by omega)]
          refine ⟨fun q => absurd q (by decide), fun _ => ?_⟩
          refine c4_exchange d o ho n _ _ kd th stp ngt M _ hR h7 hs (by omega) (fun M' g1 g2 => go M' ?_ g2)
          rw [if_pos ⟨q2, by omega, c⟩]
          exact g1
        · rw [if_neg (by omega)]
          refine ⟨fun _ => go M ?_ (fun _ _ => rfl), fun q => absurd rfl q⟩
          rw [if_neg (by omega)]; exact hR
theorem c4_singMatins (d o : Nat) (ho : isRg o) (n : Nat) (kd th : Nat → Nat) (stp ngt : Nat) (M : Mm) (Q : Int32 → Mm → Prop) (hR : RgC M o n kd th stp ngt) (hk : okK n kd) (ht : okT n th) (h7 : n ≤ 7)
    (h : ∀ M', RgC M' o n kd (matsS n kd n th) stp ngt → (∀ k, k ≠ o + 2 → M' k = M k) → Q 0 M') : kX4_singMatins (d + 1) o M Q := by
  apply rX4_singMatins _ _ ho
  have := c4_matLoop d o ho n kd stp ngt Q hk h7 n M th (Nat.le_refl n) hR ht h
  rw [Nat.sub_self] at this
  exact this
theorem c4_advLoop (d o : Nat) (ho : isRg o) (n : Nat) (kd : Nat → Nat) (stp ngt asl : Nat) (Q : Int32 → Mm → Prop) (hk : okK n kd) (h7 : n ≤ 7) (hstp : stp < 2 ^ 30) (hn : 1 ≤ ngt ∧ ngt ≤ 9) (hasl : asl < 128) : ∀ (k : Nat) (M : Mm) (th : Nat → Nat), k ≤ n → RgC M o n kd th stp ngt → okT n th →
    (∀ M', RgC M' o n kd (if (stp + 1) % ngt = 0 then matsS n kd n (turnsS n kd stp asl k th) else turnsS n kd stp asl k th) (stp + 1) ngt → (∀ k, k ≠ o → k ≠ o + 2 → M' k = M k) → Q 0 M') → BX4_advance (d + 3) 2 [(0, .ref o), (1, .int (nI asl)), (2, .int (nI (n - k)))] [] M Q
  | 0, M, th, _, hR, ht, h => by
    apply rX4_advance_2 _ _ ho
    rw [hR.1, hR.2.1]
    simp (disch := omega) only [li_0, li_1, li_2, li_3, li_4, li_5, li_6, li_7, li_8, li_9, li_10, li_16, li_17, li_20, li_24, li_34, li_40, li_50, li_60, li_68, li_85, li_200, li_9999, nI_add, nI_clamp, vpT, nI_leI, nI_ltI, nI_eq, irem_nI, true_and, and_true, forall_eq, not_true_eq_false, not_false_eq_true, forall_const, false_and, and_false, false_imp_iff, true_imp_iff, imp_self]
    refine ⟨fun _ => ?_, fun q => by omega⟩
    have hR2 : RgC (upd2 M o 3 (nI (stp + 1))) o n kd th (stp + 1) ngt := by
      obtain ⟨g1, g2, g3, g4, g5⟩ := hR
      exact ⟨by rw [upd2_row (by omega)]; exact g1, upd2_at, by rw [upd2_row (by omega)]; exact g3, fun i hi => by rw [upd2_off (by omega)]; exact g4 i hi, fun i hi => by rw [upd2_off (by omega)]; exact g5 i hi⟩
    refine c4_isMatins (d + 2) o ho (stp + 1) ngt _ _ hR2.2.1 hR2.2.2.1 (by omega) hn ?_
    by_cases c : (stp + 1) % ngt = 0
    · rw [if_pos c] at *
      refine ⟨fun q => absurd q (by decide), fun _ => ?_⟩
      exact c4_singMatins (d + 1) o ho n kd th (stp + 1) ngt _ _ hR2 hk ht h7 (fun M' g1 g2 => h M' g1 (fun k h1 h2 => by rw [g2 k h2, upd2_off h1]))
    · rw [if_neg c] at *
      exact ⟨fun _ => h _ hR2 (fun k h1 _ => by rw [upd2_off h1]), fun q => absurd rfl q⟩
  | k + 1, M, th, hkn, hR, ht, h => by
    apply rX4_advance_2 _ _ ho
    have hs : n - (k + 1) < n := by omega
    have hb : asl / 2 ^ (n - (k + 1)) ≤ asl := Nat.div_le_self _ _
    have hm2 : asl / 2 ^ (n - (k + 1)) % 2 < 2 := Nat.mod_lt _ (by omega)
    rw [hR.1]
    simp (disch := omega) only [li_0, li_1, li_2, li_3, li_4, li_5, li_6, li_7, li_8, li_9, li_10, li_16, li_17, li_20, li_24, li_34, li_40, li_50, li_60, li_68, li_85, li_200, li_9999, nI_add, nI_clamp, vpT, nI_leI, nI_ltI, nI_eq, irem_nI, true_and, and_true, forall_eq, not_true_eq_false, not_false_eq_true, forall_const, false_and, and_false, false_imp_iff, true_imp_iff, imp_self, ishr_nI, and1_nI, bit_iff0]
    have hn1 : n - (k + 1) + 1 = n - k := by omega
    rw [hn1]
    refine ⟨fun q => by omega, fun _ => ⟨fun q => ?_, fun q => ?_⟩⟩
    · refine c4_advLoop d o ho n kd stp ngt asl Q hk h7 hstp hn hasl k M th (by omega) hR ht (fun M' g1 g2 => h M' ?_ g2)
      rw [turnsS, if_pos (show asl.testBit (n - (k + 1)) = true by simpa using q)]
      exact g1
    · refine c4_turn d o ho n _ kd th stp ngt M _ hR hk ht h7 hstp hs (fun M1 h1 h2 => ?_)
      refine c4_advLoop d o ho n kd stp ngt asl Q hk h7 hstp hn hasl k M1 _ (by omega) h1 (okT_turn ht hs) (fun M' g1 g2 => h M' ?_ (fun j hj hj2 => (g2 j hj hj2).trans (h2 j hj2)))
      rw [turnsS, if_neg (show ¬ asl.testBit (n - (k + 1)) = true by simpa using q)]
      exact g1
theorem c4_advance (d o : Nat) (ho : isRg o) (n : Nat) (kd th : Nat → Nat) (stp ngt asl : Nat) (M : Mm) (Q : Int32 → Mm → Prop) (hR : RgC M o n kd th stp ngt) (hk : okK n kd) (ht : okT n th) (h7 : n ≤ 7) (hstp : stp < 2 ^ 30) (hn : 1 ≤ ngt ∧ ngt ≤ 9) (hasl : asl < 128)
    (h : ∀ M', RgC M' o n kd (stepS n kd ngt stp asl th) (stp + 1) ngt → (∀ k, k ≠ o → k ≠ o + 2 → M' k = M k) → Q 0 M') : kX4_advance (d + 3) o (nI asl) M Q := by
  apply rX4_advance _ _ ho
  have := c4_advLoop d o ho n kd stp ngt asl Q hk h7 hstp hn hasl n M th (Nat.le_refl n) hR ht h
  rw [Nat.sub_self] at this
  exact this
