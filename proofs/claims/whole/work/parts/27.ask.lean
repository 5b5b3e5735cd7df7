/-! WHICH SAINT, WHICH THING; saint, holder, kind, trace -/
theorem clamp0 : (0 : Int32).toNatClampNeg = 0 := rfl
theorem c8_isSaint (d n : Nat) (v : Int32) (M : Mm) (Q : Int32 → Mm → Prop) (hn : M 50 0 = nI n) (h7 : n ≤ 7) (h : Q (if ¬ v < 0 ∧ ¬ nI n ≤ v then 1 else 0) M) : kX8_isSaint (d + 1) v M Q := by
  apply rX8_isSaint
  rw [clamp0, hn]
  refine ⟨vp_in_nI (n := 0) (by omega) (by omega), ?_⟩
  refine c8_inI d v 0 (nI n - 1) M _ ?_
  have e : (nI n - 1).toInt = (n : Int) - 1 := pk_sub_toInt (a := n) (b := 1) (by omega) (by omega)
  have e0 : (0 : Int32).toInt = 0 := rfl
  have en : (nI n).toInt = n := nI_toInt (by omega)
  have hc : (0 ≤ v ∧ v ≤ nI n - 1) ↔ (¬ v < 0 ∧ ¬ nI n ≤ v) := by
    rw [fa_le, fa_le, fa_lt, fa_le, e, e0, en]
    omega
  by_cases c : ¬ v < 0 ∧ ¬ nI n ≤ v
  · rw [if_pos c] at h
    rw [if_pos (hc.mpr c)]
    exact ⟨Or.inr rfl, h⟩
  · rw [if_neg c] at h
    rw [if_neg (fun q => c (hc.mp q))]
    exact ⟨Or.inl rfl, h⟩
theorem c4_sy (d o : Nat) (ho : isRg o) (n s : Nat) (M : Mm) (Q : Int32 → Mm → Prop) (hn : M o 2 = nI n) (h7 : n ≤ 7) (hs : s < n) (h : Q 1 M) : kX4_isSaint d o (nI s) M Q := by
  refine c4_isSaint d o ho _ M _ ?_
  rw [hn, if_pos ⟨nI_pos (by omega), nI_ge hs (by omega)⟩]
  exact h
theorem c4_sn (d o : Nat) (ho : isRg o) (n : Nat) (v : Int32) (M : Mm) (Q : Int32 → Mm → Prop) (hn : M o 2 = nI n) (hv : v < 0 ∨ nI n ≤ v) (h : Q 0 M) : kX4_isSaint d o v M Q := by
  refine c4_isSaint d o ho _ M _ ?_
  rw [hn, if_neg (fun q => hv.elim q.1 q.2)]
  exact h
theorem c8_sy (d n s : Nat) (M : Mm) (Q : Int32 → Mm → Prop) (hn : M 50 0 = nI n) (h7 : n ≤ 7) (hs : s < n) (h : Q 1 M) : kX8_isSaint (d + 1) (nI s) M Q := by
  refine c8_isSaint d n _ M _ hn h7 ?_
  rw [if_pos ⟨nI_pos (by omega), nI_ge hs (by omega)⟩]
  exact h
theorem c8_sn (d n : Nat) (v : Int32) (M : Mm) (Q : Int32 → Mm → Prop) (hn : M 50 0 = nI n) (h7 : n ≤ 7) (hv : v < 0 ∨ nI n ≤ v) (h : Q 0 M) : kX8_isSaint (d + 1) v M Q := by
  refine c8_isSaint d n _ M _ hn h7 ?_
  rw [if_neg (fun q => hv.elim q.1 q.2)]
  exact h
/-- a saint's number, or none -/
theorem s_ix (v : Int32) {n : Nat} (h7 : n ≤ 7) : (v < 0 ∨ nI n ≤ v) ∨ ∃ s, s < n ∧ v = nI s := by
  rcases pk_ix v (n := n) (by omega) with h | h | h
  · exact Or.inl (Or.inl h)
  · exact Or.inl (Or.inr h)
  · exact Or.inr h
theorem t_ix (v : Int32) : (v < nI 1 ∨ nI 10 ≤ v) ∨ ∃ t, 1 ≤ t ∧ t ≤ 9 ∧ v = nI t := by
  rcases pk_ix v (n := 10) (by omega) with h | h | ⟨t, h, rfl⟩
  · exact Or.inl (Or.inl (neg_lt h (by omega)))
  · exact Or.inl (Or.inr h)
  · rcases Nat.eq_zero_or_pos t with z | z
    · exact Or.inl (Or.inl (by rw [z]; exact nI_lt (by omega) (by omega)))
    · exact Or.inr ⟨t, z, by omega, rfl⟩
theorem c7_ty (d t : Nat) (M : Mm) (Q : Int32 → Mm → Prop) (h1 : 1 ≤ t) (h9 : t ≤ 9) (h : Q 1 M) : kX7_isThing d (nI t) M Q := by
  apply rX7_isThing
  simp (disch := omega) only [li_0, li_1, li_2, li_3, li_4, li_5, li_6, li_7, li_8, li_9, li_10, li_16, li_17, li_20, li_24, li_34, li_40, li_50, li_60, li_68, li_85, li_200, li_9999, nI_add, nI_clamp, vpT, nI_leI, nI_ltI, nI_eq, irem_nI, true_and, and_true, forall_eq, not_true_eq_false, not_false_eq_true, forall_const, false_and, and_false, false_imp_iff, true_imp_iff, imp_self]
  exact ⟨fun q => by omega, fun _ => ⟨fun q => by omega, fun _ => h⟩⟩
theorem c7_tn (d : Nat) (v : Int32) (M : Mm) (Q : Int32 → Mm → Prop) (hv : v < nI 1 ∨ nI 10 ≤ v) (h : Q 0 M) : kX7_isThing d v M Q := by
  apply rX7_isThing
  refine ⟨fun _ => h, fun q => ⟨fun _ => h, fun q2 => ?_⟩⟩
  rcases hv with z | z
  · exact absurd z q
  · refine absurd ?_ q2
    rw [fa_le, nI_toInt (by omega)] at z
    rw [fa_lt]
    have e0 : (9 : Int32).toInt = 9 := rfl
    omega
theorem fs_ix (v : Int32) : v = 0 ∨ v = 1 ∨ (¬ v = 0 ∧ ¬ v = 1) := by
  by_cases h : v = 0
  · exact Or.inl h
  · by_cases h2 : v = 1
    · exact Or.inr (Or.inl h2)
    · exact Or.inr (Or.inr ⟨h, h2⟩)
theorem c7_fs (d : Nat) (v : Int32) (M : Mm) (Q : Int32 → Mm → Prop) (h : Q (if v = 0 ∨ v = 1 then 1 else 0) M) : kX7_isFirstOrSecond d v M Q := by
  apply rX7_isFirstOrSecond
  refine ⟨fun q => ?_, fun q => ⟨fun q2 => ?_, fun q2 => ?_⟩⟩
  · rw [if_pos (Or.inl q)] at h; exact h
  · rw [if_neg (fun z => z.elim q q2)] at h; exact h
  · rw [if_pos (Or.inr q2)] at h; exact h
theorem c8_fs (d : Nat) (v : Int32) (M : Mm) (Q : Int32 → Mm → Prop) (h : Q (if v = 0 ∨ v = 1 then 1 else 0) M) : kX8_in d v.toInt64 (0 : Int64) (1 : Int64) M Q := by
  refine c8_inI d v 0 1 M _ ?_
  have e0 : (0 : Int32).toInt = 0 := rfl
  have e1 : (1 : Int32).toInt = 1 := rfl
  have hc : (0 ≤ v ∧ v ≤ 1) ↔ (v = 0 ∨ v = 1) := by
    rw [fa_le, fa_le, fa_eq, fa_eq, e0, e1]
    omega
  by_cases c : v = 0 ∨ v = 1
  · rw [if_pos c] at h
    rw [if_pos (hc.mpr c)]; exact h
  · rw [if_neg c] at h
    rw [if_neg (fun q => c (hc.mp q))]; exact h
/-- who has a thing -/
def whoR (n : Nat) (th : Nat → Nat) (t : Nat) : Nat → Int32
  | 0 => -1000000
  | k + 1 => if th (n - (k + 1)) = t then nI (n - (k + 1)) else whoR n th t k
theorem c4_whoLoop (d o : Nat) (ho : isRg o) (n t : Nat) (kd th : Nat → Nat) (stp ngt : Nat) (M : Mm) (Q : Int32 → Mm → Prop) (hR : RgC M o n kd th stp ngt) (ht : okT n th) (h7 : n ≤ 7) (h9 : t < 100) : ∀ k, k ≤ n → Q (whoR n th t k) M → BX4_whoHas d 2 [(0, .ref o), (1, .int (nI t)), (2, .int (nI (n - k)))] [] M Q
  | 0, _, h => by
    apply rX4_whoHas_2 _ _ ho
    rw [hR.1]
    simp (disch := omega) only [li_0, li_1, li_2, li_3, li_4, li_5, li_6, li_7, li_8, li_9, li_10, li_16, li_17, li_20, li_24, li_34, li_40, li_50, li_60, li_68, li_85, li_200, li_9999, nI_add, nI_clamp, vpT, nI_leI, nI_ltI, nI_eq, irem_nI, true_and, and_true, forall_eq, not_true_eq_false, not_false_eq_true, forall_const, false_and, and_false, false_imp_iff, true_imp_iff, imp_self]
    exact ⟨fun _ => h, fun q => by omega⟩
  | k + 1, hk, h => by
    apply rX4_whoHas_2 _ _ ho
    have hs : n - (k + 1) < n := by omega
    have e2 : M (o + 2) (n - (k + 1)) = nI (th (n - (k + 1))) := hR.2.2.2.2 _ hs
    have ht1 := ht _ hs
    have e : n - (k + 1) + 1 = n - k := by omega
    rw [hR.1]
    simp (disch := omega) only [li_0, li_1, li_2, li_3, li_4, li_5, li_6, li_7, li_8, li_9, li_10, li_16, li_17, li_20, li_24, li_34, li_40, li_50, li_60, li_68, li_85, li_200, li_9999, nI_add, nI_clamp, vpT, nI_leI, nI_ltI, nI_eq, irem_nI, true_and, and_true, forall_eq, not_true_eq_false, not_false_eq_true, forall_const, false_and, and_false, false_imp_iff, true_imp_iff, imp_self, e2, e]
    refine ⟨fun q => by omega, fun _ => ⟨fun q => ?_, fun q => ?_⟩⟩
    · refine c4_whoLoop d o ho n t kd th stp ngt M Q hR ht h7 h9 k (by omega) ?_
      rw [whoR, if_neg q] at h
      exact h
    · rw [whoR, if_pos q] at h
      exact h
theorem c4_whoHas (d o : Nat) (ho : isRg o) (n t : Nat) (kd th : Nat → Nat) (stp ngt : Nat) (M : Mm) (Q : Int32 → Mm → Prop) (hR : RgC M o n kd th stp ngt) (ht : okT n th) (h7 : n ≤ 7) (h9 : t < 100) (h : Q (whoR n th t n) M) : kX4_whoHas d o (nI t) M Q := by
  apply rX4_whoHas _ _ ho
  have := c4_whoLoop d o ho n t kd th stp ngt M Q hR ht h7 h9 n (Nat.le_refl n) h
  rw [Nat.sub_self] at this
  exact this
theorem c8_whoLoop (d r n t : Nat) (kd th : Nat → Nat) (stp ngt : Nat) (M : Mm) (Q : Int32 → Mm → Prop) (hR : RgM M r n kd th stp ngt) (hr : inW r) (ht : okT n th) (h7 : n ≤ 7) (h9 : t < 100) : ∀ k, k ≤ n → Q (whoR n th t k) M → BX8_holderIn d 2 [(0, .ref 49), (1, .int (nI r)), (2, .int (nI t)), (3, .int (nI (n - k)))] [] M Q
  | 0, _, h => by
    apply rX8_holderIn_2
    have hr2 : r + 17 ≤ 301 := hr
    have e0 : M 50 r = nI n := hR.1
    simp (disch := omega) only [li_0, li_1, li_2, li_3, li_4, li_5, li_6, li_7, li_8, li_9, li_10, li_16, li_17, li_20, li_24, li_34, li_40, li_50, li_60, li_68, li_85, li_200, li_9999, nI_add, nI_clamp, vpT, nI_leI, nI_ltI, nI_eq, irem_nI, true_and, and_true, forall_eq, not_true_eq_false, not_false_eq_true, forall_const, false_and, and_false, false_imp_iff, true_imp_iff, imp_self, e0, Nat.add_zero]
    exact ⟨fun _ => h, fun q => by omega⟩
  | k + 1, hk, h => by
    apply rX8_holderIn_2
    have hr2 : r + 17 ≤ 301 := hr
    have hs : n - (k + 1) < n := by omega
    have e0 : M 50 r = nI n := hR.1
    have e2 : M 50 (r + 3 + (n - (k + 1))) = nI (th (n - (k + 1))) := hR.2.2.2.1 _ hs
    have ht1 := ht _ hs
    have e : n - (k + 1) + 1 = n - k := by omega
    simp (disch := omega) only [li_0, li_1, li_2, li_3, li_4, li_5, li_6, li_7, li_8, li_9, li_10, li_16, li_17, li_20, li_24, li_34, li_40, li_50, li_60, li_68, li_85, li_200, li_9999, nI_add, nI_clamp, vpT, nI_leI, nI_ltI, nI_eq, irem_nI, true_and, and_true, forall_eq, not_true_eq_false, not_false_eq_true, forall_const, false_and, and_false, false_imp_iff, true_imp_iff, imp_self, e0, e2, e, Nat.add_zero]
    refine ⟨fun q => by omega, fun _ => ⟨fun q => ?_, fun q => ?_⟩⟩
    · refine c8_whoLoop d r n t kd th stp ngt M Q hR hr ht h7 h9 k (by omega) ?_
      rw [whoR, if_neg q] at h
      exact h
    · rw [whoR, if_pos q] at h
      exact h
theorem c8_holderIn (d r n t : Nat) (kd th : Nat → Nat) (stp ngt : Nat) (M : Mm) (Q : Int32 → Mm → Prop) (hR : RgM M r n kd th stp ngt) (hr : inW r) (ht : okT n th) (h7 : n ≤ 7) (h9 : t < 100) (h : Q (whoR n th t n) M) : kX8_holderIn d (nI r) (nI t) M Q := by
  apply rX8_holderIn
  have := c8_whoLoop d r n t kd th stp ngt M Q hR hr ht h7 h9 n (Nat.le_refl n) h
  rw [Nat.sub_self] at this
  exact this
theorem okR_T {n : Nat} {kd th : Nat → Nat} {stp ngt : Nat} (h : okR n kd th stp ngt) : okT n th ∧ okK n kd := by
  rcases h with h | h
  · exact ⟨fun i hi => by omega, fun i hi => by omega⟩
  · exact ⟨h.2.2.2.1, h.2.2.1⟩
theorem rg23 : isRg 23 := by unfold isRg; omega
theorem rg26 : isRg 26 := by unfold isRg; omega
theorem rg20 : isRg 20 := by unfold isRg; omega
theorem rg30 : isRg 30 := by unfold isRg; omega
theorem rg33 : isRg 33 := by unfold isRg; omega
theorem inW0 : inW 0 := by unfold inW; omega
theorem inW17 : inW 17 := by unfold inW; omega
theorem L_holder (v1 : Int32) (M : Mm) (hI : Inv M) : kX7_holder 40 v1 M (fun r1 M1 => kX8_holder 40 v1 M1 (fun r2 M2 => r1 = r2 ∧ Inv M2)) := by
  obtain ⟨n, kd, th, stp, ngt, hC, hM, hok, -⟩ := hI.2.2.1
  apply rX7_holder
  rcases t_ix v1 with h1 | ⟨t, h1, h9, rfl⟩
  · refine c7_tn _ _ _ _ h1 ⟨fun _ => ?_, fun q => absurd rfl q⟩
    apply rX8_holder
    exact c8_n1 _ 9 _ _ _ (by omega) h1 ⟨fun _ => ⟨rfl, hI⟩, fun q => absurd rfl q⟩
  · refine c7_ty _ _ _ _ h1 h9 ⟨fun q => absurd q (by decide), fun _ => ?_⟩
    refine c4_whoHas _ 23 rg23 n t kd th stp ngt M _ hC (okR_T hok).1 (okR_7 hok) (by omega) ?_
    apply rX8_holder
    refine c8_y1 _ t 9 _ _ h1 h9 (by omega) ⟨fun q => absurd q (by decide), fun _ => ?_⟩
    exact c8_holderIn _ 0 n t kd th stp ngt M _ hM inW0 (okR_T hok).1 (okR_7 hok) (by omega) ⟨rfl, hI⟩
theorem L_kind (v1 : Int32) (M : Mm) (hI : Inv M) : kX7_kind 40 v1 M (fun r1 M1 => kX8_kind 40 v1 M1 (fun r2 M2 => r1 = r2 ∧ Inv M2)) := by
  obtain ⟨n, kd, th, stp, ngt, hC, hM, hok, -⟩ := hI.2.2.1
  have h7 := okR_7 hok
  apply rX7_kind
  rcases s_ix v1 h7 with h1 | ⟨s, hs, rfl⟩
  · refine c4_sn _ 23 rg23 n _ _ _ hC.1 h1 ⟨fun _ => ?_, fun q => absurd rfl q⟩
    apply rX8_kind
    exact c8_sn _ n _ _ _ hM.1 h7 h1 ⟨fun _ => ⟨rfl, hI⟩, fun q => absurd rfl q⟩
  · refine c4_sy _ 23 rg23 n s _ _ hC.1 h7 hs ⟨fun q => absurd q (by decide), fun _ => ⟨vp_in_nI (by omega) (by omega), ?_⟩⟩
    apply rX8_kind
    refine c8_sy _ n s _ _ hM.1 h7 hs ⟨fun q => absurd q (by decide), fun _ => ?_⟩
    have e1 : M 24 s = nI (kd s) := hC.2.2.2.1 s hs
    have e2 : M 50 (0 + 10 + s) = nI (kd s) := hM.2.2.2.2 s hs
    rw [Nat.zero_add] at e2
    simp (disch := omega) only [li_0, li_1, li_2, li_3, li_4, li_5, li_6, li_7, li_8, li_9, li_10, li_16, li_17, li_20, li_24, li_34, li_40, li_50, li_60, li_68, li_85, li_200, li_9999, nI_add, nI_clamp, vpT, nI_leI, nI_ltI, nI_eq, irem_nI, true_and, and_true, forall_eq, not_true_eq_false, not_false_eq_true, forall_const, false_and, and_false, false_imp_iff, true_imp_iff, imp_self, e1, e2]
    exact hI
theorem L_saint (v1 v2 : Int32) (M : Mm) (hI : Inv M) : kX7_saint 40 v1 v2 M (fun r1 M1 => kX8_saint 40 v1 v2 M1 (fun r2 M2 => r1 = r2 ∧ Inv M2)) := by
  obtain ⟨n, kd, th, stp, ngt, hC, hM, hok, -⟩ := hI.2.2.1
  have h7 := okR_7 hok
  apply rX7_saint
  rcases s_ix v1 h7 with h1 | ⟨s, hs, rfl⟩
  · refine c4_sn _ 23 rg23 n _ _ _ hC.1 h1 ⟨fun _ => ?_, fun q => absurd rfl q⟩
    apply rX8_saint
    exact c8_sn _ n _ _ _ hM.1 h7 h1 ⟨fun _ => ⟨rfl, hI⟩, fun q => absurd rfl q⟩
  · refine c4_sy _ 23 rg23 n s _ _ hC.1 h7 hs ⟨fun q => absurd q (by decide), fun _ => c7_fs _ _ _ _ ?_⟩
    have m1 : ∀ (Q : Int32 → Mm → Prop), ((¬ (if v2 = 0 ∨ v2 = 1 then (1 : Int32) else 0) = 0 → ((¬ v2 = 0 → kX8_lets 39 0 (nI s) M (fun r3 M3 => ((r3 = 0 → Q 0 M3) ∧ (¬ r3 = 0 → Q 1 M3)))) ∧ (v2 = 0 → vp_in (3 + nI s) 301 ∧ Q (M 50 (3 + nI s).toNatClampNeg) M))) ∧ ((if v2 = 0 ∨ v2 = 1 then (1 : Int32) else 0) = 0 → Q (-1000001) M)) → kX8_saint 40 (nI s) v2 M Q := by
      intro Q h
      apply rX8_saint
      exact c8_sy _ n s _ _ hM.1 h7 hs ⟨fun q => absurd q (by decide), fun _ => c8_fs _ _ _ _ h⟩
    rcases fs_ix v2 with rfl | rfl | ⟨g1, g2⟩
    · rw [if_pos (Or.inl rfl)] at *
      refine ⟨fun _ => ⟨fun q => absurd rfl q, fun _ => ⟨vp_in_nI (by omega) (by omega), m1 _ ⟨fun _ => ⟨fun q => absurd rfl q, fun _ => ?_⟩, fun q => absurd q (by decide)⟩⟩⟩, fun q => absurd q (by decide)⟩
      have e1 : M 25 s = nI (th s) := hC.2.2.2.2 s hs
      have e2 : M 50 (0 + 3 + s) = nI (th s) := hM.2.2.2.1 s hs
      rw [Nat.zero_add] at e2
      simp (disch := omega) only [li_0, li_1, li_2, li_3, li_4, li_5, li_6, li_7, li_8, li_9, li_10, li_16, li_17, li_20, li_24, li_34, li_40, li_50, li_60, li_68, li_85, li_200, li_9999, nI_add, nI_clamp, vpT, nI_leI, nI_ltI, nI_eq, irem_nI, true_and, and_true, forall_eq, not_true_eq_false, not_false_eq_true, forall_const, false_and, and_false, false_imp_iff, true_imp_iff, imp_self, e1, e2]
      exact hI
    · rw [if_pos (Or.inr rfl)] at *
      refine ⟨fun _ => ⟨fun _ => ?_, fun q => absurd q (by decide)⟩, fun q => absurd q (by decide)⟩
      refine c4_lets _ 23 rg23 n s kd th stp ngt M _ hC (okR_T hok).2 (okR_T hok).1 h7 hs ?_
      by_cases c : th s = 0 ∨ kd s < 4
      · rw [if_pos c]
        refine ⟨fun q => absurd q (by decide), fun _ => m1 _ ⟨fun _ => ⟨fun _ => ?_, fun q => absurd q (by decide)⟩, fun q => absurd q (by decide)⟩⟩
        refine c8_lets _ 0 n s kd th stp ngt M _ hM inW0 (okR_T hok).2 (okR_T hok).1 h7 hs ?_
        rw [if_pos c]
        exact ⟨fun q => absurd q (by decide), fun _ => ⟨rfl, hI⟩⟩
      · rw [if_neg c]
        refine ⟨fun _ => m1 _ ⟨fun _ => ⟨fun _ => ?_, fun q => absurd q (by decide)⟩, fun q => absurd q (by decide)⟩, fun q => absurd rfl q⟩
        refine c8_lets _ 0 n s kd th stp ngt M _ hM inW0 (okR_T hok).2 (okR_T hok).1 h7 hs ?_
        rw [if_neg c]
        exact ⟨fun _ => ⟨rfl, hI⟩, fun q => absurd rfl q⟩
    · rw [if_neg (fun z => z.elim g1 g2)] at *
      exact ⟨fun q => absurd rfl q, fun _ => m1 _ ⟨fun q => absurd rfl q, fun _ => ⟨rfl, hI⟩⟩⟩
theorem L_trace (v1 : Int32) (M : Mm) (hI : Inv M) : kX7_trace 40 v1 M (fun r1 M1 => kX8_trace 40 v1 M1 (fun r2 M2 => r1 = r2 ∧ Inv M2)) := by
  obtain ⟨tn, h16, e1, e2, e3⟩ := hI.2.2.2.2.2
  apply rX7_trace
  rw [e1]
  have e : (nI tn - 1).toInt = (tn : Int) - 1 := pk_sub_toInt (a := tn) (b := 1) (by omega) (by omega)
  have e0 : (0 : Int32).toInt = 0 := rfl
  have en : (nI tn).toInt = tn := nI_toInt (by omega)
  have hc : (0 ≤ v1 ∧ v1 ≤ nI tn - 1) ↔ (¬ v1 < 0 ∧ ¬ nI tn ≤ v1) := by
    rw [fa_le, fa_le, fa_lt, fa_le, e, e0, en]
    omega
  have no : ¬ (¬ v1 < 0 ∧ ¬ nI tn ≤ v1) → kX8_trace 40 v1 M (fun r2 M2 => -1000000 = r2 ∧ Inv M2) := by
    intro c
    apply rX8_trace
    rw [e2]
    refine c8_inI _ v1 0 (nI tn - 1) M _ ?_
    rw [if_neg (fun q => c (hc.mp q))]
    exact ⟨fun _ => ⟨rfl, hI⟩, fun q => absurd rfl q⟩
  refine ⟨fun q => no (fun z => z.1 q), fun q => ⟨fun q2 => no (fun z => z.2 q2), fun q2 => ?_⟩⟩
  obtain ⟨j, hj, rfl⟩ : ∃ j, j < tn ∧ v1 = nI j := by
    rcases pk_ix v1 (n := tn) (by omega) with h | h | h
    · exact absurd h q
    · exact absurd h q2
    · exact h
  refine ⟨vp_in_nI (by omega) (by omega), ?_⟩
  apply rX8_trace
  rw [e2]
  refine c8_inI _ (nI j) 0 (nI tn - 1) M _ ?_
  rw [if_pos (hc.mpr ⟨q, q2⟩)]
  refine ⟨fun q => absurd q (by decide), fun _ => ⟨vp_in_nI (by omega) (by omega), ?_, hI⟩⟩
  rw [nI_clamp (by omega)]
  exact e3 j hj
