/-! FORETOLD: ahead, when, pray, round -/
def itT (n : Nat) (kd : Nat → Nat) (ngt : Nat) : Nat → Nat → (Nat → Nat) → Nat → Nat
  | 0, _, th => th
  | k + 1, stp, th => itT n kd ngt k (stp + 1) (stepS n kd ngt stp 0 th)
/-- a ring that goes on -/
abbrev okG (n : Nat) (kd : Nat → Nat) (ngt : Nat) : Prop := n ≤ 7 ∧ okK n kd ∧ 1 ≤ ngt ∧ ngt ≤ 9
/-- only the trial changes; only the tried block -/
def frC (M M' : Mm) : Prop := ∀ k, k ≠ 26 → k ≠ 27 → k ≠ 28 → M' k = M k
def frM (M M' : Mm) : Prop := (∀ k, k ≠ 50 → M' k = M k) ∧ ∀ i, (i < 17 ∨ 34 ≤ i) → M' 50 i = M 50 i
theorem frC_tr {M M' M'' : Mm} (h : frC M M') (g : frC M' M'') : frC M M'' := fun k a b c => (g k a b c).trans (h k a b c)
theorem frM_tr {M M' M'' : Mm} (h : frM M M') (g : frM M' M'') : frM M M'' := ⟨fun k a => (g.1 k a).trans (h.1 k a), fun i hi => (g.2 i hi).trans (h.2 i hi)⟩
theorem frC_rf {M : Mm} : frC M M := fun _ _ _ _ => rfl
theorem frM_rf {M : Mm} : frM M M := ⟨fun _ _ => rfl, fun _ _ => rfl⟩
theorem frM_k {M M' : Mm} {n : Nat} (h : keepM M M' 17 n) (hn : n ≤ 7) : frM M M' := ⟨h.1, fun i hi => h.2 i (by omega)⟩
theorem scr_fr {M M1 M2 : Mm} (h : frC M M1) (g : frM M1 M2) : scr M M2 := by
  refine ⟨fun k a1 a2 a3 a4 a5 a6 a7 a8 a9 b1 b2 b3 b4 b5 b6 b7 b8 b9 c1 c2 c3 c4 c5 c6 => by rw [g.1 k b6, h k a5 a6 a7], fun j hj => by rw [g.1 18 (by omega), h 18 (by omega) (by omega) (by omega)], by rw [g.1 20 (by omega), h 20 (by omega) (by omega) (by omega)], fun j _ _ _ => by rw [g.1 49 (by omega), h 49 (by omega) (by omega) (by omega)], fun i hi => by rw [g.2 i (by omega), h 50 (by omega) (by omega) (by omega)]⟩
/-- one step of the trial, of the tried block -/
theorem t4_adv (d n : Nat) (kd th : Nat → Nat) (stp ngt : Nat) (M : Mm) (Q : Int32 → Mm → Prop) (hR : RgC M 26 n kd th stp ngt) (hG : okG n kd ngt) (ht : okT n th) (hstp : stp < 2 ^ 30) (h : ∀ M', RgC M' 26 n kd (stepS n kd ngt stp 0 th) (stp + 1) ngt → frC M M' → Q 0 M') : kX4_advance (d + 3) 26 (0 : Int32) M Q :=
  c4_advance d 26 rg26 n kd th stp ngt 0 M Q hR hG.2.1 ht hG.1 hstp hG.2.2 (by omega) (fun M' g1 g2 => h M' g1 (fun k a b c => g2 k a c))
theorem t8_adv (d n : Nat) (kd th : Nat → Nat) (stp ngt : Nat) (M : Mm) (Q : Int32 → Mm → Prop) (hR : RgM M 17 n kd th stp ngt) (hG : okG n kd ngt) (ht : okT n th) (hstp : stp < 2 ^ 30) (h : ∀ M', RgM M' 17 n kd (stepS n kd ngt stp 0 th) (stp + 1) ngt → frM M M' → Q 0 M') : kX8_stepsBy (d + 2) (17 : Int32) (0 : Int32) M Q :=
  c8_stepsBy d 17 n kd th stp ngt 0 M Q hR inW17 hG.2.1 ht hG.1 hstp hG.2.2 (by omega) (fun M' g1 g2 => h M' g1 (frM_k g2 hG.1))
theorem t4_become (d n : Nat) (kd th : Nat → Nat) (stp ngt : Nat) (M : Mm) (Q : Int32 → Mm → Prop) (hR : RgC M 23 n kd th stp ngt) (h7 : n ≤ 7) (h : ∀ M', RgC M' 26 n kd th stp ngt → frC M M' → Q 0 M') : kX4_become (d + 1) 26 23 M Q :=
  c4_become d 26 23 rg26 rg23 (by omega) n kd th stp ngt M Q hR h7 (fun M' g1 g2 => h M' g1 (fun k a b c => g2 k a b c))
theorem t8_tries (d n : Nat) (kd th : Nat → Nat) (stp ngt : Nat) (M : Mm) (Q : Int32 → Mm → Prop) (hR : RgM M 0 n kd th stp ngt) (h7 : n ≤ 7) (h : ∀ M', RgM M' 17 n kd th stp ngt → frM M M' → Q 0 M') : kX8_tries (d + 1) M Q :=
  c8_tries d n kd th stp ngt M Q hR h7 (fun M' g1 g2 g3 => h M' g1 ⟨g2, g3⟩)
theorem RgM_fr {M M' : Mm} {n : Nat} {kd th : Nat → Nat} {stp ngt : Nat} (h : RgM M 0 n kd th stp ngt) (h7 : n ≤ 7) (g : frC M M') : RgM M' 0 n kd th stp ngt := RgM_c h h7 (fun i _ _ => by rw [g 50 (by omega) (by omega) (by omega)])
theorem c7_aheadLoop (d n s D : Nat) (kd : Nat → Nat) (ngt : Nat) (Q : Int32 → Mm → Prop) (hG : okG n kd ngt) (hs : s < n) (hD : D ≤ 60) : ∀ (k : Nat) (M : Mm) (th : Nat → Nat) (stp : Nat), k ≤ D → RgC M 26 n kd th stp ngt → okT n th → stp + k < 2 ^ 29 → (∀ M', frC M M' → Q (nI (itT n kd ngt k stp th s)) M') →
    BX7_ahead (d + 4) 37 [(0, .ref 0), (1, .int (nI s)), (2, .int (nI D)), (3, .int (nI (D - k)))] [] M Q
  | 0, M, th, stp, _, hR, ht, hst, h => by
    apply rX7_ahead_37
    have h7 := hG.1
    have e2 : M 28 s = nI (th s) := hR.2.2.2.2 s hs
    simp (disch := omega) only [li_0, li_1, li_2, li_3, li_4, li_5, li_6, li_7, li_8, li_9, li_10, li_16, li_17, li_20, li_24, li_34, li_40, li_50, li_60, li_68, li_85, li_200, li_9999, nI_add, nI_clamp, vpT, nI_leI, nI_ltI, nI_eq, irem_nI, true_and, and_true, forall_eq, not_true_eq_false, not_false_eq_true, forall_const, false_and, and_false, false_imp_iff, true_imp_iff, imp_self, e2]
    exact ⟨fun _ => h M frC_rf, fun q => by omega⟩
  | k + 1, M, th, stp, hk, hR, ht, hst, h => by
    apply rX7_ahead_37
    have e : D - (k + 1) + 1 = D - k := by omega
    rw [show nI (D - (k + 1)) + 1 = nI (D - k) by rw [nI_1, e]]
    refine ⟨fun q => absurd q (nI_ge (by omega) (by omega)), fun _ => ?_⟩
    exact t4_adv d n kd th stp ngt M _ hR hG ht (by omega) (fun M1 g1 g2 => c7_aheadLoop d n s D kd ngt Q hG hs hD k M1 _ (stp + 1) (by omega) g1 (okT_step ht) (by omega) (fun M' g3 => h M' (frC_tr g2 g3)))
theorem c8_goesLoop (d n D : Nat) (kd : Nat → Nat) (ngt : Nat) (Q : Int32 → Mm → Prop) (hG : okG n kd ngt) (hD : D ≤ 60) : ∀ (k : Nat) (M : Mm) (th : Nat → Nat) (stp : Nat), k ≤ D → RgM M 17 n kd th stp ngt → okT n th → stp + k < 2 ^ 29 → (∀ M', RgM M' 17 n kd (itT n kd ngt k stp th) (stp + k) ngt → frM M M' → Q 0 M') →
    BX8_goesOn (d + 3) 2 [(0, .ref 49), (1, .int (nI D)), (2, .int (nI (D - k)))] [] M Q
  | 0, M, th, stp, _, hR, ht, hst, h => by
    apply rX8_goesOn_2
    simp (disch := omega) only [li_0, li_1, li_2, li_3, li_4, li_5, li_6, li_7, li_8, li_9, li_10, li_16, li_17, li_20, li_24, li_34, li_40, li_50, li_60, li_68, li_85, li_200, li_9999, nI_add, nI_clamp, vpT, nI_leI, nI_ltI, nI_eq, irem_nI, true_and, and_true, forall_eq, not_true_eq_false, not_false_eq_true, forall_const, false_and, and_false, false_imp_iff, true_imp_iff, imp_self]
    exact ⟨fun _ => h M hR frM_rf, fun q => by omega⟩
  | k + 1, M, th, stp, hk, hR, ht, hst, h => by
    apply rX8_goesOn_2
    have e : D - (k + 1) + 1 = D - k := by omega
    rw [show nI (D - (k + 1)) + 1 = nI (D - k) by rw [nI_1, e]]
    refine ⟨fun q => absurd q (nI_ge (by omega) (by omega)), fun _ => ?_⟩
    exact t8_adv d n kd th stp ngt M _ hR hG ht (by omega) (fun M1 g1 g2 => c8_goesLoop d n D kd ngt Q hG hD k M1 _ (stp + 1) (by omega) g1 (okT_step ht) (by omega) (fun M' g3 g4 => h M' (by rw [itT, show stp + (k + 1) = stp + 1 + k by omega]; exact g3) (frM_tr g2 g4)))
theorem okR_G {n : Nat} {kd th : Nat → Nat} {stp ngt : Nat} (h : okR n kd th stp ngt) (hn : 0 < n) : okG n kd ngt ∧ stp ≤ 9999 := by
  rcases h with h | h
  · omega
  · exact ⟨⟨h.2.1, h.2.2.1, h.2.2.2.2.2.2⟩, h.2.2.2.2.2.1⟩
theorem L_ahead (v1 v2 : Int32) (M : Mm) (hI : Inv M) : kX7_ahead 40 v1 v2 M (fun r1 M1 => kX8_ahead 40 v1 v2 M1 (fun r2 M2 => r1 = r2 ∧ Inv M2)) := by
  obtain ⟨n, kd, th, stp, ngt, hC, hM, hok, -⟩ := hI.2.2.1
  have h7 := okR_7 hok
  apply rX7_ahead
  rcases s_ix v1 h7 with h1 | ⟨s, hs, rfl⟩
  · refine c4_sn _ 23 rg23 n _ _ _ hC.1 h1 ⟨fun _ => ?_, fun q => absurd rfl q⟩
    apply rX8_ahead
    exact c8_sn _ n _ _ _ hM.1 h7 h1 ⟨fun _ => ⟨rfl, hI⟩, fun q => absurd rfl q⟩
  · obtain ⟨hG, hst⟩ := okR_G hok (by omega)
    refine c4_sy _ 23 rg23 n s _ _ hC.1 h7 hs ⟨fun q => absurd q (by decide), fun _ => ?_⟩
    rcases pk_ix v2 (n := 61) (by omega) with h2 | h2 | ⟨D, hD, rfl⟩
    · refine ⟨fun _ => ?_, fun q => absurd h2 q⟩
      apply rX8_ahead
      exact c8_sy _ n s _ _ hM.1 h7 hs ⟨fun q => absurd q (by decide), fun _ => c8_n _ 60 _ _ _ (by omega) (Or.inl h2) ⟨fun q => absurd rfl q, fun _ => ⟨rfl, hI⟩⟩⟩
    · refine ⟨fun q => absurd q (big_pos h2 (by omega)), fun _ => ⟨fun q => absurd q (big_gt (m := 60) h2 (by omega) (by omega)), fun _ => ?_⟩⟩
      apply rX8_ahead
      exact c8_sy _ n s _ _ hM.1 h7 hs ⟨fun q => absurd q (by decide), fun _ => c8_n _ 60 _ _ _ (by omega) (Or.inr h2) ⟨fun q => absurd rfl q, fun _ => ⟨rfl, hI⟩⟩⟩
    · refine ⟨fun q => absurd q (nI_pos (by omega)), fun _ => ⟨fun _ => ?_, fun q => absurd (nI_le (a := D) (b := 60) (by omega) (by omega)) q⟩⟩
      refine t4_become _ n kd th stp ngt M _ hC h7 (fun M1 g1 g2 => ?_)
      have := c7_aheadLoop 36 n s D kd ngt (fun r1 M1 => kX8_ahead 40 (nI s) (nI D) M1 (fun r2 M2 => r1 = r2 ∧ Inv M2)) hG hs (by omega) D M1 th stp (Nat.le_refl D) g1 (okR_T hok).1 (by omega) (fun M2 g3 => ?_)
      · rw [Nat.sub_self] at this
        exact this
      · have fr := frC_tr g2 g3
        have hM2 := RgM_fr hM h7 fr
        apply rX8_ahead
        refine c8_sy _ n s _ _ hM2.1 h7 hs ⟨fun q => absurd q (by decide), fun _ => c8_y _ D 60 _ _ (by omega) (by omega) ⟨fun _ => ?_, fun q => absurd q (by decide)⟩⟩
        refine t8_tries _ n kd th stp ngt M2 _ hM2 h7 (fun M3 g4 g5 => ?_)
        apply rX8_goesOn
        have := c8_goesLoop 36 n D kd ngt (fun _r4 M4 => vp_in (20 + nI s) 301 ∧ (nI (itT n kd ngt D stp th s) = M4 50 (20 + nI s).toNatClampNeg ∧ Inv M4)) hG (by omega) D M3 th stp (Nat.le_refl D) g4 (okR_T hok).1 (by omega) (fun M4 g6 g7 => ?_)
        · rw [Nat.sub_self] at this
          exact this
        · have e2 : M4 50 (17 + 3 + s) = nI (itT n kd ngt D stp th s) := g6.2.2.2.1 s hs
          rw [show (20 : Int32) + nI s = nI (20 + s) by rw [li_20, nI_add], nI_clamp (by omega)]
          exact ⟨vp_in_nI (by omega) (by omega), by rw [← e2], Inv_s hI (scr_fr fr (frM_tr g5 g7))⟩
/-- when -/
def whnS (n : Nat) (kd : Nat → Nat) (ngt s t : Nat) : Nat → Nat → (Nat → Nat) → Int32
  | 0, _, _ => -1000000
  | k + 1, stp, th => if th s = t then nI (61 - (k + 1)) else whnS n kd ngt s t k (stp + 1) (stepS n kd ngt stp 0 th)
theorem c7_whenLoop (d n s t : Nat) (kd : Nat → Nat) (ngt : Nat) (Q : Int32 → Mm → Prop) (hG : okG n kd ngt) (hs : s < n) (h9 : t ≤ 9) : ∀ (k : Nat) (M : Mm) (th : Nat → Nat) (stp : Nat), k ≤ 61 → RgC M 26 n kd th stp ngt → okT n th → stp + k < 2 ^ 29 → (∀ M', frC M M' → Q (whnS n kd ngt s t k stp th) M') →
    BX7_when (d + 4) 34 [(0, .ref 0), (1, .int (nI s)), (2, .int (nI t)), (3, .int (nI (61 - k)))] [] M Q
  | 0, M, th, stp, _, hR, ht, hst, h => by
    apply rX7_when_34
    exact ⟨fun _ => h M frC_rf, fun q => absurd (nI_lt (a := 60) (b := 61 - 0) (by omega) (by omega)) q⟩
  | k + 1, M, th, stp, hk, hR, ht, hst, h => by
    apply rX7_when_34
    have h7 := hG.1
    have ht1 := ht s hs
    have e : 61 - (k + 1) + 1 = 61 - k := by omega
    have e2 : M 28 s = nI (th s) := hR.2.2.2.2 s hs
    rw [show nI (61 - (k + 1)) + 1 = nI (61 - k) by rw [nI_1, e], nI_clamp (by omega), e2]
    refine ⟨fun q => absurd q (nI_nlt (a := 60) (by omega) (by omega)), fun _ => ⟨vp_in_nI (by omega) (by omega), ?_⟩⟩
    simp (disch := omega) only [nI_eq]
    refine ⟨fun q => ?_, fun q => ?_⟩
    · refine t4_adv d n kd th stp ngt M _ hR hG ht (by omega) (fun M1 g1 g2 => c7_whenLoop d n s t kd ngt Q hG hs h9 k M1 _ (stp + 1) (by omega) g1 (okT_step ht) (by omega) (fun M' g3 => ?_))
      have := h M' (frC_tr g2 g3)
      rw [whnS, if_neg q] at this
      exact this
    · have := h M frC_rf
      rw [whnS, if_pos q] at this
      exact this
theorem c8_whenLoop (d n s t : Nat) (kd : Nat → Nat) (ngt : Nat) (Q : Int32 → Mm → Prop) (hG : okG n kd ngt) (hs : s < n) (h9 : t ≤ 9) : ∀ (k : Nat) (M : Mm) (th : Nat → Nat) (stp : Nat), k ≤ 61 → RgM M 17 n kd th stp ngt → okT n th → stp + k < 2 ^ 29 → (∀ M', frM M M' → Q (whnS n kd ngt s t k stp th) M') →
    BX8_when (d + 3) 29 [(0, .ref 49), (1, .int (nI s)), (2, .int (nI t)), (3, .int (nI (61 - k)))] [] M Q
  | 0, M, th, stp, _, hR, ht, hst, h => by
    apply rX8_when_29
    exact ⟨fun _ => h M frM_rf, fun q => absurd (nI_lt (a := 60) (b := 61 - 0) (by omega) (by omega)) q⟩
  | k + 1, M, th, stp, hk, hR, ht, hst, h => by
    apply rX8_when_29
    have h7 := hG.1
    have ht1 := ht s hs
    have e : 61 - (k + 1) + 1 = 61 - k := by omega
    have e2 : M 50 (17 + 3 + s) = nI (th s) := hR.2.2.2.1 s hs
    rw [show nI (61 - (k + 1)) + 1 = nI (61 - k) by rw [nI_1, e], show (20 : Int32) + nI s = nI (17 + 3 + s) by rw [li_20, nI_add], nI_clamp (by omega), e2]
    refine ⟨fun q => absurd q (nI_nlt (a := 60) (by omega) (by omega)), fun _ => ⟨vp_in_nI (by omega) (by omega), ?_⟩⟩
    simp (disch := omega) only [nI_eq]
    refine ⟨fun q => ?_, fun q => ?_⟩
    · refine t8_adv d n kd th stp ngt M _ hR hG ht (by omega) (fun M1 g1 g2 => c8_whenLoop d n s t kd ngt Q hG hs h9 k M1 _ (stp + 1) (by omega) g1 (okT_step ht) (by omega) (fun M' g3 => ?_))
      have := h M' (frM_tr g2 g3)
      rw [whnS, if_neg q] at this
      exact this
    · have := h M frM_rf
      rw [whnS, if_pos q] at this
      exact this
theorem L_when (v1 v2 : Int32) (M : Mm) (hI : Inv M) : kX7_when 40 v1 v2 M (fun r1 M1 => kX8_when 40 v1 v2 M1 (fun r2 M2 => r1 = r2 ∧ Inv M2)) := by
  obtain ⟨n, kd, th, stp, ngt, hC, hM, hok, -⟩ := hI.2.2.1
  have h7 := okR_7 hok
  apply rX7_when
  rcases s_ix v1 h7 with h1 | ⟨s, hs, rfl⟩
  · refine c4_sn _ 23 rg23 n _ _ _ hC.1 h1 ⟨fun _ => ?_, fun q => absurd rfl q⟩
    apply rX8_when
    exact c8_sn _ n _ _ _ hM.1 h7 h1 ⟨fun _ => ⟨rfl, hI⟩, fun q => absurd rfl q⟩
  · obtain ⟨hG, hst⟩ := okR_G hok (by omega)
    refine c4_sy _ 23 rg23 n s _ _ hC.1 h7 hs ⟨fun q => absurd q (by decide), fun _ => ?_⟩
    rcases t_ix v2 with h2 | ⟨t, ht1, ht9, rfl⟩
    · refine c7_tn _ _ _ _ h2 ⟨fun q => absurd rfl q, fun _ => ?_⟩
      apply rX8_when
      exact c8_sy _ n s _ _ hM.1 h7 hs ⟨fun q => absurd q (by decide), fun _ => c8_n1 _ 9 _ _ _ (by omega) h2 ⟨fun q => absurd rfl q, fun _ => ⟨rfl, hI⟩⟩⟩
    · refine c7_ty _ t _ _ ht1 ht9 ⟨fun _ => ?_, fun q => absurd q (by decide)⟩
      refine t4_become _ n kd th stp ngt M _ hC h7 (fun M1 g1 g2 => ?_)
      refine c7_whenLoop 36 n s t kd ngt _ hG hs ht9 61 M1 th stp (Nat.le_refl 61) g1 (okR_T hok).1 (by omega) (fun M2 g3 => ?_)
      have fr := frC_tr g2 g3
      have hM2 := RgM_fr hM h7 fr
      apply rX8_when
      refine c8_sy _ n s _ _ hM2.1 h7 hs ⟨fun q => absurd q (by decide), fun _ => c8_y1 _ t 9 _ _ ht1 ht9 (by omega) ⟨fun _ => ?_, fun q => absurd q (by decide)⟩⟩
      refine t8_tries _ n kd th stp ngt M2 _ hM2 h7 (fun M3 g4 g5 => ?_)
      exact c8_whenLoop 37 n s t kd ngt _ hG hs ht9 61 M3 th stp (Nat.le_refl 61) g4 (okR_T hok).1 (by omega) (fun M4 g6 => ⟨rfl, Inv_s hI (scr_fr fr (frM_tr g5 g6))⟩)
/-- to Matins -/
def tomS (n : Nat) (kd : Nat → Nat) (ngt : Nat) : Nat → Nat → (Nat → Nat) → Nat → Nat
  | 0, _, th => th
  | k + 1, stp, th => if stp % ngt = 0 then th else tomS n kd ngt k (stp + 1) (stepS n kd ngt stp 0 th)
def toM (n : Nat) (kd : Nat → Nat) (ngt stp : Nat) (th : Nat → Nat) : Nat → Nat := tomS n kd ngt 8 (stp + 1) (stepS n kd ngt stp 0 th)
theorem okT_tom {n : Nat} {kd : Nat → Nat} {ngt : Nat} : ∀ (k stp : Nat) (th : Nat → Nat), okT n th → okT n (tomS n kd ngt k stp th)
  | 0, _, _, h => h
  | k + 1, stp, th, h => by
    rw [tomS]
    split
    · exact h
    · exact okT_tom k _ _ (okT_step h)
theorem c4_tomLoop (d n : Nat) (kd : Nat → Nat) (ngt : Nat) (Q : Int32 → Mm → Prop) (hG : okG n kd ngt) : ∀ (k : Nat) (M : Mm) (th : Nat → Nat) (stp : Nat), k ≤ 8 → RgC M 26 n kd th stp ngt → okT n th → stp + k < 2 ^ 29 → (∀ M' stp', RgC M' 26 n kd (tomS n kd ngt k stp th) stp' ngt → frC M M' → Q 0 M') →
    BX4_advanceToMatins (d + 4) 7 [(0, .ref 26), (1, .int (nI (9 - k)))] [] M Q
  | 0, M, th, stp, _, hR, ht, hst, h => by
    apply rX4_advanceToMatins_7 _ _ rg26
    exact ⟨fun _ => h M stp hR frC_rf, fun q => absurd (nI_le (a := 9) (b := 9 - 0) (by omega) (by omega)) q⟩
  | k + 1, M, th, stp, hk, hR, ht, hst, h => by
    apply rX4_advanceToMatins_7 _ _ rg26
    have e : 9 - (k + 1) + 1 = 9 - k := by omega
    rw [show nI (9 - (k + 1)) + 1 = nI (9 - k) by rw [nI_1, e]]
    refine ⟨fun q => absurd q (nI_ge (a := 9 - (k + 1)) (b := 9) (by omega) (by omega)), fun _ => ?_⟩
    refine c4_isMatins _ 26 rg26 stp ngt M _ hR.2.1 hR.2.2.1 (by omega) hG.2.2 ?_
    by_cases c : stp % ngt = 0
    · rw [if_pos c]
      refine ⟨fun _ => h M stp ?_ frC_rf, fun q => absurd q (by decide)⟩
      rw [tomS, if_pos c]; exact hR
    · rw [if_neg c]
      refine ⟨fun q => absurd rfl q, fun _ => ?_⟩
      refine t4_adv d n kd th stp ngt M _ hR hG ht (by omega) (fun M1 g1 g2 => c4_tomLoop d n kd ngt Q hG k M1 _ (stp + 1) (by omega) g1 (okT_step ht) (by omega) (fun M' stp' g3 g4 => h M' stp' ?_ (frC_tr g2 g4)))
      rw [tomS, if_neg c]; exact g3
theorem c8_tomLoop (d n : Nat) (kd : Nat → Nat) (ngt : Nat) (Q : Int32 → Mm → Prop) (hG : okG n kd ngt) : ∀ (k : Nat) (M : Mm) (th : Nat → Nat) (stp : Nat), (∃ j, j ≤ k ∧ (stp + j) % ngt = 0) → RgM M 17 n kd th stp ngt → okT n th → stp + k < 2 ^ 29 → (∀ M' stp', RgM M' 17 n kd (tomS n kd ngt k stp th) stp' ngt → frM M M' → Q 0 M') →
    BX8_toMatins (d + 3) 7 [(0, .ref 49)] [] M Q
  | k, M, th, stp, hj, hR, ht, hst, h => by
    apply rX8_toMatins_7
    have e1 : M 50 18 = nI ngt := hR.2.1
    have e2 : M 50 19 = nI stp := hR.2.2.1
    have c18 : (18 : Int32).toNatClampNeg = 18 := rfl
    have c19 : (19 : Int32).toNatClampNeg = 19 := rfl
    have hn := hG.2.2
    have hm : stp % ngt < ngt := Nat.mod_lt _ (by omega)
    rw [c18, c19, e1, e2, irem_nI (by omega) (by omega) (by omega)]
    refine ⟨vp_in_nI (n := 19) (by omega) (by omega), vp_in_nI (n := 18) (by omega) (by omega), nI_ne0 (by omega) (by omega), ?_⟩
    rw [li_0]
    simp (disch := omega) only [nI_eq]
    refine ⟨fun q => ?_, fun q => ?_⟩
    · cases k with
      | zero => exact h M stp hR frM_rf
      | succ k =>
        refine h M stp ?_ frM_rf
        rw [tomS, if_pos q]; exact hR
    · cases k with
      | zero =>
        obtain ⟨j, h1, h2⟩ := hj
        rw [show j = 0 by omega, Nat.add_zero] at h2
        exact absurd h2 q
      | succ k =>
        refine t8_adv d n kd th stp ngt M _ hR hG ht (by omega) (fun M1 g1 g2 => c8_tomLoop d n kd ngt Q hG k M1 _ (stp + 1) ?_ g1 (okT_step ht) (by omega) (fun M' stp' g3 g4 => h M' stp' ?_ (frM_tr g2 g4)))
        · obtain ⟨j, h1, h2⟩ := hj
          rcases Nat.eq_zero_or_pos j with z | z
          · rw [z, Nat.add_zero] at h2; exact absurd h2 q
          · exact ⟨j - 1, by omega, by rw [show stp + 1 + (j - 1) = stp + j by omega]; exact h2⟩
        · rw [tomS, if_neg q]; exact g3
theorem mat_near (stp ngt : Nat) (h : 1 ≤ ngt ∧ ngt ≤ 9) : ∃ j, j ≤ 8 ∧ (stp + j) % ngt = 0 := by
  obtain ⟨h1, h2⟩ := h
  rcases (show ngt = 1 ∨ ngt = 2 ∨ ngt = 3 ∨ ngt = 4 ∨ ngt = 5 ∨ ngt = 6 ∨ ngt = 7 ∨ ngt = 8 ∨ ngt = 9 by omega) with rfl | rfl | rfl | rfl | rfl | rfl | rfl | rfl | rfl
  · exact ⟨0, by omega, by omega⟩
  · exact ⟨(2 - stp % 2) % 2, by omega, by omega⟩
  · exact ⟨(3 - stp % 3) % 3, by omega, by omega⟩
  · exact ⟨(4 - stp % 4) % 4, by omega, by omega⟩
  · exact ⟨(5 - stp % 5) % 5, by omega, by omega⟩
  · exact ⟨(6 - stp % 6) % 6, by omega, by omega⟩
  · exact ⟨(7 - stp % 7) % 7, by omega, by omega⟩
  · exact ⟨(8 - stp % 8) % 8, by omega, by omega⟩
  · exact ⟨(9 - stp % 9) % 9, by omega, by omega⟩
theorem t4_tom (d n : Nat) (kd th : Nat → Nat) (stp ngt : Nat) (M : Mm) (Q : Int32 → Mm → Prop) (hR : RgC M 26 n kd th stp ngt) (hG : okG n kd ngt) (ht : okT n th) (hstp : stp < 2 ^ 28) (h : ∀ M' stp', RgC M' 26 n kd (toM n kd ngt stp th) stp' ngt → frC M M' → Q 0 M') : kX4_advanceToMatins (d + 4) 26 M Q := by
  apply rX4_advanceToMatins _ _ rg26
  exact t4_adv d n kd th stp ngt M _ hR hG ht (by omega) (fun M1 g1 g2 => c4_tomLoop d n kd ngt _ hG 8 M1 _ (stp + 1) (Nat.le_refl 8) g1 (okT_step ht) (by omega) (fun M' stp' g3 g4 => h M' stp' g3 (frC_tr g2 g4)))
theorem t8_tom (d n : Nat) (kd th : Nat → Nat) (stp ngt : Nat) (M : Mm) (Q : Int32 → Mm → Prop) (hR : RgM M 17 n kd th stp ngt) (hG : okG n kd ngt) (ht : okT n th) (hstp : stp < 2 ^ 28) (h : ∀ M' stp', RgM M' 17 n kd (toM n kd ngt stp th) stp' ngt → frM M M' → Q 0 M') : kX8_toMatins (d + 3) M Q := by
  apply rX8_toMatins
  exact t8_adv d n kd th stp ngt M _ hR hG ht (by omega) (fun M1 g1 g2 => c8_tomLoop d n kd ngt _ hG 8 M1 _ (stp + 1) (mat_near _ _ hG.2.2) g1 (okT_step ht) (by omega) (fun M' stp' g3 g4 => h M' stp' g3 (frM_tr g2 g4)))
theorem L_pray (v1 : Int32) (M : Mm) (hI : Inv M) : kX7_pray 40 v1 M (fun r1 M1 => kX8_pray 40 v1 M1 (fun r2 M2 => r1 = r2 ∧ Inv M2)) := by
  obtain ⟨n, kd, th, stp, ngt, hC, hM, hok, -⟩ := hI.2.2.1
  have h7 := okR_7 hok
  apply rX7_pray
  have m8 : ∀ (M : Mm) (Q : Int32 → Mm → Prop), M 50 0 = nI n → ((¬ n = 0 → kX8_in 39 v1.toInt64 1 9 M (fun r1 M1 => ((¬ r1 = 0 → kX8_tries 39 M1 (fun _r2 M2 => kX8_toMatins 39 M2 (fun _r3 M3 => kX8_holderIn 39 17 v1 M3 (fun r4 M4 => Q r4 M4)))) ∧ (r1 = 0 → Q (-1000001) M1)))) ∧ (n = 0 → Q (-1000002) M)) → kX8_pray 40 v1 M Q := by
    intro M Q e0 h
    apply rX8_pray
    rw [clamp0, e0]
    refine ⟨vp_in_nI (n := 0) (by omega) (by omega), fun q => h.1 (fun z => q (by rw [z]; rfl)), fun q => h.2 ?_⟩
    rw [li_0] at q
    exact (nI_eq (by omega) (by omega)).mp q
  rw [hC.1]
  refine ⟨fun q => ?_, fun q => m8 _ _ hM.1 ⟨fun z => absurd ((nI_eq (a := n) (b := 0) (by omega) (by omega)).mp q) z, fun _ => ⟨rfl, hI⟩⟩⟩
  have hn : ¬ n = 0 := fun z => q (by rw [z]; rfl)
  obtain ⟨hG, hst⟩ := okR_G hok (by omega)
  rcases t_ix v1 with h2 | ⟨t, ht1, ht9, rfl⟩
  · refine c7_tn _ _ _ _ h2 ⟨fun q => absurd rfl q, fun _ => m8 _ _ hM.1 ⟨fun _ => ?_, fun z => absurd z hn⟩⟩
    exact c8_n1 _ 9 _ _ _ (by omega) h2 ⟨fun q => absurd rfl q, fun _ => ⟨rfl, hI⟩⟩
  · refine c7_ty _ t _ _ ht1 ht9 ⟨fun _ => ?_, fun q => absurd q (by decide)⟩
    refine t4_become _ n kd th stp ngt M _ hC h7 (fun M1 g1 g2 => ?_)
    refine t4_tom _ n kd th stp ngt M1 _ g1 hG (okR_T hok).1 (by omega) (fun M2 stp' g3 g4 => ?_)
    have okt : okT n (toM n kd ngt stp th) := okT_tom _ _ _ (okT_step (okR_T hok).1)
    refine c4_whoHas _ 26 rg26 n t kd _ stp' ngt M2 _ g3 okt h7 (by omega) ?_
    have fr := frC_tr g2 g4
    have hM2 := RgM_fr hM h7 fr
    refine m8 _ _ hM2.1 ⟨fun _ => ?_, fun z => absurd z hn⟩
    refine c8_y1 _ t 9 _ _ ht1 ht9 (by omega) ⟨fun _ => ?_, fun q => absurd q (by decide)⟩
    refine t8_tries _ n kd th stp ngt M2 _ hM2 h7 (fun M3 g5 g6 => ?_)
    refine t8_tom _ n kd th stp ngt M3 _ g5 hG (okR_T hok).1 (by omega) (fun M4 stp2 g7 g8 => ?_)
    exact c8_holderIn _ 17 n t kd _ stp2 ngt M4 _ g7 inW17 okt h7 (by omega) ⟨rfl, Inv_s hI (scr_fr fr (frM_tr g6 g8))⟩
