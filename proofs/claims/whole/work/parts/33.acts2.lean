/-! steps, swap, night, undo, round -/
theorem nI_n0 {n : Nat} (h : n ≤ 7) : (nI n = 0) = (n = 0) := by
  rw [li_0]
  exact propext (nI_eq (by omega) (by omega))
theorem L_steps (v1 : Int32) (M : Mm) (hI : Inv M) : kX7_steps 40 v1 M (fun r1 M1 => kX8_steps 40 v1 M1 (fun r2 M2 => r1 = r2 ∧ Inv M2)) := by
  obtain ⟨n, kd, th, stp, ngt, hC, hM, hok, na, A, hAC, hAM, hA⟩ := hI.2.2.1
  have h7 := okR_7 hok
  have c2 : (2 : Int32).toNatClampNeg = 2 := rfl
  have m8 : ∀ (M : Mm) (Q : Int32 → Mm → Prop), M 50 0 = nI n → M 50 2 = nI stp → ((¬ n = 0 → kX8_in 39 v1.toInt64 1 24 M (fun r1 M1 => ((¬ r1 = 0 → vp_in 2 301 ∧ ((((M1 50 2) + v1) ≤ 9999 → BX8_steps (39 + 1) 46 [(0, .ref 49), (1, .int v1), (2, .int 0)] [] M1 Q) ∧ (¬ ((M1 50 2) + v1) ≤ 9999 → Q (-1000003) M1))) ∧ (r1 = 0 → Q (-1000001) M1)))) ∧ (n = 0 → Q (-1000002) M)) → kX8_steps 40 v1 M Q := by
    intro M Q e0 e2 h
    apply rX8_steps
    rw [clamp0, e0, nI_n0 h7]
    exact ⟨vp_in_nI (n := 0) (by omega) (by omega), h⟩
  apply rX7_steps
  rw [hC.1, nI_n0 h7]
  refine ⟨fun hn => ?_, fun q => m8 _ _ hM.1 hM.2.2.1 ⟨fun z => absurd q z, fun _ => ⟨rfl, hI⟩⟩⟩
  obtain ⟨hG, hst⟩ := okR_G hok (by omega)
  rcases pk_ix v1 (n := 25) (by omega) with h1 | h1 | ⟨D, hD, rfl⟩
  · refine ⟨fun _ => m8 _ _ hM.1 hM.2.2.1 ⟨fun _ => ?_, fun z => absurd z hn⟩, fun q => absurd (neg_lt (n := 1) h1 (by omega)) q⟩
    exact c8_n1 _ 24 _ _ _ (by omega) (Or.inl (neg_lt h1 (by omega))) ⟨fun q => absurd rfl q, fun _ => ⟨rfl, hI⟩⟩
  · refine ⟨fun q => absurd (big_ge (m := 1) h1 (by omega) (by omega)) (by rw [Int32.not_le]; exact q), fun _ => ⟨fun q => absurd q (big_gt (m := 24) h1 (by omega) (by omega)), fun _ => m8 _ _ hM.1 hM.2.2.1 ⟨fun _ => ?_, fun z => absurd z hn⟩⟩⟩
    exact c8_n1 _ 24 _ _ _ (by omega) (Or.inr h1) ⟨fun q => absurd rfl q, fun _ => ⟨rfl, hI⟩⟩
  · rcases Nat.eq_zero_or_pos D with z | z
    · subst z
      refine ⟨fun _ => m8 _ _ hM.1 hM.2.2.1 ⟨fun _ => ?_, fun z => absurd z hn⟩, fun q => absurd (by decide) q⟩
      exact c8_n1 _ 24 _ _ _ (by omega) (Or.inl (by decide)) ⟨fun q => absurd rfl q, fun _ => ⟨rfl, hI⟩⟩
    · refine ⟨fun q => absurd (nI_le (a := 1) (b := D) (by omega) (by omega)) (by rw [Int32.not_le]; exact q), fun _ => ⟨fun _ => ?_, fun q => absurd (nI_le (a := D) (b := 24) (by omega) (by omega)) q⟩⟩
      rw [hC.2.1, nI_add, li_9999]
      simp (disch := omega) only [nI_leI]
      refine ⟨fun q => ?_, fun q => m8 _ _ hM.1 hM.2.2.1 ⟨fun _ => ?_, fun z => absurd z hn⟩⟩
      · have := c7_stpLoop 36 n D kd ngt (fun r1 M1 => kX8_steps 40 (nI D) M1 (fun r2 M2 => r1 = r2 ∧ Inv M2)) hG (by omega) D M th stp na A (Nat.le_refl D) hC (okR_T hok).1 q hA.1 hAC (fun M1 g1 g2 g3 => ?_)
        · rw [Nat.sub_self] at this
          exact this
        · have r50 : M1 50 = M 50 := g3 50 (by omega) (by omega) (by omega) (by omega) (by omega) (by omega)
          have r49 : M1 49 = M 49 := g3 49 (by omega) (by omega) (by omega) (by omega) (by omega) (by omega)
          have hM1 : RgM M1 0 n kd th stp ngt := RgM_c hM h7 (fun i _ _ => by rw [r50])
          have hAM1 : AcM M1 n na A := AcM_c hAM (by rw [r49]) (fun i _ => by rw [r50])
          refine m8 _ _ hM1.1 hM1.2.2.1 ⟨fun _ => ?_, fun z => absurd z hn⟩
          refine c8_y1 _ D 24 _ _ z (by omega) (by omega) ⟨fun _ => ⟨vp_in_nI (n := 2) (by omega) (by omega), ?_⟩, fun q => absurd q (by decide)⟩
          rw [show M1 50 2 = nI stp from hM1.2.2.1, nI_add, li_9999]
          simp (disch := omega) only [nI_leI]
          refine ⟨fun _ => ?_, fun z => absurd q z⟩
          have := c8_stpLoop 37 n D kd ngt (fun r2 M2 => nI (stp + D) = r2 ∧ Inv M2) hG (by omega) D M1 th stp na A (Nat.le_refl D) hM1 (okR_T hok).1 q hA.1 hAM1 (fun M2 g4 g5 g6 g7 g8 => ?_)
          · rw [Nat.sub_self] at this
            exact this
          · refine ⟨rfl, Inv_ra hI ?_ (fun k x1 x2 x3 x4 x5 x6 x7 x8 x9 => by rw [g6 k x8 x9, g3 k x1 x3 x4 x5 x6 x7]) (fun j hj => by rw [g7 j hj, r49]) (fun i x1 x2 => by rw [g8 i (by omega) (by omega), r50])⟩
            have hd : dis n th := by
              rcases hok with o | o
              · omega
              · exact o.2.2.2.2.1
            refine ⟨n, kd, _, _, ngt, RgC_c g1 (g6 _ (by omega) (by omega)) (g6 _ (by omega) (by omega)) (g6 _ (by omega) (by omega)), g4, Or.inr ⟨?_, hG.1, hG.2.1, okT_it _ _ _ (okR_T hok).1, dis_it _ _ _ hd, q, hG.2.2⟩, _, _, AcC_c g2 (g6 _ (by omega) (by omega)) (g6 _ (by omega) (by omega)) (g6 _ (by omega) (by omega)) (g6 _ (by omega) (by omega)), g5, okA_stp (by omega) hG.2.2 D stp th na A hA (okR_T hok).1 hd q⟩
            rcases hok with o | o <;> omega
      · refine c8_y1 _ D 24 _ _ z (by omega) (by omega) ⟨fun _ => ⟨vp_in_nI (n := 2) (by omega) (by omega), ?_⟩, fun q => absurd q (by decide)⟩
        rw [show M 50 2 = nI stp from hM.2.2.1, nI_add, li_9999]
        simp (disch := omega) only [nI_leI]
        exact ⟨fun z => absurd z q, fun _ => ⟨trivial, hI⟩⟩
theorem okR_p {n : Nat} {kd th : Nat → Nat} {stp ngt : Nat} (h : okR n kd th stp ngt) (hn : 0 < n) : 2 ≤ n ∧ n ≤ 7 ∧ okK n kd ∧ okT n th ∧ dis n th ∧ stp ≤ 9999 ∧ 1 ≤ ngt ∧ ngt ≤ 9 := by
  rcases h with h | h
  · omega
  · exact h
theorem L_swap (v1 v2 : Int32) (M : Mm) (hI : Inv M) : kX7_swap 40 v1 v2 M (fun r1 M1 => kX8_swap 40 v1 v2 M1 (fun r2 M2 => r1 = r2 ∧ Inv M2)) := by
  obtain ⟨n, kd, th, stp, ngt, hC, hM, hok, na, A, hAC, hAM, hA⟩ := hI.2.2.1
  have h7 := okR_7 hok
  apply rX7_swap
  rcases s_ix v1 h7 with h1 | ⟨a, ha, rfl⟩
  · refine c4_sn _ 23 rg23 n _ _ _ hC.1 h1 ⟨fun _ => ?_, fun q => absurd rfl q⟩
    apply rX8_swap
    exact c8_sn _ n _ _ _ hM.1 h7 h1 ⟨fun _ => ⟨rfl, hI⟩, fun q => absurd rfl q⟩
  · refine c4_sy _ 23 rg23 n a _ _ hC.1 h7 ha ⟨fun q => absurd q (by decide), fun _ => ?_⟩
    rcases s_ix v2 h7 with h2 | ⟨b, hb, rfl⟩
    · refine c4_sn _ 23 rg23 n _ _ _ hC.1 h2 ⟨fun _ => ?_, fun q => absurd rfl q⟩
      apply rX8_swap
      exact c8_sy _ n a _ _ hM.1 h7 ha ⟨fun q => absurd q (by decide), fun _ => c8_sn _ n _ _ _ hM.1 h7 h2 ⟨fun _ => ⟨rfl, hI⟩, fun q => absurd rfl q⟩⟩
    · refine c4_sy _ 23 rg23 n b _ _ hC.1 h7 hb ⟨fun q => absurd q (by decide), fun _ => ?_⟩
      simp (disch := omega) only [nI_eq]
      obtain ⟨p1, p2, p3, p4, p5, p6, p7⟩ := okR_p hok (by omega)
      refine ⟨fun q => ?_, fun q => ?_⟩
      · refine c0_keep _ n na kd th stp ngt A M _ hC h7 hA.1 hAC (fun M1 g1 g2 => ?_)
        refine c4_exchange _ 23 rg23 n a b kd th stp ngt M1 _ (RgC_c hC (g2 _ (by omega) (by omega) (by omega) (by omega)) (g2 _ (by omega) (by omega) (by omega) (by omega)) (g2 _ (by omega) (by omega) (by omega) (by omega))) h7 ha hb (fun M2 g3 g4 => ?_)
        have e1 : M2 25 a = nI (swp th a b a) := g3.2.2.2.2 a ha
        have e2 : M2 25 b = nI (swp th a b b) := g3.2.2.2.2 b hb
        rw [nI_clamp (by omega), nI_clamp (by omega), e1, e2]
        refine ⟨vp_in_nI (by omega) (by omega), vp_in_nI (by omega) (by omega), ?_⟩
        have r : ∀ k, k ≠ 25 → k ≠ 36 → k ≠ 37 → k ≠ 38 → k ≠ 39 → M2 k = M k := fun k x1 x2 x3 x4 x5 => by rw [g4 k x1, g2 k x2 x3 x4 x5]
        have r50 : M2 50 = M 50 := r 50 (by omega) (by omega) (by omega) (by omega) (by omega)
        have r49 : M2 49 = M 49 := r 49 (by omega) (by omega) (by omega) (by omega) (by omega)
        have hM2 : RgM M2 0 n kd th stp ngt := RgM_c hM h7 (fun i _ _ => by rw [r50])
        have hAM2 : AcM M2 n na A := AcM_c hAM (by rw [r49]) (fun i _ => by rw [r50])
        apply rX8_swap
        refine c8_sy _ n a _ _ hM2.1 h7 ha ⟨fun q => absurd q (by decide), fun _ => c8_sy _ n b _ _ hM2.1 h7 hb ⟨fun q => absurd q (by decide), fun _ => ?_⟩⟩
        simp (disch := omega) only [nI_eq]
        refine ⟨fun _ => ?_, fun z => absurd z q⟩
        refine c8_minds _ n na kd th stp ngt A M2 _ hM2 h7 hA.1 hAM2 (fun M3 g5 g6 => ?_)
        refine c8_changes _ 0 n a b kd th stp ngt M3 _ (RgM_c hM2 h7 (fun i _ hi => g6.2.2 i (by omega))) inW0 h7 ha hb (fun M4 g7 g8 => ?_)
        have e3 : M4 50 (0 + 3 + a) = nI (swp th a b a) := g7.2.2.2.1 a ha
        have e4 : M4 50 (0 + 3 + b) = nI (swp th a b b) := g7.2.2.2.1 b hb
        rw [show (3 : Int32) + nI a = nI (0 + 3 + a) by rw [li_3, nI_add], show (3 : Int32) + nI b = nI (0 + 3 + b) by rw [li_3, nI_add], nI_clamp (by omega), nI_clamp (by omega), e3, e4]
        refine ⟨vp_in_nI (by omega) (by omega), vp_in_nI (by omega) (by omega), rfl, ?_⟩
        refine Inv_ra hI ⟨n, kd, _, stp, ngt, RgC_c g3 ?_ ?_ ?_, g7, Or.inr ⟨p1, p2, p3, okT_swp p4 ha hb, dis_swp p5 ha hb, p6, p7⟩, _, _, AcC_c (AcC_c g1 (g4 _ (by omega)) (g4 _ (by omega)) (g4 _ (by omega)) (g4 _ (by omega))) ?_ ?_ ?_ ?_, AcM_c g5 (by rw [g8.1 49 (by omega)]) (fun i hi => g8.2 i (by omega)), okA_psh hA (by omega) ⟨p4, p5, p6, p7⟩⟩ ?_ ?_ ?_
        · rw [g8.1 _ (by omega), g6.1 _ (by omega) (by omega)]
        · rw [g8.1 _ (by omega), g6.1 _ (by omega) (by omega)]
        · rw [g8.1 _ (by omega), g6.1 _ (by omega) (by omega)]
        · rw [g8.1 _ (by omega), g6.1 _ (by omega) (by omega)]
        · rw [g8.1 _ (by omega), g6.1 _ (by omega) (by omega)]
        · rw [g8.1 _ (by omega), g6.1 _ (by omega) (by omega)]
        · rw [g8.1 _ (by omega), g6.1 _ (by omega) (by omega)]
        · intro k x1 x2 x3 x4 x5 x6 x7 x8 x9
          rw [g8.1 k x9, g6.1 k x8 x9, r k x3 x4 x5 x6 x7]
        · intro j hj
          rw [g8.1 49 (by omega), g6.2.1 j hj, r49]
        · intro i x1 x2
          rw [g8.2 i (by omega), g6.2.2 i (by omega), r50]
      · apply rX8_swap
        refine c8_sy _ n a _ _ hM.1 h7 ha ⟨fun q => absurd q (by decide), fun _ => c8_sy _ n b _ _ hM.1 h7 hb ⟨fun q => absurd q (by decide), fun _ => ?_⟩⟩
        simp (disch := omega) only [nI_eq]
        exact ⟨fun z => absurd q z, fun _ => ⟨trivial, hI⟩⟩
theorem L_night (v1 : Int32) (M : Mm) (hI : Inv M) : kX7_night 40 v1 M (fun r1 M1 => kX8_night 40 v1 M1 (fun r2 M2 => r1 = r2 ∧ Inv M2)) := by
  obtain ⟨n, kd, th, stp, ngt, hC, hM, hok, na, A, hAC, hAM, hA⟩ := hI.2.2.1
  have h7 := okR_7 hok
  have c1 : (1 : Int32).toNatClampNeg = 1 := rfl
  have m8 : ∀ (M : Mm) (Q : Int32 → Mm → Prop), M 50 0 = nI n → ((¬ n = 0 → kX8_in 39 v1.toInt64 1 9 M (fun r1 M1 => ((¬ r1 = 0 → kX8_minds 39 M1 (fun _r2 M2 => vp_in 1 301 ∧ vp_in 1 301 ∧ (∀ M3, M3 = (upd2 M2 50 1 v1) → Q (M2 50 1) M3))) ∧ (r1 = 0 → Q (-1000001) M1)))) ∧ (n = 0 → Q (-1000002) M)) → kX8_night 40 v1 M Q := by
    intro M Q e0 h
    apply rX8_night
    rw [clamp0, e0, nI_n0 h7]
    exact ⟨vp_in_nI (n := 0) (by omega) (by omega), h⟩
  apply rX7_night
  rw [hC.1, nI_n0 h7]
  refine ⟨fun hn => ?_, fun q => m8 _ _ hM.1 ⟨fun z => absurd q z, fun _ => ⟨rfl, hI⟩⟩⟩
  obtain ⟨p1, p2, p3, p4, p5, p6, p7⟩ := okR_p hok (by omega)
  rcases t_ix v1 with h1 | ⟨t, ht1, ht9, rfl⟩
  · have no : kX8_night 40 v1 M (fun r2 M2 => -1000001 = r2 ∧ Inv M2) := m8 _ _ hM.1 ⟨fun _ => c8_n1 _ 9 _ _ _ (by omega) h1 ⟨fun q => absurd rfl q, fun _ => ⟨rfl, hI⟩⟩, fun z => absurd z hn⟩
    refine ⟨fun _ => no, fun q => ⟨fun q2 => ?_, fun _ => no⟩⟩
    rcases h1 with z | z
    · exact absurd z q
    · exact absurd q2 (big_gt (m := 9) z (by omega) (by omega))
  · refine ⟨fun q => absurd (nI_le (a := 1) (b := t) (by omega) (by omega)) (by rw [Int32.not_le]; exact q), fun _ => ⟨fun _ => ?_, fun q => absurd (nI_le (a := t) (b := 9) (by omega) (by omega)) q⟩⟩
    refine c0_keep _ n na kd th stp ngt A M _ hC h7 hA.1 hAC (fun M1 g1 g2 => ?_)
    rintro M2 rfl
    have r : ∀ k, k ≠ 23 → k ≠ 36 → k ≠ 37 → k ≠ 38 → k ≠ 39 → upd2 M1 23 4 (nI t) k = M k := fun k x1 x2 x3 x4 x5 => by rw [upd2_off x1, g2 k x2 x3 x4 x5]
    have r50 : upd2 M1 23 4 (nI t) 50 = M 50 := r 50 (by omega) (by omega) (by omega) (by omega) (by omega)
    have r49 : upd2 M1 23 4 (nI t) 49 = M 49 := r 49 (by omega) (by omega) (by omega) (by omega) (by omega)
    have hC2 : RgC (upd2 M1 23 4 (nI t)) 23 n kd th stp t := by
      obtain ⟨y1, y2, y3, y4, y5⟩ := hC
      have r23 : M1 23 = M 23 := g2 23 (by omega) (by omega) (by omega) (by omega)
      exact ⟨by rw [upd2_row (by omega), r23]; exact y1, by rw [upd2_row (by omega), r23]; exact y2, upd2_at, fun i hi => by rw [r _ (by omega) (by omega) (by omega) (by omega) (by omega)]; exact y4 i hi, fun i hi => by rw [r _ (by omega) (by omega) (by omega) (by omega) (by omega)]; exact y5 i hi⟩
    have g1' : AcC (upd2 M1 23 4 (nI t)) n (pshN na) (pshA na A (th, stp, ngt)) := AcC_c g1 (upd2_off (by omega)) (upd2_off (by omega)) (upd2_off (by omega)) (upd2_off (by omega))
    generalize upd2 M1 23 4 (nI t) = W at *
    have hM2 : RgM W 0 n kd th stp ngt := RgM_c hM h7 (fun i _ _ => by rw [r50])
    have hAM2 : AcM W n na A := AcM_c hAM (by rw [r49]) (fun i _ => by rw [r50])
    refine m8 _ _ hM2.1 ⟨fun _ => ?_, fun z => absurd z hn⟩
    refine c8_y1 _ t 9 _ _ ht1 ht9 (by omega) ⟨fun _ => ?_, fun q => absurd q (by decide)⟩
    refine c8_minds _ n na kd th stp ngt A W _ hM2 h7 hA.1 hAM2 (fun M3 g5 g6 => ?_)
    refine ⟨vp_in_nI (n := 1) (by omega) (by omega), vp_in_nI (n := 1) (by omega) (by omega), ?_⟩
    rintro M4 rfl
    have hM3 : RgM M3 0 n kd th stp ngt := RgM_c hM2 h7 (fun i _ hi => g6.2.2 i (by omega))
    refine ⟨?_, ?_⟩
    · rw [show M3 50 1 = nI ngt from hM3.2.1]; exact hC.2.2.1
    · have w : ∀ k, k ≠ 50 → upd2 M3 50 1 (nI t) k = M3 k := fun k hk => upd2_off hk
      refine Inv_ra hI ⟨n, kd, th, stp, t, RgC_c hC2 ?_ ?_ ?_, ?_, Or.inr ⟨p1, p2, p3, p4, p5, p6, ht1, ht9⟩, _, _, AcC_c g1' ?_ ?_ ?_ ?_, AcM_c g5 (by rw [w 49 (by omega)]) (fun i hi => upd2_row (by omega)), okA_psh hA (by omega) ⟨p4, p5, p6, p7⟩⟩ ?_ ?_ ?_
      · rw [w _ (by omega), g6.1 _ (by omega) (by omega)]
      · rw [w _ (by omega), g6.1 _ (by omega) (by omega)]
      · rw [w _ (by omega), g6.1 _ (by omega) (by omega)]
      · obtain ⟨y1, y2, y3, y4, y5⟩ := hM3
        exact ⟨by rw [upd2_row (by omega)]; exact y1, upd2_at, by rw [upd2_row (by omega)]; exact y3, fun i hi => by rw [upd2_row (by omega)]; exact y4 i hi, fun i hi => by rw [upd2_row (by omega)]; exact y5 i hi⟩
      · rw [w _ (by omega), g6.1 _ (by omega) (by omega)]
      · rw [w _ (by omega), g6.1 _ (by omega) (by omega)]
      · rw [w _ (by omega), g6.1 _ (by omega) (by omega)]
      · rw [w _ (by omega), g6.1 _ (by omega) (by omega)]
      · intro k x1 x2 x3 x4 x5 x6 x7 x8 x9
        rw [w k x9, g6.1 k x8 x9, r k x1 x4 x5 x6 x7]
      · intro j hj
        rw [w 49 (by omega), g6.2.1 j hj, r49]
      · intro i x1 x2
        rw [upd2_row (by omega), g6.2.2 i (by omega), r50]
/-- the figures of a number back into things -/
theorem c4_tfLoop (d n : Nat) (kd : Nat → Nat) (stp ngt : Nat) (th : Nat → Nat) (Q : Int32 → Mm → Prop) (h7 : n ≤ 7) (ht : okT n th) : ∀ (k : Nat) (M : Mm), k ≤ n → (∃ f, RgC M 23 n kd f stp ngt ∧ ∀ i, k ≤ i → i < n → f i = th i) →
    (∀ M', RgC M' 23 n kd th stp ngt → (∀ q, q ≠ 25 → M' q = M q) → Q 0 M') → BX4_takeFigures d 9 [(0, .ref 23), (2, .int (nI (fig th k))), (3, .int (nI k - 1))] [] M Q
  | 0, M, _, hf, h => by
    apply rX4_takeFigures_9 _ _ rg23
    obtain ⟨f, h1, h2⟩ := hf
    refine ⟨fun _ => h M ?_ (fun _ _ => rfl), fun q => absurd (by decide) q⟩
    obtain ⟨y1, y2, y3, y4, y5⟩ := h1
    exact ⟨y1, y2, y3, y4, fun i hi => by rw [← h2 i (by omega) hi]; exact y5 i hi⟩
  | k + 1, M, hk, hf, h => by
    apply rX4_takeFigures_9 _ _ rg23
    obtain ⟨f, h1, h2⟩ := hf
    have hb := fig_lt ht (k + 1) hk
    have hb7 : 10 ^ (k + 1) ≤ 10 ^ 7 := Nat.pow_le_pow_right (by omega) (by omega)
    have htk := ht k (by omega)
    have e1 : fig th (k + 1) % 10 = th k := by rw [fig]; omega
    have e2 : fig th (k + 1) / 10 = fig th k := by rw [fig]; omega
    have e3 : nI (k + 1) - 1 = nI k := nI_pred k
    have e4 : nI (fig th (k + 1)) / (10 : Int32) = nI (fig th k) := by rw [li_10, pk_div (by omega) (by omega) (by omega), e2]
    rw [e3, e4, nI_clamp (by omega), li_10, irem_nI (by omega) (by omega) (by omega), e1, show nI k + (-1 : Int32) = nI k - 1 from (Int32.sub_eq_add_neg _ _).symm]
    refine ⟨fun q => absurd q (nI_pos (by omega)), fun _ => ⟨vp_in_nI (by omega) (by omega), ?_⟩⟩
    rintro M1 rfl
    refine c4_tfLoop d n kd stp ngt th Q h7 ht k _ (by omega) ⟨fun i => if i = k then th k else f i, ?_, fun i x1 x2 => ?_⟩ (fun M' g1 g2 => h M' g1 (fun q hq => by rw [g2 q hq, upd2_off hq]))
    · obtain ⟨y1, y2, y3, y4, y5⟩ := h1
      refine ⟨by rw [upd2_off (by omega)]; exact y1, by rw [upd2_off (by omega)]; exact y2, by rw [upd2_off (by omega)]; exact y3, fun i hi => by rw [upd2_off (by omega)]; exact y4 i hi, fun i hi => ?_⟩
      rw [upd2_r]
      dsimp only
      by_cases c : i = k
      · rw [if_pos c, if_pos c]
      · rw [if_neg c, if_neg c]; exact y5 i hi
    · dsimp only
      by_cases c : i = k
      · rw [if_pos c, c]
      · rw [if_neg c]; exact h2 i (by omega) x2
