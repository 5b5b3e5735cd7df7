/-! plan -/
theorem L_plan (v1 v2 v3 : Int32) (M : Mm) (hI : Inv M) : kX7_plan 40 v1 v2 v3 M (fun r1 M1 => kX8_plan 40 v1 v2 v3 M1 (fun r2 M2 => r1 = r2 ∧ Inv M2)) := by
  obtain ⟨n, kd, th, stp, ngt, hC, hM, hok, -⟩ := hI.2.2.1
  have h7 := okR_7 hok
  apply rX7_plan
  rcases s_ix v1 h7 with h1 | ⟨s, hs, rfl⟩
  · refine c4_sn _ 23 rg23 n _ _ _ hC.1 h1 ⟨fun _ => ?_, fun q => absurd rfl q⟩
    apply rX8_plan
    exact c8_sn _ n _ _ _ hM.1 h7 h1 ⟨fun _ => ⟨rfl, hI⟩, fun q => absurd rfl q⟩
  · obtain ⟨hG, hst⟩ := okR_G hok (by omega)
    refine c4_sy _ 23 rg23 n s _ _ hC.1 h7 hs ⟨fun q => absurd q (by decide), fun _ => ?_⟩
    rcases t_ix v2 with h2 | ⟨t, ht1, ht9, rfl⟩
    · refine c7_tn _ _ _ _ h2 ⟨fun _ => ?_, fun q => absurd rfl q⟩
      apply rX8_plan
      exact c8_sy _ n s _ _ hM.1 h7 hs ⟨fun q => absurd q (by decide), fun _ => c8_n1 _ 9 _ _ _ (by omega) h2 ⟨fun _ => ⟨rfl, hI⟩, fun q => absurd rfl q⟩⟩
    · refine c7_ty _ t _ _ ht1 ht9 ⟨fun q => absurd q (by decide), fun _ => ?_⟩
      have m8 : ∀ (M : Mm) (Q : Int32 → Mm → Prop), M 50 0 = nI n → kX8_in 39 v3.toInt64 (-1) 1 M (fun r3 M3 => ((¬ r3 = 0 → kX8_laysPairs 39 M3 (fun r4 M4 => kX8_hasBy 39 (nI s) (nI t) (-1) (-1) M4 (fun r5 M5 => ((r5 = 0 → BX8_plan (39 + 1) 66 [(0, .ref 49), (1, .int (nI s)), (2, .int (nI t)), (3, .int v3), (4, .int r4), (5, .int 0)] [] M5 Q) ∧ (¬ r5 = 0 → ((0 ≤ v3 → Q (-1000000) M5) ∧ (¬ 0 ≤ v3 → Q 0 M5))))))) ∧ (r3 = 0 → Q (-1000001) M3))) → kX8_plan 40 (nI s) (nI t) v3 M Q := by
        intro M Q e0 h
        apply rX8_plan
        exact c8_sy _ n s _ _ e0 h7 hs ⟨fun q => absurd q (by decide), fun _ => c8_y1 _ t 9 _ _ ht1 ht9 (by omega) ⟨fun q => absurd q (by decide), fun _ => h⟩⟩
      have em : (-1 : Int32).toInt = -1 := rfl
      have e1 : (1 : Int32).toInt = 1 := rfl
      have main : (v3 = -1 ∨ v3 = 0 ∨ v3 = 1) → kX7_fewestByHand 39 (nI s) (nI t) M (fun r3 M3 => ((0 ≤ r3 → ((0 ≤ v3 → ((r3 ≤ v3 → (fun r1 M1 => kX8_plan 40 (nI s) (nI t) v3 M1 (fun r2 M2 => r1 = r2 ∧ Inv M2)) (-1000000) M3) ∧ (¬ r3 ≤ v3 → vp_in v3 2 ∧ (fun r1 M1 => kX8_plan 40 (nI s) (nI t) v3 M1 (fun r2 M2 => r1 = r2 ∧ Inv M2)) (M3 48 v3.toNatClampNeg) M3))) ∧ (¬ 0 ≤ v3 → (fun r1 M1 => kX8_plan 40 (nI s) (nI t) v3 M1 (fun r2 M2 => r1 = r2 ∧ Inv M2)) r3 M3))) ∧ (¬ 0 ≤ r3 → (fun r1 M1 => kX8_plan 40 (nI s) (nI t) v3 M1 (fun r2 M2 => r1 = r2 ∧ Inv M2)) (-1000000) M3))) := by
        intro hv
        refine c7_fewest 33 n s t kd th stp ngt M _ hG hs ht9 (okR_T hok).1 (by omega) hC (fun M3 g1 g2 g3 => ?_)
        -- the reference's side, once
        have ref : kX8_plan 40 (nI s) (nI t) v3 M3 (fun r2 M2 => ansP (PlE n kd ngt stp th s t) v3 = r2 ∧ Inv M2) := by
          have hM3 : RgM M3 0 n kd th stp ngt := RgM_c hM h7 (fun i _ _ => by rw [g1 50 (by omega) (by omega) (by omega) (by omega)])
          have sc1 : scr M M3 := scr_of (fun k hk => g1 k (fun z => hk (by unfold wk; omega)) (fun z => hk (by unfold wk; omega)) (fun z => hk (by unfold wk; omega)) (fun z => hk (by unfold wk; omega)))
          refine m8 _ _ hM3.1 (c8_inI _ v3 (-1) 1 M3 _ ?_)
          rw [if_pos (by rcases hv with rfl | rfl | rfl <;> decide)]
          refine ⟨fun _ => ?_, fun q => absurd q (by decide)⟩
          refine c8_laysPairs _ n kd th stp ngt M3 _ h7 hM3 (fun M4 y1 y2 y3 => ?_)
          have sc2 : scr M M4 := scr_tr sc1 (scr_of (fun k hk => y3 k (fun z => hk (by unfold wk; omega))))
          refine c8_hasBy 35 n s t kd th stp ngt _ _ 0 0 M4 _ hG hs ht9 y1 (okR_T hok).1 (by omega) (Or.inl ⟨by decide, rfl⟩) (Or.inl ⟨by decide, rfl⟩) (fun M5 y4 => ?_)
          have sc3 : scr M M5 := scr_tr sc2 (scr_M y4)
          rw [PlE_eq n (by omega)]
          by_cases c0 : cmsS n kd ngt stp th s t 0 0 = true
          · rw [if_pos c0, if_pos c0]
            refine ⟨fun q => absurd q (by decide), fun _ => ?_⟩
            unfold ansP
            rcases hv with rfl | rfl | rfl
            · exact ⟨fun q => absurd q (by decide), fun _ => ⟨rfl, Inv_s hI sc3⟩⟩
            · exact ⟨fun _ => ⟨rfl, Inv_s hI sc3⟩, fun q => absurd (by decide) q⟩
            · exact ⟨fun _ => ⟨rfl, Inv_s hI sc3⟩, fun q => absurd (by decide) q⟩
          · rw [if_neg c0, if_neg c0]
            refine ⟨fun _ => ?_, fun q => absurd rfl q⟩
            have := c8_pl0 35 n s t kd th stp ngt v3 (fun r2 M2 => ansP (match (prL n).find? (fun p => cmsS n kd ngt stp th s t p 0) with
              | some p => (1, p, 0)
              | none => match find2 (prL n) (cmsS n kd ngt stp th s t) (prL n) with
                | some (p, q) => (2, p, q)
                | none => (3, 0, 0)) v3 = r2 ∧ Inv M2) hG hs ht9 (okR_T hok).1 (by omega) hv (prL n).length M5 (Nat.le_refl _) (RgM_c y1 h7 (fun i _ hi => y4.2 i (by omega))) (fun i hi => by rw [y4.1 62 (by omega)]; exact y2 i hi) (fun M6 y5 => ?_)
            · rw [Nat.sub_self] at this
              exact this
            · have hInv := Inv_s hI (scr_tr sc3 (scr_M y5))
              rw [Nat.sub_self, List.drop_zero]
              cases hf : (prL n).find? (fun p => cmsS n kd ngt stp th s t p 0) with
              | some p => exact ⟨rfl, hInv⟩
              | none =>
                cases hf2 : find2 (prL n) (cmsS n kd ngt stp th s t) (prL n) with
                | some pq => exact ⟨rfl, hInv⟩
                | none =>
                  refine ⟨?_, hInv⟩
                  unfold ansP
                  rcases hv with rfl | rfl | rfl <;> rfl
        have ref2 : ∀ x, x = ansP (PlE n kd ngt stp th s t) v3 → kX8_plan 40 (nI s) (nI t) v3 M3 (fun r2 M2 => x = r2 ∧ Inv M2) := fun x hx => by rw [hx]; exact ref
        have hc : (PlE n kd ngt stp th s t).1 ≤ 3 := by
          unfold PlE
          repeat' split
          all_goals (dsimp only; omega)
        generalize PlE n kd ngt stp th s t = R at *
        obtain ⟨c, p, q⟩ := R
        dsimp only at *
        rcases (show c = 0 ∨ c = 1 ∨ c = 2 ∨ c = 3 by omega) with rfl | rfl | rfl | rfl
        · rw [if_neg (by decide)]
          refine ⟨fun _ => ⟨fun z => ⟨fun _ => ref2 _ ?_, fun z2 => ?_⟩, fun z => ref2 _ ?_⟩, fun z => absurd (by decide) z⟩
          · unfold ansP
            rcases hv with rfl | rfl | rfl
            · exact absurd z (by decide)
            · rfl
            · rfl
          · rcases hv with rfl | rfl | rfl
            · exact absurd z (by decide)
            · exact absurd (by decide) z2
            · exact absurd (by decide) z2
          · unfold ansP
            rcases hv with rfl | rfl | rfl
            · rfl
            · exact absurd (by decide) z
            · exact absurd (by decide) z
        · rw [if_neg (by decide)]
          refine ⟨fun _ => ⟨fun z => ⟨fun z2 => ref2 _ ?_, fun z2 => ?_⟩, fun z => ref2 _ ?_⟩, fun z => absurd (by decide) z⟩
          · unfold ansP
            rcases hv with rfl | rfl | rfl
            · exact absurd z (by decide)
            · exact absurd z2 (by decide)
            · rfl
          · rcases hv with rfl | rfl | rfl
            · exact absurd z (by decide)
            · exact ⟨vp_in_nI (n := 0) (by omega) (by omega), ref2 _ (g2 rfl)⟩
            · exact absurd (by decide) z2
          · unfold ansP
            rcases hv with rfl | rfl | rfl
            · rfl
            · exact absurd (by decide) z
            · exact absurd (by decide) z
        · rw [if_neg (by decide)]
          refine ⟨fun _ => ⟨fun z => ⟨fun z2 => ref2 _ ?_, fun z2 => ?_⟩, fun z => ref2 _ ?_⟩, fun z => absurd (by decide) z⟩
          · rcases hv with rfl | rfl | rfl
            · exact absurd z (by decide)
            · exact absurd z2 (by decide)
            · exact absurd z2 (by decide)
          · rcases hv with rfl | rfl | rfl
            · exact absurd z (by decide)
            · exact ⟨vp_in_nI (n := 0) (by omega) (by omega), ref2 _ (g3 rfl).1⟩
            · exact ⟨vp_in_nI (n := 1) (by omega) (by omega), ref2 _ (g3 rfl).2⟩
          · unfold ansP
            rcases hv with rfl | rfl | rfl
            · rfl
            · exact absurd (by decide) z
            · exact absurd (by decide) z
        · rw [if_pos rfl]
          refine ⟨fun z => absurd z (by decide), fun _ => ref2 _ ?_⟩
          unfold ansP
          rcases hv with rfl | rfl | rfl <;> rfl
      rcases v3_ix v3 with h3 | h3 | h3 | h3
      · refine ⟨fun q => absurd q (by rw [h3]; decide), fun _ => ⟨fun _ => main (Or.inl h3), fun q => absurd (by rw [h3]; decide) q⟩⟩
      · refine ⟨fun q => absurd q (by rw [h3]; decide), fun _ => ⟨fun _ => main (Or.inr (Or.inl h3)), fun q => absurd (by rw [h3]; decide) q⟩⟩
      · refine ⟨fun q => absurd q (by rw [h3]; decide), fun _ => ⟨fun _ => main (Or.inr (Or.inr h3)), fun q => absurd (by rw [h3]; decide) q⟩⟩
      · have e2 : (nI 2).toInt = 2 := rfl
        have no : kX8_plan 40 (nI s) (nI t) v3 M (fun r2 M2 => -1000001 = r2 ∧ Inv M2) := by
          refine m8 _ _ hM.1 (c8_inI _ v3 (-1) 1 M _ ?_)
          rw [if_neg (fun z => by rw [fa_le, fa_le, em, e1] at z; rw [fa_lt, fa_le, em, e2] at h3; omega)]
          exact ⟨fun q => absurd rfl q, fun _ => ⟨rfl, hI⟩⟩
        refine ⟨fun _ => no, fun q => ⟨fun q2 => ?_, fun _ => no⟩⟩
        exfalso
        rw [fa_lt, em] at q
        rw [fa_le, e1] at q2
        rw [fa_lt, fa_le, em, e2] at h3
        omega
