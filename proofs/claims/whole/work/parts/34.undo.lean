/-! undo, round -/
theorem L_undo (M : Mm) (hI : Inv M) : kX7_undo 40 M (fun r1 M1 => kX8_undo 40 M1 (fun r2 M2 => r1 = r2 ∧ Inv M2)) := by
  obtain ⟨n, kd, th, stp, ngt, hC, hM, hok, na, A, hAC, hAM, hA⟩ := hI.2.2.1
  have h7 := okR_7 hok
  obtain ⟨old, hold, h3, h4, h5⟩ := id hAC
  have hna := hA.1
  have e0 : (nI na = 0) = (na = 0) := by rw [li_0]; exact propext (nI_eq (by omega) (by omega))
  apply rX7_undo
  rw [h4, e0]
  refine ⟨fun q => ?_, fun q => ?_⟩
  · obtain ⟨k, rfl⟩ : ∃ k, na = k + 1 := ⟨na - 1, by omega⟩
    have hn : 0 < n := hA.2.1 (by omega)
    obtain ⟨p1, p2, p3, p4, p5, p6, p7⟩ := okR_p hok hn
    obtain ⟨q1, q2, q3, q4⟩ := hA.2.2 k (by omega)
    obtain ⟨s1, s2, s3⟩ := h5 k (by omega)
    apply rX0_takeBack _ _ rg23
    rw [h4, e0]
    refine ⟨fun _ => ?_, fun z => absurd z q⟩
    rintro M1 rfl
    have f3 : upd2 M 36 4 (nI (k + 1) - 1) 36 3 = nI old := by rw [upd2_row (by omega)]; exact h3
    have f4 : upd2 M 36 4 (nI (k + 1) - 1) 36 4 = nI k := by rw [upd2_at]; exact nI_pred k
    have hm : (old + k) % 24 < 24 := Nat.mod_lt _ (by omega)
    rw [f3, f4, show (24 : Int32) = nI 24 from rfl, nI_add, irem_nI (by omega) (by omega) (by omega), nI_clamp (by omega)]
    refine ⟨vp_in_nI hm (by omega), ?_⟩
    rw [upd2_off (by omega), s1]
    have r1 : ∀ x, x ≠ 36 → upd2 M 36 4 (nI (k + 1) - 1) x = M x := fun x hx => upd2_off hx
    have hC1 : RgC (upd2 M 36 4 (nI (k + 1) - 1)) 23 n kd th stp ngt := RgC_c hC (r1 _ (by omega)) (r1 _ (by omega)) (r1 _ (by omega))
    have hAC1 : AcC (upd2 M 36 4 (nI (k + 1) - 1)) n k A := ⟨old, hold, f3, f4, fun a ha => by rw [r1 _ (by omega), r1 _ (by omega), r1 _ (by omega)]; exact h5 a (by omega)⟩
    apply rX4_takeFigures _ _ rg23
    rw [hC1.1]
    refine c4_tfLoop _ n kd stp ngt (A k).1 _ h7 q1 n _ (Nat.le_refl n) ⟨th, hC1, fun i x1 x2 => absurd x1 (by omega)⟩ (fun M2 g1 g2 => ?_)
    refine ⟨vp_in_nI hm (by omega), ?_⟩
    rintro M3 rfl
    refine ⟨vp_in_nI hm (by omega), ?_⟩
    rintro M4 rfl
    have t1 : M2 38 ((old + k) % 24) = nI (A k).2.1 := by rw [g2 38 (by omega), r1 38 (by omega)]; exact s2
    have t2 : upd2 M2 23 3 (nI (A k).2.1) 39 ((old + k) % 24) = nI (A k).2.2 := by rw [upd2_off (by omega), g2 39 (by omega), r1 39 (by omega)]; exact s3
    rw [t1, t2]
    have hC4 : RgC (upd2 (upd2 M2 23 3 (nI (A k).2.1)) 23 4 (nI (A k).2.2)) 23 n kd (A k).1 (A k).2.1 (A k).2.2 := by
      obtain ⟨y1, y2, y3, y4, y5⟩ := g1
      exact ⟨by rw [upd2_row (by omega), upd2_row (by omega)]; exact y1, by rw [upd2_row (by omega), upd2_at], upd2_at, fun i hi => by rw [upd2_off (by omega), upd2_off (by omega)]; exact y4 i hi, fun i hi => by rw [upd2_off (by omega), upd2_off (by omega)]; exact y5 i hi⟩
    have r4 : ∀ x, x ≠ 23 → x ≠ 25 → upd2 (upd2 M2 23 3 (nI (A k).2.1)) 23 4 (nI (A k).2.2) x = upd2 M 36 4 (nI (k + 1) - 1) x := fun x x1 x2 => by rw [upd2_off x1, upd2_off x1, g2 x x2]
    have hAC4 := AcC_c hAC1 (r4 36 (by omega) (by omega)) (r4 37 (by omega) (by omega)) (r4 38 (by omega) (by omega)) (r4 39 (by omega) (by omega))
    have z4 : upd2 (upd2 M2 23 3 (nI (A k).2.1)) 23 4 (nI (A k).2.2) 36 4 = nI k := by rw [r4 36 (by omega) (by omega)]; exact f4
    have w1 : ∀ x, x ≠ 23 → x ≠ 25 → x ≠ 36 → upd2 (upd2 M2 23 3 (nI (A k).2.1)) 23 4 (nI (A k).2.2) x = M x := fun x x1 x2 x3 => by rw [r4 x x1 x2, r1 x x3]
    generalize upd2 (upd2 M2 23 3 (nI (A k).2.1)) 23 4 (nI (A k).2.2) = W at *
    rw [z4]
    have r50 : W 50 = M 50 := w1 50 (by omega) (by omega) (by omega)
    have r49 : W 49 = M 49 := w1 49 (by omega) (by omega) (by omega)
    apply rX8_undo
    rw [r49, hAM.1, e0]
    refine ⟨fun _ => ?_, fun z => absurd z q⟩
    rintro M5 rfl
    rw [upd2_at, nI_pred k, show (85 : Int32) + (9 : Int32) * nI k = nI (85 + 9 * k) by rw [show (85 : Int32) = nI 85 from rfl, show (9 : Int32) = nI 9 from rfl, pk_mul, nI_add]]
    have u : ∀ x, x ≠ 49 → upd2 W 49 1 (nI k) x = W x := fun x hx => upd2_off hx
    refine c8_copyOf _ (85 + 9 * k) 1 9 (by omega) (by omega) (by omega) _ _ ⟨?_, ?_⟩
    · rw [cpW_off (by omega), upd2_at]
    · have v0 : ∀ x, x ≠ 49 → x ≠ 50 → cpW (upd2 W 49 1 (nI k)) (85 + 9 * k) 1 9 x = W x := fun x x1 x2 => by rw [cpW_off x2, u x x1]
      have v50 : ∀ i, (i < 1 ∨ 10 ≤ i) → cpW (upd2 W 49 1 (nI k)) (85 + 9 * k) 1 9 50 i = M 50 i := fun i hi => by rw [cpW_out (by omega), u 50 (by omega), r50]
      have vin : ∀ i, i < 9 → cpW (upd2 W 49 1 (nI k)) (85 + 9 * k) 1 9 50 (1 + i) = M 50 (85 + 9 * k + i) := fun i hi => by rw [cpW_in hi, u 50 (by omega), r50]
      have v49 : ∀ j, j ≠ 1 → cpW (upd2 W 49 1 (nI k)) (85 + 9 * k) 1 9 49 j = M 49 j := fun j hj => by rw [cpW_off (by omega), upd2_row hj, r49]
      have v491 : cpW (upd2 W 49 1 (nI k)) (85 + 9 * k) 1 9 49 1 = nI k := by rw [cpW_off (by omega), upd2_at]
      obtain ⟨a1, a2, a3⟩ := hAM.2 k (by omega)
      generalize cpW (upd2 W 49 1 (nI k)) (85 + 9 * k) 1 9 = V at *
      refine Inv_ra hI ⟨n, kd, (A k).1, (A k).2.1, (A k).2.2, RgC_c hC4 (v0 _ (by omega) (by omega)) (v0 _ (by omega) (by omega)) (v0 _ (by omega) (by omega)), ⟨?_, ?_, ?_, fun i hi => ?_, fun i hi => ?_⟩, Or.inr ⟨p1, p2, p3, q1, q2, q3, q4⟩, k, A, AcC_c hAC4 (v0 _ (by omega) (by omega)) (v0 _ (by omega) (by omega)) (v0 _ (by omega) (by omega)) (v0 _ (by omega) (by omega)), ⟨v491, fun a ha => ?_⟩, ⟨by omega, fun _ => hn, fun a ha => hA.2.2 a (by omega)⟩⟩ (fun x x1 x2 x3 x4 x5 x6 x7 x8 x9 => by rw [v0 x x8 x9, w1 x x1 x3 x4]) v49 (fun i x1 x2 => v50 i (by omega))
      · rw [v50 0 (by omega)]; exact hM.1
      · rw [vin 0 (by omega)]; exact a1
      · rw [vin 1 (by omega)]; exact a2
      · rw [show 0 + 3 + i = 1 + (2 + i) by omega, vin (2 + i) (by omega), ← Nat.add_assoc]; exact a3 i hi
      · rw [v50 _ (by omega)]; exact hM.2.2.2.2 i hi
      · obtain ⟨b1, b2, b3⟩ := hAM.2 a (by omega)
        exact ⟨by rw [v50 _ (by omega)]; exact b1, by rw [v50 _ (by omega)]; exact b2, fun i hi => by rw [v50 _ (by omega)]; exact b3 i hi⟩
  · apply rX8_undo
    rw [hAM.1, e0]
    exact ⟨fun z => absurd q z, fun _ => ⟨rfl, hI⟩⟩
theorem fig_inj {n : Nat} {f g : Nat → Nat} (hf : okT n f) (hg : okT n g) : ∀ k, k ≤ n → (fig f k = fig g k ↔ ∀ i, i < k → f i = g i)
  | 0, _ => ⟨fun _ i hi => by omega, fun _ => rfl⟩
  | k + 1, hk => by
    have h1 := hf k (by omega)
    have h2 := hg k (by omega)
    have ih := fig_inj hf hg k (by omega)
    rw [fig, fig]
    refine ⟨fun h i hi => ?_, fun h => ?_⟩
    · have e : fig f k = fig g k := by omega
      by_cases c : i = k
      · subst c; omega
      · exact ih.mp e i (by omega)
    · rw [ih.mpr (fun i hi => h i (by omega)), h k (by omega)]
def rndS (n : Nat) (kd : Nat → Nat) (ngt : Nat) (t0 : Nat → Nat) : Nat → Nat → (Nat → Nat) → Int32
  | 0, _, _ => -1000000
  | k + 1, stp, th => if fig (stepS n kd ngt stp 0 th) n = fig t0 n then nI (201 - (k + 1)) else rndS n kd ngt t0 k (stp + 1) (stepS n kd ngt stp 0 th)
theorem c7_rndLoop (d n : Nat) (kd : Nat → Nat) (ngt : Nat) (t0 : Nat → Nat) (Q : Int32 → Mm → Prop) (hG : okG n kd ngt) (h0 : okT n t0) : ∀ (k : Nat) (M : Mm) (th : Nat → Nat) (stp : Nat), k ≤ 200 → RgC M 26 n kd th stp ngt → okT n th → stp + k < 2 ^ 29 → (∀ M', frC M M' → Q (rndS n kd ngt t0 k stp th) M') →
    BX7_round (d + 4) 34 [(0, .ref 0), (1, .int (nI (fig t0 n))), (2, .int (nI (201 - k)))] [] M Q
  | 0, M, th, stp, _, hR, ht, hst, h => by
    apply rX7_round_34
    exact ⟨fun _ => h M frC_rf, fun q => absurd (nI_lt (a := 200) (b := 201 - 0) (by omega) (by omega)) q⟩
  | k + 1, M, th, stp, hk, hR, ht, hst, h => by
    apply rX7_round_34
    have h7 := hG.1
    have e : 201 - (k + 1) + 1 = 201 - k := by omega
    rw [show nI (201 - (k + 1)) + 1 = nI (201 - k) by rw [nI_1, e]]
    refine ⟨fun q => absurd q (nI_nlt (a := 200) (by omega) (by omega)), fun _ => ?_⟩
    refine t4_adv d n kd th stp ngt M _ hR hG ht (by omega) (fun M1 g1 g2 => ?_)
    refine c4_figures _ 26 rg26 n kd _ _ ngt M1 _ g1 h7 ?_
    have b1 := fig_lt7 (okT_step (kd := kd) (ngt := ngt) (stp := stp) (asl := 0) ht) h7
    have b2 := fig_lt7 h0 h7
    simp (disch := omega) only [nI_eq]
    refine ⟨fun q => ?_, fun q => ?_⟩
    · refine c7_rndLoop d n kd ngt t0 Q hG h0 k M1 _ (stp + 1) (by omega) g1 (okT_step ht) (by omega) (fun M' g3 => ?_)
      have := h M' (frC_tr g2 g3)
      rw [rndS, if_neg q] at this
      exact this
    · have := h M1 g2
      rw [rndS, if_pos q] at this
      exact this
/-- the inner comparison: with 0 it goes on; with 1 it asks the rest -/
theorem c8_rin (d n j : Nat) (kd t0 th : Nat → Nat) (stp0 stp ngt : Nat) (M : Mm) (Q : Int32 → Mm → Prop) (h7 : n ≤ 7) (hM : RgM M 0 n kd t0 stp0 ngt) (hT : RgM M 17 n kd th stp ngt) (ht0 : okT n t0) (ht : okT n th) : ∀ (k : Nat) (b : Bool), k ≤ n →
    ((b = true ∧ ∀ i, n - k ≤ i → i < n → th i = t0 i) → Q (nI j) M) → (¬ (b = true ∧ ∀ i, n - k ≤ i → i < n → th i = t0 i) → BX8_round (d + 1) 18 [(0, .ref 49), (1, .int (nI (j + 1)))] [] M Q) →
    BX8_round (d + 1) 36 [(0, .ref 49), (1, .int (nI j)), (2, .int (if b then 1 else 0)), (3, .int (nI (n - k)))] [] M Q
  | 0, b, _, hy, hn => by
    apply rX8_round_36
    have e0 : M 50 0 = nI n := hM.1
    rw [clamp0, e0, nI_1]
    refine ⟨vp_in_nI (n := 0) (by omega) (by omega), fun _ => ⟨fun q => hn (fun z => ?_), fun q => hy ⟨?_, fun i x1 x2 => by omega⟩⟩, fun q => absurd (nI_le (a := n) (b := n - 0) (by omega) (by omega)) q⟩
    · rw [z.1] at q; exact absurd q (by decide)
    · cases b with
      | true => rfl
      | false => exact absurd rfl q
  | k + 1, b, hk, hy, hn => by
    apply rX8_round_36
    have e0 : M 50 0 = nI n := hM.1
    have hs : n - (k + 1) < n := by omega
    have e1 : M 50 (17 + 3 + (n - (k + 1))) = nI (th (n - (k + 1))) := hT.2.2.2.1 _ hs
    have e2 : M 50 (0 + 3 + (n - (k + 1))) = nI (t0 (n - (k + 1))) := hM.2.2.2.1 _ hs
    have x1 := ht _ hs
    have x2 := ht0 _ hs
    have e : n - (k + 1) + 1 = n - k := by omega
    rw [clamp0, e0, show nI (n - (k + 1)) + 1 = nI (n - k) by rw [nI_1, e], show (20 : Int32) + nI (n - (k + 1)) = nI (17 + 3 + (n - (k + 1))) by rw [li_20, nI_add], show (3 : Int32) + nI (n - (k + 1)) = nI (0 + 3 + (n - (k + 1))) by rw [li_3, nI_add], nI_clamp (by omega), nI_clamp (by omega), e1, e2]
    have go : ∀ b' : Bool, ((b' = true ∧ ∀ i, n - k ≤ i → i < n → th i = t0 i) ↔ (b = true ∧ ∀ i, n - (k + 1) ≤ i → i < n → th i = t0 i)) → BX8_round (d + 1) 36 [(0, .ref 49), (1, .int (nI j)), (2, .int (if b' then 1 else 0)), (3, .int (nI (n - k)))] [] M Q := fun b' hb =>
      c8_rin d n j kd t0 th stp0 stp ngt M Q h7 hM hT ht0 ht k b' (by omega) (fun z => hy (hb.mp z)) (fun z => hn (fun y => z (hb.mpr y)))
    refine ⟨vp_in_nI (n := 0) (by omega) (by omega), fun q => absurd q (nI_ge hs (by omega)), fun _ => ⟨fun q => ?_, fun q => ⟨vp_in_nI (by omega) (by omega), vp_in_nI (by omega) (by omega), ?_⟩⟩⟩
    · have hb : b = false := by
        cases b with
        | true => exact absurd q (by decide)
        | false => rfl
      exact go false ⟨fun z => absurd z.1 (by decide), fun z => by rw [hb] at z; exact absurd z.1 (by decide)⟩
    · have hb : b = true := by
        cases b with
        | true => rfl
        | false => exact absurd rfl q
      simp (disch := omega) only [nI_eq]
      refine ⟨fun q2 => go false ⟨fun z => absurd z.1 (by decide), fun z => absurd (z.2 _ (Nat.le_refl _) hs) q2⟩, fun q2 => go true ⟨fun z => ⟨hb, fun i y1 y2 => ?_⟩, fun z => ⟨rfl, fun i y1 y2 => z.2 i (by omega) y2⟩⟩⟩
      by_cases c : i = n - (k + 1)
      · rw [c]; exact q2
      · exact z.2 i (by omega) y2
theorem c8_rndLoop (d n : Nat) (kd : Nat → Nat) (ngt : Nat) (t0 : Nat → Nat) (stp0 : Nat) (Q : Int32 → Mm → Prop) (hG : okG n kd ngt) (h0 : okT n t0) : ∀ (k : Nat) (M : Mm) (th : Nat → Nat) (stp : Nat), k ≤ 200 → RgM M 0 n kd t0 stp0 ngt → RgM M 17 n kd th stp ngt → okT n th → stp + k < 2 ^ 29 → (∀ M', frM M M' → Q (rndS n kd ngt t0 k stp th) M') →
    BX8_round (d + 3) 18 [(0, .ref 49), (1, .int (nI (201 - k)))] [] M Q
  | 0, M, th, stp, _, hM, hR, ht, hst, h => by
    apply rX8_round_18
    exact ⟨fun _ => h M frM_rf, fun q => absurd (nI_lt (a := 200) (b := 201 - 0) (by omega) (by omega)) q⟩
  | k + 1, M, th, stp, hk, hM, hR, ht, hst, h => by
    apply rX8_round_18
    have h7 := hG.1
    have e : 201 - (k + 1) + 1 = 201 - k := by omega
    refine ⟨fun q => absurd q (nI_nlt (a := 200) (by omega) (by omega)), fun _ => ?_⟩
    refine t8_adv d n kd th stp ngt M _ hR hG ht (by omega) (fun M1 g1 g2 => ?_)
    have hM1 : RgM M1 0 n kd t0 stp0 ngt := RgM_c hM h7 (fun i _ hi => g2.2 i (by omega))
    have key := fig_inj (okT_step (kd := kd) (ngt := ngt) (stp := stp) (asl := 0) ht) h0 n (Nat.le_refl n)
    have := c8_rin (d + 2) n (201 - (k + 1)) kd t0 _ stp0 (stp + 1) ngt M1 Q h7 hM1 g1 h0 (okT_step ht) n true (Nat.le_refl n) (fun z => ?_) (fun z => ?_)
    · rw [Nat.sub_self] at this
      exact this
    · have q := h M1 g2
      rw [rndS, if_pos (key.mpr (fun i hi => z.2 i (by omega) hi))] at q
      exact q
    · rw [e]
      refine c8_rndLoop d n kd ngt t0 stp0 Q hG h0 k M1 _ (stp + 1) (by omega) hM1 g1 (okT_step ht) (by omega) (fun M' g3 => ?_)
      have q := h M' (frM_tr g2 g3)
      rw [rndS, if_neg (fun y => z ⟨rfl, fun i _ hi => key.mp y i hi⟩)] at q
      exact q
theorem L_round (M : Mm) (hI : Inv M) : kX7_round 40 M (fun r1 M1 => kX8_round 40 M1 (fun r2 M2 => r1 = r2 ∧ Inv M2)) := by
  obtain ⟨n, kd, th, stp, ngt, hC, hM, hok, -⟩ := hI.2.2.1
  have h7 := okR_7 hok
  apply rX7_round
  rw [hC.1, nI_n0 h7]
  refine ⟨fun hn => ?_, fun q => ?_⟩
  · obtain ⟨hG, hst⟩ := okR_G hok (by omega)
    refine c4_figures _ 23 rg23 n kd th stp ngt M _ hC h7 ?_
    refine t4_become _ n kd th stp ngt M _ hC h7 (fun M1 g1 g2 => ?_)
    refine c7_rndLoop 36 n kd ngt th _ hG (okR_T hok).1 200 M1 th stp (Nat.le_refl 200) g1 (okR_T hok).1 (by omega) (fun M2 g3 => ?_)
    have fr := frC_tr g2 g3
    have hM2 := RgM_fr hM h7 fr
    apply rX8_round
    rw [clamp0, hM2.1, nI_n0 h7]
    refine ⟨vp_in_nI (n := 0) (by omega) (by omega), fun _ => ?_, fun z => absurd z hn⟩
    refine t8_tries _ n kd th stp ngt M2 _ hM2 h7 (fun M3 g4 g5 => ?_)
    exact c8_rndLoop 37 n kd ngt th stp _ hG (okR_T hok).1 200 M3 th stp (Nat.le_refl 200) (RgM_c hM2 h7 (fun i _ hi => g5.2 i (by omega))) g4 (okR_T hok).1 (by omega) (fun M4 g6 => ⟨rfl, Inv_s hI (scr_fr fr (frM_tr g5 g6))⟩)
  · apply rX8_round
    rw [clamp0, hM.1, nI_n0 h7]
    exact ⟨vp_in_nI (n := 0) (by omega) (by omega), fun z => absurd q z, fun _ => ⟨rfl, hI⟩⟩
