/-! the clues as told; fits -/
def clueOK (n : Nat) (v1 v2 v4 v5 : Int32) : Prop := ∃ s j N : Nat, s < n ∧ j < 8 ∧ 1 ≤ N ∧ N ≤ 12 ∧ v1 = nI s ∧ v2 = nI j ∧ v4 = nI N ∧ (v5 = 0 ∨ v5 = 1)
theorem n12_ix (v : Int32) : (v < nI 1 ∨ nI 13 ≤ v) ∨ ∃ t, 1 ≤ t ∧ t ≤ 12 ∧ v = nI t := by
  rcases pk_ix v (n := 13) (by omega) with h | h | ⟨t, h, rfl⟩
  · exact Or.inl (Or.inl (neg_lt h (by omega)))
  · exact Or.inl (Or.inr h)
  · rcases Nat.eq_zero_or_pos t with z | z
    · exact Or.inl (Or.inl (by rw [z]; exact nI_lt (by omega) (by omega)))
    · exact Or.inr ⟨t, z, by omega, rfl⟩
theorem clue_ix (n : Nat) (h7 : n ≤ 7) (v1 v2 v4 v5 : Int32) : clueOK n v1 v2 v4 v5 ∨ ((v1 < 0 ∨ nI n ≤ v1) ∨ ∃ s, s < n ∧ v1 = nI s ∧ ((v2 < 0 ∨ nI 8 ≤ v2) ∨ ∃ j, j < 8 ∧ v2 = nI j ∧ ((v4 < nI 1 ∨ nI 13 ≤ v4) ∨ ∃ N, 1 ≤ N ∧ N ≤ 12 ∧ v4 = nI N ∧ ¬ (v5 = 0 ∨ v5 = 1)))) := by
  rcases s_ix v1 h7 with h1 | ⟨s, hs, e1⟩
  · exact Or.inr (Or.inl h1)
  · rcases pk_ix v2 (n := 8) (by omega) with h2 | h2 | ⟨j, hj, e2⟩
    · exact Or.inr (Or.inr ⟨s, hs, e1, Or.inl (Or.inl h2)⟩)
    · exact Or.inr (Or.inr ⟨s, hs, e1, Or.inl (Or.inr h2)⟩)
    · rcases n12_ix v4 with h3 | ⟨N, hN1, hN2, e3⟩
      · exact Or.inr (Or.inr ⟨s, hs, e1, Or.inr ⟨j, hj, e2, Or.inl h3⟩⟩)
      · by_cases c : v5 = 0 ∨ v5 = 1
        · exact Or.inl ⟨s, j, N, hs, hj, hN1, hN2, e1, e2, e3, c⟩
        · exact Or.inr (Or.inr ⟨s, hs, e1, Or.inr ⟨j, hj, e2, Or.inr ⟨N, hN1, hN2, e3, c⟩⟩⟩)
theorem c7_clueY (d n : Nat) (v1 v2 v4 v5 : Int32) (M : Mm) (Q : Int32 → Mm → Prop) (hn : M 23 2 = nI n) (h7 : n ≤ 7) (hc : clueOK n v1 v2 v4 v5) (h : Q 1 M) : kX7_areCluesAsTold (d + 1) v1 v2 v4 v5 M Q := by
  obtain ⟨s, j, N, hs, hj, hN1, hN2, rfl, rfl, rfl, e⟩ := hc
  apply rX7_areCluesAsTold
  refine c4_sy _ 23 rg23 n s _ _ hn h7 hs ⟨fun q => absurd q (by decide), fun _ => c7_row_y _ j _ _ hj ⟨fun q => absurd q (by decide), fun _ => ?_⟩⟩
  refine ⟨fun q => absurd (nI_le (a := 1) (b := N) (by omega) (by omega)) (by rw [Int32.not_le]; exact q), fun _ => ⟨fun q => absurd (nI_le (a := N) (b := 12) (by omega) (by omega)) (by rw [Int32.not_le]; exact q), fun _ => c7_fs _ _ _ _ ?_⟩⟩
  rw [if_pos e]
  exact ⟨fun q => absurd q (by decide), fun _ => h⟩
theorem c7_clueN (d n : Nat) (v1 v2 v4 v5 : Int32) (M : Mm) (Q : Int32 → Mm → Prop) (hn : M 23 2 = nI n) (h7 : n ≤ 7) (hc : ¬ clueOK n v1 v2 v4 v5) (h : Q 0 M) : kX7_areCluesAsTold (d + 1) v1 v2 v4 v5 M Q := by
  apply rX7_areCluesAsTold
  rcases clue_ix n h7 v1 v2 v4 v5 with z | z | ⟨s, hs, rfl, z⟩
  · exact absurd z hc
  · exact c4_sn _ 23 rg23 n _ _ _ hn z ⟨fun _ => h, fun q => absurd rfl q⟩
  · refine c4_sy _ 23 rg23 n s _ _ hn h7 hs ⟨fun q => absurd q (by decide), fun _ => ?_⟩
    rcases z with z | ⟨j, hj, rfl, z⟩
    · exact c7_row_n _ _ _ _ z ⟨fun _ => h, fun q => absurd rfl q⟩
    · refine c7_row_y _ j _ _ hj ⟨fun q => absurd q (by decide), fun _ => ?_⟩
      rcases z with z | ⟨N, hN1, hN2, rfl, z⟩
      · refine ⟨fun _ => h, fun q => ⟨fun _ => h, fun q2 => ?_⟩⟩
        rcases z with z | z
        · exact absurd z q
        · exact absurd (by have := big_gt (m := 12) z (by omega) (by omega); rw [Int32.not_le] at this; exact this) q2
      · refine ⟨fun _ => h, fun _ => ⟨fun _ => h, fun _ => c7_fs _ _ _ _ ?_⟩⟩
        rw [if_neg z]
        exact ⟨fun _ => h, fun q => absurd rfl q⟩
theorem c8_barsN (d n : Nat) (v1 v2 v3 v4 v5 : Int32) (M : Mm) (Q : Int32 → Mm → Prop) (hn : M 50 0 = nI n) (h7 : n ≤ 7) (hc : ¬ clueOK n v1 v2 v4 v5) (h : Q (-1000001) M) : kX8_bars (d + 2) v1 v2 v3 v4 v5 M Q := by
  apply rX8_bars
  rcases clue_ix n h7 v1 v2 v4 v5 with z | z | ⟨s, hs, rfl, z⟩
  · exact absurd z hc
  · exact c8_sn _ n _ _ _ hn h7 z ⟨fun _ => h, fun q => absurd rfl q⟩
  · refine c8_sy _ n s _ _ hn h7 hs ⟨fun q => absurd q (by decide), fun _ => ?_⟩
    rcases z with z | ⟨j, hj, rfl, z⟩
    · exact c8_row_n _ _ _ _ z ⟨fun _ => h, fun q => absurd rfl q⟩
    · refine c8_row_y _ j _ _ hj ⟨fun q => absurd q (by decide), fun _ => ?_⟩
      rcases z with z | ⟨N, hN1, hN2, rfl, z⟩
      · exact c8_n1 _ 12 _ _ _ (by omega) z ⟨fun _ => h, fun q => absurd rfl q⟩
      · refine c8_y1 _ N 12 _ _ hN1 hN2 (by omega) ⟨fun q => absurd q (by decide), fun _ => c8_fs _ _ _ _ ?_⟩
        rw [if_neg z]
        exact ⟨fun q => absurd rfl q, fun _ => h⟩
theorem c8_barsY (d n s j N : Nat) (v3 v5 : Int32) (M : Mm) (Q : Int32 → Mm → Prop) (hn : M 50 0 = nI n) (h7 : n ≤ 7) (hs : s < n) (hj : j < 8) (hN1 : 1 ≤ N) (hN2 : N ≤ 12) (e : v5 = 0 ∨ v5 = 1) (hI : I_row M j) (h : (fndN M j v3 (nI N) = 0 → Q 0 (upd2 M 49 5 0)) ∧ (¬ fndN M j v3 (nI N) = 0 → Q (-1000010 - fndN M j v3 (nI N)) (upd2 M 49 5 (fndN M j v3 (nI N))))) : kX8_bars (d + 2) (nI s) (nI j) v3 (nI N) v5 M Q := by
  apply rX8_bars
  refine c8_sy _ n s _ _ hn h7 hs ⟨fun q => absurd q (by decide), fun _ => ?_⟩
  refine c8_row_y _ j _ _ hj ⟨fun q => absurd q (by decide), fun _ => ?_⟩
  refine c8_y1 _ N 12 _ _ hN1 hN2 (by omega) ⟨fun q => absurd q (by decide), fun _ => c8_fs _ _ _ _ ?_⟩
  rw [if_pos e]
  refine ⟨fun _ => ?_, fun q => absurd q (by decide)⟩
  refine c8_agst _ j hj _ _ M _ hI ?_
  rcases fnd_cases (M := M) (j := j) (i := v3) (n := nI N) with c | c | ⟨c, -, -⟩
  · rw [c] at h ⊢
    exact ⟨fun q => absurd q (by decide), fun _ => c8_finds _ _ _ _ (h.2 (by decide))⟩
  · rw [c] at h ⊢
    exact ⟨fun q => absurd q (by decide), fun _ => c8_finds _ _ _ _ (h.2 (by decide))⟩
  · rw [c] at h ⊢
    refine ⟨fun _ => ?_, fun q => absurd (by decide) q⟩
    rintro M1 rfl
    exact h.1 rfl
theorem scr_49 {M M1 : Mm} {x : Int32} (h : scr M M1) : scr (upd2 M 49 5 x) (upd2 M1 49 5 x) := by
  have u : ∀ (M : Mm) (k : Nat), k ≠ 49 → upd2 M 49 5 x k = M k := fun M k hk => upd2_off hk
  refine ⟨fun k a1 a2 a3 a4 a5 a6 a7 a8 a9 b1 b2 b3 b4 b5 b6 b7 b8 b9 c1 c2 c3 c4 c5 c6 => ?_, fun j hj => ?_, ?_, fun j x1 x2 x3 => ?_, fun i hi => ?_⟩
  · rw [u M1 k b5, u M k b5]; exact h.1 k a1 a2 a3 a4 a5 a6 a7 a8 a9 b1 b2 b3 b4 b5 b6 b7 b8 b9 c1 c2 c3 c4 c5 c6
  · rw [u M1 18 (by omega), u M 18 (by omega)]; exact h.2.1 j hj
  · rw [u M1 20 (by omega), u M 20 (by omega)]; exact h.2.2.1
  · by_cases cj : j = 5
    · subst cj; rw [upd2_at, upd2_at]
    · rw [upd2_row cj, upd2_row cj]; exact h.2.2.2.1 j x1 x2 x3
  · rw [u M1 50 (by omega), u M 50 (by omega)]; exact h.2.2.2.2 i hi
/-- both set how it was found, and work with their rows of work -/
theorem Inv_two {M M1 M2 : Mm} {x : Int32} (hI : Inv M) (h1 : scr (upd2 M 0 10 x) M1) (h2 : scr (upd2 M1 49 5 x) M2) : Inv M2 := Inv_s (Inv_f hI x) (scr_tr (scr_49 h1) h2)
theorem scr_C {M M' : Mm} (h : frC M M') : scr M M' := scr_fr h frM_rf
theorem scr_M {M M' : Mm} (h : frM M M') : scr M M' := scr_fr frC_rf h
/-- what the clues are, once told right -/
theorem clue_it {M : Mm} {j N : Nat} {v3 : Int32} (hI : I_row M j) (hj : j < 8) (hN : N ≤ 12) (h : fndN M j v3 (nI N) = 0) : ∃ a, v3 = nI a ∧ a + N ≤ 40 ∧ ∀ x, x < N → M (3 + 2 * j) (a + x) = M 54 (40 * j + a + x) := by
  rcases fnd_cases (M := M) (j := j) (i := v3) (n := nI N) with c | c | ⟨-, c1, c2⟩
  · rw [c] at h; exact absurd h (by decide)
  · rw [c] at h; exact absurd h (by decide)
  · rcases hI with ⟨g1, g2⟩ | ⟨ln, sz, q1, q2, q3, q4, q5, q6, q7⟩
    · exact absurd g2 c1
    · rw [q5, nI_clamp (by omega)] at c2
      obtain ⟨a, b, ea, eb, hab⟩ := hasP_nat c2 q2
      have hb : N = b := (nI_eq (a := N) (b := b) (by omega) (by omega)).mp eb
      exact ⟨a, ea, by omega, fun x hx => by rw [Nat.add_assoc]; exact q7 (a + x) (by omega)⟩
theorem L_fits (v1 v2 v3 v4 v5 : Int32) (M : Mm) (hI : Inv M) : kX7_fits 40 v1 v2 v3 v4 v5 M (fun r1 M1 => kX8_fits 40 v1 v2 v3 v4 v5 M1 (fun r2 M2 => r1 = r2 ∧ Inv M2)) := by
  obtain ⟨n, kd, th, stp, ngt, hC, hM, hok, -⟩ := hI.2.2.1
  have h7 := okR_7 hok
  apply rX7_fits
  by_cases hc : clueOK n v1 v2 v4 v5
  · refine c7_clueY _ n _ _ _ _ M _ hC.1 h7 hc ⟨fun _ => ?_, fun q => absurd q (by decide)⟩
    obtain ⟨s, j, N, hs, hj, hN1, hN2, rfl, rfl, rfl, e⟩ := hc
    obtain ⟨hG, hst⟩ := okR_G hok (by omega)
    refine c7_fOf _ j hj _ _ M _ (hI.1 j hj) ?_
    by_cases c : fndN M j v3 (nI N) = 0
    · obtain ⟨a, rfl, haN, hit⟩ := clue_it (hI.1 j hj) hj hN2 c
      rw [c]
      refine ⟨fun _ => ?_, fun q => absurd rfl q⟩
      rintro M1 rfl
      have r1 : ∀ k, k ≠ 0 → upd2 M 0 10 0 k = M k := fun k hk => upd2_off hk
      have hC1 : RgC (upd2 M 0 10 0) 23 n kd th stp ngt := RgC_c hC (r1 _ (by omega)) (r1 _ (by omega)) (r1 _ (by omega))
      have end8 : ∀ (w V : Nat) (f : Nat → Bool) (M1 : Mm), v5 = nI w → ((w = 0 ∧ V = 5 ∧ f = fun v => shwS n (updK kd s v) ngt s (fun x => M 54 (40 * j + a + x)) N 0 stp th) ∨ (w = 1 ∧ V = 9 ∧ f = fun v => shwS n kd v s (fun x => M 54 (40 * j + a + x)) N 0 stp th)) → frC (upd2 M 0 10 0) M1 → kX8_fits 40 (nI s) (nI j) (nI a) (nI N) v5 M1 (fun r2 M2 => accI f V V 0 = r2 ∧ Inv M2) := by
        intro w V f M1 ew hw fr
        subst ew
        have q1 : ∀ k, k ≠ 0 → k ≠ 26 → k ≠ 27 → k ≠ 28 → M1 k = M k := fun k x1 x2 x3 x4 => by rw [fr k x2 x3 x4, r1 k x1]
        have hM1 : RgM M1 0 n kd th stp ngt := RgM_c hM h7 (fun i _ _ => by rw [q1 50 (by omega) (by omega) (by omega) (by omega)])
        have hI1 : I_row M1 j := I_row_c (hI.1 j hj) (q1 _ (by omega) (by omega) (by omega) (by omega)) (q1 _ (by omega) (by omega) (by omega) (by omega)) (q1 _ (by omega) (by omega) (by omega) (by omega)) (q1 _ (by omega) (by omega) (by omega) (by omega)) (q1 _ (by omega) (by omega) (by omega) (by omega))
        have hf1 : fndN M1 j (nI a) (nI N) = 0 := by rw [fndN_c (q1 52 (by omega) (by omega) (by omega) (by omega))]; exact c
        apply rX8_fits
        refine c8_barsY _ n s j N _ _ M1 _ hM1.1 h7 hs hj hN1 hN2 e hI1 ⟨fun _ => ⟨fun _ => ?_, fun q => absurd (by decide) q⟩, fun z => absurd hf1 z⟩
        have u1 : ∀ k, k ≠ 49 → upd2 M1 49 5 0 k = M1 k := fun k hk => upd2_off hk
        have := c8_fitLoop 36 n s j a N w V kd th stp ngt (fun x => M 54 (40 * j + a + x)) (fun r2 M2 => accI f V V 0 = r2 ∧ Inv M2) f hG hs hj haN (okR_T hok).1 (by omega) hw V (upd2 M1 49 5 0) 0 (Nat.le_refl V) (RgM_c hM1 h7 (fun i _ _ => by rw [u1 50 (by omega)])) (fun x _ => by rw [u1 54 (by omega), q1 54 (by omega) (by omega) (by omega) (by omega)]) (fun M' g => ⟨rfl, ?_⟩)
        · rw [show V + 1 - V = 1 by omega] at this
          exact this
        · exact Inv_two hI (scr_C fr) (scr_M g)
      refine ⟨fun q => ?_, fun q => ?_⟩
      · have e1 : v5 = nI 1 := e.elim (fun z => absurd z q) id
        apply rX7_nightsThatFit
        refine c7_ntLoop 34 n s j a N kd th stp ngt (fun x => M 54 (40 * j + a + x)) _ hG hs hj haN (okR_T hok).1 (by omega) 9 (upd2 M 0 10 0) 0 (Nat.le_refl 9) hC1 (fun x hx => by rw [r1 _ (by omega)]; exact hit x hx) (fun M1 fr => ?_)
        exact end8 1 9 _ M1 e1 (Or.inr ⟨rfl, rfl, rfl⟩) fr
      · apply rX7_kindsThatFit
        refine c7_kdLoop 34 n s j a N kd th stp ngt (fun x => M 54 (40 * j + a + x)) _ hG hs hj haN (okR_T hok).1 (by omega) 5 (upd2 M 0 10 0) 0 (Nat.le_refl 5) hC1 (fun x hx => by rw [r1 _ (by omega)]; exact hit x hx) (fun M1 fr => ?_)
        exact end8 0 5 _ M1 q (Or.inl ⟨rfl, rfl, rfl⟩) fr
    · refine ⟨fun q => absurd q c, fun _ => c7_found _ _ _ _ ?_⟩
      apply rX8_fits
      have hf1 : fndN (upd2 M 0 10 (fndN M j v3 (nI N))) j v3 (nI N) = fndN M j v3 (nI N) := fndN_c (upd2_off (by omega))
      refine c8_barsY _ n s j N _ _ _ _ (by rw [upd2_off (by omega)]; exact hM.1) h7 hs hj hN1 hN2 e (I_row_c (hI.1 j hj) (upd2_off (by omega)) (upd2_off (by omega)) (upd2_off (by omega)) (upd2_off (by omega)) (upd2_off (by omega))) ⟨fun z => absurd (hf1 ▸ z) c, fun _ => ?_⟩
      rw [hf1]
      refine ⟨fun q => ?_, fun _ => ⟨rfl, Inv_f hI _⟩⟩
      rcases fnd_cases (M := M) (j := j) (i := v3) (n := nI N) with z | z | ⟨z, -⟩
      · rw [z] at q; exact absurd q (by decide)
      · rw [z] at q; exact absurd q (by decide)
      · exact absurd z c
  · refine c7_clueN _ n _ _ _ _ M _ hC.1 h7 hc ⟨fun q => absurd rfl q, fun _ => ?_⟩
    apply rX8_fits
    exact c8_barsN _ n _ _ _ _ _ M _ hM.1 h7 hc ⟨fun q => absurd q (by decide), fun _ => ⟨rfl, hI⟩⟩
