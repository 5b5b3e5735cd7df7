/-! COPIES: a ring becomes another; blocks of w; tries, image, restore -/
def cpW (M : Mm) (a b n : Nat) : Mm := setR M 50 (fun i => if b ≤ i ∧ i < b + n then M 50 (a + (i - b)) else M 50 i)
theorem cpW_off {M : Mm} {a b n k : Nat} (h : k ≠ 50) : cpW M a b n k = M k := setR_ne h
theorem cpW_out {M : Mm} {a b n i : Nat} (h : i < b ∨ b + n ≤ i) : cpW M a b n 50 i = M 50 i := by
  unfold cpW
  rw [setR_eq, if_neg (by omega)]
theorem cpW_in {M : Mm} {a b n i : Nat} (h : i < n) : cpW M a b n 50 (b + i) = M 50 (a + i) := by
  unfold cpW
  rw [setR_eq, if_pos (by omega), show b + i - b = i by omega]
theorem c8_cpLoop (d a b n : Nat) (ha : a + n ≤ 301) (hb : b + n ≤ 301) (hd : a + n ≤ b ∨ b + n ≤ a) (Q : Int32 → Mm → Prop) (M : Mm) (h : Q 0 (cpW M a b n)) : ∀ k, k ≤ n → BX8_copyOf d 3 [(0, .ref 49), (1, .int (nI a)), (2, .int (nI b)), (3, .int (nI n)), (4, .int (nI (n - k)))] [] (cpW M a b (n - k)) Q
  | 0, _ => by
    apply rX8_copyOf_3
    simp (disch := omega) only [li_0, li_1, li_2, li_3, li_4, li_5, li_6, li_7, li_8, li_9, li_10, li_16, li_17, li_20, li_24, li_34, li_40, li_50, li_60, li_68, li_85, li_200, li_9999, nI_add, nI_clamp, vpT, nI_leI, nI_ltI, nI_eq, irem_nI, true_and, and_true, forall_eq, not_true_eq_false, not_false_eq_true, forall_const, false_and, and_false, false_imp_iff, true_imp_iff, imp_self]
    exact ⟨fun _ => h, fun q => by omega⟩
  | k + 1, hk => by
    apply rX8_copyOf_3
    have e : n - (k + 1) + 1 = n - k := by omega
    simp (disch := omega) only [li_0, li_1, li_2, li_3, li_4, li_5, li_6, li_7, li_8, li_9, li_10, li_16, li_17, li_20, li_24, li_34, li_40, li_50, li_60, li_68, li_85, li_200, li_9999, nI_add, nI_clamp, vpT, nI_leI, nI_ltI, nI_eq, irem_nI, true_and, and_true, forall_eq, not_true_eq_false, not_false_eq_true, forall_const, false_and, and_false, false_imp_iff, true_imp_iff, imp_self, e]
    refine ⟨fun q => by omega, fun _ => ?_⟩
    have e2 : upd2 (cpW M a b (n - (k + 1))) 50 (b + (n - (k + 1))) (cpW M a b (n - (k + 1)) 50 (a + (n - (k + 1)))) = cpW M a b (n - k) := by
      rw [cpW_out (by omega)]
      funext q i
      by_cases hq : q = 50
      · subst hq
        rw [upd2_r]
        by_cases c : i = b + (n - (k + 1))
        · rw [if_pos c, c, cpW_in (by omega)]
        · rw [if_neg c]
          by_cases c2 : i < b ∨ b + (n - k) ≤ i
          · rw [cpW_out (by omega), cpW_out c2]
          · obtain ⟨x, rfl⟩ : ∃ x, i = b + x := ⟨i - b, by omega⟩
            rw [cpW_in (by omega), cpW_in (by omega)]
      · rw [upd2_off hq, cpW_off hq, cpW_off hq]
    have := c8_cpLoop d a b n ha hb hd Q M h k (by omega)
    rw [← e2] at this
    exact this
theorem cpW_0 {M : Mm} {a b : Nat} : cpW M a b 0 = M := by
  funext q i
  by_cases hq : q = 50
  · subst hq; exact cpW_out (by omega)
  · rw [cpW_off hq]
theorem c8_copyOf (d a b n : Nat) (ha : a + n ≤ 301) (hb : b + n ≤ 301) (hd : a + n ≤ b ∨ b + n ≤ a) (Q : Int32 → Mm → Prop) (M : Mm) (h : Q 0 (cpW M a b n)) : kX8_copyOf d (nI a) (nI b) (nI n) M Q := by
  apply rX8_copyOf
  have := c8_cpLoop d a b n ha hb hd Q M h n (Nat.le_refl n)
  rw [Nat.sub_self, cpW_0] at this
  exact this
/-- a whole ring's block is copied -/
theorem RgM_cp {M : Mm} {a b n : Nat} {kd th : Nat → Nat} {stp ngt : Nat} (h : RgM M a n kd th stp ngt) (h7 : n ≤ 7) : RgM (cpW M a b 17) b n kd th stp ngt := by
  obtain ⟨g1, g2, g3, g4, g5⟩ := h
  refine ⟨?_, ?_, ?_, fun i hi => ?_, fun i hi => ?_⟩
  · have := cpW_in (M := M) (a := a) (b := b) (n := 17) (i := 0) (by omega)
    rw [Nat.add_zero, Nat.add_zero] at this
    rw [this]; exact g1
  · rw [cpW_in (by omega)]; exact g2
  · rw [cpW_in (by omega)]; exact g3
  · rw [Nat.add_assoc, cpW_in (by omega), ← Nat.add_assoc]; exact g4 i hi
  · rw [Nat.add_assoc, cpW_in (by omega), ← Nat.add_assoc]; exact g5 i hi
theorem c8_tries (d n : Nat) (kd th : Nat → Nat) (stp ngt : Nat) (M : Mm) (Q : Int32 → Mm → Prop) (hR : RgM M 0 n kd th stp ngt) (h7 : n ≤ 7) (h : ∀ M', RgM M' 17 n kd th stp ngt → (∀ k, k ≠ 50 → M' k = M k) → (∀ i, (i < 17 ∨ 34 ≤ i) → M' 50 i = M 50 i) → Q 0 M') : kX8_tries (d + 1) M Q := by
  apply rX8_tries
  exact c8_copyOf d 0 17 17 (by omega) (by omega) (by omega) _ M (h _ (RgM_cp hR h7) (fun k hk => cpW_off hk) (fun i hi => cpW_out (by omega)))
theorem cpy7 {f g : Nat → Int32} {i : Nat} (h : i < 7) : va_cpy f g 0 0 7 i = f i := by
  rw [pk_cpy_in (by omega) (by omega)]
  congr 1
  omega
theorem c4_become (d o0 o1 : Nat) (h0 : isRg o0) (h1 : isRg o1) (hne : o0 ≠ o1) (n : Nat) (kd th : Nat → Nat) (stp ngt : Nat) (M : Mm) (Q : Int32 → Mm → Prop) (hR : RgC M o1 n kd th stp ngt) (h7 : n ≤ 7)
    (h : ∀ M', RgC M' o0 n kd th stp ngt → (∀ k, k ≠ o0 → k ≠ o0 + 1 → k ≠ o0 + 2 → M' k = M k) → Q 0 M') : kX4_become (d + 1) o0 o1 M Q := by
  have a1 : o1 ≠ o0 + 1 ∧ o1 ≠ o0 + 2 ∧ o1 + 1 ≠ o0 ∧ o1 + 1 ≠ o0 + 2 ∧ o1 + 2 ≠ o0 ∧ o1 + 2 ≠ o0 + 1 := by unfold isRg at h0 h1; omega
  apply rX4_become _ _ h0 _ h1
  have c7 : (7 : Int32).toNatClampNeg = 7 := rfl
  rw [clamp0, c7]
  have side : (¬ (0 : Int32) < 0 ∧ ¬ (0 : Int32) < 0 ∧ ¬ (7 : Int32) < 0 ∧ 0 + 7 ≤ 7 ∧ 0 + 7 ≤ 7) := by decide
  refine ⟨side, ?_⟩
  rintro M1 rfl
  refine ⟨side, ?_⟩
  rintro M2 rfl M3 rfl M4 rfl M5 rfl
  obtain ⟨g1, g2, g3, g4, g5⟩ := hR
  apply h
  · refine ⟨?_, ?_, ?_, fun i hi => ?_, fun i hi => ?_⟩
    · rw [upd2_row (by omega), upd2_row (by omega), upd2_at, setR_ne (by omega), setR_ne (by omega)]; exact g1
    · rw [upd2_row (by omega), upd2_at, upd2_off (by omega), setR_ne (by omega), setR_ne (by omega)]; exact g2
    · rw [upd2_at, upd2_off (by omega), upd2_off (by omega), setR_ne (by omega), setR_ne (by omega)]; exact g3
    · rw [upd2_off (by omega), upd2_off (by omega), upd2_off (by omega), setR_ne (by omega), setR_eq, cpy7 (by omega)]; exact g4 i hi
    · rw [upd2_off (by omega), upd2_off (by omega), upd2_off (by omega), setR_eq, cpy7 (by omega), setR_ne (by omega)]; exact g5 i hi
  · intro k x1 x2 x3
    rw [upd2_off x1, upd2_off x1, upd2_off x1, setR_ne x3, setR_ne x2]
theorem im_nI {k : Nat} (hk : k < 2) : im (nI k) = 30 + 3 * k := by unfold im; rw [nI_clamp (by omega)]
theorem L_image (v1 : Int32) (M : Mm) (hI : Inv M) : kX7_image 40 v1 M (fun r1 M1 => kX8_image 40 v1 M1 (fun r2 M2 => r1 = r2 ∧ Inv M2)) := by
  obtain ⟨n, kd, th, stp, ngt, hC, hM, hok, hact⟩ := hI.2.2.1
  have h7 := okR_7 hok
  apply rX7_image
  rcases pk_ix v1 (n := 2) (by omega) with h1 | h1 | ⟨k, hk, rfl⟩
  · refine ⟨fun _ => ?_, fun q => absurd h1 q⟩
    apply rX8_image
    exact c8_n _ 1 _ _ _ (by omega) (Or.inl h1) ⟨fun q => absurd rfl q, fun _ => ⟨rfl, hI⟩⟩
  · refine ⟨fun q => absurd q (big_pos h1 (by omega)), fun _ => ⟨fun q => absurd q (fun z => absurd h1 (by rw [Int32.not_le]; exact z)), fun _ => ?_⟩⟩
    apply rX8_image
    exact c8_n _ 1 _ _ _ (by omega) (Or.inr h1) ⟨fun q => absurd rfl q, fun _ => ⟨rfl, hI⟩⟩
  · refine ⟨fun q => absurd q (nI_pos (by omega)), fun _ => ⟨fun _ => ?_, fun q => absurd (nI_lt (a := k) (b := 2) (by omega) (by omega)) q⟩⟩
    rw [hC.1, im_nI hk, li_0]
    simp (disch := omega) only [nI_eq]
    refine ⟨fun q => ⟨vp_in_nI hk (by omega), ?_⟩, fun q => ?_⟩
    · refine c4_become _ (30 + 3 * k) 23 (by unfold isRg; omega) rg23 (by omega) n kd th stp ngt M _ hC h7 (fun M1 g1 g2 => ?_)
      apply rX8_image
      refine c8_y _ k 1 _ _ (by omega) (by omega) ⟨fun _ => ⟨vp_in_nI (n := 0) (by omega) (by omega), ?_⟩, fun q => absurd q (by decide)⟩
      have e0 : M1 50 0 = nI n := by rw [g2 50 (by omega) (by omega) (by omega)]; exact hM.1
      rw [clamp0, e0, li_0]
      simp (disch := omega) only [nI_eq]
      refine ⟨fun _ => ?_, fun z => absurd z q⟩
      rw [show (34 : Int32) + (17 : Int32) * nI k = nI (34 + 17 * k) by rw [li_34, li_17, pk_mul, nI_add]]
      refine c8_copyOf _ 0 (34 + 17 * k) 17 (by omega) (by omega) (by omega) _ M1 ⟨trivial, ?_⟩
      have hM1 : RgM M1 0 n kd th stp ngt := RgM_c hM h7 (fun i _ _ => by rw [g2 50 (by omega) (by omega) (by omega)])
      have r : ∀ q, q ≠ 30 + 3 * k → q ≠ 30 + 3 * k + 1 → q ≠ 30 + 3 * k + 2 → q ≠ 50 → cpW M1 0 (34 + 17 * k) 17 q = M q := fun q x1 x2 x3 x4 => by rw [cpW_off x4, g2 q x1 x2 x3]
      have r50 : ∀ i, (i < 34 + 17 * k ∨ 34 + 17 * k + 17 ≤ i) → cpW M1 0 (34 + 17 * k) 17 50 i = M 50 i := fun i hi => by rw [cpW_out hi, g2 50 (by omega) (by omega) (by omega)]
      have here : I_im (cpW M1 0 (34 + 17 * k) 17) k := ⟨n, kd, th, stp, ngt, RgC_c g1 (cpW_off (by omega)) (cpW_off (by omega)) (cpW_off (by omega)), RgM_cp hM1 h7, hok⟩
      obtain ⟨a, b, c, dd, e, f⟩ := hI
      refine ⟨I_rows_c a (fun q x1 x2 => r q (by omega) (by omega) (by omega) (by omega)) (r 52 (by omega) (by omega) (by omega) (by omega)) (r 53 (by omega) (by omega) (by omega) (by omega)) (r 54 (by omega) (by omega) (by omega) (by omega)), I_tape_c b (by rw [r 18 (by omega) (by omega) (by omega) (by omega)]) (by rw [r 18 (by omega) (by omega) (by omega) (by omega)]) (r 19 (by omega) (by omega) (by omega) (by omega)) (by rw [r 49 (by omega) (by omega) (by omega) (by omega)]) (by rw [r 49 (by omega) (by omega) (by omega) (by omega)]) (r 51 (by omega) (by omega) (by omega) (by omega)) (by rw [r 20 (by omega) (by omega) (by omega) (by omega)]), I_ra_c c (r 23 (by omega) (by omega) (by omega) (by omega)) (r 24 (by omega) (by omega) (by omega) (by omega)) (r 25 (by omega) (by omega) (by omega) (by omega)) (r 36 (by omega) (by omega) (by omega) (by omega)) (r 37 (by omega) (by omega) (by omega) (by omega)) (r 38 (by omega) (by omega) (by omega) (by omega)) (r 39 (by omega) (by omega) (by omega) (by omega)) (by rw [r 49 (by omega) (by omega) (by omega) (by omega)]) (fun i hi => r50 i (by omega)), ?_, ?_, I_trc_c f (by rw [r 46 (by omega) (by omega) (by omega) (by omega)]) (by rw [r 49 (by omega) (by omega) (by omega) (by omega)]) (r 47 (by omega) (by omega) (by omega) (by omega)) (r 64 (by omega) (by omega) (by omega) (by omega))⟩
      · rcases (show k = 0 ∨ k = 1 by omega) with rfl | rfl
        · exact ⟨here, I_im_c dd.2 (r _ (by omega) (by omega) (by omega) (by omega)) (r _ (by omega) (by omega) (by omega) (by omega)) (r _ (by omega) (by omega) (by omega) (by omega)) (fun i x1 x2 => r50 i (by omega))⟩
        · exact ⟨I_im_c dd.1 (r _ (by omega) (by omega) (by omega) (by omega)) (r _ (by omega) (by omega) (by omega) (by omega)) (r _ (by omega) (by omega) (by omega) (by omega)) (fun i x1 x2 => r50 i (by omega)), here⟩
      · unfold I_fnd
        rw [r 0 (by omega) (by omega) (by omega) (by omega), r 49 (by omega) (by omega) (by omega) (by omega)]
        exact e
    · apply rX8_image
      refine c8_y _ k 1 _ _ (by omega) (by omega) ⟨fun _ => ⟨vp_in_nI (n := 0) (by omega) (by omega), ?_⟩, fun q => absurd q (by decide)⟩
      have e0 : M 50 0 = nI n := hM.1
      rw [clamp0, e0, li_0]
      simp (disch := omega) only [nI_eq]
      exact ⟨fun z => absurd q z, fun _ => ⟨trivial, hI⟩⟩
theorem L_restore (v1 : Int32) (M : Mm) (hI : Inv M) : kX7_restore 40 v1 M (fun r1 M1 => kX8_restore 40 v1 M1 (fun r2 M2 => r1 = r2 ∧ Inv M2)) := by
  apply rX7_restore
  rcases pk_ix v1 (n := 2) (by omega) with h1 | h1 | ⟨k, hk, rfl⟩
  · refine ⟨fun _ => ?_, fun q => absurd h1 q⟩
    apply rX8_restore
    exact c8_n _ 1 _ _ _ (by omega) (Or.inl h1) ⟨fun q => absurd rfl q, fun _ => ⟨rfl, hI⟩⟩
  · refine ⟨fun q => absurd q (big_pos h1 (by omega)), fun _ => ⟨fun q => absurd q (fun z => absurd h1 (by rw [Int32.not_le]; exact z)), fun _ => ?_⟩⟩
    apply rX8_restore
    exact c8_n _ 1 _ _ _ (by omega) (Or.inr h1) ⟨fun q => absurd rfl q, fun _ => ⟨rfl, hI⟩⟩
  · have him : I_im M k := by
      rcases (show k = 0 ∨ k = 1 by omega) with rfl | rfl
      · exact hI.2.2.2.1.1
      · exact hI.2.2.2.1.2
    obtain ⟨n, kd, th, stp, ngt, hC, hM, hok⟩ := him
    have h7 := okR_7 hok
    have ex : (34 : Int32) + (17 : Int32) * nI k = nI (34 + 17 * k) := by rw [li_34, li_17, pk_mul, nI_add]
    refine ⟨fun q => absurd q (nI_pos (by omega)), fun _ => ⟨fun _ => ⟨vp_in_nI hk (by omega), ?_⟩, fun q => absurd (nI_lt (a := k) (b := 2) (by omega) (by omega)) q⟩⟩
    rw [im_nI hk, hC.1, li_0]
    simp (disch := omega) only [nI_eq]
    refine ⟨fun q => ⟨vp_in_nI hk (by omega), ?_⟩, fun q => ?_⟩
    · refine c4_become _ 23 (30 + 3 * k) rg23 (by unfold isRg; omega) (by omega) n kd th stp ngt M _ hC h7 (fun M1 g1 g2 => ?_)
      apply rX0_forget
      rintro M2 rfl M3 rfl
      apply rX8_restore
      refine c8_y _ k 1 _ _ (by omega) (by omega) ⟨fun _ => ?_, fun q => absurd q (by decide)⟩
      have r1 : ∀ q, q ≠ 23 → q ≠ 24 → q ≠ 25 → q ≠ 36 → upd2 (upd2 M1 36 3 0) 36 4 0 q = M q := fun q x1 x2 x3 x4 => by rw [upd2_off x4, upd2_off x4, g2 q x1 x2 x3]
      have e0 : upd2 (upd2 M1 36 3 0) 36 4 0 50 (34 + 17 * k) = nI n := by rw [r1 50 (by omega) (by omega) (by omega) (by omega)]; exact hM.1
      rw [ex, li_0, nI_add, Nat.add_zero, nI_clamp (by omega), show upd2 (upd2 M1 36 3 (nI 0)) 36 4 (nI 0) 50 (34 + 17 * k) = nI n from e0]
      simp (disch := omega) only [nI_eq]
      refine ⟨vp_in_nI (by omega) (by omega), fun _ => ?_, fun z => absurd z q⟩
      refine c8_copyOf _ (34 + 17 * k) 0 17 (by omega) (by omega) (by omega) _ _ ?_
      rintro M4 rfl
      refine ⟨trivial, ?_⟩
      have hM2 : RgM (upd2 (upd2 M1 36 3 (nI 0)) 36 4 (nI 0)) (34 + 17 * k) n kd th stp ngt := RgM_c hM h7 (fun i _ _ => by rw [show upd2 (upd2 M1 36 3 (nI 0)) 36 4 (nI 0) 50 = M 50 from r1 50 (by omega) (by omega) (by omega) (by omega)])
      have hM3 := RgM_cp (b := 0) hM2 h7
      generalize hW : cpW (upd2 (upd2 M1 36 3 (nI 0)) 36 4 (nI 0)) (34 + 17 * k) 0 17 = W at hM3
      have w1 : ∀ q, q ≠ 23 → q ≠ 24 → q ≠ 25 → q ≠ 36 → q ≠ 50 → W q = M q := fun q x1 x2 x3 x4 x5 => by rw [← hW, cpW_off x5]; exact r1 q x1 x2 x3 x4
      have w50 : ∀ i, 17 ≤ i → W 50 i = M 50 i := fun i hi => by rw [← hW, cpW_out (by omega), show upd2 (upd2 M1 36 3 (nI 0)) 36 4 (nI 0) 50 = M 50 from r1 50 (by omega) (by omega) (by omega) (by omega)]
      have w36 : W 36 3 = nI 0 ∧ W 36 4 = nI 0 := by rw [← hW, cpW_off (by omega)]; exact ⟨by rw [upd2_row (by omega), upd2_at], upd2_at⟩
      have wC : RgC W 23 n kd th stp ngt := by
        refine RgC_c g1 ?_ ?_ ?_ <;> (rw [← hW, cpW_off (by omega), upd2_off (by omega), upd2_off (by omega)])
      have u1 : ∀ q, q ≠ 49 → upd2 W 49 1 (nI 0) q = W q := fun q hq => upd2_off hq
      have u49 : ∀ i, i ≠ 1 → upd2 W 49 1 (nI 0) 49 i = M 49 i := fun i hi => by rw [upd2_row hi, w1 49 (by omega) (by omega) (by omega) (by omega) (by omega)]
      have u : ∀ q, q ≠ 23 → q ≠ 24 → q ≠ 25 → q ≠ 36 → q ≠ 49 → q ≠ 50 → upd2 W 49 1 (nI 0) q = M q := fun q x1 x2 x3 x4 x5 x6 => by rw [u1 q x5, w1 q x1 x2 x3 x4 x6]
      obtain ⟨a, b, c, dd, e, f⟩ := hI
      refine ⟨I_rows_c a (fun q x1 x2 => u q (by omega) (by omega) (by omega) (by omega) (by omega) (by omega)) (u 52 (by omega) (by omega) (by omega) (by omega) (by omega) (by omega)) (u 53 (by omega) (by omega) (by omega) (by omega) (by omega) (by omega)) (u 54 (by omega) (by omega) (by omega) (by omega) (by omega) (by omega)), I_tape_c b (by rw [u 18 (by omega) (by omega) (by omega) (by omega) (by omega) (by omega)]) (by rw [u 18 (by omega) (by omega) (by omega) (by omega) (by omega) (by omega)]) (u 19 (by omega) (by omega) (by omega) (by omega) (by omega) (by omega)) (u49 3 (by omega)) (u49 4 (by omega)) (u 51 (by omega) (by omega) (by omega) (by omega) (by omega) (by omega)) (by rw [u 20 (by omega) (by omega) (by omega) (by omega) (by omega) (by omega)]), ?_, I_img_c dd (fun q x1 x2 => u q (by omega) (by omega) (by omega) (by omega) (by omega) (by omega)) (fun i x1 x2 => by rw [u1 50 (by omega)]; exact w50 i (by omega)), ?_, I_trc_c f (by rw [u 46 (by omega) (by omega) (by omega) (by omega) (by omega) (by omega)]) (u49 22 (by omega)) (u 47 (by omega) (by omega) (by omega) (by omega) (by omega) (by omega)) (u 64 (by omega) (by omega) (by omega) (by omega) (by omega) (by omega))⟩
      · refine ⟨n, kd, th, stp, ngt, RgC_c wC (u1 _ (by omega)) (u1 _ (by omega)) (u1 _ (by omega)), RgM_c hM3 h7 (fun i _ _ => by rw [u1 50 (by omega)]), hok, 0, fun _ => (th, 0, 0), ⟨0, by omega, by rw [u1 36 (by omega)]; exact w36.1, by rw [u1 36 (by omega)]; exact w36.2, fun x hx => absurd hx (by omega)⟩, ⟨upd2_at, fun x hx => absurd hx (by omega)⟩, by omega, fun z => absurd z (by omega), fun x hx => absurd hx (by omega)⟩
      · unfold I_fnd
        rw [u49 5 (by omega), u 0 (by omega) (by omega) (by omega) (by omega) (by omega) (by omega)]
        exact e
    · apply rX8_restore
      refine c8_y _ k 1 _ _ (by omega) (by omega) ⟨fun _ => ?_, fun q => absurd q (by decide)⟩
      rw [ex, li_0, nI_add, Nat.add_zero, nI_clamp (by omega), hM.1]
      simp (disch := omega) only [nI_eq]
      exact ⟨vp_in_nI (by omega) (by omega), fun z => absurd q z, fun _ => ⟨trivial, hI⟩⟩
