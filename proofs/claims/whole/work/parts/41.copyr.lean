/-! COPY of rows -/
theorem c8_cp1 (d j k a b n : Nat) (Q : Int32 → Mm → Prop) (hj : j < 8) (h1 : a + n ≤ 40) : ∀ (m : Nat) (M : Mm), m ≤ n → (∀ M', (∀ q, q ≠ 55 → M' q = M q) → (∀ i, i < n - m → M' 55 i = M 55 i) → (∀ i, n - m ≤ i → i < n → M' 55 i = M 54 (40 * j + a + i)) → BX8_copy (d + 1) 136 [(0, .ref 49), (3, .int (nI k)), (4, .int (nI b)), (5, .int (nI n)), (6, .int 0)] [] M' Q) → BX8_copy (d + 1) 99 [(0, .ref 49), (1, .int (nI j)), (2, .int (nI a)), (3, .int (nI k)), (4, .int (nI b)), (5, .int (nI n)), (6, .int (nI (n - m)))] [] M Q
  | 0, M, _, h => by
    apply rX8_copy_99
    exact ⟨fun _ => h M (fun _ _ => rfl) (fun _ _ => rfl) (fun i h1 h2 => by omega), fun q => absurd (nI_le (a := n) (b := n - 0) (by omega) (by omega)) q⟩
  | m + 1, M, hm, h => by
    apply rX8_copy_99
    have e : n - (m + 1) + 1 = n - m := by omega
    rw [show ((40 : Int32) * nI j + nI a) + nI (n - (m + 1)) = nI (40 * j + a + (n - (m + 1))) by rw [li_40, pk_mul, nI_add, nI_add], nI_1, e, nI_clamp (show n - (m + 1) < 2 ^ 31 by omega), nI_clamp (show 40 * j + a + (n - (m + 1)) < 2 ^ 31 by omega)]
    refine ⟨fun q => absurd q (nI_ge (by omega) (by omega)), fun _ => ⟨vp_in_nI (by omega) (by omega), vp_in_nI (by omega) (by omega), ?_⟩⟩
    rintro M1 rfl
    refine c8_cp1 d j k a b n Q hj h1 m _ (by omega) (fun M' g1 g2 g3 => h M' (fun q hq => by rw [g1 q hq, upd2_off hq]) (fun i hi => by rw [g2 i (by omega), upd2_row (by omega)]) (fun i y1 y2 => ?_))
    by_cases c : i = n - (m + 1)
    · rw [g2 i (by omega), c, upd2_at]
    · rw [g3 i (by omega) y2, upd2_off (by omega)]
theorem c8_cp2 (d k b n : Nat) (Q : Int32 → Mm → Prop) (hk : k < 8) (h1 : b + n ≤ 40) : ∀ (m : Nat) (M : Mm), m ≤ n → (∀ M', (∀ q, q ≠ 54 → M' q = M q) → (∀ i, (i < 40 * k + b + (n - m) ∨ 40 * k + b + n ≤ i) → M' 54 i = M 54 i) → (∀ i, n - m ≤ i → i < n → M' 54 (40 * k + b + i) = M 55 i) → Q (nI n) M') → BX8_copy (d + 1) 136 [(0, .ref 49), (3, .int (nI k)), (4, .int (nI b)), (5, .int (nI n)), (6, .int (nI (n - m)))] [] M Q
  | 0, M, _, h => by
    apply rX8_copy_136
    exact ⟨fun _ => h M (fun _ _ => rfl) (fun _ _ => rfl) (fun i h1 h2 => by omega), fun q => absurd (nI_le (a := n) (b := n - 0) (by omega) (by omega)) q⟩
  | m + 1, M, hm, h => by
    apply rX8_copy_136
    have e : n - (m + 1) + 1 = n - m := by omega
    rw [show ((40 : Int32) * nI k + nI b) + nI (n - (m + 1)) = nI (40 * k + b + (n - (m + 1))) by rw [li_40, pk_mul, nI_add, nI_add], nI_1, e, nI_clamp (show n - (m + 1) < 2 ^ 31 by omega), nI_clamp (show 40 * k + b + (n - (m + 1)) < 2 ^ 31 by omega)]
    refine ⟨fun q => absurd q (nI_ge (by omega) (by omega)), fun _ => ⟨vp_in_nI (by omega) (by omega), vp_in_nI (by omega) (by omega), ?_⟩⟩
    rintro M1 rfl
    refine c8_cp2 d k b n Q hk h1 m _ (by omega) (fun M' g1 g2 g3 => h M' (fun q hq => by rw [g1 q hq, upd2_off hq]) (fun i hi => by rw [g2 i (by omega), upd2_row (by omega)]) (fun i y1 y2 => ?_))
    by_cases c : i = n - (m + 1)
    · rw [g2 _ (by omega), c, upd2_at]
    · rw [g3 i (by omega) y2, upd2_off (by omega)]
theorem fnd_has {M : Mm} {j : Nat} {i n : Int32} {sz : Nat} (h5 : M 52 j = nI sz) (h : sz ≤ 40) (c : hasP i n sz) : fndN M j i n = 0 := by
  unfold fndN
  rw [h5, if_neg (fun z => ?_), nI_clamp (by omega), if_pos c]
  have : (nI sz).toInt = sz := nI_toInt (by omega)
  rw [z] at this
  have e : (-1 : Int32).toInt = -1 := rfl
  omega
theorem fnd_nhas {M : Mm} {j : Nat} {i n : Int32} {sz : Nat} (h5 : M 52 j = nI sz) (h : sz ≤ 40) (c : ¬ hasP i n sz) : fndN M j i n = 2 := by
  unfold fndN
  rw [h5, if_neg (fun z => ?_), nI_clamp (by omega), if_neg c]
  have : (nI sz).toInt = sz := nI_toInt (by omega)
  rw [z] at this
  have e : (-1 : Int32).toInt = -1 := rfl
  omega
theorem L_copy (v1 v2 v3 v4 v5 : Int32) (M : Mm) (hI : Inv M) : kX7_copy 40 v1 v2 v3 v4 v5 M (fun r1 M1 => kX8_copy 40 v1 v2 v3 v4 v5 M1 (fun r2 M2 => r1 = r2 ∧ Inv M2)) := by
  apply rX7_copy
  have no1 : ∀ (v : Int32), (v < 0 ∨ nI 8 ≤ v) ∨ ∃ j, j < 8 ∧ v = nI j := fun v => by
    rcases pk_ix v (n := 8) (by omega) with h1 | h1 | ⟨j, hj, e⟩
    · exact Or.inl (Or.inl h1)
    · exact Or.inl (Or.inr h1)
    · exact Or.inr ⟨j, hj, e⟩
  rcases no1 v1 with h1 | ⟨j, hj, rfl⟩
  · refine c7_row_n _ _ _ _ h1 ⟨fun _ => ?_, fun q => absurd rfl q⟩
    apply rX8_copy
    exact c8_row_n _ _ _ _ h1 ⟨fun _ => ⟨rfl, hI⟩, fun q => absurd rfl q⟩
  refine c7_row_y _ j _ _ hj ⟨fun q => absurd q (by decide), fun _ => ?_⟩
  rcases no1 v3 with h1 | ⟨k, hk, rfl⟩
  · refine c7_row_n _ _ _ _ h1 ⟨fun q => absurd rfl q, fun _ => ?_⟩
    apply rX8_copy
    exact c8_row_y _ j _ _ hj ⟨fun q => absurd q (by decide), fun _ => c8_row_n _ _ _ _ h1 ⟨fun q => absurd rfl q, fun _ => ⟨rfl, hI⟩⟩⟩
  refine c7_row_y _ k _ _ hk ⟨fun _ => ⟨vp_in_nI hj (by omega), vp_in_nI hk (by omega), ?_⟩, fun q => absurd q (by decide)⟩
  rw [sh_nI hj, sh_nI hk]
  -- one finding on both sides
  have fnd : ∀ (f : Int32), kX8_copy 40 (nI j) v2 (nI k) v4 v5 (upd2 M 0 10 f) (fun r2 M2 => (-1000010 - f) = r2 ∧ Inv M2) → kX7_found 39 f M (fun r1 M1 => kX8_copy 40 (nI j) v2 (nI k) v4 v5 M1 (fun r2 M2 => r1 = r2 ∧ Inv M2)) := fun f h => c7_found _ _ _ _ h
  have m8 : ∀ (M : Mm) (Q : Int32 → Mm → Prop), (((M 52 j) < 0 → BX8_copy (39 + 1) 35 [(0, .ref 49)] [] M Q) ∧ (¬ (M 52 j) < 0 → ((0 ≤ (M 52 k) → (((M 53 j) = (M 53 k) → kX8_against 39 (nI j) v2 v5 M (fun r3 M3 => ((0 < r3 → BX8_copy (39 + 1) 85 [(0, .ref 49)] [] M3 Q) ∧ (¬ 0 < r3 → kX8_against 39 (nI k) v4 v5 M3 (fun r4 M4 => ((r4 ≤ 0 → (∀ M5, M5 = (upd2 M4 49 5 0) → BX8_copy (39 + 1) 99 [(0, .ref 49), (1, .int (nI j)), (2, .int v2), (3, .int (nI k)), (4, .int v4), (5, .int v5), (6, .int 0)] [] M5 Q)) ∧ (¬ r4 ≤ 0 → BX8_copy (39 + 1) 85 [(0, .ref 49)] [] M4 Q))))))) ∧ (¬ (M 53 j) = (M 53 k) → kX8_finds 39 5 M (fun r5 M6 => Q r5 M6)))) ∧ (¬ 0 ≤ (M 52 k) → BX8_copy (39 + 1) 35 [(0, .ref 49)] [] M Q)))) → kX8_copy 40 (nI j) v2 (nI k) v4 v5 M Q := by
    intro M Q h
    apply rX8_copy
    refine c8_row_y _ j _ _ hj ⟨fun q => absurd q (by decide), fun _ => c8_row_y _ k _ _ hk ⟨fun _ => ⟨vp_in_nI hj (by omega), ?_⟩, fun q => absurd q (by decide)⟩⟩
    rw [nI_clamp (show j < 2 ^ 31 by omega), nI_clamp (show k < 2 ^ 31 by omega)]
    exact ⟨h.1, fun z => ⟨vp_in_nI hk (by omega), fun z2 => ⟨vp_in_nI hj (by omega), vp_in_nI hk (by omega), ((h.2 z).1 z2)⟩, (h.2 z).2⟩⟩
  have b35 : kX7_found 39 1 M (fun r1 M1 => kX8_copy 40 (nI j) v2 (nI k) v4 v5 M1 (fun r2 M2 => r1 = r2 ∧ Inv M2)) → BX7_copy (39 + 1) 49 [(0, .ref 0)] [] M (fun r1 M1 => kX8_copy 40 (nI j) v2 (nI k) v4 v5 M1 (fun r2 M2 => r1 = r2 ∧ Inv M2)) := fun h => by
    apply rX7_copy_49
    exact h
  have b2 : kX7_found 39 2 M (fun r1 M1 => kX8_copy 40 (nI j) v2 (nI k) v4 v5 M1 (fun r2 M2 => r1 = r2 ∧ Inv M2)) → BX7_copy (39 + 1) 97 [(0, .ref 0)] [] M (fun r1 M1 => kX8_copy 40 (nI j) v2 (nI k) v4 v5 M1 (fun r2 M2 => r1 = r2 ∧ Inv M2)) := fun h => by
    apply rX7_copy_97
    exact h
  have f0 : ∀ (f : Int32) (q : Nat), q ≠ 0 → upd2 M 0 10 f q = M q := fun f q hq => upd2_off hq
  rcases id (hI.1 j hj) with ⟨g1, g2⟩ | ⟨ln, sz, q1, q2, q3, q4, q5, q6, q7⟩
  · refine c5_my _ j hj _ _ g1 ⟨fun _ => b35 (fnd 1 (m8 _ _ ⟨fun _ => ?_, fun q => ?_⟩)), fun q => absurd q (by decide)⟩
    · apply rX8_copy_35
      exact c8_finds _ _ _ _ ⟨rfl, Inv_f hI _⟩
    · rw [f0 _ 52 (by omega), g2] at q
      exact absurd (by decide) q
  refine c5_mn _ j hj _ _ (by rw [q3]; exact nI_pos' (by omega)) ⟨fun q => absurd rfl q, fun _ => ?_⟩
  have nl : ∀ f : Int32, ¬ upd2 M 0 10 f 52 j < 0 := fun f => by rw [f0 _ 52 (by omega), q5]; exact nI_pos (by omega)
  rcases id (hI.1 k hk) with ⟨g1, g2⟩ | ⟨ln2, sz2, p1, p2, p3, p4, p5, p6, p7⟩
  · refine c5_my _ k hk _ _ g1 ⟨fun q => absurd q (by decide), fun _ => b35 (fnd 1 (m8 _ _ ⟨fun q => absurd q (nl 1), fun _ => ⟨fun q => ?_, fun _ => ?_⟩⟩))⟩
    · rw [f0 _ 52 (by omega), g2] at q
      exact absurd q (by decide)
    · apply rX8_copy_35
      exact c8_finds _ _ _ _ ⟨rfl, Inv_f hI _⟩
  refine c5_mn _ k hk _ _ (by rw [p3]; exact nI_pos' (by omega)) ⟨fun _ => ?_, fun q => absurd rfl q⟩
  have nl2 : ∀ f : Int32, 0 ≤ upd2 M 0 10 f 52 k := fun f => by rw [f0 _ 52 (by omega), p5]; exact nI_pos' (by omega)
  rw [q3, p3]
  have e53 : ∀ f : Int32, (upd2 M 0 10 f 53 j = upd2 M 0 10 f 53 k) = (nI ln = nI ln2) := fun f => by rw [f0 _ 53 (by omega), q6, p6]
  refine ⟨fun ce => ?_, fun ce => fnd 5 (m8 _ _ ⟨fun q => absurd q (nl 5), fun _ => ⟨fun _ => ⟨fun q => absurd (by rw [← e53 5]; exact q) ce, fun _ => c8_finds _ _ _ _ ⟨rfl, Inv_f hI _⟩⟩, fun q => absurd (nl2 5) q⟩⟩)⟩
  have rj : ∀ f : Int32, I_row (upd2 M 0 10 f) j := fun f => I_row_c (hI.1 j hj) (f0 _ _ (by omega)) (f0 _ _ (by omega)) (f0 _ _ (by omega)) (f0 _ _ (by omega)) (f0 _ _ (by omega))
  have rk : ∀ f : Int32, I_row (upd2 M 0 10 f) k := fun f => I_row_c (hI.1 k hk) (f0 _ _ (by omega)) (f0 _ _ (by omega)) (f0 _ _ (by omega)) (f0 _ _ (by omega)) (f0 _ _ (by omega))
  have two : BX8_copy (39 + 1) 85 [(0, .ref 49)] [] (upd2 M 0 10 2) (fun r2 M2 => (-1000010 - 2) = r2 ∧ Inv M2) := by
    apply rX8_copy_85
    exact c8_finds _ _ _ _ ⟨rfl, Inv_f hI _⟩
  refine c5_has _ j sz hj v2 v5 M _ q4 q2 (fun z1 => ⟨fun q => absurd q (by decide), fun _ => ?_⟩) (fun z1 => ⟨fun _ => b2 (fnd 2 (m8 _ _ ⟨fun q => absurd q (nl 2), fun _ => ⟨fun _ => ⟨fun _ => c8_agst _ j hj _ _ _ _ (rj 2) ?_, fun q => absurd (by rw [e53 2]; exact ce) q⟩, fun q => absurd (nl2 2) q⟩⟩)), fun q => absurd rfl q⟩)
  case refine_2 =>
    rw [fnd_nhas (sz := sz) (by rw [f0 _ 52 (by omega)]; exact q5) q2 z1]
    exact ⟨fun _ => two, fun q => absurd (by decide) q⟩
  refine c5_has _ k sz2 hk v4 v5 M _ p4 p2 (fun z2 => ⟨fun _ => ?_, fun q => absurd q (by decide)⟩) (fun z2 => ⟨fun q => absurd rfl q, fun _ => b2 (fnd 2 (m8 _ _ ⟨fun q => absurd q (nl 2), fun _ => ⟨fun _ => ⟨fun _ => c8_agst _ j hj _ _ _ _ (rj 2) ?_, fun q => absurd (by rw [e53 2]; exact ce) q⟩, fun q => absurd (nl2 2) q⟩⟩))⟩)
  case refine_2 =>
    rw [fnd_has (sz := sz) (by rw [f0 _ 52 (by omega)]; exact q5) q2 z1]
    refine ⟨fun q => absurd q (by decide), fun _ => c8_agst _ k hk _ _ _ _ (rk 2) ?_⟩
    rw [fnd_nhas (sz := sz2) (by rw [f0 _ 52 (by omega)]; exact p5) p2 z2]
    exact ⟨fun q => absurd q (by decide), fun _ => two⟩
  obtain ⟨a, n, rfl, rfl, hab⟩ := hasP_nat z1 q2
  obtain ⟨b, n', rfl, en, hab2⟩ := hasP_nat z2 p2
  have enn : n = n' := (nI_eq (by omega) (by omega)).mp en
  subst enn
  rintro M7 rfl
  rw [nI_clamp (show a < 2 ^ 31 by omega), nI_clamp (show b < 2 ^ 31 by omega), nI_clamp (show n < 2 ^ 31 by omega)]
  refine ⟨⟨nI_pos (by omega), nI_pos (by omega), nI_pos (by omega), by omega, by omega⟩, ?_⟩
  rintro M8 rfl
  have r0 : ∀ q, q ≠ 0 → q ≠ 2 + 2 * k + 1 → (setR (upd2 M 0 10 0) (2 + 2 * k + 1) (va_cpy (upd2 M 0 10 0 (2 + 2 * j + 1)) (upd2 M 0 10 0 (2 + 2 * k + 1)) a b n)) q = M q := fun q x1 x2 => by rw [setR_ne x2, upd2_off x1]
  have rr : (setR (upd2 M 0 10 0) (2 + 2 * k + 1) (va_cpy (upd2 M 0 10 0 (2 + 2 * j + 1)) (upd2 M 0 10 0 (2 + 2 * k + 1)) a b n)) (2 + 2 * k + 1) = va_cpy (M (2 + 2 * j + 1)) (M (2 + 2 * k + 1)) a b n := by rw [setR_eq, upd2_off (by omega), upd2_off (by omega)]
  have r10 : (setR (upd2 M 0 10 0) (2 + 2 * k + 1) (va_cpy (upd2 M 0 10 0 (2 + 2 * j + 1)) (upd2 M 0 10 0 (2 + 2 * k + 1)) a b n)) 0 10 = 0 := by rw [setR_ne (by omega), upd2_at]
  generalize (setR (upd2 M 0 10 0) (2 + 2 * k + 1) (va_cpy (upd2 M 0 10 0 (2 + 2 * j + 1)) (upd2 M 0 10 0 (2 + 2 * k + 1)) a b n)) = M8 at *
  have row8 : ∀ i sz ln, i < 8 → M 52 i = nI sz → M 53 i = nI ln → sz ≤ 40 → ∀ (v w : Int32) (Q : Int32 → Mm → Prop), hasP v w sz → Q 0 M8 → kX8_against 39 (nI i) v w M8 Q := by
    intro i sz ln hi x1 x2 x3 v w Q hp hq
    apply rX8_against
    rw [nI_clamp (show i < 2 ^ 31 by omega), r0 52 (by omega) (by omega), x1]
    have e0 : (0 : Int32).toInt = 0 := rfl
    have es : (nI sz).toInt = sz := nI_toInt (by omega)
    have ri := fb_rng v
    have rn := fb_rng w
    unfold hasP at hp
    refine ⟨vp_in_nI hi (by omega), fun _ => ⟨fun q => by rw [fa_lt, e0] at q; omega, fun _ => ⟨fun q => by rw [fa_lt, e0] at q; omega, fun _ => ⟨vp_in_nI hi (by omega), fun _ => hq, fun q => ?_⟩⟩⟩, fun q => absurd (nI_pos' (by omega)) q⟩
    exfalso
    apply q
    have s1 : (v.toInt64 + w.toInt64).toInt = v.toInt + w.toInt := by
      rw [fb_addL (by rw [Int32.toInt_toInt64, Int32.toInt_toInt64]; omega) (by rw [Int32.toInt_toInt64, Int32.toInt_toInt64]; omega), Int32.toInt_toInt64, Int32.toInt_toInt64]
    have s2 : (nI sz).toInt64.toInt = sz := by rw [Int32.toInt_toInt64, es]
    have s3 : (lg_cmp (v.toInt64 + w.toInt64) (nI sz).toInt64 ≤ 0) ↔ ¬ (0 < lg_cmp (v.toInt64 + w.toInt64) (nI sz).toInt64) := by
      rw [fa_le, fa_lt]; omega
    rw [s3, lg_gt0, fa_lt64, s1, s2]
    omega
  refine m8 _ _ ⟨fun q => ?_, fun _ => ⟨fun _ => ⟨fun _ => ?_, fun q => ?_⟩, fun q => ?_⟩⟩
  · rw [r0 52 (by omega) (by omega), q5] at q; exact absurd q (nI_pos (by omega))
  · refine row8 j sz ln hj q5 q6 q2 _ _ _ z1 ⟨fun q => absurd q (by decide), fun _ => ?_⟩
    refine row8 k sz2 ln2 hk p5 p6 p2 _ _ _ z2 ⟨fun _ => ?_, fun q => absurd (by decide) q⟩
    rintro M9 rfl
    have := c8_cp1 39 j k a b n (fun r2 M2 => nI n = r2 ∧ Inv M2) hj (by omega) n (upd2 M8 49 5 0) (Nat.le_refl _) (fun M9 y1 y2 y3 => ?_)
    · rw [Nat.sub_self] at this
      exact this
    · have := c8_cp2 39 k b n (fun r2 M2 => nI n = r2 ∧ Inv M2) hk (by omega) n M9 (Nat.le_refl _) (fun M10 x1 x2 x3 => ⟨rfl, ?_⟩)
      · rw [Nat.sub_self] at this
        exact this
      · have s : ∀ q, q ≠ 0 → q ≠ 2 + 2 * k + 1 → q ≠ 49 → q ≠ 54 → q ≠ 55 → M10 q = M q := fun q z1 z2 z3 z4 z5 => by rw [x1 q z4, y1 q z5, upd2_off z3, r0 q z1 z2]
        have s54 : ∀ i, (i < 40 * k + b ∨ 40 * k + b + n ≤ i) → M10 54 i = M 54 i := fun i hi => by rw [x2 i (by omega), y1 54 (by omega), upd2_off (by omega), r0 54 (by omega) (by omega)]
        refine Inv_row hI hk (Or.inr ⟨ln2, sz2, p1, p2, ?_, ?_, ?_, ?_, ?_⟩) ?_ ?_ ?_ ?_ ?_ ?_
        · rw [s _ (by omega) (by omega) (by omega) (by omega) (by omega)]; exact p3
        · rw [s _ (by omega) (by omega) (by omega) (by omega) (by omega)]; exact p4
        · rw [s _ (by omega) (by omega) (by omega) (by omega) (by omega)]; exact p5
        · rw [s _ (by omega) (by omega) (by omega) (by omega) (by omega)]; exact p6
        · intro i hi
          rw [show 3 + 2 * k = 2 + 2 * k + 1 by omega, x1 _ (by omega), y1 _ (by omega), upd2_off (by omega), rr]
          unfold va_cpy
          by_cases c : b ≤ i ∧ i < b + n
          · rw [if_pos c]
            have := x3 (i - b) (by omega) (by omega)
            rw [show 40 * k + b + (i - b) = 40 * k + i by omega, y3 (i - b) (by omega) (by omega), upd2_off (by omega), r0 54 (by omega) (by omega)] at this
            rw [this, show 2 + 2 * j + 1 = 3 + 2 * j by omega, show 40 * j + a + (i - b) = 40 * j + (a + (i - b)) by omega]
            exact q7 _ (by omega)
          · rw [if_neg c, s54 _ (by omega), show 2 + 2 * k + 1 = 3 + 2 * k by omega]
            exact p7 i hi
        · rw [x1 0 (by omega), y1 0 (by omega), x1 49 (by omega), y1 49 (by omega), upd2_at, upd2_off (by omega), r10]
        · intro q a1 a2 a3 a4 a5 a6 a7 a8
          exact s q a1 (by omega) a4 a7 a8
        · intro i hi
          rw [x1 49 (by omega), y1 49 (by omega), upd2_row hi, r0 49 (by omega) (by omega)]
        · intro i hi
          rw [s _ (by omega) (by omega) (by omega) (by omega) (by omega)]
        · intro i hi
          rw [s _ (by omega) (by omega) (by omega) (by omega) (by omega)]
        · intro i hi
          exact s54 i (by omega)
  · exact absurd (by rw [r0 53 (by omega) (by omega), q6, p6]; exact ce) q
  · rw [r0 52 (by omega) (by omega), p5] at q; exact absurd (nI_pos' (by omega)) q
