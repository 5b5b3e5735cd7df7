/-! DROP, SET, COPY -/
theorem L_drop (v1 : Int32) (M : Mm) (hI : Inv M) : kX7_drop 40 v1 M (fun r1 M1 => kX8_drop 40 v1 M1 (fun r2 M2 => r1 = r2 ∧ Inv M2)) := by
  apply rX7_drop
  rcases pk_ix v1 (n := 8) (by omega) with h1 | h1 | ⟨j, hj, rfl⟩
  · refine c7_row_n _ _ _ _ (Or.inl h1) ⟨fun q => absurd rfl q, fun _ => ?_⟩
    apply rX8_drop
    exact c8_row_n _ _ _ _ (Or.inl h1) ⟨fun q => absurd rfl q, fun _ => ⟨rfl, hI⟩⟩
  · refine c7_row_n _ _ _ _ (Or.inr h1) ⟨fun q => absurd rfl q, fun _ => ?_⟩
    apply rX8_drop
    exact c8_row_n _ _ _ _ (Or.inr h1) ⟨fun q => absurd rfl q, fun _ => ⟨rfl, hI⟩⟩
  · refine c7_row_y _ j _ _ hj ⟨fun _ => ⟨vp_in_nI hj (by omega), ?_⟩, fun q => absurd q (by decide)⟩
    rw [sh_nI hj]
    have m8 : ∀ (M : Mm) (Q : Int32 → Mm → Prop), ((0 ≤ (M 52 j) → (∀ M2, M2 = (upd2 M 49 5 0) → vp_in (nI j) 8 ∧ vp_in (nI j) 8 ∧ (∀ M3, M3 = (upd2 M2 52 j (-1)) → Q (M2 52 j) M3))) ∧ (¬ 0 ≤ (M 52 j) → kX8_finds 39 1 M (fun r2 M4 => Q r2 M4))) → kX8_drop 40 (nI j) M Q := by
      intro M Q h
      apply rX8_drop
      refine c8_row_y _ j _ _ hj ⟨fun _ => ⟨vp_in_nI hj (by omega), ?_⟩, fun q => absurd q (by decide)⟩
      rw [nI_clamp (by omega)]
      exact h
    rcases id (hI.1 j hj) with ⟨g1, g2⟩ | ⟨ln, sz, q1, q2, q3, q4, q5, q6, q7⟩
    · refine c5_my _ j hj _ _ g1 ⟨fun q => absurd q (by decide), fun _ => c7_found _ _ _ _ (m8 _ _ ⟨fun q => ?_, fun _ => c8_finds _ _ _ _ ⟨rfl, Inv_f hI _⟩⟩)⟩
      rw [upd2_off (by omega), g2] at q
      exact absurd q (by decide)
    · refine c5_mn _ j hj _ _ (by rw [q3]; exact nI_pos' (by omega)) ⟨fun _ => ?_, fun q => absurd rfl q⟩
      rintro M1 rfl
      refine ⟨vp_in_nI hj (by omega), ?_⟩
      apply rX5_clear _ _ (isSh_of hj)
      rintro M2 rfl M3 rfl
      have e52 : upd2 (upd2 (upd2 M 0 10 0) (2 + 2 * j) 1 (-1)) (2 + 2 * j) 2 0 52 j = nI sz := by rw [upd2_off (by omega), upd2_off (by omega), upd2_off (by omega)]; exact q5
      refine m8 _ _ ⟨fun _ => ?_, fun q => absurd (by rw [e52]; exact nI_pos' (by omega)) q⟩
      rintro M4 rfl
      refine ⟨vp_in_nI hj (by omega), vp_in_nI hj (by omega), ?_⟩
      rintro M5 rfl
      refine ⟨?_, ?_⟩
      · rw [upd2_off (by omega), upd2_off (by omega), e52, q4]
      · refine Inv_row hI hj (Or.inl ⟨?_, upd2_at⟩) ?_ ?_ ?_ ?_ ?_ ?_
        · rw [upd2_off (by omega), upd2_off (by omega), upd2_row (by omega), upd2_at]
        · rw [upd2_off (by omega), upd2_off (by omega), upd2_off (by omega), upd2_off (by omega), upd2_at, upd2_off (by omega), upd2_at]
        · intro k a1 a2 a3 a4 a5 a6 a7 a8
          rw [upd2_off a5, upd2_off a4, upd2_off a2, upd2_off a2, upd2_off a1]
        · intro i hi
          rw [upd2_off (by omega), upd2_row hi, upd2_off (by omega), upd2_off (by omega), upd2_off (by omega)]
        · intro i hi
          rw [upd2_row hi, upd2_off (by omega), upd2_off (by omega), upd2_off (by omega), upd2_off (by omega)]
        · intro i hi
          rw [upd2_off (by omega), upd2_off (by omega), upd2_off (by omega), upd2_off (by omega), upd2_off (by omega)]
        · intro i hi
          rw [upd2_off (by omega), upd2_off (by omega), upd2_off (by omega), upd2_off (by omega), upd2_off (by omega)]
/-- n places from i on in a row of sz -/
abbrev hasP (i n : Int32) (sz : Nat) : Prop := 0 ≤ i.toInt ∧ 0 ≤ n.toInt ∧ i.toInt + n.toInt ≤ sz
theorem hasP_nat {i n : Int32} {sz : Nat} (h : hasP i n sz) (hs : sz ≤ 40) : ∃ a b : Nat, i = nI a ∧ n = nI b ∧ a + b ≤ sz := by
  obtain ⟨h1, h2, h3⟩ := h
  refine ⟨i.toInt.toNat, n.toInt.toNat, ?_, ?_, by omega⟩
  · rw [fa_eq, nI_toInt (by omega)]; omega
  · rw [fa_eq, nI_toInt (by omega)]; omega
/-- of n places from i on: 1, 2 or 0 -/
def fndN (M : Mm) (j : Nat) (i n : Int32) : Int32 := if M 52 j = -1 then 1 else if hasP i n (M 52 j).toNatClampNeg then 0 else 2
theorem c5_has (d j sz : Nat) (hj : j < 8) (i n : Int32) (M : Mm) (Q : Int32 → Mm → Prop) (hs : M (2 + 2 * j) 2 = nI sz) (h40 : sz ≤ 40) (hy : hasP i n sz → Q 1 M) (hn : ¬ hasP i n sz → Q 0 M) : kX5_has d (2 + 2 * j) i n M Q := by
  apply rX5_has _ _ (isSh_of hj)
  rw [hs]
  have e0 : (0 : Int32).toInt = 0 := rfl
  have es : (nI sz).toInt = sz := nI_toInt (by omega)
  have rn := fb_rng n
  refine ⟨fun q => hn (fun z => ?_), fun q => ⟨fun q2 => hn (fun z => ?_), fun q2 => ?_⟩⟩
  · rw [fa_lt, e0] at q; unfold hasP at z; omega
  · rw [fa_lt, e0] at q2; unfold hasP at z; omega
  · rw [fa_lt, e0] at q q2
    have eq1 : (nI sz - n).toInt = sz - n.toInt := by rw [fb_subI (by rw [es]; omega) (by rw [es]; omega), es]
    rw [fa_lt, eq1]
    refine ⟨fun q3 => hn (fun z => ?_), fun q3 => hy ?_⟩
    · unfold hasP at z; omega
    · unfold hasP; omega
theorem c7_fOf (d j : Nat) (hj : j < 8) (i n : Int32) (M : Mm) (Q : Int32 → Mm → Prop) (hI : I_row M j) (h : Q (fndN M j i n) M) : kX7_findingOf (d + 1) (nI j) i n M Q := by
  apply rX7_findingOf
  refine ⟨vp_in_nI hj (by omega), ?_⟩
  rw [sh_nI hj]
  unfold fndN at h
  rcases hI with ⟨g1, g2⟩ | ⟨ln, sz, q1, q2, q3, q4, q5, q6, q7⟩
  · rw [if_pos g2] at h
    exact c5_my _ j hj _ _ g1 ⟨fun q => absurd q (by decide), fun _ => h⟩
  · have ne : ¬ nI sz = -1 := fun z => by
      have : (nI sz).toInt = sz := nI_toInt (by omega)
      rw [z] at this
      have e : (-1 : Int32).toInt = -1 := rfl
      omega
    rw [q5, if_neg ne, nI_clamp (by omega)] at h
    refine c5_mn _ j hj _ _ (by rw [q3]; exact nI_pos' (by omega)) ⟨fun _ => ?_, fun q => absurd rfl q⟩
    refine c5_has _ j sz hj i n M _ q4 q2 (fun z => ?_) (fun z => ?_)
    · rw [if_pos z] at h
      exact ⟨fun q => absurd q (by decide), fun _ => h⟩
    · rw [if_neg z] at h
      exact ⟨fun _ => h, fun q => absurd rfl q⟩
theorem c8_agst (d j : Nat) (hj : j < 8) (i n : Int32) (M : Mm) (Q : Int32 → Mm → Prop) (hI : I_row M j) (h : Q (fndN M j i n) M) : kX8_against d (nI j) i n M Q := by
  apply rX8_against
  refine ⟨vp_in_nI hj (by omega), ?_⟩
  rw [nI_clamp (by omega)]
  unfold fndN at h
  rcases hI with ⟨g1, g2⟩ | ⟨ln, sz, q1, q2, q3, q4, q5, q6, q7⟩
  · rw [if_pos g2] at h
    rw [g2]
    exact ⟨fun q => absurd q (by decide), fun _ => h⟩
  · have ne : ¬ nI sz = -1 := fun z => by
      have : (nI sz).toInt = sz := nI_toInt (by omega)
      rw [z] at this
      have e : (-1 : Int32).toInt = -1 := rfl
      omega
    rw [q5, if_neg ne, nI_clamp (by omega)] at h
    rw [q5]
    have e0 : (0 : Int32).toInt = 0 := rfl
    have es : (nI sz).toInt = sz := nI_toInt (by omega)
    have ri := fb_rng i
    have rn := fb_rng n
    refine ⟨fun _ => ⟨fun q => ?_, fun q => ⟨fun q2 => ?_, fun q2 => ⟨vp_in_nI hj (by omega), ?_⟩⟩⟩, fun q => absurd (nI_pos' (by omega)) q⟩
    · rw [if_neg (fun z => by unfold hasP at z; rw [fa_lt, e0] at q; omega)] at h
      exact h
    · rw [if_neg (fun z => by unfold hasP at z; rw [fa_lt, e0] at q2; omega)] at h
      exact h
    · rw [fa_lt, e0] at q q2
      have s1 : (i.toInt64 + n.toInt64).toInt = i.toInt + n.toInt := by
        rw [fb_addL (by rw [Int32.toInt_toInt64, Int32.toInt_toInt64]; omega) (by rw [Int32.toInt_toInt64, Int32.toInt_toInt64]; omega), Int32.toInt_toInt64, Int32.toInt_toInt64]
      have s2 : (nI sz).toInt64.toInt = sz := by rw [Int32.toInt_toInt64, es]
      have s3 : (lg_cmp (i.toInt64 + n.toInt64) (nI sz).toInt64 ≤ 0) ↔ ¬ (0 < lg_cmp (i.toInt64 + n.toInt64) (nI sz).toInt64) := by
        rw [fa_le, fa_lt]; omega
      rw [s3, lg_gt0, fa_lt64, s1, s2]
      refine ⟨fun q3 => ?_, fun q3 => ?_⟩
      · rw [if_pos (by unfold hasP; omega)] at h; exact h
      · rw [if_neg (fun z => by unfold hasP at z; omega)] at h; exact h
theorem fnd_cases {M : Mm} {j : Nat} {i n : Int32} : fndN M j i n = 1 ∨ fndN M j i n = 2 ∨ (fndN M j i n = 0 ∧ ¬ M 52 j = -1 ∧ hasP i n (M 52 j).toNatClampNeg) := by
  unfold fndN
  by_cases c : M 52 j = -1
  · rw [if_pos c]; exact Or.inl rfl
  · rw [if_neg c]
    by_cases c2 : hasP i n (M 52 j).toNatClampNeg
    · rw [if_pos c2]; exact Or.inr (Or.inr ⟨rfl, c, c2⟩)
    · rw [if_neg c2]; exact Or.inr (Or.inl rfl)
theorem fndN_c {M M' : Mm} {j : Nat} {i n : Int32} (h : M' 52 = M 52) : fndN M' j i n = fndN M j i n := by unfold fndN; rw [h]
theorem I_row_c {M M' : Mm} {j : Nat} (h : I_row M j) (h1 : M' (2 + 2 * j) = M (2 + 2 * j)) (h2 : M' (3 + 2 * j) = M (3 + 2 * j)) (h3 : M' 52 = M 52) (h4 : M' 53 = M 53) (h5 : M' 54 = M 54) : I_row M' j := by
  unfold I_row at *
  rw [h1, h2, h3, h4, h5]
  exact h
theorem L_set (v1 v2 v3 : Int32) (M : Mm) (hI : Inv M) : kX7_set 40 v1 v2 v3 M (fun r1 M1 => kX8_set 40 v1 v2 v3 M1 (fun r2 M2 => r1 = r2 ∧ Inv M2)) := by
  apply rX7_set
  rcases pk_ix v1 (n := 8) (by omega) with h1 | h1 | ⟨j, hj, rfl⟩
  · refine c7_row_n _ _ _ _ (Or.inl h1) ⟨fun q => absurd rfl q, fun _ => ?_⟩
    apply rX8_set
    exact c8_row_n _ _ _ _ (Or.inl h1) ⟨fun q => absurd rfl q, fun _ => ⟨rfl, hI⟩⟩
  · refine c7_row_n _ _ _ _ (Or.inr h1) ⟨fun q => absurd rfl q, fun _ => ?_⟩
    apply rX8_set
    exact c8_row_n _ _ _ _ (Or.inr h1) ⟨fun q => absurd rfl q, fun _ => ⟨rfl, hI⟩⟩
  · refine c7_row_y _ j _ _ hj ⟨fun _ => ?_, fun q => absurd q (by decide)⟩
    refine c7_fOf _ j hj _ _ M _ (hI.1 j hj) ?_
    rcases fnd_cases (M := M) (j := j) (i := v2) (n := 1) with c | c | ⟨c, c1, c2⟩
    · rw [c]
      refine ⟨fun q => absurd q (by decide), fun _ => c7_found _ _ _ _ ?_⟩
      apply rX8_set
      refine c8_row_y _ j _ _ hj ⟨fun _ => ?_, fun q => absurd q (by decide)⟩
      refine c8_agst _ j hj _ _ _ _ (I_row_c (hI.1 j hj) (upd2_off (by omega)) (upd2_off (by omega)) (upd2_off (by omega)) (upd2_off (by omega)) (upd2_off (by omega))) ?_
      rw [fndN_c (M := M) (upd2_off (by omega)), c]
      exact ⟨fun q => absurd q (by decide), fun _ => c8_finds _ _ _ _ ⟨rfl, Inv_f hI _⟩⟩
    · rw [c]
      refine ⟨fun q => absurd q (by decide), fun _ => c7_found _ _ _ _ ?_⟩
      apply rX8_set
      refine c8_row_y _ j _ _ hj ⟨fun _ => ?_, fun q => absurd q (by decide)⟩
      refine c8_agst _ j hj _ _ _ _ (I_row_c (hI.1 j hj) (upd2_off (by omega)) (upd2_off (by omega)) (upd2_off (by omega)) (upd2_off (by omega)) (upd2_off (by omega))) ?_
      rw [fndN_c (M := M) (upd2_off (by omega)), c]
      exact ⟨fun q => absurd q (by decide), fun _ => c8_finds _ _ _ _ ⟨rfl, Inv_f hI _⟩⟩
    · rcases id (hI.1 j hj) with ⟨g1, g2⟩ | ⟨ln, sz, q1, q2, q3, q4, q5, q6, q7⟩
      · exact absurd g2 c1
      · rw [q5, nI_clamp (by omega)] at c2
        obtain ⟨a, b, rfl, eb, hab⟩ := hasP_nat c2 q2
        have hb : b = 1 := by
          rcases Nat.lt_or_ge b (2 ^ 31) with z | z
          · exact ((nI_eq (a := 1) (b := b) (by omega) z).mp eb).symm
          · omega
        subst hb
        rw [c]
        refine ⟨fun _ => ?_, fun q => absurd rfl q⟩
        rintro M1 rfl
        refine ⟨vp_in_nI hj (by omega), ?_⟩
        rw [sh_nI hj]
        apply rX5_put _ _ (isSh_of hj)
        apply rX5_cut _ _ (isSh_of hj)
        have el : upd2 M 0 10 0 (2 + 2 * j) 1 = nI ln := by rw [upd2_off (by omega)]; exact q3
        rw [el, li_0, li_1]
        simp (disch := omega) only [nI_eq]
        have fin : ∀ (w : Int32), (∀ (MM : Mm) (Q : Int32 → Mm → Prop), MM 53 j = nI ln → BX8_set (39 + 1) 76 [(0, .ref 49), (1, .int (nI j)), (2, .int (nI a))] [.int w, .int ((40 : Int32) * nI j + nI a), .ref 54] MM Q → ((¬ (MM 53 j) = 0 → vp_in (nI j) 8 ∧ ((¬ (MM 53 j) = 1 → BX8_set (39 + 1) 76 [(0, .ref 49), (1, .int (nI j)), (2, .int (nI a))] [.int v3, .int ((40 : Int32) * nI j + nI a), .ref 54] MM Q) ∧ ((MM 53 j) = 1 → BX8_set (39 + 1) 76 [(0, .ref 49), (1, .int (nI j)), (2, .int (nI a))] [.int v3.toInt16.toInt32, .int ((40 : Int32) * nI j + nI a), .ref 54] MM Q))) ∧ ((MM 53 j) = 0 → BX8_set (39 + 1) 76 [(0, .ref 49), (1, .int (nI j)), (2, .int (nI a))] [.int v3.toInt8.toInt32, .int ((40 : Int32) * nI j + nI a), .ref 54] MM Q))) →
            vp_in (nI a) 40 ∧ (∀ M2, M2 = (upd2 (upd2 M 0 10 (nI 0)) (2 + 2 * j + 1) (nI a).toNatClampNeg w) → vp_in (nI a) 40 ∧ (fun r3 M4 => (fun r1 M1 => kX8_set 40 (nI j) (nI a) v3 M1 (fun r2 M2 => r1 = r2 ∧ Inv M2)) r3 M4) (M2 (2 + 2 * j + 1) (nI a).toNatClampNeg) M2) := by
          intro w hw
          refine ⟨vp_in_nI (by omega) (by omega), ?_⟩
          rintro M2 rfl
          refine ⟨vp_in_nI (by omega) (by omega), ?_⟩
          rw [nI_clamp (show a < 2 ^ 31 by omega), upd2_at]
          show kX8_set 40 (nI j) (nI a) v3 _ _
          apply rX8_set
          refine c8_row_y _ j _ _ hj ⟨fun _ => ?_, fun q => absurd q (by decide)⟩
          have r0 : ∀ k, k ≠ 0 → k ≠ 2 + 2 * j + 1 → upd2 (upd2 M 0 10 (nI 0)) (2 + 2 * j + 1) a w k = M k := fun k x1 x2 => by rw [upd2_off x2, upd2_off x1]
          have hf : fndN (upd2 (upd2 M 0 10 (nI 0)) (2 + 2 * j + 1) a w) j (nI a) 1 = 0 := by rw [fndN_c (r0 52 (by omega) (by omega))]; exact c
          apply rX8_against
          refine ⟨vp_in_nI hj (by omega), ?_⟩
          rw [nI_clamp (show j < 2 ^ 31 by omega), r0 52 (by omega) (by omega), q5]
          have e1 : (1 : Int32).toInt64 = (nI 1).toInt64 := rfl
          have e2 : (nI a).toInt64 + (1 : Int32).toInt64 = (nI (a + 1)).toInt64 := by
            rw [e1, nI_l (by omega), nI_l (by omega), nI_l (by omega), lN_add]
          have e3 : ¬ 0 < lg_cmp ((nI a).toInt64 + (1 : Int32).toInt64) (nI sz).toInt64 := by
            rw [lg_gt0, e2, fa_wide_lt]
            exact nI_nlt (by omega) (by omega)
          have e4 : lg_cmp ((nI a).toInt64 + (1 : Int32).toInt64) (nI sz).toInt64 ≤ 0 := by
            rw [fa_lt] at e3; rw [fa_le]; omega
          refine ⟨fun _ => ⟨fun q => absurd q (nI_pos (by omega)), fun _ => ⟨fun q => absurd q (by decide), fun _ => ⟨vp_in_nI hj (by omega), fun _ => ?_, fun q => absurd e4 q⟩⟩⟩, fun q => absurd (nI_pos' (by omega)) q⟩
          refine ⟨fun _ => ?_, fun q => absurd (by decide) q⟩
          rintro M3 rfl
          refine ⟨vp_in_nI hj (by omega), ?_⟩
          refine hw _ _ ?_ ?_
          · rw [upd2_off (by omega), r0 53 (by omega) (by omega)]; exact q6
          · apply rX8_set_76
            rw [show (40 : Int32) * nI j + nI a = nI (40 * j + a) by rw [li_40, pk_mul, nI_add]]
            refine ⟨vp_in_nI (by omega) (by omega), ?_⟩
            rintro M4 rfl
            rw [nI_clamp (show 40 * j + a < 2 ^ 31 by omega), upd2_at]
            refine ⟨vp_in_nI (by omega) (by omega), rfl, ?_⟩
            refine Inv_row hI hj (Or.inr ⟨ln, sz, q1, q2, ?_, ?_, ?_, ?_, ?_⟩) ?_ ?_ ?_ ?_ ?_ ?_
            · rw [upd2_off (by omega), upd2_off (by omega), r0 _ (by omega) (by omega)]; exact q3
            · rw [upd2_off (by omega), upd2_off (by omega), r0 _ (by omega) (by omega)]; exact q4
            · rw [upd2_off (by omega), upd2_off (by omega), r0 _ (by omega) (by omega)]; exact q5
            · rw [upd2_off (by omega), upd2_off (by omega), r0 _ (by omega) (by omega)]; exact q6
            · intro x hx
              rw [upd2_off (by omega), upd2_off (by omega), show 3 + 2 * j = 2 + 2 * j + 1 by omega]
              by_cases cx : x = a
              · subst cx
                rw [upd2_at, upd2_at]
              · rw [upd2_row cx, upd2_off (by omega), upd2_row (by omega), upd2_off (by omega), r0 _ (by omega) (by omega), show 2 + 2 * j + 1 = 3 + 2 * j by omega]
                exact q7 x hx
            · rw [upd2_off (by omega), upd2_off (by omega), upd2_off (by omega), upd2_at, upd2_off (by omega), upd2_at]; rfl
            · intro k a1 a2 a3 a4 a5 a6 a7 a8
              rw [upd2_off a7, upd2_off a4, r0 k a1 (by omega)]
            · intro i hi
              rw [upd2_off (by omega), upd2_row hi, r0 _ (by omega) (by omega)]
            · intro i hi
              rw [upd2_off (by omega), upd2_off (by omega), r0 _ (by omega) (by omega)]
            · intro i hi
              rw [upd2_off (by omega), upd2_off (by omega), r0 _ (by omega) (by omega)]
            · intro i hi
              rw [upd2_row (by omega), upd2_off (by omega), r0 _ (by omega) (by omega)]
        refine ⟨fun q => fin _ ?_, fun q => fin _ ?_, fun q => fin _ ?_⟩
        · intro MM Q e h
          rw [e, li_0, li_1, q]
          simp (disch := omega) only [nI_eq]
          exact ⟨fun z => absurd trivial z, fun _ => h⟩
        · intro MM Q e h
          rw [e, li_0, li_1, q]
          simp (disch := omega) only [nI_eq]
          exact ⟨fun _ => ⟨vp_in_nI hj (by omega), fun z => absurd trivial z, fun _ => h⟩, fun z => absurd z (by decide)⟩
        · intro MM Q e h
          rw [e, li_0, li_1]
          simp (disch := omega) only [nI_eq]
          exact ⟨fun _ => ⟨vp_in_nI hj (by omega), fun _ => h, fun z => absurd z q.2⟩, fun z => absurd z q.1⟩
