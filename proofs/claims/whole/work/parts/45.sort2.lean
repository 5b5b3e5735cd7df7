/-! SORT alike -/
theorem row_ix (v : Int32) : (v < 0 ∨ nI 8 ≤ v) ∨ ∃ j, j < 8 ∧ v = nI j := by
  rcases pk_ix v (n := 8) (by omega) with h1 | h1 | ⟨j, hj, e⟩
  · exact Or.inl (Or.inl h1)
  · exact Or.inl (Or.inr h1)
  · exact Or.inr ⟨j, hj, e⟩
theorem k_ix (v : Int32) : v < -1 ∨ v = -1 ∨ ∃ k, k < 2 ^ 31 ∧ v = nI k := by
  have e : (-1 : Int32).toInt = -1 := rfl
  have r := fb_rng v
  rw [fa_lt, fa_eq, e]
  rcases (show v.toInt < 0 ∨ 0 ≤ v.toInt by omega) with h | h
  · omega
  · refine Or.inr (Or.inr ⟨v.toInt.toNat, by omega, ?_⟩)
    rw [fa_eq, nI_toInt (by omega)]
    omega
theorem L_sort (v1 v2 v3 : Int32) (M : Mm) (hI : Inv M) : kX7_sort 40 v1 v2 v3 M (fun r1 M1 => kX8_sort 40 v1 v2 v3 M1 (fun r2 M2 => r1 = r2 ∧ Inv M2)) := by
  obtain ⟨n, kd, th, stp, ngt, hC, hM, hok, -⟩ := hI.2.2.1
  have h7 := okR_7 hok
  have e0 : M 50 0 = nI n := hM.1
  apply rX7_sort
  rw [hC.1]
  have vp0 : vp_in 0 301 := vp_in_nI (n := 0) (by omega) (by omega)
  refine ⟨fun hz => ?_, fun hz => ?_⟩
  case refine_2 =>
    apply rX8_sort
    rw [clamp0, e0]
    exact ⟨vp0, fun z => absurd hz z, fun _ => ⟨rfl, hI⟩⟩
  have m8 : ∀ (M : Mm) (Q : Int32 → Mm → Prop), M 50 0 = nI n → kX8_isRow 39 v1 M (fun r1 M1 => ((r1 = 0 → Q (-1000001) M1) ∧ (¬ r1 = 0 → ((-1 ≤ v3 → vp_in 0 301 ∧ kX8_against 39 v1 v2 (M1 50 0) M1 (fun r2 M2 => ((r2 ≤ 0 → (∀ M3, M3 = (upd2 M2 49 5 0) → kX8_laysTo 39 v1 v2 M3 (fun r3 M4 => ((¬ r3 = 0 → BX8_sort (39 + 1) 76 [(0, .ref 49), (3, .int v3), (5, .int 0), (6, .int 0)] [] M4 Q) ∧ (r3 = 0 → Q (-1000000) M4))))) ∧ (¬ r2 ≤ 0 → kX8_finds 39 r2 M2 (fun r4 M5 => Q r4 M5))))) ∧ (¬ -1 ≤ v3 → Q (-1000001) M1))))) → kX8_sort 40 v1 v2 v3 M Q := by
    intro M Q e h
    apply rX8_sort
    rw [clamp0, e]
    exact ⟨vp0, fun _ => h, fun z => absurd z hz⟩
  rcases row_ix v1 with h1 | ⟨j, hj, rfl⟩
  · refine c7_row_n _ _ _ _ h1 ⟨fun _ => ?_, fun q => absurd rfl q⟩
    exact m8 _ _ e0 (c8_row_n _ _ _ _ h1 ⟨fun _ => ⟨rfl, hI⟩, fun q => absurd rfl q⟩)
  refine c7_row_y _ j _ _ hj ⟨fun q => absurd q (by decide), fun _ => ?_⟩
  have em : (-1 : Int32).toInt = -1 := rfl
  rcases k_ix v3 with h3 | h3
  · have no : ¬ -1 ≤ v3 := fun z => by rw [fa_lt] at h3; rw [fa_le] at z; omega
    refine ⟨fun q => absurd q no, fun _ => ?_⟩
    exact m8 _ _ e0 (c8_row_y _ j _ _ hj ⟨fun q => absurd q (by decide), fun _ => ⟨fun q => absurd q no, fun _ => ⟨rfl, hI⟩⟩⟩)
  have yes : -1 ≤ v3 := by
    rcases h3 with rfl | ⟨k, hk, rfl⟩
    · decide
    · rw [fa_le, nI_toInt hk, em]; omega
  refine ⟨fun _ => ?_, fun q => absurd yes q⟩
  rw [hC.1]
  have hn0 : n ≠ 0 := fun z => hz (by rw [z]; rfl)
  have ht := (okR_T hok).1
  have f0 : ∀ (f : Int32) (q : Nat), q ≠ 0 → upd2 M 0 10 f q = M q := fun f q hq => upd2_off hq
  have rj : ∀ f : Int32, I_row (upd2 M 0 10 f) j := fun f => I_row_c (hI.1 j hj) (f0 _ _ (by omega)) (f0 _ _ (by omega)) (f0 _ _ (by omega)) (f0 _ _ (by omega)) (f0 _ _ (by omega))
  refine c7_fOf _ j hj _ _ M _ (hI.1 j hj) ?_
  have fnd : ∀ f : Int32, fndN M j v2 (nI n) = f → ¬ f ≤ 0 → kX7_found 39 f M (fun r1 M1 => kX8_sort 40 (nI j) v2 v3 M1 (fun r2 M2 => r1 = r2 ∧ Inv M2)) := by
    intro f hf hf0
    refine c7_found _ _ _ _ (m8 _ _ (by rw [f0 _ 50 (by omega)]; exact e0) (c8_row_y _ j _ _ hj ⟨fun q => absurd q (by decide), fun _ => ⟨fun _ => ⟨vp0, ?_⟩, fun q => absurd yes q⟩⟩))
    rw [f0 _ 50 (by omega), e0]
    refine c8_agst _ j hj _ _ _ _ (rj f) ?_
    rw [fndN_c (M := M) (f0 _ 52 (by omega)), hf]
    exact ⟨fun q => absurd q hf0, fun _ => c8_finds _ _ _ _ ⟨rfl, Inv_f hI _⟩⟩
  rcases fnd_cases (M := M) (j := j) (i := v2) (n := nI n) with c | c | ⟨c, c1, c2⟩
  · rw [c]
    exact ⟨fun q => absurd q (by decide), fun _ => fnd 1 c (by decide)⟩
  · rw [c]
    exact ⟨fun q => absurd q (by decide), fun _ => fnd 2 c (by decide)⟩
  rcases id (hI.1 j hj) with ⟨g1, g2⟩ | ⟨ln, sz, q1, q2, q3, q4, q5, q6, q7⟩
  · exact absurd g2 c1
  rw [c]
  refine ⟨fun _ => ?_, fun q => absurd rfl q⟩
  rw [q5, nI_clamp (by omega)] at c2
  obtain ⟨a, n', rfl, en, hab⟩ := hasP_nat c2 q2
  have enn : n = n' := (nI_eq (by omega) (by omega)).mp en
  subst enn
  rintro M3 rfl
  refine ⟨vp_in_nI hj (by omega), ?_⟩
  rw [sh_nI hj]
  -- the reference, from the class's end on
  have ref : ∀ (M4 : Mm) (Q : Int32 → Mm → Prop), scr (upd2 M 0 10 0) M4 → (∀ q, q ≠ 41 → q ≠ 42 → M4 q = upd2 M 0 10 0 q) → (match layS (fun i => M 54 (40 * j + (a + i))) th n n 0 with | none => ∀ M', Inv M' → Q (-1000000) M' | some p => ∀ M', Inv M' → (v3 = -1 → Q (nI (iv p n n)) M') ∧ (∀ k, k < 2 ^ 31 → v3 = nI k → Q (encN (fallAt n k p)) M')) → kX8_sort 40 (nI j) (nI a) v3 M4 Q := by
    intro M4 Q sc fr' h
    have fr : ∀ q, q ≠ 0 → q ≠ 41 → q ≠ 42 → M4 q = M q := fun q z0 z1 z2 => by rw [fr' q z1 z2, f0 _ q z0]
    refine m8 _ _ (by rw [fr 50 (by omega) (by omega) (by omega)]; exact e0) (c8_row_y _ j _ _ hj ⟨fun q => absurd q (by decide), fun _ => ⟨fun _ => ⟨vp0, ?_⟩, fun q => absurd yes q⟩⟩)
    rw [fr 50 (by omega) (by omega) (by omega), e0]
    refine c8_agst _ j hj _ _ _ _ (I_row_c (hI.1 j hj) (fr _ (by omega) (by omega) (by omega)) (fr _ (by omega) (by omega) (by omega)) (fr _ (by omega) (by omega) (by omega)) (fr _ (by omega) (by omega) (by omega)) (fr _ (by omega) (by omega) (by omega))) ?_
    rw [fndN_c (M := M) (fr 52 (by omega) (by omega) (by omega)), c]
    refine ⟨fun _ => ?_, fun q => absurd (by decide) q⟩
    rintro M5 rfl
    have inv : ∀ M', (∀ q, q ≠ 58 → q ≠ 57 → M' q = upd2 M4 49 5 0 q) → Inv M' := fun M' g => Inv_two hI sc (scr_of (fun k hk => g k (fun z => hk (by unfold wk; omega)) (fun z => hk (by unfold wk; omega))))
    refine c8_laysTo 38 n j a (fun i => M 54 (40 * j + (a + i))) kd th stp ngt _ _ h7 hj (by omega) (RgM_c hM h7 (fun i _ _ => by rw [upd2_off (by omega), fr 50 (by omega) (by omega) (by omega)])) (fun i hi => by rw [upd2_off (by omega), fr 54 (by omega) (by omega) (by omega)]) ?_
    cases el : layS (fun i => M 54 (40 * j + (a + i))) th n n 0 with
    | none =>
      rw [el] at h
      exact fun M' g => ⟨fun q => absurd rfl q, fun _ => h M' (inv M' g)⟩
    | some p =>
      rw [el] at h
      refine fun M' g g2 => ⟨fun _ => ?_, fun q => absurd q (by decide)⟩
      have pr : prm n p := fun i hi => by have := ((layS_ok (Nat.le_refl n) el).1 i (by omega) hi).1; omega
      have b21 : iv p n n ≤ 21 := Nat.le_trans (iv_tri n) (tri_21 n (by omega))
      refine c8_srt 39 n v3 Q h7 (by omega) (iv p n n) p M' 0 rfl (by omega) ?_ pr (by rw [g 50 (by omega) (by omega), upd2_off (by omega), fr 50 (by omega) (by omega) (by omega)]; exact e0) g2 (fun M6 y => ?_)
      · rcases h3 with q | ⟨k, hk, q⟩
        · exact Or.inl q
        · exact Or.inr ⟨k, by omega, hk, q⟩
      · have hh := h M6 (inv M6 (fun q z1 z2 => by rw [y q z2, g q z1 z2]))
        refine ⟨fun q => by rw [Nat.zero_add]; exact hh.1 q, fun k _ k2 k3 => hh.2 k k2 k3⟩
  refine c2_take 38 n j a (fun i => M 54 (40 * j + (a + i))) kd th stp ngt _ _ h7 hj (by omega) (RgC_c hC (f0 _ _ (by omega)) (f0 _ _ (by omega)) (f0 _ _ (by omega))) (fun i hi => by rw [f0 _ _ (by omega), show 2 + 2 * j + 1 = 3 + 2 * j by omega]; exact q7 _ (by omega)) ?_
  have scq : ∀ M', (∀ q, q ≠ 41 → q ≠ 42 → M' q = upd2 M 0 10 0 q) → scr (upd2 M 0 10 0) M' := fun M' g => scr_of (fun k hk => g k (fun z => hk (by unfold wk; omega)) (fun z => hk (by unfold wk; omega)))
  cases el : layS (fun i => M 54 (40 * j + (a + i))) th n n 0 with
  | none =>
    refine fun M' g => ⟨fun q => absurd rfl q, fun _ => ref M' _ (scq M' g) g ?_⟩
    rw [el]
    exact fun M' i => ⟨rfl, i⟩
  | some p =>
    have pr : prm n p := fun i hi => by have := ((layS_ok (Nat.le_refl n) el).1 i (by omega) hi).1; omega
    have b21 : iv p n n ≤ 21 := Nat.le_trans (iv_tri n) (tri_21 n (by omega))
    refine fun M' g g2 => ⟨fun _ => ?_, fun q => absurd q (by decide)⟩
    have g23 : M' 23 2 = nI n := by rw [g 23 (by omega) (by omega), f0 _ 23 (by omega)]; exact hC.1
    rcases h3 with rfl | ⟨k, hk, rfl⟩
    · refine ⟨fun q => absurd q (by decide), fun _ => ?_⟩
      apply rX2_neighbourChanges _ _ rg23
      have := c2_nc4 39 n p M' (fun r1 M1 => kX8_sort 40 (nI j) (nI a) (-1) M1 (fun r2 M2 => r1 = r2 ∧ Inv M2)) h7 pr g23 g2 n 0 (Nat.le_refl _) ?_
      · rw [Nat.sub_self] at this
        exact this
      · refine ref M' _ (scq M' g) g ?_
        rw [el]
        refine fun M2 i => ⟨fun _ => ⟨by rw [Nat.zero_add], i⟩, fun k hk e => ?_⟩
        exfalso
        have : (nI k).toInt = k := nI_toInt hk
        rw [← e, em] at this
        omega
    · refine ⟨fun _ => ?_, fun q => absurd (nI_pos' hk) q⟩
      apply rX2_neighbourChange _ _ rg23
      refine c2_nch 38 n k _ h7 (by omega) hk (iv p n n) p M' 0 _ rfl (by omega) (by omega) pr g23 g2 (fun M2 y => ?_)
      have g' : ∀ q, q ≠ 41 → q ≠ 42 → M2 q = upd2 M 0 10 0 q := fun q z1 z2 => by rw [y q z2, g q z1 z2]
      refine ref M2 _ (scq M2 g') g' ?_
      rw [el]
      refine fun M3 i => ⟨fun e => ?_, fun k2 hk2 e => ⟨?_, i⟩⟩
      · exfalso
        have : (nI k).toInt = k := nI_toInt hk
        rw [e, em] at this
        omega
      · have : k = k2 := (nI_eq hk hk2).mp e
        rw [this, Nat.sub_zero]
