/-! SWAPS alike -/
theorem cnt_ct (th : Nat → Nat) : ∀ k, cnt0 th k = fb_ct (zB th) k
  | 0 => rfl
  | k + 1 => by
    rw [cnt0, fb_ct_succ, cnt_ct th k]
    by_cases c : th k = 0
    · rw [if_pos c, if_pos (zB_iff.mpr c)]
    · rw [if_neg c, if_neg (fun z => c (zB_iff.mp z))]
theorem best_le {n : Nat} {p th : Nat → Nat} (hp : pm n p) : cycN p th n + fb_ct (zB th) n ≤ n := by
  obtain ⟨σ, h1, h2⟩ := toS_best (th := th) hp
  exact Nat.le_trans h2 (fb_ct_le _ n)
theorem c8_most (d n : Nat) (p th kd : Nat → Nat) (stp ngt : Nat) (M : Mm) (Q : Int32 → Mm → Prop) (h7 : n ≤ 7) (ht : okT n th) (hp : pm n p) (hR : RgM M 0 n kd th stp ngt) (hM : ∀ i, i < n → M 57 i = nI (p i)) (h : ∀ M', (∀ q, q ≠ 57 → q ≠ 59 → q ≠ 60 → q ≠ 61 → M' q = M q) → Q (nI (cycN p th n + fb_ct (zB th) n)) M') : kX8_mostRings (d + 2) M Q := by
  apply rX8_mostRings
  have bl := best_le (th := th) hp
  have e0 : M 50 0 = nI n := hR.1
  have := c8_gath (d + 1) n p th kd stp ngt Q h7 ht n M (Nat.le_refl _) hR hM (fun x hx => by rw [Nat.sub_self] at hx; exact absurd hx (Nat.not_lt_zero _)) (fun M1 g1 g2 g3 => ?_)
  · rw [Nat.sub_self] at this
    exact this
  · refine c8_node (n := n) (p := p) (th := th) (Mo := M1) d Q h7 hp (by rw [g1 50 (by omega) (by omega) (by omega)]; exact e0) g2 (cycN p th n + fb_ct (zB th) n) (by omega) (fun σ hσ => toS_up hp hσ) (fb_ct (zB th) n) 0 0 0 (fun _ => 0) M1 (by omega) (fun i hi => by omega) (fun i j hi _ => by omega) (Nat.zero_le _) (Nat.zero_le _) ⟨fun _ _ _ => rfl, fun i hi _ => by rw [g1 57 (by omega) (by omega) (by omega)]; exact hM i hi⟩ (fun i hi => by omega) (fun _ => g3) (fun M' b' f1 _ f3 f4 f5 => ?_)
    apply rX8_mostRings_64
    refine ⟨fun _ => ?_, fun q => absurd (by decide) q⟩
    obtain ⟨σ, i1, i2⟩ := toS_best (th := th) hp
    have f6 := f5 σ i1 (fun i hi => by omega) (fun _ => Nat.zero_le _)
    have eb : b' = cycN p th n + fb_ct (zB th) n := by omega
    rw [eb]
    exact h M' (fun q a b c e => by rw [f1.1 q a e, g1 q b c e])
theorem c8_noneL (d n : Nat) (th kd : Nat → Nat) (stp ngt : Nat) (M : Mm) (Q : Int32 → Mm → Prop) (h7 : n ≤ 7) (ht : okT n th) (hR : RgM M 0 n kd th stp ngt) (h : Q (nI (fb_ct (zB th) n)) M) : ∀ k, k ≤ n → BX8_noneOf d 4 [(0, .ref 49), (1, .int (nI (fb_ct (zB th) (n - k)))), (2, .int (nI (n - k)))] [] M Q
  | 0, _ => by
    apply rX8_noneOf_4
    have e0 : M 50 0 = nI n := hR.1
    rw [clamp0, e0]
    exact ⟨vp_in_nI (n := 0) (by omega) (by omega), fun _ => h, fun q => absurd (nI_le (by omega) (by omega)) q⟩
  | k + 1, hk => by
    apply rX8_noneOf_4
    have e0 : M 50 0 = nI n := hR.1
    have e : n - (k + 1) + 1 = n - k := by omega
    have et : M 50 (0 + 3 + (n - (k + 1))) = nI (th (n - (k + 1))) := hR.2.2.2.1 (n - (k + 1)) (by omega)
    rw [Nat.zero_add] at et
    have bt := ht (n - (k + 1)) (by omega)
    have es : fb_ct (zB th) (n - k) = fb_ct (zB th) (n - (k + 1)) + (if zB th (n - (k + 1)) then 1 else 0) := by rw [← e, fb_ct_succ]
    have ih := c8_noneL d n th kd stp ngt M Q h7 ht hR h k (by omega)
    rw [clamp0, e0, show (3 : Int32) + nI (n - (k + 1)) = nI (3 + (n - (k + 1))) by rw [li_3, nI_add], nI_clamp (show 3 + (n - (k + 1)) < 2 ^ 31 by omega), et, nI_1, e, nI_1, li_0, nI_add]
    simp (disch := omega) only [nI_eq]
    refine ⟨vp_in_nI (n := 0) (by omega) (by omega), fun q => absurd q (nI_ge (by omega) (by omega)), fun _ => ⟨vp_in_nI (by omega) (by omega), fun q => ?_, fun q => ?_⟩⟩
    · rw [if_neg (fun z => q (zB_iff.mp z))] at es
      rw [es] at ih
      exact ih
    · rw [if_pos (zB_iff.mpr q)] at es
      rw [es] at ih
      exact ih
theorem c8_none (d n : Nat) (th kd : Nat → Nat) (stp ngt : Nat) (M : Mm) (Q : Int32 → Mm → Prop) (h7 : n ≤ 7) (ht : okT n th) (hR : RgM M 0 n kd th stp ngt) (h : Q (nI (fb_ct (zB th) n)) M) : kX8_noneOf d M Q := by
  apply rX8_noneOf
  have := c8_noneL d n th kd stp ngt M Q h7 ht hR h n (Nat.le_refl _)
  rw [Nat.sub_self] at this
  exact this
/-- what is answered -/
noncomputable def swA (p th : Nat → Nat) (n : Nat) (v3 : Int32) : Int32 := if v3 = 0 then nI (n - (cycN p th n + fb_ct (zB th) n)) else if 2 ≤ fb_ct (zB th) n then 3 else if (n - (cycN p th n + fb_ct (zB th) n)) % 2 = 0 then 1 else 2
theorem c2_fewest (d n : Nat) (p th kd : Nat → Nat) (stp ngt : Nat) (M : Mm) (Q : Int32 → Mm → Prop) (h7 : n ≤ 7) (hp : pm n p) (ht : okT n th) (hC : RgC M 23 n kd th stp ngt) (hM : ∀ i, i < n → M 42 i = nI (p i)) (h : Q (nI (n - (cycN p th n + fb_ct (zB th) n))) M) : kX2_fewestChanges (d + 1) 23 M Q := by
  have bl := best_le (th := th) hp
  apply rX2_fewestChanges _ _ rg23
  refine c4_withNone d 23 rg23 n kd th stp ngt M _ hC ht h7 ?_
  refine c2_cycles d n p th kd stp ngt M _ h7 hp ht hC hM ?_
  rw [hC.1, cnt_ct, pk_sub (by omega), pk_sub (by omega), show n - fb_ct (zB th) n - cycN p th n = n - (cycN p th n + fb_ct (zB th) n) by omega]
  exact h
theorem c2_even (d n : Nat) (p th kd : Nat → Nat) (stp ngt : Nat) (v3 : Int32) (hv : ¬ v3 = 0) (M : Mm) (Q : Int32 → Mm → Prop) (h7 : n ≤ 7) (hp : pm n p) (ht : okT n th) (hC : RgC M 23 n kd th stp ngt) (hM : ∀ i, i < n → M 42 i = nI (p i)) (h : Q (swA p th n v3) M) : kX2_evenOrOdd (d + 2) 23 M Q := by
  have bl := best_le (th := th) hp
  unfold swA at h
  rw [if_neg hv] at h
  apply rX2_evenOrOdd _ _ rg23
  refine c4_withNone (d + 1) 23 rg23 n kd th stp ngt M _ hC ht h7 ?_
  rw [cnt_ct, li_2, nI_ltI (by omega) (by omega)]
  refine ⟨fun q => ?_, fun q => ?_⟩
  · rw [if_neg (by omega)] at h
    refine c2_fewest d n p th kd stp ngt M _ h7 hp ht hC hM ?_
    rw [irem_nI (by omega) (by omega) (by omega), li_0, nI_eq (by omega) (by omega)]
    refine ⟨fun q2 => ?_, fun q2 => ?_⟩
    · rw [if_neg q2] at h; exact h
    · rw [if_pos q2] at h; exact h
  · rw [if_pos (by omega)] at h
    exact h
theorem L_swaps (v1 v2 v3 : Int32) (M : Mm) (hI : Inv M) : kX7_swaps 40 v1 v2 v3 M (fun r1 M1 => kX8_swaps 40 v1 v2 v3 M1 (fun r2 M2 => r1 = r2 ∧ Inv M2)) := by
  obtain ⟨n, kd, th, stp, ngt, hC, hM, hok, -⟩ := hI.2.2.1
  have h7 := okR_7 hok
  have e0 : M 50 0 = nI n := hM.1
  apply rX7_swaps
  rw [hC.1]
  have vp0 : vp_in 0 301 := vp_in_nI (n := 0) (by omega) (by omega)
  refine ⟨fun hz => ?_, fun hz => ?_⟩
  case refine_2 =>
    apply rX8_swaps
    rw [clamp0, e0]
    exact ⟨vp0, fun z => absurd hz z, fun _ => ⟨rfl, hI⟩⟩
  have m8 : ∀ (M : Mm) (Q : Int32 → Mm → Prop), M 50 0 = nI n → kX8_isRow 39 v1 M (fun r1 M1 => ((r1 = 0 → Q (-1000001 : Int32) M1) ∧ (¬ r1 = 0 → ((v3 = 0 ∨ v3 = 1) → vp_in 0 301 ∧ kX8_against 39 v1 v2 (M1 50 0) M1 (fun r3 M3 => ((r3 ≤ 0 → (∀ M4 : Mm, M4 = (upd2 M3 49 5 (0 : Int32)) → kX8_laysTo 39 v1 v2 M4 (fun r4 M5 => ((¬ r4 = 0 → vp_in (0 : Int32) 301 ∧ kX8_mostRings 39 M5 (fun r5 M6 => ((¬ v3 = 0 → kX8_noneOf 39 M6 (fun r6 M7 => ((r6 ≤ (1 : Int32) → ((¬ (irem ((M5 50 0) - r5) (2 : Int32)) = 0 → Q (2 : Int32) M7) ∧ ((irem ((M5 50 0) - r5) (2 : Int32)) = 0 → Q (1 : Int32) M7))) ∧ (¬ r6 ≤ (1 : Int32) → Q (3 : Int32) M7)))) ∧ (v3 = 0 → Q ((M5 50 0) - r5) M6)))) ∧ (r4 = 0 → Q (-1000000 : Int32) M5))))) ∧ (¬ r3 ≤ 0 → kX8_finds 39 r3 M3 (fun r7 M8 => Q r7 M8))))) ∧ (¬ (v3 = 0 ∨ v3 = 1) → Q (-1000001 : Int32) M1)))) → kX8_swaps 40 v1 v2 v3 M Q := by
    intro M Q e h
    apply rX8_swaps
    rw [clamp0, e]
    refine ⟨vp0, fun _ => Ct.mono h (Nat.le_refl _) (fun r1 M1 h => ?_), fun z => absurd z hz⟩
    refine ⟨h.1, fun q => c8_fs _ _ _ _ ?_⟩
    have h2 := h.2 q
    by_cases c : v3 = 0 ∨ v3 = 1
    · rw [if_pos c]
      exact ⟨fun _ => h2.1 c, fun q => absurd q (by decide)⟩
    · rw [if_neg c]
      exact ⟨fun q => absurd rfl q, fun _ => h2.2 c⟩
  rcases row_ix v1 with h1 | ⟨j, hj, rfl⟩
  · refine c7_row_n _ _ _ _ h1 ⟨fun _ => ?_, fun q => absurd rfl q⟩
    exact m8 _ _ e0 (c8_row_n _ _ _ _ h1 ⟨fun _ => ⟨rfl, hI⟩, fun q => absurd rfl q⟩)
  refine c7_row_y _ j _ _ hj ⟨fun q => absurd q (by decide), fun _ => c7_fs _ _ _ _ ?_⟩
  by_cases yes : v3 = 0 ∨ v3 = 1
  case neg =>
    rw [if_neg yes]
    refine ⟨fun q => absurd rfl q, fun _ => ?_⟩
    exact m8 _ _ e0 (c8_row_y _ j _ _ hj ⟨fun q => absurd q (by decide), fun _ => ⟨fun q => absurd q yes, fun _ => ⟨rfl, hI⟩⟩⟩)
  rw [if_pos yes]
  refine ⟨fun _ => ?_, fun q => absurd q (by decide)⟩
  rw [hC.1]
  have hn0 : n ≠ 0 := fun z => hz (by rw [z]; rfl)
  have ht := (okR_T hok).1
  have f0 : ∀ (f : Int32) (q : Nat), q ≠ 0 → upd2 M 0 10 f q = M q := fun f q hq => upd2_off hq
  have rj : ∀ f : Int32, I_row (upd2 M 0 10 f) j := fun f => I_row_c (hI.1 j hj) (f0 _ _ (by omega)) (f0 _ _ (by omega)) (f0 _ _ (by omega)) (f0 _ _ (by omega)) (f0 _ _ (by omega))
  refine c7_fOf _ j hj _ _ M _ (hI.1 j hj) ?_
  have fnd : ∀ f : Int32, fndN M j v2 (nI n) = f → ¬ f ≤ 0 → kX7_found 39 f M (fun r1 M1 => kX8_swaps 40 (nI j) v2 v3 M1 (fun r2 M2 => r1 = r2 ∧ Inv M2)) := by
    intro f hf hf0
    refine c7_found _ _ _ _ (m8 _ _ (by rw [f0 _ 50 (by omega)]; exact e0) (c8_row_y _ j _ _ hj ⟨fun q => absurd q (by decide), fun _ => ⟨fun _ => ⟨vp0, ?_⟩, fun q => absurd yes q⟩⟩))
    rw [f0 _ 50 (by omega), e0]
    refine c8_agst _ j hj _ _ _ _ (rj f) ?_
    rw [fndN_c (M := M) (f0 _ 52 (by omega)), hf]
    exact ⟨fun q => absurd q hf0, fun _ => c8_finds _ _ _ _ ⟨rfl, Inv_f hI _⟩⟩
  rcases fnd_cases (M := M) (j := j) (i := v2) (n := nI n) with c | c | ⟨c, c1, c2⟩
  · rw [c]
    exact ⟨fun q => absurd q (by decide), fun _ => fnd 1 c (by decide)⟩
  · rw [c]
    exact ⟨fun q => absurd q (by decide), fun _ => fnd 2 c (by decide)⟩
  rcases id (hI.1 j hj) with ⟨g1, g2⟩ | ⟨ln, sz, q1, q2, q3, q4, q5, q6, q7⟩
  · exact absurd g2 c1
  rw [c]
  refine ⟨fun _ => ?_, fun q => absurd rfl q⟩
  rw [q5, nI_clamp (by omega)] at c2
  obtain ⟨a, n', rfl, en, hab⟩ := hasP_nat c2 q2
  have enn : n = n' := (nI_eq (by omega) (by omega)).mp en
  subst enn
  rintro M3 rfl
  refine ⟨vp_in_nI hj (by omega), ?_⟩
  rw [sh_nI hj]
  -- the reference, from the class's end on
  have ref : ∀ (M4 : Mm) (Q : Int32 → Mm → Prop), scr (upd2 M 0 10 0) M4 → (∀ q, q ≠ 41 → q ≠ 42 → M4 q = upd2 M 0 10 0 q) → (match layS (fun i => M 54 (40 * j + (a + i))) th n n 0 with | none => ∀ M', Inv M' → Q (-1000000) M' | some p => ∀ M', Inv M' → Q (swA p th n v3) M') → kX8_swaps 40 (nI j) (nI a) v3 M4 Q := by
    intro M4 Q sc fr' h
    have fr : ∀ q, q ≠ 0 → q ≠ 41 → q ≠ 42 → M4 q = M q := fun q z0 z1 z2 => by rw [fr' q z1 z2, f0 _ q z0]
    refine m8 _ _ (by rw [fr 50 (by omega) (by omega) (by omega)]; exact e0) (c8_row_y _ j _ _ hj ⟨fun q => absurd q (by decide), fun _ => ⟨fun _ => ⟨vp0, ?_⟩, fun q => absurd yes q⟩⟩)
    rw [fr 50 (by omega) (by omega) (by omega), e0]
    refine c8_agst _ j hj _ _ _ _ (I_row_c (hI.1 j hj) (fr _ (by omega) (by omega) (by omega)) (fr _ (by omega) (by omega) (by omega)) (fr _ (by omega) (by omega) (by omega)) (fr _ (by omega) (by omega) (by omega)) (fr _ (by omega) (by omega) (by omega))) ?_
    rw [fndN_c (M := M) (fr 52 (by omega) (by omega) (by omega)), c]
    refine ⟨fun _ => ?_, fun q => absurd (by decide) q⟩
    rintro M5 rfl
    have inv : ∀ M', (∀ q, q ≠ 57 → q ≠ 58 → q ≠ 59 → q ≠ 60 → q ≠ 61 → M' q = upd2 M4 49 5 0 q) → Inv M' := fun M' g => Inv_two hI sc (scr_of (fun k hk => g k (fun z => hk (by unfold wk; omega)) (fun z => hk (by unfold wk; omega)) (fun z => hk (by unfold wk; omega)) (fun z => hk (by unfold wk; omega)) (fun z => hk (by unfold wk; omega))))
    refine c8_laysTo 38 n j a (fun i => M 54 (40 * j + (a + i))) kd th stp ngt _ _ h7 hj (by omega) (RgM_c hM h7 (fun i _ _ => by rw [upd2_off (by omega), fr 50 (by omega) (by omega) (by omega)])) (fun i hi => by rw [upd2_off (by omega), fr 54 (by omega) (by omega) (by omega)]) ?_
    cases el : layS (fun i => M 54 (40 * j + (a + i))) th n n 0 with
    | none =>
      rw [el] at h
      exact fun M' g => ⟨fun q => absurd rfl q, fun _ => h M' (inv M' (fun q z1 z2 _ _ _ => g q z2 z1))⟩
    | some p =>
      rw [el] at h
      refine fun M' g g2 => ⟨fun _ => ⟨vp0, ?_⟩, fun q => absurd q (by decide)⟩
      have lk := layS_ok (Nat.le_refl n) el
      have hp : pm n p := ⟨fun i hi => (lk.1 i (by omega) hi).1, fun i k hi hk e => lk.2 i k (by omega) hi (by omega) hk e⟩
      have bl := best_le (th := th) hp
      have e5 : M' 50 = M 50 := by rw [g 50 (by omega) (by omega), upd2_off (by omega), fr 50 (by omega) (by omega) (by omega)]
      have hR : RgM M' 0 n kd th stp ngt := RgM_c hM h7 (fun i _ _ => by rw [e5])
      refine c8_most 37 n p th kd stp ngt M' _ h7 ht hp hR g2 (fun M6 y => ?_)
      have i6 : Inv M6 := inv M6 (fun q z1 z2 z3 z4 z5 => by rw [y q z1 z3 z4 z5, g q z2 z1])
      have h6 := h M6 i6
      unfold swA at h6
      rw [e5, e0, pk_sub (by omega)]
      refine ⟨fun q => ?_, fun q => ?_⟩
      · rw [if_neg q] at h6
        refine c8_none 39 n th kd stp ngt M6 _ h7 ht (RgM_c hM h7 (fun i _ _ => by rw [y 50 (by omega) (by omega) (by omega) (by omega), e5])) ?_
        rw [li_1, nI_leI (by omega) (by omega), li_2, irem_nI (by omega) (by omega) (by omega), li_0, nI_eq (by omega) (by omega)]
        refine ⟨fun w => ?_, fun w => ?_⟩
        · rw [if_neg (by omega)] at h6
          refine ⟨fun q2 => ?_, fun q2 => ?_⟩
          · rw [if_neg q2] at h6; exact h6
          · rw [if_pos q2] at h6; exact h6
        · rw [if_pos (by omega)] at h6
          exact h6
      · rw [if_pos q] at h6
        exact h6
  refine c2_take 38 n j a (fun i => M 54 (40 * j + (a + i))) kd th stp ngt _ _ h7 hj (by omega) (RgC_c hC (f0 _ _ (by omega)) (f0 _ _ (by omega)) (f0 _ _ (by omega))) (fun i hi => by rw [f0 _ _ (by omega), show 2 + 2 * j + 1 = 3 + 2 * j by omega]; exact q7 _ (by omega)) ?_
  have scq : ∀ M', (∀ q, q ≠ 41 → q ≠ 42 → M' q = upd2 M 0 10 0 q) → scr (upd2 M 0 10 0) M' := fun M' g => scr_of (fun k hk => g k (fun z => hk (by unfold wk; omega)) (fun z => hk (by unfold wk; omega)))
  cases el : layS (fun i => M 54 (40 * j + (a + i))) th n n 0 with
  | none =>
    refine fun M' g => ⟨fun q => absurd rfl q, fun _ => ref M' _ (scq M' g) g ?_⟩
    rw [el]
    exact fun M' i => ⟨rfl, i⟩
  | some p =>
    have lk := layS_ok (Nat.le_refl n) el
    have hp : pm n p := ⟨fun i hi => (lk.1 i (by omega) hi).1, fun i k hi hk e => lk.2 i k (by omega) hi (by omega) hk e⟩
    refine fun M' g g2 => ⟨fun _ => ?_, fun q => absurd q (by decide)⟩
    have hC' : RgC M' 23 n kd th stp ngt := RgC_c hC (by rw [g _ (by omega) (by omega), f0 _ _ (by omega)]) (by rw [g _ (by omega) (by omega), f0 _ _ (by omega)]) (by rw [g _ (by omega) (by omega), f0 _ _ (by omega)])
    have fin : kX8_swaps 40 (nI j) (nI a) v3 M' (fun r2 M2 => swA p th n v3 = r2 ∧ Inv M2) := by
      refine ref M' _ (scq M' g) g ?_
      rw [el]
      exact fun M2 i => ⟨rfl, i⟩
    refine ⟨fun q => c2_even 37 n p th kd stp ngt v3 q M' _ h7 hp ht hC' g2 fin, fun q => c2_fewest 38 n p th kd stp ngt M' _ h7 hp ht hC' g2 ?_⟩
    have e : swA p th n v3 = nI (n - (cycN p th n + fb_ct (zB th) n)) := by unfold swA; rw [if_pos q]
    rw [← e]
    exact fin
