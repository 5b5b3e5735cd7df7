/-! what is told, and where each goes -/
def fpS (wt : Nat → Int32) (n : Nat) (x : Int32) (us : Nat) : Nat → Option Nat
  | 0 => none
  | k + 1 => if wt (n - (k + 1)) = x ∧ us.testBit (n - (k + 1)) = false then some (n - (k + 1)) else fpS wt n x us k
theorem fpS_some {wt : Nat → Int32} {n : Nat} {x : Int32} {us q : Nat} : ∀ {k}, k ≤ n → fpS wt n x us k = some q → q < n ∧ wt q = x ∧ us.testBit q = false
  | 0, _, h => by rw [fpS] at h; exact absurd h (by simp)
  | k + 1, hk, h => by
    rw [fpS] at h
    by_cases c : wt (n - (k + 1)) = x ∧ us.testBit (n - (k + 1)) = false
    · rw [if_pos c] at h
      injection h with h
      subst h
      exact ⟨by omega, c.1, c.2⟩
    · rw [if_neg c] at h
      exact fpS_some (k := k) (by omega) h
def layS (wt : Nat → Int32) (th : Nat → Nat) (n : Nat) : Nat → Nat → Option (Nat → Nat)
  | 0, _ => some (fun _ => 0)
  | k + 1, us => match fpS wt n (nI (th (n - (k + 1)))) us n with
    | none => none
    | some q => match layS wt th n k (us ||| 2 ^ q) with
      | none => none
      | some p => some (fun i => if i = n - (k + 1) then q else p i)
theorem bit_or2 (us q i : Nat) : (us ||| 2 ^ q).testBit i = (us.testBit i || decide (q = i)) := by
  rw [Nat.testBit_or, Nat.testBit_two_pow]
theorem layS_ok {wt : Nat → Int32} {th : Nat → Nat} {n : Nat} : ∀ {k us p}, k ≤ n → layS wt th n k us = some p → (∀ i, n - k ≤ i → i < n → p i < n ∧ wt (p i) = nI (th i) ∧ us.testBit (p i) = false) ∧ (∀ i j, n - k ≤ i → i < n → n - k ≤ j → j < n → p i = p j → i = j)
  | 0, us, p, _, h => ⟨fun i h1 h2 => by omega, fun i j h1 h2 => by omega⟩
  | k + 1, us, p, hk, h => by
    rw [layS] at h
    cases e1 : fpS wt n (nI (th (n - (k + 1)))) us n with
    | none => rw [e1] at h; exact absurd h (by simp)
    | some q =>
      rw [e1] at h
      cases e2 : layS wt th n k (us ||| 2 ^ q) with
      | none => dsimp only at h; rw [e2] at h; exact absurd h (by simp)
      | some p2 =>
        dsimp only at h; rw [e2] at h
        injection h with h
        subst h
        have f := fpS_some (Nat.le_refl n) e1
        have r := layS_ok (k := k) (by omega) e2
        have r1 : ∀ i, n - k ≤ i → i < n → us.testBit (p2 i) = false ∧ q ≠ p2 i := fun i h1 h2 => by
          have := (r.1 i h1 h2).2.2
          rw [bit_or2, Bool.or_eq_false_iff] at this
          exact ⟨this.1, by simpa using this.2⟩
        refine ⟨fun i h1 h2 => ?_, fun i j h1 h2 h3 h4 h5 => ?_⟩
        · dsimp only
          by_cases c : i = n - (k + 1)
          · rw [if_pos c, c]; exact f
          · rw [if_neg c]; exact ⟨(r.1 i (by omega) h2).1, (r.1 i (by omega) h2).2.1, (r1 i (by omega) h2).1⟩
        · dsimp only at h5
          by_cases c : i = n - (k + 1)
          · by_cases c2 : j = n - (k + 1)
            · omega
            · rw [if_pos c, if_neg c2] at h5
              exact absurd h5 (r1 j (by omega) h4).2
          · by_cases c2 : j = n - (k + 1)
            · rw [if_neg c, if_pos c2] at h5
              exact absurd h5.symm (r1 i (by omega) h2).2
            · rw [if_neg c, if_neg c2] at h5
              exact r.2 i j (by omega) h2 (by omega) h4 h5
theorem or_128 {us q : Nat} (h : us < 128) (hq : q < 7) : us ||| 2 ^ q < 128 := by
  have h2 : 2 ^ q < 2 ^ 7 := Nat.pow_lt_pow_right (by omega) hq
  exact Nat.or_lt_two_pow (n := 7) h h2
theorem orq {us q : Nat} (hq : q < 7) : nI us ||| ishl 1 (nI q) = nI (us ||| 2 ^ q) := by
  have h2 : 2 ^ q < 2 ^ 7 := Nat.pow_lt_pow_right (by omega) hq
  rw [li_1, ishl_nI (by omega) (by omega), Nat.one_mul, fa_or]
/-- the class takes -/
theorem c2_fp (d n us : Nat) (wt : Nat → Int32) (x : Int32) (M : Mm) (Q : Int32 → Mm → Prop) (h7 : n ≤ 7) (hu : us < 128) (hw : ∀ i, i < n → M 41 i = wt i) : ∀ k, k ≤ n → (match fpS wt n x us k with | none => Q (-1) M | some q => Q (nI q) M) → BX2_freePlaceOf d 3 [(0, .ref 40), (1, .int x), (2, .int (nI us)), (3, .int (nI n)), (4, .int (nI (n - k)))] [] M Q
  | 0, _, h => by
    apply rX2_freePlaceOf_3
    exact ⟨fun _ => h, fun q => absurd (nI_le (by omega) (by omega)) q⟩
  | k + 1, hk, h => by
    apply rX2_freePlaceOf_3
    have e : n - (k + 1) + 1 = n - k := by omega
    have hd : us / 2 ^ (n - (k + 1)) ≤ us := Nat.div_le_self _ _
    have hm : us / 2 ^ (n - (k + 1)) % 2 < 2 := Nat.mod_lt _ (by omega)
    rw [fpS] at h
    rw [nI_clamp (by omega), hw _ (by omega), nI_1, e, li_1, ishr_nI (by omega) (by omega), and1_nI, li_0, nI_eq (by omega) (by omega), bit_iff0]
    refine ⟨fun q => absurd q (nI_ge (by omega) (by omega)), fun _ => ⟨vp_in_nI (by omega) (by omega), fun q => ?_, fun q => ⟨fun q2 => ?_, fun q2 => ?_⟩⟩⟩
    · rw [if_neg (fun z => q z.1)] at h
      exact c2_fp d n us wt x M Q h7 hu hw k (by omega) h
    · rw [if_neg (fun z => q2 z.2)] at h
      exact c2_fp d n us wt x M Q h7 hu hw k (by omega) h
    · rw [if_pos ⟨q, q2⟩] at h
      exact h
theorem c2_tk2 (d n : Nat) (wt : Nat → Int32) (kd th : Nat → Nat) (stp ngt : Nat) (Q : Int32 → Mm → Prop) (h7 : n ≤ 7) : ∀ (k us : Nat) (M : Mm), k ≤ n → us < 128 → RgC M 23 n kd th stp ngt → (∀ i, i < n → M 41 i = wt i) → (match layS wt th n k us with | none => ∀ M', (∀ q, q ≠ 42 → M' q = M q) → Q 0 M' | some p => ∀ M', (∀ q, q ≠ 42 → M' q = M q) → (∀ i, i < n - k → M' 42 i = M 42 i) → (∀ i, n - k ≤ i → i < n → M' 42 i = nI (p i)) → Q 1 M') → BX2_take (d + 1) 40 [(0, .ref 40), (1, .ref 23), (4, .int (nI us)), (5, .int (nI (n - k)))] [] M Q
  | 0, us, M, _, hu, hC, hw, h => by
    apply rX2_take_40 _ _ rg23
    rw [hC.1]
    exact ⟨fun _ => h M (fun _ _ => rfl) (fun _ _ => rfl) (fun i h1 h2 => by omega), fun q => absurd (nI_le (by omega) (by omega)) q⟩
  | k + 1, us, M, hk, hu, hC, hw, h => by
    apply rX2_take_40 _ _ rg23
    have e : n - (k + 1) + 1 = n - k := by omega
    have et : M (23 + 2) (n - (k + 1)) = nI (th (n - (k + 1))) := hC.2.2.2.2 (n - (k + 1)) (by omega)
    rw [hC.1, nI_clamp (by omega), et, nI_1, e]
    refine ⟨fun q => absurd q (nI_ge (by omega) (by omega)), fun _ => ⟨vp_in_nI (by omega) (by omega), ?_⟩⟩
    apply rX2_freePlaceOf
    have := c2_fp d n us wt (nI (th (n - (k + 1)))) M (fun r1 M1 => ((0 ≤ r1 → vp_in (nI (n - (k + 1))) 7 ∧ (∀ M2, M2 = (upd2 M1 42 (n - (k + 1)) r1) → BX2_take (d + 1) 40 [(0, .ref 40), (1, .ref 23), (4, .int (nI us ||| (ishl 1 r1))), (5, .int (nI (n - k)))] [] M2 Q)) ∧ (¬ 0 ≤ r1 → Q 0 M1))) h7 hu hw n (Nat.le_refl _) ?_
    · rw [Nat.sub_self] at this
      exact this
    · rw [layS] at h
      cases e1 : fpS wt n (nI (th (n - (k + 1)))) us n with
      | none =>
        rw [e1] at h
        exact ⟨fun q => absurd q (by decide), fun _ => h M (fun _ _ => rfl)⟩
      | some q =>
        rw [e1] at h
        have f := fpS_some (Nat.le_refl n) e1
        refine ⟨fun _ => ⟨vp_in_nI (by omega) (by omega), ?_⟩, fun z => absurd (nI_pos' (by omega)) z⟩
        rintro M2 rfl
        rw [orq (by omega)]
        refine c2_tk2 d n wt kd th stp ngt Q h7 k _ _ (by omega) (or_128 hu (by omega)) (RgC_c hC (upd2_off (by omega)) (upd2_off (by omega)) (upd2_off (by omega))) (fun i hi => by rw [upd2_off (by omega)]; exact hw i hi) ?_
        cases e2 : layS wt th n k (us ||| 2 ^ q) with
        | none =>
          dsimp only at h; rw [e2] at h
          exact fun M' g => h M' (fun q hq => by rw [g q hq, upd2_off hq])
        | some p =>
          dsimp only at h; rw [e2] at h
          refine fun M' g1 g2 g3 => h M' (fun q hq => by rw [g1 q hq, upd2_off hq]) (fun i hi => by rw [g2 i (by omega), upd2_row (by omega)]) (fun i h1 h2 => ?_)
          dsimp only
          by_cases c : i = n - (k + 1)
          · rw [g2 i (by omega), c, upd2_at, if_pos rfl]
          · rw [g3 i (by omega) h2, if_neg c]
theorem c2_tk1 (d n j a : Nat) (wt : Nat → Int32) (kd th : Nat → Nat) (stp ngt : Nat) (Q : Int32 → Mm → Prop) (h7 : n ≤ 7) (hj : j < 8) (ha : a + n ≤ 40) (us : Int32) : ∀ (k : Nat) (M : Mm), k ≤ n → RgC M 23 n kd th stp ngt → (∀ i, i < n → M (2 + 2 * j + 1) (a + i) = wt i) → (∀ i, i < n - k → M 41 i = wt i) → (∀ M', (∀ q, q ≠ 41 → M' q = M q) → (∀ i, i < n → M' 41 i = wt i) → BX2_take (d + 1) 40 [(0, .ref 40), (1, .ref 23), (4, .int us), (5, .int 0)] [] M' Q) → BX2_take (d + 1) 6 [(0, .ref 40), (1, .ref 23), (2, .ref (2 + 2 * j)), (3, .int (nI a)), (4, .int us), (5, .int (nI (n - k)))] [] M Q
  | 0, M, _, hC, hr, hw, h => by
    apply rX2_take_6 _ _ rg23 _ (isSh_of hj)
    rw [hC.1]
    exact ⟨fun _ => h M (fun _ _ => rfl) hw, fun q => absurd (nI_le (by omega) (by omega)) q⟩
  | k + 1, M, hk, hC, hr, hw, h => by
    apply rX2_take_6 _ _ rg23 _ (isSh_of hj)
    have e : n - (k + 1) + 1 = n - k := by omega
    rw [hC.1, nI_add, nI_clamp (show n - (k + 1) < 2 ^ 31 by omega), nI_clamp (show a + (n - (k + 1)) < 2 ^ 31 by omega), nI_1, e, hr _ (by omega)]
    refine ⟨fun q => absurd q (nI_ge (by omega) (by omega)), fun _ => ⟨vp_in_nI (by omega) (by omega), vp_in_nI (by omega) (by omega), ?_⟩⟩
    rintro M1 rfl
    refine c2_tk1 d n j a wt kd th stp ngt Q h7 hj ha us k _ (by omega) (RgC_c hC (upd2_off (by omega)) (upd2_off (by omega)) (upd2_off (by omega))) (fun i hi => by rw [upd2_off (by omega)]; exact hr i hi) (fun i hi => ?_) (fun M' g1 g2 => h M' (fun q hq => by rw [g1 q hq, upd2_off hq]) g2)
    by_cases c : i = n - (k + 1)
    · rw [c, upd2_at]
    · rw [upd2_row c]; exact hw i (by omega)
theorem c2_take (d n j a : Nat) (wt : Nat → Int32) (kd th : Nat → Nat) (stp ngt : Nat) (M : Mm) (Q : Int32 → Mm → Prop) (h7 : n ≤ 7) (hj : j < 8) (ha : a + n ≤ 40) (hC : RgC M 23 n kd th stp ngt) (hr : ∀ i, i < n → M (2 + 2 * j + 1) (a + i) = wt i) (h : match layS wt th n n 0 with | none => ∀ M', (∀ q, q ≠ 41 → q ≠ 42 → M' q = M q) → Q 0 M' | some p => ∀ M', (∀ q, q ≠ 41 → q ≠ 42 → M' q = M q) → (∀ i, i < n → M' 42 i = nI (p i)) → Q 1 M') : kX2_take (d + 1) 23 (2 + 2 * j) (nI a) M Q := by
  apply rX2_take _ _ rg23 _ (isSh_of hj)
  have := c2_tk1 d n j a wt kd th stp ngt Q h7 hj ha 0 n M (Nat.le_refl _) hC hr (fun i hi => by omega) (fun M1 g1 g2 => ?_)
  · rw [Nat.sub_self] at this
    exact this
  · have := c2_tk2 d n wt kd th stp ngt Q h7 n 0 M1 (Nat.le_refl _) (by omega) (RgC_c hC (g1 _ (by omega)) (g1 _ (by omega)) (g1 _ (by omega))) g2 ?_
    · rw [Nat.sub_self] at this
      exact this
    · cases e : layS wt th n n 0 with
      | none =>
        rw [e] at h
        exact fun M' y => h M' (fun q h1 h2 => by rw [y q h2, g1 q h1])
      | some p =>
        rw [e] at h
        exact fun M' y1 y2 y3 => h M' (fun q h1 h2 => by rw [y1 q h2, g1 q h1]) (fun i hi => y3 i (by omega) hi)
/-- the reference takes -/
def enc (o : Option Nat) : Int32 := match o with | none => -1 | some q => nI q
theorem c8_lt3 (d n us s : Nat) (wt : Nat → Int32) (x : Int32) (Q : Int32 → Mm → Prop) (h7 : n ≤ 7) (hu : us < 128) (hs : s < n) : ∀ (k m : Nat) (M : Mm), k + m = n → (∀ i, i < n → M 58 i = wt i) → M 50 (3 + s) = x → M 57 s = enc (fpS wt n x us m) → (∀ M', (∀ q, q ≠ 57 → M' q = M q) → (∀ i, i ≠ s → M' 57 i = M 57 i) → M' 57 s = enc (fpS wt n x us n) → BX8_laysTo (d + 1) 68 [(0, .ref 49), (3, .int (nI n)), (4, .int (nI us)), (5, .int (nI s)), (6, .int (-1))] [] M' Q) → BX8_laysTo (d + 1) 68 [(0, .ref 49), (3, .int (nI n)), (4, .int (nI us)), (5, .int (nI s)), (6, .int (nI k - 1))] [] M Q
  | 0, m, M, e, hw, hx, h57, h => by
    have em : m = n := by omega
    subst em
    exact h M (fun _ _ => rfl) (fun _ _ => rfl) h57
  | k + 1, m, M, e, hw, hx, h57, h => by
    rw [dec_1 (by omega), Nat.add_sub_cancel]
    apply rX8_laysTo_68
    have em : n - (m + 1) = k := by omega
    rw [nI_clamp (show k < 2 ^ 31 by omega)]
    refine ⟨fun q => absurd q (nI_pos (by omega)), fun _ => c8_has _ us k _ _ (by omega) (by omega) ?_⟩
    have en : nI k + (-1) = nI k - 1 := (Int32.sub_eq_add_neg _ _).symm
    have skip : fpS wt n x us (m + 1) = fpS wt n x us m → BX8_laysTo (d + 1) 113 [(0, .ref 49), (3, .int (nI n)), (4, .int (nI us)), (5, .int (nI s)), (6, .int (nI k))] [.int (nI s), .ref 57] M Q := by
      intro es
      apply rX8_laysTo_113
      rw [nI_clamp (show s < 2 ^ 31 by omega), en]
      refine ⟨vp_in_nI (by omega) (by omega), vp_in_nI (by omega) (by omega), ?_⟩
      rintro M1 rfl
      refine c8_lt3 d n us s wt x Q h7 hu hs k (m + 1) _ (by omega) (fun i hi => by rw [upd2_off (by omega)]; exact hw i hi) (by rw [upd2_off (by omega)]; exact hx) (by rw [upd2_at, es]; exact h57) (fun M' g1 g2 g3 => h M' (fun q hq => by rw [g1 q hq, upd2_off hq]) (fun i hi => by rw [g2 i hi, upd2_row hi]) g3)
    by_cases c : us.testBit k = true
    · rw [if_pos c]
      refine ⟨fun _ => skip ?_, fun q => absurd q (by decide)⟩
      rw [fpS, em, if_neg (fun z => by rw [c] at z; exact absurd z.2 (by decide))]
    · rw [if_neg c]
      refine ⟨fun q => absurd rfl q, fun _ => ⟨vp_in_nI (by omega) (by omega), ?_⟩⟩
      rw [li_3, nI_add, nI_clamp (show 3 + s < 2 ^ 31 by omega), hx, hw k (by omega), nI_clamp (show s < 2 ^ 31 by omega), en]
      refine ⟨vp_in_nI (by omega) (by omega), fun q => skip ?_, fun q => ⟨vp_in_nI (by omega) (by omega), ?_⟩⟩
      · rw [fpS, em, if_neg (fun z => q z.1)]
      · rintro M1 rfl
        refine c8_lt3 d n us s wt x Q h7 hu hs k (m + 1) _ (by omega) (fun i hi => by rw [upd2_off (by omega)]; exact hw i hi) (by rw [upd2_off (by omega)]; exact hx) ?_ (fun M' g1 g2 g3 => h M' (fun q hq => by rw [g1 q hq, upd2_off hq]) (fun i hi => by rw [g2 i hi, upd2_row hi]) g3)
        rw [upd2_at, fpS, em, if_pos ⟨q, Bool.eq_false_iff.mpr c⟩]; rfl
theorem c8_lt2 (d n : Nat) (wt : Nat → Int32) (kd th : Nat → Nat) (stp ngt : Nat) (Q : Int32 → Mm → Prop) (h7 : n ≤ 7) : ∀ (k us : Nat) (M : Mm), k ≤ n → us < 128 → RgM M 0 n kd th stp ngt → (∀ i, i < n → M 58 i = wt i) → (match layS wt th n k us with | none => ∀ M', (∀ q, q ≠ 57 → M' q = M q) → Q 0 M' | some p => ∀ M', (∀ q, q ≠ 57 → M' q = M q) → (∀ i, i < n - k → M' 57 i = M 57 i) → (∀ i, n - k ≤ i → i < n → M' 57 i = nI (p i)) → Q 1 M') → BX8_laysTo (d + 1) 49 [(0, .ref 49), (3, .int (nI n)), (4, .int (nI us)), (5, .int (nI (n - k)))] [] M Q
  | 0, us, M, _, hu, hC, hw, h => by
    apply rX8_laysTo_49
    exact ⟨fun _ => h M (fun _ _ => rfl) (fun _ _ => rfl) (fun i h1 h2 => by omega), fun q => absurd (nI_le (by omega) (by omega)) q⟩
  | k + 1, us, M, hk, hu, hC, hw, h => by
    apply rX8_laysTo_49
    have e : n - (k + 1) + 1 = n - k := by omega
    have et : M 50 (0 + 3 + (n - (k + 1))) = nI (th (n - (k + 1))) := hC.2.2.2.1 (n - (k + 1)) (by omega)
    rw [Nat.zero_add] at et
    rw [nI_clamp (by omega)]
    refine ⟨fun q => absurd q (nI_ge (by omega) (by omega)), fun _ => ⟨vp_in_nI (by omega) (by omega), ?_⟩⟩
    rintro M1 rfl
    refine c8_lt3 d n us (n - (k + 1)) wt (nI (th (n - (k + 1)))) Q h7 hu (by omega) n 0 _ (by omega) (fun i hi => by rw [upd2_off (by omega)]; exact hw i hi) (by rw [upd2_off (by omega)]; exact et) (by rw [upd2_at]; rfl) (fun M2 g1 g2 g3 => ?_)
    apply rX8_laysTo_68
    rw [nI_clamp (by omega), g3]
    refine ⟨fun _ => ⟨vp_in_nI (by omega) (by omega), ?_⟩, fun q => absurd (by decide) q⟩
    have r1 : ∀ q, q ≠ 57 → M2 q = M q := fun q hq => by rw [g1 q hq, upd2_off hq]
    rw [layS] at h
    cases e1 : fpS wt n (nI (th (n - (k + 1)))) us n with
    | none =>
      rw [e1] at h
      exact ⟨fun q => absurd q (by decide), fun _ => h M2 r1⟩
    | some q =>
      rw [e1] at h g3
      have f := fpS_some (Nat.le_refl n) e1
      refine ⟨fun _ => ⟨vp_in_nI (by omega) (by omega), ?_⟩, fun z => absurd (nI_pos' (by omega)) z⟩
      show BX8_laysTo (d + 1) 49 [(0, .ref 49), (3, .int (nI n)), (4, .int (nI us ||| ishl 1 (nI q))), (5, .int (nI (n - (k + 1)) + 1))] [] M2 Q
      rw [orq (by omega), nI_1, e]
      refine c8_lt2 d n wt kd th stp ngt Q h7 k _ _ (by omega) (or_128 hu (by omega)) (RgM_c hC h7 (fun i _ _ => by rw [r1 50 (by omega)])) (fun i hi => by rw [r1 58 (by omega)]; exact hw i hi) ?_
      cases e2 : layS wt th n k (us ||| 2 ^ q) with
      | none =>
        dsimp only at h; rw [e2] at h
        exact fun M' g => h M' (fun q hq => by rw [g q hq, r1 q hq])
      | some p =>
        dsimp only at h; rw [e2] at h
        refine fun M' y1 y2 y3 => h M' (fun q hq => by rw [y1 q hq, r1 q hq]) (fun i hi => by rw [y2 i (by omega), g2 i (by omega), upd2_row (by omega)]) (fun i h1 h2 => ?_)
        dsimp only
        by_cases c : i = n - (k + 1)
        · rw [y2 i (by omega), c, g3, if_pos rfl]; rfl
        · rw [y3 i (by omega) h2, if_neg c]
theorem c8_lt1 (d n j a : Nat) (wt : Nat → Int32) (Q : Int32 → Mm → Prop) (h7 : n ≤ 7) (hj : j < 8) (ha : a + n ≤ 40) (us : Int32) : ∀ (k : Nat) (M : Mm), k ≤ n → (∀ i, i < n → M 54 (40 * j + (a + i)) = wt i) → (∀ i, i < n - k → M 58 i = wt i) → (∀ M', (∀ q, q ≠ 58 → M' q = M q) → (∀ i, i < n → M' 58 i = wt i) → BX8_laysTo (d + 1) 49 [(0, .ref 49), (3, .int (nI n)), (4, .int us), (5, .int 0)] [] M' Q) → BX8_laysTo (d + 1) 13 [(0, .ref 49), (1, .int (nI j)), (2, .int (nI a)), (3, .int (nI n)), (4, .int us), (5, .int (nI (n - k)))] [] M Q
  | 0, M, _, hr, hw, h => by
    apply rX8_laysTo_13
    exact ⟨fun _ => h M (fun _ _ => rfl) hw, fun q => absurd (nI_le (by omega) (by omega)) q⟩
  | k + 1, M, hk, hr, hw, h => by
    apply rX8_laysTo_13
    have e : n - (k + 1) + 1 = n - k := by omega
    rw [show ((40 : Int32) * nI j + nI a) + nI (n - (k + 1)) = nI (40 * j + (a + (n - (k + 1)))) by rw [li_40, pk_mul, nI_add, nI_add, Nat.add_assoc], nI_clamp (show n - (k + 1) < 2 ^ 31 by omega), nI_clamp (show 40 * j + (a + (n - (k + 1))) < 2 ^ 31 by omega), nI_1, e, hr _ (by omega)]
    refine ⟨fun q => absurd q (nI_ge (by omega) (by omega)), fun _ => ⟨vp_in_nI (by omega) (by omega), vp_in_nI (by omega) (by omega), ?_⟩⟩
    rintro M1 rfl
    refine c8_lt1 d n j a wt Q h7 hj ha us k _ (by omega) (fun i hi => by rw [upd2_off (by omega)]; exact hr i hi) (fun i hi => ?_) (fun M' g1 g2 => h M' (fun q hq => by rw [g1 q hq, upd2_off hq]) g2)
    by_cases c : i = n - (k + 1)
    · rw [c, upd2_at]
    · rw [upd2_row c]; exact hw i (by omega)
theorem c8_laysTo (d n j a : Nat) (wt : Nat → Int32) (kd th : Nat → Nat) (stp ngt : Nat) (M : Mm) (Q : Int32 → Mm → Prop) (h7 : n ≤ 7) (hj : j < 8) (ha : a + n ≤ 40) (hC : RgM M 0 n kd th stp ngt) (hr : ∀ i, i < n → M 54 (40 * j + (a + i)) = wt i) (h : match layS wt th n n 0 with | none => ∀ M', (∀ q, q ≠ 58 → q ≠ 57 → M' q = M q) → Q 0 M' | some p => ∀ M', (∀ q, q ≠ 58 → q ≠ 57 → M' q = M q) → (∀ i, i < n → M' 57 i = nI (p i)) → Q 1 M') : kX8_laysTo (d + 1) (nI j) (nI a) M Q := by
  apply rX8_laysTo
  have e0 : M 50 0 = nI n := hC.1
  rw [clamp0, e0]
  refine ⟨vp_in_nI (n := 0) (by omega) (by omega), ?_⟩
  have := c8_lt1 d n j a wt Q h7 hj ha 0 n M (Nat.le_refl _) hr (fun i hi => by omega) (fun M1 g1 g2 => ?_)
  · rw [Nat.sub_self] at this
    exact this
  · have := c8_lt2 d n wt kd th stp ngt Q h7 n 0 M1 (Nat.le_refl _) (by omega) (RgM_c hC h7 (fun i _ _ => by rw [g1 50 (by omega)])) g2 ?_
    · rw [Nat.sub_self] at this
      exact this
    · cases e : layS wt th n n 0 with
      | none =>
        rw [e] at h
        exact fun M' y => h M' (fun q h1 h2 => by rw [y q h2, g1 q h1])
      | some p =>
        rw [e] at h
        exact fun M' y1 y2 y3 => h M' (fun q h1 h2 => by rw [y1 q h2, g1 q h1]) (fun i hi => y3 i (by omega) hi)
