/-! SAINTS alike -/
theorem psS_ok {tp : Nat → Nat} {tz : Nat} : ∀ (f a n : Nat) (kd th : Nat → Nat) {n' : Nat} {kd' th' : Nat → Nat}, n + f = 8 → 1 ≤ f → okK n kd → okT n th → dis n th → psS tp tz f a n kd th = .inr (n', kd', th') → 2 ≤ n' ∧ n' ≤ 7 ∧ okK n' kd' ∧ okT n' th' ∧ dis n' th'
  | 0, a, n, kd, th, n', kd', th', e8, hf, hK, hT, hD, h => by omega
  | f + 1, a, n, kd, th, n', kd', th', e8, hf, hK, hT, hD, h => by
    rw [psS] at h
    by_cases c1 : tz ≤ a
    · rw [if_pos c1] at h
      by_cases c2 : 2 ≤ n
      · rw [if_pos c2] at h
        injection h with h
        injection h with h1 h2
        injection h2 with h2 h3
        subst h1 h2 h3
        exact ⟨c2, by omega, hK, hT, hD⟩
      · rw [if_neg c2] at h
        exact absurd h (by simp)
    rw [if_neg c1] at h
    by_cases c2 : kdO (tp a) = 0
    · rw [if_pos c2] at h; exact absurd h (by simp)
    rw [if_neg c2] at h
    by_cases c3 : n = 7
    · rw [if_pos c3] at h; exact absurd h (by simp)
    rw [if_neg c3] at h
    by_cases c4 : fgL tp tz (tz - (a + 1)) = 1 ∨ fgL tp tz (tz - (a + 1)) = 2
    case neg => rw [if_pos c4] at h; exact absurd h (by simp)
    rw [if_neg (fun z => z c4)] at h
    by_cases c5 : 9 < nmV tp (a + 1) (fgL tp tz (tz - (a + 1))) ∨ (nmV tp (a + 1) (fgL tp tz (tz - (a + 1))) ≠ 0 ∧ hasT th (nmV tp (a + 1) (fgL tp tz (tz - (a + 1)))) n = true)
    · rw [if_pos c5] at h; exact absurd h (by simp)
    rw [if_neg c5] at h
    by_cases c6 : a + 1 + fgL tp tz (tz - (a + 1)) < tz ∧ tp (a + 1 + fgL tp tz (tz - (a + 1))) = 59
    case neg => rw [if_pos c6] at h; exact absurd h (by simp)
    rw [if_neg (fun z => z c6)] at h
    have hasI := hasT_iff (v := nmV tp (a + 1) (fgL tp tz (tz - (a + 1)))) (th := th) n
    have kl := kdO_le (tp a)
    generalize nmV tp (a + 1) (fgL tp tz (tz - (a + 1))) = v at *
    have v9 : v ≤ 9 := by
      rcases Nat.lt_or_ge 9 v with z | z
      · exact absurd (Or.inl z) c5
      · exact z
    have hno : v ≠ 0 → ∀ i, i < n → th i ≠ v := fun z i hi w => c5 (Or.inr ⟨z, hasI.mpr ⟨i, hi, w⟩⟩)
    clear c5 hasI
    refine psS_ok f _ (n + 1) _ _ (by omega) (by omega) (fun i hi => ?_) (okT_up hT v9) (fun i j hi hj e ne => ?_) h
    · by_cases ci : i = n
      · rw [ci, updN_a]; omega
      · rw [updN_o ci]; exact hK i (by omega)
    · by_cases ci : i = n
      · by_cases cj : j = n
        · omega
        · rw [ci, updN_a, updN_o cj] at e
          rw [ci, updN_a] at ne
          exact absurd e.symm (hno ne j (by omega))
      · by_cases cj : j = n
        · rw [cj, updN_a, updN_o ci] at e
          rw [updN_o ci, e] at ne
          exact absurd e (hno ne i (by omega))
        · rw [updN_o ci, updN_o cj] at e
          rw [updN_o ci] at ne
          exact hD i j (by omega) (by omega) e ne
theorem psS_pl {tp : Nat → Nat} {tz : Nat} : ∀ (f a n : Nat) (kd th : Nat → Nat) {w pl : Nat}, a ≤ tz → psS tp tz f a n kd th = .inl (w, pl) → pl ≤ tz
  | 0, a, n, kd, th, w, pl, ha, h => by
    rw [psS] at h
    injection h with h
    injection h with h1 h2
    omega
  | f + 1, a, n, kd, th, w, pl, ha, h => by
    have fl := fgL_le tp tz (tz - (a + 1))
    rw [psS] at h
    by_cases c1 : tz ≤ a
    · rw [if_pos c1] at h
      by_cases c2 : 2 ≤ n
      · rw [if_pos c2] at h; exact absurd h (by simp)
      · rw [if_neg c2] at h
        injection h with h
        injection h with h1 h2
        omega
    rw [if_neg c1] at h
    split at h
    · injection h with h
      injection h with h1 h2
      omega
    split at h
    · injection h with h
      injection h with h1 h2
      omega
    split at h
    · injection h with h
      injection h with h1 h2
      omega
    split at h
    · injection h with h
      injection h with h1 h2
      omega
    split at h
    · injection h with h
      injection h with h1 h2
      omega
    rename_i c6
    have c6' := Classical.not_not.mp c6
    exact psS_pl f _ _ _ _ (by omega) h
theorem psT_pl {tp : Nat → Nat} {tz w pl : Nat} (h : psT tp tz = .inl (w, pl)) : pl ≤ tz := by
  have fl := fgL_le tp tz (tz - 1)
  unfold psT at h
  by_cases c1 : 0 < tz ∧ tp 0 = 114
  case neg =>
    rw [if_pos c1] at h
    injection h with h
    injection h with h1 h2
    omega
  rw [if_neg (fun z => z c1)] at h
  split at h
  · injection h with h
    injection h with h1 h2
    omega
  split at h
  · injection h with h
    injection h with h1 h2
    omega
  split at h
  · injection h with h
    injection h with h1 h2
    omega
  rename_i c6
  have c6' := Classical.not_not.mp c6
  cases e : psS tp tz 8 (1 + fgL tp tz (tz - 1) + 1) 0 (fun _ => 0) (fun _ => 0) with
  | inl x =>
    obtain ⟨w', pl'⟩ := x
    rw [e] at h
    injection h with h
    injection h with h1 h2
    subst h2
    exact psS_pl 8 _ _ _ _ (by omega) e
  | inr y => rw [e] at h; exact absurd h (by simp)
theorem psT_ok {tp : Nat → Nat} {tz ngt n : Nat} {kd th : Nat → Nat} (h : psT tp tz = .inr (ngt, n, kd, th)) : 1 ≤ ngt ∧ ngt ≤ 9 ∧ 2 ≤ n ∧ n ≤ 7 ∧ okK n kd ∧ okT n th ∧ dis n th := by
  unfold psT at h
  by_cases c1 : 0 < tz ∧ tp 0 = 114
  case neg => rw [if_pos c1] at h; exact absurd h (by simp)
  rw [if_neg (fun z => z c1)] at h
  by_cases c2 : fgL tp tz (tz - 1) = 1 ∨ fgL tp tz (tz - 1) = 2
  case neg => rw [if_pos c2] at h; exact absurd h (by simp)
  rw [if_neg (fun z => z c2)] at h
  by_cases c3 : 1 ≤ nmV tp 1 (fgL tp tz (tz - 1)) ∧ nmV tp 1 (fgL tp tz (tz - 1)) ≤ 9
  case neg => rw [if_pos c3] at h; exact absurd h (by simp)
  rw [if_neg (fun z => z c3)] at h
  by_cases c4 : 1 + fgL tp tz (tz - 1) < tz ∧ tp (1 + fgL tp tz (tz - 1)) = 59
  case neg => rw [if_pos c4] at h; exact absurd h (by simp)
  rw [if_neg (fun z => z c4)] at h
  cases e : psS tp tz 8 (1 + fgL tp tz (tz - 1) + 1) 0 (fun _ => 0) (fun _ => 0) with
  | inl x => rw [e] at h; exact absurd h (by simp)
  | inr y =>
    obtain ⟨n', kd', th'⟩ := y
    rw [e] at h
    injection h with h
    injection h with h1 h
    injection h with h2 h
    injection h with h3 h4
    subst h1 h2 h3 h4
    have := psS_ok 8 _ 0 _ _ (by omega) (by omega) (fun i hi => by omega) (fun i hi => by omega) (fun i j hi => by omega) e
    exact ⟨c3.1, c3.2, this⟩
theorem c8_all (d tz : Nat) (tp : Nat → Nat) (Mo M : Mm) (R : Int32 → Mm → Prop) (ho : tpOK tp tz) (hS : uS tp tz Mo M 0) (h0 : ∀ i, 68 ≤ i → i < 85 → M 50 i = 0) (h : match psT tp tz with | .inl (w, pl) => uF Mo R w pl | .inr (ngt, n, kd, th) => uO Mo R ngt n kd th) : kX8_takesAll (d + 3) M R := by
  have t50 := ho.1
  apply rX8_takesAll
  unfold psT at h
  refine c8_sgn _ 0 114 M _ ho (by omega) hS (by omega) (fun c1 => ?_) (fun c1 => ?_)
  case refine_2 =>
    rw [if_pos c1] at h
    exact fun M' x1 x2 x3 => ⟨fun _ => h M' x1 x2 x3, fun q => absurd rfl q⟩
  rw [if_neg (fun z => z c1)] at h
  refine ⟨fun q => absurd q (by decide), fun _ => ?_⟩
  have hS1 := uS_at (0 + 1) hS
  have h01 : ∀ i, 68 ≤ i → i < 85 → upd2 M 49 10 (nI (0 + 1)) 50 i = 0 := fun i a b => by rw [upd2_off (by omega)]; exact h0 i a b
  generalize upd2 M 49 10 (nI (0 + 1)) = M1 at *
  rw [show 0 + 1 = 1 from rfl] at hS1
  have := c8_num (d + 1) 1 1 9 0 M1 (fun r2 M2 => ((¬ r2 = 0 → vp_in 69 301 ∧ (∀ M3, M3 = (upd2 M2 50 (69 : Int32).toNatClampNeg (M2 49 12)) → kX8_takes (d + 2) 59 M3 (fun r3 M4 => ((¬ r3 = 0 → BX8_takesAll (d + 2 + 1) 44 [(0, .ref 49)] [] M4 R) ∧ (r3 = 0 → R 0 M4))))) ∧ (r2 = 0 → R 0 M2))) ho (by omega) (by omega) (by omega) (by omega) hS1 (fun c2 => ?_) (fun c2 c3 => ?_) (fun c2 c3 M2 hS2 h12 h50 => ?_)
  · exact this
  · rw [if_pos c2] at h
    exact fun M' x1 x2 x3 => ⟨fun q => absurd rfl q, fun _ => h M' x1 x2 x3⟩
  · rw [if_neg (fun z => z c2), if_pos (fun z => c3 ⟨z.1, z.2, Nat.zero_testBit _⟩)] at h
    exact fun M' x1 x2 x3 => ⟨fun q => absurd rfl q, fun _ => h M' x1 x2 x3⟩
  · rw [if_neg (fun z => z c2), if_neg (fun z => z ⟨c3.1, c3.2.1⟩)] at h
    have fl := fgL_le tp tz (tz - 1)
    refine ⟨fun _ => ⟨vp_in_nI (n := 69) (by omega) (by omega), ?_⟩, fun q => absurd q (by decide)⟩
    rw [c69, h12]
    rintro M3 rfl
    have hS3 := uS_50 69 (nI (nmV tp 1 (fgL tp tz (tz - 1)))) (by omega) hS2
    have o : ∀ i, 68 ≤ i → i < 85 → M2 50 i = 0 := fun i a b => by rw [h50]; exact h01 i a b
    have hR3 : RgM (upd2 M2 50 69 (nI (nmV tp 1 (fgL tp tz (tz - 1))))) 68 0 (fun _ => 0) (fun _ => 0) 0 (nmV tp 1 (fgL tp tz (tz - 1))) := by
      refine ⟨?_, upd2_at, ?_, fun i hi => by omega, fun i hi => by omega⟩
      · rw [upd2_row (by omega)]; exact o 68 (by omega) (by omega)
      · rw [upd2_row (by omega)]; exact o 70 (by omega) (by omega)
    generalize upd2 M2 50 69 (nI (nmV tp 1 (fgL tp tz (tz - 1)))) = M3 at *
    have := c8_sgn (d + 1) (1 + fgL tp tz (tz - 1)) 59 M3 (fun r3 M4 => ((¬ r3 = 0 → BX8_takesAll (d + 2 + 1) 44 [(0, .ref 49)] [] M4 R) ∧ (r3 = 0 → R 0 M4))) ho (by omega) hS3 (by omega) (fun c7 => ?_) (fun c7 => ?_)
    · exact this
    · rw [if_neg (fun z => z c7)] at h
      refine ⟨fun _ => ?_, fun q => absurd q (by decide)⟩
      refine c8_loop d tz _ tp Mo R ho 8 _ 0 (fun _ => 0) (fun _ => 0) _ (by omega) (by omega) (by omega) (uS_at _ hS3) (RgM_c hR3 (by omega) (fun i _ _ => by rw [upd2_off (by omega)])) (fun i hi => by omega) ?_
      cases e : psS tp tz 8 (1 + fgL tp tz (tz - 1) + 1) 0 (fun _ => 0) (fun _ => 0) with
      | inl x => rw [e] at h; exact h
      | inr y => rw [e] at h; exact h
    · rw [if_pos c7] at h
      exact fun M' x1 x2 x3 => ⟨fun q => absurd rfl q, fun _ => h M' x1 x2 x3⟩
theorem c8_clr (d : Nat) (Q : Int32 → Mm → Prop) : ∀ (k : Nat) (M : Mm), k ≤ 17 → (∀ i, 68 ≤ i → i < 85 - k → M 50 i = 0) → (∀ M', (∀ q, q ≠ 50 → M' q = M q) → (∀ i, (i < 68 ∨ 85 ≤ i) → M' 50 i = M 50 i) → (∀ i, 68 ≤ i → i < 85 → M' 50 i = 0) → BX8_saints (d + 1) 2 [(0, .ref 49), (1, .int (nI 17))] [] M' Q) → BX8_saints (d + 1) 2 [(0, .ref 49), (1, .int (nI (17 - k)))] [] M Q
  | 0, M, _, h0, h => h M (fun _ _ => rfl) (fun _ _ => rfl) h0
  | k + 1, M, hk, h0, h => by
    apply rX8_saints_2
    refine ⟨fun q => absurd q (by rw [li_17]; exact nI_ge (by omega) (by omega)), fun _ => ?_⟩
    rw [show (68 : Int32) + nI (17 - (k + 1)) = nI (68 + (17 - (k + 1))) by rw [li_68, nI_add], nI_clamp (by omega), nI_1, show 17 - (k + 1) + 1 = 17 - k by omega]
    refine ⟨vp_in_nI (by omega) (by omega), ?_⟩
    rintro M6 rfl
    refine c8_clr d Q k _ (by omega) (fun i a b => ?_) (fun M' g1 g2 g3 => h M' (fun q hq => by rw [g1 q hq, upd2_off hq]) (fun i hi => by rw [g2 i hi, upd2_row (by omega)]) g3)
    rw [upd2_r]
    by_cases c : i = 68 + (17 - (k + 1))
    · rw [if_pos c]
    · rw [if_neg c]; exact h0 i a (by omega)
theorem L_saints (M : Mm) (hI : Inv M) : kX7_saints 40 M (fun r1 M1 => kX8_saints 40 M1 (fun r2 M2 => r1 = r2 ∧ Inv M2)) := by
  obtain ⟨a, b, c, d, e, f⟩ := id hI
  obtain ⟨⟨tz, t50, b1, b2, b3⟩, b4, b5⟩ := b
  -- the bytes
  have hex : ∃ tp : Nat → Nat, tpOK tp tz ∧ TpC M tp tz ∧ ∀ i, i < tz → M 51 i = nI (tp i) := by
    refine ⟨fun i => (M 19 i).toNatClampNeg, ⟨t50, fun i hi => ?_⟩, ⟨b1, fun i hi => ?_⟩, fun i hi => ?_⟩
    · obtain ⟨cc, x1, x2, x3⟩ := b3 i hi
      dsimp only
      rw [x2, nI_clamp (by omega)]; exact x1
    · obtain ⟨cc, x1, x2, x3⟩ := b3 i hi
      dsimp only
      rw [x2, nI_clamp (by omega)]
    · obtain ⟨cc, x1, x2, x3⟩ := b3 i hi
      dsimp only
      rw [x2, nI_clamp (by omega), x3]
  obtain ⟨tp, ho, hT, h51⟩ := hex
  have head : ∀ (M1 : Mm) (Q : Int32 → Mm → Prop), M1 49 3 = nI tz → (∀ i, i < tz → M1 51 i = nI (tp i)) → (match psT tp tz with | .inl (w, pl) => ∀ M', frU M1 M' → M' 49 4 = nI w → M' 49 11 = nI pl → Q (-1000100 - nI pl) (upd2 M' 49 3 0) | .inr (ngt, n, kd, th) => ∀ M', frU M1 M' → M' 49 4 = M1 49 4 → RgM M' 68 n kd th 0 ngt → kX8_copyOf 39 68 0 17 (upd2 M' 49 3 0) (fun _ M4 => (∀ M5, M5 = (upd2 M4 49 1 0) → vp_in 0 301 ∧ Q (M5 50 0) M5))) → kX8_saints 40 M1 Q := by
    intro M1 Q x1 x2 h
    apply rX8_saints
    have := c8_clr 39 Q 17 M1 (Nat.le_refl _) (fun i a b => by omega) (fun M2 g1 g2 g3 => ?_)
    · exact this
    · apply rX8_saints_2
      refine ⟨fun _ => ?_, fun q => absurd (by decide) q⟩
      rintro M3 rfl
      have hS : uS tp tz M1 (upd2 M2 49 10 0) 0 := by
        refine ⟨⟨fun q a b => by rw [upd2_off a, g1 q b], fun i a b c e => by rw [upd2_row b, g1 49 (by omega)], fun i hi => by rw [upd2_off (by omega), g2 i hi]⟩, by rw [upd2_row (by omega), g1 49 (by omega)]; exact x1, fun i hi => by rw [upd2_off (by omega), g1 51 (by omega)]; exact x2 i hi, upd2_at, by rw [upd2_row (by omega), g1 49 (by omega)]⟩
      refine c8_all 36 tz tp M1 _ _ ho hS (fun i a b => by rw [upd2_off (by omega)]; exact g3 i a b) ?_
      cases ep : psT tp tz with
      | inl x =>
        obtain ⟨w, pl⟩ := x
        rw [ep] at h
        intro M' y1 y2 y3
        rintro M5 rfl
        refine ⟨fun q => absurd rfl q, fun _ => ?_⟩
        rw [upd2_row (by omega), y3]
        exact h M' y1 y2 y3
      | inr y =>
        obtain ⟨ngt, n, kd, th⟩ := y
        rw [ep] at h
        intro M' y1 y2 y3
        rintro M5 rfl
        exact ⟨fun _ => h M' y1 y2 y3, fun q => absurd q (by decide)⟩
  apply rX7_saints
  refine c6_read 33 tz tp M _ ho hT b5 ?_
  have lemI : ∀ (M2 : Mm) (w : Int32), (∀ q, q ≠ 18 → q ≠ 20 → q ≠ 21 → q ≠ 22 → q ≠ 49 → q ≠ 50 → M2 q = M q) → M2 18 3 = 0 → M2 18 4 = w → M2 20 3 = 0 → M2 49 3 = 0 → M2 49 4 = w → M2 49 1 = M 49 1 → M2 49 5 = M 49 5 → M2 49 22 = M 49 22 → (∀ i, (i < 68 ∨ 85 ≤ i) → M2 50 i = M 50 i) → Inv M2 := by
    intro M2 w r x1 x2 x3 x4 x5 x6 x7 x8 x9
    have rr : ∀ q, q ≠ 18 → q ≠ 20 → q ≠ 21 → q ≠ 22 → q < 49 → M2 q = M q := fun q a b c d e => r q a b c d (by omega) (by omega)
    refine ⟨I_rows_c a (fun k _ _ => rr k (by omega) (by omega) (by omega) (by omega) (by omega)) (r 52 (by omega) (by omega) (by omega) (by omega) (by omega) (by omega)) (r 53 (by omega) (by omega) (by omega) (by omega) (by omega) (by omega)) (r 54 (by omega) (by omega) (by omega) (by omega) (by omega) (by omega)), ⟨⟨0, by omega, x1, x4, fun i hi => by omega⟩, by rw [x2, x5], x3⟩, I_ra_c c (rr 23 (by omega) (by omega) (by omega) (by omega) (by omega)) (rr 24 (by omega) (by omega) (by omega) (by omega) (by omega)) (rr 25 (by omega) (by omega) (by omega) (by omega) (by omega)) (rr 36 (by omega) (by omega) (by omega) (by omega) (by omega)) (rr 37 (by omega) (by omega) (by omega) (by omega) (by omega)) (rr 38 (by omega) (by omega) (by omega) (by omega) (by omega)) (rr 39 (by omega) (by omega) (by omega) (by omega) (by omega)) x6 (fun i hi => x9 i (by omega)), I_img_c d (fun k _ _ => rr k (by omega) (by omega) (by omega) (by omega) (by omega)) (fun i _ _ => x9 i (by omega)), ?_, I_trc_c f (by rw [rr 46 (by omega) (by omega) (by omega) (by omega) (by omega)]) x8 (rr 47 (by omega) (by omega) (by omega) (by omega) (by omega)) (r 64 (by omega) (by omega) (by omega) (by omega) (by omega) (by omega))⟩
    show M2 0 10 = M2 49 5
    rw [rr 0 (by omega) (by omega) (by omega) (by omega) (by omega), x7]; exact e
  cases ep : psT tp tz with
  | inl x =>
    obtain ⟨w, pl⟩ := x
    intro M1 y1 y2 y3 y4
    have pl50 : pl < 2 ^ 31 := by have := psT_pl ep; omega
    refine ⟨fun q => absurd q (nI_pos pl50), fun _ => ?_⟩
    have o49 : M1 49 = M 49 := y1 49 (by omega) (by omega) (by omega) (by omega)
    refine head M1 _ (by rw [o49]; exact b2) (fun i hi => by rw [y1 51 (by omega) (by omega) (by omega) (by omega)]; exact h51 i hi) ?_
    rw [ep]
    intro M2 z1 z2 z3
    refine ⟨rfl, lemI _ (nI w) (fun q a b c d e f => by rw [upd2_off e, z1.1 q e f, y1 q a b c d]) ?_ ?_ ?_ upd2_at ?_ ?_ ?_ ?_ (fun i hi => ?_)⟩
    · rw [upd2_off (by omega), z1.1 18 (by omega) (by omega)]; exact y2
    · rw [upd2_off (by omega), z1.1 18 (by omega) (by omega)]; exact y3
    · rw [upd2_off (by omega), z1.1 20 (by omega) (by omega)]; exact y4
    · rw [upd2_row (by omega)]; exact z2
    · rw [upd2_row (by omega), z1.2.1 1 (by omega) (by omega) (by omega) (by omega), o49]
    · rw [upd2_row (by omega), z1.2.1 5 (by omega) (by omega) (by omega) (by omega), o49]
    · rw [upd2_row (by omega), z1.2.1 22 (by omega) (by omega) (by omega) (by omega), o49]
    · rw [upd2_off (by omega), z1.2.2 i hi, y1 50 (by omega) (by omega) (by omega) (by omega)]
  | inr y =>
    obtain ⟨ngt, n, kd, th⟩ := y
    have ok := psT_ok ep
    have h7 := ok.2.2.2.1
    intro M1 y1 y2 y3 y4
    refine ⟨fun _ => ?_, fun q => absurd (by decide) q⟩
    refine c4_become _ 23 20 rg23 rg20 (by omega) n kd th 0 ngt M1 _ y4 h7 (fun M2 g1 g2 => ?_)
    apply rX0_forget
    rintro M3 rfl M4 rfl
    have o : ∀ q, q ≠ 36 → (upd2 (upd2 M2 36 3 0) 36 4 0) q = M2 q := fun q hq => by rw [upd2_off hq, upd2_off hq]
    have e36 : (upd2 (upd2 M2 36 3 0) 36 4 0) 36 3 = 0 ∧ (upd2 (upd2 M2 36 3 0) 36 4 0) 36 4 = 0 := ⟨by rw [upd2_row (by omega), upd2_at], upd2_at⟩
    generalize (upd2 (upd2 M2 36 3 0) 36 4 0) = M4 at *
    have o2 : ∀ q, q ≠ 36 → q ≠ 23 → q ≠ 24 → q ≠ 25 → M4 q = M1 q := fun q a b c d => by rw [o q a, g2 q b c d]
    have o3 : ∀ q, q ≠ 18 → q ≠ 20 → q ≠ 21 → q ≠ 22 → q ≠ 36 → q ≠ 23 → q ≠ 24 → q ≠ 25 → M4 q = M q := fun q a b c d e f g h => by rw [o2 q e f g h, y1 q a b c d]
    have o49 : M4 49 = M 49 := o3 49 (by omega) (by omega) (by omega) (by omega) (by omega) (by omega) (by omega) (by omega)
    have hC4 : RgC M4 23 n kd th 0 ngt := RgC_c g1 (o _ (by omega)) (o _ (by omega)) (o _ (by omega))
    rw [hC4.1]
    refine head M4 _ (by rw [o49]; exact b2) (fun i hi => by rw [o3 51 (by omega) (by omega) (by omega) (by omega) (by omega) (by omega) (by omega) (by omega)]; exact h51 i hi) ?_
    rw [ep]
    intro M5 z1 z2 z3
    have cpy := c8_copyOf 39 68 0 17 (by omega) (by omega) (by omega) (fun _ M6 => (∀ M7, M7 = (upd2 M6 49 1 0) → vp_in 0 301 ∧ nI n = M7 50 0 ∧ Inv M7)) (upd2 M5 49 3 0) ?_
    · exact cpy
    rintro M7 rfl
    refine ⟨vp_in_nI (n := 0) (by omega) (by omega), ?_⟩
    have hR5 : RgM (upd2 M5 49 3 0) 68 n kd th 0 ngt := RgM_c z3 h7 (fun i _ _ => by rw [upd2_off (by omega)])
    have hR6 := RgM_cp (b := 0) hR5 h7
    have hR7 : RgM (upd2 (cpW (upd2 M5 49 3 0) 68 0 17) 49 1 0) 0 n kd th 0 ngt := RgM_c hR6 h7 (fun i _ _ => by rw [upd2_off (by omega)])
    have p : ∀ q, q ≠ 49 → q ≠ 50 → (upd2 (cpW (upd2 M5 49 3 0) 68 0 17) 49 1 0) q = M4 q := fun q a b => by rw [upd2_off a, cpW_off b, upd2_off a, z1.1 q a b]
    have p49 : ∀ i, i ≠ 1 → i ≠ 3 → i ≠ 4 → i ≠ 10 → i ≠ 11 → i ≠ 12 → (upd2 (cpW (upd2 M5 49 3 0) 68 0 17) 49 1 0) 49 i = M 49 i := fun i a b c d e f => by rw [upd2_row a, cpW_off (by omega), upd2_row b, z1.2.1 i c d e f, o49]
    have p3 : (upd2 (cpW (upd2 M5 49 3 0) 68 0 17) 49 1 0) 49 3 = 0 := by rw [upd2_row (by omega), cpW_off (by omega), upd2_at]
    have p4 : (upd2 (cpW (upd2 M5 49 3 0) 68 0 17) 49 1 0) 49 4 = M 49 4 := by rw [upd2_row (by omega), cpW_off (by omega), upd2_row (by omega), z2, o49]
    have p1 : (upd2 (cpW (upd2 M5 49 3 0) 68 0 17) 49 1 0) 49 1 = 0 := upd2_at
    have p50 : ∀ i, 17 ≤ i → (i < 68 ∨ 85 ≤ i) → (upd2 (cpW (upd2 M5 49 3 0) 68 0 17) 49 1 0) 50 i = M 50 i := fun i hi hj => by rw [upd2_off (by omega), cpW_out (by omega), upd2_off (by omega), z1.2.2 i hj, o3 50 (by omega) (by omega) (by omega) (by omega) (by omega) (by omega) (by omega) (by omega)]
    generalize (upd2 (cpW (upd2 M5 49 3 0) 68 0 17) 49 1 0) = M7 at *
    refine ⟨hR7.1.symm, ?_⟩
    have pp : ∀ q, q ≠ 18 → q ≠ 20 → q ≠ 21 → q ≠ 22 → q ≠ 36 → q ≠ 23 → q ≠ 24 → q ≠ 25 → q ≠ 49 → q ≠ 50 → M7 q = M q := fun q a b c d e f g h i j => by rw [p q i j, o3 q a b c d e f g h]
    have q18 : M7 18 = M1 18 := by rw [p 18 (by omega) (by omega), o2 18 (by omega) (by omega) (by omega) (by omega)]
    have q20 : M7 20 = M1 20 := by rw [p 20 (by omega) (by omega), o2 20 (by omega) (by omega) (by omega) (by omega)]
    have hC7 : RgC M7 23 n kd th 0 ngt := RgC_c hC4 (p _ (by omega) (by omega)) (p _ (by omega) (by omega)) (p _ (by omega) (by omega))
    refine ⟨I_rows_c a (fun k _ _ => pp k (by omega) (by omega) (by omega) (by omega) (by omega) (by omega) (by omega) (by omega) (by omega) (by omega)) (pp 52 (by omega) (by omega) (by omega) (by omega) (by omega) (by omega) (by omega) (by omega) (by omega) (by omega)) (pp 53 (by omega) (by omega) (by omega) (by omega) (by omega) (by omega) (by omega) (by omega) (by omega) (by omega)) (pp 54 (by omega) (by omega) (by omega) (by omega) (by omega) (by omega) (by omega) (by omega) (by omega) (by omega)), ⟨⟨0, by omega, by rw [q18]; exact y2, p3, fun i hi => by omega⟩, by rw [q18, p4, y3]; exact b4, by rw [q20]; exact y4.2.1⟩, ⟨n, kd, th, 0, ngt, hC7, hR7, Or.inr ⟨ok.2.2.1, h7, ok.2.2.2.2.1, ok.2.2.2.2.2.1, ok.2.2.2.2.2.2, by omega, ok.1, ok.2.1⟩, ⟨0, fun _ => (fun _ => 0, 0, 0), ⟨0, by omega, by rw [p 36 (by omega) (by omega)]; exact e36.1, by rw [p 36 (by omega) (by omega)]; exact e36.2, fun x hx => by omega⟩, ⟨p1, fun x hx => by omega⟩, ⟨by omega, fun hx => by omega, fun x hx => by omega⟩⟩⟩, I_img_c d (fun k _ _ => pp k (by omega) (by omega) (by omega) (by omega) (by omega) (by omega) (by omega) (by omega) (by omega) (by omega)) (fun i _ _ => p50 i (by omega) (by omega)), ?_, I_trc_c f (by rw [pp 46 (by omega) (by omega) (by omega) (by omega) (by omega) (by omega) (by omega) (by omega) (by omega) (by omega)]) (p49 22 (by omega) (by omega) (by omega) (by omega) (by omega) (by omega)) (pp 47 (by omega) (by omega) (by omega) (by omega) (by omega) (by omega) (by omega) (by omega) (by omega) (by omega)) (pp 64 (by omega) (by omega) (by omega) (by omega) (by omega) (by omega) (by omega) (by omega) (by omega) (by omega))⟩
    show M7 0 10 = M7 49 5
    rw [pp 0 (by omega) (by omega) (by omega) (by omega) (by omega) (by omega) (by omega) (by omega) (by omega) (by omega), p49 5 (by omega) (by omega) (by omega) (by omega) (by omega) (by omega)]
    exact e
