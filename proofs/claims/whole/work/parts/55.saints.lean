/-! SAINTS: the reference's saints, and both alike -/
def tmS (th : Nat → Nat) : Nat → Nat
  | 0 => 0
  | k + 1 => tmS th k ||| (if th k = 0 then 0 else 2 ^ th k)
theorem tm_bit : ∀ t, t < 10 → (ishl 1 (nI t)) &&& -2 = nI (if t = 0 then 0 else 2 ^ t) := by decide +kernel
theorem tm_lt : ∀ t, t < 10 → (if t = 0 then 0 else 2 ^ t) < 2 ^ 10 := by decide +kernel
theorem tmS_lt {th : Nat → Nat} : ∀ n, okT n th → tmS th n < 2 ^ 10
  | 0, _ => by rw [tmS]; omega
  | n + 1, h => by
    rw [tmS]
    have := h n (by omega)
    exact Nat.or_lt_two_pow (tmS_lt n (fun i hi => h i (by omega))) (tm_lt (th n) (by omega))
theorem tmS_has {th : Nat → Nat} {v : Nat} : ∀ n, okT n th → ((tmS th n).testBit v = true ↔ v ≠ 0 ∧ hasT th v n = true)
  | 0, _ => by rw [tmS, hasT, Nat.zero_testBit]; simp
  | n + 1, h => by
    rw [tmS, hasT, Nat.testBit_or, Bool.or_eq_true, Bool.or_eq_true, tmS_has n (fun i hi => h i (by omega)), decide_eq_true_eq]
    by_cases c : th n = 0
    · rw [if_pos c, Nat.zero_testBit]
      constructor
      · rintro (z | z)
        · exact ⟨z.1, Or.inr z.2⟩
        · exact absurd z (by decide)
      · rintro ⟨z1, z2 | z2⟩
        · exact absurd (by rw [← z2]; exact c) z1
        · exact Or.inl ⟨z1, z2⟩
    · rw [if_neg c, Nat.testBit_two_pow, decide_eq_true_eq]
      constructor
      · rintro (z | z)
        · exact ⟨z.1, Or.inr z.2⟩
        · exact ⟨by omega, Or.inl z⟩
      · rintro ⟨z1, z2 | z2⟩
        · exact Or.inr z2
        · exact Or.inl ⟨z1, z2⟩
theorem c8_kO (d c : Nat) (M : Mm) (R : Int32 → Mm → Prop) (hc : c < 256) (h : R (nI (kdO c)) M) : kX8_kindOf d (nI c) M R := by
  apply rX8_kindOf
  rw [show (103 : Int32) = nI 103 from rfl, show (115 : Int32) = nI 115 from rfl, show (112 : Int32) = nI 112 from rfl, show (104 : Int32) = nI 104 from rfl, show (111 : Int32) = nI 111 from rfl]
  simp (disch := omega) only [nI_eq]
  unfold kdO at h
  refine ⟨fun q1 => ?_, fun q => by rw [if_pos q] at h; exact h⟩
  rw [if_neg q1] at h
  refine ⟨fun q2 => ?_, fun q => by rw [if_pos q] at h; exact h⟩
  rw [if_neg q2] at h
  refine ⟨fun q3 => ?_, fun q => by rw [if_pos q] at h; exact h⟩
  rw [if_neg q3] at h
  refine ⟨fun q4 => ?_, fun q => by rw [if_pos q] at h; exact h⟩
  rw [if_neg q4] at h
  refine ⟨fun q5 => ?_, fun q => by rw [if_pos q] at h; exact h⟩
  rw [if_neg q5] at h
  exact h
theorem c68 : (68 : Int32).toNatClampNeg = 68 := rfl
theorem c69 : (69 : Int32).toNatClampNeg = 69 := rfl
theorem c8_told (d n : Nat) (kd th : Nat → Nat) (ngt : Nat) (v2 : Int32) (M : Mm) (R : Int32 → Mm → Prop) (h7 : n ≤ 7) (hT : okT n th) (hR : RgM M 68 n kd th 0 ngt) (h : BX8_takesSaint (d + 1) 61 [(0, .ref 49), (1, .int (nI n)), (2, .int v2), (3, .int (nI (tmS th n))), (4, .int (nI n))] [] M R) : ∀ k, k ≤ n → BX8_takesSaint (d + 1) 61 [(0, .ref 49), (1, .int (nI n)), (2, .int v2), (3, .int (nI (tmS th (n - k)))), (4, .int (nI (n - k)))] [] M R
  | 0, _ => h
  | k + 1, hk => by
    apply rX8_takesSaint_61
    have et : M 50 (68 + 3 + (n - (k + 1))) = nI (th (n - (k + 1))) := hR.2.2.2.1 _ (by omega)
    have bt := hT (n - (k + 1)) (by omega)
    refine ⟨fun q => absurd q (nI_ge (by omega) (by omega)), fun _ => ?_⟩
    rw [show (71 : Int32) + nI (n - (k + 1)) = nI (68 + 3 + (n - (k + 1))) by rw [show (71 : Int32) = nI 71 from rfl, nI_add], nI_clamp (by omega), et, tm_bit _ (by omega), fa_or, nI_1]
    refine ⟨vp_in_nI (by omega) (by omega), ?_⟩
    have := c8_told d n kd th ngt v2 M R h7 hT hR h k (by omega)
    rw [show n - k = n - (k + 1) + 1 by omega, tmS] at this
    exact this
theorem c8_loop (d tz ngt : Nat) (tp : Nat → Nat) (Mo : Mm) (R : Int32 → Mm → Prop) (ho : tpOK tp tz) : ∀ (f a n : Nat) (kd th : Nat → Nat) (M : Mm), n + f = 8 → 1 ≤ f → a ≤ tz → uS tp tz Mo M a → RgM M 68 n kd th 0 ngt → okT n th → (match psS tp tz f a n kd th with | .inl (w, pl) => uF Mo R w pl | .inr (n', kd', th') => uO Mo R ngt n' kd' th') → BX8_takesAll (d + 3) 44 [(0, .ref 49)] [] M R
  | 0, a, n, kd, th, M, e8, hf, ha, hS, hR, hT, h => by omega
  | f + 1, a, n, kd, th, M, e8, hf, ha, hS, hR, hT, h => by
    have t50 := ho.1
    have h7 : n ≤ 7 := by omega
    have e68 : M 50 68 = nI n := hR.1
    rw [psS] at h
    have v68 : vp_in 68 301 := vp_in_nI (n := 68) (by omega) (by omega)
    -- a saint, or its want
    have saint : (¬ (tz ≤ a) ∨ ¬ 2 ≤ n) → BX8_takesAll (d + 3) 66 [(0, .ref 49)] [] M R := by
      intro w
      apply rX8_takesAll_66
      apply rX8_takesSaint
      rw [c68, e68]
      refine ⟨v68, c8_here _ a M _ ho hS ha (fun c1 => ?_) (fun c1 => ?_)⟩
      case refine_2 =>
        rw [if_pos (by omega), if_neg (by omega)] at h
        apply rX8_kindOf
        refine ⟨fun _ => ⟨fun _ => ⟨fun _ => ⟨fun _ => ⟨fun _ => ?_, fun q => absurd q (by decide)⟩, fun q => absurd q (by decide)⟩, fun q => absurd q (by decide)⟩, fun q => absurd q (by decide)⟩, fun q => absurd q (by decide)⟩
        refine ⟨fun q => absurd rfl q, fun _ => ?_⟩
        rw [hS.2.2.2.1]
        exact c8_fl _ 1 a M (fun r1 M1 => ((¬ r1 = 0 → BX8_takesAll (d + 2 + 1) 44 [(0, .ref 49)] [] M1 R) ∧ (r1 = 0 → R 0 M1))) hS (fun M' x1 x2 x3 => ⟨fun q => absurd rfl q, fun _ => h M' x1 x2 x3⟩)
      rw [if_neg (by omega)] at h
      have bt := ho.2 a c1
      have kl := kdO_le (tp a)
      refine c8_kO _ (tp a) M _ bt ?_
      have fail : ∀ (x : Nat) (wq pl : Nat) (M1 : Mm), uS tp tz Mo M1 x → uF Mo R wq pl → uF Mo (fun r1 M1 => ((¬ r1 = 0 → BX8_takesAll (d + 2 + 1) 44 [(0, .ref 49)] [] M1 R) ∧ (r1 = 0 → R 0 M1))) wq pl := fun x wq pl M1 _ h M' x1 x2 x3 => ⟨fun q => absurd rfl q, fun _ => h M' x1 x2 x3⟩
      rw [hS.2.2.2.1, li_0, show (7 : Int32) = nI 7 from rfl]
      simp (disch := omega) only [nI_eq]
      by_cases c2 : kdO (tp a) = 0
      · rw [if_pos c2] at h
        exact ⟨fun q => absurd c2 q, fun _ => c8_fl _ 1 a M _ hS (fail a 1 a M hS h)⟩
      rw [if_neg c2] at h
      refine ⟨fun _ => ?_, fun q => absurd q c2⟩
      by_cases c3 : n = 7
      · rw [if_pos c3] at h
        exact ⟨fun q => absurd c3 q, fun _ => c8_fl _ 3 a M _ hS (fail a 3 a M hS h)⟩
      rw [if_neg c3] at h
      refine ⟨fun _ => ?_, fun q => absurd q c3⟩
      rw [nI_1]
      rintro M3 rfl
      have hS1 := uS_at (a + 1) hS
      have hR1 : RgM (upd2 M 49 10 (nI (a + 1))) 68 n kd th 0 ngt := RgM_c hR h7 (fun i _ _ => by rw [upd2_off (by omega)])
      generalize upd2 M 49 10 (nI (a + 1)) = M1 at *
      have := c8_told (d + 1) n kd th ngt (nI (kdO (tp a))) M1 (fun r1 M1 => ((¬ r1 = 0 → BX8_takesAll (d + 2 + 1) 44 [(0, .ref 49)] [] M1 R) ∧ (r1 = 0 → R 0 M1))) h7 hT hR1 ?_ n (Nat.le_refl n)
      · rw [Nat.sub_self] at this
        exact this
      apply rX8_takesSaint_61
      refine ⟨fun _ => ?_, fun q => absurd (nI_le (by omega) (by omega)) q⟩
      have tlt := tmS_lt n hT
      have th1 := tmS_has (v := nmV tp (a + 1) (fgL tp tz (tz - (a + 1)))) n hT
      refine c8_num d (a + 1) 0 9 (tmS th n) M1 _ ho (by omega) (by omega) (by omega) (by omega) hS1 (fun c4 => ?_) (fun c4 c5 => ?_) (fun c4 c5 M2 hS2 h12 h50 => ?_)
      · rw [if_pos c4] at h
        exact fun M' x1 x2 x3 => ⟨fun q => absurd rfl q, fun _ => ⟨fun q => absurd rfl q, fun _ => h M' x1 x2 x3⟩⟩
      · rw [if_neg (fun z => z c4), if_pos ?_] at h
        · exact fun M' x1 x2 x3 => ⟨fun q => absurd rfl q, fun _ => ⟨fun q => absurd rfl q, fun _ => h M' x1 x2 x3⟩⟩
        · rcases Nat.lt_or_ge 9 (nmV tp (a + 1) (fgL tp tz (tz - (a + 1)))) with z | z
          · exact Or.inl z
          · right
            apply th1.mp
            cases eb : (tmS th n).testBit (nmV tp (a + 1) (fgL tp tz (tz - (a + 1)))) with
            | true => rfl
            | false => exact absurd ⟨Nat.zero_le _, z, eb⟩ c5
      · have nb : ¬ (nmV tp (a + 1) (fgL tp tz (tz - (a + 1))) ≠ 0 ∧ hasT th (nmV tp (a + 1) (fgL tp tz (tz - (a + 1)))) n = true) := fun z => by
          have := th1.mpr z
          rw [c5.2.2] at this
          exact absurd this (by decide)
        rw [if_neg (fun z => z c4), if_neg (fun z => z.elim (fun z => absurd c5.2.1 (by omega)) nb)] at h
        have fl := fgL_le tp tz (tz - (a + 1))
        have v9 := c5.2.1
        clear nb th1 c5
        generalize nmV tp (a + 1) (fgL tp tz (tz - (a + 1))) = v at *
        refine ⟨fun _ => ?_, fun q => absurd q (by decide)⟩
        rw [show (78 : Int32) + nI n = nI (78 + n) by rw [show (78 : Int32) = nI 78 from rfl, nI_add], show (71 : Int32) + nI n = nI (71 + n) by rw [show (71 : Int32) = nI 71 from rfl, nI_add], nI_clamp (show 78 + n < 2 ^ 31 by omega), nI_clamp (show 71 + n < 2 ^ 31 by omega), c68]
        refine ⟨vp_in_nI (by omega) (by omega), ?_⟩
        rintro M3 rfl
        refine ⟨vp_in_nI (by omega) (by omega), ?_⟩
        have e12 : upd2 M2 50 (78 + n) (nI (kdO (tp a))) 49 12 = nI v := by rw [upd2_off (by omega)]; exact h12
        rw [e12]
        rintro M4 rfl
        refine ⟨v68, v68, ?_⟩
        have o50 : ∀ i, M2 50 i = M1 50 i := fun i => by rw [h50]
        have en : upd2 (upd2 M2 50 (78 + n) (nI (kdO (tp a)))) 50 (71 + n) (nI v) 50 68 = nI n := by rw [upd2_row (by omega), upd2_row (by omega), o50]; exact hR1.1
        rw [en, nI_1]
        rintro M5 rfl
        have hS3 : uS tp tz Mo (upd2 (upd2 (upd2 M2 50 (78 + n) (nI (kdO (tp a)))) 50 (71 + n) (nI v)) 50 68 (nI (n + 1))) (a + 1 + fgL tp tz (tz - (a + 1))) := uS_50 68 _ (by omega) (uS_50 (71 + n) _ (by omega) (uS_50 (78 + n) _ (by omega) hS2))
        have hR3 : RgM (upd2 (upd2 (upd2 M2 50 (78 + n) (nI (kdO (tp a)))) 50 (71 + n) (nI v)) 50 68 (nI (n + 1))) 68 (n + 1) (updN kd n (kdO (tp a))) (updN th n v) 0 ngt := by
          refine ⟨upd2_at, ?_, ?_, fun i hi => ?_, fun i hi => ?_⟩
          · rw [upd2_row (by omega), upd2_row (by omega), upd2_row (by omega), o50]; exact hR1.2.1
          · rw [upd2_row (by omega), upd2_row (by omega), upd2_row (by omega), o50]; exact hR1.2.2.1
          · rw [upd2_row (by omega), upd2_r]
            unfold updN
            by_cases ci : i = n
            · rw [if_pos (by omega), if_pos ci]
            · rw [if_neg (by omega), if_neg ci, upd2_row (by omega), o50]; exact hR1.2.2.2.1 i (by omega)
          · rw [upd2_row (by omega), upd2_row (by omega), upd2_r]
            unfold updN
            by_cases ci : i = n
            · rw [if_pos (by omega), if_pos ci]
            · rw [if_neg (by omega), if_neg ci, o50]; exact hR1.2.2.2.2 i (by omega)
        generalize (upd2 (upd2 (upd2 M2 50 (78 + n) (nI (kdO (tp a)))) 50 (71 + n) (nI v)) 50 68 (nI (n + 1))) = M3 at *
        refine c8_sgn d (a + 1 + fgL tp tz (tz - (a + 1))) 59 M3 _ ho (by omega) hS3 (by omega) (fun c7 => ?_) (fun c7 => ?_)
        · rw [if_neg (fun z => z c7)] at h
          refine ⟨Or.inr rfl, fun _ => ?_, fun q => absurd q (by decide)⟩
          exact c8_loop d tz ngt tp Mo R ho f _ (n + 1) _ _ _ (by omega) (by omega) (by omega) (uS_at _ hS3) (RgM_c hR3 (by omega) (fun i _ _ => by rw [upd2_off (by omega)])) (okT_up hT v9) h
        · rw [if_pos c7] at h
          exact fun M' x1 x2 x3 => ⟨Or.inl rfl, fun q => absurd rfl q, fun _ => h M' x1 x2 x3⟩
    apply rX8_takesAll_44
    rw [c68, e68, hS.2.1, hS.2.2.2.1, li_2]
    simp (disch := omega) only [nI_ltI, nI_leI]
    refine ⟨v68, fun q => saint (Or.inr (by omega)), fun q => ⟨fun q2 => ?_, fun q2 => saint (Or.inl q2)⟩⟩
    rw [if_pos q2, if_pos (by omega)] at h
    exact h M hS.1 hS.2.2.2.2 hR
