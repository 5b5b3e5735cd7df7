/-! SLEEP -/
theorem bits_eq : ∀ a, a < 128 → (((((((((nI a) - ((iushr (nI a) (1 : Int32)) &&& (1431655765 : Int32))) &&& (858993459 : Int32)) + ((iushr ((nI a) - ((iushr (nI a) (1 : Int32)) &&& (1431655765 : Int32))) (2 : Int32)) &&& (858993459 : Int32))) + (iushr ((((nI a) - ((iushr (nI a) (1 : Int32)) &&& (1431655765 : Int32))) &&& (858993459 : Int32)) + ((iushr ((nI a) - ((iushr (nI a) (1 : Int32)) &&& (1431655765 : Int32))) (2 : Int32)) &&& (858993459 : Int32))) (4 : Int32))) &&& (252645135 : Int32)) + (iushr ((((((nI a) - ((iushr (nI a) (1 : Int32)) &&& (1431655765 : Int32))) &&& (858993459 : Int32)) + ((iushr ((nI a) - ((iushr (nI a) (1 : Int32)) &&& (1431655765 : Int32))) (2 : Int32)) &&& (858993459 : Int32))) + (iushr ((((nI a) - ((iushr (nI a) (1 : Int32)) &&& (1431655765 : Int32))) &&& (858993459 : Int32)) + ((iushr ((nI a) - ((iushr (nI a) (1 : Int32)) &&& (1431655765 : Int32))) (2 : Int32)) &&& (858993459 : Int32))) (4 : Int32))) &&& (252645135 : Int32)) (8 : Int32))) + (iushr (((((((nI a) - ((iushr (nI a) (1 : Int32)) &&& (1431655765 : Int32))) &&& (858993459 : Int32)) + ((iushr ((nI a) - ((iushr (nI a) (1 : Int32)) &&& (1431655765 : Int32))) (2 : Int32)) &&& (858993459 : Int32))) + (iushr ((((nI a) - ((iushr (nI a) (1 : Int32)) &&& (1431655765 : Int32))) &&& (858993459 : Int32)) + ((iushr ((nI a) - ((iushr (nI a) (1 : Int32)) &&& (1431655765 : Int32))) (2 : Int32)) &&& (858993459 : Int32))) (4 : Int32))) &&& (252645135 : Int32)) + (iushr ((((((nI a) - ((iushr (nI a) (1 : Int32)) &&& (1431655765 : Int32))) &&& (858993459 : Int32)) + ((iushr ((nI a) - ((iushr (nI a) (1 : Int32)) &&& (1431655765 : Int32))) (2 : Int32)) &&& (858993459 : Int32))) + (iushr ((((nI a) - ((iushr (nI a) (1 : Int32)) &&& (1431655765 : Int32))) &&& (858993459 : Int32)) + ((iushr ((nI a) - ((iushr (nI a) (1 : Int32)) &&& (1431655765 : Int32))) (2 : Int32)) &&& (858993459 : Int32))) (4 : Int32))) &&& (252645135 : Int32)) (8 : Int32))) (16 : Int32))) &&& (63 : Int32)) = nI (fb_ct (fun k => a.testBit k) 7) := by decide +kernel
theorem cJ_bits (d a : Nat) (M : Mm) (Q : Int32 → Mm → Prop) (ha : a < 128) (h : Q (nI (fb_ct (fun k => a.testBit k) 7)) M) : kJ6_bitCount_0f7a4 d (nI a) M Q := by
  apply rJ6_bitCount_0f7a4
  rw [bits_eq a ha]
  exact h
theorem ct_bits : ∀ n, n < 8 → ∀ a, a < 128 → a < 2 ^ n → fb_ct (fun k => a.testBit k) 7 = fb_ct (fun k => a.testBit k) n := by decide +kernel
theorem c7_pw (d b t : Nat) (M : Mm) (Q : Int32 → Mm → Prop) (ht : t < 2 ^ 30) (h : Q (nI (b ^ t)) M) : ∀ k, k ≤ t → BX7_power d 4 [(0, .int (nI b)), (1, .int (nI t)), (2, .int (nI (b ^ (t - k)))), (3, .int (nI (t - k)))] [] M Q
  | 0, _ => by
    apply rX7_power_4
    exact ⟨fun _ => h, fun q => absurd (nI_le (by omega) (by omega)) q⟩
  | k + 1, hk => by
    apply rX7_power_4
    refine ⟨fun q => absurd q (nI_ge (by omega) (by omega)), fun _ => ?_⟩
    rw [pk_mul, nI_1, ← Nat.pow_succ, show (t - (k + 1)).succ = t - k by omega, show t - (k + 1) + 1 = t - k by omega]
    exact c7_pw d b t M Q ht h k (by omega)
theorem c7_power (d b t : Nat) (M : Mm) (Q : Int32 → Mm → Prop) (ht : t < 2 ^ 30) (h : Q (nI (b ^ t)) M) : kX7_power d (nI b) (nI t) M Q := by
  apply rX7_power
  have := c7_pw d b t M Q ht h t (Nat.le_refl _)
  rw [Nat.sub_self, Nat.pow_zero] at this
  exact this
theorem gcd_step (g l : Nat) : Nat.gcd g l = Nat.gcd l (g % l) := by rw [Nat.gcd_comm, Nat.gcd_rec, Nat.gcd_comm]
theorem c7_gcd (d : Nat) (M : Mm) (Q : Int32 → Mm → Prop) : ∀ (k g l i : Nat), l < 2 ^ k → i + 2 * k ≤ 64 → g < 2 ^ 31 → l < 2 ^ 31 → Q (nI (Nat.gcd g l)) M → BX7_commonDivisor d 7 [(2, .int (nI g)), (3, .int (nI l)), (4, .int (nI i))] [] M Q
  | 0, g, l, i, hl, hi, hg, h31, h => by
    have e : l = 0 := by rw [Nat.pow_zero] at hl; omega
    subst e
    rw [Nat.gcd_zero_right] at h
    apply rX7_commonDivisor_7
    exact ⟨fun _ => h, fun _ => ⟨fun _ => h, fun q => absurd rfl q⟩⟩
  | k + 1, g, l, i, hl, hi, hg, h31, h => by
    apply rX7_commonDivisor_7
    by_cases c : l = 0
    · subst c
      rw [Nat.gcd_zero_right] at h
      exact ⟨fun _ => h, fun _ => ⟨fun _ => h, fun q => absurd rfl q⟩⟩
    · have c' : ¬ nI l = 0 := fun z => c ((nI_eq (b := 0) h31 (by omega)).mp z)
      have m1 : g % l < l := Nat.mod_lt _ (by omega)
      refine ⟨fun q => absurd q (by rw [show (64 : Int32) = nI 64 from rfl]; exact nI_ge (by omega) (by omega)), fun _ => ⟨fun q => absurd q c', fun _ => ⟨c', ?_⟩⟩⟩
      rw [irem_nI hg (by omega) h31, nI_1]
      rw [gcd_step] at h
      apply rX7_commonDivisor_7
      by_cases c2 : g % l = 0
      · rw [c2] at h ⊢
        rw [Nat.gcd_zero_right] at h
        exact ⟨fun _ => h, fun _ => ⟨fun _ => h, fun q => absurd rfl q⟩⟩
      · have c2' : ¬ nI (g % l) = 0 := fun z => c2 ((nI_eq (b := 0) (by omega) (by omega)).mp z)
        have m2 : l % (g % l) < g % l := Nat.mod_lt _ (by omega)
        refine ⟨fun q => absurd q (by rw [show (64 : Int32) = nI 64 from rfl]; exact nI_ge (by omega) (by omega)), fun _ => ⟨fun q => absurd q c2', fun _ => ⟨c2', ?_⟩⟩⟩
        rw [irem_nI h31 (by omega) (by omega), nI_1]
        rw [gcd_step] at h
        refine c7_gcd d M Q k (g % l) (l % (g % l)) (i + 1 + 1) ?_ (by omega) (by omega) (by omega) h
        have half : 2 * (l % (g % l)) < l := by
          rcases Nat.lt_or_ge (2 * (g % l)) (l + 1) with w | w
          · omega
          · have : l % (g % l) = l - g % l := by
              rw [Nat.mod_eq_sub_mod (by omega), Nat.mod_eq_of_lt (by omega)]
            omega
        rw [Nat.pow_succ] at hl
        omega
theorem c8_gcd (d : Nat) (v4 v5 v6 : Int32) (M : Mm) (Q : Int32 → Mm → Prop) : ∀ (k g l : Nat), l ≤ k → g < 2 ^ 31 → l < 2 ^ 31 → 0 < Nat.gcd g l → Nat.gcd g l < 2 ^ 31 → ((¬ v4 = 0 → Q (v6 / nI (Nat.gcd g l)) M) ∧ (v4 = 0 → Q (v5 / nI (Nat.gcd g l)) M)) → BX8_sleep (d + 1) 191 [(4, .int v4), (5, .int v5), (6, .int v6), (7, .int (nI g)), (8, .int (nI l))] [] M Q
  | 0, g, l, hk, hg, h31, hp, hp2, h => by
    have e : l = 0 := by omega
    subst e
    rw [Nat.gcd_zero_right] at h hp
    have c' : ¬ nI g = 0 := fun z => by have := (nI_eq (b := 0) hg (by omega)).mp z; omega
    apply rX8_sleep_191
    exact ⟨fun _ => ⟨fun z => ⟨c', h.1 z⟩, fun z => ⟨c', h.2 z⟩⟩, fun q => absurd rfl q⟩
  | k + 1, g, l, hk, hg, h31, hp, hp2, h => by
    by_cases c : l = 0
    · exact c8_gcd d v4 v5 v6 M Q k g l (by omega) hg h31 hp hp2 h
    · have c' : ¬ nI l = 0 := fun z => c ((nI_eq (b := 0) h31 (by omega)).mp z)
      have m1 : g % l < l := Nat.mod_lt _ (by omega)
      apply rX8_sleep_191
      refine ⟨fun q => absurd q c', fun _ => ⟨c', ?_⟩⟩
      rw [irem_nI hg (by omega) h31]
      rw [gcd_step] at h hp hp2
      exact c8_gcd d v4 v5 v6 M Q k l (g % l) (by omega) h31 (by omega) hp hp2 h
/-- what is summed -/
def wtS (n c a : Nat) : Nat := c ^ (fb_ct (fun k => a.testBit k) n) * (10 - c) ^ (n - fb_ct (fun k => a.testBit k) n)
theorem wtS_le {n c a : Nat} (hc : c ≤ 10) : wtS n c a ≤ 10 ^ n := by
  unfold wtS
  have h := fb_ct_le (fun k => a.testBit k) n
  have h1 := Nat.mul_le_mul (Nat.pow_le_pow_left (m := 10) hc (fb_ct (fun k => a.testBit k) n)) (Nat.pow_le_pow_left (n := 10 - c) (m := 10) (by omega) (n - fb_ct (fun k => a.testBit k) n))
  rw [← Nat.pow_add, show fb_ct (fun k => a.testBit k) n + (n - fb_ct (fun k => a.testBit k) n) = n by omega] at h1
  exact h1
def slS (n : Nat) (kd : Nat → Nat) (ngt stp : Nat) (th : Nat → Nat) (s t c : Nat) : Nat → Nat → Nat
  | 0, acc => acc
  | k + 1, acc => slS n kd ngt stp th s t c k (acc + if stepS n kd ngt stp (2 ^ n - (k + 1)) th s = t then wtS n c (2 ^ n - (k + 1)) else 0)
theorem slS_le {n : Nat} {kd : Nat → Nat} {ngt stp : Nat} {th : Nat → Nat} {s t c : Nat} (hc : c ≤ 10) : ∀ k acc, slS n kd ngt stp th s t c k acc ≤ acc + k * 10 ^ n
  | 0, acc => by rw [slS]; omega
  | k + 1, acc => by
    rw [slS]
    refine Nat.le_trans (slS_le hc k _) ?_
    rw [Nat.succ_mul]
    have := wtS_le (n := n) (c := c) (a := 2 ^ n - (k + 1)) hc
    split <;> omega
theorem p2_n : ∀ n, n < 8 → 2 ^ n ≤ 128 ∧ 10 ^ n ≤ 10000000 ∧ 1 ≤ 10 ^ n ∧ 2 ^ n * 10 ^ n ≤ 1280000000 := by decide
theorem slS_31 {n : Nat} {kd : Nat → Nat} {ngt stp : Nat} {th : Nat → Nat} {s t c : Nat} (hc : c ≤ 10) (h7 : n ≤ 7) : slS n kd ngt stp th s t c (2 ^ n) 0 < 2 ^ 31 := by
  have h1 := slS_le (n := n) (kd := kd) (ngt := ngt) (stp := stp) (th := th) (s := s) (t := t) hc (2 ^ n) 0
  have h2 := p2_n n (by omega)
  omega
theorem c7_sl (d n s t c : Nat) (kd th : Nat → Nat) (stp ngt : Nat) (v4 : Int32) (Q : Int32 → Mm → Prop) (hG : okG n kd ngt) (hs : s < n) (ht9 : t ≤ 9) (hc : c ≤ 10) (ht : okT n th) (hst : stp < 2 ^ 30) : ∀ (k acc : Nat) (M : Mm), k ≤ 2 ^ n → RgC M 23 n kd th stp ngt → slS n kd ngt stp th s t c k acc < 2 ^ 31 → (∀ M', frC M M' → ((¬ v4 = 0 → Q (nI (10 ^ n) / nI (Nat.gcd (slS n kd ngt stp th s t c k acc) (10 ^ n))) M') ∧ (v4 = 0 → Q (nI (slS n kd ngt stp th s t c k acc) / nI (Nat.gcd (slS n kd ngt stp th s t c k acc) (10 ^ n))) M'))) → BX7_sleep (d + 4) 48 [(0, .ref 0), (1, .int (nI s)), (2, .int (nI t)), (3, .int (nI c)), (4, .int v4), (5, .int (nI acc)), (6, .int (nI (2 ^ n - k)))] [] M Q
  | 0, acc, M, _, hC, hb, h => by
    have h7 := hG.1
    have p := p2_n n (by omega)
    apply rX7_sleep_48
    rw [hC.1, li_1, ishl_nI (by omega) (by omega), Nat.one_mul]
    refine ⟨fun _ => ?_, fun q => absurd (nI_le (by omega) (by omega)) q⟩
    rw [li_10]
    refine c7_power _ 10 n M _ (by omega) ?_
    apply rX7_commonDivisor
    rw [slS] at hb
    have gp : 0 < Nat.gcd acc (10 ^ n) := Nat.gcd_pos_of_pos_right _ (by omega)
    have gl : Nat.gcd acc (10 ^ n) ≤ 10 ^ n := Nat.gcd_le_right _ (by omega)
    have hh := h M frC_rf
    rw [slS] at hh
    refine c7_gcd _ M _ 24 acc (10 ^ n) 0 (by omega) (by omega) hb (by omega) ?_
    have g0 : ¬ nI (Nat.gcd acc (10 ^ n)) = 0 := fun z => by have := (nI_eq (b := 0) (by omega) (by omega)).mp z; omega
    exact ⟨fun _ => ⟨fun z => ⟨g0, hh.1 z⟩, fun z => ⟨g0, hh.2 z⟩⟩, fun q => absurd (nI_lt (a := 0) gp (by omega)) q⟩
  | k + 1, acc, M, hk, hC, hb, h => by
    have h7 := hG.1
    have p := p2_n n (by omega)
    have e : 2 ^ n - (k + 1) + 1 = 2 ^ n - k := by omega
    apply rX7_sleep_48
    rw [hC.1, li_1, ishl_nI (by omega) (by omega), Nat.one_mul]
    refine ⟨fun q => absurd q (nI_ge (by omega) (by omega)), fun _ => ?_⟩
    refine t4_become _ n kd th stp ngt M _ hC h7 (fun M1 g1 g2 => ?_)
    refine c4_advance d 26 rg26 n kd th stp ngt (2 ^ n - (k + 1)) M1 _ g1 hG.2.1 ht hG.1 hst hG.2.2 (by omega) (fun M2 g3 g4 => ?_)
    have fr : frC M M2 := frC_tr g2 (fun k a b c => g4 k a c)
    have hC2 : RgC M2 23 n kd th stp ngt := RgC_c hC (fr _ (by omega) (by omega) (by omega)) (fr _ (by omega) (by omega) (by omega)) (fr _ (by omega) (by omega) (by omega))
    have et : M2 28 s = nI (stepS n kd ngt stp (2 ^ n - (k + 1)) th s) := g3.2.2.2.2 s hs
    have b9 : stepS n kd ngt stp (2 ^ n - (k + 1)) th s ≤ 9 := okT_step ht s hs
    rw [slS] at hb
    rw [nI_clamp (by omega), et]
    refine ⟨vp_in_nI (by omega) (by omega), fun q => ?_, fun q => ?_⟩
    · rw [show nI (2 ^ n - (k + 1)) + nI 1 = nI (2 ^ n - k) by rw [nI_add, e]]
      rw [if_neg (fun z => q (by rw [z])), Nat.add_zero] at hb
      refine c7_sl d n s t c kd th stp ngt v4 Q hG hs ht9 hc ht hst k acc M2 (by omega) hC2 hb (fun M' g => ?_)
      have hh := h M' (frC_tr fr g)
      rw [slS, if_neg (fun z => q (by rw [z])), Nat.add_zero] at hh
      exact hh
    · have q' := (nI_eq (by omega) (by omega)).mp q
      rw [if_pos q'] at hb
      have cb := ct_bits n (by omega) (2 ^ n - (k + 1)) (by omega) (by omega)
      have cle := fb_ct_le (fun k_1 => (2 ^ n - (k + 1)).testBit k_1) n
      refine cJ_bits _ (2 ^ n - (k + 1)) M2 _ (by omega) ?_
      rw [cb]
      refine c7_power _ c _ M2 _ (by omega) ?_
      rw [hC2.1, li_10, pk_sub hc, pk_sub cle]
      refine c7_power _ (10 - c) _ M2 _ (by omega) ?_
      rw [pk_mul, nI_add, show nI (2 ^ n - (k + 1)) + nI 1 = nI (2 ^ n - k) by rw [nI_add, e]]
      refine c7_sl d n s t c kd th stp ngt v4 Q hG hs ht9 hc ht hst k _ M2 (by omega) hC2 hb (fun M' g => ?_)
      have hh := h M' (frC_tr fr g)
      rw [slS, if_pos q'] at hh
      exact hh
/-- the reference's sum -/
theorem c8_sl0 (d n : Nat) (v1 v2 v3 v4 : Int32) (v5 : Int32) (M : Mm) (Q : Int32 → Mm → Prop) (h7 : n ≤ 7) (h50 : M 50 0 = nI n) (h : BX8_sleep (d + 1) 82 [(0, .ref 49), (1, .int v1), (2, .int v2), (3, .int v3), (4, .int v4), (5, .int v5), (6, .int (nI (10 ^ n))), (7, .int 0)] [] M Q) : ∀ k, k ≤ n → BX8_sleep (d + 1) 55 [(0, .ref 49), (1, .int v1), (2, .int v2), (3, .int v3), (4, .int v4), (5, .int v5), (6, .int (nI (10 ^ (n - k)))), (7, .int (nI (n - k)))] [] M Q
  | 0, _ => by
    apply rX8_sleep_55
    rw [clamp0, h50]
    exact ⟨vp_in_nI (n := 0) (by omega) (by omega), fun _ => h, fun q => absurd (nI_le (by omega) (by omega)) q⟩
  | k + 1, hk => by
    apply rX8_sleep_55
    rw [clamp0, h50, li_10, pk_mul, nI_1, ← Nat.pow_succ, show (n - (k + 1)).succ = n - k by omega, show n - (k + 1) + 1 = n - k by omega]
    exact ⟨vp_in_nI (n := 0) (by omega) (by omega), fun q => absurd q (nI_ge (by omega) (by omega)), fun _ => c8_sl0 d n v1 v2 v3 v4 v5 M Q h7 h50 h k (by omega)⟩
theorem c8_slW (d n a c : Nat) (v1 v2 v4 v5 v6 : Int32) (M : Mm) (Q : Int32 → Mm → Prop) (h7 : n ≤ 7) (ha : a < 128) (hc : c ≤ 10) (h50 : M 50 0 = nI n) (h : BX8_sleep (d + 1) 101 [(0, .ref 49), (1, .int v1), (2, .int v2), (3, .int (nI c)), (4, .int v4), (5, .int v5), (6, .int v6), (7, .int (nI a)), (8, .int (nI (wtS n c a))), (9, .int (nI n))] [] M Q) : ∀ k, k ≤ n → BX8_sleep (d + 1) 101 [(0, .ref 49), (1, .int v1), (2, .int v2), (3, .int (nI c)), (4, .int v4), (5, .int v5), (6, .int v6), (7, .int (nI a)), (8, .int (nI (wtS (n - k) c a))), (9, .int (nI (n - k)))] [] M Q
  | 0, _ => h
  | k + 1, hk => by
    apply rX8_sleep_101
    rw [clamp0, h50]
    refine ⟨vp_in_nI (n := 0) (by omega) (by omega), fun q => absurd q (nI_ge (by omega) (by omega)), fun _ => ?_⟩
    refine c8_has _ a (n - (k + 1)) M _ (by omega) (by omega) ?_
    have e : n - (k + 1) + 1 = n - k := by omega
    have cle := fb_ct_le (fun i => a.testBit i) (n - (k + 1))
    have ih := c8_slW d n a c v1 v2 v4 v5 v6 M Q h7 ha hc h50 h k (by omega)
    rw [nI_1, e, li_10, pk_sub hc, pk_mul, pk_mul]
    rw [← e, wtS, fb_ct_succ] at ih
    rw [← e]
    by_cases cb : a.testBit (n - (k + 1)) = true
    · rw [if_pos cb]
      rw [if_pos cb, Nat.pow_succ, show n - (k + 1) + 1 - (fb_ct (fun i => a.testBit i) (n - (k + 1)) + 1) = n - (k + 1) - fb_ct (fun i => a.testBit i) (n - (k + 1)) by omega, Nat.mul_right_comm] at ih
      exact ⟨fun q => absurd q (by decide), fun _ => ih⟩
    · rw [if_neg cb]
      rw [if_neg cb] at ih
      simp only [Nat.add_zero] at ih
      rw [show n - (k + 1) + 1 - fb_ct (fun i => a.testBit i) (n - (k + 1)) = n - (k + 1) - fb_ct (fun i => a.testBit i) (n - (k + 1)) + 1 by omega, Nat.pow_succ, ← Nat.mul_assoc] at ih
      exact ⟨fun _ => ih, fun q => absurd rfl q⟩
theorem c8_sl (d n s t c : Nat) (kd th : Nat → Nat) (stp ngt : Nat) (v4 : Int32) (Q : Int32 → Mm → Prop) (hG : okG n kd ngt) (hs : s < n) (ht9 : t ≤ 9) (hc : c ≤ 10) (ht : okT n th) (hst : stp < 2 ^ 30) : ∀ (k acc : Nat) (M : Mm), k ≤ 2 ^ n → RgM M 0 n kd th stp ngt → slS n kd ngt stp th s t c k acc < 2 ^ 31 → (∀ M', frM M M' → ((¬ v4 = 0 → Q (nI (10 ^ n) / nI (Nat.gcd (slS n kd ngt stp th s t c k acc) (10 ^ n))) M') ∧ (v4 = 0 → Q (nI (slS n kd ngt stp th s t c k acc) / nI (Nat.gcd (slS n kd ngt stp th s t c k acc) (10 ^ n))) M'))) → BX8_sleep (d + 4) 82 [(0, .ref 49), (1, .int (nI s)), (2, .int (nI t)), (3, .int (nI c)), (4, .int v4), (5, .int (nI acc)), (6, .int (nI (10 ^ n))), (7, .int (nI (2 ^ n - k)))] [] M Q
  | 0, acc, M, _, hM, hb, h => by
    have h7 := hG.1
    have p := p2_n n (by omega)
    have e0 : M 50 0 = nI n := hM.1
    apply rX8_sleep_82
    rw [clamp0, e0, li_1, ishl_nI (by omega) (by omega), Nat.one_mul]
    refine ⟨vp_in_nI (n := 0) (by omega) (by omega), fun _ => ?_, fun q => absurd (nI_le (by omega) (by omega)) q⟩
    rw [slS] at hb
    have gp : 0 < Nat.gcd acc (10 ^ n) := Nat.gcd_pos_of_pos_right _ (by omega)
    have gl : Nat.gcd acc (10 ^ n) ≤ 10 ^ n := Nat.gcd_le_right _ (by omega)
    have hh := h M frM_rf
    rw [slS] at hh
    exact c8_gcd _ v4 _ _ M Q (10 ^ n) acc (10 ^ n) (Nat.le_refl _) hb (by omega) gp (by omega) hh
  | k + 1, acc, M, hk, hM, hb, h => by
    have h7 := hG.1
    have p := p2_n n (by omega)
    have e0 : M 50 0 = nI n := hM.1
    have e : 2 ^ n - (k + 1) + 1 = 2 ^ n - k := by omega
    apply rX8_sleep_82
    rw [clamp0, e0, li_1, ishl_nI (by omega) (by omega), Nat.one_mul]
    refine ⟨vp_in_nI (n := 0) (by omega) (by omega), fun q => absurd q (nI_ge (by omega) (by omega)), fun _ => ?_⟩
    have := c8_slW (d + 3) n (2 ^ n - (k + 1)) c (nI s) (nI t) v4 (nI acc) (nI (10 ^ n)) M Q h7 (by omega) hc e0 ?_ n (Nat.le_refl _)
    · rw [Nat.sub_self] at this
      exact this
    · apply rX8_sleep_101
      rw [clamp0, e0]
      refine ⟨vp_in_nI (n := 0) (by omega) (by omega), fun _ => ?_, fun q => absurd (nI_le (by omega) (by omega)) q⟩
      refine t8_tries _ n kd th stp ngt M _ hM h7 (fun M1 g1 g2 => ?_)
      refine c8_stepsBy (d + 1) 17 n kd th stp ngt (2 ^ n - (k + 1)) M1 _ g1 inW17 hG.2.1 ht hG.1 hst hG.2.2 (by omega) (fun M2 g3 g4 => ?_)
      have fr : frM M M2 := frM_tr g2 (frM_k g4 h7)
      have hM2 : RgM M2 0 n kd th stp ngt := RgM_c hM h7 (fun i _ _ => fr.2 i (by omega))
      have et : M2 50 (17 + 3 + s) = nI (stepS n kd ngt stp (2 ^ n - (k + 1)) th s) := g3.2.2.2.1 s hs
      have b9 : stepS n kd ngt stp (2 ^ n - (k + 1)) th s ≤ 9 := okT_step ht s hs
      rw [slS] at hb
      rw [show (20 : Int32) + nI s = nI (17 + 3 + s) by rw [li_20, nI_add], nI_clamp (by omega), et, show nI acc + 0 = nI acc by rw [li_0, nI_add]; rfl, nI_1, e, nI_add]
      refine ⟨vp_in_nI (by omega) (by omega), fun q => ?_, fun q => ?_⟩
      · rw [if_neg (fun z => q (by rw [z])), Nat.add_zero] at hb
        refine c8_sl d n s t c kd th stp ngt v4 Q hG hs ht9 hc ht hst k acc M2 (by omega) hM2 hb (fun M' g => ?_)
        have hh := h M' (frM_tr fr g)
        rw [slS, if_neg (fun z => q (by rw [z])), Nat.add_zero] at hh
        exact hh
      · have q' := (nI_eq (by omega) (by omega)).mp q
        rw [if_pos q'] at hb
        refine c8_sl d n s t c kd th stp ngt v4 Q hG hs ht9 hc ht hst k _ M2 (by omega) hM2 hb (fun M' g => ?_)
        have hh := h M' (frM_tr fr g)
        rw [slS, if_pos q'] at hh
        exact hh
theorem c_ix (v : Int32) : (v < 0 ∨ nI 11 ≤ v) ∨ ∃ c, c ≤ 10 ∧ v = nI c := by
  rcases pk_ix v (n := 11) (by omega) with h | h | ⟨c, hc, e⟩
  · exact Or.inl (Or.inl h)
  · exact Or.inl (Or.inr h)
  · exact Or.inr ⟨c, by omega, e⟩
theorem t0_ix (v : Int32) : (v < 0 ∨ nI 10 ≤ v) ∨ ∃ c, c ≤ 9 ∧ v = nI c := by
  rcases pk_ix v (n := 10) (by omega) with h | h | ⟨c, hc, e⟩
  · exact Or.inl (Or.inl h)
  · exact Or.inl (Or.inr h)
  · exact Or.inr ⟨c, by omega, e⟩
theorem two_no {v : Int32} {m : Nat} {P1 P2 R : Prop} (hm : m + 1 < 2 ^ 31) (h : v < 0 ∨ nI (m + 1) ≤ v) (h1 : P1) (h2 : P2) : ((v < 0 → P1) ∧ (¬ v < 0 → ((nI m < v → P2) ∧ (¬ nI m < v → R)))) := by
  refine ⟨fun _ => h1, fun q => ⟨fun _ => h2, fun q2 => ?_⟩⟩
  exfalso
  rcases h with h | h
  · exact q h
  · apply q2
    rw [fa_lt, nI_toInt (by omega)]
    rw [fa_le, nI_toInt hm] at h
    omega
theorem two_yes {c m : Nat} {P1 P2 R : Prop} (hm : m < 2 ^ 31) (h : c ≤ m) (hr : R) : ((nI c < 0 → P1) ∧ (¬ nI c < 0 → ((nI m < nI c → P2) ∧ (¬ nI m < nI c → R)))) :=
  ⟨fun q => absurd q (nI_pos (by omega)), fun _ => ⟨fun q => absurd q (nI_nlt h hm), fun _ => hr⟩⟩
theorem L_sleep (v1 v2 v3 v4 : Int32) (M : Mm) (hI : Inv M) : kX7_sleep 40 v1 v2 v3 v4 M (fun r1 M1 => kX8_sleep 40 v1 v2 v3 v4 M1 (fun r2 M2 => r1 = r2 ∧ Inv M2)) := by
  obtain ⟨n, kd, th, stp, ngt, hC, hM, hok, -⟩ := hI.2.2.1
  have h7 := okR_7 hok
  apply rX7_sleep
  rcases s_ix v1 h7 with h1 | ⟨s, hs, rfl⟩
  · refine c4_sn _ 23 rg23 n _ _ _ hC.1 h1 ⟨fun _ => ?_, fun q => absurd rfl q⟩
    apply rX8_sleep
    exact c8_sn _ n _ _ _ hM.1 h7 h1 ⟨fun _ => ⟨rfl, hI⟩, fun q => absurd rfl q⟩
  refine c4_sy _ 23 rg23 n s _ _ hC.1 h7 hs ⟨fun q => absurd q (by decide), fun _ => ?_⟩
  rcases t0_ix v2 with h2 | ⟨t, ht9, rfl⟩
  · have m : kX8_sleep 40 (nI s) v2 v3 v4 M (fun r2 M2 => -1000001 = r2 ∧ Inv M2) := by
      apply rX8_sleep
      exact c8_sy _ n s _ _ hM.1 h7 hs ⟨fun q => absurd q (by decide), fun _ => c8_n _ 9 _ _ _ (by omega) h2 ⟨fun _ => ⟨rfl, hI⟩, fun q => absurd rfl q⟩⟩
    exact two_no (m := 9) (by omega) h2 m m
  refine two_yes (m := 9) (by omega) ht9 ?_
  rcases c_ix v3 with h3 | ⟨c, hc, rfl⟩
  · have m : kX8_sleep 40 (nI s) (nI t) v3 v4 M (fun r2 M2 => -1000001 = r2 ∧ Inv M2) := by
      apply rX8_sleep
      exact c8_sy _ n s _ _ hM.1 h7 hs ⟨fun q => absurd q (by decide), fun _ => c8_y _ t 9 _ _ (by omega) (by omega) ⟨fun q => absurd q (by decide), fun _ => c8_n _ 10 _ _ _ (by omega) h3 ⟨fun _ => ⟨rfl, hI⟩, fun q => absurd rfl q⟩⟩⟩
    exact two_no (m := 10) (by omega) h3 m m
  refine two_yes (m := 10) (by omega) hc (c7_fs _ _ _ _ ?_)
  have m8 : ∀ (M : Mm) (Q : Int32 → Mm → Prop), M 50 0 = nI n → ((v4 = 0 ∨ v4 = 1) → BX8_sleep (39 + 1) 55 [(0, .ref 49), (1, .int (nI s)), (2, .int (nI t)), (3, .int (nI c)), (4, .int v4), (5, .int 0), (6, .int 1), (7, .int 0)] [] M Q) → (¬ (v4 = 0 ∨ v4 = 1) → Q (-1000001) M) → kX8_sleep 40 (nI s) (nI t) (nI c) v4 M Q := by
    intro M Q e h1 h2
    apply rX8_sleep
    refine c8_sy _ n s _ _ e h7 hs ⟨fun q => absurd q (by decide), fun _ => c8_y _ t 9 _ _ (by omega) (by omega) ⟨fun q => absurd q (by decide), fun _ => c8_y _ c 10 _ _ (by omega) (by omega) ⟨fun q => absurd q (by decide), fun _ => c8_fs _ _ _ _ ?_⟩⟩⟩
    by_cases z : v4 = 0 ∨ v4 = 1
    · rw [if_pos z]
      exact ⟨fun _ => h1 z, fun q => absurd q (by decide)⟩
    · rw [if_neg z]
      exact ⟨fun q => absurd rfl q, fun _ => h2 z⟩
  by_cases z : v4 = 0 ∨ v4 = 1
  case neg =>
    rw [if_neg z]
    exact ⟨fun q => absurd rfl q, fun _ => m8 _ _ hM.1 (fun q => absurd q z) (fun _ => ⟨rfl, hI⟩)⟩
  rw [if_pos z]
  refine ⟨fun _ => ?_, fun q => absurd q (by decide)⟩
  obtain ⟨hG, hst⟩ := okR_G hok (by omega)
  have ht := (okR_T hok).1
  have b31 := slS_31 (n := n) (kd := kd) (ngt := ngt) (stp := stp) (th := th) (s := s) (t := t) hc h7
  have ref : ∀ (M1 : Mm) (x : Int32), frC M M1 → (¬ v4 = 0 → x = nI (10 ^ n) / nI (Nat.gcd (slS n kd ngt stp th s t c (2 ^ n) 0) (10 ^ n))) → (v4 = 0 → x = nI (slS n kd ngt stp th s t c (2 ^ n) 0) / nI (Nat.gcd (slS n kd ngt stp th s t c (2 ^ n) 0) (10 ^ n))) → kX8_sleep 40 (nI s) (nI t) (nI c) v4 M1 (fun r2 M2 => x = r2 ∧ Inv M2) := by
    intro M1 x fr hx1 hx2
    have hM1 := RgM_fr hM h7 fr
    refine m8 _ _ hM1.1 (fun _ => ?_) (fun q => absurd z q)
    have := c8_sl0 39 n (nI s) (nI t) (nI c) v4 0 M1 (fun r2 M2 => x = r2 ∧ Inv M2) h7 hM1.1 ?_ n (Nat.le_refl _)
    · rw [Nat.sub_self] at this
      exact this
    · have := c8_sl 36 n s t c kd th stp ngt v4 (fun r2 M2 => x = r2 ∧ Inv M2) hG hs ht9 hc ht (by omega) (2 ^ n) 0 M1 (Nat.le_refl _) hM1 b31 (fun M' g => ?_)
      · rw [Nat.sub_self] at this
        exact this
      · have iv := Inv_s hI (scr_tr (scr_C fr) (scr_M g))
        exact ⟨fun q => ⟨hx1 q, iv⟩, fun q => ⟨hx2 q, iv⟩⟩
  have := c7_sl 36 n s t c kd th stp ngt v4 (fun r1 M1 => kX8_sleep 40 (nI s) (nI t) (nI c) v4 M1 (fun r2 M2 => r1 = r2 ∧ Inv M2)) hG hs ht9 hc ht (by omega) (2 ^ n) 0 M (Nat.le_refl _) hC b31 (fun M' g => ⟨fun q => ref M' _ g (fun _ => rfl) (fun w => absurd w q), fun q => ref M' _ g (fun w => absurd q w) (fun _ => rfl)⟩)
  rw [Nat.sub_self] at this
  exact this
