/-! HOME: those at home, the place of the row, how many rows -/
def cF (th : Nat → Nat) (n : Nat) : Nat → Nat → Nat
  | 0, _ => 0
  | k + 1, t => cF th n k t + if th (n - (k + 1)) = t then 1 else 0
theorem sm_one (a : Nat) : ∀ m, fb_sm (fun t => if a = t then 1 else 0) m = if a < m then 1 else 0
  | 0 => rfl
  | m + 1 => by
    rw [fb_sm_succ, sm_one a m]
    by_cases c : a < m
    · rw [if_pos c, if_neg (by omega), if_pos (by omega)]
    · rw [if_neg c]
      by_cases c2 : a = m
      · rw [if_pos c2, if_pos (by omega)]
      · rw [if_neg c2, if_neg (by omega)]
theorem cF_sum {th : Nat → Nat} {n : Nat} (ht : okT n th) : ∀ k, k ≤ n → fb_sm (cF th n k) 10 = k
  | 0, _ => by
    show fb_sm (fun _ => 0) 10 = 0
    rw [fb_sm_const]
  | k + 1, hk => by
    show fb_sm (fun t => cF th n k t + if th (n - (k + 1)) = t then 1 else 0) 10 = k + 1
    rw [fb_sm_add (cF th n k) (fun t => if th (n - (k + 1)) = t then 1 else 0), cF_sum ht k (by omega), sm_one, if_pos]
    have := ht (n - (k + 1)) (by omega)
    omega
theorem sm_ge (f : Nat → Nat) : ∀ m i, i < m → f i ≤ fb_sm f m
  | 0, i, h => by omega
  | m + 1, i, h => by
    rw [fb_sm_succ]
    by_cases c : i = m
    · rw [c]; omega
    · have := sm_ge f m i (by omega)
      omega
theorem cF_le {th : Nat → Nat} {n k t : Nat} (ht : okT n th) (hk : k ≤ n) (h : t < 10) : cF th n k t ≤ k := by
  have := sm_ge (cF th n k) 10 t h
  rw [cF_sum ht k hk] at this
  exact this
def fct (n : Nat) : Nat := [1, 1, 2, 6, 24, 120, 720, 5040].getD n 1
def Wy (a z : Nat) : Nat := fct a / fct z
def pF (p k : Nat) : Nat → Nat
  | 0 => p
  | m + 1 => pF (p * k) (k + 1) m
theorem Wy_pF : ∀ a, a < 8 → ∀ z, z ≤ a → pF 1 (z + 1) (a - z) = Wy a z := by decide +kernel
theorem c3_wy2 (d a : Nat) (M : Mm) (Q : Int32 → Mm → Prop) (ha : a ≤ 7) : ∀ (m p k : Nat), k + m = a + 1 → Q (nI (pF p k m)) M → BX3_ways d 11 [(1, .int (nI a)), (2, .int (nI p)), (3, .int (nI k))] [] M Q
  | 0, p, k, e, h => by
    apply rX3_ways_11
    exact ⟨fun _ => h, fun q => absurd (nI_lt (by omega) (by omega)) q⟩
  | m + 1, p, k, e, h => by
    apply rX3_ways_11
    rw [nI_1, pk_mul]
    exact ⟨fun q => absurd q (nI_nlt (by omega) (by omega)), fun _ => c3_wy2 d a M Q ha m (p * k) (k + 1) (by omega) h⟩
theorem c3_ways (d a z : Nat) (M : Mm) (Q : Int32 → Mm → Prop) (ha : a < 8) (hz : z ≤ a) (h0 : M 45 0 = nI z) (h : Q (nI (Wy a z)) M) : kX3_ways d (nI a) M Q := by
  apply rX3_ways
  rw [clamp0, h0, nI_1]
  refine ⟨vp_in_nI (n := 0) (by omega) (by omega), ?_⟩
  refine c3_wy2 d a M Q (by omega) (a - z) 1 (z + 1) (by omega) ?_
  rw [Wy_pF a ha z hz]
  exact h
theorem c8_rw2 (d a : Nat) (M : Mm) (Q : Int32 → Mm → Prop) (ha : a ≤ 7) : ∀ (m p k : Nat), k + m = a + 1 → Q (nI (pF p k m)) M → BX8_rowsOf d 36 [(1, .int (nI a)), (2, .int (nI p)), (3, .int (nI k))] [] M Q
  | 0, p, k, e, h => by
    apply rX8_rowsOf_36
    exact ⟨fun _ => h, fun q => absurd (nI_lt (by omega) (by omega)) q⟩
  | m + 1, p, k, e, h => by
    apply rX8_rowsOf_36
    rw [nI_1, pk_mul]
    exact ⟨fun q => absurd q (nI_nlt (by omega) (by omega)), fun _ => c8_rw2 d a M Q ha m (p * k) (k + 1) (by omega) h⟩
theorem c8_rw1 (d a : Nat) (c : Nat → Nat) (M : Mm) (Q : Int32 → Mm → Prop) (ha : a ≤ 7) (hc : ∀ t, t < 10 → M 56 t = nI (c t)) (hs : fb_sm c 10 = a) (h : Q (nI (Wy a (c 0))) M) : ∀ m, m ≤ 10 → BX8_rowsOf d 4 [(0, .ref 49), (1, .int (nI (fb_sm c (10 - m)))), (2, .int (nI (10 - m)))] [] M Q
  | 0, _ => by
    apply rX8_rowsOf_4
    have z := sm_ge c 10 0 (by omega)
    refine ⟨fun _ => ⟨vp_in_nI (n := 0) (by omega) (by omega), ?_⟩, fun q => absurd (by rw [li_10]; exact nI_le (by omega) (by omega)) q⟩
    rw [clamp0, hc 0 (by omega), nI_1, Nat.sub_zero, hs, li_1]
    exact c8_rw2 d a M Q ha (a - c 0) 1 (c 0 + 1) (by omega) (by rw [Wy_pF a (by omega) (c 0) (by omega)]; exact h)
  | m + 1, hm => by
    apply rX8_rowsOf_4
    refine ⟨fun q => absurd q (by rw [li_10]; exact nI_ge (by omega) (by omega)), fun _ => ⟨vp_in_nI (by omega) (by omega), ?_⟩⟩
    rw [nI_clamp (by omega), hc (10 - (m + 1)) (by omega), nI_add, nI_1]
    have := c8_rw1 d a c M Q ha hc hs h m (by omega)
    rw [show 10 - m = 10 - (m + 1) + 1 by omega, fb_sm_succ] at this
    exact this
theorem c8_rowsOf (d a : Nat) (c : Nat → Nat) (M : Mm) (Q : Int32 → Mm → Prop) (ha : a ≤ 7) (hc : ∀ t, t < 10 → M 56 t = nI (c t)) (hs : fb_sm c 10 = a) (h : Q (nI (Wy a (c 0))) M) : kX8_rowsOf d M Q := by
  apply rX8_rowsOf
  exact c8_rw1 d a c M Q ha hc hs h 10 (by omega)
/-- the counts -/
theorem c3_tl (d n : Nat) (kd th : Nat → Nat) (stp ngt : Nat) (Q : Int32 → Mm → Prop) (h7 : n ≤ 7) (ht : okT n th) : ∀ (k : Nat) (M : Mm), k ≤ n → RgC M 23 n kd th stp ngt → (∀ t, t < 10 → ∃ a, M 45 t = nI a ∧ a + cF th n k t = cF th n n t) → (∀ M', (∀ q, q ≠ 45 → M' q = M q) → (∀ t, t < 10 → M' 45 t = nI (cF th n n t)) → Q 0 M') → BX3_tally (d + 1) 10 [(0, .ref 43), (1, .ref 23), (2, .int (nI (n - k)))] [] M Q
  | 0, M, _, hC, hc, h => by
    apply rX3_tally_10 _ _ rg23
    rw [hC.1]
    refine ⟨fun _ => h M (fun _ _ => rfl) (fun t h10 => ?_), fun q => absurd (nI_le (by omega) (by omega)) q⟩
    obtain ⟨a, e1, e2⟩ := hc t h10
    rw [e1, ← e2]; rfl
  | k + 1, M, hk, hC, hc, h => by
    apply rX3_tally_10 _ _ rg23
    have e : n - (k + 1) + 1 = n - k := by omega
    have et : M (23 + 2) (n - (k + 1)) = nI (th (n - (k + 1))) := hC.2.2.2.2 (n - (k + 1)) (by omega)
    have bt := ht (n - (k + 1)) (by omega)
    obtain ⟨a, e1, e2⟩ := hc (th (n - (k + 1))) (by omega)
    rw [hC.1, nI_clamp (by omega), et, nI_clamp (by omega), nI_1, e, e1, nI_1]
    refine ⟨fun q => absurd q (nI_ge (by omega) (by omega)), fun _ => ⟨vp_in_nI (by omega) (by omega), vp_in_nI (by omega) (by omega), vp_in_nI (by omega) (by omega), ?_⟩⟩
    rintro M1 rfl
    refine c3_tl d n kd th stp ngt Q h7 ht k _ (by omega) (RgC_c hC (upd2_off (by omega)) (upd2_off (by omega)) (upd2_off (by omega))) (fun t h10 => ?_) (fun M' g1 g2 => h M' (fun q hq => by rw [g1 q hq, upd2_off hq]) g2)
    by_cases c : t = th (n - (k + 1))
    · refine ⟨a + 1, by rw [c, upd2_at], ?_⟩
      rw [← c] at e2
      rw [cF, if_pos c.symm] at e2
      omega
    · obtain ⟨b, y1, y2⟩ := hc t h10
      refine ⟨b, by rw [upd2_row c]; exact y1, ?_⟩
      rw [cF, if_neg (fun z => c z.symm)] at y2
      omega
theorem ia45 : isIa 45 := ⟨by decide, by decide⟩
theorem c3_tally (d n : Nat) (kd th : Nat → Nat) (stp ngt : Nat) (M : Mm) (Q : Int32 → Mm → Prop) (h7 : n ≤ 7) (ht : okT n th) (hC : RgC M 23 n kd th stp ngt) (h : ∀ M', (∀ q, q ≠ 45 → M' q = M q) → (∀ t, t < 10 → M' 45 t = nI (cF th n n t)) → Q 0 M') : kX3_tally (d + 1) 23 M Q := by
  apply rX3_tally _ _ rg23
  refine cJ_fill _ 45 10 ia45 rfl (by omega) 0 M _ ?_
  have := c3_tl d n kd th stp ngt Q h7 ht n (setR M 45 (fun i => if i < 10 then 0 else M 45 i)) (Nat.le_refl _) (RgC_c hC (setR_ne (by omega)) (setR_ne (by omega)) (setR_ne (by omega))) (fun t h10 => ⟨0, by rw [setR_eq, if_pos h10]; rfl, by omega⟩) (fun M' g1 g2 => h M' (fun q hq => by rw [g1 q hq, setR_ne hq]) g2)
  rw [Nat.sub_self] at this
  exact this
theorem c8_ct2 (d n : Nat) (kd th : Nat → Nat) (stp ngt : Nat) (Q : Int32 → Mm → Prop) (h7 : n ≤ 7) (ht : okT n th) : ∀ (k : Nat) (M : Mm), k ≤ n → RgM M 0 n kd th stp ngt → (∀ t, t < 10 → ∃ a, M 56 t = nI a ∧ a + cF th n k t = cF th n n t) → (∀ M', (∀ q, q ≠ 56 → M' q = M q) → (∀ t, t < 10 → M' 56 t = nI (cF th n n t)) → Q 0 M') → BX8_countsThere d 23 [(0, .ref 49), (1, .int (nI (n - k)))] [] M Q
  | 0, M, _, hC, hc, h => by
    apply rX8_countsThere_23
    have e0 : M 50 0 = nI n := hC.1
    rw [clamp0, e0]
    refine ⟨vp_in_nI (n := 0) (by omega) (by omega), fun _ => h M (fun _ _ => rfl) (fun t h10 => ?_), fun q => absurd (nI_le (by omega) (by omega)) q⟩
    obtain ⟨a, e1, e2⟩ := hc t h10
    rw [e1, ← e2]; rfl
  | k + 1, M, hk, hC, hc, h => by
    apply rX8_countsThere_23
    have e0 : M 50 0 = nI n := hC.1
    have e : n - (k + 1) + 1 = n - k := by omega
    have et : M 50 (0 + 3 + (n - (k + 1))) = nI (th (n - (k + 1))) := hC.2.2.2.1 (n - (k + 1)) (by omega)
    rw [Nat.zero_add] at et
    have bt := ht (n - (k + 1)) (by omega)
    obtain ⟨a, e1, e2⟩ := hc (th (n - (k + 1))) (by omega)
    rw [clamp0, e0, li_3, nI_add, nI_clamp (by omega), et, nI_clamp (by omega), nI_1, e, e1, nI_1]
    refine ⟨vp_in_nI (n := 0) (by omega) (by omega), fun q => absurd q (nI_ge (by omega) (by omega)), fun _ => ⟨vp_in_nI (by omega) (by omega), vp_in_nI (by omega) (by omega), vp_in_nI (by omega) (by omega), ?_⟩⟩
    rintro M1 rfl
    refine c8_ct2 d n kd th stp ngt Q h7 ht k _ (by omega) (RgM_c hC h7 (fun i _ _ => by rw [upd2_off (by omega)])) (fun t h10 => ?_) (fun M' g1 g2 => h M' (fun q hq => by rw [g1 q hq, upd2_off hq]) g2)
    by_cases c : t = th (n - (k + 1))
    · refine ⟨a + 1, by rw [c, upd2_at], ?_⟩
      rw [← c] at e2
      rw [cF, if_pos c.symm] at e2
      omega
    · obtain ⟨b, y1, y2⟩ := hc t h10
      refine ⟨b, by rw [upd2_row c]; exact y1, ?_⟩
      rw [cF, if_neg (fun z => c z.symm)] at y2
      omega
theorem c8_ct1 (d n : Nat) (kd th : Nat → Nat) (stp ngt : Nat) (Q : Int32 → Mm → Prop) (h7 : n ≤ 7) (ht : okT n th) : ∀ (k : Nat) (M : Mm), k ≤ 10 → RgM M 0 n kd th stp ngt → (∀ t, t < 10 - k → M 56 t = 0) → (∀ M', (∀ q, q ≠ 56 → M' q = M q) → (∀ t, t < 10 → M' 56 t = nI (cF th n n t)) → Q 0 M') → BX8_countsThere d 2 [(0, .ref 49), (1, .int (nI (10 - k)))] [] M Q
  | 0, M, _, hC, hc, h => by
    apply rX8_countsThere_2
    refine ⟨fun _ => ?_, fun q => absurd (by rw [li_10]; exact nI_le (by omega) (by omega)) q⟩
    have := c8_ct2 d n kd th stp ngt Q h7 ht n M (Nat.le_refl _) hC (fun t h10 => ⟨0, hc t h10, by omega⟩) h
    rw [Nat.sub_self] at this
    exact this
  | k + 1, M, hk, hC, hc, h => by
    apply rX8_countsThere_2
    have e : 10 - (k + 1) + 1 = 10 - k := by omega
    rw [nI_clamp (by omega), nI_1, e]
    refine ⟨fun q => absurd q (by rw [li_10]; exact nI_ge (by omega) (by omega)), fun _ => ⟨vp_in_nI (by omega) (by omega), ?_⟩⟩
    rintro M1 rfl
    refine c8_ct1 d n kd th stp ngt Q h7 ht k _ (by omega) (RgM_c hC h7 (fun i _ _ => by rw [upd2_off (by omega)])) (fun t h10 => ?_) (fun M' g1 g2 => h M' (fun q hq => by rw [g1 q hq, upd2_off hq]) g2)
    by_cases c : t = 10 - (k + 1)
    · rw [c, upd2_at]
    · rw [upd2_row c]; exact hc t (by omega)
theorem c8_countsThere (d n : Nat) (kd th : Nat → Nat) (stp ngt : Nat) (M : Mm) (Q : Int32 → Mm → Prop) (h7 : n ≤ 7) (ht : okT n th) (hC : RgM M 0 n kd th stp ngt) (h : ∀ M', (∀ q, q ≠ 56 → M' q = M q) → (∀ t, t < 10 → M' 56 t = nI (cF th n n t)) → Q 0 M') : kX8_countsThere d M Q := by
  apply rX8_countsThere
  exact c8_ct1 d n kd th stp ngt Q h7 ht 10 M (by omega) hC (fun t h => by omega) h
/-- the place -/
def plI (c : Nat → Nat) (lf its : Nat) : Nat → Nat → Nat
  | 0, acc => acc
  | k + 1, acc => plI c lf its k (if c (its - (k + 1)) = 0 then acc else acc + Wy lf (if 0 = its - (k + 1) then c 0 - 1 else c 0))
def plO (th : Nat → Nat) (n : Nat) : Nat → Nat → Nat
  | 0, acc => acc
  | k + 1, acc => plO th n k (plI (cF th n (k + 1)) k (th (n - (k + 1))) (th (n - (k + 1))) acc)
theorem dec_1 {a : Nat} (h : a ≠ 0) : nI a - 1 = nI (a - 1) := by rw [li_1, pk_sub (by omega)]
theorem c3_plI (d n k its : Nat) (c : Nat → Nat) (Q : Int32 → Mm → Prop) (h7 : n ≤ 7) (hk : k < n) (hits : its ≤ 9) (hs : fb_sm c 10 = k + 1) : ∀ (j acc : Nat) (M : Mm), j ≤ its → M 23 2 = nI n → (∀ t, t < 10 → M 45 t = nI (c t)) → (∀ M', (∀ q, q ≠ 45 → M' q = M q) → (∀ t, t < 10 → M' 45 t = nI (c t)) → BX3_placeOf (d + 1) 28 [(0, .ref 43), (1, .ref 23), (2, .int (nI (plI c k its j acc))), (3, .int (nI (n - (k + 1)))), (4, .int (nI its)), (5, .int (nI its))] [] M' Q) → BX3_placeOf (d + 1) 28 [(0, .ref 43), (1, .ref 23), (2, .int (nI acc)), (3, .int (nI (n - (k + 1)))), (4, .int (nI its)), (5, .int (nI (its - j)))] [] M Q
  | 0, acc, M, _, hn, hM, h => h M (fun _ _ => rfl) hM
  | j + 1, acc, M, hj, hn, hM, h => by
    apply rX3_placeOf_28 _ _ rg23
    have e : its - (j + 1) + 1 = its - j := by omega
    have b := sm_ge c 10 (its - (j + 1)) (by omega)
    have b0 := sm_ge c 10 0 (by omega)
    rw [show nI (its - (j + 1)) + 1 = nI (its - j) by rw [nI_1, e], nI_clamp (show its - (j + 1) < 2 ^ 31 by omega), hM (its - (j + 1)) (by omega)]
    refine ⟨fun q => absurd q (nI_ge (by omega) (by omega)), fun _ => ⟨vp_in_nI (by omega) (by omega), fun q => ?_, fun q => ⟨vp_in_nI (by omega) (by omega), vp_in_nI (by omega) (by omega), ?_⟩⟩⟩
    · have z : c (its - (j + 1)) = 0 := by
        rcases Nat.eq_zero_or_pos (c (its - (j + 1))) with w | w
        · exact w
        · exact absurd q (by rw [li_0]; exact nI_ge w (by omega))
      rw [plI, if_pos z] at h
      exact c3_plI d n k its c Q h7 hk hits hs j acc M (by omega) hn hM h
    · have z : c (its - (j + 1)) ≠ 0 := fun w => q (by rw [w, li_0]; exact nI_le (by omega) (by omega))
      rw [plI, if_neg z] at h
      rintro M2 rfl
      rw [dec_1 z, upd2_off (by omega), hn, show nI n - 1 - nI (n - (k + 1)) = nI k by rw [dec_1 (by omega), pk_sub (by omega)]; congr 1; omega]
      have su := fb_sm_upd c (c (its - (j + 1)) - 1) (i := its - (j + 1)) (n := 10) (by omega)
      have s0 := sm_ge (fun t => if t = its - (j + 1) then c (its - (j + 1)) - 1 else c t) 10 0 (by omega)
      have z0 : (if 0 = its - (j + 1) then c 0 - 1 else c 0) ≤ k := by
        by_cases w : 0 = its - (j + 1)
        · rw [if_pos w]; omega
        · rw [if_neg w]
          have s1 : c 0 ≤ fb_sm (fun t => if t = its - (j + 1) then c (its - (j + 1)) - 1 else c t) 10 := by
            have := s0
            rw [if_neg w] at this
            exact this
          omega
      refine c3_ways d k (if 0 = its - (j + 1) then c 0 - 1 else c 0) _ _ (by omega) z0 ?_ ⟨vp_in_nI (by omega) (by omega), vp_in_nI (by omega) (by omega), ?_⟩
      · rw [upd2_r]
        by_cases w : 0 = its - (j + 1)
        · rw [if_pos w, if_pos w, ← w]
        · rw [if_neg w, if_neg w, hM 0 (by omega)]
      · rintro M4 rfl
        rw [nI_add]
        refine c3_plI d n k its c Q h7 hk hits hs j _ _ (by omega) (by rw [upd2_off (by omega), upd2_off (by omega)]; exact hn) (fun t h10 => ?_) (fun M' g1 g2 => h M' (fun q hq => by rw [g1 q hq, upd2_off hq, upd2_off hq]) g2)
        by_cases w : t = its - (j + 1)
        · rw [w, upd2_at, upd2_at, nI_1]
          congr 1
          omega
        · rw [upd2_row w, upd2_row w]; exact hM t h10
theorem c3_plO (d n : Nat) (kd th : Nat → Nat) (stp ngt : Nat) (Q : Int32 → Mm → Prop) (h7 : n ≤ 7) (ht : okT n th) : ∀ (k acc : Nat) (M : Mm), k ≤ n → RgC M 23 n kd th stp ngt → (∀ t, t < 10 → M 45 t = nI (cF th n k t)) → (∀ M', (∀ q, q ≠ 45 → M' q = M q) → Q (nI (plO th n k acc)) M') → BX3_placeOf (d + 1) 9 [(0, .ref 43), (1, .ref 23), (2, .int (nI acc)), (3, .int (nI (n - k)))] [] M Q
  | 0, acc, M, _, hC, hc, h => by
    apply rX3_placeOf_9 _ _ rg23
    rw [hC.1]
    exact ⟨fun _ => h M (fun _ _ => rfl), fun q => absurd (nI_le (by omega) (by omega)) q⟩
  | k + 1, acc, M, hk, hC, hc, h => by
    apply rX3_placeOf_9 _ _ rg23
    have e : n - (k + 1) + 1 = n - k := by omega
    have et : M (23 + 2) (n - (k + 1)) = nI (th (n - (k + 1))) := hC.2.2.2.2 (n - (k + 1)) (by omega)
    have bt := ht (n - (k + 1)) (by omega)
    rw [hC.1, nI_clamp (by omega), et]
    refine ⟨fun q => absurd q (nI_ge (by omega) (by omega)), fun _ => ⟨vp_in_nI (by omega) (by omega), ?_⟩⟩
    have := c3_plI d n k (th (n - (k + 1))) (cF th n (k + 1)) Q h7 (by omega) bt (cF_sum ht (k + 1) hk) (th (n - (k + 1))) acc M (Nat.le_refl _) hC.1 hc (fun M1 g1 g2 => ?_)
    · rw [Nat.sub_self] at this
      exact this
    · apply rX3_placeOf_28 _ _ rg23
      have p : cF th n (k + 1) (th (n - (k + 1))) = cF th n k (th (n - (k + 1))) + 1 := by rw [cF, if_pos rfl]
      rw [nI_clamp (by omega), g2 _ (by omega), dec_1 (by omega), nI_1, e]
      refine ⟨fun _ => ⟨vp_in_nI (by omega) (by omega), vp_in_nI (by omega) (by omega), ?_⟩, fun q => absurd (nI_le (by omega) (by omega)) q⟩
      rintro M2 rfl
      refine c3_plO d n kd th stp ngt Q h7 ht k _ _ (by omega) (RgC_c hC (by rw [upd2_off (by omega), g1 _ (by omega)]) (by rw [upd2_off (by omega), g1 _ (by omega)]) (by rw [upd2_off (by omega), g1 _ (by omega)])) (fun t h10 => ?_) (fun M' y1 => h M' (fun q hq => by rw [y1 q hq, upd2_off hq, g1 q hq]))
      by_cases w : t = th (n - (k + 1))
      · rw [w, upd2_at, p]; rfl
      · rw [upd2_row w, g2 t h10, cF, if_neg (fun z => w z.symm), Nat.add_zero]
theorem c3_placeOf (d n : Nat) (kd th : Nat → Nat) (stp ngt : Nat) (M : Mm) (Q : Int32 → Mm → Prop) (h7 : n ≤ 7) (ht : okT n th) (hC : RgC M 23 n kd th stp ngt) (h : ∀ M', (∀ q, q ≠ 45 → M' q = M q) → Q (nI (plO th n n 0)) M') : kX3_placeOf (d + 2) 23 M Q := by
  apply rX3_placeOf _ _ rg23
  refine c3_tally d n kd th stp ngt M _ h7 ht hC (fun M1 g1 g2 => ?_)
  have := c3_plO (d + 1) n kd th stp ngt Q h7 ht n 0 M1 (Nat.le_refl _) (RgC_c hC (g1 _ (by omega)) (g1 _ (by omega)) (g1 _ (by omega))) g2 (fun M' y => h M' (fun q hq => by rw [y q hq, g1 q hq]))
  rw [Nat.sub_self] at this
  exact this
theorem c3_howMany (d n : Nat) (kd th : Nat → Nat) (stp ngt : Nat) (M : Mm) (Q : Int32 → Mm → Prop) (h7 : n ≤ 7) (ht : okT n th) (hC : RgC M 23 n kd th stp ngt) (h : ∀ M', (∀ q, q ≠ 45 → M' q = M q) → (∀ t, t < 10 → M' 45 t = nI (cF th n n t)) → Q (nI (Wy n (cF th n n 0))) M') : kX3_howMany (d + 2) 23 M Q := by
  apply rX3_howMany _ _ rg23
  refine c3_tally d n kd th stp ngt M _ h7 ht hC (fun M1 g1 g2 => ?_)
  rw [g1 23 (by omega), hC.1]
  have := cF_le ht (Nat.le_refl n) (show 0 < 10 by omega)
  exact c3_ways _ n (cF th n n 0) _ _ (by omega) (by omega) (g2 0 (by omega)) (h M1 g1 g2)
/-- the reference's place -/
theorem c8_plI (d n k its : Nat) (c : Nat → Nat) (Q : Int32 → Mm → Prop) (h7 : n ≤ 7) (hk : k < n) (hits : its ≤ 9) (hs : fb_sm c 10 = k + 1) : ∀ (j acc : Nat) (M : Mm), j ≤ its → (∀ t, t < 10 → M 56 t = nI (c t)) → (∀ M', (∀ q, q ≠ 56 → M' q = M q) → (∀ t, t < 10 → M' 56 t = nI (c t)) → BX8_placeOf (d + 1) 33 [(0, .ref 49), (1, .int 0), (2, .int (nI (plI c k its j acc))), (3, .int (nI (n - (k + 1)))), (4, .int (nI its)), (5, .int (nI its))] [] M' Q) → BX8_placeOf (d + 1) 33 [(0, .ref 49), (1, .int 0), (2, .int (nI acc)), (3, .int (nI (n - (k + 1)))), (4, .int (nI its)), (5, .int (nI (its - j)))] [] M Q
  | 0, acc, M, _, hM, h => h M (fun _ _ => rfl) hM
  | j + 1, acc, M, hj, hM, h => by
    apply rX8_placeOf_33
    have e : its - (j + 1) + 1 = its - j := by omega
    have b := sm_ge c 10 (its - (j + 1)) (by omega)
    rw [show nI (its - (j + 1)) + 1 = nI (its - j) by rw [nI_1, e], nI_clamp (show its - (j + 1) < 2 ^ 31 by omega), hM (its - (j + 1)) (by omega)]
    refine ⟨fun q => absurd q (nI_ge (by omega) (by omega)), fun _ => ⟨vp_in_nI (by omega) (by omega), fun q => ?_, fun q => ⟨vp_in_nI (by omega) (by omega), vp_in_nI (by omega) (by omega), ?_⟩⟩⟩
    · have z : c (its - (j + 1)) = 0 := by
        rcases Nat.eq_zero_or_pos (c (its - (j + 1))) with w | w
        · exact w
        · exact absurd q (by rw [li_0]; exact nI_ge w (by omega))
      rw [plI, if_pos z] at h
      exact c8_plI d n k its c Q h7 hk hits hs j acc M (by omega) hM h
    · have z : c (its - (j + 1)) ≠ 0 := fun w => q (by rw [w, li_0]; exact nI_le (by omega) (by omega))
      rw [plI, if_neg z] at h
      rintro M2 rfl
      rw [dec_1 z]
      have su := fb_sm_upd c (c (its - (j + 1)) - 1) (i := its - (j + 1)) (n := 10) (by omega)
      refine c8_rowsOf d k (fun t => if t = its - (j + 1) then c (its - (j + 1)) - 1 else c t) _ _ (by omega) (fun t h10 => ?_) (by omega) ⟨vp_in_nI (by omega) (by omega), vp_in_nI (by omega) (by omega), ?_⟩
      · rw [upd2_r]
        by_cases w : t = its - (j + 1)
        · rw [if_pos w, if_pos w]
        · rw [if_neg w, if_neg w, hM t h10]
      · rintro M4 rfl
        rw [nI_add]
        have eW : (if 0 = its - (j + 1) then c (its - (j + 1)) - 1 else c 0) = if 0 = its - (j + 1) then c 0 - 1 else c 0 := by
          by_cases w : 0 = its - (j + 1)
          · rw [if_pos w, if_pos w, ← w]
          · rw [if_neg w, if_neg w]
        rw [eW]
        refine c8_plI d n k its c Q h7 hk hits hs j _ _ (by omega) (fun t h10 => ?_) (fun M' g1 g2 => h M' (fun q hq => by rw [g1 q hq, upd2_off hq, upd2_off hq]) g2)
        by_cases w : t = its - (j + 1)
        · rw [w, upd2_at, upd2_at, nI_1]
          congr 1
          omega
        · rw [upd2_row w, upd2_row w]; exact hM t h10
theorem c8_plO (d n : Nat) (kd th : Nat → Nat) (stp ngt : Nat) (Q : Int32 → Mm → Prop) (h7 : n ≤ 7) (ht : okT n th) : ∀ (k acc : Nat) (M : Mm), k ≤ n → RgM M 0 n kd th stp ngt → (∀ t, t < 10 → M 56 t = nI (cF th n k t)) → (∀ M', (∀ q, q ≠ 56 → M' q = M q) → Q (nI (plO th n k acc)) M') → BX8_placeOf (d + 1) 8 [(0, .ref 49), (1, .int 0), (2, .int (nI acc)), (3, .int (nI (n - k)))] [] M Q
  | 0, acc, M, _, hC, hc, h => by
    apply rX8_placeOf_8
    have e0 : M 50 0 = nI n := hC.1
    rw [clamp0, e0]
    exact ⟨vp_in_nI (n := 0) (by omega) (by omega), fun _ => h M (fun _ _ => rfl), fun q => absurd (nI_le (by omega) (by omega)) q⟩
  | k + 1, acc, M, hk, hC, hc, h => by
    apply rX8_placeOf_8
    have e0 : M 50 0 = nI n := hC.1
    have e : n - (k + 1) + 1 = n - k := by omega
    have et : M 50 (0 + 3 + (n - (k + 1))) = nI (th (n - (k + 1))) := hC.2.2.2.1 (n - (k + 1)) (by omega)
    rw [Nat.zero_add] at et
    have bt := ht (n - (k + 1)) (by omega)
    rw [clamp0, e0, show (0 : Int32) + 3 + nI (n - (k + 1)) = nI (3 + (n - (k + 1))) by rw [show (0 : Int32) + 3 = nI 3 from rfl, nI_add], nI_clamp (by omega), et]
    refine ⟨vp_in_nI (n := 0) (by omega) (by omega), fun q => absurd q (nI_ge (by omega) (by omega)), fun _ => ⟨vp_in_nI (by omega) (by omega), ?_⟩⟩
    have := c8_plI d n k (th (n - (k + 1))) (cF th n (k + 1)) Q h7 (by omega) bt (cF_sum ht (k + 1) hk) (th (n - (k + 1))) acc M (Nat.le_refl _) hc (fun M1 g1 g2 => ?_)
    · rw [Nat.sub_self] at this
      exact this
    · apply rX8_placeOf_33
      have p : cF th n (k + 1) (th (n - (k + 1))) = cF th n k (th (n - (k + 1))) + 1 := by rw [cF, if_pos rfl]
      rw [nI_clamp (by omega), g2 _ (by omega), dec_1 (by omega), nI_1, e]
      refine ⟨fun _ => ⟨vp_in_nI (by omega) (by omega), vp_in_nI (by omega) (by omega), ?_⟩, fun q => absurd (nI_le (by omega) (by omega)) q⟩
      rintro M2 rfl
      refine c8_plO d n kd th stp ngt Q h7 ht k _ _ (by omega) (RgM_c hC h7 (fun i _ _ => by rw [upd2_off (by omega), g1 _ (by omega)])) (fun t h10 => ?_) (fun M' y1 => h M' (fun q hq => by rw [y1 q hq, upd2_off hq, g1 q hq]))
      by_cases w : t = th (n - (k + 1))
      · rw [w, upd2_at, p]; rfl
      · rw [upd2_row w, g2 t h10, cF, if_neg (fun z => w z.symm), Nat.add_zero]
/-- at home -/
def hmS (th : Nat → Nat) (n : Nat) : Nat → Nat → Nat
  | 0, acc => acc
  | k + 1, acc => hmS th n k (if th (n - (k + 1)) = n - (k + 1) + 1 then acc + 1 else acc)
theorem c4_hm (d n : Nat) (kd th : Nat → Nat) (stp ngt : Nat) (M : Mm) (Q : Int32 → Mm → Prop) (h7 : n ≤ 7) (ht : okT n th) (hC : RgC M 23 n kd th stp ngt) : ∀ (k acc : Nat), k ≤ n → Q (nI (hmS th n k acc)) M → BX4_atHome d 4 [(0, .ref 23), (1, .int (nI acc)), (2, .int (nI (n - k)))] [] M Q
  | 0, acc, _, h => by
    apply rX4_atHome_4 _ _ rg23
    rw [hC.1]
    exact ⟨fun _ => h, fun q => absurd (nI_le (by omega) (by omega)) q⟩
  | k + 1, acc, hk, h => by
    apply rX4_atHome_4 _ _ rg23
    have e : n - (k + 1) + 1 = n - k := by omega
    have et : M (23 + 2) (n - (k + 1)) = nI (th (n - (k + 1))) := hC.2.2.2.2 (n - (k + 1)) (by omega)
    have bt := ht (n - (k + 1)) (by omega)
    rw [hC.1, nI_clamp (by omega), et, nI_1, nI_1]
    refine ⟨fun q => absurd q (nI_ge (by omega) (by omega)), fun _ => ⟨vp_in_nI (by omega) (by omega), fun q => ?_, fun q => ?_⟩⟩
    · rw [hmS, if_neg (fun z => q (by rw [z]))] at h
      rw [e]
      exact c4_hm d n kd th stp ngt M Q h7 ht hC k acc (by omega) h
    · rw [hmS, if_pos ((nI_eq (by omega) (by omega)).mp q)] at h
      rw [e]
      exact c4_hm d n kd th stp ngt M Q h7 ht hC k (acc + 1) (by omega) h
theorem c8_hm (d n : Nat) (kd th : Nat → Nat) (stp ngt : Nat) (M : Mm) (Q : Int32 → Mm → Prop) (h7 : n ≤ 7) (ht : okT n th) (hC : RgM M 0 n kd th stp ngt) : ∀ (k acc : Nat), k ≤ n → Q (nI (hmS th n k acc)) M → BX8_atHome d 4 [(0, .ref 49), (1, .int (nI acc)), (2, .int (nI (n - k)))] [] M Q
  | 0, acc, _, h => by
    apply rX8_atHome_4
    have e0 : M 50 0 = nI n := hC.1
    rw [clamp0, e0]
    exact ⟨vp_in_nI (n := 0) (by omega) (by omega), fun _ => h, fun q => absurd (nI_le (by omega) (by omega)) q⟩
  | k + 1, acc, hk, h => by
    apply rX8_atHome_4
    have e0 : M 50 0 = nI n := hC.1
    have e : n - (k + 1) + 1 = n - k := by omega
    have et : M 50 (0 + 3 + (n - (k + 1))) = nI (th (n - (k + 1))) := hC.2.2.2.1 (n - (k + 1)) (by omega)
    rw [Nat.zero_add] at et
    have bt := ht (n - (k + 1)) (by omega)
    rw [clamp0, e0, show (3 : Int32) + nI (n - (k + 1)) = nI (3 + (n - (k + 1))) by rw [li_3, nI_add], nI_clamp (by omega), et, show nI acc + 0 = nI acc by rw [li_0, nI_add]; rfl, nI_1, nI_1]
    refine ⟨vp_in_nI (n := 0) (by omega) (by omega), fun q => absurd q (nI_ge (by omega) (by omega)), fun _ => ⟨vp_in_nI (by omega) (by omega), fun q => ?_, fun q => ?_⟩⟩
    · rw [hmS, if_neg (fun z => q (by rw [z]))] at h
      rw [e]
      exact c8_hm d n kd th stp ngt M Q h7 ht hC k acc (by omega) h
    · rw [hmS, if_pos ((nI_eq (by omega) (by omega)).mp q)] at h
      rw [e]
      exact c8_hm d n kd th stp ngt M Q h7 ht hC k (acc + 1) (by omega) h
theorem L_home (v1 : Int32) (M : Mm) (hI : Inv M) : kX7_home 40 v1 M (fun r1 M1 => kX8_home 40 v1 M1 (fun r2 M2 => r1 = r2 ∧ Inv M2)) := by
  obtain ⟨n, kd, th, stp, ngt, hC, hM, hok, -⟩ := hI.2.2.1
  have h7 := okR_7 hok
  have e0 : M 50 0 = nI n := hM.1
  apply rX7_home
  rw [hC.1]
  have vp0 : vp_in 0 301 := vp_in_nI (n := 0) (by omega) (by omega)
  refine ⟨fun hz => ?_, fun hz => ?_⟩
  · have ht := (okR_T hok).1
    have fr : ∀ (M' : Mm) (q : Nat), (∀ k, k ≠ 45 → M' k = M k) → RgM M' 0 n kd th stp ngt := fun M' q h => RgM_c hM h7 (fun i _ _ => by rw [h 50 (by omega)])
    have sc1 : ∀ (M' : Mm) (j : Nat), (j = 45 ∨ j = 56) → (∀ k, k ≠ j → M' k = M k) → scr M M' := fun M' j hj h => scr_of (fun k hk => h k (fun z => hk (by unfold wk; omega)))
    refine ⟨fun e => ?_, fun e => ?_, fun e => ?_, fun q => ?_⟩
    · subst e
      apply rX4_atHome _ _ rg23
      have := c4_hm 39 n kd th stp ngt M (fun r1 M1 => kX8_home 40 0 M1 (fun r2 M2 => r1 = r2 ∧ Inv M2)) h7 ht hC n 0 (Nat.le_refl _) ?_
      · rw [Nat.sub_self] at this
        exact this
      · apply rX8_home
        rw [clamp0, e0]
        refine ⟨vp0, fun _ => ⟨fun z => absurd rfl z, fun _ => ?_⟩, fun z => absurd z hz⟩
        apply rX8_atHome
        have := c8_hm 39 n kd th stp ngt M (fun r2 M2 => nI (hmS th n n 0) = r2 ∧ Inv M2) h7 ht hM n 0 (Nat.le_refl _) ⟨rfl, hI⟩
        rw [Nat.sub_self] at this
        exact this
    · subst e
      refine c3_placeOf 37 n kd th stp ngt M _ h7 ht hC (fun M1 g => ?_)
      apply rX8_home
      rw [clamp0, g 50 (by omega), e0]
      refine ⟨vp0, fun _ => ⟨fun _ => ⟨fun z => absurd rfl z, fun _ => ?_⟩, fun z => absurd z (by decide)⟩, fun z => absurd z hz⟩
      apply rX8_placeOf
      refine c8_countsThere _ n kd th stp ngt M1 _ h7 ht (fr M1 0 g) (fun M2 y1 y2 => ?_)
      have := c8_plO 38 n kd th stp ngt (fun r2 M2 => nI (plO th n n 0) = r2 ∧ Inv M2) h7 ht n 0 M2 (Nat.le_refl _) (RgM_c hM h7 (fun i _ _ => by rw [y1 50 (by omega), g 50 (by omega)])) y2 (fun M3 y3 => ⟨rfl, ?_⟩)
      · rw [Nat.sub_self] at this
        exact this
      · exact Inv_s hI (scr_of (fun k hk => by rw [y3 k (fun z => hk (by unfold wk; omega)), y1 k (fun z => hk (by unfold wk; omega)), g k (fun z => hk (by unfold wk; omega))]))
    · subst e
      refine c3_howMany 37 n kd th stp ngt M _ h7 ht hC (fun M1 g _ => ?_)
      apply rX8_home
      rw [clamp0, g 50 (by omega), e0]
      refine ⟨vp0, fun _ => ⟨fun _ => ⟨fun _ => ⟨fun z => absurd rfl z, fun _ => ?_⟩, fun z => absurd z (by decide)⟩, fun z => absurd z (by decide)⟩, fun z => absurd z hz⟩
      apply rX8_allRows
      refine c8_countsThere _ n kd th stp ngt M1 _ h7 ht (fr M1 0 g) (fun M2 y1 y2 => ?_)
      refine c8_rowsOf _ n (cF th n n) M2 _ h7 y2 (cF_sum ht n (Nat.le_refl _)) ⟨rfl, ?_⟩
      exact Inv_s hI (scr_of (fun k hk => by rw [y1 k (fun z => hk (by unfold wk; omega)), g k (fun z => hk (by unfold wk; omega))]))
    · apply rX8_home
      rw [clamp0, e0]
      exact ⟨vp0, fun _ => ⟨fun _ => ⟨fun _ => ⟨fun _ => ⟨rfl, hI⟩, fun z => absurd z q.2.2⟩, fun z => absurd z q.2.1⟩, fun z => absurd z q.1⟩, fun z => absurd z hz⟩
  · apply rX8_home
    rw [clamp0, e0]
    exact ⟨vp0, fun z => absurd hz z, fun _ => ⟨rfl, hI⟩⟩
