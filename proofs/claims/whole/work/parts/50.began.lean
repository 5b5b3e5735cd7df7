/-! BEGAN: rows are laid, and the next is found -/
theorem sm_mono (c : Nat → Nat) (t : Nat) : ∀ m, fb_sm c t ≤ fb_sm c (t + m)
  | 0 => Nat.le_refl _
  | m + 1 => Nat.le_trans (sm_mono c t m) (by rw [← Nat.add_assoc, fb_sm_succ]; omega)
theorem sm_mono' {c : Nat → Nat} {t u : Nat} (h : t ≤ u) : fb_sm c t ≤ fb_sm c u := by
  have := sm_mono c t (u - t)
  rw [show t + (u - t) = u by omega] at this
  exact this
def blk (c : Nat → Nat) (i : Nat) : Nat → Nat
  | 0 => 0
  | t + 1 => if fb_sm c t ≤ i then t else blk c i t
theorem blk_eq {c : Nat → Nat} {i t : Nat} (h1 : fb_sm c t ≤ i) (h2 : i < fb_sm c (t + 1)) : ∀ m, t < m → blk c i m = t
  | 0, h => by omega
  | m + 1, h => by
    rw [blk]
    by_cases e : t = m
    · rw [← e, if_pos h1]
    · have := sm_mono' (c := c) (t := t + 1) (u := m) (by omega)
      rw [if_neg (by omega), blk_eq h1 h2 m (by omega)]
theorem blk_in {c : Nat → Nat} {i : Nat} : ∀ m, i < fb_sm c m → ∃ t, t < m ∧ fb_sm c t ≤ i ∧ i < fb_sm c (t + 1)
  | 0, h => by rw [fb_sm] at h; omega
  | m + 1, h => by
    by_cases e : fb_sm c m ≤ i
    · exact ⟨m, by omega, e, h⟩
    · obtain ⟨t, a, b⟩ := blk_in (c := c) (i := i) m (by omega)
      exact ⟨t, by omega, b⟩
theorem blk_mono {c : Nat → Nat} {i j : Nat} (hc : ∀ t, 1 ≤ t → t < 10 → c t ≤ 1) (hij : i < j) (hj : j < fb_sm c 10) : blk c i 10 < blk c j 10 ∨ (blk c i 10 = 0 ∧ blk c j 10 = 0) := by
  obtain ⟨t, a1, a2, a3⟩ := blk_in 10 (show i < fb_sm c 10 by omega)
  obtain ⟨u, b1, b2, b3⟩ := blk_in 10 hj
  rw [blk_eq a2 a3 10 a1, blk_eq b2 b3 10 b1]
  rcases Nat.lt_trichotomy t u with w | w | w
  · exact Or.inl w
  · subst w
    rw [fb_sm_succ] at b3 a3
    rcases Nat.eq_zero_or_pos t with z | z
    · exact Or.inr ⟨z, z⟩
    · have := hc t (by omega) a1
      omega
  · have := sm_mono' (c := c) (t := u + 1) (u := t) (by omega)
    omega
/-- the class lays -/
theorem c3_f22 (d t : Nat) (c : Nat → Nat) (v2 : Int32) (Q : Int32 → Mm → Prop) (ht : t < 10) (h7 : fb_sm c 10 ≤ 7) : ∀ (k e : Nat) (M : Mm), e + k = c t → M 43 2 = nI (fb_sm c t + e) → (∀ u, u < 10 → M 45 u = nI (c u)) → (∀ i, i < fb_sm c t + e → M 44 i = nI (blk c i 10)) → (∀ M', (∀ q, q ≠ 43 → q ≠ 44 → M' q = M q) → M' 43 2 = nI (fb_sm c (t + 1)) → (∀ i, i < fb_sm c (t + 1) → M' 44 i = nI (blk c i 10)) → BX3_begin (d + 1) 13 [(0, .ref 43), (2, .int v2), (3, .int (nI (t + 1)))] [] M' Q) → BX3_begin (d + 1) 22 [(0, .ref 43), (2, .int v2), (3, .int (nI t)), (4, .int (nI e))] [] M Q
  | 0, e, M, he, h43, hc, h44, h => by
    apply rX3_begin_22
    have ct := sm_ge c 10 t ht
    have es : fb_sm c (t + 1) = fb_sm c t + e := by rw [fb_sm_succ]; omega
    rw [nI_clamp (by omega), hc t ht, nI_1]
    refine ⟨vp_in_nI ht (by omega), fun _ => h M (fun _ _ _ => rfl) (by rw [es]; exact h43) (by rw [es]; exact h44), fun q => absurd (nI_le (by omega) (by omega)) q⟩
  | k + 1, e, M, he, h43, hc, h44, h => by
    apply rX3_begin_22
    have ct := sm_ge c 10 t ht
    have mm := sm_mono' (c := c) (t := t + 1) (u := 10) (by omega)
    rw [fb_sm_succ] at mm
    rw [nI_clamp (by omega), hc t ht, h43]
    refine ⟨vp_in_nI ht (by omega), fun q => absurd q (nI_ge (by omega) (by omega)), fun _ => ⟨fun q => absurd q (by rw [li_7]; exact nI_ge (by omega) (by omega)), fun _ => ⟨vp_in_nI (by omega) (by omega), ?_⟩⟩⟩
    rw [nI_clamp (by omega), nI_1]
    rintro M1 rfl M2 rfl
    refine c3_f22 d t c v2 Q ht h7 k (e + 1) _ (by omega) ?_ (fun u hu => ?_) (fun i hi => ?_) (fun M' g1 g2 g3 => h M' (fun q a b => by rw [g1 q a b, upd2_off a, upd2_off b]) g2 g3)
    · rw [upd2_at, upd2_off (by omega), h43, nI_1]; rfl
    · rw [upd2_off (by omega), upd2_off (by omega)]; exact hc u hu
    · rw [upd2_off (by omega), upd2_r]
      by_cases ci : i = fb_sm c t + e
      · rw [if_pos ci, ci, blk_eq (c := c) (t := t) (by omega) (by rw [fb_sm_succ]; omega) 10 ht]
      · rw [if_neg ci]; exact h44 i (by omega)
theorem c3_f13 (d : Nat) (c : Nat → Nat) (v2 : Int32) (Q : Int32 → Mm → Prop) (h7 : fb_sm c 10 ≤ 7) : ∀ (k : Nat) (M : Mm), k ≤ 10 → M 43 2 = nI (fb_sm c (10 - k)) → (∀ u, u < 10 → M 45 u = nI (c u)) → (∀ i, i < fb_sm c (10 - k) → M 44 i = nI (blk c i 10)) → (∀ M', (∀ q, q ≠ 43 → q ≠ 44 → M' q = M q) → M' 43 2 = nI (fb_sm c 10) → (∀ i, i < fb_sm c 10 → M' 44 i = nI (blk c i 10)) → Q v2 M') → BX3_begin (d + 1) 13 [(0, .ref 43), (2, .int v2), (3, .int (nI (10 - k)))] [] M Q
  | 0, M, _, h43, hc, h44, h => by
    apply rX3_begin_13
    exact ⟨fun _ => h M (fun _ _ _ => rfl) h43 h44, fun q => absurd (by rw [li_9]; exact nI_lt (by omega) (by omega)) q⟩
  | k + 1, M, hk, h43, hc, h44, h => by
    apply rX3_begin_13
    refine ⟨fun q => absurd q (by rw [li_9]; exact nI_nlt (by omega) (by omega)), fun _ => ?_⟩
    refine c3_f22 d (10 - (k + 1)) c v2 Q (by omega) h7 (c (10 - (k + 1))) 0 M (by omega) h43 hc h44 (fun M' g1 g2 g3 => ?_)
    have e : 10 - (k + 1) + 1 = 10 - k := by omega
    rw [e] at g2 g3 ⊢
    exact c3_f13 d c v2 Q h7 k M' (by omega) g2 (fun u hu => by rw [g1 45 (by omega) (by omega)]; exact hc u hu) g3 (fun M2 y1 y2 y3 => h M2 (fun q a b => by rw [y1 q a b, g1 q a b]) y2 y3)
theorem c3_begin (d n : Nat) (kd th : Nat → Nat) (stp ngt : Nat) (M : Mm) (Q : Int32 → Mm → Prop) (h7 : n ≤ 7) (ht : okT n th) (hC : RgC M 23 n kd th stp ngt) (h : ∀ M', (∀ q, q ≠ 43 → q ≠ 44 → q ≠ 45 → M' q = M q) → M' 43 2 = nI n → (∀ i, i < n → M' 44 i = nI (blk (cF th n n) i 10)) → Q (nI (Wy n (cF th n n 0))) M') : kX3_begin (d + 3) 23 M Q := by
  apply rX3_begin _ _ rg23
  refine c3_howMany d n kd th stp ngt M _ h7 ht hC (fun M1 g1 g2 => ?_)
  rintro M2 rfl
  have s10 := cF_sum ht n (Nat.le_refl n)
  have := c3_f13 (d + 2) (cF th n n) (nI (Wy n (cF th n n 0))) Q (by omega) 10 (upd2 M1 43 2 0) (Nat.le_refl _) (by rw [upd2_at]; rfl) (fun u hu => by rw [upd2_off (by omega)]; exact g2 u hu) (fun i hi => by rw [Nat.sub_self, fb_sm] at hi; omega) (fun M' y1 y2 y3 => ?_)
  · exact this
  · rw [s10] at y2 y3
    exact h M' (fun q a b c => by rw [y1 q a b, upd2_off a, g1 q c]) y2 y3
/-- the reference lays -/
theorem c8_f41 (d t : Nat) (c : Nat → Nat) (v1 v2 v3 v4 v5 : Int32) (Q : Int32 → Mm → Prop) (ht : t < 10) (h7 : fb_sm c 10 ≤ 7) : ∀ (k e : Nat) (M : Mm), e + k = c t → (∀ u, u < 10 → M 56 u = nI (c u)) → (∀ i, i < fb_sm c t + e → M 63 i = nI (blk c i 10)) → (∀ M', (∀ q, q ≠ 63 → M' q = M q) → (∀ i, i < fb_sm c (t + 1) → M' 63 i = nI (blk c i 10)) → BX8_began (d + 1) 31 [(0, .ref 49), (1, .int v1), (2, .int v2), (3, .int v3), (4, .int v4), (5, .int v5), (7, .int (nI (fb_sm c (t + 1)))), (8, .int (nI (t + 1)))] [] M' Q) → BX8_began (d + 1) 41 [(0, .ref 49), (1, .int v1), (2, .int v2), (3, .int v3), (4, .int v4), (5, .int v5), (7, .int (nI (fb_sm c t + e))), (8, .int (nI t)), (9, .int (nI e))] [] M Q
  | 0, e, M, he, hc, h44, h => by
    apply rX8_began_41
    have ct := sm_ge c 10 t ht
    have es : fb_sm c (t + 1) = fb_sm c t + e := by rw [fb_sm_succ]; omega
    rw [nI_clamp (by omega), hc t ht, nI_1]
    rw [es] at h
    exact ⟨vp_in_nI ht (by omega), fun _ => h M (fun _ _ => rfl) h44, fun q => absurd (nI_le (by omega) (by omega)) q⟩
  | k + 1, e, M, he, hc, h44, h => by
    apply rX8_began_41
    have ct := sm_ge c 10 t ht
    have mm := sm_mono' (c := c) (t := t + 1) (u := 10) (by omega)
    rw [fb_sm_succ] at mm
    rw [nI_clamp (by omega), hc t ht]
    refine ⟨vp_in_nI ht (by omega), fun q => absurd q (nI_ge (by omega) (by omega)), fun _ => ⟨vp_in_nI (by omega) (by omega), ?_⟩⟩
    rw [nI_clamp (by omega), nI_1, nI_1]
    rintro M1 rfl
    refine c8_f41 d t c v1 v2 v3 v4 v5 Q ht h7 k (e + 1) _ (by omega) (fun u hu => ?_) (fun i hi => ?_) (fun M' g1 g3 => h M' (fun q a => by rw [g1 q a, upd2_off a]) g3)
    · rw [upd2_off (by omega)]; exact hc u hu
    · rw [upd2_r]
      by_cases ci : i = fb_sm c t + e
      · rw [if_pos ci, ci, blk_eq (c := c) (t := t) (by omega) (by rw [fb_sm_succ]; omega) 10 ht]
      · rw [if_neg ci]; exact h44 i (by omega)
theorem c8_f31 (d : Nat) (c : Nat → Nat) (v1 v2 v3 v4 v5 : Int32) (Q : Int32 → Mm → Prop) (h7 : fb_sm c 10 ≤ 7) : ∀ (k : Nat) (M : Mm), k ≤ 10 → (∀ u, u < 10 → M 56 u = nI (c u)) → (∀ i, i < fb_sm c (10 - k) → M 63 i = nI (blk c i 10)) → (∀ M', (∀ q, q ≠ 63 → M' q = M q) → (∀ i, i < fb_sm c 10 → M' 63 i = nI (blk c i 10)) → BX8_began (d + 1) 90 [(0, .ref 49), (1, .int v1), (2, .int v2), (3, .int v3), (4, .int v4), (5, .int v5), (8, .int 0), (9, .int (-1000000)), (10, .int 0), (11, .int 1)] [] M' Q) → BX8_began (d + 1) 31 [(0, .ref 49), (1, .int v1), (2, .int v2), (3, .int v3), (4, .int v4), (5, .int v5), (7, .int (nI (fb_sm c (10 - k)))), (8, .int (nI (10 - k)))] [] M Q
  | 0, M, _, hc, h44, h => by
    apply rX8_began_31
    exact ⟨fun _ => h M (fun _ _ => rfl) h44, fun q => absurd (by rw [li_10]; exact nI_le (by omega) (by omega)) q⟩
  | k + 1, M, hk, hc, h44, h => by
    apply rX8_began_31
    refine ⟨fun q => absurd q (by rw [li_10]; exact nI_ge (by omega) (by omega)), fun _ => ?_⟩
    have := c8_f41 d (10 - (k + 1)) c v1 v2 v3 v4 v5 Q (by omega) h7 (c (10 - (k + 1))) 0 M (by omega) hc h44 (fun M' g1 g3 => ?_)
    · exact this
    · have e : 10 - (k + 1) + 1 = 10 - k := by omega
      rw [e] at g3 ⊢
      exact c8_f31 d c v1 v2 v3 v4 v5 Q h7 k M' (by omega) (fun u hu => by rw [g1 56 (by omega)]; exact hc u hu) g3 (fun M2 y1 y3 => h M2 (fun q a => by rw [y1 q a, g1 q a]) y3)
/-- the class's next -/
def b9 (n : Nat) (q : Nat → Nat) : Prop := ∀ i, i < n → q i ≤ 9
theorem c3_exch (d n a b : Nat) (q : Nat → Nat) (M : Mm) (Q : Int32 → Mm → Prop) (h7 : n ≤ 7) (ha : a < n) (hb : b < n) (hM : ∀ i, i < n → M 44 i = nI (q i)) (h : ∀ M', (∀ k, k ≠ 44 → M' k = M k) → (∀ i, i < n → M' 44 i = nI (swp q a b i)) → Q 0 M') : kX3_exchange d (nI a) (nI b) M Q := by
  apply rX3_exchange
  rw [nI_clamp (by omega), nI_clamp (by omega), hM a ha, hM b hb]
  refine ⟨vp_in_nI (by omega) (by omega), vp_in_nI (by omega) (by omega), vp_in_nI (by omega) (by omega), ?_⟩
  rintro M1 rfl
  refine ⟨vp_in_nI (by omega) (by omega), ?_⟩
  rintro M2 rfl
  refine h _ (fun k hk => by rw [upd2_off hk, upd2_off hk]) (fun i hi => ?_)
  unfold swp
  rw [upd2_r, upd2_r]
  by_cases c1 : i = b
  · rw [if_pos c1, if_pos c1]
  · rw [if_neg c1, if_neg c1]
    by_cases c2 : i = a
    · rw [if_pos c2, if_pos c2]
    · rw [if_neg c2, if_neg c2]; exact hM i hi
theorem rv_swp {q : Nat → Nat} {lo hi : Nat} (h : lo < hi) (i : Nat) : rvS (swp q lo hi) (lo + 1) (hi - 1) i = rvS q lo hi i := by
  unfold rvS swp
  by_cases c1 : lo + 1 ≤ i ∧ i ≤ hi - 1
  · rw [if_pos c1, if_neg (show ¬ lo + 1 + (hi - 1) - i = hi by omega), if_neg (show ¬ lo + 1 + (hi - 1) - i = lo by omega), if_pos (show lo ≤ i ∧ i ≤ hi by omega)]
    congr 1
    omega
  · rw [if_neg c1]
    by_cases c2 : i = hi
    · rw [if_pos c2, if_pos (by omega)]
      congr 1
      omega
    · rw [if_neg c2]
      by_cases c3 : i = lo
      · rw [if_pos c3, if_pos (by omega)]
        congr 1
        omega
      · rw [if_neg c3, if_neg (by omega)]
theorem rv_0 {q : Nat → Nat} {lo hi : Nat} (h : hi ≤ lo) (i : Nat) : rvS q lo hi i = q i := by
  unfold rvS
  by_cases c : lo ≤ i ∧ i ≤ hi
  · rw [if_pos c]
    congr 1
    omega
  · rw [if_neg c]
theorem c3_n90 (d n : Nat) (Q : Int32 → Mm → Prop) (h7 : n ≤ 7) : ∀ (m lo hi : Nat) (q : Nat → Nat) (M : Mm), hi ≤ lo + m → lo ≤ n → hi < n → (∀ i, i < n → M 44 i = nI (q i)) → (∀ M', (∀ k, k ≠ 44 → M' k = M k) → (∀ i, i < n → M' 44 i = nI (rvS q lo hi i)) → Q 0 M') → BX3_next (d + 1) 90 [(0, .ref 43), (3, .int (nI lo)), (4, .int (nI hi))] [] M Q := by
  intro m
  induction m with
  | zero =>
    intro lo hi q M hm hlo hhi hM h
    apply rX3_next_90
    exact ⟨fun _ => h M (fun _ _ => rfl) (fun i hi => by rw [rv_0 (by omega)]; exact hM i hi), fun z => absurd (nI_le (by omega) (by omega)) z⟩
  | succ m ih =>
    intro lo hi q M hm hlo hhi hM h
    apply rX3_next_90
    refine ⟨fun z => h M (fun _ _ => rfl) (fun i hi => ?_), fun z => ?_⟩
    · simp (disch := omega) only [nI_leI] at z
      rw [rv_0 z]; exact hM i hi
    · simp (disch := omega) only [nI_leI] at z
      refine c3_exch d n lo hi q M _ h7 (by omega) hhi hM (fun M1 g1 g2 => ?_)
      rw [nI_1, show nI hi + (-1) = nI (hi - 1) by rw [← dec_1 (by omega)]; exact (Int32.sub_eq_add_neg _ _).symm]
      exact ih (lo + 1) (hi - 1) (swp q lo hi) M1 (by omega) (by omega) (by omega) g2 (fun M' y1 y2 => h M' (fun k hk => by rw [y1 k hk, g1 k hk]) (fun i hi => by rw [y2 i hi, rv_swp (by omega)]))
theorem c3_n46 (d n a : Nat) (q : Nat → Nat) (M : Mm) (Q : Int32 → Mm → Prop) (h7 : n ≤ 7) (hq : b9 n q) (ha : a + 1 < n) (hr : q a < q (a + 1)) (hM : ∀ i, i < n → M 44 i = nI (q i)) : ∀ k, a + 2 ≤ k → k ≤ n → BX3_next (d + 1) 72 [(0, .ref 43), (1, .int (nI a)), (2, .int (nI (grS q a k)))] [] M Q → BX3_next (d + 1) 46 [(0, .ref 43), (1, .int (nI a)), (2, .int (nI (k - 1)))] [] M Q
  | 0, h, _, _ => by omega
  | k + 1, h1, h2, h => by
    apply rX3_next_46
    have b1 := hq a (by omega)
    have b2 := hq k (by omega)
    rw [Nat.add_sub_cancel, nI_clamp (by omega), nI_clamp (by omega), hM a (by omega), hM k (by omega)]
    rw [grS] at h
    refine ⟨fun z => absurd z (nI_ge (by omega) (by omega)), fun _ => ⟨vp_in_nI (by omega) (by omega), vp_in_nI (by omega) (by omega), fun z => ?_, fun z => ?_⟩⟩
    · simp (disch := omega) only [nI_ltI] at z
      rw [if_pos z] at h
      exact h
    · simp (disch := omega) only [nI_ltI] at z
      rw [if_neg z] at h
      have : k ≠ a + 1 := fun w => z (by rw [w]; exact hr)
      rw [show nI k + (-1) = nI (k - 1) by rw [← dec_1 (by omega)]; exact (Int32.sub_eq_add_neg _ _).symm]
      exact c3_n46 d n a q M Q h7 hq ha hr hM k (by omega) (by omega) h
theorem c3_n7 (d n : Nat) (q : Nat → Nat) (M : Mm) (Q : Int32 → Mm → Prop) (h7 : n ≤ 7) (hq : b9 n q) (hM : ∀ i, i < n → M 44 i = nI (q i)) : ∀ k, k < n → (match riS q k with | none => BX3_next (d + 1) 34 [(0, .ref 43), (1, .int (-1))] [] M Q | some a => BX3_next (d + 1) 34 [(0, .ref 43), (1, .int (nI a))] [] M Q) → BX3_next (d + 1) 7 [(0, .ref 43), (1, .int (nI k - 1))] [] M Q
  | 0, _, h => by
    apply rX3_next_7
    exact ⟨fun _ => h, fun z => absurd (by decide) z⟩
  | k + 1, hk, h => by
    apply rX3_next_7
    have b1 := hq k (by omega)
    have b2 := hq (k + 1) (by omega)
    rw [riS] at h
    rw [dec_1 (by omega), Nat.add_sub_cancel, nI_1, nI_clamp (by omega), nI_clamp (by omega), hM k (by omega), hM (k + 1) (by omega)]
    refine ⟨fun z => absurd z (nI_pos (by omega)), fun _ => ⟨vp_in_nI (by omega) (by omega), vp_in_nI (by omega) (by omega), fun z => ?_, fun z => ?_⟩⟩
    · simp (disch := omega) only [nI_ltI] at z
      rw [if_pos z] at h
      exact h
    · simp (disch := omega) only [nI_ltI] at z
      rw [if_neg z] at h
      rw [show nI k + (-1) = nI k - 1 from (Int32.sub_eq_add_neg _ _).symm]
      exact c3_n7 d n q M Q h7 hq hM k (by omega) h
theorem c3_next (d n : Nat) (q : Nat → Nat) (M : Mm) (Q : Int32 → Mm → Prop) (h2 : 2 ≤ n) (h7 : n ≤ 7) (hq : b9 n q) (h43 : M 43 2 = nI n) (hM : ∀ i, i < n → M 44 i = nI (q i)) (h : match nxR q n with | none => Q 0 M | some r => ∀ M', (∀ k, k ≠ 44 → M' k = M k) → (∀ i, i < n → M' 44 i = nI (r i)) → Q 0 M') : kX3_next (d + 1) M Q := by
  apply rX3_next
  rw [h43, show nI n - 2 = nI (n - 1) - 1 by rw [li_2, pk_sub h2, dec_1 (by omega)]; congr 1]
  refine c3_n7 d n q M Q h7 hq hM (n - 1) (by omega) ?_
  unfold nxR at h
  cases f : riS q (n - 1) with
  | none =>
    rw [f] at h
    apply rX3_next_34
    exact ⟨fun z => absurd z (by decide), fun _ => h⟩
  | some a =>
    rw [f] at h
    have fo := riS_ok f
    have go := grS_ok fo.2 n (by omega)
    apply rX3_next_34
    rw [h43, dec_1 (by omega)]
    refine ⟨fun _ => ?_, fun z => absurd (nI_pos' (by omega)) z⟩
    refine c3_n46 d n a q M Q h7 hq (by omega) fo.2 hM n (by omega) (Nat.le_refl n) ?_
    apply rX3_next_72
    refine c3_exch d n a (grS q a n) q M _ h7 (by omega) go.2 hM (fun M1 g1 g2 => ?_)
    rw [g1 43 (by omega), h43, dec_1 (by omega), nI_1]
    exact c3_n90 d n Q h7 n (a + 1) (n - 1) (swp q a (grS q a n)) M1 (by omega) (by omega) (by omega) g2 (fun M' y1 y2 => h M' (fun k hk => by rw [y1 k hk, g1 k hk]) y2)
/-- the reference's next -/
theorem c8_n100 (d n a : Nat) (Q : Int32 → Mm → Prop) (h7 : n ≤ 7) (ha : a + 1 < n) : ∀ (m k lo hi : Nat) (q : Nat → Nat) (M : Mm), lo = a + 1 + k → hi + k = n - 1 → hi ≤ lo + m → lo ≤ n → hi < n → (∀ i, i < n → M 63 i = nI (q i)) → (∀ M', (∀ k, k ≠ 63 → M' k = M k) → (∀ i, i < n → M' 63 i = nI (rvS q lo hi i)) → Q 1 M') → BX8_nextRow d 100 [(0, .ref 49), (1, .int (nI n)), (2, .int (nI a)), (5, .int (nI k))] [] M Q := by
  intro m
  induction m with
  | zero =>
    intro k lo hi q M e1 e2 hm hlo hhi hM h
    apply rX8_nextRow_100
    rw [dec_1 (by omega), pk_sub (by omega), nI_1, nI_add, show n - 1 - k = hi by omega, ← e1]
    exact ⟨fun _ => h M (fun _ _ => rfl) (fun i hi => by rw [rv_0 (by omega)]; exact hM i hi), fun z => absurd (nI_le (by omega) (by omega)) z⟩
  | succ m ih =>
    intro k lo hi q M e1 e2 hm hlo hhi hM h
    apply rX8_nextRow_100
    rw [dec_1 (by omega), pk_sub (by omega), nI_1, nI_add, show n - 1 - k = hi by omega, ← e1]
    refine ⟨fun z => h M (fun _ _ => rfl) (fun i hi => ?_), fun z => ?_⟩
    · simp (disch := omega) only [nI_leI] at z
      rw [rv_0 z]; exact hM i hi
    · simp (disch := omega) only [nI_leI] at z
      rw [nI_clamp (by omega), nI_clamp (by omega), hM lo (by omega), hM hi hhi, nI_1]
      refine ⟨vp_in_nI (by omega) (by omega), vp_in_nI (by omega) (by omega), vp_in_nI (by omega) (by omega), ?_⟩
      rintro M1 rfl
      refine ⟨vp_in_nI (by omega) (by omega), ?_⟩
      rintro M2 rfl
      refine ih (k + 1) (lo + 1) (hi - 1) (swp q lo hi) _ (by omega) (by omega) (by omega) (by omega) (by omega) (fun i hi2 => ?_) (fun M' y1 y2 => h M' (fun k hk => by rw [y1 k hk, upd2_off hk, upd2_off hk]) (fun i hi => by rw [y2 i hi, rv_swp (by omega)]))
      unfold swp
      rw [upd2_r, upd2_r]
      by_cases c1 : i = hi
      · rw [if_pos c1, if_pos c1]
      · rw [if_neg c1, if_neg c1]
        by_cases c2 : i = lo
        · rw [if_pos c2, if_pos c2]
        · rw [if_neg c2, if_neg c2]; exact hM i hi2
theorem c8_n48 (d n a : Nat) (q : Nat → Nat) (M : Mm) (Q : Int32 → Mm → Prop) (h7 : n ≤ 7) (hq : b9 n q) (ha : a + 1 < n) (hr : q a < q (a + 1)) (hM : ∀ i, i < n → M 63 i = nI (q i)) : ∀ k, a + 2 ≤ k → k ≤ n → BX8_nextRow d 100 [(0, .ref 49), (1, .int (nI n)), (2, .int (nI a)), (5, .int 0)] [] (upd2 (upd2 M 63 a (nI (q (grS q a k)))) 63 (grS q a k) (nI (q a))) Q → BX8_nextRow d 48 [(0, .ref 49), (1, .int (nI n)), (2, .int (nI a)), (3, .int (nI (k - 1)))] [] M Q
  | 0, h, _, _ => by omega
  | k + 1, h1, h2, h => by
    apply rX8_nextRow_48
    have b1 := hq a (by omega)
    have b2 := hq k (by omega)
    rw [Nat.add_sub_cancel, nI_clamp (by omega), nI_clamp (by omega), hM a (by omega), hM k (by omega)]
    rw [grS] at h
    refine ⟨vp_in_nI (by omega) (by omega), vp_in_nI (by omega) (by omega), fun z => ?_, fun z => ?_⟩
    · simp (disch := omega) only [nI_ltI] at z
      rw [if_pos z] at h
      refine ⟨vp_in_nI (by omega) (by omega), vp_in_nI (by omega) (by omega), vp_in_nI (by omega) (by omega), ?_⟩
      rintro M1 rfl
      refine ⟨vp_in_nI (by omega) (by omega), ?_⟩
      rintro M2 rfl
      exact h
    · simp (disch := omega) only [nI_ltI] at z
      rw [if_neg z] at h
      have : k ≠ a + 1 := fun w => z (by rw [w]; exact hr)
      rw [show nI k + (-1) = nI (k - 1) by rw [← dec_1 (by omega)]; exact (Int32.sub_eq_add_neg _ _).symm]
      exact c8_n48 d n a q M Q h7 hq ha hr hM k (by omega) (by omega) h
theorem c8_n11 (d n : Nat) (q : Nat → Nat) (M : Mm) (Q : Int32 → Mm → Prop) (h7 : n ≤ 7) (hq : b9 n q) (hM : ∀ i, i < n → M 63 i = nI (q i)) : ∀ k, k < n → (match riS q k with | none => BX8_nextRow d 38 [(0, .ref 49), (1, .int (nI n)), (2, .int (-1))] [] M Q | some a => BX8_nextRow d 38 [(0, .ref 49), (1, .int (nI n)), (2, .int (nI a))] [] M Q) → BX8_nextRow d 11 [(0, .ref 49), (1, .int (nI n)), (2, .int (nI k - 1))] [] M Q
  | 0, _, h => by
    apply rX8_nextRow_11
    exact ⟨fun _ => h, fun z => absurd (by decide) z⟩
  | k + 1, hk, h => by
    apply rX8_nextRow_11
    have b1 := hq k (by omega)
    have b2 := hq (k + 1) (by omega)
    rw [riS] at h
    rw [dec_1 (by omega), Nat.add_sub_cancel, nI_1, nI_clamp (by omega), nI_clamp (by omega), hM k (by omega), hM (k + 1) (by omega)]
    refine ⟨fun z => absurd z (nI_pos (by omega)), fun _ => ⟨vp_in_nI (by omega) (by omega), vp_in_nI (by omega) (by omega), fun z => ?_, fun z => ?_⟩⟩
    · simp (disch := omega) only [nI_ltI] at z
      rw [if_pos z] at h
      exact h
    · simp (disch := omega) only [nI_ltI] at z
      rw [if_neg z] at h
      rw [show nI k + (-1) = nI k - 1 from (Int32.sub_eq_add_neg _ _).symm]
      exact c8_n11 d n q M Q h7 hq hM k (by omega) h
theorem c8_nextRow (d n : Nat) (q : Nat → Nat) (M : Mm) (Q : Int32 → Mm → Prop) (h2 : 2 ≤ n) (h7 : n ≤ 7) (hq : b9 n q) (h50 : M 50 0 = nI n) (hM : ∀ i, i < n → M 63 i = nI (q i)) (h : match nxR q n with | none => Q 0 M | some r => ∀ M', (∀ k, k ≠ 63 → M' k = M k) → (∀ i, i < n → M' 63 i = nI (r i)) → Q 1 M') : kX8_nextRow d M Q := by
  apply rX8_nextRow
  rw [clamp0, h50, show nI n - 2 = nI (n - 1) - 1 by rw [li_2, pk_sub h2, dec_1 (by omega)]; congr 1]
  refine ⟨vp_in_nI (n := 0) (by omega) (by omega), ?_⟩
  refine c8_n11 d n q M Q h7 hq hM (n - 1) (by omega) ?_
  unfold nxR at h
  cases f : riS q (n - 1) with
  | none =>
    rw [f] at h
    apply rX8_nextRow_38
    exact ⟨fun z => absurd z (by decide), fun _ => h⟩
  | some a =>
    rw [f] at h
    have fo := riS_ok f
    have go := grS_ok fo.2 n (by omega)
    apply rX8_nextRow_38
    rw [dec_1 (by omega)]
    refine ⟨fun _ => ?_, fun z => absurd (nI_pos' (by omega)) z⟩
    refine c8_n48 d n a q M Q h7 hq (by omega) fo.2 hM n (by omega) (Nat.le_refl n) ?_
    refine c8_n100 d n a Q h7 (by omega) n 0 (a + 1) (n - 1) (swp q a (grS q a n)) _ (by omega) (by omega) (by omega) (by omega) (by omega) (fun i hi => ?_) (fun M' y1 y2 => h M' (fun k hk => by rw [y1 k hk, upd2_off hk, upd2_off hk]) y2)
    unfold swp
    rw [upd2_r, upd2_r]
    by_cases c1 : i = grS q a n
    · rw [if_pos c1, if_pos c1]
    · rw [if_neg c1, if_neg c1]
      by_cases c2 : i = a
      · rw [if_pos c2, if_pos c2]
      · rw [if_neg c2, if_neg c2]; exact hM i hi
