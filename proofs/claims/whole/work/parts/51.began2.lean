/-! BEGAN: rows by their number -/
theorem cF_0 {th : Nat → Nat} {n t : Nat} : ∀ k, k ≤ n → (∀ i, n - k ≤ i → i < n → th i ≠ t) → cF th n k t = 0
  | 0, _, _ => rfl
  | k + 1, hk, h => by rw [cF, cF_0 k (by omega) (fun i h1 h2 => h i (by omega) h2), if_neg (h _ (by omega) (by omega))]
theorem cF_dis {th : Nat → Nat} {n t : Nat} (hd : dis n th) (ht : 1 ≤ t) : ∀ k, k ≤ n → cF th n k t ≤ 1
  | 0, _ => by rw [cF]; omega
  | k + 1, hk => by
    rw [cF]
    by_cases c : th (n - (k + 1)) = t
    · rw [if_pos c, cF_0 k (by omega) (fun i h1 h2 z => ?_)]
      · omega
      · have := hd i (n - (k + 1)) h2 (by omega) (by rw [z, c]) (by omega)
        omega
    · rw [if_neg c]
      exact cF_dis hd ht k (by omega)
theorem blk_lt {c : Nat → Nat} {i : Nat} : ∀ m, blk c i (m + 1) ≤ m
  | 0 => by rw [blk]; split <;> (try rw [blk]) <;> omega
  | m + 1 => by
    rw [blk]
    split
    · omega
    · have := blk_lt (c := c) (i := i) m
      omega
theorem blk_z {c : Nat → Nat} {i : Nat} (h : i < fb_sm c 10) : blk c i 10 = 0 ↔ i < c 0 := by
  have e1 : fb_sm c 1 = c 0 := by rw [fb_sm_succ, fb_sm]; omega
  obtain ⟨t, a1, a2, a3⟩ := blk_in 10 h
  rw [blk_eq a2 a3 10 a1]
  constructor
  · intro z
    subst z
    rw [Nat.zero_add, e1] at a3
    exact a3
  · intro z
    rcases Nat.eq_zero_or_pos t with w | w
    · exact w
    · have := sm_mono' (c := c) (t := 1) (u := t) (by omega)
      omega
def z1 (z : Nat) : Nat := if z = 0 then 1 else z
def gMp (c : Nat → Nat) (j : Nat) : Nat := if j = 0 then blk c 0 10 else blk c (z1 (c 0) + j - 1) 10
def rowK (c : Nat → Nat) (n k : Nat) : Nat → Nat := fun i => gMp c (labF (rcode n (z1 (c 0)) k) i)
theorem z1_ok {n z : Nat} (h2 : 2 ≤ n) (h : z ≤ n) : 1 ≤ z1 z ∧ z1 z ≤ n ∧ z ≤ z1 z := by unfold z1; split <;> omega
theorem Wy_z1 (n z : Nat) : Wy n (z1 z) = Wy n z := by
  unfold z1
  by_cases c : z = 0
  · rw [if_pos c, c]; rfl
  · rw [if_neg c]
theorem Wy_pos : ∀ n, n < 8 → ∀ z, z < 8 → z ≤ n → 1 ≤ Wy n z ∧ Wy n z ≤ 5040 := by decide +kernel
theorem g_mono {c : Nat → Nat} {n a b : Nat} (hs : fb_sm c 10 = n) (h2 : 2 ≤ n) (hc : ∀ t, 1 ≤ t → t < 10 → c t ≤ 1) (hab : a < b) (hb : b ≤ n - z1 (c 0)) : gMp c a < gMp c b := by
  have hz := z1_ok h2 (show c 0 ≤ n by have := sm_ge c 10 0 (by omega); omega)
  unfold gMp
  rw [if_neg (show ¬ b = 0 by omega)]
  have nz : ¬ blk c (z1 (c 0) + b - 1) 10 = 0 := fun z => by
    have := (blk_z (by omega)).mp z
    omega
  by_cases ca : a = 0
  · rw [if_pos ca]
    rcases blk_mono hc (i := 0) (j := z1 (c 0) + b - 1) (by omega) (by omega) with w | w
    · exact w
    · exact absurd w.2 nz
  · rw [if_neg ca]
    rcases blk_mono hc (i := z1 (c 0) + a - 1) (j := z1 (c 0) + b - 1) (by omega) (by omega) with w | w
    · exact w
    · exact absurd w.2 nz
theorem g_iff {c : Nat → Nat} {n a b : Nat} (hs : fb_sm c 10 = n) (h2 : 2 ≤ n) (hc : ∀ t, 1 ≤ t → t < 10 → c t ≤ 1) (ha : a ≤ n - z1 (c 0)) (hb : b ≤ n - z1 (c 0)) : gMp c a < gMp c b ↔ a < b := by
  rcases Nat.lt_trichotomy a b with w | w | w
  · exact ⟨fun _ => w, fun _ => g_mono hs h2 hc w hb⟩
  · subst w; exact ⟨fun z => absurd z (Nat.lt_irrefl _), fun z => absurd z (Nat.lt_irrefl _)⟩
  · have := g_mono hs h2 hc w ha
    exact ⟨fun z => by omega, fun z => by omega⟩
theorem row_9 (c : Nat → Nat) (n k : Nat) : b9 n (rowK c n k) := by
  intro i hi
  unfold rowK gMp
  split <;> exact blk_lt 9
section
variable {c : Nat → Nat} {n : Nat}
theorem row_0 (hs : fb_sm c 10 = n) (h2 : 2 ≤ n) (h7 : n ≤ 7) : ∀ i, i < n → rowK c n 0 i = blk c i 10 := by
  intro i hi
  have hz := z1_ok h2 (show c 0 ≤ n by have := sm_ge c 10 0 (by omega); omega)
  have e := sameN_ok (beg_ok n (by omega) h2 (z1 (c 0)) (by omega) hz.1 hz.2.1) i hi
  unfold rowK gMp
  rw [← e.1]
  by_cases ci : i < z1 (c 0)
  · rw [if_pos ci, if_pos rfl]
    unfold z1 at ci
    by_cases cz : c 0 = 0
    · rw [if_pos cz] at ci
      rw [show i = 0 by omega]
    · rw [if_neg cz] at ci
      rw [(blk_z (by omega)).mpr (by omega), (blk_z (by omega)).mpr ci]
  · rw [if_neg ci, if_neg (by omega)]
    congr 1
    omega
theorem lab_b (hs : fb_sm c 10 = n) (h2 : 2 ≤ n) (h7 : n ≤ 7) : ∀ k, k < Wy n (c 0) → ∀ i, i < n → labF (rcode n (z1 (c 0)) k) i ≤ n - z1 (c 0) := by
  have hz := z1_ok h2 (show c 0 ≤ n by have := sm_ge c 10 0 (by omega); omega)
  intro k hk i hi
  cases k with
  | zero => exact (sameN_ok (beg_ok n (by omega) h2 (z1 (c 0)) (by omega) hz.1 hz.2.1) i hi).2
  | succ k =>
    have := chk_ok (n := n) (z := z1 (c 0)) (k := k) h2 h7 hz.1 hz.2.1 (by rw [Wy_z1]; exact hk)
    unfold chk sameTo at this
    cases e : nxR (labF (rcode n (z1 (c 0)) k)) n with
    | none => rw [e] at this; exact absurd this (by simp)
    | some q => rw [e] at this; exact (sameN_ok this i hi).2
theorem row_next (hs : fb_sm c 10 = n) (h2 : 2 ≤ n) (h7 : n ≤ 7) (hc : ∀ t, 1 ≤ t → t < 10 → c t ≤ 1) {k : Nat} (hk : k + 1 < Wy n (c 0)) : ∃ r, nxR (rowK c n k) n = some r ∧ ∀ i, i < n → r i = rowK c n (k + 1) i := by
  have hz := z1_ok h2 (show c 0 ≤ n by have := sm_ge c 10 0 (by omega); omega)
  have lb := lab_b hs h2 h7 k (by omega)
  have := chk_ok (n := n) (z := z1 (c 0)) (k := k) h2 h7 hz.1 hz.2.1 (by rw [Wy_z1]; exact hk)
  unfold chk sameTo at this
  cases e : nxR (labF (rcode n (z1 (c 0)) k)) n with
  | none => rw [e] at this; exact absurd this (by simp)
  | some q =>
    rw [e] at this
    obtain ⟨r, y1, y2⟩ := (nxR_map (q := labF (rcode n (z1 (c 0)) k)) (r := rowK c n k) (g := gMp c) h2 (fun i _ => rfl) (fun i j hi hj => g_iff hs h2 hc (lb i hi) (lb j hj))).2 q e
    exact ⟨r, y1, fun i hi => by rw [y2 i hi, (sameN_ok this i hi).1]; rfl⟩
theorem row_last (hs : fb_sm c 10 = n) (h2 : 2 ≤ n) (h7 : n ≤ 7) (hc : ∀ t, 1 ≤ t → t < 10 → c t ≤ 1) : nxR (rowK c n (Wy n (c 0) - 1)) n = none := by
  have hz := z1_ok h2 (show c 0 ≤ n by have := sm_ge c 10 0 (by omega); omega)
  have wp := Wy_pos n (by omega) (c 0) (by omega) (by omega)
  have lb := lab_b hs h2 h7 (Wy n (c 0) - 1) (by omega)
  have := lst_ok n (by omega) h2 (z1 (c 0)) (by omega) hz.1 hz.2.1
  unfold lst at this
  rw [Wy_z1] at this
  cases e : nxR (labF (rcode n (z1 (c 0)) (Wy n (c 0) - 1))) n with
  | none => exact (nxR_map (q := labF (rcode n (z1 (c 0)) (Wy n (c 0) - 1))) (r := rowK c n (Wy n (c 0) - 1)) (g := gMp c) h2 (fun i _ => rfl) (fun i j hi hj => g_iff hs h2 hc (lb i hi) (lb j hj))).1 e
  | some q => rw [e] at this; exact absurd this (by simp)
end
/-- those that fit -/
def ctS (f : Nat → Bool) (W : Nat) : Nat → Nat → Nat
  | 0, acc => acc
  | k + 1, acc => ctS f W k (if f (W - (k + 1)) then acc + 1 else acc)
def fsS (f : Nat → Bool) (W : Nat) : Nat → Option Nat
  | 0 => none
  | k + 1 => if f (W - (k + 1)) then some (W - (k + 1)) else fsS f W k
def frO (M M' : Mm) : Prop := ∀ q, q ≠ 26 → q ≠ 27 → q ≠ 28 → q ≠ 44 → M' q = M q
theorem c7_ord (d n s j a N : Nat) (kd th : Nat → Nat) (stp ngt : Nat) (it : Nat → Int32) (c : Nat → Nat) (v5 : Int32) (Q : Int32 → Mm → Prop) (hG : okG n kd ngt) (h2 : 2 ≤ n) (hs : s < n) (hj : j < 8) (hN : a + N ≤ 40) (hst : stp < 2 ^ 28) (hsm : fb_sm c 10 = n) (hc : ∀ t, 1 ≤ t → t < 10 → c t ≤ 1) (e5 : v5 = 0 ∨ v5 = 1) : ∀ (k acc : Nat) (M : Mm), k ≤ Wy n (c 0) → RgC M 23 n kd th stp ngt → M 43 2 = nI n → (∀ x, x < N → M (3 + 2 * j) (a + x) = it x) → (1 ≤ k → ∀ i, i < n → M 44 i = nI (rowK c n (Wy n (c 0) - k) i)) →
    (∀ M', frO M M' → (v5 = 0 → Q (nI (ctS (fun p => shwS n kd ngt s it N 0 stp (rowK c n p)) (Wy n (c 0)) k acc)) M') ∧ (v5 = 1 → Q (encN (fsS (fun p => shwS n kd ngt s it N 0 stp (rowK c n p)) (Wy n (c 0)) k)) M')) →
    BX7_ordersThatFit (d + 5) 19 [(0, .ref 0), (1, .int (nI s)), (2, .int (nI j)), (3, .int (nI a)), (4, .int (nI N)), (5, .int v5), (6, .int (nI (Wy n (c 0)))), (7, .int (nI acc)), (8, .int (nI (Wy n (c 0) - k)))] [] M Q
  | 0, acc, M, _, hC, h43, hit, hrow, h => by
    have hz := sm_ge c 10 0 (by omega)
    have h7 := hG.1
    have wp := Wy_pos n (by omega) (c 0) (by omega) (by omega)
    apply rX7_ordersThatFit_19
    have hh := h M (fun _ _ _ _ _ => rfl)
    refine ⟨fun _ => ⟨fun z => ?_, fun z => hh.1 z⟩, fun q => absurd (nI_le (by omega) (by omega)) q⟩
    exact hh.2 (e5.elim (fun w => absurd w z) id)
  | k + 1, acc, M, hk, hC, h43, hit, hrow, h => by
    have hz := sm_ge c 10 0 (by omega)
    have h7 := hG.1
    have wp := Wy_pos n (by omega) (c 0) (by omega) (by omega)
    have e : Wy n (c 0) - (k + 1) + 1 = Wy n (c 0) - k := by omega
    apply rX7_ordersThatFit_19
    refine ⟨fun q => absurd q (nI_ge (by omega) (by omega)), fun _ => ?_⟩
    refine t4_become _ n kd th stp ngt M _ hC h7 (fun M1 g1 g2 => ?_)
    have n23 : M1 23 2 = nI n := by rw [g2 23 (by omega) (by omega) (by omega)]; exact hC.1
    rw [n23, clamp0, nI_clamp (by omega)]
    refine ⟨⟨by decide, by decide, nI_pos (by omega), by omega, by omega⟩, ?_⟩
    rintro M2 rfl
    have hrow1 := hrow (by omega)
    have R2 : RgC (setR M1 28 (va_cpy (M1 44) (M1 28) 0 0 n)) 26 n kd (rowK c n (Wy n (c 0) - (k + 1))) stp ngt := by
      refine ⟨?_, ?_, ?_, fun i hi => ?_, fun i hi => ?_⟩
      · rw [setR_ne (by omega)]; exact g1.1
      · rw [setR_ne (by omega)]; exact g1.2.1
      · rw [setR_ne (by omega)]; exact g1.2.2.1
      · rw [setR_ne (by omega)]; exact g1.2.2.2.1 i hi
      · rw [setR_eq]
        unfold va_cpy
        rw [if_pos (by omega), Nat.zero_add, Nat.sub_zero, g2 44 (by omega) (by omega) (by omega)]
        exact hrow1 i hi
    have fr2 : ∀ q, q ≠ 26 → q ≠ 27 → q ≠ 28 → (setR M1 28 (va_cpy (M1 44) (M1 28) 0 0 n)) q = M q := fun q a b d => by rw [setR_ne d, g2 q a b d]
    refine c7_shows d n s j a N kd _ stp ngt it _ _ hG hs hj hN R2 (row_9 c n _) hst (fun x hx => by rw [fr2 _ (by omega) (by omega) (by omega)]; exact hit x hx) (fun M3 g3 => ?_)
    have fr3 : ∀ q, q ≠ 26 → q ≠ 27 → q ≠ 28 → M3 q = M q := fun q a b d => by rw [g3 q a b d, fr2 q a b d]
    have onM : ∀ acc', (∀ M', frO M M' → (v5 = 0 → Q (nI (ctS (fun p => shwS n kd ngt s it N 0 stp (rowK c n p)) (Wy n (c 0)) k acc')) M') ∧ (v5 = 1 → Q (encN (fsS (fun p => shwS n kd ngt s it N 0 stp (rowK c n p)) (Wy n (c 0)) k)) M')) → BX7_ordersThatFit (d + 5) 87 [(0, .ref 0), (1, .int (nI s)), (2, .int (nI j)), (3, .int (nI a)), (4, .int (nI N)), (5, .int v5), (6, .int (nI (Wy n (c 0)))), (7, .int (nI acc')), (8, .int (nI (Wy n (c 0) - (k + 1))))] [] M3 Q := by
      intro acc' h'
      apply rX7_ordersThatFit_87
      rw [nI_1, e]
      refine c3_next (d + 3) n (rowK c n (Wy n (c 0) - (k + 1))) M3 _ h2 h7 (row_9 c n _) (by rw [fr3 43 (by omega) (by omega) (by omega)]; exact h43) (fun i hi => by rw [fr3 44 (by omega) (by omega) (by omega)]; exact hrow1 i hi) ?_
      have go : ∀ M4, (∀ q, q ≠ 44 → M4 q = M3 q) → (1 ≤ k → ∀ i, i < n → M4 44 i = nI (rowK c n (Wy n (c 0) - k) i)) → BX7_ordersThatFit (d + 5) 19 [(0, .ref 0), (1, .int (nI s)), (2, .int (nI j)), (3, .int (nI a)), (4, .int (nI N)), (5, .int v5), (6, .int (nI (Wy n (c 0)))), (7, .int (nI acc')), (8, .int (nI (Wy n (c 0) - k)))] [] M4 Q := by
        intro M4 y1 y2
        have fr4 : frO M M4 := fun q a b d f => by rw [y1 q f, fr3 q a b d]
        exact c7_ord d n s j a N kd th stp ngt it c v5 Q hG h2 hs hj hN hst hsm hc e5 k acc' M4 (by omega) (RgC_c hC (fr4 _ (by omega) (by omega) (by omega) (by omega)) (fr4 _ (by omega) (by omega) (by omega) (by omega)) (fr4 _ (by omega) (by omega) (by omega) (by omega))) (by rw [fr4 _ (by omega) (by omega) (by omega) (by omega)]; exact h43) (fun x hx => by rw [fr4 _ (by omega) (by omega) (by omega) (by omega)]; exact hit x hx) y2 (fun M' y => h' M' (fun q a b d f => by rw [y q a b d f, fr4 q a b d f]))
      by_cases ck : k = 0
      · subst ck
        rw [row_last hsm h2 h7 hc]
        exact go M3 (fun _ _ => rfl) (fun z => by omega)
      · obtain ⟨r, x1, x2⟩ := row_next hsm h2 h7 hc (k := Wy n (c 0) - (k + 1)) (by omega)
        rw [x1]
        rw [e] at x2
        exact fun M' y1 y2 => go M' y1 (fun _ i hi => by rw [y2 i hi, x2 i hi])
    have frm : frO M M3 := fun q a b d _ => fr3 q a b d
    by_cases cf : shwS n kd ngt s it N 0 stp (rowK c n (Wy n (c 0) - (k + 1))) = true
    · rw [if_pos cf]
      rw [nI_1]
      refine ⟨fun q => absurd q (by decide), fun _ => ⟨fun z => ?_, fun z => ?_⟩⟩
      · refine onM (acc + 1) (fun M' y => ?_)
        have hh := h M' y
        rw [ctS, if_pos cf] at hh
        exact ⟨hh.1, fun w => absurd w z⟩
      · have hh := (h M3 frm).2 z
        rw [fsS, if_pos cf] at hh
        exact hh
    · rw [if_neg cf]
      refine ⟨fun _ => onM acc (fun M' y => ?_), fun q => absurd rfl q⟩
      have hh := h M' y
      rw [ctS, fsS, if_neg cf, if_neg cf] at hh
      exact hh
/-- the reference's rows -/
def frR (M M' : Mm) : Prop := (∀ k, k ≠ 50 → k ≠ 63 → M' k = M k) ∧ ∀ i, (i < 17 ∨ 34 ≤ i) → M' 50 i = M 50 i
theorem frR_tr {M M' M'' : Mm} (h : frR M M') (g : frR M' M'') : frR M M'' := ⟨fun k a b => (g.1 k a b).trans (h.1 k a b), fun i hi => (g.2 i hi).trans (h.2 i hi)⟩
theorem frR_M {M M' : Mm} (h : frM M M') : frR M M' := ⟨fun k a _ => h.1 k a, h.2⟩
theorem c8_rw102 (d n : Nat) (kd th r : Nat → Nat) (stp ngt : Nat) (v1 v2 v3 v4 v5 v8 v9 v10 : Int32) (Q : Int32 → Mm → Prop) (h7 : n ≤ 7) : ∀ (k : Nat) (M : Mm), k ≤ n → RgM M 0 n kd th stp ngt → M 50 17 = nI n → M 50 18 = nI ngt → M 50 19 = nI stp → (∀ i, i < n → M 50 (27 + i) = nI (kd i)) → (∀ i, i < n - k → M 50 (20 + i) = nI (r i)) → (∀ i, i < n → M 63 i = nI (r i)) → (∀ M', frM M M' → RgM M' 17 n kd r stp ngt → BX8_began (d + 1) 102 [(0, .ref 49), (1, .int v1), (2, .int v2), (3, .int v3), (4, .int v4), (5, .int v5), (8, .int v8), (9, .int v9), (10, .int v10), (12, .int (nI n))] [] M' Q) → BX8_began (d + 1) 102 [(0, .ref 49), (1, .int v1), (2, .int v2), (3, .int v3), (4, .int v4), (5, .int v5), (8, .int v8), (9, .int v9), (10, .int v10), (12, .int (nI (n - k)))] [] M Q
  | 0, M, _, hM, x1, x2, x3, x4, x5, x6, h => h M frM_rf ⟨x1, x2, x3, x5, x4⟩
  | k + 1, M, hk, hM, x1, x2, x3, x4, x5, x6, h => by
    apply rX8_began_102
    have e0 : M 50 0 = nI n := hM.1
    have e : n - (k + 1) + 1 = n - k := by omega
    rw [clamp0, e0]
    refine ⟨vp_in_nI (n := 0) (by omega) (by omega), fun q => absurd q (nI_ge (by omega) (by omega)), fun _ => ⟨vp_in_nI (by omega) (by omega), ?_⟩⟩
    rw [li_20, nI_add, nI_clamp (show 20 + (n - (k + 1)) < 2 ^ 31 by omega), nI_clamp (show n - (k + 1) < 2 ^ 31 by omega), x6 _ (by omega), nI_1, e]
    refine ⟨vp_in_nI (by omega) (by omega), ?_⟩
    rintro M1 rfl
    have o : ∀ i, i ≠ 20 + (n - (k + 1)) → upd2 M 50 (20 + (n - (k + 1))) (nI (r (n - (k + 1)))) 50 i = M 50 i := fun i hi => upd2_row hi
    refine c8_rw102 d n kd th r stp ngt v1 v2 v3 v4 v5 v8 v9 v10 Q h7 k _ (by omega) (RgM_c hM h7 (fun i _ _ => o i (by omega))) (by rw [o _ (by omega)]; exact x1) (by rw [o _ (by omega)]; exact x2) (by rw [o _ (by omega)]; exact x3) (fun i hi => by rw [o _ (by omega)]; exact x4 i hi) (fun i hi => ?_) (fun i hi => by rw [upd2_off (by omega)]; exact x6 i hi) (fun M' g1 g2 => h M' (frM_tr ⟨fun q hq => upd2_off hq, fun i hi => o i (by omega)⟩ g1) g2)
    by_cases c : i = n - (k + 1)
    · rw [c, upd2_at]
    · rw [o _ (by omega)]; exact x5 i (by omega)
def fstI (acc : Nat) (o : Option Nat) (v : Int32) : Int32 := if acc = 0 then (match o with | none => v | some x => nI x) else v
theorem c8_step (d n s j a N p : Nat) (kd th : Nat → Nat) (stp ngt : Nat) (it : Nat → Int32) (c : Nat → Nat) (v5 : Int32) (Q : Int32 → Mm → Prop) (hG : okG n kd ngt) (h2 : 2 ≤ n) (hs : s < n) (hj : j < 8) (hN : a + N ≤ 40) (hst : stp < 2 ^ 28) (hsm : fb_sm c 10 = n) (hc : ∀ t, 1 ≤ t → t < 10 → c t ≤ 1) (acc : Nat) (v9 : Int32) (M : Mm) (hp : p < Wy n (c 0)) (hacc : acc < 2 ^ 30) (hM : RgM M 0 n kd th stp ngt) (hit : ∀ x, x < N → M 54 (40 * j + a + x) = it x) (hrow : ∀ i, i < n → M 63 i = nI (rowK c n p i))
    (h : ∀ M', frR M M' → (p + 1 < Wy n (c 0) → (∀ i, i < n → M' 63 i = nI (rowK c n (p + 1) i)) → BX8_began (d + 4) 90 [(0, .ref 49), (1, .int (nI s)), (2, .int (nI j)), (3, .int (nI a)), (4, .int (nI N)), (5, .int v5), (8, .int (nI (if shwS n kd ngt s it N 0 stp (rowK c n p) then acc + 1 else acc))), (9, .int (if shwS n kd ngt s it N 0 stp (rowK c n p) = true ∧ acc = 0 then nI p else v9)), (10, .int (nI (p + 1))), (11, .int 1)] [] M' Q) ∧ (¬ p + 1 < Wy n (c 0) → BX8_began (d + 4) 90 [(0, .ref 49), (1, .int (nI s)), (2, .int (nI j)), (3, .int (nI a)), (4, .int (nI N)), (5, .int v5), (8, .int (nI (if shwS n kd ngt s it N 0 stp (rowK c n p) then acc + 1 else acc))), (9, .int (if shwS n kd ngt s it N 0 stp (rowK c n p) = true ∧ acc = 0 then nI p else v9)), (10, .int (nI (p + 1))), (11, .int 0)] [] M' Q)) :
    BX8_began (d + 4) 90 [(0, .ref 49), (1, .int (nI s)), (2, .int (nI j)), (3, .int (nI a)), (4, .int (nI N)), (5, .int v5), (8, .int (nI acc)), (9, .int v9), (10, .int (nI p)), (11, .int 1)] [] M Q := by
  have h7 := hG.1
  apply rX8_began_90
  refine ⟨fun q => absurd q (by decide), fun _ => ?_⟩
  refine t8_tries _ n kd th stp ngt M _ hM h7 (fun M1 g1 g2 => ?_)
  have hM1 : RgM M1 0 n kd th stp ngt := RgM_c hM h7 (fun i _ _ => g2.2 i (by omega))
  have := c8_rw102 (d + 3) n kd th (rowK c n p) stp ngt (nI s) (nI j) (nI a) (nI N) v5 (nI acc) v9 (nI p) Q h7 n M1 (Nat.le_refl _) hM1 g1.1 g1.2.1 g1.2.2.1 (fun i hi => g1.2.2.2.2 i hi) (fun i hi => by omega) (fun i hi => by rw [g2.1 63 (by omega)]; exact hrow i hi) (fun M2 g3 g4 => ?_)
  · rw [Nat.sub_self] at this
    exact this
  · apply rX8_began_102
    have fr2 : frM M M2 := frM_tr g2 g3
    have e0 : M2 50 0 = nI n := by rw [fr2.2 0 (by omega)]; exact hM.1
    rw [clamp0, e0]
    refine ⟨vp_in_nI (n := 0) (by omega) (by omega), fun _ => ?_, fun q => absurd (nI_le (by omega) (by omega)) q⟩
    rw [show (40 : Int32) * nI j + nI a = nI (40 * j + a) by rw [li_40, pk_mul, nI_add]]
    refine c8_isSo d n s (40 * j + a) N kd _ stp ngt it M2 _ hG hs (by omega) g4 (row_9 c n p) hst (by omega) (fun x hx => by rw [fr2.1 54 (by omega)]; exact hit x hx) (fun M3 g5 => ?_)
    have fr3 : frM M M3 := frM_tr fr2 g5
    have r63 : ∀ i, i < n → M3 63 i = nI (rowK c n p i) := fun i hi => by rw [fr3.1 63 (by omega)]; exact hrow i hi
    -- the last piece
    have tail : ∀ (x0 x1 v9' : Int32), x1 + x0 = nI (if shwS n kd ngt s it N 0 stp (rowK c n p) then acc + 1 else acc) → v9' = (if shwS n kd ngt s it N 0 stp (rowK c n p) = true ∧ acc = 0 then nI p else v9) → BX8_began (d + 4) 182 [(0, .ref 49), (1, .int (nI s)), (2, .int (nI j)), (3, .int (nI a)), (4, .int (nI N)), (5, .int v5), (9, .int v9'), (10, .int (nI p))] [.int x0, .int x1] M3 Q := by
      intro x0 x1 v9' ex ev
      apply rX8_began_182
      rw [ex, ev, nI_1]
      refine c8_nextRow _ n (rowK c n p) M3 _ h2 h7 (row_9 c n p) (by rw [fr3.2 0 (by omega)]; exact hM.1) r63 ?_
      by_cases cp : p + 1 < Wy n (c 0)
      · obtain ⟨r, y1, y2⟩ := row_next hsm h2 h7 hc cp
        rw [y1]
        exact fun M' z1 z2 => (h M' (frR_tr (frR_M fr3) ⟨fun k _ b => z1 k b, fun i _ => by rw [z1 50 (by omega)]⟩)).1 cp (fun i hi => by rw [z2 i hi, y2 i hi])
      · have ep : p = Wy n (c 0) - 1 := by omega
        have y := row_last hsm h2 h7 hc
        rw [← ep] at y
        rw [y]
        exact (h M3 (frR_M fr3)).2 cp
    have p182 : ∀ (x0 : Int32) (r1 : Int32), (r1 = if shwS n kd ngt s it N 0 stp (rowK c n p) then 1 else 0) → x0 = (if shwS n kd ngt s it N 0 stp (rowK c n p) = true ∧ acc = 0 then nI p else v9) → BX8_began (d + 4) 168 [(0, .ref 49), (1, .int (nI s)), (2, .int (nI j)), (3, .int (nI a)), (4, .int (nI N)), (5, .int v5), (8, .int (nI acc)), (10, .int (nI p)), (12, .int r1)] [.int x0] M3 Q := by
      intro x0 r1 er ex
      apply rX8_began_168
      subst er
      by_cases cs : shwS n kd ngt s it N 0 stp (rowK c n p) = true
      · rw [if_pos cs]
        refine ⟨fun q => absurd q (by decide), fun _ => tail _ _ _ ?_ ex⟩
        rw [if_pos cs, nI_1]
      · rw [if_neg cs]
        refine ⟨fun _ => tail _ _ _ ?_ ex, fun q => absurd rfl q⟩
        rw [if_neg cs, li_0, nI_add]; rfl
    by_cases cs : shwS n kd ngt s it N 0 stp (rowK c n p) = true
    · rw [if_pos cs]
      refine ⟨fun q => absurd q (by decide), fun _ => ⟨fun q => ?_, fun q => ?_⟩⟩
      · apply rX8_began_166
        refine p182 _ _ (by rw [if_pos cs]) ?_
        rw [if_neg (fun z => q (by rw [z.2]; rfl))]
      · refine p182 _ _ (by rw [if_pos cs]) ?_
        rw [if_pos ⟨cs, (nI_eq (b := 0) (by omega) (by omega)).mp q⟩]
    · rw [if_neg cs]
      refine ⟨fun _ => ?_, fun q => absurd rfl q⟩
      apply rX8_began_166
      refine p182 _ _ (by rw [if_neg cs]) ?_
      rw [if_neg (fun z => cs z.1)]
theorem c8_ord (d n s j a N : Nat) (kd th : Nat → Nat) (stp ngt : Nat) (it : Nat → Int32) (c : Nat → Nat) (v5 : Int32) (Q : Int32 → Mm → Prop) (hG : okG n kd ngt) (h2 : 2 ≤ n) (hs : s < n) (hj : j < 8) (hN : a + N ≤ 40) (hst : stp < 2 ^ 28) (hsm : fb_sm c 10 = n) (hc : ∀ t, 1 ≤ t → t < 10 → c t ≤ 1) : ∀ (k acc : Nat) (v9 : Int32) (M : Mm), k + 1 ≤ Wy n (c 0) → acc + k < 2 ^ 29 → RgM M 0 n kd th stp ngt → (∀ x, x < N → M 54 (40 * j + a + x) = it x) → (∀ i, i < n → M 63 i = nI (rowK c n (Wy n (c 0) - (k + 1)) i)) →
    (∀ M', frR M M' → (v5 = 0 → Q (nI (ctS (fun p => shwS n kd ngt s it N 0 stp (rowK c n p)) (Wy n (c 0)) (k + 1) acc)) M') ∧ (¬ v5 = 0 → Q (fstI acc (fsS (fun p => shwS n kd ngt s it N 0 stp (rowK c n p)) (Wy n (c 0)) (k + 1)) v9) M')) →
    BX8_began (d + 4) 90 [(0, .ref 49), (1, .int (nI s)), (2, .int (nI j)), (3, .int (nI a)), (4, .int (nI N)), (5, .int v5), (8, .int (nI acc)), (9, .int v9), (10, .int (nI (Wy n (c 0) - (k + 1)))), (11, .int 1)] [] M Q := by
  intro k
  induction k with
  | zero =>
    intro acc v9 M hk hacc hM hit hrow h
    refine c8_step d n s j a N _ kd th stp ngt it c v5 Q hG h2 hs hj hN hst hsm hc acc v9 M (by omega) (by omega) hM hit hrow (fun M' g => ⟨fun z => by omega, fun _ => ?_⟩)
    apply rX8_began_90
    have hh := h M' g
    rw [ctS, fsS, ctS, fsS] at hh
    refine ⟨fun _ => ⟨fun z => ?_, fun z => hh.1 z⟩, fun z => absurd rfl z⟩
    have := hh.2 z
    unfold fstI at this
    by_cases cs : shwS n kd ngt s it N 0 stp (rowK c n (Wy n (c 0) - (0 + 1))) = true
    · rw [if_pos cs] at this
      by_cases ca : acc = 0
      · rw [if_pos ca] at this; rw [if_pos ⟨cs, ca⟩]; exact this
      · rw [if_neg ca] at this; rw [if_neg (fun w => ca w.2)]; exact this
    · rw [if_neg cs] at this
      rw [if_neg (fun w => cs w.1)]
      by_cases ca : acc = 0
      · rw [if_pos ca] at this; exact this
      · rw [if_neg ca] at this; exact this
  | succ k ih =>
    intro acc v9 M hk hacc hM hit hrow h
    have e : Wy n (c 0) - (k + 1 + 1) + 1 = Wy n (c 0) - (k + 1) := by omega
    refine c8_step d n s j a N _ kd th stp ngt it c v5 Q hG h2 hs hj hN hst hsm hc acc v9 M (by omega) (by omega) hM hit hrow (fun M' g => ⟨fun _ hr => ?_, fun z => absurd (by omega) z⟩)
    rw [e] at hr ⊢
    have h7 := hG.1
    refine ih _ _ M' (by omega) (by split <;> omega) (RgM_c hM h7 (fun i _ _ => g.2 i (by omega))) (fun x hx => by rw [g.1 54 (by omega) (by omega)]; exact hit x hx) hr (fun M2 g2 => ?_)
    have hh := h M2 (frR_tr g g2)
    rw [ctS, fsS] at hh
    refine ⟨hh.1, fun z => ?_⟩
    have := hh.2 z
    unfold fstI at this ⊢
    by_cases cs : shwS n kd ngt s it N 0 stp (rowK c n (Wy n (c 0) - (k + 1 + 1))) = true
    · rw [if_pos cs] at this ⊢
      rw [if_neg (show ¬ acc + 1 = 0 by omega)]
      by_cases ca : acc = 0
      · rw [if_pos ca] at this; rw [if_pos ⟨cs, ca⟩]; exact this
      · rw [if_neg ca] at this; rw [if_neg (fun w => ca w.2)]; exact this
    · rw [if_neg cs] at this ⊢
      rw [if_neg (fun w : shwS n kd ngt s it N 0 stp (rowK c n (Wy n (c 0) - (k + 1 + 1))) = true ∧ acc = 0 => cs w.1)]
      exact this
theorem L_began (v1 v2 v3 v4 v5 : Int32) (M : Mm) (hI : Inv M) : kX7_began 40 v1 v2 v3 v4 v5 M (fun r1 M1 => kX8_began 40 v1 v2 v3 v4 v5 M1 (fun r2 M2 => r1 = r2 ∧ Inv M2)) := by
  obtain ⟨n, kd, th, stp, ngt, hC, hM, hok, -⟩ := hI.2.2.1
  have h7 := okR_7 hok
  apply rX7_began
  by_cases hc : clueOK n v1 v2 v4 v5
  case neg =>
    refine c7_clueN _ n _ _ _ _ M _ hC.1 h7 hc ⟨fun q => absurd rfl q, fun _ => ?_⟩
    apply rX8_began
    exact c8_barsN _ n _ _ _ _ _ M _ hM.1 h7 hc ⟨fun q => absurd q (by decide), fun _ => ⟨rfl, hI⟩⟩
  refine c7_clueY _ n _ _ _ _ M _ hC.1 h7 hc ⟨fun _ => ?_, fun q => absurd q (by decide)⟩
  obtain ⟨s, j, N, hs, hj, hN1, hN2, rfl, rfl, rfl, e⟩ := hc
  obtain ⟨hG, hst⟩ := okR_G hok (by omega)
  refine c7_fOf _ j hj _ _ M _ (hI.1 j hj) ?_
  have r0 : ∀ (f : Int32) k, k ≠ 0 → upd2 M 0 10 f k = M k := fun f k hk => upd2_off hk
  have rj : ∀ f : Int32, I_row (upd2 M 0 10 f) j := fun f => I_row_c (hI.1 j hj) (r0 _ _ (by omega)) (r0 _ _ (by omega)) (r0 _ _ (by omega)) (r0 _ _ (by omega)) (r0 _ _ (by omega))
  by_cases c : fndN M j v3 (nI N) = 0
  case neg =>
    refine ⟨fun q => absurd q c, fun _ => c7_found _ _ _ _ ?_⟩
    have ef : ∀ f, fndN (upd2 M 0 10 f) j v3 (nI N) = fndN M j v3 (nI N) := fun f => fndN_c (r0 f 52 (by omega))
    apply rX8_began
    refine c8_barsY _ n s j N _ _ _ _ (by rw [r0 _ 50 (by omega)]; exact hM.1) h7 hs hj hN1 hN2 e (rj _) ⟨fun z => absurd (by rw [ef] at z; exact z) c, fun _ => ?_⟩
    rw [ef]
    refine ⟨fun q => ?_, fun _ => ⟨rfl, Inv_f hI _⟩⟩
    rcases fnd_cases (M := M) (j := j) (i := v3) (n := nI N) with w | w | w
    · rw [w] at q; exact absurd q (by decide)
    · rw [w] at q; exact absurd q (by decide)
    · exact absurd w.1 c
  obtain ⟨a, rfl, haN, hit⟩ := clue_it (hI.1 j hj) hj hN2 c
  rw [c]
  refine ⟨fun _ => ?_, fun q => absurd rfl q⟩
  rintro M1 rfl
  have r1 : ∀ k, k ≠ 0 → upd2 M 0 10 0 k = M k := fun k hk => upd2_off hk
  have hC1 : RgC (upd2 M 0 10 0) 23 n kd th stp ngt := RgC_c hC (r1 _ (by omega)) (r1 _ (by omega)) (r1 _ (by omega))
  obtain ⟨h2, hd⟩ : 2 ≤ n ∧ dis n th := by
    rcases hok with z | z
    · omega
    · exact ⟨z.1, z.2.2.2.2.1⟩
  have ht := (okR_T hok).1
  have hsm := cF_sum ht n (Nat.le_refl n)
  have hcd : ∀ t, 1 ≤ t → t < 10 → cF th n n t ≤ 1 := fun t t1 _ => cF_dis hd t1 n (Nat.le_refl n)
  have hz := cF_le ht (Nat.le_refl n) (show 0 < 10 by omega)
  have wp := Wy_pos n (by omega) (cF th n n 0) (by omega) hz
  have r0k := row_0 hsm h2 h7
  -- the reference from the class's end on
  have ref : ∀ (M1 : Mm) (x : Int32), (∀ q, q ≠ 43 → q ≠ 44 → q ≠ 45 → q ≠ 26 → q ≠ 27 → q ≠ 28 → M1 q = upd2 M 0 10 0 q) → (v5 = 0 → x = nI (ctS (fun p => shwS n kd ngt s (fun x => M 54 (40 * j + a + x)) N 0 stp (rowK (cF th n n) n p)) (Wy n (cF th n n 0)) (Wy n (cF th n n 0)) 0)) → (v5 = 1 → x = encN (fsS (fun p => shwS n kd ngt s (fun x => M 54 (40 * j + a + x)) N 0 stp (rowK (cF th n n) n p)) (Wy n (cF th n n 0)) (Wy n (cF th n n 0)))) → kX8_began 40 (nI s) (nI j) (nI a) (nI N) v5 M1 (fun r2 M2 => x = r2 ∧ Inv M2) := by
    intro M1 x fr hx0 hx1
    have q1 : ∀ k, k ≠ 0 → k ≠ 43 → k ≠ 44 → k ≠ 45 → k ≠ 26 → k ≠ 27 → k ≠ 28 → M1 k = M k := fun k x1 x2 x3 x4 x5 x6 x7 => by rw [fr k x2 x3 x4 x5 x6 x7, r1 k x1]
    have hM1 : RgM M1 0 n kd th stp ngt := RgM_c hM h7 (fun i _ _ => by rw [q1 50 (by omega) (by omega) (by omega) (by omega) (by omega) (by omega) (by omega)])
    have hI1 : I_row M1 j := I_row_c (hI.1 j hj) (q1 _ (by omega) (by omega) (by omega) (by omega) (by omega) (by omega) (by omega)) (q1 _ (by omega) (by omega) (by omega) (by omega) (by omega) (by omega) (by omega)) (q1 _ (by omega) (by omega) (by omega) (by omega) (by omega) (by omega) (by omega)) (q1 _ (by omega) (by omega) (by omega) (by omega) (by omega) (by omega) (by omega)) (q1 _ (by omega) (by omega) (by omega) (by omega) (by omega) (by omega) (by omega))
    have hf1 : fndN M1 j (nI a) (nI N) = 0 := by rw [fndN_c (q1 52 (by omega) (by omega) (by omega) (by omega) (by omega) (by omega) (by omega))]; exact c
    have sc1 : scr (upd2 M 0 10 0) M1 := scr_of (fun k hk => fr k (fun z => hk (by unfold wk; omega)) (fun z => hk (by unfold wk; omega)) (fun z => hk (by unfold wk; omega)) (fun z => hk (by unfold wk; omega)) (fun z => hk (by unfold wk; omega)) (fun z => hk (by unfold wk; omega)))
    apply rX8_began
    refine c8_barsY _ n s j N _ _ M1 _ hM1.1 h7 hs hj hN1 hN2 e hI1 ⟨fun _ => ⟨fun _ => ?_, fun q => absurd (by decide) q⟩, fun z => absurd hf1 z⟩
    have u1 : ∀ k, k ≠ 49 → upd2 M1 49 5 0 k = M1 k := fun k hk => upd2_off hk
    have hM2 : RgM (upd2 M1 49 5 0) 0 n kd th stp ngt := RgM_c hM1 h7 (fun i _ _ => by rw [u1 50 (by omega)])
    refine c8_countsThere _ n kd th stp ngt _ _ h7 ht hM2 (fun M3 y1 y2 => ?_)
    have := c8_f31 39 (cF th n n) (nI s) (nI j) (nI a) (nI N) v5 (fun r2 M2 => x = r2 ∧ Inv M2) (by omega) 10 M3 (Nat.le_refl _) y2 (fun i hi => by rw [Nat.sub_self, fb_sm] at hi; omega) (fun M4 y3 y4 => ?_)
    · exact this
    · rw [hsm] at y4
      have q4 : ∀ k, k ≠ 56 → k ≠ 63 → M4 k = upd2 M1 49 5 0 k := fun k z1 z2 => by rw [y3 k z2, y1 k z1]
      have := c8_ord 36 n s j a N kd th stp ngt (fun x => M 54 (40 * j + a + x)) (cF th n n) v5 (fun r2 M2 => x = r2 ∧ Inv M2) hG h2 hs hj haN (by omega) hsm hcd (Wy n (cF th n n 0) - 1) 0 (-1000000) M4 (by omega) (by omega) (RgM_c hM2 h7 (fun i _ _ => by rw [q4 50 (by omega) (by omega)])) (fun x _ => by rw [q4 54 (by omega) (by omega), u1 54 (by omega), q1 54 (by omega) (by omega) (by omega) (by omega) (by omega) (by omega) (by omega)]) ?_ (fun M5 g => ?_)
      · rw [show Wy n (cF th n n 0) - (Wy n (cF th n n 0) - 1 + 1) = 0 by omega] at this
        exact this
      · rw [show Wy n (cF th n n 0) - (Wy n (cF th n n 0) - 1 + 1) = 0 by omega]
        intro i hi
        rw [y4 i hi, r0k i hi]
      · have inv : Inv M5 := by
          refine Inv_two hI sc1 (scr_tr (scr_of (fun k hk => q4 k (fun z => hk (by unfold wk; omega)) (fun z => hk (by unfold wk; omega)))) ⟨fun k a1 a2 a3 a4 a5 a6 a7 a8 a9 b1 b2 b3 b4 b5 b6 b7 b8 b9 c1 c2 c3 c4 c5 c6 => g.1 k b6 c6, fun j hj => by rw [g.1 18 (by omega) (by omega)], by rw [g.1 20 (by omega) (by omega)], fun j _ _ _ => by rw [g.1 49 (by omega) (by omega)], fun i hi => g.2 i (by omega)⟩)
        rw [show Wy n (cF th n n 0) - 1 + 1 = Wy n (cF th n n 0) by omega]
        refine ⟨fun z => ⟨hx0 z, inv⟩, fun z => ⟨?_, inv⟩⟩
        rw [hx1 (e.elim (fun w => absurd w z) id)]
        unfold fstI encN
        rw [if_pos rfl]
        cases fsS (fun p => shwS n kd ngt s (fun x => M 54 (40 * j + a + x)) N 0 stp (rowK (cF th n n) n p)) (Wy n (cF th n n 0)) (Wy n (cF th n n 0)) <;> rfl
  apply rX7_ordersThatFit
  refine c3_begin 35 n kd th stp ngt _ _ h7 ht hC1 (fun M2 y1 y2 y3 => ?_)
  have := c7_ord 34 n s j a N kd th stp ngt (fun x => M 54 (40 * j + a + x)) (cF th n n) v5 (fun r1 M1 => kX8_began 40 (nI s) (nI j) (nI a) (nI N) v5 M1 (fun r2 M2 => r1 = r2 ∧ Inv M2)) hG h2 hs hj haN (by omega) hsm hcd e (Wy n (cF th n n 0)) 0 M2 (Nat.le_refl _) (RgC_c hC1 (y1 _ (by omega) (by omega) (by omega)) (y1 _ (by omega) (by omega) (by omega)) (y1 _ (by omega) (by omega) (by omega))) y2 (fun x hx => by rw [y1 _ (by omega) (by omega) (by omega), r1 _ (by omega)]; exact hit x hx) (fun _ i hi => by rw [y3 i hi, Nat.sub_self, r0k i hi]) (fun M3 g => ⟨fun z => ref M3 _ (fun q a1 a2 a3 a4 a5 a6 => by rw [g q a4 a5 a6 a2, y1 q a1 a2 a3]) (fun _ => rfl) (fun w => ?_), fun z => ref M3 _ (fun q a1 a2 a3 a4 a5 a6 => by rw [g q a4 a5 a6 a2, y1 q a1 a2 a3]) (fun w => ?_) (fun _ => rfl)⟩)
  · rw [Nat.sub_self] at this
    exact this
  · rw [z] at w; exact absurd w (by decide)
  · rw [z] at w; exact absurd w (by decide)
