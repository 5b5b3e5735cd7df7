/-! CLUES: fits (and what began shares) -/
def shwS (n : Nat) (kd : Nat → Nat) (ngt s : Nat) (it : Nat → Int32) : Nat → Nat → Nat → (Nat → Nat) → Bool
  | 0, _, _, _ => true
  | k + 1, x, stp, th => if nI (stepS n kd ngt stp 0 th s) = it x then shwS n kd ngt s it k (x + 1) (stp + 1) (stepS n kd ngt stp 0 th) else false
theorem c7_shLoop (d n s j a N : Nat) (kd : Nat → Nat) (ngt : Nat) (it : Nat → Int32) (Q : Int32 → Mm → Prop) (hG : okG n kd ngt) (hs : s < n) (hj : j < 8) (hN : a + N ≤ 40) : ∀ (k : Nat) (M : Mm) (th : Nat → Nat) (stp : Nat), k ≤ N → RgC M 26 n kd th stp ngt → okT n th → stp + k < 2 ^ 29 → (∀ x, x < N → M (3 + 2 * j) (a + x) = it x) → (∀ M', frC M M' → Q (if shwS n kd ngt s it k (N - k) stp th then 1 else 0) M') →
    BX7_trialShows (d + 4) 11 [(0, .ref 0), (1, .int (nI s)), (3, .int (nI a)), (4, .int (nI N)), (5, .ref (2 + 2 * j)), (6, .int (nI (N - k)))] [] M Q
  | 0, M, th, stp, _, hR, ht, hst, hit, h => by
    apply rX7_trialShows_11 _ _ _ _ _ (isSh_of hj)
    exact ⟨fun _ => h M frC_rf, fun q => absurd (nI_le (a := N) (b := N - 0) (by omega) (by omega)) q⟩
  | k + 1, M, th, stp, hk, hR, ht, hst, hit, h => by
    apply rX7_trialShows_11 _ _ _ _ _ (isSh_of hj)
    have h7 := hG.1
    have e : N - (k + 1) + 1 = N - k := by omega
    rw [show nI (N - (k + 1)) + 1 = nI (N - k) by rw [nI_1, e]]
    refine ⟨fun q => absurd q (nI_ge (by omega) (by omega)), fun _ => ?_⟩
    refine t4_adv d n kd th stp ngt M _ hR hG ht (by omega) (fun M1 g1 g2 => ⟨vp_in_nI (by omega) (by omega), ?_⟩)
    have e2 : M1 28 s = nI (stepS n kd ngt stp 0 th s) := g1.2.2.2.2 s hs
    have e3 : M1 (2 + 2 * j + 1) (a + (N - (k + 1))) = it (N - (k + 1)) := by rw [g2 _ (by omega) (by omega) (by omega), show 2 + 2 * j + 1 = 3 + 2 * j by omega]; exact hit _ (by omega)
    rw [nI_add, nI_clamp (by omega), nI_clamp (by omega), e2, e3]
    refine ⟨vp_in_nI (by omega) (by omega), fun q => ?_, fun q => ?_⟩
    · refine c7_shLoop d n s j a N kd ngt it Q hG hs hj hN k M1 _ (stp + 1) (by omega) g1 (okT_step ht) (by omega) (fun x hx => by rw [g2 _ (by omega) (by omega) (by omega)]; exact hit x hx) (fun M' g3 => ?_)
      have := h M' (frC_tr g2 g3)
      rw [shwS, if_pos q, e] at this
      exact this
    · have := h M1 g2
      rw [shwS, if_neg q] at this
      exact this
theorem c7_shows (d n s j a N : Nat) (kd th : Nat → Nat) (stp ngt : Nat) (it : Nat → Int32) (M : Mm) (Q : Int32 → Mm → Prop) (hG : okG n kd ngt) (hs : s < n) (hj : j < 8) (hN : a + N ≤ 40) (hR : RgC M 26 n kd th stp ngt) (ht : okT n th) (hst : stp < 2 ^ 28) (hit : ∀ x, x < N → M (3 + 2 * j) (a + x) = it x) (h : ∀ M', frC M M' → Q (if shwS n kd ngt s it N 0 stp th then 1 else 0) M') : kX7_trialShows (d + 4) (nI s) (nI j) (nI a) (nI N) M Q := by
  apply rX7_trialShows
  refine ⟨vp_in_nI hj (by omega), ?_⟩
  rw [sh_nI hj]
  have := c7_shLoop d n s j a N kd ngt it Q hG hs hj hN N M th stp (Nat.le_refl N) hR ht (by omega) hit (by rw [Nat.sub_self]; exact h)
  rw [Nat.sub_self] at this
  exact this
theorem c8_soLoop (d n s b N : Nat) (kd : Nat → Nat) (ngt : Nat) (it : Nat → Int32) (Q : Int32 → Mm → Prop) (hG : okG n kd ngt) (hs : s < n) (hN : b + N ≤ 320) : ∀ (k : Nat) (M : Mm) (th : Nat → Nat) (stp : Nat), k ≤ N → RgM M 17 n kd th stp ngt → okT n th → stp + k < 2 ^ 29 → (∀ x, x < N → M 54 (b + x) = it x) → (∀ M', frM M M' → Q (if shwS n kd ngt s it k (N - k) stp th then 1 else 0) M') →
    BX8_isSo (d + 3) 6 [(0, .ref 49), (1, .int (nI s)), (2, .int (nI b)), (3, .int (nI N)), (4, .int (1 : Int32)), (5, .int (nI (N - k)))] [] M Q
  | 0, M, th, stp, _, hR, ht, hst, hit, h => by
    apply rX8_isSo_6
    exact ⟨fun _ => ⟨Or.inr rfl, h M frM_rf⟩, fun q => absurd (nI_le (a := N) (b := N - 0) (by omega) (by omega)) q⟩
  | k + 1, M, th, stp, hk, hR, ht, hst, hit, h => by
    apply rX8_isSo_6
    have h7 := hG.1
    have e : N - (k + 1) + 1 = N - k := by omega
    rw [show nI (N - (k + 1)) + 1 = nI (N - k) by rw [nI_1, e]]
    refine ⟨fun q => absurd q (nI_ge (by omega) (by omega)), fun _ => ⟨fun q => absurd q (by decide), fun _ => ?_⟩⟩
    refine t8_adv d n kd th stp ngt M _ hR hG ht (by omega) (fun M1 g1 g2 => ?_)
    have e2 : M1 50 (17 + 3 + s) = nI (stepS n kd ngt stp 0 th s) := g1.2.2.2.1 s hs
    have e3 : M1 54 (b + (N - (k + 1))) = it (N - (k + 1)) := by rw [g2.1 54 (by omega)]; exact hit _ (by omega)
    rw [show (20 : Int32) + nI s = nI (17 + 3 + s) by rw [li_20, nI_add], nI_add, nI_clamp (by omega), nI_clamp (by omega), e2, e3]
    refine ⟨vp_in_nI (by omega) (by omega), vp_in_nI (by omega) (by omega), fun q => ?_, fun q => ?_⟩
    · have := h M1 g2
      rw [shwS, if_neg q] at this
      apply rX8_isSo_6
      exact ⟨fun _ => ⟨Or.inl rfl, this⟩, fun _ => ⟨fun _ => ⟨Or.inl rfl, this⟩, fun z => absurd rfl z⟩⟩
    · refine c8_soLoop d n s b N kd ngt it Q hG hs hN k M1 _ (stp + 1) (by omega) g1 (okT_step ht) (by omega) (fun x hx => by rw [g2.1 54 (by omega)]; exact hit x hx) (fun M' g3 => ?_)
      have := h M' (frM_tr g2 g3)
      rw [shwS, if_pos q, e] at this
      exact this
theorem c8_isSo (d n s b N : Nat) (kd th : Nat → Nat) (stp ngt : Nat) (it : Nat → Int32) (M : Mm) (Q : Int32 → Mm → Prop) (hG : okG n kd ngt) (hs : s < n) (hN : b + N ≤ 320) (hR : RgM M 17 n kd th stp ngt) (ht : okT n th) (hst : stp < 2 ^ 28) (hN2 : N ≤ 40) (hit : ∀ x, x < N → M 54 (b + x) = it x) (h : ∀ M', frM M M' → Q (if shwS n kd ngt s it N 0 stp th then 1 else 0) M') : kX8_isSo (d + 3) (nI s) (nI b) (nI N) M Q := by
  apply rX8_isSo
  have := c8_soLoop d n s b N kd ngt it Q hG hs hN N M th stp (Nat.le_refl N) hR ht (by omega) hit (by rw [Nat.sub_self]; exact h)
  rw [Nat.sub_self] at this
  exact this
/-- the bits of what fits, from 1 to V -/
def accI (f : Nat → Bool) (V : Nat) : Nat → Int32 → Int32
  | 0, acc => acc
  | k + 1, acc => accI f V k (if f (V + 1 - (k + 1)) then acc ||| ishl 1 (nI (V + 1 - (k + 1))) else acc)
def updK (kd : Nat → Nat) (s v : Nat) : Nat → Nat := fun i => if i = s then v else kd i
theorem okK_upd {n : Nat} {kd : Nat → Nat} {s v : Nat} (h : okK n kd) (hv : 1 ≤ v ∧ v ≤ 5) : okK n (updK kd s v) := by
  intro i hi
  unfold updK
  split
  · exact hv
  · exact h i hi
theorem c7_kdLoop (d n s j a N : Nat) (kd th : Nat → Nat) (stp ngt : Nat) (it : Nat → Int32) (Q : Int32 → Mm → Prop) (hG : okG n kd ngt) (hs : s < n) (hj : j < 8) (hN : a + N ≤ 40) (ht : okT n th) (hst : stp < 2 ^ 28) : ∀ (k : Nat) (M : Mm) (acc : Int32), k ≤ 5 → RgC M 23 n kd th stp ngt → (∀ x, x < N → M (3 + 2 * j) (a + x) = it x) → (∀ M', frC M M' → Q (accI (fun v => shwS n (updK kd s v) ngt s it N 0 stp th) 5 k acc) M') →
    BX7_kindsThatFit (d + 5) 6 [(0, .ref 0), (1, .int (nI s)), (2, .int (nI j)), (3, .int (nI a)), (4, .int (nI N)), (5, .int acc), (6, .int (nI (6 - k)))] [] M Q
  | 0, M, acc, _, hR, hit, h => by
    apply rX7_kindsThatFit_6
    exact ⟨fun _ => h M frC_rf, fun q => absurd (nI_lt (a := 5) (b := 6 - 0) (by omega) (by omega)) q⟩
  | k + 1, M, acc, hk, hR, hit, h => by
    apply rX7_kindsThatFit_6
    have h7 := hG.1
    have e : 6 - (k + 1) + 1 = 6 - k := by omega
    rw [show nI (6 - (k + 1)) + 1 = nI (6 - k) by rw [nI_1, e]]
    refine ⟨fun q => absurd q (nI_nlt (a := 5) (by omega) (by omega)), fun _ => ?_⟩
    refine t4_become _ n kd th stp ngt M _ hR h7 (fun M1 g1 g2 => ⟨vp_in_nI (by omega) (by omega), ?_⟩)
    rintro M2 rfl
    rw [nI_clamp (by omega)]
    have hR2 : RgC (upd2 M1 27 s (nI (6 - (k + 1)))) 26 n (updK kd s (6 - (k + 1))) th stp ngt := by
      obtain ⟨y1, y2, y3, y4, y5⟩ := g1
      refine ⟨by rw [upd2_off (by omega)]; exact y1, by rw [upd2_off (by omega)]; exact y2, by rw [upd2_off (by omega)]; exact y3, fun i hi => ?_, fun i hi => by rw [upd2_off (by omega)]; exact y5 i hi⟩
      unfold updK
      rw [upd2_r]
      by_cases c : i = s
      · rw [if_pos c, if_pos c]
      · rw [if_neg c, if_neg c]; exact y4 i hi
    have fr : frC M (upd2 M1 27 s (nI (6 - (k + 1)))) := fun q x1 x2 x3 => by rw [upd2_off x2, g2 q x1 x2 x3]
    refine c7_shows d n s j a N _ th stp ngt it _ _ ⟨h7, okK_upd hG.2.1 (by omega), hG.2.2⟩ hs hj hN hR2 ht hst (fun x hx => by rw [fr _ (by omega) (by omega) (by omega)]; exact hit x hx) (fun M3 g3 => ?_)
    have fr3 := frC_tr fr g3
    have go : ∀ acc', acc' = (if shwS n (updK kd s (6 - (k + 1))) ngt s it N 0 stp th then acc ||| ishl 1 (nI (6 - (k + 1))) else acc) → BX7_kindsThatFit (d + 5) 6 [(0, .ref 0), (1, .int (nI s)), (2, .int (nI j)), (3, .int (nI a)), (4, .int (nI N)), (5, .int acc'), (6, .int (nI (6 - k)))] [] M3 Q := fun acc' ea =>
      c7_kdLoop d n s j a N kd th stp ngt it Q hG hs hj hN ht hst k M3 acc' (by omega) (RgC_c hR (fr3 _ (by omega) (by omega) (by omega)) (fr3 _ (by omega) (by omega) (by omega)) (fr3 _ (by omega) (by omega) (by omega))) (fun x hx => by rw [fr3 _ (by omega) (by omega) (by omega)]; exact hit x hx) (fun M' g5 => by rw [ea]; exact h M' (frC_tr fr3 g5))
    by_cases c : shwS n (updK kd s (6 - (k + 1))) ngt s it N 0 stp th = true
    · rw [if_pos c] at *
      exact ⟨fun q => absurd q (by decide), fun _ => go _ rfl⟩
    · rw [if_neg c] at *
      exact ⟨fun _ => go _ rfl, fun q => absurd rfl q⟩
theorem c7_ntLoop (d n s j a N : Nat) (kd th : Nat → Nat) (stp ngt : Nat) (it : Nat → Int32) (Q : Int32 → Mm → Prop) (hG : okG n kd ngt) (hs : s < n) (hj : j < 8) (hN : a + N ≤ 40) (ht : okT n th) (hst : stp < 2 ^ 28) : ∀ (k : Nat) (M : Mm) (acc : Int32), k ≤ 9 → RgC M 23 n kd th stp ngt → (∀ x, x < N → M (3 + 2 * j) (a + x) = it x) → (∀ M', frC M M' → Q (accI (fun v => shwS n kd v s it N 0 stp th) 9 k acc) M') →
    BX7_nightsThatFit (d + 5) 6 [(0, .ref 0), (1, .int (nI s)), (2, .int (nI j)), (3, .int (nI a)), (4, .int (nI N)), (5, .int acc), (6, .int (nI (10 - k)))] [] M Q
  | 0, M, acc, _, hR, hit, h => by
    apply rX7_nightsThatFit_6
    exact ⟨fun _ => h M frC_rf, fun q => absurd (nI_lt (a := 9) (b := 10 - 0) (by omega) (by omega)) q⟩
  | k + 1, M, acc, hk, hR, hit, h => by
    apply rX7_nightsThatFit_6
    have h7 := hG.1
    have e : 10 - (k + 1) + 1 = 10 - k := by omega
    rw [show nI (10 - (k + 1)) + 1 = nI (10 - k) by rw [nI_1, e]]
    refine ⟨fun q => absurd q (nI_nlt (a := 9) (by omega) (by omega)), fun _ => ?_⟩
    refine t4_become _ n kd th stp ngt M _ hR h7 (fun M1 g1 g2 => ?_)
    rintro M2 rfl
    have hR2 : RgC (upd2 M1 26 4 (nI (10 - (k + 1)))) 26 n kd th stp (10 - (k + 1)) := by
      obtain ⟨y1, y2, y3, y4, y5⟩ := g1
      exact ⟨by rw [upd2_row (by omega)]; exact y1, by rw [upd2_row (by omega)]; exact y2, upd2_at, fun i hi => by rw [upd2_off (by omega)]; exact y4 i hi, fun i hi => by rw [upd2_off (by omega)]; exact y5 i hi⟩
    have fr : frC M (upd2 M1 26 4 (nI (10 - (k + 1)))) := fun q x1 x2 x3 => by rw [upd2_off x1, g2 q x1 x2 x3]
    refine c7_shows d n s j a N _ th stp (10 - (k + 1)) it _ _ ⟨h7, hG.2.1, by omega, by omega⟩ hs hj hN hR2 ht hst (fun x hx => by rw [fr _ (by omega) (by omega) (by omega)]; exact hit x hx) (fun M3 g3 => ?_)
    have fr3 := frC_tr fr g3
    have go : ∀ acc', acc' = (if shwS n kd (10 - (k + 1)) s it N 0 stp th then acc ||| ishl 1 (nI (10 - (k + 1))) else acc) → BX7_nightsThatFit (d + 5) 6 [(0, .ref 0), (1, .int (nI s)), (2, .int (nI j)), (3, .int (nI a)), (4, .int (nI N)), (5, .int acc'), (6, .int (nI (10 - k)))] [] M3 Q := fun acc' ea =>
      c7_ntLoop d n s j a N kd th stp ngt it Q hG hs hj hN ht hst k M3 acc' (by omega) (RgC_c hR (fr3 _ (by omega) (by omega) (by omega)) (fr3 _ (by omega) (by omega) (by omega)) (fr3 _ (by omega) (by omega) (by omega))) (fun x hx => by rw [fr3 _ (by omega) (by omega) (by omega)]; exact hit x hx) (fun M' g5 => by rw [ea]; exact h M' (frC_tr fr3 g5))
    by_cases c : shwS n kd (10 - (k + 1)) s it N 0 stp th = true
    · rw [if_pos c] at *
      exact ⟨fun q => absurd q (by decide), fun _ => go _ rfl⟩
    · rw [if_neg c] at *
      exact ⟨fun _ => go _ rfl, fun q => absurd rfl q⟩
theorem or0 (x : Int32) : x ||| 0 = x := by simp
/-- the reference's loop, for kinds (w = 0) and nights (w = 1) -/
theorem c8_fitLoop (d n s j a N w V : Nat) (kd th : Nat → Nat) (stp ngt : Nat) (it : Nat → Int32) (Q : Int32 → Mm → Prop) (f : Nat → Bool) (hG : okG n kd ngt) (hs : s < n) (hj : j < 8) (hN : a + N ≤ 40) (ht : okT n th) (hst : stp < 2 ^ 28) (hw : (w = 0 ∧ V = 5 ∧ f = fun v => shwS n (updK kd s v) ngt s it N 0 stp th) ∨ (w = 1 ∧ V = 9 ∧ f = fun v => shwS n kd v s it N 0 stp th)) : ∀ (k : Nat) (M : Mm) (acc : Int32), k ≤ V → RgM M 0 n kd th stp ngt → (∀ x, x < N → M 54 (40 * j + a + x) = it x) → (∀ M', frM M M' → Q (accI f V k acc) M') →
    BX8_fits (d + 4) 27 [(0, .ref 49), (1, .int (nI s)), (2, .int (nI j)), (3, .int (nI a)), (4, .int (nI N)), (5, .int (nI w)), (7, .int acc), (8, .int (nI (V + 1 - k)))] [] M Q := by
  have hV : V ≤ 9 := by omega
  have hw1 : w ≤ 1 := by omega
  have h7 := hG.1
  intro k
  induction k with
  | zero =>
    intro M acc _ hR hit h
    have fin : BX8_fits (d + 4) 40 [(0, .ref 49), (1, .int (nI s)), (2, .int (nI j)), (3, .int (nI a)), (4, .int (nI N)), (5, .int (nI w)), (7, .int acc), (8, .int (nI (V + 1 - 0)))] [.int (nI V), .int (nI (V + 1 - 0))] M Q := by
      apply rX8_fits_40
      exact ⟨fun _ => h M frM_rf, fun q => absurd (nI_lt (a := V) (b := V + 1 - 0) (by omega) (by omega)) q⟩
    apply rX8_fits_27
    rw [show (nI w = 0) = (w = 0) by rw [li_0]; exact propext (nI_eq (by omega) (by omega))]
    refine ⟨fun q => ?_, fun q => ?_⟩
    · rw [show V = 9 by omega] at fin ⊢; exact fin
    · rw [show V = 5 by omega] at fin ⊢; exact fin
  | succ k ih =>
    intro M acc hk hR hit h
    have e : V + 1 - (k + 1) + 1 = V + 1 - k := by omega
    have go : ∀ (M3 : Mm) (acc' : Int32), frM M M3 → acc' = (if f (V + 1 - (k + 1)) then acc ||| ishl 1 (nI (V + 1 - (k + 1))) else acc) → BX8_fits (d + 4) 27 [(0, .ref 49), (1, .int (nI s)), (2, .int (nI j)), (3, .int (nI a)), (4, .int (nI N)), (5, .int (nI w)), (7, .int acc'), (8, .int (nI (V + 1 - k)))] [] M3 Q := fun M3 acc' fr ea =>
      ih M3 acc' (by omega) (RgM_c hR h7 (fun i _ hi => fr.2 i (by omega))) (fun x hx => by rw [fr.1 54 (by omega)]; exact hit x hx) (fun M' g5 => by rw [ea]; exact h M' (frM_tr fr g5))
    have last : ∀ (M1 M2 : Mm) (kd' : Nat → Nat) (ngt' : Nat), frM M M2 → RgM M2 17 n kd' th stp ngt' → okG n kd' ngt' → f (V + 1 - (k + 1)) = shwS n kd' ngt' s it N 0 stp th → kX8_isSo (d + 3) (nI s) ((40 : Int32) * nI j + nI a) (nI N) M2 (fun r1 M2 => ((r1 = 0 → BX8_fits (d + 4) 27 [(0, .ref 49), (1, .int (nI s)), (2, .int (nI j)), (3, .int (nI a)), (4, .int (nI N)), (5, .int (nI w)), (7, .int (acc ||| 0)), (8, .int (nI (V + 1 - (k + 1)) + 1))] [] M2 Q) ∧ (¬ r1 = 0 → BX8_fits (d + 4) 27 [(0, .ref 49), (1, .int (nI s)), (2, .int (nI j)), (3, .int (nI a)), (4, .int (nI N)), (5, .int (nI w)), (7, .int (acc ||| (ishl 1 (nI (V + 1 - (k + 1)))))), (8, .int (nI (V + 1 - (k + 1)) + 1))] [] M2 Q))) := by
      intro M1 M2 kd' ngt' fr hR2 hG2 hf
      rw [show (40 : Int32) * nI j + nI a = nI (40 * j + a) by rw [li_40, pk_mul, nI_add]]
      refine c8_isSo d n s (40 * j + a) N kd' th stp ngt' it M2 _ hG2 hs (by omega) hR2 ht hst (by omega) (fun x hx => by rw [fr.1 54 (by omega)]; exact hit x hx) (fun M3 g3 => ?_)
      rw [nI_1, e, or0, ← hf]
      have g := go M3
      by_cases c : f (V + 1 - (k + 1)) = true
      · rw [if_pos c] at *
        exact ⟨fun q => absurd q (by decide), fun _ => g _ (frM_tr fr g3) rfl⟩
      · rw [if_neg c] at *
        exact ⟨fun _ => g _ (frM_tr fr g3) rfl, fun q => absurd rfl q⟩
    have mid : BX8_fits (d + 4) 40 [(0, .ref 49), (1, .int (nI s)), (2, .int (nI j)), (3, .int (nI a)), (4, .int (nI N)), (5, .int (nI w)), (7, .int acc), (8, .int (nI (V + 1 - (k + 1))))] [.int (nI V), .int (nI (V + 1 - (k + 1)))] M Q := by
      apply rX8_fits_40
      refine ⟨fun q => absurd q (nI_nlt (by omega) (by omega)), fun _ => ?_⟩
      refine t8_tries _ n kd th stp ngt M _ hR h7 (fun M1 g1 g2 => ?_)
      rw [show (nI w = 0) = (w = 0) by rw [li_0]; exact propext (nI_eq (by omega) (by omega))]
      refine ⟨fun q => ?_, fun q => ?_⟩
      · obtain ⟨-, hV9, hf⟩ : w = 1 ∧ V = 9 ∧ f = fun v => shwS n kd v s it N 0 stp th := hw.elim (fun z => absurd z.1 q) id
        apply rX8_fits_66
        rw [show (17 : Int32) + (1 : Int32) = nI 18 from rfl, nI_clamp (by omega)]
        refine ⟨vp_in_nI (by omega) (by omega), ?_⟩
        rintro M2 rfl
        refine last M1 _ kd (V + 1 - (k + 1)) ⟨fun q hq => by rw [upd2_off hq, g2.1 q hq], fun i hi => by rw [upd2_row (by omega), g2.2 i hi]⟩ ?_ ⟨h7, hG.2.1, by omega, by omega⟩ (by rw [hf])
        obtain ⟨y1, y2, y3, y4, y5⟩ := g1
        exact ⟨by rw [upd2_row (by omega)]; exact y1, upd2_at, by rw [upd2_row (by omega)]; exact y3, fun i hi => by rw [upd2_row (by omega)]; exact y4 i hi, fun i hi => by rw [upd2_row (by omega)]; exact y5 i hi⟩
      · obtain ⟨-, hV5, hf⟩ : w = 0 ∧ V = 5 ∧ f = fun v => shwS n (updK kd s v) ngt s it N 0 stp th := hw.elim id (fun z => by omega)
        apply rX8_fits_66
        rw [show (17 : Int32) + ((10 : Int32) + nI s) = nI (17 + 10 + s) by rw [li_17, li_10, nI_add, nI_add, Nat.add_assoc], nI_clamp (by omega)]
        refine ⟨vp_in_nI (by omega) (by omega), ?_⟩
        rintro M2 rfl
        refine last M1 _ (updK kd s (V + 1 - (k + 1))) ngt ⟨fun q hq => by rw [upd2_off hq, g2.1 q hq], fun i hi => by rw [upd2_row (by omega), g2.2 i hi]⟩ ?_ ⟨h7, okK_upd hG.2.1 (by omega), hG.2.2⟩ (by rw [hf])
        obtain ⟨y1, y2, y3, y4, y5⟩ := g1
        refine ⟨by rw [upd2_row (by omega)]; exact y1, by rw [upd2_row (by omega)]; exact y2, by rw [upd2_row (by omega)]; exact y3, fun i hi => by rw [upd2_row (by omega)]; exact y4 i hi, fun i hi => ?_⟩
        unfold updK
        rw [upd2_r]
        by_cases c : i = s
        · rw [if_pos (by omega), if_pos c]
        · rw [if_neg (by omega), if_neg c]; exact y5 i hi
    apply rX8_fits_27
    rw [show (nI w = 0) = (w = 0) by rw [li_0]; exact propext (nI_eq (by omega) (by omega))]
    refine ⟨fun q => ?_, fun q => ?_⟩
    · rw [show V = 9 by omega] at mid ⊢; exact mid
    · rw [show V = 5 by omega] at mid ⊢; exact mid
