/-! ACTS: keep, minds; steps, swap, night, undo -/
def pshN (na : Nat) : Nat := if na = 24 then 24 else na + 1
def pshA (na : Nat) (A : ActT) (x : (Nat → Nat) × Nat × Nat) : ActT := if na = 24 then fun a => if a < 23 then A (a + 1) else x else fun a => if a < na then A a else x
theorem okA_psh {n na : Nat} {A : ActT} {x : (Nat → Nat) × Nat × Nat} (h : okA n na A) (hn : 0 < n) (hx : okT n x.1 ∧ dis n x.1 ∧ x.2.1 ≤ 9999 ∧ 1 ≤ x.2.2 ∧ x.2.2 ≤ 9) : okA n (pshN na) (pshA na A x) := by
  obtain ⟨h1, h2, h3⟩ := h
  unfold pshN pshA
  by_cases c : na = 24
  · rw [if_pos c, if_pos c]
    refine ⟨Nat.le_refl 24, fun _ => hn, fun a ha => ?_⟩
    dsimp only
    by_cases c2 : a < 23
    · rw [if_pos c2]; exact h3 (a + 1) (by omega)
    · rw [if_neg c2]; exact hx
  · rw [if_neg c, if_neg c]
    refine ⟨by omega, fun _ => hn, fun a ha => ?_⟩
    dsimp only
    by_cases c2 : a < na
    · rw [if_pos c2]; exact h3 a c2
    · rw [if_neg c2]; exact hx
/-- only the acts' rows change -/
def frA (M M' : Mm) : Prop := ∀ k, k ≠ 36 → k ≠ 37 → k ≠ 38 → k ≠ 39 → M' k = M k
theorem c0_kp (d n na old : Nat) (kd th : Nat → Nat) (stp ngt : Nat) (A : ActT) (M : Mm) (Q : Int32 → Mm → Prop) (hR : RgC M 23 n kd th stp ngt) (h7 : n ≤ 7) (hold : old < 24) (h3 : M 36 3 = nI old) (h4 : M 36 4 = nI na) (hna : na < 24)
    (hA : ∀ a, a < na → M 37 ((old + a) % 24) = nI (fig (A a).1 n) ∧ M 38 ((old + a) % 24) = nI (A a).2.1 ∧ M 39 ((old + a) % 24) = nI (A a).2.2)
    (h : ∀ M', AcC M' n (na + 1) (fun a => if a < na then A a else (th, stp, ngt)) → frA M M' → Q 0 M') : BX0_keep (d + 1) 32 [(0, .ref 36), (1, .ref 23)] [] M Q := by
  apply rX0_keep_32 _ _ rg23
  refine c4_figures d 23 rg23 n kd th stp ngt M _ hR h7 ?_
  have hm : (old + na) % 24 < 24 := Nat.mod_lt _ (by omega)
  rw [h3, h4, show (24 : Int32) = nI 24 from rfl, nI_add, irem_nI (by omega) (by omega) (by omega), nI_clamp (by omega)]
  refine ⟨vp_in_nI hm (by omega), ?_⟩
  rintro M1 rfl
  refine ⟨vp_in_nI hm (by omega), ?_⟩
  rintro M2 rfl
  refine ⟨vp_in_nI hm (by omega), ?_⟩
  rintro M3 rfl M4 rfl
  generalize hp : (old + na) % 24 = p at hm
  have e3 : upd2 M 37 p (nI (fig th n)) 23 3 = nI stp := by rw [upd2_off (by omega)]; exact hR.2.1
  have e4 : upd2 (upd2 M 37 p (nI (fig th n))) 38 p (nI stp) 23 4 = nI ngt := by rw [upd2_off (by omega), upd2_off (by omega)]; exact hR.2.2.1
  have e5 : upd2 (upd2 (upd2 M 37 p (nI (fig th n))) 38 p (nI stp)) 39 p (nI ngt) 36 4 = nI na := by rw [upd2_off (by omega), upd2_off (by omega), upd2_off (by omega)]; exact h4
  rw [e3, e4, e5]
  apply h
  · refine ⟨old, hold, ?_, ?_, fun a ha => ?_⟩
    · rw [upd2_row (by omega), upd2_off (by omega), upd2_off (by omega), upd2_off (by omega)]; exact h3
    · rw [upd2_at]; exact nI_1 na
    · dsimp only
      by_cases c : a < na
      · rw [if_pos c]
        have hne : (old + a) % 24 ≠ p := by omega
        obtain ⟨g1, g2, g3⟩ := hA a c
        refine ⟨?_, ?_, ?_⟩
        · rw [upd2_off (by omega), upd2_off (by omega), upd2_off (by omega), upd2_row hne]; exact g1
        · rw [upd2_off (by omega), upd2_off (by omega), upd2_row hne, upd2_off (by omega)]; exact g2
        · rw [upd2_off (by omega), upd2_row hne, upd2_off (by omega), upd2_off (by omega)]; exact g3
      · rw [if_neg c, show a = na by omega, hp]
        refine ⟨?_, ?_, ?_⟩
        · rw [upd2_off (by omega), upd2_off (by omega), upd2_off (by omega), upd2_at]
        · rw [upd2_off (by omega), upd2_off (by omega), upd2_at]
        · rw [upd2_off (by omega), upd2_at]
  · intro k x1 x2 x3 x4
    rw [upd2_off x1, upd2_off x4, upd2_off x3, upd2_off x2]
theorem c0_keep (d n na : Nat) (kd th : Nat → Nat) (stp ngt : Nat) (A : ActT) (M : Mm) (Q : Int32 → Mm → Prop) (hR : RgC M 23 n kd th stp ngt) (h7 : n ≤ 7) (hna : na ≤ 24) (hA : AcC M n na A)
    (h : ∀ M', AcC M' n (pshN na) (pshA na A (th, stp, ngt)) → frA M M' → Q 0 M') : kX0_keep (d + 1) 23 M Q := by
  obtain ⟨old, hold, h3, h4, h5⟩ := hA
  apply rX0_keep _ _ rg23
  unfold pshN pshA at h
  rw [h4, h3, show (24 : Int32) = nI 24 from rfl]
  simp (disch := omega) only [nI_eq]
  refine ⟨fun q => ?_, fun q => ?_⟩
  · rw [if_neg q, if_neg q] at h
    exact c0_kp d n na old kd th stp ngt A M Q hR h7 hold h3 h4 (by omega) h5 h
  · rw [if_pos q, if_pos q] at h
    rintro M1 rfl M2 rfl
    have hm : (old + 1) % 24 < 24 := Nat.mod_lt _ (by omega)
    rw [show nI old + 1 = nI (old + 1) from nI_1 old, irem_nI (by omega) (by omega) (by omega), upd2_row (by omega), h4, q, show nI 24 - 1 = nI 23 from nI_pred 23]
    have r : ∀ k, k ≠ 36 → upd2 (upd2 M 36 3 (nI ((old + 1) % 24))) 36 4 (nI 23) k = M k := fun k hk => by rw [upd2_off hk, upd2_off hk]
    refine c0_kp d n 23 ((old + 1) % 24) kd th stp ngt (fun a => A (a + 1)) _ Q (RgC_c hR (r _ (by omega)) (r _ (by omega)) (r _ (by omega))) h7 hm (by rw [upd2_row (by omega), upd2_at]) upd2_at (by omega) (fun a ha => ?_) (fun M' g1 g2 => h M' ?_ (fun k x1 x2 x3 x4 => by rw [g2 k x1 x2 x3 x4, r k x1]))
    · rw [r _ (by omega), r _ (by omega), r _ (by omega), show ((old + 1) % 24 + a) % 24 = (old + (a + 1)) % 24 by omega]
      exact h5 (a + 1) (by omega)
    · exact g1
/-- only the reference's acts change -/
def frB (M M' : Mm) : Prop := (∀ k, k ≠ 49 → k ≠ 50 → M' k = M k) ∧ (∀ j, j ≠ 1 → M' 49 j = M 49 j) ∧ ∀ i, i < 85 → M' 50 i = M 50 i
theorem c8_md (d n na : Nat) (kd th : Nat → Nat) (stp ngt : Nat) (A : ActT) (M : Mm) (Q : Int32 → Mm → Prop) (hR : RgM M 0 n kd th stp ngt) (h7 : n ≤ 7) (hna : na < 24) (hA : AcM M n na A)
    (h : ∀ M', AcM M' n (na + 1) (fun a => if a < na then A a else (th, stp, ngt)) → frB M M' → Q 0 M') : BX8_minds (d + 1) 55 [(0, .ref 49)] [] M Q := by
  apply rX8_minds_55
  rw [hA.1, show (85 : Int32) + (9 : Int32) * nI na = nI (85 + 9 * na) by rw [show (85 : Int32) = nI 85 from rfl, show (9 : Int32) = nI 9 from rfl, pk_mul, nI_add]]
  refine c8_copyOf d 1 (85 + 9 * na) 9 (by omega) (by omega) (by omega) _ M ?_
  rintro M2 rfl
  have e1 : cpW M 1 (85 + 9 * na) 9 49 1 = nI na := by rw [cpW_off (by omega)]; exact hA.1
  rw [e1]
  obtain ⟨g1, g2, g3, g4, g5⟩ := hR
  apply h
  · refine ⟨by rw [upd2_at]; exact nI_1 na, fun a ha => ?_⟩
    rw [upd2_off (by omega)]
    dsimp only
    by_cases c : a < na
    · rw [if_pos c, cpW_out (by omega), cpW_out (by omega)]
      obtain ⟨x1, x2, x3⟩ := hA.2 a c
      exact ⟨x1, x2, fun i hi => by rw [cpW_out (by omega)]; exact x3 i hi⟩
    · rw [if_neg c, show a = na by omega]
      refine ⟨?_, ?_, fun i hi => ?_⟩
      · have := cpW_in (M := M) (a := 1) (b := 85 + 9 * na) (n := 9) (i := 0) (by omega)
        rw [Nat.add_zero, Nat.add_zero] at this
        rw [this]; exact g2
      · rw [cpW_in (by omega)]; exact g3
      · rw [show 85 + 9 * na + 2 + i = 85 + 9 * na + (2 + i) by omega, cpW_in (by omega), show 1 + (2 + i) = 0 + 3 + i by omega]; exact g4 i hi
  · refine ⟨fun k x1 x2 => by rw [upd2_off x1, cpW_off x2], fun j hj => by rw [upd2_row hj, cpW_off (by omega)], fun i hi => by rw [upd2_off (by omega), cpW_out (by omega)]⟩
/-- the shift by one act -/
def shW (M : Mm) (m : Nat) : Mm := setR M 50 (fun i => if 85 ≤ i ∧ i < 85 + m then M 50 (i + 9) else M 50 i)
theorem shW_out {M : Mm} {m i : Nat} (h : i < 85 ∨ 85 + m ≤ i) : shW M m 50 i = M 50 i := by unfold shW; rw [setR_eq, if_neg (by omega)]
theorem shW_in {M : Mm} {m i : Nat} (h1 : 85 ≤ i) (h2 : i < 85 + m) : shW M m 50 i = M 50 (i + 9) := by unfold shW; rw [setR_eq, if_pos ⟨h1, h2⟩]
theorem shW_off {M : Mm} {m k : Nat} (h : k ≠ 50) : shW M m k = M k := setR_ne h
theorem c8_mdLoop (d : Nat) (Q : Int32 → Mm → Prop) (M : Mm) (h : BX8_minds (d + 1) 55 [(0, .ref 49)] [] (upd2 (shW M 207) 49 1 (shW M 207 49 1 - 1)) Q) : ∀ k, k ≤ 207 → BX8_minds (d + 1) 11 [(0, .ref 49), (1, .int (nI (207 - k)))] [] (shW M (207 - k)) Q
  | 0, _ => by
    apply rX8_minds_11
    refine ⟨fun _ => ?_, fun q => absurd (nI_le (a := 207) (b := 207 - 0) (by omega) (by omega)) q⟩
    rintro M1 rfl
    exact h
  | k + 1, hk => by
    apply rX8_minds_11
    have e : 207 - (k + 1) + 1 = 207 - k := by omega
    rw [show nI (207 - (k + 1)) + 1 = nI (207 - k) by rw [nI_1, e], show (85 : Int32) + nI (207 - (k + 1)) = nI (85 + (207 - (k + 1))) by rw [show (85 : Int32) = nI 85 from rfl, nI_add], show nI (85 + (207 - (k + 1))) + (9 : Int32) = nI (85 + (207 - (k + 1)) + 9) by rw [show (9 : Int32) = nI 9 from rfl, nI_add], nI_clamp (by omega), nI_clamp (by omega)]
    refine ⟨fun q => absurd q (nI_ge (a := 207 - (k + 1)) (b := 207) (by omega) (by omega)), fun _ => ⟨vp_in_nI (by omega) (by omega), vp_in_nI (by omega) (by omega), ?_⟩⟩
    rintro M2 rfl
    have e2 : upd2 (shW M (207 - (k + 1))) 50 (85 + (207 - (k + 1))) (shW M (207 - (k + 1)) 50 (85 + (207 - (k + 1)) + 9)) = shW M (207 - k) := by
      rw [shW_out (by omega)]
      funext q i
      by_cases hq : q = 50
      · subst hq
        rw [upd2_r]
        by_cases c : i = 85 + (207 - (k + 1))
        · rw [if_pos c, c, shW_in (by omega) (by omega)]
        · rw [if_neg c]
          by_cases c2 : 85 ≤ i ∧ i < 85 + (207 - (k + 1))
          · rw [shW_in c2.1 c2.2, shW_in (by omega) (by omega)]
          · rw [shW_out (by omega), shW_out (by omega)]
      · rw [upd2_off hq, shW_off hq, shW_off hq]
    rw [e2]
    exact c8_mdLoop d Q M h k (by omega)
theorem c8_minds (d n na : Nat) (kd th : Nat → Nat) (stp ngt : Nat) (A : ActT) (M : Mm) (Q : Int32 → Mm → Prop) (hR : RgM M 0 n kd th stp ngt) (h7 : n ≤ 7) (hna : na ≤ 24) (hA : AcM M n na A)
    (h : ∀ M', AcM M' n (pshN na) (pshA na A (th, stp, ngt)) → frB M M' → Q 0 M') : kX8_minds (d + 1) M Q := by
  apply rX8_minds
  unfold pshN pshA at h
  rw [hA.1, show (24 : Int32) = nI 24 from rfl]
  simp (disch := omega) only [nI_eq]
  refine ⟨fun q => ?_, fun q => ?_⟩
  · rw [if_neg q, if_neg q] at h
    exact c8_md d n na kd th stp ngt A M Q hR h7 (by omega) hA h
  · rw [if_pos q, if_pos q] at h
    have w0 : ∀ k, k ≠ 50 → shW M 207 k = M k := fun k hk => setR_ne hk
    have w1 : ∀ i, i < 85 → shW M 207 50 i = M 50 i := fun i hi => by unfold shW; rw [setR_eq, if_neg (by omega)]
    have w2 : ∀ i, 85 ≤ i → i < 292 → shW M 207 50 i = M 50 (i + 9) := fun i h1 h2 => by unfold shW; rw [setR_eq, if_pos (by omega)]
    have := c8_mdLoop d Q M ?_ 207 (Nat.le_refl 207)
    · have e : shW M (207 - 207) = M := by
        unfold shW
        funext q i
        by_cases hq : q = 50
        · subst hq; rw [setR_eq, if_neg (by omega)]
        · rw [setR_ne hq]
      rw [e] at this
      exact this
    · rw [w0 49 (by omega), hA.1, q, show nI 24 - 1 = nI 23 from nI_pred 23]
      have r : ∀ k, k ≠ 49 → upd2 (shW M 207) 49 1 (nI 23) k = shW M 207 k := fun k hk => upd2_off hk
      refine c8_md d n 23 kd th stp ngt (fun a => A (a + 1)) _ Q (RgM_c hR h7 (fun i _ hi => by rw [r 50 (by omega), w1 i (by omega)])) h7 (by omega) ⟨upd2_at, fun a ha => ?_⟩ (fun M' g1 g2 => h M' g1 ⟨fun k x1 x2 => by rw [g2.1 k x1 x2, r k x1, w0 k x2], fun j hj => by rw [g2.2.1 j hj, upd2_row hj, w0 49 (by omega)], fun i hi => by rw [g2.2.2 i hi, r 50 (by omega), w1 i hi]⟩)
      obtain ⟨x1, x2, x3⟩ := hA.2 (a + 1) (by omega)
      rw [r 50 (by omega), w2 _ (by omega) (by omega), w2 _ (by omega) (by omega)]
      refine ⟨by rw [show 85 + 9 * a + 9 = 85 + 9 * (a + 1) by omega]; exact x1, by rw [show 85 + 9 * a + 1 + 9 = 85 + 9 * (a + 1) + 1 by omega]; exact x2, fun i hi => ?_⟩
      rw [w2 _ (by omega) (by omega), show 85 + 9 * a + 2 + i + 9 = 85 + 9 * (a + 1) + 2 + i by omega]
      exact x3 i hi
/-- the ring and its acts are new, all else is as it was -/
theorem Inv_ra {M M' : Mm} (h : Inv M) (hra : I_ra M') (hk : ∀ k, k ≠ 23 → k ≠ 24 → k ≠ 25 → k ≠ 36 → k ≠ 37 → k ≠ 38 → k ≠ 39 → k ≠ 49 → k ≠ 50 → M' k = M k) (h49 : ∀ j, j ≠ 1 → M' 49 j = M 49 j) (h50 : ∀ i, 34 ≤ i → i < 68 → M' 50 i = M 50 i) : Inv M' := by
  obtain ⟨a, b, c, dd, e, f⟩ := h
  have u : ∀ q, (q < 23 ∨ (25 < q ∧ q < 36) ∨ (39 < q ∧ q < 49) ∨ 50 < q) → M' q = M q := fun q hq => hk q (by omega) (by omega) (by omega) (by omega) (by omega) (by omega) (by omega) (by omega) (by omega)
  refine ⟨I_rows_c a (fun q x1 x2 => u q (by omega)) (u 52 (by omega)) (u 53 (by omega)) (u 54 (by omega)), I_tape_c b (by rw [u 18 (by omega)]) (by rw [u 18 (by omega)]) (u 19 (by omega)) (h49 3 (by omega)) (h49 4 (by omega)) (u 51 (by omega)) (by rw [u 20 (by omega)]), hra, I_img_c dd (fun q x1 x2 => u q (by omega)) h50, ?_, I_trc_c f (by rw [u 46 (by omega)]) (h49 22 (by omega)) (u 47 (by omega)) (u 64 (by omega))⟩
  unfold I_fnd
  rw [h49 5 (by omega), u 0 (by omega)]
  exact e
theorem swp_ix {th : Nat → Nat} {a b i : Nat} : ∃ k, swp th a b i = th k ∧ (i = b ∧ k = a ∨ i ≠ b ∧ i = a ∧ k = b ∨ i ≠ b ∧ i ≠ a ∧ k = i) := by
  unfold swp
  by_cases h1 : i = b
  · exact ⟨a, by rw [if_pos h1], Or.inl ⟨h1, rfl⟩⟩
  · by_cases h2 : i = a
    · exact ⟨b, by rw [if_neg h1, if_pos h2], Or.inr (Or.inl ⟨h1, h2, rfl⟩)⟩
    · exact ⟨i, by rw [if_neg h1, if_neg h2], Or.inr (Or.inr ⟨h1, h2, rfl⟩)⟩
theorem dis_swp {n : Nat} {th : Nat → Nat} {a b : Nat} (h : dis n th) (ha : a < n) (hb : b < n) : dis n (swp th a b) := by
  intro i j hi hj e hne
  obtain ⟨k, e1, c1⟩ := swp_ix (th := th) (a := a) (b := b) (i := i)
  obtain ⟨m, e2, c2⟩ := swp_ix (th := th) (a := a) (b := b) (i := j)
  rw [e1, e2] at e
  rw [e1] at hne
  have := h k m (by omega) (by omega) e hne
  omega
theorem dis_hand {n : Nat} {kd th : Nat → Nat} {a b : Nat} (h : dis n th) (ha : a < n) (hb : b < n) : dis n (handS kd th a b) := by
  unfold handS
  split
  · exact dis_swp h ha hb
  · exact h
theorem dis_turn {n : Nat} {kd th : Nat → Nat} {stp s : Nat} (h : dis n th) (hs : s < n) : dis n (turnS n kd stp th s) := by
  unfold turnS
  have h1 := dis_hand (kd := kd) h hs (nxS_lt hs)
  have h2 := dis_hand (kd := kd) h hs (pvS_lt hs)
  repeat' split
  all_goals assumption
theorem dis_turns {n : Nat} {kd : Nat → Nat} {stp asl : Nat} : ∀ (k : Nat) (th : Nat → Nat), k ≤ n → dis n th → dis n (turnsS n kd stp asl k th)
  | 0, th, _, h => h
  | k + 1, th, hk, h => by
    refine dis_turns k _ (by omega) ?_
    split
    · exact h
    · exact dis_turn h (by omega)
theorem dis_mat {n : Nat} {kd th : Nat → Nat} {s : Nat} (h : dis n th) (hs : s < n) : dis n (matS n kd th s) := by
  unfold matS
  split
  · exact dis_swp h hs (by omega)
  · exact h
theorem dis_mats {n : Nat} {kd : Nat → Nat} : ∀ (k : Nat) (th : Nat → Nat), k ≤ n → dis n th → dis n (matsS n kd k th)
  | 0, th, _, h => h
  | k + 1, th, hk, h => dis_mats k _ (by omega) (dis_mat h (by omega))
theorem dis_step {n : Nat} {kd th : Nat → Nat} {ngt stp asl : Nat} (h : dis n th) : dis n (stepS n kd ngt stp asl th) := by
  unfold stepS
  split
  · exact dis_mats n _ (Nat.le_refl n) (dis_turns n th (Nat.le_refl n) h)
  · exact dis_turns n th (Nat.le_refl n) h
/-- steps, k of them: the ring and the acts -/
def stpA (n : Nat) (kd : Nat → Nat) (ngt : Nat) : Nat → Nat → (Nat → Nat) → Nat → ActT → Nat × ActT
  | 0, _, _, na, A => (na, A)
  | k + 1, stp, th, na, A => stpA n kd ngt k (stp + 1) (stepS n kd ngt stp 0 th) (pshN na) (pshA na A (th, stp, ngt))
theorem okA_stp {n : Nat} {kd : Nat → Nat} {ngt : Nat} (hn : 0 < n) (hg : 1 ≤ ngt ∧ ngt ≤ 9) : ∀ (k stp : Nat) (th : Nat → Nat) (na : Nat) (A : ActT), okA n na A → okT n th → dis n th → stp + k ≤ 9999 → okA n (stpA n kd ngt k stp th na A).1 (stpA n kd ngt k stp th na A).2
  | 0, _, _, _, _, h, _, _, _ => h
  | k + 1, stp, th, na, A, h, h1, h2, h3 => okA_stp hn hg k (stp + 1) _ _ _ (okA_psh h hn ⟨h1, h2, by show stp ≤ 9999; omega, hg⟩) (okT_step h1) (dis_step h2) (by omega)
theorem okT_it {n : Nat} {kd : Nat → Nat} {ngt : Nat} : ∀ (k stp : Nat) (th : Nat → Nat), okT n th → okT n (itT n kd ngt k stp th)
  | 0, _, _, h => h
  | k + 1, stp, th, h => okT_it k _ _ (okT_step h)
theorem dis_it {n : Nat} {kd : Nat → Nat} {ngt : Nat} : ∀ (k stp : Nat) (th : Nat → Nat), dis n th → dis n (itT n kd ngt k stp th)
  | 0, _, _, h => h
  | k + 1, stp, th, h => dis_it k _ _ (dis_step h)
theorem pshN_le {na : Nat} (h : na ≤ 24) : pshN na ≤ 24 := by unfold pshN; split <;> omega
theorem c7_stpLoop (d n D : Nat) (kd : Nat → Nat) (ngt : Nat) (Q : Int32 → Mm → Prop) (hG : okG n kd ngt) (hD : D ≤ 24) : ∀ (k : Nat) (M : Mm) (th : Nat → Nat) (stp na : Nat) (A : ActT), k ≤ D → RgC M 23 n kd th stp ngt → okT n th → stp + k ≤ 9999 → na ≤ 24 → AcC M n na A →
    (∀ M', RgC M' 23 n kd (itT n kd ngt k stp th) (stp + k) ngt → AcC M' n (stpA n kd ngt k stp th na A).1 (stpA n kd ngt k stp th na A).2 → (∀ q, q ≠ 23 → q ≠ 25 → q ≠ 36 → q ≠ 37 → q ≠ 38 → q ≠ 39 → M' q = M q) → Q (nI (stp + k)) M') →
    BX7_steps (d + 4) 47 [(0, .ref 0), (1, .int (nI D)), (2, .int (nI (D - k)))] [] M Q
  | 0, M, th, stp, na, A, _, hR, ht, hst, hna, hA, h => by
    apply rX7_steps_47
    rw [hR.2.1]
    exact ⟨fun _ => h M hR hA (fun _ _ _ _ _ _ _ => rfl), fun q => absurd (nI_le (a := D) (b := D - 0) (by omega) (by omega)) q⟩
  | k + 1, M, th, stp, na, A, hk, hR, ht, hst, hna, hA, h => by
    apply rX7_steps_47
    have e : D - (k + 1) + 1 = D - k := by omega
    rw [show nI (D - (k + 1)) + 1 = nI (D - k) by rw [nI_1, e]]
    refine ⟨fun q => absurd q (nI_ge (by omega) (by omega)), fun _ => ?_⟩
    refine c0_keep _ n na kd th stp ngt A M _ hR hG.1 hna hA (fun M1 g1 g2 => ?_)
    refine c4_advance d 23 rg23 n kd th stp ngt 0 M1 _ (RgC_c hR (g2 _ (by omega) (by omega) (by omega) (by omega)) (g2 _ (by omega) (by omega) (by omega) (by omega)) (g2 _ (by omega) (by omega) (by omega) (by omega))) hG.2.1 ht hG.1 (by omega) hG.2.2 (by omega) (fun M2 g3 g4 => ?_)
    refine c7_stpLoop d n D kd ngt Q hG hD k M2 _ (stp + 1) (pshN na) _ (by omega) g3 (okT_step ht) (by omega) (pshN_le hna) (AcC_c g1 (g4 _ (by omega) (by omega)) (g4 _ (by omega) (by omega)) (g4 _ (by omega) (by omega)) (g4 _ (by omega) (by omega))) (fun M' g5 g6 g7 => ?_)
    rw [show stp + 1 + k = stp + (k + 1) by omega] at *
    exact h M' g5 g6 (fun q x1 x2 x3 x4 x5 x6 => by rw [g7 q x1 x2 x3 x4 x5 x6, g4 q x1 x2, g2 q x3 x4 x5 x6])
theorem c8_stpLoop (d n D : Nat) (kd : Nat → Nat) (ngt : Nat) (Q : Int32 → Mm → Prop) (hG : okG n kd ngt) (hD : D ≤ 24) : ∀ (k : Nat) (M : Mm) (th : Nat → Nat) (stp na : Nat) (A : ActT), k ≤ D → RgM M 0 n kd th stp ngt → okT n th → stp + k ≤ 9999 → na ≤ 24 → AcM M n na A →
    (∀ M', RgM M' 0 n kd (itT n kd ngt k stp th) (stp + k) ngt → AcM M' n (stpA n kd ngt k stp th na A).1 (stpA n kd ngt k stp th na A).2 → (∀ q, q ≠ 49 → q ≠ 50 → M' q = M q) → (∀ j, j ≠ 1 → M' 49 j = M 49 j) → (∀ i, 17 ≤ i → i < 85 → M' 50 i = M 50 i) → Q (nI (stp + k)) M') →
    BX8_steps (d + 3) 46 [(0, .ref 49), (1, .int (nI D)), (2, .int (nI (D - k)))] [] M Q
  | 0, M, th, stp, na, A, _, hR, ht, hst, hna, hA, h => by
    apply rX8_steps_46
    have e2 : M 50 2 = nI stp := hR.2.2.1
    have c2 : (2 : Int32).toNatClampNeg = 2 := rfl
    rw [c2, e2]
    exact ⟨fun _ => ⟨vp_in_nI (n := 2) (by omega) (by omega), h M hR hA (fun _ _ _ => rfl) (fun _ _ => rfl) (fun _ _ _ => rfl)⟩, fun q => absurd (nI_le (a := D) (b := D - 0) (by omega) (by omega)) q⟩
  | k + 1, M, th, stp, na, A, hk, hR, ht, hst, hna, hA, h => by
    apply rX8_steps_46
    have e : D - (k + 1) + 1 = D - k := by omega
    rw [show nI (D - (k + 1)) + 1 = nI (D - k) by rw [nI_1, e]]
    refine ⟨fun q => absurd q (nI_ge (by omega) (by omega)), fun _ => ?_⟩
    have h7 := hG.1
    refine c8_minds _ n na kd th stp ngt A M _ hR hG.1 hna hA (fun M1 g1 g2 => ?_)
    refine c8_stepsBy d 0 n kd th stp ngt 0 M1 _ (RgM_c hR hG.1 (fun i _ hi => g2.2.2 i (by omega))) inW0 hG.2.1 ht hG.1 (by omega) hG.2.2 (by omega) (fun M2 g3 g4 => ?_)
    refine c8_stpLoop d n D kd ngt Q hG hD k M2 _ (stp + 1) (pshN na) _ (by omega) g3 (okT_step ht) (by omega) (pshN_le hna) (AcM_c g1 (by rw [g4.1 49 (by omega)]) (fun i hi => g4.2 i (by omega))) (fun M' g5 g6 g7 g8 g9 => ?_)
    rw [show stp + 1 + k = stp + (k + 1) by omega] at *
    exact h M' g5 g6 (fun q x1 x2 => by rw [g7 q x1 x2, g4.1 q x2, g2.1 q x1 x2]) (fun j hj => by rw [g8 j hj, g4.1 49 (by omega), g2.2.1 j hj]) (fun i x1 x2 => by rw [g9 i x1 x2, g4.2 i (by omega), g2.2.2 i (by omega)])
