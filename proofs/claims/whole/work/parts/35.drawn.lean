/-! as, drawn -/
theorem ofk_chain (d w : Nat) (M : Mm) (Q : Int32 → Mm → Prop) (hw : w ≤ 5) : ∀ (rest : List Nat) (k i : Nat), k < 6 → i + rest.length < 6 → (∀ j, j < rest.length → rest.getD j 0 < 6) → (stL 0).getD k 0 = (match rest with | [] => -1 | k' :: _ => nI k') → (∀ j, j + 1 < rest.length → (stL 0).getD (rest.getD j 0) 0 = nI (rest.getD (j + 1) 0)) → (rest ≠ [] → (stL 0).getD (rest.getD (rest.length - 1) 0) 0 = -1) →
    Q (if w = k ∨ w ∈ rest then 1 else 0) M → BX7_isOfKind d 4 [(1, .int (nI w)), (2, .int (nI k)), (3, .int (nI i))] [] M Q
  | [], k, i, hk, hi, _, h1, _, _, h => by
    apply rX7_isOfKind_4
    have hi' : i < 6 := by simpa using hi
    refine ⟨fun q => absurd q (nI_ge (b := 6) hi' (by omega)), fun _ => ⟨fun q => absurd q (nI_pos (by omega)), fun _ => ⟨fun q => absurd q (nI_ge (b := 6) hk (by omega)), fun _ => ?_⟩⟩⟩
    rw [nI_clamp (by omega), h1, nI_1]
    simp (disch := omega) only [nI_eq]
    refine ⟨fun q => ⟨vp_in_nI hk (by omega), ?_⟩, fun q => ?_⟩
    · rw [if_neg (by simp; omega)] at h
      apply rX7_isOfKind_4
      refine ⟨fun _ => h, fun _ => ⟨fun _ => h, fun q => absurd (by decide) q⟩⟩
    · rw [if_pos (Or.inl q.symm)] at h
      exact h
  | k' :: rest, k, i, hk, hi, hb, h1, h2, h3, h => by
    apply rX7_isOfKind_4
    have hi' : i + 1 + rest.length < 6 := by simp at hi; omega
    refine ⟨fun q => absurd q (nI_ge (b := 6) (by omega) (by omega)), fun _ => ⟨fun q => absurd q (nI_pos (by omega)), fun _ => ⟨fun q => absurd q (nI_ge (b := 6) hk (by omega)), fun _ => ?_⟩⟩⟩
    rw [nI_clamp (by omega), h1, nI_1]
    simp (disch := omega) only [nI_eq]
    refine ⟨fun q => ⟨vp_in_nI hk (by omega), ?_⟩, fun q => ?_⟩
    · have hk' : k' < 6 := by simpa using hb 0 (by simp)
      refine ofk_chain d w M Q hw rest k' (i + 1) hk' hi' (fun j hj => by simpa using hb (j + 1) (by simpa using hj)) ?_ (fun j hj => by simpa using h2 (j + 1) (by simpa using hj)) ?_ ?_
      · cases rest with
        | nil => simpa using h3 (by simp)
        | cons a t => simpa using h2 0 (by simp)
      · intro hne
        have := h3 (by simp)
        cases rest with
        | nil => exact absurd rfl hne
        | cons a t => simpa using this
      · have e : (w = k ∨ w ∈ k' :: rest) ↔ (w = k' ∨ w ∈ rest) := by
          simp only [List.mem_cons]
          exact ⟨fun z => z.elim (fun y => absurd y.symm q) id, Or.inr⟩
        simp only [e] at h
        exact h
    · rw [if_pos (Or.inl q.symm)] at h
      exact h
def isaS (k w : Nat) : Prop := w = 0 ∨ w = k ∨ (w = 1 ∧ (k = 2 ∨ k = 3)) ∨ (w = 4 ∧ k = 5)
theorem c7_ofKind (d k w : Nat) (M : Mm) (Q : Int32 → Mm → Prop) (hk : 1 ≤ k ∧ k ≤ 5) (hw : w ≤ 5) (hy : isaS k w → Q 1 M) (hn : ¬ isaS k w → Q 0 M) : kX7_isOfKind d (nI k) (nI w) M Q := by
  apply rX7_isOfKind
  have go : ∀ rest : List Nat, ((w = k ∨ w ∈ rest) ↔ isaS k w) → Q (if w = k ∨ w ∈ rest then 1 else 0) M := by
    intro rest e
    by_cases c : w = k ∨ w ∈ rest
    · rw [if_pos c]; exact hy (e.mp c)
    · rw [if_neg c]; exact hn (fun z => c (e.mpr z))
  unfold isaS at go
  rcases (show k = 1 ∨ k = 2 ∨ k = 3 ∨ k = 4 ∨ k = 5 by omega) with rfl | rfl | rfl | rfl | rfl
  · exact ofk_chain d w M Q hw [0] 1 0 (by decide) (by decide) (by decide) rfl (fun j hj => absurd hj (by simp)) (fun _ => rfl) (go [0] ⟨fun z => by simp only [List.mem_cons, List.not_mem_nil, or_false] at z; omega, fun z => by simp only [List.mem_cons, List.not_mem_nil, or_false]; omega⟩)
  · exact ofk_chain d w M Q hw [1, 0] 2 0 (by decide) (by decide) (by decide) rfl (fun j hj => by have h9 : j + 1 < 2 := hj; rcases (show j = 0 by omega) with rfl; rfl) (fun _ => rfl) (go [1, 0] ⟨fun z => by simp only [List.mem_cons, List.not_mem_nil, or_false] at z; omega, fun z => by simp only [List.mem_cons, List.not_mem_nil, or_false]; omega⟩)
  · exact ofk_chain d w M Q hw [1, 0] 3 0 (by decide) (by decide) (by decide) rfl (fun j hj => by have h9 : j + 1 < 2 := hj; rcases (show j = 0 by omega) with rfl; rfl) (fun _ => rfl) (go [1, 0] ⟨fun z => by simp only [List.mem_cons, List.not_mem_nil, or_false] at z; omega, fun z => by simp only [List.mem_cons, List.not_mem_nil, or_false]; omega⟩)
  · exact ofk_chain d w M Q hw [0] 4 0 (by decide) (by decide) (by decide) rfl (fun j hj => absurd hj (by simp)) (fun _ => rfl) (go [0] ⟨fun z => by simp only [List.mem_cons, List.not_mem_nil, or_false] at z; omega, fun z => by simp only [List.mem_cons, List.not_mem_nil, or_false]; omega⟩)
  · exact ofk_chain d w M Q hw [4, 0] 5 0 (by decide) (by decide) (by decide) rfl (fun j hj => by have h9 : j + 1 < 2 := hj; rcases (show j = 0 by omega) with rfl; rfl) (fun _ => rfl) (go [4, 0] ⟨fun z => by simp only [List.mem_cons, List.not_mem_nil, or_false] at z; omega, fun z => by simp only [List.mem_cons, List.not_mem_nil, or_false]; omega⟩)
theorem c8_isA (d k w : Nat) (M : Mm) (Q : Int32 → Mm → Prop) (hk : 1 ≤ k ∧ k ≤ 5) (hw : w ≤ 5) (hy : isaS k w → Q 1 M) (hn : ¬ isaS k w → Q 0 M) : kX8_isA d (nI k) (nI w) M Q := by
  have b : ¬ (w = 0 ∨ w = k ∨ (w = 1 ∧ (k = 2 ∨ k = 3))) → BX8_isA d 24 [(0, .int (nI k)), (1, .int (nI w))] [] M Q := by
    intro c
    apply rX8_isA_24
    rw [li_4, li_5]
    simp (disch := omega) only [nI_eq]
    unfold isaS at hy hn
    exact ⟨fun q => hn (by omega), fun q => ⟨fun q2 => hn (by omega), fun q2 => hy (by omega)⟩⟩
  apply rX8_isA
  rw [li_0, li_1, li_2, li_3]
  simp (disch := omega) only [nI_eq]
  unfold isaS at hy
  refine ⟨fun q => hy (by omega), fun q => ⟨fun q2 => hy (by omega), fun q2 => ⟨fun q3 => b (by omega), fun q3 => ⟨fun q4 => hy (by omega), fun q4 => ⟨fun q5 => hy (by omega), fun q5 => b (by omega)⟩⟩⟩⟩⟩
theorem L_as (v1 v2 : Int32) (M : Mm) (hI : Inv M) : kX7_as 40 v1 v2 M (fun r1 M1 => kX8_as 40 v1 v2 M1 (fun r2 M2 => r1 = r2 ∧ Inv M2)) := by
  obtain ⟨n, kd, th, stp, ngt, hC, hM, hok, -⟩ := hI.2.2.1
  have h7 := okR_7 hok
  apply rX7_as
  rcases s_ix v1 h7 with h1 | ⟨s, hs, rfl⟩
  · refine c4_sn _ 23 rg23 n _ _ _ hC.1 h1 ⟨fun _ => ?_, fun q => absurd rfl q⟩
    apply rX8_as
    exact c8_sn _ n _ _ _ hM.1 h7 h1 ⟨fun _ => ⟨rfl, hI⟩, fun q => absurd rfl q⟩
  · refine c4_sy _ 23 rg23 n s _ _ hC.1 h7 hs ⟨fun q => absurd q (by decide), fun _ => ?_⟩
    rcases pk_ix v2 (n := 6) (by omega) with h2 | h2 | ⟨w, hw, rfl⟩
    · refine ⟨fun _ => ?_, fun q => absurd h2 q⟩
      apply rX8_as
      exact c8_sy _ n s _ _ hM.1 h7 hs ⟨fun q => absurd q (by decide), fun _ => c8_n _ 5 _ _ _ (by omega) (Or.inl h2) ⟨fun q => absurd rfl q, fun _ => ⟨rfl, hI⟩⟩⟩
    · refine ⟨fun q => absurd q (big_pos h2 (by omega)), fun _ => ⟨fun q => absurd q (big_gt (m := 5) h2 (by omega) (by omega)), fun _ => ?_⟩⟩
      apply rX8_as
      exact c8_sy _ n s _ _ hM.1 h7 hs ⟨fun q => absurd q (by decide), fun _ => c8_n _ 5 _ _ _ (by omega) (Or.inr h2) ⟨fun q => absurd rfl q, fun _ => ⟨rfl, hI⟩⟩⟩
    · have hk := (okR_T hok).2 s hs
      have e1 : M 24 s = nI (kd s) := hC.2.2.2.1 s hs
      refine ⟨fun q => absurd q (nI_pos (by omega)), fun _ => ⟨fun _ => ⟨vp_in_nI (by omega) (by omega), ?_⟩, fun q => absurd (nI_le (a := w) (b := 5) (by omega) (by omega)) q⟩⟩
      rw [nI_clamp (by omega), e1]
      have m8 : ∀ (x : Int32) (Q : Int32 → Mm → Prop), kX8_isA 39 (nI (kd s)) (nI w) (upd2 M 0 10 x) (fun r3 M3 => ((¬ r3 = 0 → (∀ M4, M4 = (upd2 M3 49 5 0) → Q (nI s) M4)) ∧ (r3 = 0 → kX8_finds 39 3 M3 (fun r4 M5 => Q r4 M5)))) → kX8_as 40 (nI s) (nI w) (upd2 M 0 10 x) Q := by
        intro x Q h
        have r50 : upd2 M 0 10 x 50 = M 50 := upd2_off (by omega)
        apply rX8_as
        refine c8_sy _ n s _ _ (by rw [r50]; exact hM.1) h7 hs ⟨fun q => absurd q (by decide), fun _ => c8_y _ w 5 _ _ (by omega) (by omega) ⟨fun _ => ?_, fun q => absurd q (by decide)⟩⟩
        have e2 : M 50 (0 + 10 + s) = nI (kd s) := hM.2.2.2.2 s hs
        rw [show (10 : Int32) + nI s = nI (0 + 10 + s) by rw [li_10, nI_add], nI_clamp (by omega), r50, e2]
        exact ⟨vp_in_nI (by omega) (by omega), h⟩
      refine c7_ofKind _ (kd s) w M _ hk (by omega) (fun c => ?_) (fun c => ?_)
      · refine ⟨fun _ => ?_, fun q => absurd q (by decide)⟩
        rintro M1 rfl
        refine m8 _ _ (c8_isA _ _ w _ _ hk (by omega) (fun _ => ⟨fun _ => ?_, fun q => absurd q (by decide)⟩) (fun z => absurd c z))
        rintro M2 rfl
        exact ⟨rfl, Inv_f hI 0⟩
      · refine ⟨fun q => absurd rfl q, fun _ => c7_found _ _ _ _ ?_⟩
        refine m8 _ _ (c8_isA _ _ w _ _ hk (by omega) (fun z => absurd z c) (fun _ => ⟨fun q => absurd rfl q, fun _ => c8_finds _ _ _ _ ⟨rfl, Inv_f hI 3⟩⟩))
/-- drawn -/
def anyR (n : Nat) (kd th : Nat → Nat) : Nat → Bool
  | 0 => false
  | k + 1 => if kd (n - (k + 1)) = 5 ∧ th (n - (k + 1)) ≠ 0 then true else anyR n kd th k
theorem c4_hoodLoop (d o : Nat) (ho : isRg o) (n : Nat) (kd th : Nat → Nat) (stp ngt : Nat) (M : Mm) (Q : Int32 → Mm → Prop) (hR : RgC M o n kd th stp ngt) (hk : okK n kd) (ht : okT n th) (h7 : n ≤ 7) : ∀ k, k ≤ n → Q (if anyR n kd th k then 1 else 0) M → BX4_hasHoodWithThing d 2 [(0, .ref o), (1, .int (nI (n - k)))] [] M Q
  | 0, _, h => by
    apply rX4_hasHoodWithThing_2 _ _ ho
    rw [hR.1]
    exact ⟨fun _ => h, fun q => absurd (nI_le (a := n) (b := n - 0) (by omega) (by omega)) q⟩
  | k + 1, hkn, h => by
    apply rX4_hasHoodWithThing_2 _ _ ho
    have hs : n - (k + 1) < n := by omega
    have e1 : M (o + 1) (n - (k + 1)) = nI (kd (n - (k + 1))) := hR.2.2.2.1 _ hs
    have e2 : M (o + 2) (n - (k + 1)) = nI (th (n - (k + 1))) := hR.2.2.2.2 _ hs
    have hk1 := hk _ hs
    have ht1 := ht _ hs
    have e : n - (k + 1) + 1 = n - k := by omega
    rw [hR.1]
    simp (disch := omega) only [li_0, li_1, li_2, li_3, li_4, li_5, li_6, li_7, li_8, li_9, li_10, li_16, li_17, li_20, li_24, li_34, li_40, li_50, li_60, li_68, li_85, li_200, li_9999, nI_add, nI_clamp, vpT, nI_leI, nI_ltI, nI_eq, irem_nI, true_and, and_true, forall_eq, not_true_eq_false, not_false_eq_true, forall_const, false_and, and_false, false_imp_iff, true_imp_iff, imp_self, e1, e2, e]
    refine ⟨fun q => by omega, fun _ => ⟨fun q => ?_, fun q => ⟨fun q2 => ?_, fun q2 => ?_⟩⟩⟩
    · rw [anyR, if_neg (show ¬ (kd (n - (k + 1)) = 5 ∧ th (n - (k + 1)) ≠ 0) by omega)] at h
      exact c4_hoodLoop d o ho n kd th stp ngt M Q hR hk ht h7 k (by omega) h
    · rw [anyR, if_neg (show ¬ (kd (n - (k + 1)) = 5 ∧ th (n - (k + 1)) ≠ 0) by omega)] at h
      exact c4_hoodLoop d o ho n kd th stp ngt M Q hR hk ht h7 k (by omega) h
    · rw [anyR, if_pos (show kd (n - (k + 1)) = 5 ∧ th (n - (k + 1)) ≠ 0 from ⟨q, q2⟩)] at h
      exact h
theorem c4_hood (d o : Nat) (ho : isRg o) (n : Nat) (kd th : Nat → Nat) (stp ngt : Nat) (M : Mm) (Q : Int32 → Mm → Prop) (hR : RgC M o n kd th stp ngt) (hk : okK n kd) (ht : okT n th) (h7 : n ≤ 7) (h : Q (if anyR n kd th n then 1 else 0) M) : kX4_hasHoodWithThing d o M Q := by
  apply rX4_hasHoodWithThing _ _ ho
  have := c4_hoodLoop d o ho n kd th stp ngt M Q hR hk ht h7 n (Nat.le_refl n) h
  rw [Nat.sub_self] at this
  exact this
def drwX (X : Nat) : Nat := X * 16807 % 2147483647
def drwT (n : Nat) (kd : Nat → Nat) (ngt stp X : Nat) (th : Nat → Nat) : Nat → Nat := stepS n kd ngt stp 0 (swp th (drwX X % n) (nxS n (drwX X % n)))
def drwS (n : Nat) (kd : Nat → Nat) (ngt : Nat) : Nat → Nat → Nat → Nat → (Nat → Nat) → Nat × (Nat → Nat)
  | 0, _, h, _, th => (h, th)
  | k + 1, X, h, stp, th => drwS n kd ngt k (drwX X) (if anyR n kd (drwT n kd ngt stp X th) n then h + 1 else h) (stp + 1) (drwT n kd ngt stp X th)
theorem drwX_lt (X : Nat) : drwX X < 2147483647 := Nat.mod_lt _ (by omega)
theorem drwX_l {X : Nat} (h : X < 2147483647) : lrem (lN X * 16807) 2147483647 = lN (drwX X) := by
  have e1 : (16807 : Int64) = lN 16807 := rfl
  have e2 : (2147483647 : Int64) = lN 2147483647 := rfl
  rw [e1, e2, lN_mul]
  exact pk_lRem (by omega) (by omega) (by omega)
theorem drwI {X n : Nat} (hn : 0 < n) (h7 : n ≤ 7) : (lrem (lN (drwX X)) ((nI n).toInt64)).toInt32 = nI (drwX X % n) := by
  have := drwX_lt X
  rw [nI_l (by omega), show lrem (lN (drwX X)) (lN n) = lN (drwX X % n) from pk_lRem (by omega) hn (by omega), lN_i]
theorem c7_drwLoop (d n D w : Nat) (kd : Nat → Nat) (ngt : Nat) (Q : Int32 → Mm → Prop) (hG : okG n kd ngt) (hn : 0 < n) (hD : D ≤ 60) (hw : w ≤ 1) : ∀ (k : Nat) (M : Mm) (X h0 : Nat) (th : Nat → Nat) (stp : Nat), k ≤ D → M 23 2 = nI n → RgC M 26 n kd th stp ngt → okT n th → stp + k < 2 ^ 29 → X < 2147483647 → (∀ M', frC M M' → Q (if w = 0 then nI (fig (drwS n kd ngt k X h0 stp th).2 n) else nI (drwS n kd ngt k X h0 stp th).1) M') →
    BX7_drawn (d + 4) 65 [(0, .ref 0), (1, .int (nI D)), (3, .int (nI w)), (4, .long (lN X)), (6, .int (nI h0)), (7, .int (nI (D - k)))] [] M Q
  | 0, M, X, h0, th, stp, _, hN, hR, ht, hst, hX, h => by
    apply rX7_drawn_65
    rw [li_0]
    simp (disch := omega) only [nI_eq]
    refine ⟨fun _ => ⟨fun q => ?_, fun q => ?_⟩, fun q => absurd (nI_le (a := D) (b := D - 0) (by omega) (by omega)) q⟩
    · have := h M frC_rf
      rw [if_neg q] at this
      exact this
    · refine c4_figures _ 26 rg26 n kd th stp ngt M _ hR hG.1 ?_
      have := h M frC_rf
      rw [if_pos q] at this
      exact this
  | k + 1, M, X, h0, th, stp, hk, hN, hR, ht, hst, hX, h => by
    apply rX7_drawn_65
    have h7 := hG.1
    have e : D - (k + 1) + 1 = D - k := by omega
    have hs : drwX X % n < n := Nat.mod_lt _ hn
    rw [hN, drwX_l hX, drwI hn h7, show nI (D - (k + 1)) + 1 = nI (D - k) by rw [nI_1, e]]
    refine ⟨fun q => absurd q (nI_ge (by omega) (by omega)), fun _ => ⟨?_, ?_⟩⟩
    · rw [nI_l (by omega)]
      intro q
      have := (lN_eq (a := n) (b := 0) (by omega) (by omega)).mp q
      omega
    · refine c4_after _ 26 rg26 n _ M _ hR.1 h7 hs ?_
      refine c4_exchange _ 26 rg26 n _ _ kd th stp ngt M _ hR h7 hs (nxS_lt hs) (fun M1 g1 g2 => ?_)
      refine t4_adv d n kd _ stp ngt M1 _ g1 hG (okT_swp ht hs (nxS_lt hs)) (by omega) (fun M2 g3 g4 => ?_)
      have fr : frC M M2 := fun k a b c => by rw [g4 k a b c, g2 k c]
      have okt : okT n (drwT n kd ngt stp X th) := okT_step (okT_swp ht hs (nxS_lt hs))
      refine c4_hood _ 26 rg26 n kd _ _ ngt M2 _ g3 hG.2.1 okt h7 ?_
      have go : ∀ h1, h1 = (if anyR n kd (drwT n kd ngt stp X th) n then h0 + 1 else h0) → BX7_drawn (d + 4) 65 [(0, .ref 0), (1, .int (nI D)), (3, .int (nI w)), (4, .long (lN (drwX X))), (6, .int (nI h1)), (7, .int (nI (D - k)))] [] M2 Q := fun h1 e1 =>
        c7_drwLoop d n D w kd ngt Q hG hn hD hw k M2 (drwX X) h1 _ (stp + 1) (by omega) (by rw [fr 23 (by omega) (by omega) (by omega)]; exact hN) g3 okt (by omega) (drwX_lt X) (fun M' g5 => by rw [e1]; exact h M' (frC_tr fr g5))
      show (_ ∧ _)
      have hc : anyR n kd (stepS n kd ngt stp 0 (swp th (drwX X % n) (nxS n (drwX X % n)))) n = anyR n kd (drwT n kd ngt stp X th) n := rfl
      rw [hc]
      by_cases c : anyR n kd (drwT n kd ngt stp X th) n = true
      · rw [if_pos c] at *
        refine ⟨fun q => absurd q (by decide), fun _ => ?_⟩
        rw [nI_1]
        exact go _ rfl
      · rw [if_neg c] at *
        exact ⟨fun _ => go _ rfl, fun q => absurd rfl q⟩
theorem c8_hoodLoop (d n D w X h0 i : Nat) (kd th t0 : Nat → Nat) (stp stp0 ngt : Nat) (M : Mm) (Q : Int32 → Mm → Prop) (hM : RgM M 0 n kd t0 stp0 ngt) (hT : RgM M 17 n kd th stp ngt) (hk : okK n kd) (ht : okT n th) (h7 : n ≤ 7)
    (hy : BX8_drawn (d + 1) 63 [(0, .ref 49), (1, .int (nI D)), (3, .int (nI w)), (4, .long (lN X)), (6, .int (nI (h0 + 1))), (7, .int (nI (i + 1)))] [] M Q → True) : ∀ (k : Nat) (b : Bool), k ≤ n →
    BX8_drawn (d + 1) 63 [(0, .ref 49), (1, .int (nI D)), (3, .int (nI w)), (4, .long (lN X)), (6, .int (nI (if b || anyR n kd th k then h0 + 1 else h0))), (7, .int (nI (i + 1)))] [] M Q →
    BX8_drawn (d + 1) 136 [(0, .ref 49), (1, .int (nI D)), (3, .int (nI w)), (4, .long (lN X)), (6, .int (nI h0)), (7, .int (nI i)), (9, .int (if b then 1 else 0)), (10, .int (nI (n - k)))] [] M Q
  | 0, b, _, h => by
    apply rX8_drawn_136
    have e0 : M 50 0 = nI n := hM.1
    rw [clamp0, e0, nI_1, nI_1, show nI h0 + (0 : Int32) = nI h0 by rw [li_0, nI_add, Nat.add_zero]]
    refine ⟨vp_in_nI (n := 0) (by omega) (by omega), fun _ => ?_, fun q => absurd (nI_le (a := n) (b := n - 0) (by omega) (by omega)) q⟩
    cases b with
    | true => exact ⟨fun q => absurd q (by decide), fun _ => h⟩
    | false => exact ⟨fun _ => h, fun q => absurd rfl q⟩
  | k + 1, b, hkn, h => by
    apply rX8_drawn_136
    have e0 : M 50 0 = nI n := hM.1
    have hs : n - (k + 1) < n := by omega
    have e1 : M 50 (0 + 10 + (n - (k + 1))) = nI (kd (n - (k + 1))) := hM.2.2.2.2 _ hs
    have e2 : M 50 (17 + 3 + (n - (k + 1))) = nI (th (n - (k + 1))) := hT.2.2.2.1 _ hs
    have hk1 := hk _ hs
    have ht1 := ht _ hs
    have e : n - (k + 1) + 1 = n - k := by omega
    rw [clamp0, e0, show nI (n - (k + 1)) + 1 = nI (n - k) by rw [nI_1, e], show (10 : Int32) + nI (n - (k + 1)) = nI (0 + 10 + (n - (k + 1))) by rw [li_10, nI_add], show (20 : Int32) + nI (n - (k + 1)) = nI (17 + 3 + (n - (k + 1))) by rw [li_20, nI_add], nI_clamp (by omega), nI_clamp (by omega), e1, e2]
    have go : ∀ b' : Bool, (b' || anyR n kd th k) = (b || anyR n kd th (k + 1)) → BX8_drawn (d + 1) 136 [(0, .ref 49), (1, .int (nI D)), (3, .int (nI w)), (4, .long (lN X)), (6, .int (nI h0)), (7, .int (nI i)), (9, .int (if b' then 1 else 0)), (10, .int (nI (n - k)))] [] M Q := fun b' hb =>
      c8_hoodLoop d n D w X h0 i kd th t0 stp stp0 ngt M Q hM hT hk ht h7 hy k b' (by omega) (by rw [hb]; exact h)
    refine ⟨vp_in_nI (n := 0) (by omega) (by omega), fun q => absurd q (nI_ge hs (by omega)), fun _ => ?_⟩
    cases b with
    | true => exact ⟨fun _ => go true (by simp), fun q => absurd q (by decide)⟩
    | false =>
      refine ⟨fun q => absurd rfl q, fun _ => ⟨vp_in_nI (by omega) (by omega), ?_⟩⟩
      rw [li_5]
      simp (disch := omega) only [nI_eq]
      refine ⟨fun q => go false ?_, fun q => ⟨vp_in_nI (by omega) (by omega), fun q2 => go false ?_, fun q2 => go true ?_⟩⟩
      · rw [anyR, if_neg (show ¬ (kd (n - (k + 1)) = 5 ∧ th (n - (k + 1)) ≠ 0) by omega)]
      · have z : th (n - (k + 1)) = 0 := by
          rw [li_0] at q2
          have := (nI_leI (a := th (n - (k + 1))) (b := 0) (by omega) (by omega)).mp q2
          omega
        rw [anyR, if_neg (show ¬ (kd (n - (k + 1)) = 5 ∧ th (n - (k + 1)) ≠ 0) by omega)]
      · have z : ¬ th (n - (k + 1)) = 0 := fun z => q2 (by rw [z]; decide)
        rw [anyR, if_pos (show kd (n - (k + 1)) = 5 ∧ th (n - (k + 1)) ≠ 0 from ⟨q, z⟩)]
        simp
theorem c8_drwLoop (d n D w : Nat) (kd : Nat → Nat) (ngt : Nat) (t0 : Nat → Nat) (stp0 : Nat) (Q : Int32 → Mm → Prop) (hG : okG n kd ngt) (hn : 0 < n) (hD : D ≤ 60) (hw : w ≤ 1) : ∀ (k : Nat) (M : Mm) (X h0 : Nat) (th : Nat → Nat) (stp : Nat), k ≤ D → RgM M 0 n kd t0 stp0 ngt → RgM M 17 n kd th stp ngt → okT n th → stp + k < 2 ^ 29 → X < 2147483647 → (∀ M', frM M M' → Q (if w = 0 then nI (fig (drwS n kd ngt k X h0 stp th).2 n) else nI (drwS n kd ngt k X h0 stp th).1) M') →
    BX8_drawn (d + 3) 63 [(0, .ref 49), (1, .int (nI D)), (3, .int (nI w)), (4, .long (lN X)), (6, .int (nI h0)), (7, .int (nI (D - k)))] [] M Q
  | 0, M, X, h0, th, stp, _, hM, hR, ht, hst, hX, h => by
    apply rX8_drawn_63
    rw [show (nI w = 0) = (w = 0) by rw [li_0]; exact propext (nI_eq (by omega) (by omega))]
    refine ⟨fun _ => ⟨fun q => ?_, fun q => ?_⟩, fun q => absurd (nI_le (a := D) (b := D - 0) (by omega) (by omega)) q⟩
    · have := h M frM_rf
      rw [if_neg q] at this
      exact this
    · refine c8_figures _ 17 n kd th stp ngt M _ hR inW17 hG.1 ?_
      have := h M frM_rf
      rw [if_pos q] at this
      exact this
  | k + 1, M, X, h0, th, stp, hk, hM, hR, ht, hst, hX, h => by
    apply rX8_drawn_63
    have h7 := hG.1
    have e : D - (k + 1) + 1 = D - k := by omega
    have hs : drwX X % n < n := Nat.mod_lt _ hn
    have e0 : M 50 0 = nI n := hM.1
    rw [clamp0, e0, drwX_l hX, drwI hn h7]
    refine ⟨fun q => absurd q (nI_ge (by omega) (by omega)), fun _ => ⟨vp_in_nI (n := 0) (by omega) (by omega), ?_, vp_in_nI (n := 0) (by omega) (by omega), ?_⟩⟩
    · rw [nI_l (by omega)]
      intro q
      have := (lN_eq (a := n) (b := 0) (by omega) (by omega)).mp q
      omega
    · have main : BX8_drawn (d + 3) 120 [(0, .ref 49), (1, .int (nI D)), (3, .int (nI w)), (4, .long (lN (drwX X))), (6, .int (nI h0)), (7, .int (nI (D - (k + 1))))] [.int (nI (nxS n (drwX X % n))), .int (nI (drwX X % n)), .int (17 : Int32), .ref 49] M Q := by
        apply rX8_drawn_120
        refine c8_changes _ 17 n _ _ kd th stp ngt M _ hR inW17 h7 hs (nxS_lt hs) (fun M1 g1 g2 => ?_)
        refine t8_adv d n kd _ stp ngt M1 _ g1 hG (okT_swp ht hs (nxS_lt hs)) (by omega) (fun M2 g3 g4 => ?_)
        have fr : frM M M2 := frM_tr (frM_k g2 h7) g4
        have okt : okT n (drwT n kd ngt stp X th) := okT_step (okT_swp ht hs (nxS_lt hs))
        have hM2 : RgM M2 0 n kd t0 stp0 ngt := RgM_c hM h7 (fun i _ hi => fr.2 i (by omega))
        have := c8_hoodLoop (d + 2) n D w (drwX X) h0 (D - (k + 1)) kd _ t0 (stp + 1) stp0 ngt M2 Q hM2 g3 hG.2.1 okt h7 (fun _ => trivial) n false (Nat.le_refl n) ?_
        · rw [Nat.sub_self] at this
          exact this
        · rw [e]
          refine c8_drwLoop d n D w kd ngt t0 stp0 Q hG hn hD hw k M2 (drwX X) _ _ (stp + 1) (by omega) hM2 g3 okt (by omega) (drwX_lt X) (fun M' g5 => ?_)
          have q := h M' (frM_tr fr g5)
          rw [Bool.false_or]
          exact q
      have hx : (nI (drwX X % n) = nI n - 1) = (drwX X % n = n - 1) := by
        rw [li_1, pk_sub (by omega)]
        exact propext (nI_eq (by omega) (by omega))
      rw [hx]
      unfold nxS at main
      refine ⟨fun q => ?_, fun q => ?_⟩
      · rw [if_pos (by omega)] at main
        rw [nI_1]; exact main
      · rw [if_neg (by omega)] at main
        exact main
theorem L_drawn (v1 v2 v3 : Int32) (M : Mm) (hI : Inv M) : kX7_drawn 40 v1 v2 v3 M (fun r1 M1 => kX8_drawn 40 v1 v2 v3 M1 (fun r2 M2 => r1 = r2 ∧ Inv M2)) := by
  obtain ⟨n, kd, th, stp, ngt, hC, hM, hok, -⟩ := hI.2.2.1
  have h7 := okR_7 hok
  have m8 : ∀ (M : Mm) (Q : Int32 → Mm → Prop), M 50 0 = nI n → ((¬ n = 0 → kX8_in 39 v1.toInt64 0 60 M (fun r1 M1 => ((r1 = 0 → Q (-1000001) M1) ∧ (¬ r1 = 0 → kX8_in 39 v2.toInt64 1 999999 M1 (fun r2 M2 => ((r2 = 0 → Q (-1000001) M2) ∧ (¬ r2 = 0 → kX8_in 39 v3.toInt64 0 1 M2 (fun r3 M3 => ((¬ r3 = 0 → kX8_tries 39 M3 (fun _r4 M4 => BX8_drawn (39 + 1) 63 [(0, .ref 49), (1, .int v1), (3, .int v3), (4, .long v2.toInt64), (6, .int 0), (7, .int 0)] [] M4 Q)) ∧ (r3 = 0 → Q (-1000001) M3)))))))))) ∧ (n = 0 → Q (-1000002) M)) → kX8_drawn 40 v1 v2 v3 M Q := by
    intro M Q e0 h
    apply rX8_drawn
    rw [clamp0, e0, nI_n0 h7]
    exact ⟨vp_in_nI (n := 0) (by omega) (by omega), h⟩
  apply rX7_drawn
  rw [hC.1, nI_n0 h7]
  refine ⟨fun hn => ?_, fun q => m8 _ _ hM.1 ⟨fun z => absurd q z, fun _ => ⟨rfl, hI⟩⟩⟩
  obtain ⟨hG, hst⟩ := okR_G hok (by omega)
  rcases pk_ix v1 (n := 61) (by omega) with h1 | h1 | ⟨D, hD, rfl⟩
  · refine ⟨fun _ => m8 _ _ hM.1 ⟨fun _ => ?_, fun z => absurd z hn⟩, fun q => absurd h1 q⟩
    exact c8_n _ 60 _ _ _ (by omega) (Or.inl h1) ⟨fun _ => ⟨rfl, hI⟩, fun q => absurd rfl q⟩
  · refine ⟨fun q => absurd q (big_pos h1 (by omega)), fun _ => ⟨fun _ => m8 _ _ hM.1 ⟨fun _ => ?_, fun z => absurd z hn⟩, fun q => ?_⟩⟩
    · exact c8_n _ 60 _ _ _ (by omega) (Or.inr h1) ⟨fun _ => ⟨rfl, hI⟩, fun q => absurd rfl q⟩
    · exact absurd (by have := big_gt (m := 60) h1 (by omega) (by omega); rw [Int32.not_le] at this; exact this) q
  · refine ⟨fun q => absurd q (nI_pos (by omega)), fun _ => ⟨fun q => absurd (nI_le (a := D) (b := 60) (by omega) (by omega)) (by rw [Int32.not_le]; exact q), fun _ => ?_⟩⟩
    have bad2 : (v2 < nI 1 ∨ nI (999999 + 1) ≤ v2) → kX8_drawn 40 (nI D) v2 v3 M (fun r2 M2 => -1000001 = r2 ∧ Inv M2) := fun hb =>
      m8 _ _ hM.1 ⟨fun _ => c8_y _ D 60 _ _ (by omega) (by omega) ⟨fun q => absurd q (by decide), fun _ => c8_n1 _ 999999 _ _ _ (by omega) hb ⟨fun _ => ⟨rfl, hI⟩, fun q => absurd rfl q⟩⟩, fun z => absurd z hn⟩
    rcases pk_ix v2 (n := 1000000) (by omega) with h2 | h2 | ⟨sd, hsd, rfl⟩
    · exact ⟨fun _ => bad2 (Or.inl (neg_lt h2 (by omega))), fun q => absurd (neg_lt (n := 1) h2 (by omega)) q⟩
    · refine ⟨fun _ => bad2 (Or.inr h2), fun _ => ⟨fun _ => bad2 (Or.inr h2), fun q => ?_⟩⟩
      exact absurd (by have := big_gt (m := 999999) h2 (by omega) (by omega); rw [Int32.not_le] at this; exact this) q
    · rcases Nat.eq_zero_or_pos sd with z | z
      · subst z
        exact ⟨fun _ => bad2 (Or.inl (by decide)), fun q => absurd (by decide) q⟩
      · refine ⟨fun q => absurd (nI_le (a := 1) (b := sd) (by omega) (by omega)) (by rw [Int32.not_le]; exact q), fun _ => ⟨fun q => absurd (nI_le (a := sd) (b := 999999) (by omega) (by omega)) (by rw [Int32.not_le]; exact q), fun _ => c7_fs _ _ _ _ ?_⟩⟩
        have m9 : ∀ (M : Mm) (Q : Int32 → Mm → Prop), M 50 0 = nI n → ((¬ (if v3 = 0 ∨ v3 = 1 then (1 : Int32) else 0) = 0 → kX8_tries 39 M (fun _r4 M4 => BX8_drawn (39 + 1) 63 [(0, .ref 49), (1, .int (nI D)), (3, .int v3), (4, .long (nI sd).toInt64), (6, .int 0), (7, .int 0)] [] M4 Q)) ∧ ((if v3 = 0 ∨ v3 = 1 then (1 : Int32) else 0) = 0 → Q (-1000001) M)) → kX8_drawn 40 (nI D) (nI sd) v3 M Q := fun M Q e0 h =>
          m8 _ _ e0 ⟨fun _ => c8_y _ D 60 _ _ (by omega) (by omega) ⟨fun q => absurd q (by decide), fun _ => c8_y1 _ sd 999999 _ _ z (by omega) (by omega) ⟨fun q => absurd q (by decide), fun _ => c8_fs _ _ _ _ h⟩⟩, fun z => absurd z hn⟩
        have main : ∀ w, w ≤ 1 → v3 = nI w → ((¬ (if v3 = 0 ∨ v3 = 1 then (1 : Int32) else 0) = 0 → kX4_become 39 26 23 M (fun _r2 M2 => BX7_drawn (39 + 1) 65 [(0, .ref 0), (1, .int (nI D)), (3, .int v3), (4, .long (nI sd).toInt64), (6, .int 0), (7, .int 0)] [] M2 (fun r1 M1 => kX8_drawn 40 (nI D) (nI sd) v3 M1 (fun r2 M2 => r1 = r2 ∧ Inv M2))))) := by
          intro w hw e _
          subst e
          refine t4_become _ n kd th stp ngt M _ hC h7 (fun M1 g1 g2 => ?_)
          rw [nI_l (by omega)]
          have := c7_drwLoop 36 n D w kd ngt (fun r1 M1 => kX8_drawn 40 (nI D) (nI sd) (nI w) M1 (fun r2 M2 => r1 = r2 ∧ Inv M2)) hG (by omega) (by omega) hw D M1 sd 0 th stp (Nat.le_refl D) (by rw [g2 23 (by omega) (by omega) (by omega)]; exact hC.1) g1 (okR_T hok).1 (by omega) (by omega) (fun M2 g3 => ?_)
          · rw [Nat.sub_self] at this
            exact this
          · have fr := frC_tr g2 g3
            have hM2 := RgM_fr hM h7 fr
            have hw2 : (nI w = 0 ∨ nI w = 1) := by
              rcases (show w = 0 ∨ w = 1 by omega) with rfl | rfl
              · exact Or.inl rfl
              · exact Or.inr rfl
            refine m9 _ _ hM2.1 ?_
            rw [if_pos hw2]
            refine ⟨fun _ => ?_, fun q => absurd q (by decide)⟩
            refine t8_tries _ n kd th stp ngt M2 _ hM2 h7 (fun M3 g4 g5 => ?_)
            rw [nI_l (by omega)]
            have := c8_drwLoop 37 n D w kd ngt th stp (fun r2 M2 => (if w = 0 then nI (fig (drwS n kd ngt D sd 0 stp th).2 n) else nI (drwS n kd ngt D sd 0 stp th).1) = r2 ∧ Inv M2) hG (by omega) (by omega) hw D M3 sd 0 th stp (Nat.le_refl D) (RgM_c hM2 h7 (fun i _ hi => g5.2 i (by omega))) g4 (okR_T hok).1 (by omega) (by omega) (fun M4 g6 => ⟨rfl, Inv_s hI (scr_fr fr (frM_tr g5 g6))⟩)
            rw [Nat.sub_self] at this
            exact this
        rcases fs_ix v3 with e | e | ⟨g1, g2⟩
        · exact ⟨main 0 (by omega) e, fun q => by rw [if_pos (Or.inl e)] at q; exact absurd q (by decide)⟩
        · exact ⟨main 1 (by omega) e, fun q => by rw [if_pos (Or.inr e)] at q; exact absurd q (by decide)⟩
        · rw [if_neg (fun z => z.elim g1 g2)]
          refine ⟨fun q => absurd rfl q, fun _ => m9 _ _ hM.1 ?_⟩
          rw [if_neg (fun z => z.elim g1 g2)]
          exact ⟨fun q => absurd rfl q, fun _ => ⟨rfl, hI⟩⟩
