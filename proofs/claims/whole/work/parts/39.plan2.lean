/-! the reference's plan -/
def rowL (n a : Nat) : Nat → List Nat
  | 0 => []
  | k + 1 => (10 * a + (n - (k + 1))) :: rowL n a k
def allL (n : Nat) : Nat → List Nat
  | 0 => []
  | k + 1 => rowL n (n - (k + 1)) k ++ allL n k
def prL (n : Nat) : List Nat := allL n n
theorem prL_eq : ∀ n, n < 8 → prL n = (List.range' 1 56).filter (isP n) := by decide +kernel
theorem prL_len : ∀ n, n < 8 → (prL n).length ≤ 21 := by decide +kernel
theorem prL_ok : ∀ n, n < 8 → ∀ i, i < 21 → i < (prL n).length → (prL n).getD i 0 / 10 < n ∧ (prL n).getD i 0 % 10 < n ∧ (prL n).getD i 0 < 100 := by decide +kernel
theorem fst1_eq (n : Nat) (g : Nat → Bool) : ∀ k, k ≤ 56 → fst1 (fun p => isP n p && g p) k = ((List.range' (57 - k) k).filter (isP n)).find? g
  | 0, _ => rfl
  | k + 1, hk => by
    rw [fst1, List.range'_succ, show 57 - (k + 1) + 1 = 57 - k by omega, List.filter_cons, fst1_eq n g k (by omega)]
    by_cases c : isP n (57 - (k + 1)) = true
    · rw [c, if_pos rfl, List.find?_cons]
      by_cases c2 : g (57 - (k + 1)) = true
      · rw [c2]; rfl
      · rw [Bool.eq_false_iff.mpr c2]; rfl
    · rw [Bool.eq_false_iff.mpr c]; rfl
theorem fst1_none (f : Nat → Bool) (h : ∀ p, f p = false) : ∀ k, fst1 f k = none
  | 0 => rfl
  | k + 1 => by rw [fst1, h, fst1_none f h k]; rfl
def find2 (L : List Nat) (c : Nat → Nat → Bool) : List Nat → Option (Nat × Nat)
  | [] => none
  | p :: t => match L.find? (c p) with
    | some q => some (p, q)
    | none => find2 L c t
theorem fst2_eq (n : Nat) (hn : n < 8) (c : Nat → Nat → Bool) : ∀ k, k ≤ 56 → fst2 (fun p q => isP n p && isP n q && c p q) k = find2 (prL n) c ((List.range' (57 - k) k).filter (isP n))
  | 0, _ => rfl
  | k + 1, hk => by
    rw [fst2, List.range'_succ, show 57 - (k + 1) + 1 = 57 - k by omega, List.filter_cons, fst2_eq n hn c k (by omega)]
    by_cases h : isP n (57 - (k + 1)) = true
    · rw [if_pos h, find2]
      have e : fst1 (fun q => isP n (57 - (k + 1)) && isP n q && c (57 - (k + 1)) q) 56 = (prL n).find? (c (57 - (k + 1))) := by
        rw [prL_eq n hn, ← fst1_eq n (c (57 - (k + 1))) 56 (Nat.le_refl 56)]
        congr 1
        funext q
        rw [h, Bool.true_and]
      rw [e]
      rfl
    · rw [if_neg h, fst1_none]
      intro q
      rw [Bool.eq_false_iff.mpr h]; rfl
theorem PlE_eq (n : Nat) (hn : n < 8) (kd : Nat → Nat) (ngt stp : Nat) (th : Nat → Nat) (s t : Nat) : PlE n kd ngt stp th s t = if cmsS n kd ngt stp th s t 0 0 then (0, 0, 0) else match (prL n).find? (fun p => cmsS n kd ngt stp th s t p 0) with
    | some p => (1, p, 0)
    | none => match find2 (prL n) (cmsS n kd ngt stp th s t) (prL n) with
      | some (p, q) => (2, p, q)
      | none => (3, 0, 0) := by
  unfold PlE
  rw [fst1_eq n _ 56 (Nat.le_refl 56), fst2_eq n hn _ 56 (Nat.le_refl 56), ← prL_eq n hn]
  rfl
/-- pairs are laid -/
theorem c8_prIn (d n a : Nat) (kd th : Nat → Nat) (stp ngt : Nat) (L : List Nat) (Q : Int32 → Mm → Prop) (h7 : n ≤ 7) (hL : L.length ≤ 21) (k' : Nat) (ha : a + k' + 1 = n) : ∀ (k : Nat) (M : Mm) (c : Nat), k ≤ n - (a + 1) → RgM M 0 n kd th stp ngt → L.drop c = rowL n a k ++ allL n k' → (∀ i, i < c → M 62 i = nI (L.getD i 0)) → c ≤ L.length →
    (∀ M' c', RgM M' 0 n kd th stp ngt → L.drop c' = allL n k' → (∀ i, i < c' → M' 62 i = nI (L.getD i 0)) → c' ≤ L.length → (∀ q, q ≠ 62 → M' q = M q) → BX8_laysPairs d 4 [(0, .ref 49), (1, .int (nI c')), (2, .int (nI (a + 1)))] [] M' Q) →
    BX8_laysPairs d 18 [(0, .ref 49), (1, .int (nI c)), (2, .int (nI a)), (3, .int (nI (n - k)))] [] M Q
  | 0, M, c, _, hR, hd, hM, hc, h => by
    apply rX8_laysPairs_18
    have e0 : M 50 0 = nI n := hR.1
    rw [clamp0, e0, nI_1]
    exact ⟨vp_in_nI (n := 0) (by omega) (by omega), fun _ => h M c hR hd hM hc (fun _ _ => rfl), fun q => absurd (nI_le (a := n) (b := n - 0) (by omega) (by omega)) q⟩
  | k + 1, M, c, hk, hR, hd, hM, hc, h => by
    apply rX8_laysPairs_18
    have e0 : M 50 0 = nI n := hR.1
    have e : n - (k + 1) + 1 = n - k := by omega
    have hcl : c < L.length := by
      rcases Nat.lt_or_ge c L.length with z | z
      · exact z
      · rw [List.drop_eq_nil_of_le z, rowL] at hd
        simp at hd
    have hcons : L.drop c = L.getD c 0 :: L.drop (c + 1) := by
      rw [List.drop_eq_getElem_cons hcl]
      simp [hcl]
    rw [hcons, rowL, List.cons_append] at hd
    injection hd with hd1 hd2
    rw [clamp0, e0, nI_1, show nI (n - (k + 1)) + 1 = nI (n - k) by rw [nI_1, e], show (10 : Int32) * nI a + nI (n - (k + 1)) = nI (10 * a + (n - (k + 1))) by rw [li_10, pk_mul, nI_add], nI_clamp (by omega)]
    refine ⟨vp_in_nI (n := 0) (by omega) (by omega), fun q => absurd q (nI_ge (a := n - (k + 1)) (by omega) (by omega)), fun _ => ⟨vp_in_nI (by omega) (by omega), ?_⟩⟩
    rintro M1 rfl
    rw [show nI c + 1 = nI (c + 1) by rw [nI_1]]
    refine c8_prIn d n a kd th stp ngt L Q h7 hL k' ha k (upd2 M 62 c (nI (10 * a + (n - (k + 1))))) (c + 1) (by omega) (RgM_c hR h7 (fun i _ _ => by rw [upd2_off (by omega)])) hd2 (fun i hi => ?_) (by omega) (fun M' c' g1 g2 g3 g4 g5 => h M' c' g1 g2 g3 g4 (fun q hq => by rw [g5 q hq, upd2_off hq]))
    rw [upd2_r]
    by_cases ci : i = c
    · rw [if_pos ci, ci, hd1]
    · rw [if_neg ci]; exact hM i (by omega)
theorem c8_prOut (d n : Nat) (kd th : Nat → Nat) (stp ngt : Nat) (L : List Nat) (Q : Int32 → Mm → Prop) (h7 : n ≤ 7) (hL : L.length ≤ 21) : ∀ (k : Nat) (M : Mm) (c : Nat), k ≤ n → RgM M 0 n kd th stp ngt → L.drop c = allL n k → (∀ i, i < c → M 62 i = nI (L.getD i 0)) → c ≤ L.length →
    (∀ M', RgM M' 0 n kd th stp ngt → (∀ i, i < L.length → M' 62 i = nI (L.getD i 0)) → (∀ q, q ≠ 62 → M' q = M q) → Q (nI L.length) M') →
    BX8_laysPairs d 4 [(0, .ref 49), (1, .int (nI c)), (2, .int (nI (n - k)))] [] M Q
  | 0, M, c, _, hR, hd, hM, hc, h => by
    apply rX8_laysPairs_4
    have e0 : M 50 0 = nI n := hR.1
    have ec : c = L.length := by
      rw [allL] at hd
      have := List.length_drop (i := c) (l := L)
      rw [hd] at this
      simp at this
      omega
    rw [clamp0, e0]
    subst ec
    exact ⟨vp_in_nI (n := 0) (by omega) (by omega), fun _ => h M hR hM (fun _ _ => rfl), fun q => absurd (nI_le (a := n) (b := n - 0) (by omega) (by omega)) q⟩
  | k + 1, M, c, hk, hR, hd, hM, hc, h => by
    apply rX8_laysPairs_4
    have e0 : M 50 0 = nI n := hR.1
    have e : n - (k + 1) + 1 = n - k := by omega
    rw [clamp0, e0, nI_1]
    refine ⟨vp_in_nI (n := 0) (by omega) (by omega), fun q => absurd q (nI_ge (a := n - (k + 1)) (by omega) (by omega)), fun _ => ?_⟩
    rw [e]
    have := c8_prIn d n (n - (k + 1)) kd th stp ngt L Q h7 hL k (by omega) k M c (by omega) hR (by rw [hd, allL]) hM hc (fun M' c' g1 g2 g3 g4 g5 => ?_)
    · exact this
    · rw [e]
      exact c8_prOut d n kd th stp ngt L Q h7 hL k M' c' (by omega) g1 g2 g3 g4 (fun M2 y1 y2 y3 => h M2 y1 y2 (fun q hq => by rw [y3 q hq, g5 q hq]))
theorem c8_laysPairs (d n : Nat) (kd th : Nat → Nat) (stp ngt : Nat) (M : Mm) (Q : Int32 → Mm → Prop) (h7 : n ≤ 7) (hR : RgM M 0 n kd th stp ngt)
    (h : ∀ M', RgM M' 0 n kd th stp ngt → (∀ i, i < (prL n).length → M' 62 i = nI ((prL n).getD i 0)) → (∀ q, q ≠ 62 → M' q = M q) → Q (nI (prL n).length) M') : kX8_laysPairs d M Q := by
  apply rX8_laysPairs
  have := c8_prOut d n kd th stp ngt (prL n) Q h7 (prL_len n (by omega)) n M 0 (Nat.le_refl n) hR rfl (fun i hi => by omega) (Nat.zero_le _) h
  rw [Nat.sub_self] at this
  exact this
/-- an index of the pairs, or none -/
def ixP (M : Mm) (n : Nat) (x : Int32) (p : Nat) : Prop := (x < 0 ∧ p = 0) ∨ ∃ i, i < 21 ∧ x = nI i ∧ M 62 i = nI p ∧ okp n p
theorem c8_hasBy (d n s t : Nat) (kd th : Nat → Nat) (stp ngt : Nat) (x y : Int32) (p q : Nat) (M : Mm) (Q : Int32 → Mm → Prop) (hG : okG n kd ngt) (hs : s < n) (ht9 : t ≤ 9) (hR : RgM M 0 n kd th stp ngt) (ht : okT n th) (hst : stp < 2 ^ 28) (hx : ixP M n x p) (hy : ixP M n y q) (h : ∀ M', frM M M' → Q (if cmsS n kd ngt stp th s t p q then 1 else 0) M') : kX8_hasBy (d + 4) (nI s) (nI t) x y M Q := by
  have h7 := hG.1
  -- the end
  have fin : ∀ (M3 : Mm) (th' : Nat → Nat), frM M M3 → RgM M3 17 n kd th' stp ngt → okT n th' → th' = swp (swp th (p / 10) (p % 10)) (q / 10) (q % 10) → BX8_hasBy (d + 4) 63 [(0, .ref 49), (1, .int (nI s)), (2, .int (nI t))] [] M3 Q := by
    intro M3 th' fr hR3 okt eth
    subst eth
    apply rX8_hasBy_63
    refine t8_tom d n kd _ stp ngt M3 _ hR3 hG okt hst (fun M4 stp' g7 g8 => ?_)
    have e2 : M4 50 (17 + 3 + s) = nI (toM n kd ngt stp (swp (swp th (p / 10) (p % 10)) (q / 10) (q % 10)) s) := g7.2.2.2.1 s hs
    have b : toM n kd ngt stp (swp (swp th (p / 10) (p % 10)) (q / 10) (q % 10)) s ≤ 9 := okT_tom _ _ _ (okT_step okt) s hs
    have := h M4 (frM_tr fr g8)
    unfold cmsS at this
    rw [show (20 : Int32) + nI s = nI (17 + 3 + s) by rw [li_20, nI_add], nI_clamp (by omega), e2]
    refine ⟨vp_in_nI (by omega) (by omega), ?_⟩
    simp (disch := omega) only [nI_eq]
    refine ⟨fun z => ?_, fun z => ?_⟩
    · rw [if_neg (by simpa using z)] at this; exact this
    · rw [if_pos (by simpa using z)] at this; exact this
  -- the second
  have sec : ∀ (M2 : Mm), frM M M2 → RgM M2 17 n kd (swp th (p / 10) (p % 10)) stp ngt → okT n (swp th (p / 10) (p % 10)) → BX8_hasBy (d + 4) 32 [(0, .ref 49), (1, .int (nI s)), (2, .int (nI t)), (4, .int y)] [] M2 Q := by
    intro M2 fr hR2 okt
    apply rX8_hasBy_32
    rcases hy with ⟨hy1, rfl⟩ | ⟨i, hi, rfl, h62, y1, y2, y3⟩
    · refine ⟨fun _ => fin M2 _ fr hR2 okt (by rw [show (0 : Nat) / 10 = 0 by omega, show (0 : Nat) % 10 = 0 by omega, swp00]), fun z => absurd hy1 z⟩
    · refine ⟨fun z => absurd z (nI_pos (by omega)), fun _ => ⟨vp_in_nI hi (by omega), vp_in_nI hi (by omega), ?_⟩⟩
      rw [nI_clamp (by omega), fr.1 62 (by omega), h62, li_10, pk_div (by omega) (by omega) (by omega), irem_nI (by omega) (by omega) (by omega)]
      exact c8_changes _ 17 n _ _ kd _ stp ngt M2 _ hR2 inW17 h7 y1 y2 (fun M3 g1 g2 => fin M3 _ (frM_tr fr (frM_k g2 h7)) g1 (okT_swp okt y1 y2) rfl)
  apply rX8_hasBy
  refine t8_tries _ n kd th stp ngt M _ hR h7 (fun M1 g1 g2 => ?_)
  rcases hx with ⟨hx1, rfl⟩ | ⟨i, hi, rfl, h62, y1, y2, y3⟩
  · refine ⟨fun _ => ?_, fun z => absurd hx1 z⟩
    have e : swp th (0 / 10) (0 % 10) = th := swp00 th 0
    exact sec M1 g2 (by rw [e]; exact g1) (by rw [e]; exact ht)
  · refine ⟨fun z => absurd z (nI_pos (by omega)), fun _ => ⟨vp_in_nI hi (by omega), vp_in_nI hi (by omega), ?_⟩⟩
    rw [nI_clamp (by omega), g2.1 62 (by omega), h62, li_10, pk_div (by omega) (by omega) (by omega), irem_nI (by omega) (by omega) (by omega)]
    exact c8_changes _ 17 n _ _ kd _ stp ngt M1 _ g1 inW17 h7 y1 y2 (fun M2 g3 g4 => sec M2 (frM_tr g2 (frM_k g4 h7)) g3 (okT_swp ht y1 y2))
/-- what is answered -/
def ansP (r : Nat × Nat × Nat) (v : Int32) : Int32 := if v = -1 then (if r.1 = 3 then -1000000 else nI r.1) else if v = 0 then (if r.1 = 1 ∨ r.1 = 2 then nI r.2.1 else -1000000) else (if r.1 = 2 then nI r.2.2 else -1000000)
theorem v3_ix (v : Int32) : v = -1 ∨ v = 0 ∨ v = 1 ∨ (v < -1 ∨ nI 2 ≤ v) := by
  have e : (-1 : Int32).toInt = -1 := rfl
  have e0 : (0 : Int32).toInt = 0 := rfl
  have e1 : (1 : Int32).toInt = 1 := rfl
  have e2 : (nI 2).toInt = 2 := rfl
  rw [fa_eq, fa_eq, fa_eq, fa_lt, fa_le, e, e0, e1, e2]
  omega
theorem drop_c {L : List Nat} {i : Nat} (h : i < L.length) : L.drop i = L.getD i 0 :: L.drop (i + 1) := by
  rw [List.drop_eq_getElem_cons h]
  simp [h]
theorem c8_pl2 (d n s t : Nat) (kd th : Nat → Nat) (stp ngt : Nat) (v3 : Int32) (p i0 : Nat) (Q : Int32 → Mm → Prop) (hG : okG n kd ngt) (hs : s < n) (ht9 : t ≤ 9) (ht : okT n th) (hst : stp < 2 ^ 28) (hv : v3 = -1 ∨ v3 = 0 ∨ v3 = 1) (hi0 : i0 < (prL n).length) (hp : (prL n).getD i0 0 = p) : ∀ (k : Nat) (M : Mm), k ≤ (prL n).length → RgM M 0 n kd th stp ngt → (∀ i, i < (prL n).length → M 62 i = nI ((prL n).getD i 0)) →
    (∀ M', frM M M' → (match ((prL n).drop ((prL n).length - k)).find? (cmsS n kd ngt stp th s t p) with
      | some q => Q (ansP (2, p, q) v3) M'
      | none => BX8_plan (d + 5) 119 [(0, .ref 49), (1, .int (nI s)), (2, .int (nI t)), (3, .int v3), (4, .int (nI (prL n).length)), (5, .int (nI (i0 + 1)))] [] M' Q)) →
    BX8_plan (d + 5) 129 [(0, .ref 49), (1, .int (nI s)), (2, .int (nI t)), (3, .int v3), (4, .int (nI (prL n).length)), (5, .int (nI i0)), (6, .int (nI ((prL n).length - k)))] [] M Q
  | 0, M, _, hR, hM, h => by
    apply rX8_plan_129
    have hl := prL_len n (by have := hG.1; omega)
    rw [nI_1]
    have := h M frM_rf
    rw [Nat.sub_zero, List.drop_eq_nil_of_le (Nat.le_refl _)] at this
    exact ⟨fun _ => this, fun q => absurd (nI_le (a := (prL n).length) (b := (prL n).length - 0) (by omega) (by omega)) q⟩
  | k + 1, M, hk, hR, hM, h => by
    apply rX8_plan_129
    have h7 := hG.1
    have hl := prL_len n (by omega)
    have e : (prL n).length - (k + 1) + 1 = (prL n).length - k := by omega
    have hj : (prL n).length - (k + 1) < (prL n).length := by omega
    have ok1 := prL_ok n (by omega) i0 (by omega) hi0
    have ok2 := prL_ok n (by omega) _ (by omega) hj
    rw [show nI ((prL n).length - (k + 1)) + 1 = nI ((prL n).length - k) by rw [nI_1, e]]
    refine ⟨fun q => absurd q (nI_ge hj (by omega)), fun _ => ?_⟩
    refine c8_hasBy d n s t kd th stp ngt _ _ p _ M _ hG hs ht9 hR ht hst (Or.inr ⟨i0, by omega, rfl, by rw [hM i0 hi0, hp], by rw [← hp]; exact ok1⟩) (Or.inr ⟨_, by omega, rfl, hM _ hj, ok2⟩) (fun M1 g => ?_)
    have hd := drop_c hj
    rw [e] at hd
    by_cases c : cmsS n kd ngt stp th s t p ((prL n).getD ((prL n).length - (k + 1)) 0) = true
    · rw [if_pos c]
      refine ⟨fun q => absurd q (by decide), fun _ => ?_⟩
      have := h M1 g
      rw [hd, List.find?_cons, c] at this
      unfold ansP at this
      dsimp only at this
      have e1 : M1 62 ((prL n).length - (k + 1)) = nI ((prL n).getD ((prL n).length - (k + 1)) 0) := by rw [g.1 62 (by omega)]; exact hM _ hj
      have e2 : M1 62 i0 = nI p := by rw [g.1 62 (by omega), hM i0 hi0, hp]
      rw [nI_clamp (by omega), nI_clamp (by omega), e1, e2]
      rcases hv with rfl | rfl | rfl
      · exact ⟨fun q => absurd q (by decide), fun _ => this⟩
      · exact ⟨fun _ => ⟨fun q => absurd rfl q, fun _ => ⟨vp_in_nI (by omega) (by omega), this⟩⟩, fun q => absurd (by decide) q⟩
      · exact ⟨fun _ => ⟨fun _ => ⟨vp_in_nI (by omega) (by omega), this⟩, fun q => absurd q (by decide)⟩, fun q => absurd (by decide) q⟩
    · rw [if_neg c]
      refine ⟨fun _ => ?_, fun q => absurd rfl q⟩
      refine c8_pl2 d n s t kd th stp ngt v3 p i0 Q hG hs ht9 ht hst hv hi0 hp k M1 (by omega) (RgM_c hR h7 (fun i _ hi => g.2 i (by omega))) (fun i hi => by rw [g.1 62 (by omega)]; exact hM i hi) (fun M' g2 => ?_)
      have := h M' (frM_tr g g2)
      rw [hd, List.find?_cons, Bool.eq_false_iff.mpr c] at this
      exact this
theorem c8_pl1 (d n s t : Nat) (kd th : Nat → Nat) (stp ngt : Nat) (v3 : Int32) (Q : Int32 → Mm → Prop) (hG : okG n kd ngt) (hs : s < n) (ht9 : t ≤ 9) (ht : okT n th) (hst : stp < 2 ^ 28) (hv : v3 = -1 ∨ v3 = 0 ∨ v3 = 1) : ∀ (k : Nat) (M : Mm), k ≤ (prL n).length → RgM M 0 n kd th stp ngt → (∀ i, i < (prL n).length → M 62 i = nI ((prL n).getD i 0)) →
    (∀ M', frM M M' → (match find2 (prL n) (cmsS n kd ngt stp th s t) ((prL n).drop ((prL n).length - k)) with
      | some (p, q) => Q (ansP (2, p, q) v3) M'
      | none => Q (-1000000) M')) →
    BX8_plan (d + 5) 119 [(0, .ref 49), (1, .int (nI s)), (2, .int (nI t)), (3, .int v3), (4, .int (nI (prL n).length)), (5, .int (nI ((prL n).length - k)))] [] M Q
  | 0, M, _, hR, hM, h => by
    apply rX8_plan_119
    have hl := prL_len n (by have := hG.1; omega)
    have := h M frM_rf
    rw [Nat.sub_zero, List.drop_eq_nil_of_le (Nat.le_refl _)] at this
    exact ⟨fun _ => this, fun q => absurd (nI_le (a := (prL n).length) (b := (prL n).length - 0) (by omega) (by omega)) q⟩
  | k + 1, M, hk, hR, hM, h => by
    apply rX8_plan_119
    have h7 := hG.1
    have hl := prL_len n (by omega)
    have e : (prL n).length - (k + 1) + 1 = (prL n).length - k := by omega
    have hj : (prL n).length - (k + 1) < (prL n).length := by omega
    have hd := drop_c hj
    rw [e] at hd
    refine ⟨fun q => absurd q (nI_ge hj (by omega)), fun _ => ?_⟩
    have := c8_pl2 d n s t kd th stp ngt v3 _ ((prL n).length - (k + 1)) Q hG hs ht9 ht hst hv hj rfl (prL n).length M (Nat.le_refl _) hR hM (fun M1 g => ?_)
    · rw [Nat.sub_self] at this
      exact this
    · rw [Nat.sub_self, List.drop_zero]
      cases hf : (prL n).find? (cmsS n kd ngt stp th s t ((prL n).getD ((prL n).length - (k + 1)) 0)) with
      | some q =>
        have := h M1 g
        rw [hd, find2, hf] at this
        exact this
      | none =>
        rw [e]
        refine c8_pl1 d n s t kd th stp ngt v3 Q hG hs ht9 ht hst hv k M1 (by omega) (RgM_c hR h7 (fun i _ hi => g.2 i (by omega))) (fun i hi => by rw [g.1 62 (by omega)]; exact hM i hi) (fun M' g2 => ?_)
        have := h M' (frM_tr g g2)
        rw [hd, find2, hf] at this
        exact this
theorem c8_pl0 (d n s t : Nat) (kd th : Nat → Nat) (stp ngt : Nat) (v3 : Int32) (Q : Int32 → Mm → Prop) (hG : okG n kd ngt) (hs : s < n) (ht9 : t ≤ 9) (ht : okT n th) (hst : stp < 2 ^ 28) (hv : v3 = -1 ∨ v3 = 0 ∨ v3 = 1) : ∀ (k : Nat) (M : Mm), k ≤ (prL n).length → RgM M 0 n kd th stp ngt → (∀ i, i < (prL n).length → M 62 i = nI ((prL n).getD i 0)) →
    (∀ M', frM M M' → (match ((prL n).drop ((prL n).length - k)).find? (fun p => cmsS n kd ngt stp th s t p 0) with
      | some p => Q (ansP (1, p, 0) v3) M'
      | none => (match find2 (prL n) (cmsS n kd ngt stp th s t) (prL n) with
        | some (p, q) => Q (ansP (2, p, q) v3) M'
        | none => Q (-1000000) M'))) →
    BX8_plan (d + 5) 66 [(0, .ref 49), (1, .int (nI s)), (2, .int (nI t)), (3, .int v3), (4, .int (nI (prL n).length)), (5, .int (nI ((prL n).length - k)))] [] M Q
  | 0, M, _, hR, hM, h => by
    apply rX8_plan_66
    have hl := prL_len n (by have := hG.1; omega)
    refine ⟨fun _ => ?_, fun q => absurd (nI_le (a := (prL n).length) (b := (prL n).length - 0) (by omega) (by omega)) q⟩
    have := c8_pl1 d n s t kd th stp ngt v3 Q hG hs ht9 ht hst hv (prL n).length M (Nat.le_refl _) hR hM (fun M1 g => ?_)
    · rw [Nat.sub_self] at this
      exact this
    · have := h M1 g
      rw [Nat.sub_zero, List.drop_eq_nil_of_le (Nat.le_refl _)] at this
      rw [Nat.sub_self, List.drop_zero]
      exact this
  | k + 1, M, hk, hR, hM, h => by
    apply rX8_plan_66
    have h7 := hG.1
    have hl := prL_len n (by omega)
    have e : (prL n).length - (k + 1) + 1 = (prL n).length - k := by omega
    have hj : (prL n).length - (k + 1) < (prL n).length := by omega
    have ok2 := prL_ok n (by omega) _ (by omega) hj
    have hd := drop_c hj
    rw [e] at hd
    rw [show nI ((prL n).length - (k + 1)) + 1 = nI ((prL n).length - k) by rw [nI_1, e]]
    refine ⟨fun q => absurd q (nI_ge hj (by omega)), fun _ => ?_⟩
    refine c8_hasBy d n s t kd th stp ngt _ _ _ 0 M _ hG hs ht9 hR ht hst (Or.inr ⟨_, by omega, rfl, hM _ hj, ok2⟩) (Or.inl ⟨by decide, rfl⟩) (fun M1 g => ?_)
    by_cases c : cmsS n kd ngt stp th s t ((prL n).getD ((prL n).length - (k + 1)) 0) 0 = true
    · rw [if_pos c]
      refine ⟨fun q => absurd q (by decide), fun _ => ?_⟩
      have := h M1 g
      rw [hd, List.find?_cons, c] at this
      unfold ansP at this
      dsimp only at this
      have e1 : M1 62 ((prL n).length - (k + 1)) = nI ((prL n).getD ((prL n).length - (k + 1)) 0) := by rw [g.1 62 (by omega)]; exact hM _ hj
      rw [nI_clamp (by omega), e1]
      rcases hv with rfl | rfl | rfl
      · exact ⟨fun q => absurd q (by decide), fun _ => this⟩
      · exact ⟨fun _ => ⟨fun q => absurd rfl q, fun _ => ⟨vp_in_nI (by omega) (by omega), this⟩⟩, fun q => absurd (by decide) q⟩
      · exact ⟨fun _ => ⟨fun _ => this, fun q => absurd q (by decide)⟩, fun q => absurd (by decide) q⟩
    · rw [if_neg c]
      refine ⟨fun _ => ?_, fun q => absurd rfl q⟩
      refine c8_pl0 d n s t kd th stp ngt v3 Q hG hs ht9 ht hst hv k M1 (by omega) (RgM_c hR h7 (fun i _ hi => g.2 i (by omega))) (fun i hi => by rw [g.1 62 (by omega)]; exact hM i hi) (fun M' g2 => ?_)
      have := h M' (frM_tr g g2)
      rw [hd, List.find?_cons, Bool.eq_false_iff.mpr c] at this
      exact this
