/-! PLAN -/
def cmsS (n : Nat) (kd : Nat → Nat) (ngt stp : Nat) (th : Nat → Nat) (s t p q : Nat) : Bool := decide (toM n kd ngt stp (swp (swp th (p / 10) (p % 10)) (q / 10) (q % 10)) s = t)
def isP (n p : Nat) : Bool := decide (p / 10 < p % 10 ∧ p % 10 < n)
theorem swp00 (th : Nat → Nat) (a : Nat) : swp th a a = th := by
  funext i
  unfold swp
  by_cases z : i = a
  · rw [if_pos z, z]
  · rw [if_neg z, if_neg z]
def okp (n p : Nat) : Prop := p / 10 < n ∧ p % 10 < n ∧ p < 100
theorem okp_of {n p : Nat} (h : isP n p = true) (hp : p < 100) : okp n p := by
  have := of_decide_eq_true h
  unfold okp
  omega
theorem c7_comes (d n s t p q : Nat) (kd th : Nat → Nat) (stp ngt : Nat) (M : Mm) (Q : Int32 → Mm → Prop) (hG : okG n kd ngt) (hs : s < n) (ht9 : t ≤ 9) (hR : RgC M 23 n kd th stp ngt) (ht : okT n th) (hst : stp < 2 ^ 28) (h0 : M 48 0 = nI p) (h1 : M 48 1 = nI q) (hp : okp n p) (hq : okp n q) (h : ∀ M', frC M M' → Q (if cmsS n kd ngt stp th s t p q then 1 else 0) M') : kX7_comesByHand (d + 5) (nI s) (nI t) M Q := by
  obtain ⟨p1, p2, p3⟩ := hp
  obtain ⟨q1, q2, q3⟩ := hq
  have h7 := hG.1
  apply rX7_comesByHand
  have c1 : (1 : Int32).toNatClampNeg = 1 := rfl
  rw [clamp0, c1]
  refine t4_become _ n kd th stp ngt M _ hR h7 (fun M1 g1 g2 => ⟨vp_in_nI (n := 0) (by omega) (by omega), vp_in_nI (n := 0) (by omega) (by omega), ?_⟩)
  rw [g2 48 (by omega) (by omega) (by omega), h0, li_10, pk_div (by omega) (by omega) (by omega), irem_nI (by omega) (by omega) (by omega)]
  refine c4_exchange _ 26 rg26 n _ _ kd th stp ngt M1 _ g1 h7 p1 p2 (fun M2 g3 g4 => ⟨vp_in_nI (n := 1) (by omega) (by omega), vp_in_nI (n := 1) (by omega) (by omega), ?_⟩)
  rw [g4 48 (by omega), g2 48 (by omega) (by omega) (by omega), h1, pk_div (by omega) (by omega) (by omega), irem_nI (by omega) (by omega) (by omega)]
  refine c4_exchange _ 26 rg26 n _ _ kd _ stp ngt M2 _ g3 h7 q1 q2 (fun M3 g5 g6 => ?_)
  have okt := okT_swp (okT_swp ht p1 p2) q1 q2
  refine t4_tom d n kd _ stp ngt M3 _ g5 hG okt hst (fun M4 stp' g7 g8 => ⟨vp_in_nI (by omega) (by omega), ?_⟩)
  have e2 : M4 28 s = nI (toM n kd ngt stp (swp (swp th (p / 10) (p % 10)) (q / 10) (q % 10)) s) := g7.2.2.2.2 s hs
  have b : toM n kd ngt stp (swp (swp th (p / 10) (p % 10)) (q / 10) (q % 10)) s ≤ 9 := okT_tom _ _ _ (okT_step okt) s hs
  have fr : frC M M4 := fun k x1 x2 x3 => by rw [g8 k x1 x2 x3, g6 k x3, g4 k x3, g2 k x1 x2 x3]
  have := h M4 fr
  unfold cmsS at this
  rw [nI_clamp (by omega), e2]
  simp (disch := omega) only [nI_eq]
  refine ⟨fun z => ?_, fun z => ?_⟩
  · rw [if_neg (by simpa using z)] at this; exact this
  · rw [if_pos (by simpa using z)] at this; exact this
theorem c7_isPair (d n p : Nat) (M : Mm) (Q : Int32 → Mm → Prop) (hn : M 23 2 = nI n) (h7 : n ≤ 7) (hp : p < 100) (h : Q (if isP n p then 1 else 0) M) : kX7_isPair d (nI p) M Q := by
  apply rX7_isPair
  rw [hn, li_10, pk_div (by omega) (by omega) (by omega), irem_nI (by omega) (by omega) (by omega)]
  simp (disch := omega) only [nI_leI]
  unfold isP at h
  refine ⟨fun z => ?_, fun z => ⟨fun z2 => ?_, fun z2 => ?_⟩⟩
  · rw [if_neg (by simp; omega)] at h; exact h
  · rw [if_neg (by simp; omega)] at h; exact h
  · rw [if_pos (by simp; omega)] at h; exact h
/-- the first of the numbers from 57 - k to 56 -/
def fst1 (f : Nat → Bool) : Nat → Option Nat
  | 0 => none
  | k + 1 => if f (57 - (k + 1)) then some (57 - (k + 1)) else fst1 f k
def fst2 (f : Nat → Nat → Bool) : Nat → Option (Nat × Nat)
  | 0 => none
  | k + 1 => match fst1 (f (57 - (k + 1))) 56 with
    | some q => some (57 - (k + 1), q)
    | none => fst2 f k
/-- what the class's search ends with -/
def PlC (n : Nat) (kd : Nat → Nat) (ngt stp : Nat) (th : Nat → Nat) (s t : Nat) (Q : Int32 → Mm → Prop) (M : Mm) : Prop :=
  ∀ M', (∀ k, k ≠ 26 → k ≠ 27 → k ≠ 28 → k ≠ 48 → M' k = M k) →
    (match fst2 (fun p q => isP n p && isP n q && cmsS n kd ngt stp th s t p q) 56 with
      | some (p, q) => M' 48 0 = nI p → M' 48 1 = nI q → Q 2 M'
      | none => Q (-1) M')
theorem c7_in2 (d n s t p : Nat) (kd th : Nat → Nat) (stp ngt : Nat) (Q : Int32 → Mm → Prop) (hG : okG n kd ngt) (hs : s < n) (ht9 : t ≤ 9) (ht : okT n th) (hst : stp < 2 ^ 28) (hp : p < 57) : ∀ (k : Nat) (M : Mm), k ≤ 56 → RgC M 23 n kd th stp ngt →
    (∀ M', (∀ k, k ≠ 26 → k ≠ 27 → k ≠ 28 → k ≠ 48 → M' k = M k) → (match fst1 (fun q => isP n p && isP n q && cmsS n kd ngt stp th s t p q) k with
      | some q => M' 48 0 = nI p → M' 48 1 = nI q → Q 2 M'
      | none => BX7_fewestByHand (d + 6) 67 [(0, .ref 0), (1, .int (nI s)), (2, .int (nI t)), (3, .int (nI (p + 1)))] [] M' Q)) →
    BX7_fewestByHand (d + 6) 76 [(0, .ref 0), (1, .int (nI s)), (2, .int (nI t)), (3, .int (nI p)), (4, .int (nI (57 - k)))] [] M Q
  | 0, M, _, hR, h => by
    apply rX7_fewestByHand_76
    rw [nI_1]
    exact ⟨fun _ => h M (fun _ _ _ _ _ => rfl), fun q => absurd (nI_lt (a := 56) (b := 57 - 0) (by omega) (by omega)) q⟩
  | k + 1, M, hk, hR, h => by
    apply rX7_fewestByHand_76
    have h7 := hG.1
    have e : 57 - (k + 1) + 1 = 57 - k := by omega
    have c1 : (1 : Int32).toNatClampNeg = 1 := rfl
    rw [show nI (57 - (k + 1)) + 1 = nI (57 - k) by rw [nI_1, e], clamp0, c1]
    refine ⟨fun q => absurd q (nI_nlt (a := 56) (by omega) (by omega)), fun _ => ⟨vp_in_nI (n := 0) (by omega) (by omega), ?_⟩⟩
    rintro M1 rfl
    refine ⟨vp_in_nI (n := 1) (by omega) (by omega), ?_⟩
    rintro M2 rfl
    have r : ∀ x, x ≠ 48 → upd2 (upd2 M 48 0 (nI p)) 48 1 (nI (57 - (k + 1))) x = M x := fun x hx => by rw [upd2_off hx, upd2_off hx]
    have x0 : upd2 (upd2 M 48 0 (nI p)) 48 1 (nI (57 - (k + 1))) 48 0 = nI p := by rw [upd2_row (by omega), upd2_at]
    have x1 : upd2 (upd2 M 48 0 (nI p)) 48 1 (nI (57 - (k + 1))) 48 1 = nI (57 - (k + 1)) := upd2_at
    generalize upd2 (upd2 M 48 0 (nI p)) 48 1 (nI (57 - (k + 1))) = W at *
    have hRW : RgC W 23 n kd th stp ngt := RgC_c hR (r _ (by omega)) (r _ (by omega)) (r _ (by omega))
    have no : ∀ W2, (∀ x, x ≠ 26 → x ≠ 27 → x ≠ 28 → W2 x = W x) → (isP n p && isP n (57 - (k + 1)) && cmsS n kd ngt stp th s t p (57 - (k + 1))) = false → BX7_fewestByHand (d + 6) 76 [(0, .ref 0), (1, .int (nI s)), (2, .int (nI t)), (3, .int (nI p)), (4, .int (nI (57 - k)))] [] W2 Q := by
      intro W2 hW hf
      refine c7_in2 d n s t p kd th stp ngt Q hG hs ht9 ht hst hp k W2 (by omega) (RgC_c hRW (hW _ (by omega) (by omega) (by omega)) (hW _ (by omega) (by omega) (by omega)) (hW _ (by omega) (by omega) (by omega))) (fun M' g => ?_)
      have := h M' (fun x y1 y2 y3 y4 => by rw [g x y1 y2 y3 y4, hW x y1 y2 y3, r x y4])
      rw [fst1, hf] at this
      exact this
    refine c7_isPair _ n p W _ hRW.1 h7 (by omega) ?_
    by_cases cp : isP n p = true
    · rw [if_pos cp]
      refine ⟨fun q => absurd q (by decide), fun _ => ?_⟩
      refine c7_isPair _ n _ W _ hRW.1 h7 (by omega) ?_
      by_cases cq : isP n (57 - (k + 1)) = true
      · rw [if_pos cq]
        refine ⟨fun q => absurd q (by decide), fun _ => ?_⟩
        refine c7_comes d n s t p (57 - (k + 1)) kd th stp ngt W _ hG hs ht9 hRW ht hst x0 x1 (okp_of cp (by omega)) (okp_of cq (by omega)) (fun W2 g => ?_)
        by_cases cc : cmsS n kd ngt stp th s t p (57 - (k + 1)) = true
        · rw [if_pos cc]
          refine ⟨fun q => absurd q (by decide), fun _ => ?_⟩
          have := h W2 (fun x y1 y2 y3 y4 => by rw [g x y1 y2 y3, r x y4])
          rw [fst1, show (isP n p && isP n (57 - (k + 1)) && cmsS n kd ngt stp th s t p (57 - (k + 1))) = true by rw [cp, cq, cc]; rfl, if_pos rfl] at this
          exact this (by rw [g 48 (by omega) (by omega) (by omega)]; exact x0) (by rw [g 48 (by omega) (by omega) (by omega)]; exact x1)
        · rw [if_neg cc]
          refine ⟨fun _ => no W2 g (by rw [cp, cq]; simpa using cc), fun q => absurd rfl q⟩
      · rw [if_neg cq]
        exact ⟨fun _ => no W (fun _ _ _ _ => rfl) (by rw [cp, Bool.eq_false_iff.mpr cq]; rfl), fun q => absurd rfl q⟩
    · rw [if_neg cp]
      exact ⟨fun _ => no W (fun _ _ _ _ => rfl) (by rw [Bool.eq_false_iff.mpr cp]; rfl), fun q => absurd rfl q⟩
theorem c7_out2 (d n s t : Nat) (kd th : Nat → Nat) (stp ngt : Nat) (Q : Int32 → Mm → Prop) (hG : okG n kd ngt) (hs : s < n) (ht9 : t ≤ 9) (ht : okT n th) (hst : stp < 2 ^ 28) : ∀ (k : Nat) (M : Mm), k ≤ 56 → RgC M 23 n kd th stp ngt →
    (∀ M', (∀ k, k ≠ 26 → k ≠ 27 → k ≠ 28 → k ≠ 48 → M' k = M k) → (match fst2 (fun p q => isP n p && isP n q && cmsS n kd ngt stp th s t p q) k with
      | some (p, q) => M' 48 0 = nI p → M' 48 1 = nI q → Q 2 M'
      | none => Q (-1) M')) →
    BX7_fewestByHand (d + 6) 67 [(0, .ref 0), (1, .int (nI s)), (2, .int (nI t)), (3, .int (nI (57 - k)))] [] M Q
  | 0, M, _, hR, h => by
    apply rX7_fewestByHand_67
    exact ⟨fun _ => h M (fun _ _ _ _ _ => rfl), fun q => absurd (nI_lt (a := 56) (b := 57 - 0) (by omega) (by omega)) q⟩
  | k + 1, M, hk, hR, h => by
    apply rX7_fewestByHand_67
    have e : 57 - (k + 1) + 1 = 57 - k := by omega
    refine ⟨fun q => absurd q (nI_nlt (a := 56) (by omega) (by omega)), fun _ => ?_⟩
    refine c7_in2 d n s t (57 - (k + 1)) kd th stp ngt Q hG hs ht9 ht hst (by omega) 56 M (Nat.le_refl 56) hR (fun M' g => ?_)
    have := h M' g
    rw [fst2] at this
    cases hf : fst1 (fun q => isP n (57 - (k + 1)) && isP n q && cmsS n kd ngt stp th s t (57 - (k + 1)) q) 56 with
    | some q => rw [hf] at this; exact this
    | none =>
      rw [e]
      refine c7_out2 d n s t kd th stp ngt Q hG hs ht9 ht hst k M' (by omega) (RgC_c hR (g _ (by omega) (by omega) (by omega) (by omega)) (g _ (by omega) (by omega) (by omega) (by omega)) (g _ (by omega) (by omega) (by omega) (by omega))) (fun M2 g2 => ?_)
      have := h M2 (fun x y1 y2 y3 y4 => by rw [g2 x y1 y2 y3 y4, g x y1 y2 y3 y4])
      rw [fst2, hf] at this
      exact this
/-- the class's plan: how many, and which -/
def PlE (n : Nat) (kd : Nat → Nat) (ngt stp : Nat) (th : Nat → Nat) (s t : Nat) : Nat × Nat × Nat :=
  if cmsS n kd ngt stp th s t 0 0 then (0, 0, 0) else match fst1 (fun p => isP n p && cmsS n kd ngt stp th s t p 0) 56 with
    | some p => (1, p, 0)
    | none => match fst2 (fun p q => isP n p && isP n q && cmsS n kd ngt stp th s t p q) 56 with
      | some (p, q) => (2, p, q)
      | none => (3, 0, 0)
theorem c7_one (d n s t : Nat) (kd th : Nat → Nat) (stp ngt : Nat) (Q : Int32 → Mm → Prop) (hG : okG n kd ngt) (hs : s < n) (ht9 : t ≤ 9) (ht : okT n th) (hst : stp < 2 ^ 28) : ∀ (k : Nat) (M : Mm), k ≤ 56 → RgC M 23 n kd th stp ngt → M 48 1 = nI 0 →
    (∀ M', (∀ k, k ≠ 26 → k ≠ 27 → k ≠ 28 → k ≠ 48 → M' k = M k) → (match fst1 (fun p => isP n p && cmsS n kd ngt stp th s t p 0) k with
      | some p => M' 48 0 = nI p → Q 1 M'
      | none => (match fst2 (fun p q => isP n p && isP n q && cmsS n kd ngt stp th s t p q) 56 with
        | some (p, q) => M' 48 0 = nI p → M' 48 1 = nI q → Q 2 M'
        | none => Q (-1) M'))) →
    BX7_fewestByHand (d + 6) 27 [(0, .ref 0), (1, .int (nI s)), (2, .int (nI t)), (3, .int (nI (57 - k)))] [] M Q
  | 0, M, _, hR, h1, h => by
    apply rX7_fewestByHand_27
    exact ⟨fun _ => c7_out2 d n s t kd th stp ngt Q hG hs ht9 ht hst 56 M (Nat.le_refl 56) hR h, fun q => absurd (nI_lt (a := 56) (b := 57 - 0) (by omega) (by omega)) q⟩
  | k + 1, M, hk, hR, h1, h => by
    apply rX7_fewestByHand_27
    have h7 := hG.1
    have e : 57 - (k + 1) + 1 = 57 - k := by omega
    rw [show nI (57 - (k + 1)) + 1 = nI (57 - k) by rw [nI_1, e], clamp0]
    refine ⟨fun q => absurd q (nI_nlt (a := 56) (by omega) (by omega)), fun _ => ⟨vp_in_nI (n := 0) (by omega) (by omega), ?_⟩⟩
    rintro M1 rfl
    have r : ∀ x, x ≠ 48 → upd2 M 48 0 (nI (57 - (k + 1))) x = M x := fun x hx => upd2_off hx
    have x0 : upd2 M 48 0 (nI (57 - (k + 1))) 48 0 = nI (57 - (k + 1)) := upd2_at
    have x1 : upd2 M 48 0 (nI (57 - (k + 1))) 48 1 = nI 0 := by rw [upd2_row (by omega)]; exact h1
    generalize upd2 M 48 0 (nI (57 - (k + 1))) = W at *
    have hRW : RgC W 23 n kd th stp ngt := RgC_c hR (r _ (by omega)) (r _ (by omega)) (r _ (by omega))
    have no : ∀ W2, (∀ x, x ≠ 26 → x ≠ 27 → x ≠ 28 → W2 x = W x) → (isP n (57 - (k + 1)) && cmsS n kd ngt stp th s t (57 - (k + 1)) 0) = false → BX7_fewestByHand (d + 6) 27 [(0, .ref 0), (1, .int (nI s)), (2, .int (nI t)), (3, .int (nI (57 - k)))] [] W2 Q := by
      intro W2 hW hf
      refine c7_one d n s t kd th stp ngt Q hG hs ht9 ht hst k W2 (by omega) (RgC_c hRW (hW _ (by omega) (by omega) (by omega)) (hW _ (by omega) (by omega) (by omega)) (hW _ (by omega) (by omega) (by omega))) (by rw [hW 48 (by omega) (by omega) (by omega)]; exact x1) (fun M' g => ?_)
      have := h M' (fun x y1 y2 y3 y4 => by rw [g x y1 y2 y3 y4, hW x y1 y2 y3, r x y4])
      rw [fst1, hf] at this
      exact this
    refine c7_isPair _ n _ W _ hRW.1 h7 (by omega) ?_
    by_cases cp : isP n (57 - (k + 1)) = true
    · rw [if_pos cp]
      refine ⟨fun q => absurd q (by decide), fun _ => ?_⟩
      refine c7_comes d n s t (57 - (k + 1)) 0 kd th stp ngt W _ hG hs ht9 hRW ht hst x0 x1 (okp_of cp (by omega)) ⟨by omega, by omega, by omega⟩ (fun W2 g => ?_)
      by_cases cc : cmsS n kd ngt stp th s t (57 - (k + 1)) 0 = true
      · rw [if_pos cc]
        refine ⟨fun q => absurd q (by decide), fun _ => ?_⟩
        have := h W2 (fun x y1 y2 y3 y4 => by rw [g x y1 y2 y3, r x y4])
        rw [fst1, show (isP n (57 - (k + 1)) && cmsS n kd ngt stp th s t (57 - (k + 1)) 0) = true by rw [cp, cc]; rfl, if_pos rfl] at this
        exact this (by rw [g 48 (by omega) (by omega) (by omega)]; exact x0)
      · rw [if_neg cc]
        exact ⟨fun _ => no W2 g (by rw [cp]; simpa using cc), fun q => absurd rfl q⟩
    · rw [if_neg cp]
      exact ⟨fun _ => no W (fun _ _ _ _ => rfl) (by rw [Bool.eq_false_iff.mpr cp]; rfl), fun q => absurd rfl q⟩
theorem c7_fewest (d n s t : Nat) (kd th : Nat → Nat) (stp ngt : Nat) (M : Mm) (Q : Int32 → Mm → Prop) (hG : okG n kd ngt) (hs : s < n) (ht9 : t ≤ 9) (ht : okT n th) (hst : stp < 2 ^ 28) (hR : RgC M 23 n kd th stp ngt)
    (h : ∀ M', (∀ k, k ≠ 26 → k ≠ 27 → k ≠ 28 → k ≠ 48 → M' k = M k) → ((PlE n kd ngt stp th s t).1 = 1 → M' 48 0 = nI (PlE n kd ngt stp th s t).2.1) → ((PlE n kd ngt stp th s t).1 = 2 → M' 48 0 = nI (PlE n kd ngt stp th s t).2.1 ∧ M' 48 1 = nI (PlE n kd ngt stp th s t).2.2) → Q (if (PlE n kd ngt stp th s t).1 = 3 then -1 else nI (PlE n kd ngt stp th s t).1) M') : kX7_fewestByHand (d + 6) (nI s) (nI t) M Q := by
  have c1 : (1 : Int32).toNatClampNeg = 1 := rfl
  apply rX7_fewestByHand
  rw [clamp0, c1]
  refine ⟨vp_in_nI (n := 0) (by omega) (by omega), ?_⟩
  rintro M1 rfl
  refine ⟨vp_in_nI (n := 1) (by omega) (by omega), ?_⟩
  rintro M2 rfl
  have r : ∀ x, x ≠ 48 → upd2 (upd2 M 48 0 0) 48 1 0 x = M x := fun x hx => by rw [upd2_off hx, upd2_off hx]
  have x0 : upd2 (upd2 M 48 0 0) 48 1 0 48 0 = nI 0 := by rw [upd2_row (by omega), upd2_at]; rfl
  have x1 : upd2 (upd2 M 48 0 0) 48 1 0 48 1 = nI 0 := by rw [upd2_at]; rfl
  generalize upd2 (upd2 M 48 0 0) 48 1 0 = W at *
  have hRW : RgC W 23 n kd th stp ngt := RgC_c hR (r _ (by omega)) (r _ (by omega)) (r _ (by omega))
  refine c7_comes d n s t 0 0 kd th stp ngt W _ hG hs ht9 hRW ht hst x0 x1 ⟨by omega, by omega, by omega⟩ ⟨by omega, by omega, by omega⟩ (fun W2 g => ?_)
  unfold PlE at h
  by_cases c0 : cmsS n kd ngt stp th s t 0 0 = true
  · rw [if_pos c0]
    rw [if_pos c0] at h
    refine ⟨fun q => absurd q (by decide), fun _ => ?_⟩
    exact h W2 (fun x y1 y2 y3 y4 => by rw [g x y1 y2 y3, r x y4]) (fun z => absurd z (by decide)) (fun z => absurd z (by decide))
  · rw [if_neg c0]
    rw [if_neg c0] at h
    refine ⟨fun _ => ?_, fun q => absurd rfl q⟩
    refine c7_one d n s t kd th stp ngt Q hG hs ht9 ht hst 56 W2 (Nat.le_refl 56) (RgC_c hRW (g _ (by omega) (by omega) (by omega)) (g _ (by omega) (by omega) (by omega)) (g _ (by omega) (by omega) (by omega))) (by rw [g 48 (by omega) (by omega) (by omega)]; exact x1) (fun M' g2 => ?_)
    have := h M' (fun x y1 y2 y3 y4 => by rw [g2 x y1 y2 y3 y4, g x y1 y2 y3, r x y4])
    cases h1 : fst1 (fun p => isP n p && cmsS n kd ngt stp th s t p 0) 56 with
    | some p => rw [h1] at this; exact fun z => this (fun _ => z) (fun y => absurd (show (1 : Nat) = 2 from y) (by decide))
    | none =>
      rw [h1] at this
      cases h2 : fst2 (fun p q => isP n p && isP n q && cmsS n kd ngt stp th s t p q) 56 with
      | some pq => rw [h2] at this; exact fun z1 z2 => this (fun y => absurd (show (2 : Nat) = 1 from y) (by decide)) (fun _ => ⟨z1, z2⟩)
      | none => rw [h2] at this; exact this (fun y => absurd (show (3 : Nat) = 1 from y) (by decide)) (fun y => absurd (show (3 : Nat) = 2 from y) (by decide))
