/-! SAINTS: the head, and the reference reads -/
def psT (tp : Nat → Nat) (tz : Nat) : (Nat × Nat) ⊕ (Nat × Nat × (Nat → Nat) × (Nat → Nat)) :=
  if ¬ (0 < tz ∧ tp 0 = 114) then .inl (1, 0)
  else if ¬ (fgL tp tz (tz - 1) = 1 ∨ fgL tp tz (tz - 1) = 2) then .inl (1, 1)
  else if ¬ (1 ≤ nmV tp 1 (fgL tp tz (tz - 1)) ∧ nmV tp 1 (fgL tp tz (tz - 1)) ≤ 9) then .inl (2, 1)
  else if ¬ (1 + fgL tp tz (tz - 1) < tz ∧ tp (1 + fgL tp tz (tz - 1)) = 59) then .inl (1, 1 + fgL tp tz (tz - 1))
  else match psS tp tz 8 (1 + fgL tp tz (tz - 1) + 1) 0 (fun _ => 0) (fun _ => 0) with
    | .inl x => .inl x
    | .inr (n, kd, th) => .inr (nmV tp 1 (fgL tp tz (tz - 1)), n, kd, th)
theorem c6_read (d tz : Nat) (tp : Nat → Nat) (Mo : Mm) (Q : Int32 → Mm → Prop) (ho : tpOK tp tz) (hT : TpC Mo tp tz) (h20 : Mo 20 3 = 0) (h : match psT tp tz with | .inl (w, pl) => pFl Mo Q w pl | .inr (ngt, n, kd, th) => pOk Mo Q ngt n kd th) : kX6_read (d + 6) Mo Q := by
  have t50 := ho.1
  apply rX6_read
  rintro M1 rfl M2 rfl
  have hS : rS tp tz Mo (upd2 (upd2 Mo 20 2 0) 18 2 0) 0 := by
    refine ⟨fun q a b c e => by rw [upd2_off a, upd2_off b], ⟨by rw [upd2_row (by omega), upd2_off (by omega)]; exact hT.1, fun i hi => by rw [upd2_off (by omega), upd2_off (by omega)]; exact hT.2 i hi⟩, upd2_at, by rw [upd2_row (by omega), upd2_off (by omega)], by rw [upd2_off (by omega), upd2_row (by omega)]; exact h20⟩
  have n20 : (upd2 (upd2 Mo 20 2 0) 18 2 0) 20 2 = nI 0 := by rw [upd2_off (by omega), upd2_at]; rfl
  rw [hT.1]
  generalize (upd2 (upd2 Mo 20 2 0) 18 2 0) = M at *
  unfold psT at h
  by_cases c1 : 0 < tz ∧ tp 0 = 114
  case neg =>
    rw [if_pos c1] at h
    rcases Nat.eq_zero_or_pos tz with z | z
    · have := c6_endF (d + 5) 0 M ho hS (by omega) (by omega) (by omega) (by rw [z]; exact h)
      rw [z] at this ⊢
      exact this
    · refine c6_tok (d + 4) 0 0 M ho hS z (by omega) ?_
      apply rX6_take
      rw [hS.2.2.1]
      refine ⟨fun _ => ?_, fun q => absurd q (by decide), fun q => absurd q (by decide), fun q => absurd q (by decide), fun q => absurd rfl q.1⟩
      refine c6_sign _ 0 114 1 M _ ho hS z (by omega) (fun w => absurd ⟨z, w⟩ c1) (fun w => ⟨fun q => absurd q (by decide), fun _ => c6_fl _ 1 0 M hS h⟩)
  rw [if_neg (fun z => z c1)] at h
  obtain ⟨z, w⟩ := c1
  refine c6_tok (d + 4) 0 0 M ho hS z (by omega) ?_
  apply rX6_take
  rw [hS.2.2.1]
  refine ⟨fun _ => ?_, fun q => absurd q (by decide), fun q => absurd q (by decide), fun q => absurd q (by decide), fun q => absurd rfl q.1⟩
  refine c6_sign _ 0 114 1 M _ ho hS z (by omega) (fun _ => ⟨fun _ => ?_, fun q => absurd rfl q⟩) (fun q => absurd w q)
  rw [tk_1 z (by rw [w]; decide)]
  have hS1 := rS_stg 1 hS
  have n1 : upd2 M 18 2 (nI 1) 20 2 = nI 0 := by rw [upd2_off (by omega)]; exact n20
  generalize upd2 M 18 2 (nI 1) = M1 at *
  rw [show 0 + 1 = 1 from rfl]
  by_cases c2 : fgL tp tz (tz - 1) = 1 ∨ fgL tp tz (tz - 1) = 2
  case neg =>
    rw [if_pos c2] at h
    rcases Nat.lt_or_ge 1 tz with c3 | c3
    · refine c6_tok (d + 4) 1 1 M1 ho hS1 c3 (by omega) ?_
      apply rX6_take
      rw [hS1.2.2.1]
      refine ⟨fun q => absurd q (by decide), fun _ => ?_, fun q => absurd q (by decide), fun q => absurd q (by decide), fun q => absurd rfl q.2.1⟩
      apply rX6_takeNight
      refine c6_isNumber _ 1 tz tp M1 _ ho hS1.2.1 c3 ?_
      rw [if_neg c2]
      exact ⟨fun q => absurd rfl q, fun _ => ⟨fun q => absurd q (by decide), fun _ => c6_fl _ 1 1 M1 hS1 h⟩⟩
    · have e : tz = 1 := by omega
      have := c6_endF (d + 5) 1 M1 ho hS1 (by omega) (by omega) (by omega) (by rw [e]; exact h)
      rw [e] at this ⊢
      exact this
  rw [if_neg (fun z => z c2)] at h
  have fl := fgL_le tp tz (tz - 1)
  have c3 : 1 < tz := by omega
  have v99 := nm_99 ho (show 1 ≤ tz by omega) c2
  refine c6_tok (d + 4) 1 1 M1 ho hS1 c3 (by omega) ?_
  apply rX6_take
  rw [hS1.2.2.1]
  refine ⟨fun q => absurd q (by decide), fun _ => ?_, fun q => absurd q (by decide), fun q => absurd q (by decide), fun q => absurd rfl q.2.1⟩
  apply rX6_takeNight
  refine c6_isNumber _ 1 tz tp M1 _ ho hS1.2.1 c3 ?_
  rw [if_pos c2]
  refine ⟨fun _ => ?_, fun q => absurd q (by decide)⟩
  refine c6_numberAt _ 1 tz tp M1 _ ho hS1.2.1 c3 c2 ?_
  generalize ev : nmV tp 1 (fgL tp tz (tz - 1)) = v at *
  rw [li_1, li_9]
  simp (disch := omega) only [nI_ltI, nI_leI]
  by_cases c4 : 1 ≤ v ∧ v ≤ 9
  case neg =>
    rw [if_pos c4] at h
    exact ⟨fun q => ⟨fun q => absurd q (by decide), fun _ => c6_fl _ 2 1 M1 hS1 h⟩, fun q => ⟨fun q2 => by omega, fun q2 => ⟨fun q => absurd q (by decide), fun _ => c6_fl _ 2 1 M1 hS1 h⟩⟩⟩
  rw [if_neg (fun z => z c4)] at h
  refine ⟨fun q => by omega, fun _ => ⟨fun _ => ?_, fun q => by omega⟩⟩
  rintro M3 rfl M4 rfl
  refine ⟨fun _ => ?_, fun q => absurd trivial q⟩
  rw [tk_n c2]
  have hS2 : rS tp tz Mo (upd2 (upd2 M1 20 4 (nI v)) 18 2 2) 2 := rS_stg 2 (rS_dr 20 4 _ (by omega) hS1)
  have hR2 : RgC (upd2 (upd2 M1 20 4 (nI v)) 18 2 2) 20 0 (fun _ => 0) (fun _ => 0) 0 v := by
    refine ⟨?_, ?_, ?_, fun i hi => by omega, fun i hi => by omega⟩
    · rw [upd2_off (by omega), upd2_row (by omega)]; exact n1
    · rw [upd2_off (by omega), upd2_row (by omega)]; exact hS1.2.2.2.2
    · rw [upd2_off (by omega), upd2_at]
  generalize (upd2 (upd2 M1 20 4 (nI v)) 18 2 2) = M2 at *
  refine sig_fin (d + 3) (1 + fgL tp tz (tz - 1)) (1 + 1) M2 ho hS2 (by omega) (by omega) (fun c7 => ?_) (fun c7 => ?_)
  · rw [if_neg (fun z => z c7)] at h
    refine c6_loop d tz v tp Mo Q ho 8 _ 0 (fun _ => 0) (fun _ => 0) (1 + 1 + 1) _ (by omega) (by omega) (by omega) (by omega) (rS_stg 3 hS2) (RgC_c hR2 (upd2_off (by omega)) (upd2_off (by omega)) (upd2_off (by omega))) (fun i hi => by omega) ?_
    cases e : psS tp tz 8 (1 + fgL tp tz (tz - 1) + 1) 0 (fun _ => 0) (fun _ => 0) with
    | inl x => rw [e] at h; exact h
    | inr y => rw [e] at h; exact h
  · rw [if_pos c7] at h
    exact h
/-! the reference -/
def frU (M M' : Mm) : Prop := (∀ q, q ≠ 49 → q ≠ 50 → M' q = M q) ∧ (∀ i, i ≠ 4 → i ≠ 10 → i ≠ 11 → i ≠ 12 → M' 49 i = M 49 i) ∧ ∀ i, (i < 68 ∨ 85 ≤ i) → M' 50 i = M 50 i
def uS (tp : Nat → Nat) (tz : Nat) (Mo M : Mm) (a : Nat) : Prop := frU Mo M ∧ M 49 3 = nI tz ∧ (∀ i, i < tz → M 51 i = nI (tp i)) ∧ M 49 10 = nI a ∧ M 49 4 = Mo 49 4
def uF (Mo : Mm) (R : Int32 → Mm → Prop) (w pl : Nat) : Prop := ∀ M', frU Mo M' → M' 49 4 = nI w → M' 49 11 = nI pl → R 0 M'
def uO (Mo : Mm) (R : Int32 → Mm → Prop) (ngt n : Nat) (kd th : Nat → Nat) : Prop := ∀ M', frU Mo M' → M' 49 4 = Mo 49 4 → RgM M' 68 n kd th 0 ngt → R 1 M'
section
variable {tp : Nat → Nat} {tz : Nat} {Mo : Mm}
theorem uS_49 {M : Mm} {a : Nat} (i : Nat) (x : Int32) (hi : i = 11 ∨ i = 12) (h : uS tp tz Mo M a) : uS tp tz Mo (upd2 M 49 i x) a := by
  obtain ⟨h1, h2, h3, h4, h5⟩ := h
  refine ⟨⟨fun q a b => by rw [upd2_off a]; exact h1.1 q a b, fun j a b c e => by rw [upd2_row (by omega)]; exact h1.2.1 j a b c e, fun j hj => by rw [upd2_off (by omega)]; exact h1.2.2 j hj⟩, by rw [upd2_row (by omega)]; exact h2, fun j hj => by rw [upd2_off (by omega)]; exact h3 j hj, by rw [upd2_row (by omega)]; exact h4, by rw [upd2_row (by omega)]; exact h5⟩
theorem uS_at {M : Mm} {a : Nat} (b : Nat) (h : uS tp tz Mo M a) : uS tp tz Mo (upd2 M 49 10 (nI b)) b := by
  obtain ⟨h1, h2, h3, h4, h5⟩ := h
  refine ⟨⟨fun q a b => by rw [upd2_off a]; exact h1.1 q a b, fun j a b c e => by rw [upd2_row (by omega)]; exact h1.2.1 j a b c e, fun j hj => by rw [upd2_off (by omega)]; exact h1.2.2 j hj⟩, by rw [upd2_row (by omega)]; exact h2, fun j hj => by rw [upd2_off (by omega)]; exact h3 j hj, upd2_at, by rw [upd2_row (by omega)]; exact h5⟩
theorem uS_50 {M : Mm} {a : Nat} (i : Nat) (x : Int32) (hi : 68 ≤ i ∧ i < 85) (h : uS tp tz Mo M a) : uS tp tz Mo (upd2 M 50 i x) a := by
  obtain ⟨h1, h2, h3, h4, h5⟩ := h
  refine ⟨⟨fun q a b => by rw [upd2_off b]; exact h1.1 q a b, fun j a b c e => by rw [upd2_off (by omega)]; exact h1.2.1 j a b c e, fun j hj => by rw [upd2_row (by omega)]; exact h1.2.2 j hj⟩, by rw [upd2_off (by omega)]; exact h2, fun j hj => by rw [upd2_off (by omega)]; exact h3 j hj, by rw [upd2_off (by omega)]; exact h4, by rw [upd2_off (by omega)]; exact h5⟩
theorem c8_here (d a : Nat) (M : Mm) (R : Int32 → Mm → Prop) (ho : tpOK tp tz) (hS : uS tp tz Mo M a) (ha : a ≤ tz) (hy : a < tz → R (nI (tp a)) M) (hn : a = tz → R (-1) M) : kX8_here d M R := by
  have t50 := ho.1
  apply rX8_here
  rw [hS.2.1, hS.2.2.2.1, nI_clamp (by omega)]
  simp (disch := omega) only [nI_leI]
  refine ⟨fun q => hn (by omega), fun q => ⟨vp_in_nI (by omega) (by omega), ?_⟩⟩
  rw [hS.2.2.1 a (by omega)]
  exact hy (by omega)
theorem c8_fl (d w pl : Nat) (M : Mm) {a : Nat} (R : Int32 → Mm → Prop) (hS : uS tp tz Mo M a) (h : uF Mo R w pl) : kX8_fails d (nI w) (nI pl) M (fun r2 M3 => ((r2 = 0 ∨ r2 = 1) ∧ R r2 M3)) := by
  apply rX8_fails
  rintro M1 rfl M2 rfl
  have hS2 := uS_49 11 (nI pl) (by omega) hS
  refine ⟨Or.inl rfl, h _ ⟨fun q a b => by rw [upd2_off a, upd2_off a]; exact hS.1.1 q a b, fun i a b c e => by rw [upd2_row (by omega), upd2_row (by omega)]; exact hS.1.2.1 i a b c e, fun i hi => by rw [upd2_off (by omega), upd2_off (by omega)]; exact hS.1.2.2 i hi⟩ ?_ upd2_at⟩
  rw [upd2_row (by omega), upd2_at]
theorem c8_sgn (d a c : Nat) (M : Mm) (R : Int32 → Mm → Prop) (ho : tpOK tp tz) (hc : c < 256) (hS : uS tp tz Mo M a) (ha : a ≤ tz) (hy : a < tz ∧ tp a = c → R 1 (upd2 M 49 10 (nI (a + 1)))) (hn : ¬ (a < tz ∧ tp a = c) → uF Mo R 1 a) : kX8_takes (d + 1) (nI c) M R := by
  have t50 := ho.1
  apply rX8_takes
  refine c8_here _ a M _ ho hS ha (fun z => ?_) (fun z => ?_)
  all_goals rw [hS.2.2.2.1, nI_1]
  · have b := ho.2 a z
    simp (disch := omega) only [nI_eq]
    refine ⟨fun q => ?_, fun q => c8_fl _ 1 a M R hS (hn (fun w => q w.2))⟩
    rintro M2 rfl
    exact hy ⟨z, q⟩
  · refine ⟨fun q => ?_, fun _ => c8_fl _ 1 a M R hS (hn (fun w => by omega))⟩
    have e : (nI c).toInt = c := nI_toInt (by omega)
    rw [← q] at e
    have e2 : (-1 : Int32).toInt = -1 := rfl
    omega
theorem nmV_s (a k : Nat) (h : k < 2) (h48 : 48 ≤ tp (a + k)) : ((10 : Int32) * nI (nmV tp a k) + nI (tp (a + k))) - 48 = nI (nmV tp a (k + 1)) := by
  rw [dig _ _ h48]
  rcases (show k = 0 ∨ k = 1 by omega) with rfl | rfl
  · unfold nmV
    rw [if_pos rfl, if_neg (by omega), if_pos rfl]
    congr 1
    rw [Nat.add_zero]
    omega
  · rfl
theorem nmV_2 (a k : Nat) (h : 2 ≤ k) : nmV tp a k = nmV tp a (k + 1) := by
  unfold nmV
  rw [if_neg (by omega), if_neg (by omega), if_neg (by omega), if_neg (by omega)]
theorem c8_fig (d c : Nat) (M : Mm) (R : Int32 → Mm → Prop) (hc : c < 256) (h : R (if figB c then 1 else 0) M) : kX8_in d (nI c).toInt64 (48 : Int64) (57 : Int64) M R := by
  refine c8_inI d (nI c) 48 57 M _ ?_
  rw [li_48, li_57]
  simp (disch := omega) only [nI_leI]
  by_cases z : figB c = true
  · rw [if_pos z] at h
    rw [if_pos (fig_iff.mp z)]
    exact h
  · rw [if_neg z] at h
    rw [if_neg (fun w => z (fig_iff.mpr w))]
    exact h
theorem c8_nmE (d a lo hi told : Nat) (Mx M : Mm) (R : Int32 → Mm → Prop) (ho : tpOK tp tz) (hlo : lo ≤ 9) (hhi : hi ≤ 9) (htd : told < 2 ^ 30) (L : Nat) (haL : a + L ≤ tz) (hS : uS tp tz Mo M (a + L)) (h12 : M 49 12 = nI (nmV tp a L)) (h50 : M 50 = Mx 50) (hv : (L = 1 ∨ L = 2) → nmV tp a L ≤ 99)
    (hF1 : ¬ (L = 1 ∨ L = 2) → uF Mo R 1 a) (hF2 : (L = 1 ∨ L = 2) → ¬ (lo ≤ nmV tp a L ∧ nmV tp a L ≤ hi ∧ told.testBit (nmV tp a L) = false) → uF Mo R 2 a) (hy : (L = 1 ∨ L = 2) → (lo ≤ nmV tp a L ∧ nmV tp a L ≤ hi ∧ told.testBit (nmV tp a L) = false) → ∀ M', uS tp tz Mo M' (a + L) → M' 49 12 = nI (nmV tp a L) → M' 50 = Mx 50 → R 1 M') :
    kX8_in d ((M 49 10) - nI a).toInt64 (1 : Int64) (2 : Int64) M (fun r3 M3 => ((¬ r3 = 0 → kX8_in d ((M3 49 12).toInt64) (nI lo).toInt64 (nI hi).toInt64 M3 (fun r4 M4 => ((r4 = 0 → BX8_takesNumber (d + 1) 130 [(0, .ref 49), (4, .int (nI a))] [] M4 R) ∧ (¬ r4 = 0 → kX8_has d (nI told) (M4 49 12) M4 (fun r5 M5 => ((r5 = 0 → R 1 M5) ∧ (¬ r5 = 0 → BX8_takesNumber (d + 1) 130 [(0, .ref 49), (4, .int (nI a))] [] M5 R))))))) ∧ (r3 = 0 → kX8_fails d 1 (nI a) M3 (fun r6 M6 => ((r6 = 0 ∨ r6 = 1) ∧ R r6 M6))))) := by
  have t50 := ho.1
  rw [hS.2.2.2.1, pk_sub (by omega), show a + L - a = L by omega]
  refine c8_inI d (nI L) 1 2 M _ ?_
  rw [li_1, li_2]
  simp (disch := omega) only [nI_leI]
  by_cases c1 : L = 1 ∨ L = 2
  case neg =>
    rw [if_neg (by omega)]
    exact ⟨fun q => absurd rfl q, fun _ => c8_fl _ 1 a M R hS (hF1 c1)⟩
  rw [if_pos (by omega)]
  refine ⟨fun _ => ?_, fun q => absurd q (by decide)⟩
  have v99 := hv c1
  rw [h12]
  refine c8_inI d _ _ _ M _ ?_
  simp (disch := omega) only [nI_leI]
  have two : ¬ (lo ≤ nmV tp a L ∧ nmV tp a L ≤ hi ∧ told.testBit (nmV tp a L) = false) → BX8_takesNumber (d + 1) 130 [(0, .ref 49), (4, .int (nI a))] [] M R := by
    intro w
    apply rX8_takesNumber_130
    exact c8_fl _ 2 a M R hS (hF2 c1 w)
  by_cases c2 : lo ≤ nmV tp a L ∧ nmV tp a L ≤ hi
  case neg =>
    rw [if_neg c2]
    exact ⟨fun _ => two (fun w => c2 ⟨w.1, w.2.1⟩), fun q => absurd rfl q⟩
  rw [if_pos c2]
  refine ⟨fun q => absurd q (by decide), fun _ => ?_⟩
  rw [h12]
  refine c8_has _ told _ M _ (by omega) (by omega) ?_
  by_cases c3 : told.testBit (nmV tp a L) = true
  · rw [if_pos c3]
    exact ⟨fun q => absurd q (by decide), fun _ => two (fun w => by rw [w.2.2] at c3; exact absurd c3 (by decide))⟩
  · rw [if_neg c3]
    exact ⟨fun _ => hy c1 ⟨c2.1, c2.2, Bool.eq_false_iff.mpr c3⟩ M hS h12 h50, fun q => absurd rfl q⟩
theorem c8_nmL (d a lo hi told : Nat) (Mx : Mm) (R : Int32 → Mm → Prop) (ho : tpOK tp tz) (hlo : lo ≤ 9) (hhi : hi ≤ 9) (htd : told < 2 ^ 30) (L : Nat) (haL : a + L ≤ tz) (eL : L = fgL tp tz (tz - a)) (hv : (L = 1 ∨ L = 2) → nmV tp a L ≤ 99)
    (hF1 : ¬ (L = 1 ∨ L = 2) → uF Mo R 1 a) (hF2 : (L = 1 ∨ L = 2) → ¬ (lo ≤ nmV tp a L ∧ nmV tp a L ≤ hi ∧ told.testBit (nmV tp a L) = false) → uF Mo R 2 a) (hy : (L = 1 ∨ L = 2) → (lo ≤ nmV tp a L ∧ nmV tp a L ≤ hi ∧ told.testBit (nmV tp a L) = false) → ∀ M', uS tp tz Mo M' (a + L) → M' 49 12 = nI (nmV tp a L) → M' 50 = Mx 50 → R 1 M') :
    ∀ (r : Nat) (M : Mm), r ≤ tz - a → a + L = tz - r + fgL tp tz r → uS tp tz Mo M (tz - r) → M 49 12 = nI (nmV tp a (tz - r - a)) → M 50 = Mx 50 → BX8_takesNumber (d + 1) 11 [(0, .ref 49), (1, .int (nI lo)), (2, .int (nI hi)), (3, .int (nI told)), (4, .int (nI a))] [] M R
  | 0, M, hr, e, hS, h12, h50 => by
    have t50 := ho.1
    apply rX8_takesNumber_11
    rw [fgL, Nat.add_zero] at e
    refine c8_here _ (tz - 0) M _ ho hS (by omega) (fun z => by omega) (fun _ => ?_)
    refine c8_inI d (-1) 48 57 M _ ?_
    rw [if_neg (by decide)]
    refine ⟨fun _ => ?_, fun q => absurd rfl q⟩
    rw [← e] at hS h12
    rw [show a + L - a = L by omega] at h12
    exact c8_nmE d a lo hi told Mx M R ho hlo hhi htd L haL hS h12 h50 hv hF1 hF2 hy
  | r + 1, M, hr, e, hS, h12, h50 => by
    have t50 := ho.1
    have bt := ho.2 (tz - (r + 1)) (by omega)
    apply rX8_takesNumber_11
    rw [fgL] at e
    refine c8_here _ (tz - (r + 1)) M _ ho hS (by omega) (fun _ => ?_) (fun z => by omega)
    refine c8_fig d (tp (tz - (r + 1))) M _ bt ?_
    by_cases c : figB (tp (tz - (r + 1))) = true
    case neg =>
      rw [if_neg c]
      rw [if_neg c, Nat.add_zero] at e
      refine ⟨fun _ => ?_, fun q => absurd rfl q⟩
      rw [← e] at hS h12
      rw [show a + L - a = L by omega] at h12
      exact c8_nmE d a lo hi told Mx M R ho hlo hhi htd L haL hS h12 h50 hv hF1 hF2 hy
    rw [if_pos c]
    rw [if_pos c] at e
    refine ⟨fun q => absurd q (by decide), fun _ => ?_⟩
    have e10 := hS.2.2.2.1
    have f48 := (fig_iff.mp c).1
    have go : ∀ x, x = nI (nmV tp a (tz - r - a)) → BX8_takesNumber (d + 1) 62 [(0, .ref 49), (1, .int (nI lo)), (2, .int (nI hi)), (3, .int (nI told)), (4, .int (nI a))] [.int x, .ref 49] M R := by
      intro x ex
      subst ex
      apply rX8_takesNumber_62
      rintro M1 rfl M2 rfl
      have hS1 := uS_49 12 (nI (nmV tp a (tz - r - a))) (by omega) hS
      rw [hS1.2.2.2.1, nI_1, show tz - (r + 1) + 1 = tz - r by omega]
      refine c8_nmL d a lo hi told Mx R ho hlo hhi htd L haL eL hv hF1 hF2 hy r _ (by omega) (by omega) (uS_at _ hS1) ?_ ?_
      · rw [upd2_row (by omega), upd2_at]
      · rw [upd2_off (by omega), upd2_off (by omega)]; exact h50
    rw [e10, pk_sub (by omega), li_2]
    simp (disch := omega) only [nI_leI]
    refine ⟨fun q => ?_, fun q => ?_⟩
    · refine go _ ?_
      rw [h12, nmV_2 a _ q, show tz - (r + 1) - a + 1 = tz - r - a by omega]
    · refine c8_here _ (tz - (r + 1)) M _ ho hS (by omega) (fun _ => ?_) (fun z => by omega)
      refine go _ ?_
      have := nmV_s (tp := tp) a (tz - (r + 1) - a) (by omega) (by rw [show a + (tz - (r + 1) - a) = tz - (r + 1) by omega]; exact f48)
      rw [show a + (tz - (r + 1) - a) = tz - (r + 1) by omega, show tz - (r + 1) - a + 1 = tz - r - a by omega] at this
      rw [h12, this]
theorem c8_num (d a lo hi told : Nat) (M : Mm) (R : Int32 → Mm → Prop) (ho : tpOK tp tz) (hlo : lo ≤ 9) (hhi : hi ≤ 9) (htd : told < 2 ^ 30) (ha : a ≤ tz) (hS : uS tp tz Mo M a)
    (hF1 : ¬ (fgL tp tz (tz - a) = 1 ∨ fgL tp tz (tz - a) = 2) → uF Mo R 1 a) (hF2 : (fgL tp tz (tz - a) = 1 ∨ fgL tp tz (tz - a) = 2) → ¬ (lo ≤ nmV tp a (fgL tp tz (tz - a)) ∧ nmV tp a (fgL tp tz (tz - a)) ≤ hi ∧ told.testBit (nmV tp a (fgL tp tz (tz - a))) = false) → uF Mo R 2 a) (hy : (fgL tp tz (tz - a) = 1 ∨ fgL tp tz (tz - a) = 2) → (lo ≤ nmV tp a (fgL tp tz (tz - a)) ∧ nmV tp a (fgL tp tz (tz - a)) ≤ hi ∧ told.testBit (nmV tp a (fgL tp tz (tz - a))) = false) → ∀ M', uS tp tz Mo M' (a + fgL tp tz (tz - a)) → M' 49 12 = nI (nmV tp a (fgL tp tz (tz - a))) → M' 50 = M 50 → R 1 M') : kX8_takesNumber (d + 1) (nI lo) (nI hi) (nI told) M R := by
  apply rX8_takesNumber
  rintro M1 rfl
  rw [hS.2.2.2.1]
  have fl := fgL_le tp tz (tz - a)
  refine c8_nmL d a lo hi told M R ho hlo hhi htd (fgL tp tz (tz - a)) (by omega) rfl (fun z => nm_99 ho ha z) hF1 hF2 hy (tz - a) _ (Nat.le_refl _) (by omega) ?_ ?_ (upd2_off (by omega))
  · rw [show tz - (tz - a) = a by omega]; exact uS_49 12 0 (by omega) hS
  · rw [show tz - (tz - a) - a = 0 by omega, upd2_at]; rfl
end
