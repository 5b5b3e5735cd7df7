/-! SAINTS: the tape read -/
def kdO (c : Nat) : Nat := if c = 103 then 1 else if c = 115 then 2 else if c = 112 then 3 else if c = 104 then 4 else if c = 111 then 5 else 0
def figB (c : Nat) : Bool := decide (48 ≤ c) && decide (c ≤ 57)
def fgL (tp : Nat → Nat) (tz : Nat) : Nat → Nat
  | 0 => 0
  | r + 1 => if figB (tp (tz - (r + 1))) then fgL tp tz r + 1 else 0
def nmV (tp : Nat → Nat) (at_ L : Nat) : Nat := if L = 0 then 0 else if L = 1 then tp at_ - 48 else 10 * (tp at_ - 48) + (tp (at_ + 1) - 48)
def hasT (th : Nat → Nat) (v : Nat) : Nat → Bool
  | 0 => false
  | n + 1 => decide (th n = v) || hasT th v n
def updN (f : Nat → Nat) (i x : Nat) : Nat → Nat := fun k => if k = i then x else f k
abbrev ResT := (Nat × Nat) ⊕ (Nat × (Nat → Nat) × (Nat → Nat))
def psS (tp : Nat → Nat) (tz : Nat) : Nat → Nat → Nat → (Nat → Nat) → (Nat → Nat) → ResT
  | 0, at_, _, _, _ => .inl (1, at_)
  | f + 1, at_, n, kd, th =>
    if tz ≤ at_ then (if 2 ≤ n then .inr (n, kd, th) else .inl (1, at_))
    else if kdO (tp at_) = 0 then .inl (1, at_)
    else if n = 7 then .inl (3, at_)
    else if ¬ (fgL tp tz (tz - (at_ + 1)) = 1 ∨ fgL tp tz (tz - (at_ + 1)) = 2) then .inl (1, at_ + 1)
    else if 9 < nmV tp (at_ + 1) (fgL tp tz (tz - (at_ + 1))) ∨ (nmV tp (at_ + 1) (fgL tp tz (tz - (at_ + 1))) ≠ 0 ∧ hasT th (nmV tp (at_ + 1) (fgL tp tz (tz - (at_ + 1)))) n = true) then .inl (2, at_ + 1)
    else if ¬ (at_ + 1 + fgL tp tz (tz - (at_ + 1)) < tz ∧ tp (at_ + 1 + fgL tp tz (tz - (at_ + 1))) = 59) then .inl (1, at_ + 1 + fgL tp tz (tz - (at_ + 1)))
    else psS tp tz f (at_ + 1 + fgL tp tz (tz - (at_ + 1)) + 1) (n + 1) (updN kd n (kdO (tp at_))) (updN th n (nmV tp (at_ + 1) (fgL tp tz (tz - (at_ + 1)))))
theorem fgL_le (tp : Nat → Nat) (tz : Nat) : ∀ r, fgL tp tz r ≤ r
  | 0 => Nat.le_refl _
  | r + 1 => by
    have := fgL_le tp tz r
    rw [fgL]
    split <;> omega
theorem fgL_fig (tp : Nat → Nat) (tz : Nat) : ∀ r i, r ≤ tz → i < fgL tp tz r → figB (tp (tz - r + i)) = true
  | 0, i, _, h => by rw [fgL] at h; omega
  | r + 1, i, hr, h => by
    rw [fgL] at h
    by_cases c : figB (tp (tz - (r + 1))) = true
    · rw [if_pos c] at h
      cases i with
      | zero => exact c
      | succ i =>
        have := fgL_fig tp tz r i (by omega) (by omega)
        rw [show tz - (r + 1) + (i + 1) = tz - r + i by omega]
        exact this
    · rw [if_neg c] at h; omega
theorem fgL_0 {tp : Nat → Nat} {tz : Nat} {r : Nat} (hr : 0 < r) : fgL tp tz r = 0 ↔ figB (tp (tz - r)) = false := by
  cases r with
  | zero => omega
  | succ r =>
    rw [fgL]
    by_cases c : figB (tp (tz - (r + 1))) = true
    · rw [if_pos c, c]
      exact ⟨fun z => by omega, fun z => absurd z (by decide)⟩
    · rw [if_neg c, Bool.eq_false_iff.mpr c]
      exact ⟨fun _ => rfl, fun _ => rfl⟩
theorem fig_iff {c : Nat} : figB c = true ↔ 48 ≤ c ∧ c ≤ 57 := by
  unfold figB
  rw [Bool.and_eq_true, decide_eq_true_eq, decide_eq_true_eq]
/-- the tape as it stands -/
def tpOK (tp : Nat → Nat) (tz : Nat) : Prop := tz ≤ 50 ∧ ∀ i, i < tz → tp i < 256
def TpC (M : Mm) (tp : Nat → Nat) (tz : Nat) : Prop := M 18 3 = nI tz ∧ ∀ i, i < tz → M 19 i = nI (tp i)
theorem c6_fig (d i tz : Nat) (tp : Nat → Nat) (M : Mm) (Q : Int32 → Mm → Prop) (ho : tpOK tp tz) (hT : TpC M tp tz) (hi : i < tz) (h : Q (if figB (tp i) then 1 else 0) M) : kX6_isFigure d (nI i) M Q := by
  apply rX6_isFigure
  have b := ho.2 i hi
  have t50 := ho.1
  rw [nI_clamp (by omega), hT.2 i hi, li_48, li_57]
  simp (disch := omega) only [nI_ltI]
  refine ⟨vp_in_nI (by omega) (by omega), fun q => ?_, fun q => ⟨vp_in_nI (by omega) (by omega), fun q2 => ?_, fun q2 => ?_⟩⟩
  · rw [if_neg (fun z => by have := fig_iff.mp z; omega)] at h; exact h
  · rw [if_neg (fun z => by have := fig_iff.mp z; omega)] at h; exact h
  · rw [if_pos (fig_iff.mpr (by omega))] at h; exact h
theorem c6_tl2 (d a tz : Nat) (tp : Nat → Nat) (M : Mm) (Q : Int32 → Mm → Prop) (ho : tpOK tp tz) (hT : TpC M tp tz) : ∀ r, r ≤ tz → BX6_tokenLength (d + 1) 24 [(1, .int (nI a)), (2, .int (nI (tz - r + fgL tp tz r)))] [] M Q → BX6_tokenLength (d + 1) 2 [(0, .ref 18), (1, .int (nI a)), (2, .int (nI (tz - r)))] [] M Q
  | 0, _, h => by
    have t50 := ho.1
    apply rX6_tokenLength_2
    rw [hT.1]
    exact ⟨fun _ => h, fun q => absurd (nI_le (by omega) (by omega)) q⟩
  | r + 1, hr, h => by
    have t50 := ho.1
    apply rX6_tokenLength_2
    rw [hT.1]
    refine ⟨fun q => absurd q (nI_ge (by omega) (by omega)), fun _ => c6_fig d (tz - (r + 1)) tz tp M _ ho hT (by omega) ?_⟩
    rw [fgL] at h
    by_cases c : figB (tp (tz - (r + 1))) = true
    · rw [if_pos c]
      rw [if_pos c, show tz - (r + 1) + (fgL tp tz r + 1) = tz - r + fgL tp tz r by omega] at h
      refine ⟨fun q => absurd q (by decide), fun _ => ?_⟩
      rw [nI_1, show tz - (r + 1) + 1 = tz - r by omega]
      exact c6_tl2 d a tz tp M Q ho hT r (by omega) h
    · rw [if_neg c]
      rw [if_neg c] at h
      exact ⟨fun _ => h, fun q => absurd rfl q⟩
def tkL (tp : Nat → Nat) (tz at_ : Nat) : Nat := if fgL tp tz (tz - at_) = 0 then 1 else fgL tp tz (tz - at_)
theorem c6_tokenLength (d a tz : Nat) (tp : Nat → Nat) (M : Mm) (Q : Int32 → Mm → Prop) (ho : tpOK tp tz) (hT : TpC M tp tz) (ha : a < tz) (h : Q (nI (tkL tp tz a)) M) : kX6_tokenLength (d + 1) (nI a) M Q := by
  have t50 := ho.1
  apply rX6_tokenLength
  have := c6_tl2 d a tz tp M Q ho hT (tz - a) (by omega) ?_
  · rw [show tz - (tz - a) = a by omega] at this
    exact this
  · apply rX6_tokenLength_24
    have fl := fgL_le tp tz (tz - a)
    rw [show tz - (tz - a) = a by omega, pk_sub (by omega), show a + fgL tp tz (tz - a) - a = fgL tp tz (tz - a) by omega]
    unfold imax
    rw [li_1]
    simp (disch := omega) only [nI_ltI]
    unfold tkL at h
    by_cases c : 1 < fgL tp tz (tz - a)
    · rw [if_pos c]
      rw [if_neg (by omega)] at h
      exact h
    · rw [if_neg c]
      by_cases c2 : fgL tp tz (tz - a) = 0
      · rw [if_pos c2] at h; exact h
      · rw [if_neg c2, show fgL tp tz (tz - a) = 1 by omega] at h; exact h
theorem c6_isNumber (d a tz : Nat) (tp : Nat → Nat) (M : Mm) (Q : Int32 → Mm → Prop) (ho : tpOK tp tz) (hT : TpC M tp tz) (ha : a < tz) (h : Q (if fgL tp tz (tz - a) = 1 ∨ fgL tp tz (tz - a) = 2 then 1 else 0) M) : kX6_isNumber (d + 1) (nI a) (nI (tkL tp tz a)) M Q := by
  have t50 := ho.1
  apply rX6_isNumber
  refine c6_fig d a tz tp M _ ho hT ha ?_
  have f0 := fgL_0 (tp := tp) (tz := tz) (r := tz - a) (by omega)
  have fl := fgL_le tp tz (tz - a)
  rw [show tz - (tz - a) = a by omega] at f0
  by_cases c : figB (tp a) = true
  · rw [if_pos c]
    have nz : ¬ fgL tp tz (tz - a) = 0 := fun z => by rw [f0.mp z] at c; exact absurd c (by decide)
    refine ⟨fun q => absurd q (by decide), fun _ => ?_⟩
    unfold tkL
    rw [if_neg nz, li_2]
    simp (disch := omega) only [nI_ltI]
    refine ⟨fun q => ?_, fun q => ?_⟩
    · rw [if_neg (by omega)] at h; exact h
    · rw [if_pos (by omega)] at h; exact h
  · rw [if_neg c]
    have z := f0.mpr (Bool.eq_false_iff.mpr c)
    rw [if_neg (by omega)] at h
    exact ⟨fun _ => h, fun q => absurd rfl q⟩
theorem dig (x c : Nat) (h : 48 ≤ c) : ((10 : Int32) * nI x + nI c) - 48 = nI (10 * x + (c - 48)) := by
  rw [li_10, li_48, pk_mul, nI_add, pk_sub (by omega)]
  congr 1
  omega
theorem c6_numberAt (d a tz : Nat) (tp : Nat → Nat) (M : Mm) (Q : Int32 → Mm → Prop) (ho : tpOK tp tz) (hT : TpC M tp tz) (ha : a < tz) (hL : fgL tp tz (tz - a) = 1 ∨ fgL tp tz (tz - a) = 2) (h : Q (nI (nmV tp a (fgL tp tz (tz - a)))) M) : kX6_numberAt d (nI a) (nI (tkL tp tz a)) M Q := by
  have t50 := ho.1
  have fl := fgL_le tp tz (tz - a)
  have ff := fgL_fig tp tz (tz - a)
  have f0 := fig_iff.mp (ff 0 (by omega) (by omega))
  rw [show tz - (tz - a) + 0 = a by omega] at f0
  have e2 : tkL tp tz a = fgL tp tz (tz - a) := by unfold tkL; rw [if_neg (by omega)]
  rw [e2]
  unfold nmV at h
  rw [if_neg (by omega)] at h
  apply rX6_numberAt
  apply rX6_numberAt_5
  have s0 : nI a + (0 : Int32) = nI a := by rw [li_0, nI_add]; rfl
  have d0 : ((10 : Int32) * 0 + nI (tp a)) - 48 = nI (tp a - 48) := by
    have := dig 0 (tp a) f0.1
    rw [show 10 * 0 + (tp a - 48) = tp a - 48 by omega] at this
    exact this
  refine ⟨fun q => absurd q (by rw [li_0]; exact nI_ge (by omega) (by omega)), fun _ => ?_⟩
  rw [s0, nI_clamp (by omega), hT.2 a ha, d0, show (0 : Int32) + 1 = nI 1 from rfl]
  refine ⟨vp_in_nI (by omega) (by omega), ?_⟩
  apply rX6_numberAt_5
  rcases hL with hL | hL
  · rw [hL] at h ⊢
    rw [if_pos rfl] at h
    exact ⟨fun _ => h, fun q => absurd (nI_le (by omega) (by omega)) q⟩
  · rw [hL] at h ⊢
    rw [if_neg (by omega)] at h
    have f1 := fig_iff.mp (ff 1 (by omega) (by omega))
    rw [show tz - (tz - a) + 1 = a + 1 by omega] at f1
    refine ⟨fun q => absurd q (nI_ge (by omega) (by omega)), fun _ => ?_⟩
    rw [nI_add, nI_clamp (by omega), hT.2 (a + 1) (by omega), dig _ _ f1.1, show nI 1 + 1 = nI 2 from rfl]
    refine ⟨vp_in_nI (by omega) (by omega), ?_⟩
    apply rX6_numberAt_5
    exact ⟨fun _ => h, fun q => absurd (nI_le (by omega) (by omega)) q⟩
/-- the index of a letter -/
theorem c16 : ∀ c, c < 256 → ((nI c).toUInt32 % 65536).toInt32 = nI c := by decide +kernel
theorem lt0 : ∀ c, c < 256 → ((103 : Int32) = (nI c).toInt8.toInt32 ↔ c = 103) := by decide +kernel
theorem lt1 : ∀ c, c < 256 → ((115 : Int32) = (nI c).toInt8.toInt32 ↔ c = 115) := by decide +kernel
theorem lt2 : ∀ c, c < 256 → ((112 : Int32) = (nI c).toInt8.toInt32 ↔ c = 112) := by decide +kernel
theorem lt3 : ∀ c, c < 256 → ((104 : Int32) = (nI c).toInt8.toInt32 ↔ c = 104) := by decide +kernel
theorem lt4 : ∀ c, c < 256 → ((111 : Int32) = (nI c).toInt8.toInt32 ↔ c = 111) := by decide +kernel
theorem cJ_ix (d c : Nat) (M : Mm) (Q : Int32 → Mm → Prop) (hc : c < 256) (h : Q (nI (kdO c) - 1) M) : BJ1_indexOfChar_4cfef d 7 [(0, .ref 1005), (3, .int 5), (4, .int (nI c).toInt8.toInt32), (5, .int 0)] [] M Q := by
  have g := h
  unfold kdO at g
  have st : ∀ (i : Nat) (x : Int32) (v : Nat), i < 5 → ([103, 115, 112, 104, 111] : List Int32).getD i 0 = x → (x = (nI c).toInt8.toInt32 ↔ c = v) → (c = v → Q (nI i) M) → (c ≠ v → BJ1_indexOfChar_4cfef d 7 [(0, .ref 1005), (3, .int 5), (4, .int (nI c).toInt8.toInt32), (5, .int (nI (i + 1)))] [] M Q) → BJ1_indexOfChar_4cfef d 7 [(0, .ref 1005), (3, .int 5), (4, .int (nI c).toInt8.toInt32), (5, .int (nI i))] [] M Q := by
    intro i x v hi ex iff y n
    apply rJ1_indexOfChar_4cfef_7
    rw [nI_clamp (by omega), ex, iff, nI_1]
    exact ⟨fun q => absurd q (by rw [li_5]; exact nI_ge hi (by omega)), fun _ => ⟨vp_in_nI hi (by omega), fun q => n q, fun q => y q⟩⟩
  refine st 0 _ 103 (by omega) rfl (lt0 c hc) (fun z => by rw [if_pos z] at g; exact g) (fun z => ?_)
  rw [if_neg z] at g
  refine st 1 _ 115 (by omega) rfl (lt1 c hc) (fun z => by rw [if_pos z] at g; exact g) (fun z => ?_)
  rw [if_neg z] at g
  refine st 2 _ 112 (by omega) rfl (lt2 c hc) (fun z => by rw [if_pos z] at g; exact g) (fun z => ?_)
  rw [if_neg z] at g
  refine st 3 _ 104 (by omega) rfl (lt3 c hc) (fun z => by rw [if_pos z] at g; exact g) (fun z => ?_)
  rw [if_neg z] at g
  refine st 4 _ 111 (by omega) rfl (lt4 c hc) (fun z => by rw [if_pos z] at g; exact g) (fun z => ?_)
  rw [if_neg z] at g
  apply rJ1_indexOfChar_4cfef_7
  exact ⟨fun _ => g, fun q => absurd (by decide) q⟩
theorem cJ_indexOf (d c : Nat) (M : Mm) (Q : Int32 → Mm → Prop) (hc : c < 256) (h : Q (nI (kdO c) - 1) M) : kJ0_indexOf_0f7a4 (d + 3) (nI c) M Q := by
  apply rJ0_indexOf_0f7a4
  apply rJ0_indexOf_7cf53
  apply rJ0_isLatin1_aae02
  refine ⟨fun q => absurd q (by decide), fun _ => ⟨fun q => absurd rfl q, fun _ => ⟨fun q => absurd q (by decide), fun _ => ?_⟩⟩⟩
  apply rJ0_length_8abf5
  apply rJ0_coder_7d493
  refine ⟨fun q => absurd q (by decide), fun _ => ⟨rfl, ?_⟩⟩
  apply rJ1_indexOf_4cfef
  apply rJ1_canEncode_9a6ad
  refine ⟨fun q => absurd q (nI_pos (by omega)), fun _ => ⟨fun q => absurd q (by rw [li_255]; exact nI_nlt (by omega) (by omega)), fun _ => ⟨fun _ => ⟨fun _ => ?_, fun q => absurd (by decide) q⟩, fun q => absurd q (by decide)⟩⟩⟩
  apply rJ1_indexOfChar_4cfef
  exact cJ_ix _ c M Q hc h
