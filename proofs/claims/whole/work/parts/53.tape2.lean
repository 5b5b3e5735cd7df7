/-! SAINTS: the class reads -/
def frT (M M' : Mm) : Prop := ∀ q, q ≠ 18 → q ≠ 20 → q ≠ 21 → q ≠ 22 → M' q = M q
theorem frT_rf {M : Mm} : frT M M := fun _ _ _ _ _ => rfl
section
variable {tp : Nat → Nat} {tz : Nat} {Mo : Mm} {Q : Int32 → Mm → Prop}
def pFl (Mo : Mm) (Q : Int32 → Mm → Prop) (w pl : Nat) : Prop := ∀ M', frT Mo M' → M' 18 3 = 0 → M' 18 4 = nI w → M' 20 3 = 0 → Q (nI pl) M'
def pOk (Mo : Mm) (Q : Int32 → Mm → Prop) (ngt n : Nat) (kd th : Nat → Nat) : Prop := ∀ M', frT Mo M' → M' 18 3 = 0 → M' 18 4 = Mo 18 4 → RgC M' 20 n kd th 0 ngt → Q (-1) M'
/-- what stands while it reads -/
def rS (tp : Nat → Nat) (tz : Nat) (Mo M : Mm) (stg : Nat) : Prop := frT Mo M ∧ TpC M tp tz ∧ M 18 2 = nI stg ∧ M 18 4 = Mo 18 4 ∧ M 20 3 = 0
theorem c6_fl (d w pl : Nat) {stg : Nat} (M : Mm) (hS : rS tp tz Mo M stg) (h : pFl Mo Q w pl) : kX6_fail d (nI w) (nI pl) M (fun r M => Q r M) := by
  apply rX6_fail
  rintro M1 rfl M2 rfl
  refine h _ (fun q a b c e => ?_) ?_ upd2_at ?_
  · rw [upd2_off a, upd2_off a]; exact hS.1 q a b c e
  · rw [upd2_row (by omega), upd2_at]
  · rw [upd2_off (by omega), upd2_off (by omega)]; exact hS.2.2.2.2
theorem c6_tok (d a tok : Nat) (M : Mm) {stg : Nat} (ho : tpOK tp tz) (hS : rS tp tz Mo M stg) (ha : a < tz) (ht : tok ≤ a) (h : kX6_take (d + 1) (nI a) (nI (tkL tp tz a)) M (fun r2 M2 => ((r2 = 0 → BX6_read (d + 2) 22 [(0, .ref 18), (1, .int (nI tz)), (2, .int (nI (a + tkL tp tz a))), (3, .int (nI (tok + 1)))] [] M2 Q) ∧ (¬ r2 = 0 → kX6_fail (d + 1) r2 (nI a) M2 (fun r3 M3 => Q r3 M3))))) : BX6_read (d + 2) 22 [(0, .ref 18), (1, .int (nI tz)), (2, .int (nI a)), (3, .int (nI tok))] [] M Q := by
  have t50 := ho.1
  apply rX6_read_22
  refine ⟨fun q => absurd q (by rw [li_50]; exact nI_ge (by omega) (by omega)), fun _ => ⟨fun q => absurd q (nI_ge ha (by omega)), fun _ => ?_⟩⟩
  refine c6_tokenLength _ a tz tp M _ ho hS.2.1 ha ?_
  rw [nI_add, nI_1]
  exact h
theorem c6_end (d tok : Nat) (M : Mm) {stg : Nat} (ho : tpOK tp tz) (hS : rS tp tz Mo M stg) (hs : stg < 5) (ht : tok ≤ tz) (h : BX6_read (d + 1) 73 [(0, .ref 18), (1, .int (nI tz))] [] M Q) : BX6_read (d + 1) 22 [(0, .ref 18), (1, .int (nI tz)), (2, .int (nI tz)), (3, .int (nI tok))] [] M Q := by
  have t50 := ho.1
  apply rX6_read_22
  exact ⟨fun _ => h, fun _ => ⟨fun _ => h, fun q => absurd (nI_le (by omega) (by omega)) q⟩⟩
theorem c6_endF (d tok : Nat) (M : Mm) {stg : Nat} (ho : tpOK tp tz) (hS : rS tp tz Mo M stg) (hs : stg < 5) (h3 : stg ≠ 3) (ht : tok ≤ tz) (h : pFl Mo Q 1 tz) : BX6_read (d + 1) 22 [(0, .ref 18), (1, .int (nI tz)), (2, .int (nI tz)), (3, .int (nI tok))] [] M Q := by
  refine c6_end d tok M ho hS hs ht ?_
  apply rX6_read_73
  rw [hS.2.2.1, li_3]
  simp (disch := omega) only [nI_eq]
  refine ⟨fun _ => ?_, fun q => absurd q h3⟩
  apply rX6_read_92
  exact c6_fl d 1 tz M hS h
theorem rS_stg {M : Mm} {stg : Nat} (s' : Nat) (hS : rS tp tz Mo M stg) : rS tp tz Mo (upd2 M 18 2 (nI s')) s' := by
  obtain ⟨h1, h2, h3, h4, h5⟩ := hS
  refine ⟨fun q a b c e => by rw [upd2_off a]; exact h1 q a b c e, ⟨by rw [upd2_row (by omega)]; exact h2.1, fun i hi => by rw [upd2_off (by omega)]; exact h2.2 i hi⟩, upd2_at, by rw [upd2_row (by omega)]; exact h4, by rw [upd2_off (by omega)]; exact h5⟩
theorem rS_dr {M : Mm} {stg : Nat} (o i : Nat) (x : Int32) (ho : (o = 20 ∧ i ≠ 3) ∨ o = 21 ∨ o = 22) (hS : rS tp tz Mo M stg) : rS tp tz Mo (upd2 M o i x) stg := by
  obtain ⟨h1, h2, h3, h4, h5⟩ := hS
  refine ⟨fun q a b c e => by rw [upd2_off (by omega)]; exact h1 q a b c e, ⟨by rw [upd2_off (by omega)]; exact h2.1, fun i hi => by rw [upd2_off (by omega)]; exact h2.2 i hi⟩, by rw [upd2_off (by omega)]; exact h3, by rw [upd2_off (by omega)]; exact h4, ?_⟩
  rcases ho with ⟨rfl, hi⟩ | rfl | rfl
  · rw [upd2_row (by omega)]; exact h5
  · rw [upd2_off (by omega)]; exact h5
  · rw [upd2_off (by omega)]; exact h5
/-- a sign -/
theorem c6_sign (d a c s' : Nat) (M : Mm) {stg : Nat} (R : Int32 → Mm → Prop) (ho : tpOK tp tz) (hS : rS tp tz Mo M stg) (ha : a < tz) (hc : c < 256) (hy : tp a = c → R 0 (upd2 M 18 2 (nI s'))) (hn : tp a ≠ c → R 1 M) : kX6_takeSign d (nI a) (nI c) (nI s') M R := by
  have t50 := ho.1
  have b := ho.2 a ha
  apply rX6_takeSign
  rw [nI_clamp (by omega), hS.2.1.2 a ha]
  simp (disch := omega) only [nI_eq]
  refine ⟨vp_in_nI (by omega) (by omega), fun q => ?_, fun q => hn q⟩
  rintro M1 rfl
  exact hy q
theorem tk_1 {a : Nat} (ha : a < tz) (h : figB (tp a) = false) : tkL tp tz a = 1 := by
  unfold tkL
  rw [if_pos]
  rw [fgL_0 (by omega), show tz - (tz - a) = a by omega]
  exact h
theorem tk_n {a : Nat} (h : fgL tp tz (tz - a) = 1 ∨ fgL tp tz (tz - a) = 2) : tkL tp tz a = fgL tp tz (tz - a) := by
  unfold tkL
  rw [if_neg (by omega)]
theorem sig_fin (d a tok : Nat) (M : Mm) (ho : tpOK tp tz) (hS : rS tp tz Mo M 2) (ha : a ≤ tz) (ht : tok ≤ a) (hy : a < tz ∧ tp a = 59 → BX6_read (d + 3) 22 [(0, .ref 18), (1, .int (nI tz)), (2, .int (nI (a + 1))), (3, .int (nI (tok + 1)))] [] (upd2 M 18 2 (nI 3)) Q) (hn : ¬ (a < tz ∧ tp a = 59) → pFl Mo Q 1 a) : BX6_read (d + 3) 22 [(0, .ref 18), (1, .int (nI tz)), (2, .int (nI a)), (3, .int (nI tok))] [] M Q := by
  rcases Nat.lt_or_ge a tz with h | h
  · refine c6_tok (d + 1) a tok M ho hS h ht ?_
    apply rX6_take
    rw [hS.2.2.1]
    refine ⟨fun q => absurd q (by decide), fun q => absurd q (by decide), fun _ => ?_, fun q => absurd q (by decide), fun q => absurd rfl q.2.2.1⟩
    refine c6_sign _ a 59 3 M _ ho hS h (by omega) (fun z => ⟨fun _ => ?_, fun q => absurd rfl q⟩) (fun z => ⟨fun q => absurd q (by decide), fun _ => ?_⟩)
    · rw [tk_1 h (by rw [z]; decide)]
      exact hy ⟨h, z⟩
    · exact c6_fl _ 1 a M hS (hn (fun w => z w.2))
  · have e : a = tz := by omega
    subst e
    exact c6_endF _ tok M ho hS (by omega) (by omega) ht (hn (fun w => by omega))
end
theorem whoR_hasT {n v : Nat} {th : Nat → Nat} (h7 : n ≤ 7) : ∀ k, k ≤ n → (whoR n th v k = -1000000 ↔ ∀ i, n - k ≤ i → i < n → th i ≠ v)
  | 0, _ => ⟨fun _ i h1 h2 => by omega, fun _ => rfl⟩
  | k + 1, hk => by
    rw [whoR]
    by_cases c : th (n - (k + 1)) = v
    · rw [if_pos c]
      refine ⟨fun z => ?_, fun z => absurd c (z _ (by omega) (by omega))⟩
      have e : (nI (n - (k + 1))).toInt = ((n - (k + 1) : Nat) : Int) := nI_toInt (by omega)
      rw [z] at e
      have e2 : (-1000000 : Int32).toInt = -1000000 := rfl
      omega
    · rw [if_neg c, whoR_hasT h7 k (by omega)]
      refine ⟨fun z i h1 h2 => ?_, fun z i h1 h2 => z i (by omega) h2⟩
      by_cases e : i = n - (k + 1)
      · rw [e]; exact c
      · exact z i (by omega) h2
theorem hasT_iff {v : Nat} {th : Nat → Nat} : ∀ n, hasT th v n = true ↔ ∃ i, i < n ∧ th i = v
  | 0 => ⟨fun h => absurd h (by rw [hasT]; decide), fun ⟨i, h, _⟩ => by omega⟩
  | n + 1 => by
    rw [hasT, Bool.or_eq_true, hasT_iff n, decide_eq_true_eq]
    constructor
    · rintro (h | ⟨i, h1, h2⟩)
      · exact ⟨n, by omega, h⟩
      · exact ⟨i, by omega, h2⟩
    · rintro ⟨i, h1, h2⟩
      by_cases e : i = n
      · subst e; exact Or.inl h2
      · exact Or.inr ⟨i, by omega, h2⟩
theorem updN_o {f : Nat → Nat} {i x k : Nat} (h : k ≠ i) : updN f i x k = f k := by unfold updN; rw [if_neg h]
theorem updN_a {f : Nat → Nat} {i x : Nat} : updN f i x i = x := by unfold updN; rw [if_pos rfl]
theorem okT_up {n v : Nat} {th : Nat → Nat} (h : okT n th) (hv : v ≤ 9) : okT (n + 1) (updN th n v) := by
  intro i hi
  by_cases e : i = n
  · rw [e, updN_a]; exact hv
  · rw [updN_o e]; exact h i (by omega)
theorem kdO_le (c : Nat) : kdO c ≤ 5 := by
  unfold kdO
  repeat' split
  all_goals omega
theorem nm_99 {tp : Nat → Nat} {tz a : Nat} (ho : tpOK tp tz) (ha : a ≤ tz) (hL : fgL tp tz (tz - a) = 1 ∨ fgL tp tz (tz - a) = 2) : nmV tp a (fgL tp tz (tz - a)) ≤ 99 := by
  have fl := fgL_le tp tz (tz - a)
  have ff := fgL_fig tp tz (tz - a)
  have f0 := fig_iff.mp (ff 0 (by omega) (by omega))
  rw [show tz - (tz - a) + 0 = a by omega] at f0
  unfold nmV
  rw [if_neg (by omega)]
  by_cases c : fgL tp tz (tz - a) = 1
  · rw [if_pos c]; omega
  · rw [if_neg c]
    have f1 := fig_iff.mp (ff 1 (by omega) (by omega))
    rw [show tz - (tz - a) + 1 = a + 1 by omega] at f1
    omega
theorem kd_fig {c : Nat} (h : kdO c ≠ 0) : figB c = false := by
  cases e : figB c with
  | false => rfl
  | true =>
    have := fig_iff.mp e
    exfalso
    apply h
    unfold kdO
    rw [if_neg (by omega), if_neg (by omega), if_neg (by omega), if_neg (by omega), if_neg (by omega)]
theorem c6_loop (d tz ngt : Nat) (tp : Nat → Nat) (Mo : Mm) (Q : Int32 → Mm → Prop) (ho : tpOK tp tz) : ∀ (f a n : Nat) (kd th : Nat → Nat) (tok : Nat) (M : Mm), n + f = 8 → 1 ≤ f → tok ≤ a → a ≤ tz → rS tp tz Mo M 3 → RgC M 20 n kd th 0 ngt → okT n th → (match psS tp tz f a n kd th with | .inl (w, pl) => pFl Mo Q w pl | .inr (n', kd', th') => pOk Mo Q ngt n' kd' th') → BX6_read (d + 6) 22 [(0, .ref 18), (1, .int (nI tz)), (2, .int (nI a)), (3, .int (nI tok))] [] M Q
  | 0, a, n, kd, th, tok, M, e8, hf, htk, ha, hS, hR, hT, h => by omega
  | f + 1, a, n, kd, th, tok, M, e8, hf, htk, ha, hS, hR, hT, h => by
    have t50 := ho.1
    have h7 : n ≤ 7 := by omega
    rw [psS] at h
    rcases Nat.lt_or_ge a tz with c1 | c1
    case inr =>
      have ea : a = tz := by omega
      subst ea
      rw [if_pos (Nat.le_refl _)] at h
      refine c6_end _ tok M ho hS (by omega) htk ?_
      apply rX6_read_73
      rw [hS.2.2.1, hR.1, li_2]
      simp (disch := omega) only [nI_leI]
      refine ⟨fun q => absurd rfl q, fun _ => ⟨fun q => ?_, fun q => ?_⟩⟩
      · rw [if_pos q] at h
        rintro M1 rfl
        refine h _ (fun q a b c e => by rw [upd2_off a]; exact hS.1 q a b c e) upd2_at (by rw [upd2_row (by omega)]; exact hS.2.2.2.1) (RgC_c hR (upd2_off (by omega)) (upd2_off (by omega)) (upd2_off (by omega)))
      · rw [if_neg q] at h
        apply rX6_read_92
        exact c6_fl _ 1 a M hS h
    rw [if_neg (by omega)] at h
    have bt := ho.2 a c1
    refine c6_tok (d + 4) a tok M ho hS c1 htk ?_
    apply rX6_take
    rw [hS.2.2.1]
    refine ⟨fun q => absurd q (by decide), fun q => absurd q (by decide), fun q => absurd q (by decide), fun _ => ?_, fun q => absurd rfl q.2.2.2⟩
    apply rX6_takeSort
    rw [nI_clamp (by omega), hS.2.1.2 a c1, c16 _ bt]
    refine ⟨vp_in_nI (by omega) (by omega), cJ_indexOf d (tp a) M _ bt ?_⟩
    have kl := kdO_le (tp a)
    have ek : nI (kdO (tp a)) - 1 + 1 = nI (kdO (tp a)) := by
      rw [Int32.sub_add_cancel]
    rw [ek, hR.1, li_0, li_7]
    simp (disch := omega) only [nI_eq]
    by_cases c2 : kdO (tp a) = 0
    · rw [if_pos c2] at h
      refine ⟨fun q => absurd c2 q, fun _ => ⟨fun q => absurd q (by decide), fun _ => c6_fl _ 1 a M hS h⟩⟩
    rw [if_neg c2] at h
    refine ⟨fun _ => ?_, fun q => absurd q c2⟩
    by_cases c3 : n = 7
    · rw [if_pos c3] at h
      exact ⟨fun q => absurd c3 q, fun _ => ⟨fun q => absurd q (by decide), fun _ => c6_fl _ 3 a M hS h⟩⟩
    rw [if_neg c3] at h
    refine ⟨fun _ => ⟨vp_in_nI (by omega) (by omega), ?_⟩, fun q => absurd q c3⟩
    rw [nI_clamp (by omega)]
    rintro M2 rfl M3 rfl
    refine ⟨fun _ => ?_, fun q => absurd trivial q⟩
    rw [tk_1 c1 (kd_fig c2)]
    have hS2 : rS tp tz Mo (upd2 (upd2 M 21 n (nI (kdO (tp a)))) 18 2 4) 4 := rS_stg 4 (rS_dr 21 n _ (by omega) hS)
    have o20 : upd2 (upd2 M 21 n (nI (kdO (tp a)))) 18 2 4 20 = M 20 := by rw [upd2_off (by omega), upd2_off (by omega)]
    have o22 : upd2 (upd2 M 21 n (nI (kdO (tp a)))) 18 2 4 22 = M 22 := by rw [upd2_off (by omega), upd2_off (by omega)]
    have o21 : ∀ i, i < n + 1 → upd2 (upd2 M 21 n (nI (kdO (tp a)))) 18 2 4 21 i = nI (updN kd n (kdO (tp a)) i) := fun i hi => by
      rw [upd2_off (by omega), upd2_r]
      unfold updN
      by_cases ci : i = n
      · rw [if_pos ci, if_pos ci]
      · rw [if_neg ci, if_neg ci]; exact hR.2.2.2.1 i (by omega)
    generalize upd2 (upd2 M 21 n (nI (kdO (tp a)))) 18 2 4 = M2 at *
    have hR2 : RgC M2 20 n (updN kd n (kdO (tp a))) th 0 ngt := ⟨by rw [o20]; exact hR.1, by rw [o20]; exact hR.2.1, by rw [o20]; exact hR.2.2.1, fun i hi => o21 i (by omega), fun i hi => by rw [o22]; exact hR.2.2.2.2 i hi⟩
    -- the thing
    by_cases c4 : fgL tp tz (tz - (a + 1)) = 1 ∨ fgL tp tz (tz - (a + 1)) = 2
    case neg =>
      rw [if_pos c4] at h
      rcases Nat.lt_or_ge (a + 1) tz with c5 | c5
      · refine c6_tok (d + 4) (a + 1) (tok + 1) M2 ho hS2 c5 (by omega) ?_
        apply rX6_take
        rw [hS2.2.2.1]
        refine ⟨fun q => absurd q (by decide), fun q => absurd q (by decide), fun q => absurd q (by decide), fun q => absurd q (by decide), fun _ => ?_⟩
        apply rX6_takeThing
        refine c6_isNumber _ (a + 1) tz tp M2 _ ho hS2.2.1 c5 ?_
        rw [if_neg c4]
        exact ⟨fun q => absurd rfl q, fun _ => ⟨fun q => absurd q (by decide), fun _ => c6_fl _ 1 (a + 1) M2 hS2 h⟩⟩
      · have ea : a + 1 = tz := by omega
        rw [ea] at h ⊢
        exact c6_endF _ (tok + 1) M2 ho hS2 (by omega) (by omega) (by omega) h
    rw [if_neg (fun z => z c4)] at h
    have fl := fgL_le tp tz (tz - (a + 1))
    have c5 : a + 1 < tz := by omega
    have v99 := nm_99 ho (show a + 1 ≤ tz by omega) c4
    refine c6_tok (d + 4) (a + 1) (tok + 1) M2 ho hS2 c5 (by omega) ?_
    apply rX6_take
    rw [hS2.2.2.1]
    refine ⟨fun q => absurd q (by decide), fun q => absurd q (by decide), fun q => absurd q (by decide), fun q => absurd q (by decide), fun _ => ?_⟩
    apply rX6_takeThing
    refine c6_isNumber _ (a + 1) tz tp M2 _ ho hS2.2.1 c5 ?_
    rw [if_pos c4]
    refine ⟨fun _ => ?_, fun q => absurd q (by decide)⟩
    refine c6_numberAt _ (a + 1) tz tp M2 _ ho hS2.2.1 c5 c4 ?_
    have wh := whoR_hasT (v := nmV tp (a + 1) (fgL tp tz (tz - (a + 1)))) (th := th) h7 n (Nat.le_refl n)
    have hh := hasT_iff (v := nmV tp (a + 1) (fgL tp tz (tz - (a + 1)))) (th := th) n
    generalize ev : nmV tp (a + 1) (fgL tp tz (tz - (a + 1))) = v at *
    rw [li_9, li_0]
    simp (disch := omega) only [nI_eq, nI_ltI]
    by_cases c6 : 9 < v ∨ v ≠ 0 ∧ hasT th v n = true
    · rw [if_pos c6] at h
      refine ⟨fun _ => ⟨fun q => absurd q (by decide), fun _ => c6_fl _ 2 (a + 1) M2 hS2 h⟩, fun q => ⟨fun q2 => by omega, fun q2 => ?_⟩⟩
      refine c4_whoHas _ 20 rg20 n v _ th 0 ngt M2 _ hR2 hT h7 (by omega) ⟨fun z => ?_, fun _ => ⟨fun q => absurd q (by decide), fun _ => c6_fl _ 2 (a + 1) M2 hS2 h⟩⟩
      exfalso
      rcases c6 with c6 | c6
      · exact q c6
      · obtain ⟨i, i1, i2⟩ := hh.mp c6.2
        exact wh.mp z i (by omega) i1 i2
    rw [if_neg c6] at h
    have v9 : v ≤ 9 := by
      rcases Nat.lt_or_ge 9 v with z | z
      · exact absurd (Or.inl z) c6
      · omega
    have noW : v ≠ 0 → whoR n th v n = -1000000 := fun q => wh.mpr (fun i _ i2 w => c6 (Or.inr ⟨q, hh.mpr ⟨i, i2, w⟩⟩))
    clear wh hh c6
    -- it is laid
    have lay : BX6_takeThing (d + 3 + 1) 43 [(0, .ref 18), (3, .int (nI v))] [] M2 (fun r2 M2 => ((r2 = 0 → BX6_read (d + 4 + 2) 22 [(0, .ref 18), (1, .int (nI tz)), (2, .int (nI (a + 1 + tkL tp tz (a + 1)))), (3, .int (nI (tok + 1 + 1)))] [] M2 Q) ∧ (¬ r2 = 0 → kX6_fail (d + 4 + 1) r2 (nI (a + 1)) M2 (fun r3 M3 => Q r3 M3)))) := by
      apply rX6_takeThing_43
      rw [hR2.1, nI_clamp (by omega)]
      refine ⟨vp_in_nI (by omega) (by omega), ?_⟩
      rintro M3 rfl M4 rfl M5 rfl
      refine ⟨fun _ => ?_, fun q => absurd rfl q⟩
      rw [tk_n c4]
      have e2 : upd2 M2 22 n (nI v) 20 2 = nI n := by rw [upd2_off (by omega)]; exact hR2.1
      rw [e2, nI_1]
      have hS3 : rS tp tz Mo (upd2 (upd2 (upd2 M2 22 n (nI v)) 20 2 (nI (n + 1))) 18 2 2) 2 := rS_stg 2 (rS_dr 20 2 _ (by omega) (rS_dr 22 n _ (by omega) hS2))
      have hR3 : RgC (upd2 (upd2 (upd2 M2 22 n (nI v)) 20 2 (nI (n + 1))) 18 2 2) 20 (n + 1) (updN kd n (kdO (tp a))) (updN th n v) 0 ngt := by
        refine ⟨?_, ?_, ?_, fun i hi => ?_, fun i hi => ?_⟩
        · rw [upd2_off (by omega), upd2_at]
        · rw [upd2_off (by omega), upd2_row (by omega), upd2_off (by omega)]; exact hR2.2.1
        · rw [upd2_off (by omega), upd2_row (by omega), upd2_off (by omega)]; exact hR2.2.2.1
        · rw [upd2_off (by omega), upd2_off (by omega), upd2_off (by omega)]; exact o21 i hi
        · rw [upd2_off (by omega), upd2_off (by omega), upd2_r]
          unfold updN
          by_cases ci : i = n
          · rw [if_pos ci, if_pos ci]
          · rw [if_neg ci, if_neg ci]; exact hR2.2.2.2.2 i (by omega)
      generalize (upd2 (upd2 (upd2 M2 22 n (nI v)) 20 2 (nI (n + 1))) 18 2 2) = M3 at *
      refine sig_fin (d + 3) (a + 1 + fgL tp tz (tz - (a + 1))) (tok + 1 + 1) M3 ho hS3 (by omega) (by omega) (fun c7 => ?_) (fun c7 => ?_)
      · rw [if_neg (fun z => z c7)] at h
        exact c6_loop d tz ngt tp Mo Q ho f _ (n + 1) _ _ (tok + 1 + 1 + 1) _ (by omega) (by omega) (by omega) (by omega) (rS_stg 3 hS3) (RgC_c hR3 (upd2_off (by omega)) (upd2_off (by omega)) (upd2_off (by omega))) (okT_up hT v9) h
      · rw [if_pos c7] at h
        exact h
    refine ⟨fun q => by omega, fun _ => ⟨fun _ => lay, fun q => ?_⟩⟩
    refine c4_whoHas _ 20 rg20 n v _ th 0 ngt M2 _ hR2 hT h7 (by omega) ⟨fun _ => lay, fun z => absurd (noW q) z⟩
