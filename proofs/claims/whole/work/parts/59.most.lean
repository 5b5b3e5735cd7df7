/-! SWAPS: all ways in which the nones can go -/
def wz (th : Nat → Nat) (k : Nat) : Nat → Nat
  | 0 => 0
  | s + 1 => if th s = 0 ∧ fb_ct (zB th) s = k then s else wz th k s
theorem wz_eq {th : Nat → Nat} {s : Nat} (hz : th s = 0) : ∀ m, s < m → wz th (fb_ct (zB th) s) m = s
  | 0, h => by omega
  | m + 1, h => by
    rw [wz]
    by_cases c : th m = 0 ∧ fb_ct (zB th) m = fb_ct (zB th) s
    · rw [if_pos c]
      exact fb_ct_kth_one (zB_iff.mpr c.1) (zB_iff.mpr hz) c.2
    · rw [if_neg c]
      exact wz_eq hz m (by
        rcases Nat.lt_or_ge s m with w | w
        · exact w
        · have : s = m := by omega
          subst this
          exact absurd ⟨hz, rfl⟩ c)
theorem wz_ok {th : Nat → Nat} {n k : Nat} (h : k < fb_ct (zB th) n) : wz th k n < n ∧ th (wz th k n) = 0 ∧ fb_ct (zB th) (wz th k n) = k := by
  obtain ⟨i, h1, h2, h3⟩ := fb_ct_kth h
  have e := wz_eq (zB_iff.mp h2) n h1
  rw [h3] at e
  rw [e]
  exact ⟨h1, zB_iff.mp h2, h3⟩
theorem ct_below {th : Nat → Nat} {n s : Nat} (hs : s < n) (hz : th s = 0) : fb_ct (zB th) s < fb_ct (zB th) n := by
  have h1 := fb_ct_mono (zB th) (show s + 1 ≤ n by omega)
  rw [fb_ct_succ, if_pos (zB_iff.mpr hz)] at h1
  omega
/-- a way -/
def inj (z : Nat) (σ : Nat → Nat) : Prop := (∀ i, i < z → σ i < z) ∧ ∀ i j, i < z → j < z → σ i = σ j → i = j
def toS (n : Nat) (p th σ : Nat → Nat) : Nat → Nat := fun i => if th i = 0 then p (wz th (σ (fb_ct (zB th) i)) n) else p i
theorem toS_pm {n : Nat} {p th σ : Nat → Nat} (hp : pm n p) (hσ : inj (fb_ct (zB th) n) σ) : pm n (toS n p th σ) := by
  refine ⟨fun i hi => ?_, fun i j hi hj e => ?_⟩
  · unfold toS
    split
    · rename_i c
      exact hp.1 _ (wz_ok (hσ.1 _ (ct_below hi c))).1
    · exact hp.1 i hi
  · unfold toS at e
    by_cases ci : th i = 0
    · have wi := wz_ok (hσ.1 _ (ct_below hi ci))
      rw [if_pos ci] at e
      by_cases cj : th j = 0
      · have wj := wz_ok (hσ.1 _ (ct_below hj cj))
        rw [if_pos cj] at e
        have e1 := hp.2 _ _ wi.1 wj.1 e
        have e2 : σ (fb_ct (zB th) i) = σ (fb_ct (zB th) j) := by rw [← wi.2.2, ← wj.2.2, e1]
        have e3 := hσ.2 _ _ (ct_below hi ci) (ct_below hj cj) e2
        exact fb_ct_kth_one (zB_iff.mpr ci) (zB_iff.mpr cj) e3
      · rw [if_neg cj] at e
        have e1 := hp.2 _ _ wi.1 hj e
        exact absurd (by rw [← e1]; exact wi.2.1) cj
    · rw [if_neg ci] at e
      by_cases cj : th j = 0
      · have wj := wz_ok (hσ.1 _ (ct_below hj cj))
        rw [if_pos cj] at e
        have e1 := hp.2 _ _ hi wj.1 e
        exact absurd (by rw [e1]; exact wj.2.1) ci
      · rw [if_neg cj] at e
        exact hp.2 _ _ hi hj e
theorem toS_up {n : Nat} {p th σ : Nat → Nat} (hp : pm n p) (hσ : inj (fb_ct (zB th) n) σ) : ringsN (toS n p th σ) n ≤ cycN p th n + fb_ct (zB th) n :=
  rings_up hp (toS_pm hp hσ) (fun i _ ht => by unfold toS; rw [if_neg ht])
theorem toS_best {n : Nat} {p th : Nat → Nat} (hp : pm n p) : ∃ σ, inj (fb_ct (zB th) n) σ ∧ cycN p th n + fb_ct (zB th) n ≤ ringsN (toS n p th σ) n := by
  obtain ⟨v, h1, h2, h3⟩ := best_to (th := th) hp
  have hσ : inj (fb_ct (zB th) n) (fun k => fb_ct (zB th) (v (wz th k n))) := by
    refine ⟨fun i hi => ?_, fun i j hi hj e => ?_⟩
    · have w := wz_ok hi
      have q := h1 _ w.1 w.2.1
      exact ct_below q.1 q.2
    · have wi := wz_ok hi
      have wj := wz_ok hj
      have qi := h1 _ wi.1 wi.2.1
      have qj := h1 _ wj.1 wj.2.1
      have e1 := fb_ct_kth_one (zB_iff.mpr qi.2) (zB_iff.mpr qj.2) e
      have e2 := h2 _ _ wi.1 wj.1 wi.2.1 wj.2.1 e1
      rw [← wi.2.2, ← wj.2.2, e2]
  refine ⟨_, hσ, rings_low hp (toS_pm hp hσ) (fun i _ ht => by unfold toS; rw [if_neg ht]) (fun a b ha hb za zb ho => ?_)⟩
  refine h3 _ (fun i hi => ?_) a b ha hb za zb ho
  unfold toS
  by_cases c : th i = 0
  · rw [if_pos c, if_pos c]
    dsimp only
    rw [wz_eq c n hi, wz_eq (h1 i hi c).2 n (h1 i hi c).1]
  · rw [if_neg c, if_neg c]
/-- the nones are gathered -/
theorem c8_gath (d n : Nat) (p th kd : Nat → Nat) (stp ngt : Nat) (Q : Int32 → Mm → Prop) (h7 : n ≤ 7) (ht : okT n th) : ∀ (k : Nat) (M : Mm), k ≤ n → RgM M 0 n kd th stp ngt → (∀ i, i < n → M 57 i = nI (p i)) → (∀ x, x < fb_ct (zB th) (n - k) → M 59 x = nI (wz th x n) ∧ M 60 x = nI (p (wz th x n))) → (∀ M', (∀ q, q ≠ 59 → q ≠ 60 → q ≠ 61 → M' q = M q) → (∀ x, x < fb_ct (zB th) n → M' 59 x = nI (wz th x n) ∧ M' 60 x = nI (p (wz th x n))) → M' 61 0 = -1 → BX8_mostRings (d + 1) 64 [(0, .ref 49), (1, .int (nI (fb_ct (zB th) n))), (2, .int 0), (3, .int 0)] [] M' Q) → BX8_mostRings (d + 1) 4 [(0, .ref 49), (1, .int (nI (fb_ct (zB th) (n - k)))), (2, .int (nI (n - k)))] [] M Q
  | 0, M, _, hR, hM, hx, h => by
    apply rX8_mostRings_4
    have e0 : M 50 0 = nI n := hR.1
    rw [clamp0, e0]
    refine ⟨vp_in_nI (n := 0) (by omega) (by omega), fun _ => ⟨vp_in_nI (n := 0) (by omega) (by omega), ?_⟩, fun q => absurd (nI_le (by omega) (by omega)) q⟩
    rintro M1 rfl
    exact h _ (fun q _ _ c => upd2_off c) (fun x hx' => by rw [upd2_off (by omega), upd2_off (by omega)]; exact hx x hx') upd2_at
  | k + 1, M, hk, hR, hM, hx, h => by
    apply rX8_mostRings_4
    have e0 : M 50 0 = nI n := hR.1
    have e : n - (k + 1) + 1 = n - k := by omega
    have et : M 50 (0 + 3 + (n - (k + 1))) = nI (th (n - (k + 1))) := hR.2.2.2.1 (n - (k + 1)) (by omega)
    rw [Nat.zero_add] at et
    have bt := ht (n - (k + 1)) (by omega)
    have es : fb_ct (zB th) (n - k) = fb_ct (zB th) (n - (k + 1)) + (if zB th (n - (k + 1)) then 1 else 0) := by rw [← e, fb_ct_succ]
    have cl := fb_ct_le (zB th) (n - (k + 1))
    rw [clamp0, e0, show (3 : Int32) + nI (n - (k + 1)) = nI (3 + (n - (k + 1))) by rw [li_3, nI_add], nI_clamp (show 3 + (n - (k + 1)) < 2 ^ 31 by omega), et, nI_1, e, nI_1, nI_clamp (show fb_ct (zB th) (n - (k + 1)) < 2 ^ 31 by omega), nI_clamp (show n - (k + 1) < 2 ^ 31 by omega), li_0]
    simp (disch := omega) only [nI_eq]
    refine ⟨vp_in_nI (n := 0) (by omega) (by omega), fun q => absurd q (nI_ge (by omega) (by omega)), fun _ => ⟨vp_in_nI (by omega) (by omega), fun q => ?_, fun q => ⟨vp_in_nI (by omega) (by omega), ?_⟩⟩⟩
    · rw [if_neg (fun z => q (zB_iff.mp z)), Nat.add_zero] at es
      have := c8_gath d n p th kd stp ngt Q h7 ht k M (by omega) hR hM (by rw [es]; exact hx) h
      rw [es] at this
      exact this
    · rw [if_pos (zB_iff.mpr q)] at es
      rintro M2 rfl
      refine ⟨vp_in_nI (by omega) (by omega), vp_in_nI (by omega) (by omega), ?_⟩
      rw [upd2_off (show (57 : Nat) ≠ 59 by omega), hM _ (by omega)]
      rintro M3 rfl
      have ew := wz_eq q n (show n - (k + 1) < n by omega)
      have := c8_gath d n p th kd stp ngt Q h7 ht k (upd2 (upd2 M 59 (fb_ct (zB th) (n - (k + 1))) (nI (n - (k + 1)))) 60 (fb_ct (zB th) (n - (k + 1))) (nI (p (n - (k + 1))))) (by omega) (RgM_c hR h7 (fun i _ _ => by rw [upd2_off (by omega), upd2_off (by omega)])) (fun i hi => by rw [upd2_off (by omega), upd2_off (by omega)]; exact hM i hi) (fun x hx' => ?_) (fun M' g1 g2 g3 => h M' (fun q a b c => by rw [g1 q a b c, upd2_off b, upd2_off a]) g2 g3)
      · rw [es] at this
        exact this
      · rw [upd2_r, upd2_off (show (59 : Nat) ≠ 60 by omega), upd2_r, upd2_off (show (60 : Nat) ≠ 59 by omega)]
        by_cases c : x = fb_ct (zB th) (n - (k + 1))
        · rw [if_pos c, if_pos c, c, ew]
          exact ⟨rfl, rfl⟩
        · rw [if_neg c, if_neg c]
          exact hx x (by omega)
/-- what is tried so far -/
def bm (σ : Nat → Nat) : Nat → Nat
  | 0 => 0
  | k + 1 => bm σ k ||| 2 ^ σ k
theorem bm_lt {σ : Nat → Nat} : ∀ k, (∀ i, i < k → σ i < 7) → bm σ k < 128
  | 0, _ => by rw [bm]; omega
  | k + 1, h => by rw [bm]; exact or_128 (bm_lt k (fun i hi => h i (by omega))) (h k (by omega))
theorem bm_has {σ : Nat → Nat} {t : Nat} : ∀ k, (bm σ k).testBit t = true ↔ ∃ i, i < k ∧ σ i = t
  | 0 => ⟨fun z => by rw [bm, Nat.zero_testBit] at z; exact absurd z (by decide), fun ⟨i, h, _⟩ => by omega⟩
  | k + 1 => by
    rw [bm, or_iff, bm_has k]
    constructor
    · rintro (⟨i, h1, h2⟩ | h)
      · exact ⟨i, by omega, h2⟩
      · exact ⟨k, by omega, h⟩
    · rintro ⟨i, h1, h2⟩
      by_cases e : i = k
      · subst e; exact Or.inr h2
      · exact Or.inl ⟨i, by omega, h2⟩
def FX (n : Nat) (p th : Nat → Nat) (Mo M : Mm) : Prop := (∀ q, q ≠ 57 → q ≠ 61 → M q = Mo q) ∧ ∀ i, i < n → th i ≠ 0 → M 57 i = nI (p i)
section
variable {n : Nat} {p th : Nat → Nat} {Mo : Mm}
theorem c8_lf (d : Nat) (σ : Nat → Nat) (b : Int32) (Q : Int32 → Mm → Prop) (h7 : n ≤ 7) (hp : pm n p) (hσ : inj (fb_ct (zB th) n) σ) (h50 : Mo 50 0 = nI n) (hw : ∀ x, x < fb_ct (zB th) n → Mo 59 x = nI (wz th x n) ∧ Mo 60 x = nI (p (wz th x n))) : ∀ (k : Nat) (M : Mm), k ≤ fb_ct (zB th) n → FX n p th Mo M → (∀ i, i < fb_ct (zB th) n → M 61 i = nI (σ i)) → (∀ x, x < fb_ct (zB th) n - k → M 57 (wz th x n) = nI (p (wz th (σ x) n))) → (∀ M', FX n p th Mo M' → M' 61 = M 61 → ((nI (ringsN (toS n p th σ) n) ≤ b → BX8_mostRings (d + 2) 64 [(0, .ref 49), (1, .int (nI (fb_ct (zB th) n))), (2, .int b), (3, .int (nI (fb_ct (zB th) n) + -1))] [] M' Q) ∧ (¬ nI (ringsN (toS n p th σ) n) ≤ b → BX8_mostRings (d + 2) 64 [(0, .ref 49), (1, .int (nI (fb_ct (zB th) n))), (2, .int (nI (ringsN (toS n p th σ) n))), (3, .int (nI (fb_ct (zB th) n) + -1))] [] M' Q))) → BX8_mostRings (d + 2) 108 [(0, .ref 49), (1, .int (nI (fb_ct (zB th) n))), (2, .int b), (3, .int (nI (fb_ct (zB th) n))), (5, .int (nI (fb_ct (zB th) n - k)))] [] M Q
  | 0, M, _, hF, h61, hd, h => by
    apply rX8_mostRings_108
    have zl := fb_ct_le (zB th) n
    refine ⟨fun _ => ?_, fun q => absurd (nI_le (by omega) (by omega)) q⟩
    refine c8_rings d n (toS n p th σ) M _ h7 (toS_pm hp hσ) (by rw [hF.1 50 (by omega) (by omega)]; exact h50) (fun i hi => ?_) (h M hF rfl)
    unfold toS
    by_cases c : th i = 0
    · rw [if_pos c]
      have := hd (fb_ct (zB th) i) (by have := ct_below hi c; omega)
      rw [wz_eq c n hi] at this
      exact this
    · rw [if_neg c]; exact hF.2 i hi c
  | k + 1, M, hk, hF, h61, hd, h => by
    apply rX8_mostRings_108
    have zl := fb_ct_le (zB th) n
    have e : fb_ct (zB th) n - (k + 1) + 1 = fb_ct (zB th) n - k := by omega
    have sl := hσ.1 (fb_ct (zB th) n - (k + 1)) (by omega)
    have wk := wz_ok (th := th) (n := n) (k := fb_ct (zB th) n - (k + 1)) (by omega)
    have w1 := hw (fb_ct (zB th) n - (k + 1)) (by omega)
    have w2 := hw (σ (fb_ct (zB th) n - (k + 1))) sl
    rw [nI_clamp (show fb_ct (zB th) n - (k + 1) < 2 ^ 31 by omega), h61 _ (by omega), nI_clamp (show σ (fb_ct (zB th) n - (k + 1)) < 2 ^ 31 by omega), hF.1 59 (by omega) (by omega), hF.1 60 (by omega) (by omega), w1.1, w2.2, nI_clamp (show wz th (fb_ct (zB th) n - (k + 1)) n < 2 ^ 31 by omega), nI_1, e]
    refine ⟨fun q => absurd q (nI_ge (by omega) (by omega)), fun _ => ⟨vp_in_nI (by omega) (by omega), vp_in_nI (by omega) (by omega), vp_in_nI (by omega) (by omega), vp_in_nI (by omega) (by omega), ?_⟩⟩
    rintro M2 rfl
    refine c8_lf d σ b Q h7 hp hσ h50 hw k _ (by omega) ⟨fun q a c => by rw [upd2_off a, hF.1 q a c], fun i hi ht => ?_⟩ (fun i hi => by rw [upd2_off (by omega)]; exact h61 i hi) (fun x hx => ?_) (fun M' g1 g2 => h M' g1 (by rw [g2, upd2_off (by omega)]))
    · rw [upd2_row (fun z => ht (by rw [z]; exact wk.2.1))]; exact hF.2 i hi ht
    · by_cases c : x = fb_ct (zB th) n - (k + 1)
      · rw [c, upd2_at]
      · have wx := wz_ok (th := th) (n := n) (k := x) (by omega)
        rw [upd2_row (fun z => c (by rw [← wx.2.2, z, wk.2.2]))]
        exact hd x (by omega)
theorem c8_bz (d : Nat) (dep : Nat) (σ : Nat → Nat) (v1 b : Int32) (M : Mm) (Q : Int32 → Mm → Prop) (h7 : dep ≤ 7) (hσ : ∀ i, i < dep → σ i < 7) (h61 : ∀ i, i < dep → M 61 i = nI (σ i)) (h : BX8_mostRings (d + 2) 74 [(0, .ref 49), (1, .int v1), (2, .int b), (3, .int (nI dep)), (4, .int (nI (bm σ dep))), (5, .int (nI dep))] [] M Q) : ∀ k, k ≤ dep → BX8_mostRings (d + 2) 74 [(0, .ref 49), (1, .int v1), (2, .int b), (3, .int (nI dep)), (4, .int (nI (bm σ (dep - k)))), (5, .int (nI (dep - k)))] [] M Q
  | 0, _ => h
  | k + 1, hk => by
    apply rX8_mostRings_74
    refine ⟨fun q => absurd q (nI_ge (by omega) (by omega)), fun _ => ⟨vp_in_nI (by omega) (by omega), ?_⟩⟩
    rw [nI_clamp (by omega), h61 _ (by omega), orq (hσ _ (by omega)), nI_1]
    have := c8_bz d dep σ v1 b M Q h7 hσ h61 h k (by omega)
    rw [show dep - k = dep - (k + 1) + 1 by omega, bm] at this
    exact this
/-- what comes out of a part of the tree -/
def out (n : Nat) (p th : Nat → Nat) (Mo M : Mm) (d dep v B b : Nat) (σ : Nat → Nat) (Q : Int32 → Mm → Prop) : Prop := ∀ (M' : Mm) (b' : Nat), FX n p th Mo M' → (∀ i, i < dep → M' 61 i = M 61 i) → b ≤ b' → b' ≤ B → (∀ σ', inj (fb_ct (zB th) n) σ' → (∀ i, i < dep → σ' i = σ i) → (dep < fb_ct (zB th) n → v ≤ σ' dep) → ringsN (toS n p th σ') n ≤ b') → BX8_mostRings (d + 2) 64 [(0, .ref 49), (1, .int (nI (fb_ct (zB th) n))), (2, .int (nI b')), (3, .int (nI dep - 1))] [] M' Q
theorem c8_node (d : Nat) (Q : Int32 → Mm → Prop) (h7 : n ≤ 7) (hp : pm n p) (h50 : Mo 50 0 = nI n) (hw : ∀ x, x < fb_ct (zB th) n → Mo 59 x = nI (wz th x n) ∧ Mo 60 x = nI (p (wz th x n))) (B : Nat) (hB : B ≤ 100) (hBu : ∀ σ, inj (fb_ct (zB th) n) σ → ringsN (toS n p th σ) n ≤ B) : ∀ (r dep v b : Nat) (σ : Nat → Nat) (M : Mm), dep + r = fb_ct (zB th) n → (∀ i, i < dep → σ i < fb_ct (zB th) n) → (∀ i j, i < dep → j < dep → σ i = σ j → i = j) → b ≤ B → v ≤ fb_ct (zB th) n → FX n p th Mo M → (∀ i, i < dep → M 61 i = nI (σ i)) → (1 ≤ r → M 61 dep = nI v - 1) → out n p th Mo M d dep v B b σ Q → BX8_mostRings (d + 2) 64 [(0, .ref 49), (1, .int (nI (fb_ct (zB th) n))), (2, .int (nI b)), (3, .int (nI dep))] [] M Q := by
  have zl := fb_ct_le (zB th) n
  -- down to the search
  have entry : ∀ (dep v b : Nat) (σ : Nat → Nat) (M : Mm), dep < fb_ct (zB th) n → (∀ i, i < dep → σ i < fb_ct (zB th) n) → (∀ i, i < dep → M 61 i = nI (σ i)) → M 61 dep = nI v - 1 → BX8_mostRings (d + 2) 179 [(0, .ref 49), (1, .int (nI (fb_ct (zB th) n))), (2, .int (nI b)), (3, .int (nI dep)), (4, .int (nI (bm σ dep))), (5, .int (nI v))] [] M Q → BX8_mostRings (d + 2) 64 [(0, .ref 49), (1, .int (nI (fb_ct (zB th) n))), (2, .int (nI b)), (3, .int (nI dep))] [] M Q := by
    intro dep v b σ M hd hσ h61 hv h
    apply rX8_mostRings_64
    refine ⟨fun q => absurd q (nI_pos (by omega)), fun _ => ?_⟩
    have := c8_bz d dep σ (nI (fb_ct (zB th) n)) (nI b) M Q (by omega) (fun i hi => by have := hσ i hi; omega) h61 ?_ dep (Nat.le_refl _)
    · rw [Nat.sub_self] at this
      exact this
    · apply rX8_mostRings_74
      refine ⟨fun _ => ⟨fun _ => ⟨vp_in_nI (by omega) (by omega), ?_⟩, fun q => ?_⟩, fun q => absurd (nI_le (by omega) (by omega)) q⟩
      · rw [nI_clamp (by omega), hv, Int32.sub_add_cancel]
        exact h
      · have := (nI_eq (by omega) (by omega)).mp q
        omega
  intro r
  induction r with
  | zero =>
    intro dep v b σ M hz hσ hi hb hv hF h61 _ h
    have ed : dep = fb_ct (zB th) n := by omega
    subst ed
    apply rX8_mostRings_64
    refine ⟨fun q => absurd q (nI_pos (by omega)), fun _ => ?_⟩
    have := c8_bz d (fb_ct (zB th) n) σ (nI (fb_ct (zB th) n)) (nI b) M Q (by omega) (fun i hi => by have := hσ i hi; omega) h61 ?_ (fb_ct (zB th) n) (Nat.le_refl _)
    · rw [Nat.sub_self] at this
      exact this
    · apply rX8_mostRings_74
      refine ⟨fun _ => ⟨fun q => absurd rfl q, fun _ => ?_⟩, fun q => absurd (nI_le (by omega) (by omega)) q⟩
      have iσ : inj (fb_ct (zB th) n) σ := ⟨hσ, hi⟩
      have rb := hBu σ iσ
      have same : ∀ σ', (∀ i, i < fb_ct (zB th) n → σ' i = σ i) → ∀ i, i < n → toS n p th σ' i = toS n p th σ i := fun σ' hs i hi => by
        unfold toS
        by_cases c : th i = 0
        · rw [if_pos c, if_pos c, hs _ (ct_below hi c)]
        · rw [if_neg c, if_neg c]
      have c8 := c8_lf (Mo := Mo) d σ (nI b) Q h7 hp iσ h50 hw (fb_ct (zB th) n) M (Nat.le_refl _) hF h61 (fun x hx => by omega) (fun M' g1 g2 => ?_)
      · rw [Nat.sub_self] at c8
        exact c8
      · simp (disch := omega) only [nI_leI]
        rw [show nI (fb_ct (zB th) n) + -1 = nI (fb_ct (zB th) n) - 1 from (Int32.sub_eq_add_neg _ _).symm]
        have rs : ∀ σ', inj (fb_ct (zB th) n) σ' → (∀ i, i < fb_ct (zB th) n → σ' i = σ i) → ringsN (toS n p th σ') n ≤ ringsN (toS n p th σ) n := fun σ' i1 i2 => by
          have e := same σ' i2
          have a1 := toS_pm hp i1
          have a2 := toS_pm hp iσ
          have e1 : ∀ s, s < n → ∀ k, itr (toS n p th σ') k s = itr (toS n p th σ) k s := fun s hs k => by
            induction k with
            | zero => rfl
            | succ k ih => rw [itr, itr, ih, e _ (itr_lt a2 hs k)]
          unfold ringsN
          refine fb_ct_sub (fun s hs z => ?_)
          rw [mn_iff] at z ⊢
          exact fun ⟨s', g1, k, g2⟩ => z ⟨s', g1, k, by rw [e1 s' (by omega) k]; exact g2⟩
        refine ⟨fun q => h M' b g1 (fun i _ => by rw [g2]) (Nat.le_refl _) hb (fun σ' i1 i2 _ => Nat.le_trans (rs σ' i1 i2) q), fun q => h M' _ g1 (fun i _ => by rw [g2]) (by omega) rb (fun σ' i1 i2 _ => rs σ' i1 i2)⟩
  | succ r ih =>
    intro dep v b σ M hz hσ hij0 hb hv hF h61 hdv h
    refine entry dep v b σ M (by omega) hσ h61 (hdv (by omega)) ?_
    have bl := bm_lt dep (fun i hi => by have := hσ i hi; omega) (σ := σ)
    -- the search
    have srch : ∀ (c v b : Nat) (M : Mm), v + c = fb_ct (zB th) n → b ≤ B → FX n p th Mo M → (∀ i, i < dep → M 61 i = nI (σ i)) → out n p th Mo M d dep v B b σ Q → BX8_mostRings (d + 2) 179 [(0, .ref 49), (1, .int (nI (fb_ct (zB th) n))), (2, .int (nI b)), (3, .int (nI dep)), (4, .int (nI (bm σ dep))), (5, .int (nI v))] [] M Q := by
      intro c
      induction c with
      | zero =>
        intro v b M hc hb hF h61 h
        have ev : v = fb_ct (zB th) n := by omega
        subst ev
        apply rX8_mostRings_179
        refine ⟨fun _ => ?_, fun q => absurd (nI_le (by omega) (by omega)) q⟩
        apply rX8_mostRings_201
        rw [nI_clamp (by omega)]
        refine ⟨vp_in_nI (by omega) (by omega), ?_⟩
        rintro M1 rfl
        refine ⟨fun q => absurd rfl q, fun _ => ?_⟩
        rw [show nI dep + -1 = nI dep - 1 from (Int32.sub_eq_add_neg _ _).symm]
        refine h _ b ⟨fun q a c => by rw [upd2_off c, hF.1 q a c], fun i hi ht => by rw [upd2_off (by omega)]; exact hF.2 i hi ht⟩ (fun i hi => by rw [upd2_row (by omega)]) (Nat.le_refl _) hb (fun σ' i1 i2 i3 => ?_)
        have := i1.1 dep (by omega)
        have := i3 (by omega)
        omega
      | succ c ihc =>
        intro v b M hc hb hF h61 h
        apply rX8_mostRings_179
        refine ⟨fun q => absurd q (nI_ge (by omega) (by omega)), fun _ => ?_⟩
        refine c8_has _ (bm σ dep) v M _ (by omega) (by omega) ?_
        by_cases cb : (bm σ dep).testBit v = true
        · rw [if_pos cb]
          refine ⟨fun q => absurd q (by decide), fun _ => ?_⟩
          rw [nI_1]
          refine ihc (v + 1) b M (by omega) hb hF h61 (fun M' b' g1 g2 g3 g4 g5 => h M' b' g1 g2 g3 g4 (fun σ' i1 i2 i3 => g5 σ' i1 i2 (fun z => ?_)))
          obtain ⟨i, j1, j2⟩ := (bm_has dep).mp cb
          have ne : σ' dep ≠ v := fun w => by
            have := i1.2 i dep (by omega) z (by rw [i2 i j1, j2, w])
            omega
          have := i3 z
          omega
        · rw [if_neg cb]
          refine ⟨fun _ => ?_, fun q => absurd rfl q⟩
          apply rX8_mostRings_201
          rw [nI_1, nI_clamp (by omega), nI_clamp (by omega)]
          refine ⟨vp_in_nI (by omega) (by omega), ?_⟩
          rintro M1 rfl
          refine ⟨fun _ => ⟨vp_in_nI (by omega) (by omega), ?_⟩, fun q => ?_⟩
          case refine_2 =>
            have := (nI_eq (by omega) (by omega)).mp q
            omega
          rintro M2 rfl
          have nv : ∀ i, i < dep → σ i ≠ v := fun i hi w => cb ((bm_has dep).mpr ⟨i, hi, w⟩)
          have e61 : ∀ i, i < dep + 1 → upd2 (upd2 M 61 dep (nI v)) 61 (dep + 1) (-1) 61 i = nI (updN σ dep v i) := fun i hi => by
            rw [upd2_row (by omega), upd2_r]
            unfold updN
            by_cases ci : i = dep
            · rw [if_pos ci, if_pos ci]
            · rw [if_neg ci, if_neg ci]; exact h61 i (by omega)
          refine ih (dep + 1) 0 b (updN σ dep v) _ (by omega) (fun i hi => ?_) (fun i j hi hj e => ?_) hb (by omega) ⟨fun q a c => by rw [upd2_off c, upd2_off c, hF.1 q a c], fun i hi ht => by rw [upd2_off (by omega), upd2_off (by omega)]; exact hF.2 i hi ht⟩ e61 (fun _ => by rw [upd2_at]; rfl) (fun M' b' g1 g2 g3 g4 g5 => ?_)
          · by_cases ci : i = dep
            · rw [ci, updN_a]; omega
            · rw [updN_o ci]; exact hσ i (by omega)
          · by_cases ci : i = dep
            · by_cases cj : j = dep
              · omega
              · rw [ci, updN_a, updN_o cj] at e
                exact absurd e.symm (nv j (by omega))
            · by_cases cj : j = dep
              · rw [cj, updN_a, updN_o ci] at e
                exact absurd e (nv i (by omega))
              · rw [updN_o ci, updN_o cj] at e
                exact hij0 i j (by omega) (by omega) e
          · rw [dec_1 (by omega), Nat.add_sub_cancel]
            have q61 : ∀ i, i < dep → M' 61 i = nI (σ i) := fun i hi => by rw [g2 i (by omega), e61 i (by omega), updN_o (by omega)]
            refine entry dep (v + 1) b' σ M' (by omega) hσ q61 ?_ ?_
            · rw [g2 dep (by omega), e61 dep (by omega), updN_a, dec_1 (by omega), Nat.add_sub_cancel]
            · refine ihc (v + 1) b' M' (by omega) g4 g1 q61 (fun M3 b3 y1 y2 y3 y4 y5 => h M3 b3 y1 (fun i hi => by rw [y2 i hi, q61 i hi, h61 i hi]) (by omega) y4 (fun σ' i1 i2 i3 => ?_))
              by_cases cv : σ' dep = v
              · refine Nat.le_trans (g5 σ' i1 (fun i hi => ?_) (fun _ => Nat.zero_le _)) y3
                by_cases ci : i = dep
                · rw [ci, updN_a]; exact cv
                · rw [updN_o ci]; exact i2 i (by omega)
              · refine y5 σ' i1 i2 (fun z => ?_)
                have := i3 z
                omega
    exact srch (fb_ct (zB th) n - v) v b M (by omega) hb hF h61 h
end
