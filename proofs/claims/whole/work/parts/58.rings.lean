/-! SWAPS: rings counted -/
def unS (seen : Nat) : Nat → Bool := fun x => !seen.testBit x
theorem unS_or {seen c n : Nat} (hc : c < n) (h : seen.testBit c = false) : fb_ct (unS (seen ||| 2 ^ c)) n + 1 = fb_ct (unS seen) n := by
  have u := fb_ct_upd (unS seen) false (i := c) (n := n) hc
  have e : unS seen c = true := by unfold unS; rw [h]; rfl
  rw [e, if_pos rfl, if_neg (by decide)] at u
  have e2 : fb_ct (unS (seen ||| 2 ^ c)) n = fb_ct (fun k => if k = c then false else unS seen k) n := fb_ct_cong (fun k _ => by
    unfold unS
    rw [bit_or2]
    by_cases z : k = c
    · rw [if_pos z, z]; simp
    · rw [if_neg z, show decide (c = k) = false by simp; omega, Bool.or_false])
  omega
theorem or_iff {seen c x : Nat} : (seen ||| 2 ^ c).testBit x = true ↔ seen.testBit x = true ∨ c = x := by
  rw [bit_or2, Bool.or_eq_true, decide_eq_true_eq]
theorem c8_walk (d n s : Nat) (t : Nat → Nat) (v2 : Int32) (M : Mm) (Q : Int32 → Mm → Prop) (h7 : n ≤ 7) (hp : pm n t) (hs : s < n) (hM : ∀ i, i < n → M 57 i = nI (t i)) (h : ∀ seen', seen' < 128 → (∀ x, x < n → (seen'.testBit x = true ↔ ∃ s', s' < s + 1 ∧ orb t s' x)) → BX8_rings (d + 1) 6 [(0, .ref 49), (1, .int (nI seen')), (2, .int v2), (3, .int (nI (s + 1)))] [] M Q) : ∀ (m seen k : Nat), fb_ct (unS seen) n = m → seen < 128 → (∀ x, x < n → (seen.testBit x = true ↔ (∃ s', s' < s ∧ orb t s' x) ∨ ∃ j, j < k ∧ itr t j s = x)) → BX8_rings (d + 1) 35 [(0, .ref 49), (1, .int (nI seen)), (2, .int v2), (3, .int (nI s)), (4, .int (nI (itr t k s)))] [] M Q
  | m, seen, k, hm, hse, hW => by
    have hc := itr_lt hp hs k
    apply rX8_rings_35
    refine c8_has _ seen (itr t k s) M _ (by omega) (by omega) ?_
    by_cases c : seen.testBit (itr t k s) = true
    · rw [if_pos c]
      refine ⟨fun _ => ?_, fun q => absurd q (by decide)⟩
      rw [nI_1]
      refine h seen hse (fun x hx => ?_)
      have s0 : seen.testBit s = true := by
        rcases Nat.eq_zero_or_pos k with z | z
        · subst z; exact c
        · exact (hW s hs).mpr (Or.inr ⟨0, z, rfl⟩)
      have cl : ∀ y, y < n → seen.testBit y = true → seen.testBit (t y) = true := fun y hy hb => by
        rcases (hW y hy).mp hb with ⟨s', g1, l, g2⟩ | ⟨j, g1, g2⟩
        · exact (hW _ (hp.1 y hy)).mpr (Or.inl ⟨s', g1, l + 1, by rw [itr, g2]⟩)
        · by_cases e : j + 1 = k
          · rw [← g2, show t (itr t j s) = itr t (j + 1) s from rfl, e]; exact c
          · exact (hW _ (hp.1 y hy)).mpr (Or.inr ⟨j + 1, by omega, by rw [itr, g2]⟩)
      have all : ∀ j, seen.testBit (itr t j s) = true := fun j => by
        induction j with
        | zero => exact s0
        | succ j ih => exact cl _ (itr_lt hp hs j) ih
      constructor
      · intro z
        rcases (hW x hx).mp z with ⟨s', g1, g2⟩ | ⟨j, g1, g2⟩
        · exact ⟨s', by omega, g2⟩
        · exact ⟨s, by omega, j, g2⟩
      · rintro ⟨s', g1, g2⟩
        by_cases e : s' = s
        · subst e
          obtain ⟨j, rfl⟩ := g2
          exact all j
        · exact (hW x hx).mpr (Or.inl ⟨s', by omega, g2⟩)
    · rw [if_neg c]
      have cf := Bool.eq_false_iff.mpr c
      refine ⟨fun q => absurd rfl q, fun _ => ⟨vp_in_nI (by omega) (by omega), ?_⟩⟩
      rw [orq (by omega), nI_clamp (by omega), hM _ hc]
      have mu := unS_or hc cf
      cases m with
      | zero => omega
      | succ m =>
        refine c8_walk d n s t v2 M Q h7 hp hs hM h m (seen ||| 2 ^ itr t k s) (k + 1) (by omega) (or_128 hse (by omega)) (fun x hx => ?_)
        rw [or_iff, hW x hx]
        constructor
        · rintro ((z | ⟨j, g1, g2⟩) | z)
          · exact Or.inl z
          · exact Or.inr ⟨j, by omega, g2⟩
          · exact Or.inr ⟨k, by omega, z⟩
        · rintro (z | ⟨j, g1, g2⟩)
          · exact Or.inl (Or.inl z)
          · by_cases e : j = k
            · subst e; exact Or.inr g2
            · exact Or.inl (Or.inr ⟨j, by omega, g2⟩)
theorem c8_rg (d n : Nat) (t : Nat → Nat) (M : Mm) (Q : Int32 → Mm → Prop) (h7 : n ≤ 7) (hp : pm n t) (h50 : M 50 0 = nI n) (hM : ∀ i, i < n → M 57 i = nI (t i)) (h : Q (nI (ringsN t n)) M) : ∀ (k seen : Nat), k ≤ n → seen < 128 → (∀ x, x < n → (seen.testBit x = true ↔ ∃ s', s' < n - k ∧ orb t s' x)) → BX8_rings (d + 1) 6 [(0, .ref 49), (1, .int (nI seen)), (2, .int (nI (fb_ct (mnB t) (n - k)))), (3, .int (nI (n - k)))] [] M Q
  | 0, seen, _, hse, hW => by
    apply rX8_rings_6
    rw [clamp0, h50]
    exact ⟨vp_in_nI (n := 0) (by omega) (by omega), fun _ => h, fun q => absurd (nI_le (by omega) (by omega)) q⟩
  | k + 1, seen, hk, hse, hW => by
    apply rX8_rings_6
    have e : n - (k + 1) + 1 = n - k := by omega
    rw [clamp0, h50]
    refine ⟨vp_in_nI (n := 0) (by omega) (by omega), fun q => absurd q (nI_ge (by omega) (by omega)), fun _ => ?_⟩
    refine c8_has _ seen (n - (k + 1)) M _ (by omega) (by omega) ?_
    have wk := fun v2 h' => c8_walk d n (n - (k + 1)) t v2 M Q h7 hp (by omega) hM h' _ seen 0 rfl hse (fun x hx => by
      rw [hW x hx]
      exact ⟨fun z => Or.inl z, fun z => z.elim id (fun ⟨j, g, _⟩ => by omega)⟩)
    have es : fb_ct (mnB t) (n - k) = fb_ct (mnB t) (n - (k + 1)) + (if mnB t (n - (k + 1)) then 1 else 0) := by rw [← e, fb_ct_succ]
    have go : ∀ v2, v2 = nI (fb_ct (mnB t) (n - k)) → BX8_rings (d + 1) 35 [(0, .ref 49), (1, .int (nI seen)), (2, .int v2), (3, .int (nI (n - (k + 1)))), (4, .int (nI (n - (k + 1))))] [] M Q := by
      intro v2 ev
      subst ev
      refine wk _ (fun seen' g1 g2 => ?_)
      rw [e] at g2 ⊢
      exact c8_rg d n t M Q h7 hp h50 hM h k seen' (by omega) g1 g2
    by_cases c : seen.testBit (n - (k + 1)) = true
    · rw [if_pos c]
      refine ⟨fun q => absurd q (by decide), fun _ => go _ ?_⟩
      have : ¬ mnB t (n - (k + 1)) = true := fun z => mn_iff.mp z ((hW _ (by omega)).mp c)
      rw [es, if_neg this, li_0, nI_add]
    · rw [if_neg c]
      refine ⟨fun _ => go _ ?_, fun q => absurd rfl q⟩
      have : mnB t (n - (k + 1)) = true := mn_iff.mpr (fun z => c ((hW _ (by omega)).mpr z))
      rw [es, if_pos this, nI_1]
theorem c8_rings (d n : Nat) (t : Nat → Nat) (M : Mm) (Q : Int32 → Mm → Prop) (h7 : n ≤ 7) (hp : pm n t) (h50 : M 50 0 = nI n) (hM : ∀ i, i < n → M 57 i = nI (t i)) (h : Q (nI (ringsN t n)) M) : kX8_rings (d + 1) M Q := by
  apply rX8_rings
  have := c8_rg d n t M Q h7 hp h50 hM h n 0 (Nat.le_refl _) (by omega) (fun x hx => ⟨fun z => by rw [Nat.zero_testBit] at z; exact absurd z (by decide), fun ⟨s', g, _⟩ => by omega⟩)
  rw [Nat.sub_self] at this
  exact this
/-- the class's cycles -/
def rch (p th : Nat → Nat) (s x : Nat) : Prop := ∃ k, itr p k s = x ∧ ∀ i, i ≤ k → th (itr p i s) ≠ 0
theorem c2_walk (d n s : Nat) (p th kd : Nat → Nat) (stp ngt : Nat) (v2 : Nat) (fr : Bool) (M : Mm) (Q : Int32 → Mm → Prop) (h7 : n ≤ 7) (hp : pm n p) (hs : s < n) (ht : okT n th) (hC : RgC M 23 n kd th stp ngt) (hM : ∀ i, i < n → M 42 i = nI (p i)) (hfr : fr = true ↔ ¬ ∃ s', s' < s ∧ rch p th s' s)
    (h : ∀ seen', seen' < 128 → (∀ x, x < n → (seen'.testBit x = true ↔ ∃ s', s' < s + 1 ∧ rch p th s' x)) → BX2_cyclesWithoutNone d 7 [(0, .ref 40), (1, .ref 23), (2, .int (nI (v2 + if mnB p s && nzB p th s then 1 else 0))), (3, .int (nI seen')), (4, .int (nI (s + 1)))] [] M Q) : ∀ (m seen k : Nat), fb_ct (unS seen) n = m → k + m ≤ n → seen < 128 → (∀ x, x < n → (seen.testBit x = true ↔ (∃ s', s' < s ∧ rch p th s' x) ∨ ∃ j, j < k ∧ itr p j s = x)) → (∀ j, j < k → th (itr p j s) ≠ 0) → (∀ i, 1 ≤ i → i < k → itr p i s ≠ s) → BX2_cyclesWithoutNone d 39 [(0, .ref 40), (1, .ref 23), (2, .int (nI v2)), (3, .int (nI seen)), (4, .int (nI s)), (5, .int (nI (itr p k s))), (6, .int (if fr then 1 else 0)), (7, .int (nI k))] [] M Q
  | m, seen, k, hm, hmk, hse, hW, hN, hD => by
    have hc := itr_lt hp hs k
    have et : M (23 + 2) (itr p k s) = nI (th (itr p k s)) := hC.2.2.2.2 _ hc
    have bt := ht _ hc
    -- the end
    have fin : (seen.testBit (itr p k s) = true ∨ th (itr p k s) = 0) → BX2_cyclesWithoutNone d 89 [(0, .ref 40), (1, .ref 23), (2, .int (nI v2)), (3, .int (nI seen)), (4, .int (nI s)), (5, .int (nI (itr p k s))), (6, .int (if fr then 1 else 0))] [] M Q := by
      intro hE
      have st : ∀ x, x < n → (seen.testBit x = true ↔ ∃ s', s' < s + 1 ∧ rch p th s' x) := by
        intro x hx
        constructor
        · intro z
          rcases (hW x hx).mp z with ⟨s', g1, g2⟩ | ⟨j, g1, g2⟩
          · exact ⟨s', by omega, g2⟩
          · exact ⟨s, by omega, j, g2, fun i hi => hN i (by omega)⟩
        · rintro ⟨s', g1, g2⟩
          by_cases e : s' = s
          · subst e
            obtain ⟨l, rfl, g3⟩ := g2
            have all : ∀ i, i ≤ l → seen.testBit (itr p i s') = true := fun i => by
              induction i with
              | zero =>
                intro _
                rcases Nat.eq_zero_or_pos k with z | z
                · subst z
                  rcases hE with hE | hE
                  · exact hE
                  · exact absurd hE (g3 0 (by omega))
                · exact (hW s' hs).mpr (Or.inr ⟨0, z, rfl⟩)
              | succ i ih =>
                intro hi
                have ihb := ih (by omega)
                rcases (hW _ (itr_lt hp hs i)).mp ihb with ⟨s'', y1, l2, y2, y3⟩ | ⟨j, y1, y2⟩
                · refine (hW _ (itr_lt hp hs (i + 1))).mpr (Or.inl ⟨s'', y1, l2 + 1, by rw [itr, itr, y2], fun x hx => ?_⟩)
                  by_cases ex : x = l2 + 1
                  · rw [ex, itr, y2]; exact g3 (i + 1) hi
                  · exact y3 x (by omega)
                · by_cases ej : j + 1 = k
                  · have e1 : itr p (i + 1) s' = itr p k s' := by rw [← ej, itr, itr, y2]
                    rw [e1]
                    rcases hE with hE | hE
                    · exact hE
                    · exact absurd (by rw [e1]; exact hE) (g3 (i + 1) hi)
                  · exact (hW _ (itr_lt hp hs (i + 1))).mpr (Or.inr ⟨j + 1, by omega, by rw [itr, itr, y2]⟩)
            exact all l (Nat.le_refl _)
          · exact (hW x hx).mpr (Or.inl ⟨s', by omega, g2⟩)
      have hh := h seen hse st
      have iff : (fr = true ∧ itr p k s = s ∧ th s ≠ 0) ↔ (mnB p s = true ∧ nzB p th s = true) := by
        rw [mn_iff, nz_iff]
        constructor
        · rintro ⟨f1, f2, f3⟩
          have k1 : 1 ≤ k := by
            rcases Nat.eq_zero_or_pos k with z | z
            · exfalso
              subst z
              rcases hE with hE | hE
              · rcases (hW s hs).mp hE with w | ⟨j, w, _⟩
                · exact (hfr.mp f1) w
                · omega
              · exact f3 hE
            · exact z
          have nz : ∀ i, th (itr p i s) ≠ 0 := fun i => by
            have er : itr p i s = itr p (i % k) s := by
              have ei : i = i % k + (i / k) * k := by
                have := Nat.mod_add_div i k
                rw [Nat.mul_comm] at this
                exact this.symm
              rw [ei, itr_add, itr_mul f2]
              congr 1
              rw [Nat.add_mul_mod_self_right, Nat.mod_mod]
            rw [er]
            exact hN _ (Nat.mod_lt _ (by omega))
          refine ⟨fun ⟨s', g1, g2⟩ => hfr.mp f1 ⟨s', g1, ?_⟩, nz⟩
          obtain ⟨l, hl⟩ := orb_sy hp (by omega) g2
          obtain ⟨l2, hl2⟩ := g2
          refine ⟨l2, hl2, fun i _ => ?_⟩
          rw [← hl, ← itr_add]
          exact nz _
        · rintro ⟨f1, f2⟩
          refine ⟨hfr.mpr (fun ⟨s', g1, l, g2, _⟩ => f1 ⟨s', g1, l, g2⟩), ?_, f2 0⟩
          rcases hE with hE | hE
          · rcases (hW _ hc).mp hE with ⟨s', g1, l, g2, _⟩ | ⟨j, g1, g2⟩
            · exact absurd ⟨s', g1, orb_tr ⟨l, g2⟩ (orb_sy hp hs ⟨k, rfl⟩)⟩ f1
            · have e' : itr p j s = itr p j (itr p (k - j) s) := by
                rw [← itr_add, show j + (k - j) = k by omega]
                exact g2
              have e2 := itr_inj hp hs (itr_lt hp hs _) j e'
              rcases Nat.eq_zero_or_pos j with z | z
              · subst z; exact g2.symm
              · exact absurd e2.symm (hD (k - j) (by omega) (by omega))
          · exact absurd hE (f2 k)
      apply rX2_cyclesWithoutNone_89 _ _ rg23
      have nc : ¬ (fr = true ∧ itr p k s = s ∧ th s ≠ 0) → BX2_cyclesWithoutNone d 7 [(0, .ref 40), (1, .ref 23), (2, .int (nI v2)), (3, .int (nI seen)), (4, .int (nI (s + 1)))] [] M Q := by
        intro z
        rw [if_neg (fun w => by rw [Bool.and_eq_true] at w; exact z (iff.mpr w)), Nat.add_zero] at hh
        exact hh
      rw [nI_1, nI_clamp (by omega), et, nI_1, li_0]
      by_cases cf : fr = true
      · rw [if_pos cf]
        simp (disch := omega) only [nI_eq]
        refine ⟨fun q => absurd q (by decide), fun _ => ⟨fun q => nc (fun z => q z.2.1), fun q => ⟨vp_in_nI (by omega) (by omega), fun q2 => nc (fun z => z.2.2 (by rw [q] at q2; exact q2)), fun q2 => ?_⟩⟩⟩
        rw [if_pos (by rw [Bool.and_eq_true]; exact iff.mp ⟨cf, q, by rw [q] at q2; exact q2⟩)] at hh
        exact hh
      · rw [if_neg cf]
        exact ⟨fun _ => nc (fun z => cf z.1), fun q => absurd rfl q⟩
    apply rX2_cyclesWithoutNone_39 _ _ rg23
    have hd : seen / 2 ^ (itr p k s) ≤ seen := Nat.div_le_self _ _
    have hm2 : seen / 2 ^ (itr p k s) % 2 < 2 := Nat.mod_lt _ (by omega)
    rw [hC.1, li_1, ishr_nI (by omega) (by omega), and1_nI, li_0, nI_eq (by omega) (by omega), bit_iff0, nI_clamp (by omega), et, nI_eq (by omega) (by omega), ← li_1, orq (by omega), hM _ hc, nI_1]
    refine ⟨fun q => fin ?_, fun q => ⟨fun q2 => fin (Or.inl (by cases e : seen.testBit (itr p k s) with | true => rfl | false => exact absurd e q2)), fun q2 => ⟨vp_in_nI (by omega) (by omega), fun q3 => fin (Or.inr q3), fun q3 => ⟨vp_in_nI (by omega) (by omega), ?_⟩⟩⟩⟩
    · simp (disch := omega) only [nI_leI] at q
      left
      have z0 : fb_ct (unS seen) n = 0 := by omega
      have := fb_ct_zero.mp z0 _ hc
      unfold unS at this
      cases e : seen.testBit (itr p k s) with
      | true => rfl
      | false => rw [e] at this; exact absurd this (by decide)
    · have mu := unS_or hc q2
      cases m with
      | zero => omega
      | succ m =>
        refine c2_walk d n s p th kd stp ngt v2 fr M Q h7 hp hs ht hC hM hfr h m (seen ||| 2 ^ itr p k s) (k + 1) (by omega) (by omega) (or_128 hse (by omega)) (fun x hx => ?_) (fun j hj => ?_) (fun i h1 h2 => ?_)
        · rw [or_iff, hW x hx]
          constructor
          · rintro ((z | ⟨j, g1, g2⟩) | z)
            · exact Or.inl z
            · exact Or.inr ⟨j, by omega, g2⟩
            · exact Or.inr ⟨k, by omega, z⟩
          · rintro (z | ⟨j, g1, g2⟩)
            · exact Or.inl (Or.inl z)
            · by_cases e : j = k
              · subst e; exact Or.inr g2
              · exact Or.inl (Or.inr ⟨j, by omega, g2⟩)
        · by_cases e : j = k
          · subst e; exact q3
          · exact hN j (by omega)
        · by_cases e : i = k
          · subst e
            intro z
            rw [z] at q2
            rw [(hW s hs).mpr (Or.inr ⟨0, by omega, rfl⟩)] at q2
            exact absurd q2 (by decide)
          · exact hD i h1 (by omega)
theorem c2_cy (d n : Nat) (p th kd : Nat → Nat) (stp ngt : Nat) (M : Mm) (Q : Int32 → Mm → Prop) (h7 : n ≤ 7) (hp : pm n p) (ht : okT n th) (hC : RgC M 23 n kd th stp ngt) (hM : ∀ i, i < n → M 42 i = nI (p i)) (h : Q (nI (cycN p th n)) M) : ∀ (k seen : Nat), k ≤ n → seen < 128 → (∀ x, x < n → (seen.testBit x = true ↔ ∃ s', s' < n - k ∧ rch p th s' x)) → BX2_cyclesWithoutNone d 7 [(0, .ref 40), (1, .ref 23), (2, .int (nI (fb_ct (fun s => mnB p s && nzB p th s) (n - k)))), (3, .int (nI seen)), (4, .int (nI (n - k)))] [] M Q
  | 0, seen, _, hse, hW => by
    apply rX2_cyclesWithoutNone_7 _ _ rg23
    rw [hC.1]
    exact ⟨fun _ => h, fun q => absurd (nI_le (by omega) (by omega)) q⟩
  | k + 1, seen, hk, hse, hW => by
    apply rX2_cyclesWithoutNone_7 _ _ rg23
    have e : n - (k + 1) + 1 = n - k := by omega
    have hd : seen / 2 ^ (n - (k + 1)) ≤ seen := Nat.div_le_self _ _
    have hm2 : seen / 2 ^ (n - (k + 1)) % 2 < 2 := Nat.mod_lt _ (by omega)
    have wk : ∀ fr : Bool, (fr = true ↔ ¬ ∃ s', s' < n - (k + 1) ∧ rch p th s' (n - (k + 1))) → BX2_cyclesWithoutNone d 39 [(0, .ref 40), (1, .ref 23), (2, .int (nI (fb_ct (fun s => mnB p s && nzB p th s) (n - (k + 1))))), (3, .int (nI seen)), (4, .int (nI (n - (k + 1)))), (5, .int (nI (n - (k + 1)))), (6, .int (if fr then 1 else 0)), (7, .int (nI 0))] [] M Q := by
      intro fr hfr
      refine c2_walk d n (n - (k + 1)) p th kd stp ngt _ fr M Q h7 hp (by omega) ht hC hM hfr (fun seen' g1 g2 => ?_) _ seen 0 rfl ?_ hse (fun x hx => ?_) (fun j hj => by omega) (fun i _ _ => by omega)
      · have := c2_cy d n p th kd stp ngt M Q h7 hp ht hC hM h k seen' (by omega) g1 (by rw [e] at g2; exact g2)
        rw [← e, fb_ct_succ] at this
        exact this
      · have := fb_ct_le (unS seen) n
        omega
      · rw [hW x hx]
        exact ⟨fun z => Or.inl z, fun z => z.elim id (fun ⟨j, g, _⟩ => by omega)⟩
    rw [hC.1, li_1, ishr_nI (by omega) (by omega), and1_nI, li_0, nI_eq (by omega) (by omega), bit_iff0]
    refine ⟨fun q => absurd q (nI_ge (by omega) (by omega)), fun _ => ⟨fun q => ?_, fun q => ?_⟩⟩
    · refine wk false ⟨fun z => absurd z (by decide), fun z => absurd ((hW _ (by omega)).mp ?_) z⟩
      cases eb : seen.testBit (n - (k + 1)) with
      | true => rfl
      | false => exact absurd eb q
    · refine wk true ⟨fun _ z => ?_, fun _ => rfl⟩
      rw [(hW _ (by omega)).mpr z] at q
      exact absurd q (by decide)
theorem c2_cycles (d n : Nat) (p th kd : Nat → Nat) (stp ngt : Nat) (M : Mm) (Q : Int32 → Mm → Prop) (h7 : n ≤ 7) (hp : pm n p) (ht : okT n th) (hC : RgC M 23 n kd th stp ngt) (hM : ∀ i, i < n → M 42 i = nI (p i)) (h : Q (nI (cycN p th n)) M) : kX2_cyclesWithoutNone d 23 M Q := by
  apply rX2_cyclesWithoutNone _ _ rg23
  have := c2_cy d n p th kd stp ngt M Q h7 hp ht hC hM h n 0 (Nat.le_refl _) (by omega) (fun x hx => ⟨fun z => by rw [Nat.zero_testBit] at z; exact absurd z (by decide), fun ⟨s', g, _⟩ => by omega⟩)
  rw [Nat.sub_self] at this
  exact this
