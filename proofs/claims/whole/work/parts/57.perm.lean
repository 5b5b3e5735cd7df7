/-! SWAPS: rings of a row of places -/
def itr (p : Nat → Nat) : Nat → Nat → Nat
  | 0, s => s
  | k + 1, s => p (itr p k s)
def pm (n : Nat) (p : Nat → Nat) : Prop := (∀ i, i < n → p i < n) ∧ ∀ i j, i < n → j < n → p i = p j → i = j
theorem itr_add (p : Nat → Nat) (s b : Nat) : ∀ a, itr p (a + b) s = itr p a (itr p b s)
  | 0 => by rw [Nat.zero_add]; rfl
  | a + 1 => by rw [Nat.add_right_comm, itr, itr, itr_add p s b a]
theorem itr_lt {n : Nat} {p : Nat → Nat} (h : pm n p) {s : Nat} (hs : s < n) : ∀ k, itr p k s < n
  | 0 => hs
  | k + 1 => h.1 _ (itr_lt h hs k)
theorem itr_inj {n : Nat} {p : Nat → Nat} (h : pm n p) {s t : Nat} (hs : s < n) (ht : t < n) : ∀ k, itr p k s = itr p k t → s = t
  | 0, e => e
  | k + 1, e => itr_inj h hs ht k (h.2 _ _ (itr_lt h hs k) (itr_lt h ht k) e)
theorem period {n : Nat} {p : Nat → Nat} (h : pm n p) {s : Nat} (hs : s < n) : ∃ m, 1 ≤ m ∧ itr p m s = s := by
  obtain ⟨i, j, hij, hj, e⟩ := fb_twice (m := n) (n := n + 1) (f := fun i => itr p i s) (fun i _ => itr_lt h hs i) (by omega)
  refine ⟨j - i, by omega, ?_⟩
  have e' : itr p i s = itr p i (itr p (j - i) s) := by
    rw [← itr_add, show i + (j - i) = j by omega]
    exact e
  exact (itr_inj h hs (itr_lt h hs _) i e').symm
theorem itr_mul {p : Nat → Nat} {s m : Nat} (h : itr p m s = s) : ∀ k, itr p (k * m) s = s
  | 0 => by rw [Nat.zero_mul]; rfl
  | k + 1 => by rw [Nat.succ_mul, itr_add, h, itr_mul h k]
def orb (p : Nat → Nat) (s t : Nat) : Prop := ∃ k, itr p k s = t
theorem orb_rf (p : Nat → Nat) (s : Nat) : orb p s s := ⟨0, rfl⟩
theorem orb_tr {p : Nat → Nat} {a b c : Nat} (h : orb p a b) (g : orb p b c) : orb p a c := by
  obtain ⟨k, rfl⟩ := h
  obtain ⟨l, rfl⟩ := g
  exact ⟨l + k, itr_add p a k l⟩
theorem orb_sy {n : Nat} {p : Nat → Nat} (h : pm n p) {s t : Nat} (hs : s < n) (g : orb p s t) : orb p t s := by
  obtain ⟨k, rfl⟩ := g
  obtain ⟨m, m1, e⟩ := period h hs
  refine ⟨k * m - k, ?_⟩
  have le : k ≤ k * m := Nat.le_mul_of_pos_right k (by omega)
  rw [← itr_add, show k * m - k + k = k * m by omega]
  exact itr_mul e k
theorem orb_lt {n : Nat} {p : Nat → Nat} (h : pm n p) {s t : Nat} (hs : s < n) (g : orb p s t) : t < n := by
  obtain ⟨k, rfl⟩ := g
  exact itr_lt h hs k
noncomputable def mnB (p : Nat → Nat) (s : Nat) : Bool := @decide (¬ ∃ s', s' < s ∧ orb p s' s) (Classical.propDecidable _)
noncomputable def nzB (p th : Nat → Nat) (s : Nat) : Bool := @decide (∀ k, th (itr p k s) ≠ 0) (Classical.propDecidable _)
theorem mn_iff {p : Nat → Nat} {s : Nat} : mnB p s = true ↔ ¬ ∃ s', s' < s ∧ orb p s' s := by
  unfold mnB
  exact @decide_eq_true_iff _ (Classical.propDecidable _)
theorem nz_iff {p th : Nat → Nat} {s : Nat} : nzB p th s = true ↔ ∀ k, th (itr p k s) ≠ 0 := by
  unfold nzB
  exact @decide_eq_true_iff _ (Classical.propDecidable _)
def zB (th : Nat → Nat) (s : Nat) : Bool := decide (th s = 0)
theorem zB_iff {th : Nat → Nat} {s : Nat} : zB th s = true ↔ th s = 0 := by unfold zB; exact decide_eq_true_iff
theorem ct_inj {m : Nat} (f : Nat → Nat) : ∀ (n : Nat) (A B : Nat → Bool), (∀ i, i < n → A i = true → f i < m ∧ B (f i) = true) → (∀ i j, i < n → j < n → A i = true → A j = true → f i = f j → i = j) → fb_ct A n ≤ fb_ct B m
  | 0, A, B, _, _ => Nat.zero_le _
  | n + 1, A, B, h, g => by
    rw [fb_ct_succ]
    by_cases c : A n = true
    · rw [if_pos c]
      obtain ⟨f1, f2⟩ := h n (by omega) c
      have u := fb_ct_upd B false (i := f n) (n := m) f1
      rw [if_pos f2, if_neg (by decide)] at u
      have ih := ct_inj (m := m) f n A (fun k => if k = f n then false else B k) (fun i hi ha => ?_) (fun i j hi hj => g i j (by omega) (by omega))
      · omega
      · refine ⟨(h i (by omega) ha).1, ?_⟩
        rw [if_neg (fun e => by have := g i n (by omega) (by omega) ha c e; omega)]
        exact (h i (by omega) ha).2
    · rw [if_neg c, Nat.add_zero]
      exact ct_inj f n A B (fun i hi ha => h i (by omega) ha) (fun i j hi hj => g i j (by omega) (by omega))
/-- those that agree where there is no none -/
def agr (n : Nat) (th p q : Nat → Nat) : Prop := ∀ i, i < n → th i ≠ 0 → p i = q i
theorem nz_same {n : Nat} {th p q : Nat → Nat} (hp : pm n p) (h : agr n th p q) {s : Nat} (hs : s < n) (g : ∀ k, th (itr p k s) ≠ 0) : ∀ k, itr q k s = itr p k s
  | 0 => rfl
  | k + 1 => by rw [itr, itr, nz_same hp h hs g k, h _ (itr_lt hp hs k) (g k)]
theorem mz_same {n : Nat} {th p q : Nat → Nat} (hp : pm n p) (hq : pm n q) (h : agr n th p q) {s : Nat} (hs : s < n) (a : mnB p s = true) (b : nzB p th s = true) : mnB q s = true ∧ nzB q th s = true := by
  rw [mn_iff] at a ⊢
  rw [nz_iff] at b ⊢
  have e := nz_same hp h hs b
  refine ⟨fun ⟨s', h1, h2⟩ => a ⟨s', h1, ?_⟩, fun k => by rw [e k]; exact b k⟩
  have h3 := orb_sy hq (by omega) h2
  obtain ⟨k, hk⟩ := h3
  rw [e k] at hk
  exact orb_sy hp hs ⟨k, hk⟩
theorem cyc_same {n : Nat} {th p q : Nat → Nat} (hp : pm n p) (hq : pm n q) (h : agr n th p q) : fb_ct (fun s => mnB p s && nzB p th s) n = fb_ct (fun s => mnB q s && nzB q th s) n := by
  refine fb_ct_cong (fun s hs => ?_)
  rw [Bool.eq_iff_iff, Bool.and_eq_true, Bool.and_eq_true]
  exact ⟨fun z => mz_same hp hq h hs z.1 z.2, fun z => mz_same hq hp (fun i hi ht => (h i hi ht).symm) hs z.1 z.2⟩
noncomputable def ringsN (p : Nat → Nat) (n : Nat) : Nat := fb_ct (mnB p) n
noncomputable def cycN (p th : Nat → Nat) (n : Nat) : Nat := fb_ct (fun s => mnB p s && nzB p th s) n
theorem rings_split (p th : Nat → Nat) (n : Nat) : ringsN p n = cycN p th n + fb_ct (fun s => mnB p s && !nzB p th s) n := by
  unfold ringsN cycN
  rw [← fb_ct_or (fun k _ => ?_)]
  · refine fb_ct_cong (fun k _ => ?_)
    cases mnB p k <;> cases nzB p th k <;> rfl
  · cases mnB p k <;> cases nzB p th k <;> decide
theorem rings_up {n : Nat} {th p q : Nat → Nat} (hp : pm n p) (hq : pm n q) (h : agr n th p q) : ringsN q n ≤ cycN p th n + fb_ct (zB th) n := by
  rw [rings_split q th n]
  have e : cycN p th n = cycN q th n := cyc_same hp hq h
  have ex : ∀ s, ∃ u, (mnB q s && !nzB q th s) = true → orb q s u ∧ th u = 0 := fun s => by
    by_cases c : (mnB q s && !nzB q th s) = true
    · rw [Bool.and_eq_true, Bool.not_eq_true'] at c
      have : ¬ ∀ k, th (itr q k s) ≠ 0 := fun z => by
        rw [nz_iff.mpr z] at c
        exact absurd c.2 (by decide)
      obtain ⟨k, hk⟩ := Classical.not_forall.mp this
      exact ⟨itr q k s, fun _ => ⟨⟨k, rfl⟩, Classical.not_not.mp hk⟩⟩
    · exact ⟨0, fun z => absurd z c⟩
  obtain ⟨f, hf⟩ := Classical.skolem.mp ex
  have := ct_inj (m := n) f n (fun s => mnB q s && !nzB q th s) (zB th) (fun i hi ha => ⟨orb_lt hq hi (hf i ha).1, zB_iff.mpr (hf i ha).2⟩) (fun i j hi hj ha hb e => ?_)
  · omega
  · have o1 := (hf i ha).1
    have o2 := (hf j hb).1
    rw [e] at o1
    have o3 := orb_tr o1 (orb_sy hq hj o2)
    rw [Bool.and_eq_true, mn_iff] at ha hb
    rcases Nat.lt_trichotomy i j with w | w | w
    · exact absurd ⟨i, w, o3⟩ hb.1
    · exact w
    · exact absurd ⟨j, w, orb_sy hq hi o3⟩ ha.1
theorem has_min {p : Nat → Nat} : ∀ (m u : Nat), u ≤ m → ∃ s, s ≤ u ∧ orb p s u ∧ mnB p s = true
  | m, u, hm => by
    by_cases c : mnB p u = true
    · exact ⟨u, Nat.le_refl _, orb_rf p u, c⟩
    · rw [mn_iff, Classical.not_not] at c
      obtain ⟨s', h1, h2⟩ := c
      cases m with
      | zero => omega
      | succ m =>
        obtain ⟨s, g1, g2, g3⟩ := has_min m s' (by omega)
        exact ⟨s, by omega, orb_tr g2 h2, g3⟩
theorem rings_low {n : Nat} {th p q : Nat → Nat} (hp : pm n p) (hq : pm n q) (h : agr n th p q) (sep : ∀ u v, u < n → v < n → th u = 0 → th v = 0 → orb q u v → u = v) : cycN p th n + fb_ct (zB th) n ≤ ringsN q n := by
  rw [rings_split q th n]
  have e : cycN p th n = cycN q th n := cyc_same hp hq h
  have ex : ∀ u, ∃ s, s ≤ u ∧ orb q s u ∧ mnB q s = true := fun u => has_min u u (Nat.le_refl _)
  obtain ⟨f, hf⟩ := Classical.skolem.mp ex
  have := ct_inj (m := n) f n (zB th) (fun s => mnB q s && !nzB q th s) (fun i hi ha => ⟨by have := (hf i).1; omega, ?_⟩) (fun i j hi hj ha hb e => ?_)
  · omega
  · rw [Bool.and_eq_true, Bool.not_eq_true']
    refine ⟨(hf i).2.2, ?_⟩
    obtain ⟨k, hk⟩ := (hf i).2.1
    cases ez : nzB q th (f i) with
    | false => rfl
    | true => exact absurd (by rw [hk]; exact zB_iff.mp ha) (nz_iff.mp ez k)
  · have o1 := (hf i).2.1
    have o2 := (hf j).2.1
    have l := (hf i).1
    rw [← e] at o2
    exact sep i j hi hj (zB_iff.mp ha) (zB_iff.mp hb) (orb_tr (orb_sy hq (by omega) o1) o2)
/-- the none before -/
theorem last_of (P : Nat → Prop) (h0 : P 0) : ∀ m, 1 ≤ m → ∃ i, i < m ∧ P i ∧ ∀ j, i < j → j < m → ¬ P j
  | 0, h => by omega
  | 1, _ => ⟨0, by omega, h0, fun j h1 h2 => by omega⟩
  | m + 2, _ => by
    by_cases c : P (m + 1)
    · exact ⟨m + 1, by omega, c, fun j h1 h2 => by omega⟩
    · obtain ⟨i, a, b, d⟩ := last_of P h0 (m + 1) (by omega)
      refine ⟨i, by omega, b, fun j h1 h2 => ?_⟩
      by_cases e : j = m + 1
      · rw [e]; exact c
      · exact d j h1 (by omega)
theorem prevz {n : Nat} {th p : Nat → Nat} (hp : pm n p) {u : Nat} (hu : u < n) (hz : th u = 0) : ∃ v, v < n ∧ th v = 0 ∧ ∃ j, 1 ≤ j ∧ itr p j v = u ∧ ∀ i, 1 ≤ i → i < j → th (itr p i v) ≠ 0 := by
  obtain ⟨m, m1, e⟩ := period hp hu
  obtain ⟨i, h1, h2, h3⟩ := last_of (fun i => th (itr p i u) = 0) hz m m1
  refine ⟨itr p i u, itr_lt hp hu i, h2, m - i, by omega, ?_, fun k k1 k2 => ?_⟩
  · rw [← itr_add, show m - i + i = m by omega]; exact e
  · rw [← itr_add]
    exact h3 (k + i) (by omega) (by omega)
theorem best_to {n : Nat} {th p : Nat → Nat} (hp : pm n p) : ∃ v : Nat → Nat, (∀ u, u < n → th u = 0 → v u < n ∧ th (v u) = 0) ∧ (∀ a b, a < n → b < n → th a = 0 → th b = 0 → v a = v b → a = b) ∧ ∀ q, (∀ i, i < n → q i = if th i = 0 then p (v i) else p i) → ∀ a b, a < n → b < n → th a = 0 → th b = 0 → orb q a b → a = b := by
  have ex : ∀ u, ∃ v, u < n → th u = 0 → v < n ∧ th v = 0 ∧ ∃ j, 1 ≤ j ∧ itr p j v = u ∧ ∀ i, 1 ≤ i → i < j → th (itr p i v) ≠ 0 := fun u => by
    by_cases c : u < n ∧ th u = 0
    · obtain ⟨v, h⟩ := prevz hp c.1 c.2
      exact ⟨v, fun _ _ => h⟩
    · exact ⟨0, fun a b => absurd ⟨a, b⟩ c⟩
  obtain ⟨v, hv⟩ := Classical.skolem.mp ex
  refine ⟨v, fun u h1 h2 => ⟨(hv u h1 h2).1, (hv u h1 h2).2.1⟩, fun a b ha hb za zb e => ?_, fun q hq a b ha hb za zb ho => ?_⟩
  · obtain ⟨-, -, j, j1, j2, j3⟩ := hv a ha za
    obtain ⟨-, -, k, k1, k2, k3⟩ := hv b hb zb
    rw [← e] at k2 k3
    rcases Nat.lt_trichotomy j k with w | w | w
    · exact absurd (by rw [j2]; exact za) (k3 j j1 w)
    · rw [← j2, ← k2, w]
    · exact absurd (by rw [k2]; exact zb) (j3 k k1 w)
  · obtain ⟨v1, v2, j, j1, j2, j3⟩ := hv a ha za
    have walk : ∀ i, 1 ≤ i → i ≤ j → itr q i a = itr p i (v a) := by
      intro i
      induction i with
      | zero => intro h; omega
      | succ i ih =>
        intro h1 h2
        rcases Nat.eq_zero_or_pos i with c | c
        · subst c
          show q a = p (v a)
          rw [hq a ha, if_pos za]
        · rw [itr, itr, ih c (by omega), hq _ (itr_lt hp v1 i), if_neg (j3 i c (by omega))]
    have back : itr q j a = a := by rw [walk j j1 (Nat.le_refl _)]; exact j2
    obtain ⟨k, hk⟩ := ho
    have ek : k = k % j + (k / j) * j := by
      have := Nat.mod_add_div k j
      rw [Nat.mul_comm] at this
      exact this.symm
    have er : itr q k a = itr q (k % j) a := by
      rw [ek, itr_add, itr_mul back]
      congr 1
      rw [Nat.add_mul_mod_self_right, Nat.mod_mod]
    rw [er] at hk
    have ml := Nat.mod_lt k (show 0 < j by omega)
    rcases Nat.eq_zero_or_pos (k % j) with c | c
    · rw [c] at hk; exact hk
    · rw [walk _ c (by omega)] at hk
      exact absurd (by rw [hk]; exact zb) (j3 _ c ml)
