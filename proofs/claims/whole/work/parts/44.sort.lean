/-! SORT: falls of neighbours -/
def ffS (p : Nat → Nat) (n : Nat) : Nat → Option Nat
  | 0 => none
  | k + 1 => if p (n - 1 - (k + 1)) ≤ p (n - 1 - (k + 1) + 1) then ffS p n k else some (n - 1 - (k + 1))
theorem ffS_some {p : Nat → Nat} {n a : Nat} : ∀ {k}, k ≤ n - 1 → ffS p n k = some a → a + 1 < n ∧ p (a + 1) < p a
  | 0, _, h => by rw [ffS] at h; exact absurd h (by simp)
  | k + 1, hk, h => by
    rw [ffS] at h
    by_cases c : p (n - 1 - (k + 1)) ≤ p (n - 1 - (k + 1) + 1)
    · rw [if_pos c] at h
      exact ffS_some (k := k) (by omega) h
    · rw [if_neg c] at h
      injection h with h
      subst h
      exact ⟨by omega, by omega⟩
theorem ffS_none {p : Nat → Nat} {n : Nat} : ∀ {k}, k ≤ n - 1 → ffS p n k = none → ∀ a, n - 1 - k ≤ a → a + 1 < n → p a ≤ p (a + 1)
  | 0, _, h, a, h1, h2 => by omega
  | k + 1, hk, h, a, h1, h2 => by
    rw [ffS] at h
    by_cases c : p (n - 1 - (k + 1)) ≤ p (n - 1 - (k + 1) + 1)
    · rw [if_pos c] at h
      by_cases e : a = n - 1 - (k + 1)
      · rw [e]; exact c
      · exact ffS_none (k := k) (by omega) h a (by omega) h2
    · rw [if_neg c] at h
      exact absurd h (by simp)
def cl (p : Nat → Nat) (n x : Nat) : Nat → Nat
  | 0 => 0
  | k + 1 => (if p (n - (k + 1)) < x then 1 else 0) + cl p n x k
def iv (p : Nat → Nat) (n : Nat) : Nat → Nat
  | 0 => 0
  | k + 1 => cl p n (p (n - (k + 1))) k + iv p n k
theorem cl_cong {p q : Nat → Nat} {n x : Nat} : ∀ {k}, k ≤ n → (∀ i, n - k ≤ i → i < n → p i = q i) → cl p n x k = cl q n x k
  | 0, _, _ => rfl
  | k + 1, hk, h => by rw [cl, cl, h _ (by omega) (by omega), cl_cong (k := k) (by omega) (fun i h1 h2 => h i (by omega) h2)]
theorem iv_cong {p q : Nat → Nat} {n : Nat} : ∀ {k}, k ≤ n → (∀ i, n - k ≤ i → i < n → p i = q i) → iv p n k = iv q n k
  | 0, _, _ => rfl
  | k + 1, hk, h => by rw [iv, iv, h _ (by omega) (by omega), iv_cong (k := k) (by omega) (fun i h1 h2 => h i (by omega) h2), cl_cong (k := k) (by omega) (fun i h1 h2 => h i (by omega) h2)]
theorem cl_le {p : Nat → Nat} {n x : Nat} : ∀ k, cl p n x k ≤ k
  | 0 => Nat.le_refl _
  | k + 1 => by
    have := cl_le (p := p) (n := n) (x := x) k
    rw [cl]
    split <;> omega
def tri : Nat → Nat
  | 0 => 0
  | k + 1 => k + tri k
theorem iv_tri {p : Nat → Nat} {n : Nat} : ∀ k, iv p n k ≤ tri k
  | 0 => Nat.le_refl _
  | k + 1 => by
    have := iv_tri (p := p) (n := n) k
    have := cl_le (p := p) (n := n) (x := p (n - (k + 1))) k
    rw [iv, tri]
    omega
theorem tri_21 : ∀ n, n < 8 → tri n ≤ 21 := by decide
theorem swp_o {p : Nat → Nat} {a i : Nat} (h1 : i ≠ a) (h2 : i ≠ a + 1) : swp p a (a + 1) i = p i := by
  unfold swp
  rw [if_neg h2, if_neg h1]
theorem swp_a {p : Nat → Nat} {a : Nat} : swp p a (a + 1) a = p (a + 1) := by
  unfold swp
  rw [if_neg (by omega), if_pos rfl]
theorem swp_b {p : Nat → Nat} {a : Nat} : swp p a (a + 1) (a + 1) = p a := by
  unfold swp
  rw [if_pos rfl]
theorem cl_swp {p : Nat → Nat} {n a r : Nat} (hn : a + 2 + r = n) (x : Nat) : ∀ m, m ≤ a → cl (swp p a (a + 1)) n x (r + 2 + m) = cl p n x (r + 2 + m)
  | 0, _ => by
    rw [Nat.add_zero, cl, cl, cl, cl, cl_cong (p := swp p a (a + 1)) (q := p) (k := r) (by omega) (fun i h1 h2 => swp_o (by omega) (by omega)), show n - (r + 1) = a + 1 by omega, show n - (r + 1 + 1) = a by omega, swp_a, swp_b]
    omega
  | m + 1, hm => by rw [← Nat.add_assoc, cl, cl, cl_swp hn x m (by omega), swp_o (by omega) (by omega)]
theorem iv_swp {p : Nat → Nat} {n a r : Nat} (hn : a + 2 + r = n) (hf : p (a + 1) < p a) : ∀ m, m ≤ a → iv p n (r + 2 + m) = iv (swp p a (a + 1)) n (r + 2 + m) + 1
  | 0, _ => by
    rw [Nat.add_zero, iv, iv, iv, iv, iv_cong (p := swp p a (a + 1)) (q := p) (k := r) (by omega) (fun i h1 h2 => swp_o (by omega) (by omega)), show n - (r + 1) = a + 1 by omega, show n - (r + 1 + 1) = a by omega, swp_a, swp_b, cl, cl, show n - (r + 1) = a + 1 by omega, swp_b, cl_cong (p := swp p a (a + 1)) (q := p) (k := r) (by omega) (fun i h1 h2 => swp_o (by omega) (by omega)), cl_cong (p := swp p a (a + 1)) (q := p) (k := r) (by omega) (fun i h1 h2 => swp_o (by omega) (by omega)), if_pos hf, if_neg (by omega)]
    omega
  | m + 1, hm => by
    rw [← Nat.add_assoc, iv, iv, iv_swp hn hf m (by omega), swp_o (by omega) (by omega), cl_swp hn _ m (by omega)]
    omega
theorem iv_fall {p : Nat → Nat} {n a : Nat} (ha : a + 1 < n) (hf : p (a + 1) < p a) : iv p n n = iv (swp p a (a + 1)) n n + 1 := by
  have := iv_swp (p := p) (n := n) (a := a) (r := n - (a + 2)) (by omega) hf a (Nat.le_refl _)
  rw [show n - (a + 2) + 2 + a = n by omega] at this
  exact this
theorem mono_ {p : Nat → Nat} {n : Nat} (h : ∀ a, a + 1 < n → p a ≤ p (a + 1)) (i : Nat) : ∀ m, i + m < n → p i ≤ p (i + m)
  | 0, _ => Nat.le_refl _
  | m + 1, hm => Nat.le_trans (mono_ h i m (by omega)) (h (i + m) (by omega))
theorem cl_0 {p : Nat → Nat} {n x : Nat} : ∀ k, (∀ i, n - k ≤ i → i < n → x ≤ p i) → k ≤ n → cl p n x k = 0
  | 0, _, _ => rfl
  | k + 1, h, hk => by rw [cl, if_neg (by have := h (n - (k + 1)) (by omega) (by omega); omega), cl_0 k (fun i h1 h2 => h i (by omega) h2) (by omega)]
theorem iv_0 {p : Nat → Nat} {n : Nat} (h : ∀ a, a + 1 < n → p a ≤ p (a + 1)) : ∀ k, k ≤ n → iv p n k = 0
  | 0, _ => rfl
  | k + 1, hk => by
    rw [iv, iv_0 h k (by omega), cl_0 k (fun i h1 h2 => ?_) (by omega)]
    have := mono_ h (n - (k + 1)) (i - (n - (k + 1))) (by omega)
    rw [show n - (k + 1) + (i - (n - (k + 1))) = i by omega] at this
    exact this
def fallAt (n : Nat) : Nat → (Nat → Nat) → Option Nat
  | 0, p => ffS p n (n - 1)
  | k + 1, p => match ffS p n (n - 1) with
    | none => none
    | some a => fallAt n k (swp p a (a + 1))
def encN (o : Option Nat) : Int32 := match o with | none => -1000000 | some a => nI a
def prm (n : Nat) (p : Nat → Nat) : Prop := ∀ i, i < n → p i < 8
theorem prm_swp {n a : Nat} {p : Nat → Nat} (h : prm n p) (ha : a + 1 < n) : prm n (swp p a (a + 1)) := by
  intro i hi
  unfold swp
  split
  · exact h a (by omega)
  · split
    · exact h (a + 1) ha
    · exact h i hi
/-- the class's first fall -/
theorem c2_ff (d n : Nat) (p : Nat → Nat) (M : Mm) (Q : Int32 → Mm → Prop) (h7 : n ≤ 7) (hp : prm n p) (hM : ∀ i, i < n → M 42 i = nI (p i)) : ∀ k, k ≤ n - 1 → Q (encN (ffS p n k)) M → BX2_firstFall d 2 [(0, .ref 40), (1, .int (nI n)), (2, .int (nI (n - 1 - k)))] [] M Q
  | 0, _, h => by
    apply rX2_firstFall_2
    rw [nI_1]
    exact ⟨fun _ => h, fun q => absurd (nI_le (by omega) (by omega)) q⟩
  | k + 1, hk, h => by
    apply rX2_firstFall_2
    have e : n - 1 - (k + 1) + 1 = n - 1 - k := by omega
    have b1 := hp (n - 1 - (k + 1)) (by omega)
    have b2 := hp (n - 1 - (k + 1) + 1) (by omega)
    rw [ffS] at h
    rw [nI_1, nI_clamp (by omega), nI_clamp (by omega), hM _ (by omega), hM _ (by omega)]
    simp (disch := omega) only [nI_leI]
    refine ⟨fun q => by omega, fun _ => ⟨vp_in_nI (by omega) (by omega), vp_in_nI (by omega) (by omega), fun q => ?_, fun q => ?_⟩⟩
    · rw [if_pos q] at h
      rw [e]
      exact c2_ff d n p M Q h7 hp hM k (by omega) h
    · rw [if_neg q] at h
      exact h
theorem c2_firstFall (d n : Nat) (p : Nat → Nat) (M : Mm) (Q : Int32 → Mm → Prop) (h7 : n ≤ 7) (hn : 1 ≤ n) (hp : prm n p) (hM : ∀ i, i < n → M 42 i = nI (p i)) (h : Q (encN (ffS p n (n - 1))) M) : kX2_firstFall d (nI n) M Q := by
  apply rX2_firstFall
  have := c2_ff d n p M Q h7 hp hM (n - 1) (Nat.le_refl _) h
  rw [Nat.sub_self] at this
  exact this
theorem c2_nch (d n k : Nat) (Q : Int32 → Mm → Prop) (h7 : n ≤ 7) (hn : 1 ≤ n) (hk : k < 2 ^ 31) : ∀ (m : Nat) (p : Nat → Nat) (M : Mm) (i : Nat) (last : Int32), iv p n n = m → m + i ≤ 21 → i ≤ k → prm n p → M 23 2 = nI n → (∀ i, i < n → M 42 i = nI (p i)) → (∀ M', (∀ q, q ≠ 42 → M' q = M q) → Q (encN (fallAt n (k - i) p)) M') → BX2_neighbourChange (d + 1) 6 [(0, .ref 40), (1, .ref 23), (2, .int (nI k)), (3, .int last), (4, .int (nI i))] [] M Q := by
  intro m
  induction m with
  | zero =>
    intro p M i last hm h21 hik hp h23 hM h
    apply rX2_neighbourChange_6 _ _ rg23
    rw [h23]
    refine ⟨fun q => absurd q (nI_nlt (by omega) (by omega)), fun _ => ⟨fun q => absurd q (by rw [li_21]; exact nI_nlt (by omega) (by omega)), fun _ => ?_⟩⟩
    refine c2_firstFall d n p M _ h7 hn hp hM ?_
    have hf : ffS p n (n - 1) = none := by
      cases e : ffS p n (n - 1) with
      | none => rfl
      | some a =>
        have f := ffS_some (Nat.le_refl _) e
        have := iv_fall f.1 f.2
        omega
    have := h M (fun _ _ => rfl)
    have ef : fallAt n (k - i) p = none := by
      cases ki : k - i with
      | zero => rw [fallAt]; exact hf
      | succ x => rw [fallAt, hf]
    rw [ef] at this
    rw [hf]
    exact ⟨fun q => absurd q (by decide), fun _ => this⟩
  | succ m ih =>
    intro p M i last hm h21 hik hp h23 hM h
    apply rX2_neighbourChange_6 _ _ rg23
    rw [h23]
    refine ⟨fun q => absurd q (nI_nlt (by omega) (by omega)), fun _ => ⟨fun q => absurd q (by rw [li_21]; exact nI_nlt (by omega) (by omega)), fun _ => ?_⟩⟩
    refine c2_firstFall d n p M _ h7 hn hp hM ?_
    cases e : ffS p n (n - 1) with
    | none =>
      have := iv_0 (fun a ha => ffS_none (Nat.le_refl _) e a (by omega) ha) n (Nat.le_refl _)
      omega
    | some a =>
      have f := ffS_some (Nat.le_refl _) e
      have fi := iv_fall f.1 f.2
      refine ⟨fun _ => ?_, fun q => absurd (nI_pos' (by omega)) q⟩
      show vp_in (nI a) 7 ∧ vp_in (nI a + 1) 7 ∧ vp_in (nI a) 7 ∧ (∀ M2, M2 = (upd2 M 42 (nI a).toNatClampNeg (M 42 (nI a + 1).toNatClampNeg)) → vp_in (nI a + 1) 7 ∧ (∀ M3, M3 = (upd2 M2 42 (nI a + 1).toNatClampNeg (M 42 (nI a).toNatClampNeg)) → BX2_neighbourChange (d + 1) 6 [(0, .ref 40), (1, .ref 23), (2, .int (nI k)), (3, .int (nI a)), (4, .int (nI i + 1))] [] M3 Q))
      rw [nI_1, nI_clamp (by omega), nI_clamp (by omega), nI_1, hM _ (by omega), hM _ (by omega)]
      refine ⟨vp_in_nI (by omega) (by omega), vp_in_nI (by omega) (by omega), vp_in_nI (by omega) (by omega), ?_⟩
      rintro M2 rfl
      refine ⟨vp_in_nI (by omega) (by omega), ?_⟩
      rintro M3 rfl
      have fr : ∀ q, q ≠ 42 → upd2 (upd2 M 42 a (nI (p (a + 1)))) 42 (a + 1) (nI (p a)) q = M q := fun q hq => by rw [upd2_off hq, upd2_off hq]
      by_cases c : i = k
      · subst c
        apply rX2_neighbourChange_6 _ _ rg23
        refine ⟨fun _ => ?_, fun q => absurd (nI_lt (by omega) (by omega)) q⟩
        have := h _ fr
        rw [Nat.sub_self, fallAt, e] at this
        exact this
      · refine ih (swp p a (a + 1)) _ (i + 1) (nI a) (by omega) (by omega) (by omega) (prm_swp hp f.1) (by rw [fr 23 (by omega)]; exact h23) (fun x hx => ?_) (fun M' g => ?_)
        · rw [upd2_r, upd2_r]
          unfold swp
          by_cases c1 : x = a + 1
          · rw [if_pos c1, if_pos c1]
          · rw [if_neg c1, if_neg c1]
            by_cases c2 : x = a
            · rw [if_pos c2, if_pos c2]
            · rw [if_neg c2, if_neg c2]; exact hM x hx
        · have := h M' (fun q hq => by rw [g q hq, fr q hq])
          rw [show k - i = k - (i + 1) + 1 by omega, fallAt, e] at this
          exact this
theorem c2_nc17 (d n o : Nat) (p : Nat → Nat) (M : Mm) (Q : Int32 → Mm → Prop) (h7 : n ≤ 7) (ho : o < n) (hp : prm n p) (h23 : M 23 2 = nI n) (hM : ∀ i, i < n → M 42 i = nI (p i)) : ∀ (k acc : Nat), k ≤ n → BX2_neighbourChanges d 4 [(0, .ref 40), (1, .ref 23), (2, .int (nI (acc + cl p n (p o) k))), (3, .int (nI (o + 1)))] [] M Q → BX2_neighbourChanges d 17 [(0, .ref 40), (1, .ref 23), (2, .int (nI acc)), (3, .int (nI o)), (4, .int (nI (n - k)))] [] M Q
  | 0, acc, _, h => by
    apply rX2_neighbourChanges_17 _ _ rg23
    rw [h23, nI_1]
    exact ⟨fun _ => h, fun q => absurd (nI_le (by omega) (by omega)) q⟩
  | k + 1, acc, hk, h => by
    apply rX2_neighbourChanges_17 _ _ rg23
    have e : n - (k + 1) + 1 = n - k := by omega
    have b1 := hp o ho
    have b2 := hp (n - (k + 1)) (by omega)
    rw [cl] at h
    rw [h23, nI_clamp (by omega), nI_clamp (by omega), hM _ (by omega), hM _ (by omega), show nI (n - (k + 1)) + 1 = nI (n - k) by rw [nI_1, e], nI_1, nI_1]
    refine ⟨fun q => absurd q (nI_ge (by omega) (by omega)), fun _ => ⟨vp_in_nI (by omega) (by omega), vp_in_nI (by omega) (by omega), fun q => ?_, fun q => ?_⟩⟩
    · simp (disch := omega) only [nI_leI] at q
      rw [if_neg (by omega), Nat.zero_add] at h
      exact c2_nc17 d n o p M Q h7 ho hp h23 hM k acc (by omega) h
    · simp (disch := omega) only [nI_leI] at q
      rw [if_pos (by omega), ← Nat.add_assoc] at h
      exact c2_nc17 d n o p M Q h7 ho hp h23 hM k (acc + 1) (by omega) h
theorem c2_nc4 (d n : Nat) (p : Nat → Nat) (M : Mm) (Q : Int32 → Mm → Prop) (h7 : n ≤ 7) (hp : prm n p) (h23 : M 23 2 = nI n) (hM : ∀ i, i < n → M 42 i = nI (p i)) : ∀ (k acc : Nat), k ≤ n → Q (nI (acc + iv p n k)) M → BX2_neighbourChanges d 4 [(0, .ref 40), (1, .ref 23), (2, .int (nI acc)), (3, .int (nI (n - k)))] [] M Q
  | 0, acc, _, h => by
    apply rX2_neighbourChanges_4 _ _ rg23
    rw [h23]
    exact ⟨fun _ => h, fun q => absurd (nI_le (by omega) (by omega)) q⟩
  | k + 1, acc, hk, h => by
    apply rX2_neighbourChanges_4 _ _ rg23
    have e : n - (k + 1) + 1 = n - k := by omega
    rw [iv, ← Nat.add_assoc] at h
    rw [h23, nI_1, e]
    refine ⟨fun q => absurd q (nI_ge (by omega) (by omega)), fun _ => ?_⟩
    refine c2_nc17 d n (n - (k + 1)) p M Q h7 (by omega) hp h23 hM k acc (by omega) ?_
    rw [e]
    exact c2_nc4 d n p M Q h7 hp h23 hM k _ (by omega) h
/-- the reference sorts -/
theorem c8_scan (d n : Nat) (v3 : Int32) (cnt : Nat) (p : Nat → Nat) (M : Mm) (Q : Int32 → Mm → Prop) (h7 : n ≤ 7) (hp : prm n p) (h50 : M 50 0 = nI n) (hM : ∀ i, i < n → M 57 i = nI (p i)) : ∀ k, k ≤ n - 1 → (match ffS p n k with
      | none => (0 ≤ v3 → Q (-1000000) M) ∧ (¬ 0 ≤ v3 → Q (nI cnt) M)
      | some a => (¬ nI cnt = v3 → BX8_sort (d + 1) 76 [(0, .ref 49), (3, .int v3), (5, .int (nI (cnt + 1))), (6, .int 0)] [] (upd2 (upd2 M 57 a (nI (p (a + 1)))) 57 (a + 1) (nI (p a))) Q) ∧ (nI cnt = v3 → Q (nI a) M)) → BX8_sort (d + 1) 76 [(0, .ref 49), (3, .int v3), (5, .int (nI cnt)), (6, .int (nI (n - 1 - k)))] [] M Q
  | 0, _, h => by
    apply rX8_sort_76
    rw [clamp0, h50, nI_1]
    exact ⟨vp_in_nI (n := 0) (by omega) (by omega), fun _ => h, fun q => absurd (nI_le (by omega) (by omega)) q⟩
  | k + 1, hk, h => by
    apply rX8_sort_76
    have e : n - 1 - (k + 1) + 1 = n - 1 - k := by omega
    have b1 := hp (n - 1 - (k + 1)) (by omega)
    have b2 := hp (n - 1 - (k + 1) + 1) (by omega)
    rw [ffS] at h
    rw [clamp0, h50, nI_1, nI_clamp (by omega), nI_clamp (by omega), hM _ (by omega), hM _ (by omega)]
    refine ⟨vp_in_nI (n := 0) (by omega) (by omega), fun q => absurd q (nI_ge (by omega) (by omega)), fun _ => ⟨vp_in_nI (by omega) (by omega), vp_in_nI (by omega) (by omega), fun q => ?_, fun q => ?_⟩⟩
    · simp (disch := omega) only [nI_leI] at q
      rw [if_pos q] at h
      rw [e]
      exact c8_scan d n v3 cnt p M Q h7 hp h50 hM k (by omega) h
    · simp (disch := omega) only [nI_leI] at q
      rw [if_neg q] at h
      refine ⟨fun z => ⟨vp_in_nI (by omega) (by omega), vp_in_nI (by omega) (by omega), vp_in_nI (by omega) (by omega), ?_⟩, h.2⟩
      rintro M1 rfl
      refine ⟨vp_in_nI (by omega) (by omega), ?_⟩
      rintro M2 rfl
      rw [nI_1]
      exact h.1 z
theorem c8_srt (d n : Nat) (v3 : Int32) (Q : Int32 → Mm → Prop) (h7 : n ≤ 7) (hn : 1 ≤ n) : ∀ (m : Nat) (p : Nat → Nat) (M : Mm) (cnt : Nat), iv p n n = m → cnt < 2 ^ 30 - m → (v3 = -1 ∨ ∃ k, cnt ≤ k ∧ k < 2 ^ 31 ∧ v3 = nI k) → prm n p → M 50 0 = nI n → (∀ i, i < n → M 57 i = nI (p i)) → (∀ M', (∀ q, q ≠ 57 → M' q = M q) → (v3 = -1 → Q (nI (cnt + m)) M') ∧ (∀ k, cnt ≤ k → k < 2 ^ 31 → v3 = nI k → Q (encN (fallAt n (k - cnt) p)) M')) → BX8_sort (d + 1) 76 [(0, .ref 49), (3, .int v3), (5, .int (nI cnt)), (6, .int 0)] [] M Q := by
  intro m
  induction m with
  | zero =>
    intro p M cnt hm hc hv hp h50 hM h
    have hf : ffS p n (n - 1) = none := by
      cases e : ffS p n (n - 1) with
      | none => rfl
      | some a =>
        have f := ffS_some (Nat.le_refl _) e
        have := iv_fall f.1 f.2
        omega
    have := c8_scan d n v3 cnt p M Q h7 hp h50 hM (n - 1) (Nat.le_refl _) ?_
    · rw [Nat.sub_self] at this
      exact this
    · rw [hf]
      have hh := h M (fun _ _ => rfl)
      rcases hv with rfl | ⟨k, hk, hk2, rfl⟩
      · exact ⟨fun q => absurd q (by decide), fun _ => hh.1 rfl⟩
      · have := hh.2 k hk hk2 rfl
        have ef : fallAt n (k - cnt) p = none := by
          cases ki : k - cnt with
          | zero => rw [fallAt]; exact hf
          | succ x => rw [fallAt, hf]
        rw [ef] at this
        exact ⟨fun _ => this, fun q => absurd (nI_pos' (by omega)) q⟩
  | succ m ih =>
    intro p M cnt hm hc hv hp h50 hM h
    have := c8_scan d n v3 cnt p M Q h7 hp h50 hM (n - 1) (Nat.le_refl _) ?_
    · rw [Nat.sub_self] at this
      exact this
    · cases e : ffS p n (n - 1) with
      | none =>
        have := iv_0 (fun a ha => ffS_none (Nat.le_refl _) e a (by omega) ha) n (Nat.le_refl _)
        omega
      | some a =>
        have f := ffS_some (Nat.le_refl _) e
        have fi := iv_fall f.1 f.2
        have fr : ∀ q, q ≠ 57 → upd2 (upd2 M 57 a (nI (p (a + 1)))) 57 (a + 1) (nI (p a)) q = M q := fun q hq => by rw [upd2_off hq, upd2_off hq]
        refine ⟨fun z => ?_, fun z => ?_⟩
        · refine ih (swp p a (a + 1)) _ (cnt + 1) (by omega) (by omega) ?_ (prm_swp hp f.1) (by rw [fr 50 (by omega)]; exact h50) (fun x hx => ?_) (fun M' g => ?_)
          · rcases hv with q | ⟨k, hk, hk2, rfl⟩
            · exact Or.inl q
            · refine Or.inr ⟨k, ?_, hk2, rfl⟩
              rcases Nat.lt_or_ge cnt k with w | w
              · omega
              · exact absurd (by rw [show cnt = k by omega]) z
          · rw [upd2_r, upd2_r]
            unfold swp
            by_cases c1 : x = a + 1
            · rw [if_pos c1, if_pos c1]
            · rw [if_neg c1, if_neg c1]
              by_cases c2 : x = a
              · rw [if_pos c2, if_pos c2]
              · rw [if_neg c2, if_neg c2]; exact hM x hx
          · have hh := h M' (fun q hq => by rw [g q hq, fr q hq])
            refine ⟨fun q => ?_, fun k k1 k2 k3 => ?_⟩
            · rw [show cnt + 1 + m = cnt + (m + 1) by omega]
              exact hh.1 q
            · have := hh.2 k (by omega) k2 k3
              rw [show k - cnt = k - (cnt + 1) + 1 by omega, fallAt, e] at this
              exact this
        · have hh := (h M (fun _ _ => rfl)).2 cnt (Nat.le_refl _) (by omega) z.symm
          rw [Nat.sub_self, fallAt, e] at hh
          exact hh
