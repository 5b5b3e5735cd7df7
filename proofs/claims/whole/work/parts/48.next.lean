/-! BEGAN: the next greater row -/
def riS (q : Nat → Nat) : Nat → Option Nat
  | 0 => none
  | k + 1 => if q k < q (k + 1) then some k else riS q k
def grS (q : Nat → Nat) (a : Nat) : Nat → Nat
  | 0 => 0
  | b + 1 => if q a < q b then b else grS q a b
def rvS (q : Nat → Nat) (lo hi : Nat) : Nat → Nat := fun i => if lo ≤ i ∧ i ≤ hi then q (lo + hi - i) else q i
def nxR (q : Nat → Nat) (n : Nat) : Option (Nat → Nat) := match riS q (n - 1) with
  | none => none
  | some a => some (rvS (swp q a (grS q a n)) (a + 1) (n - 1))
theorem riS_ok {q : Nat → Nat} {a : Nat} : ∀ {k}, riS q k = some a → a < k ∧ q a < q (a + 1)
  | 0, h => by rw [riS] at h; exact absurd h (by simp)
  | k + 1, h => by
    rw [riS] at h
    by_cases c : q k < q (k + 1)
    · rw [if_pos c] at h
      injection h with h
      subst h
      exact ⟨by omega, c⟩
    · rw [if_neg c] at h
      have := riS_ok (k := k) h
      exact ⟨by omega, this.2⟩
theorem grS_ok {q : Nat → Nat} {a : Nat} (h : q a < q (a + 1)) : ∀ k, a + 2 ≤ k → a < grS q a k ∧ grS q a k < k
  | 0, hk => by omega
  | k + 1, hk => by
    rw [grS]
    by_cases c : q a < q k
    · rw [if_pos c]; omega
    · rw [if_neg c]
      have : k ≠ a + 1 := fun z => c (by rw [z]; exact h)
      have := grS_ok h k (by omega)
      omega
/-- rows that are alike in order -/
theorem riS_map {q r g : Nat → Nat} : ∀ {k}, (∀ i, i ≤ k → r i = g (q i)) → (∀ i j, i ≤ k → j ≤ k → (g (q i) < g (q j) ↔ q i < q j)) → riS r k = riS q k
  | 0, _, _ => rfl
  | k + 1, h, m => by
    rw [riS, riS, riS_map (k := k) (fun i hi => h i (by omega)) (fun i j h1 h2 => m i j (by omega) (by omega)), h k (by omega), h (k + 1) (by omega)]
    by_cases c : q k < q (k + 1)
    · rw [if_pos c, if_pos ((m k (k + 1) (by omega) (by omega)).mpr c)]
    · rw [if_neg c, if_neg (fun z => c ((m k (k + 1) (by omega) (by omega)).mp z))]
theorem grS_map {q r g : Nat → Nat} {a n : Nat} (ha : a < n) : ∀ {k}, k ≤ n → (∀ i, i < n → r i = g (q i)) → (∀ i j, i < n → j < n → (g (q i) < g (q j) ↔ q i < q j)) → grS r a k = grS q a k
  | 0, _, _, _ => rfl
  | k + 1, hk, h, m => by
    rw [grS, grS, grS_map ha (k := k) (by omega) h m, h k (by omega), h a ha]
    by_cases c : q a < q k
    · rw [if_pos c, if_pos ((m a k ha (by omega)).mpr c)]
    · rw [if_neg c, if_neg (fun z => c ((m a k ha (by omega)).mp z))]
theorem swp_map {q r g : Nat → Nat} {a b n : Nat} (ha : a < n) (hb : b < n) (h : ∀ i, i < n → r i = g (q i)) : ∀ i, i < n → swp r a b i = g (swp q a b i) := by
  intro i hi
  unfold swp
  split
  · exact h a ha
  · split
    · exact h b hb
    · exact h i hi
theorem rvS_map {q r g : Nat → Nat} {lo n : Nat} (h : ∀ i, i < n → r i = g (q i)) : ∀ i, i < n → rvS r lo (n - 1) i = g (rvS q lo (n - 1) i) := by
  intro i hi
  unfold rvS
  split
  · exact h _ (by omega)
  · exact h i hi
theorem nxR_map {q r g : Nat → Nat} {n : Nat} (h2 : 2 ≤ n) (h : ∀ i, i < n → r i = g (q i)) (m : ∀ i j, i < n → j < n → (g (q i) < g (q j) ↔ q i < q j)) : (nxR q n = none → nxR r n = none) ∧ (∀ q', nxR q n = some q' → ∃ r', nxR r n = some r' ∧ ∀ i, i < n → r' i = g (q' i)) := by
  have e := riS_map (q := q) (r := r) (g := g) (k := n - 1) (fun i hi => h i (by omega)) (fun i j h1 h2 => m i j (by omega) (by omega))
  unfold nxR
  rw [e]
  cases f : riS q (n - 1) with
  | none => exact ⟨fun _ => rfl, fun q' z => absurd z (by simp)⟩
  | some a =>
    refine ⟨fun z => absurd z (by simp), fun q' z => ?_⟩
    have fo := riS_ok f
    have go := grS_ok fo.2 n (by omega)
    refine ⟨_, rfl, ?_⟩
    injection z with z
    subst z
    rw [grS_map (q := q) (r := r) (g := g) (a := a) (n := n) (by omega) (Nat.le_refl n) h m]
    exact rvS_map (swp_map (by omega) go.2 h)
/-- the rows by their number -/
def unr : Nat → Nat → List Nat → Nat → List Nat
  | 0, _, _, _ => []
  | f + 1, z, S, k => if 0 < z ∧ k < Wy (z + S.length - 1) (z - 1) then 0 :: unr f (z - 1) S k else
      (S.getD ((k - if 0 < z then Wy (z + S.length - 1) (z - 1) else 0) / Wy (z + S.length - 1) z) 0) :: unr f z (S.eraseIdx ((k - if 0 < z then Wy (z + S.length - 1) (z - 1) else 0) / Wy (z + S.length - 1) z)) ((k - if 0 < z then Wy (z + S.length - 1) (z - 1) else 0) % Wy (z + S.length - 1) z)
def lab (n z k : Nat) : List Nat := unr n z (List.range' 1 (n - z)) k
def codeOf : List Nat → Nat
  | [] => 0
  | x :: t => x + 8 * codeOf t
def rcode (n z k : Nat) : Nat := codeOf (lab n z k)
def labF (c : Nat) : Nat → Nat := fun i => c / 8 ^ i % 8
def sameN (q : Nat → Nat) (c b : Nat) : Nat → Bool
  | 0 => true
  | i + 1 => Nat.beq (q i) (labF c i) && (Nat.ble (labF c i) b && sameN q c b i)
theorem sameN_ok {q : Nat → Nat} {c b : Nat} : ∀ {m}, sameN q c b m = true → ∀ i, i < m → q i = labF c i ∧ labF c i ≤ b
  | 0, _, i, h => by omega
  | m + 1, h, i, hi => by
    rw [sameN, Bool.and_eq_true, Bool.and_eq_true] at h
    by_cases e : i = m
    · rw [e]; exact ⟨Nat.eq_of_beq_eq_true h.1, Nat.le_of_ble_eq_true h.2.1⟩
    · exact sameN_ok h.2.2 i (by omega)
def sameTo (n b : Nat) (o : Option (Nat → Nat)) (c : Nat) : Bool := match o with
  | none => false
  | some q => sameN q c b n
def chk (n z k : Nat) : Bool := sameTo n (n - z) (nxR (labF (rcode n z k)) n) (rcode n z (k + 1))
def lst (n z : Nat) : Bool := match nxR (labF (rcode n z (Wy n z - 1))) n with
  | none => true
  | some _ => false
theorem lst_ok : ∀ n, n < 8 → 2 ≤ n → ∀ z, z < 8 → 1 ≤ z → z ≤ n → lst n z = true := by decide +kernel
theorem beg_ok : ∀ n, n < 8 → 2 ≤ n → ∀ z, z < 8 → 1 ≤ z → z ≤ n → sameN (fun i => if i < z then 0 else i - z + 1) (rcode n z 0) (n - z) n = true := by decide +kernel
def allK (f : Nat → Bool) (a : Nat) : Nat → Bool
  | 0 => true
  | k + 1 => f (a + k) && allK f a k
theorem allK_ok {f : Nat → Bool} {a : Nat} : ∀ {m}, allK f a m = true → ∀ k, a ≤ k → k < a + m → f k = true
  | 0, _, k, h1, hk => by omega
  | m + 1, h, k, h1, hk => by
    rw [allK, Bool.and_eq_true] at h
    by_cases c : k = a + m
    · rw [c]; exact h.1
    · exact allK_ok h.2 k h1 (by omega)
theorem chk2 : ∀ z, z < 3 → 1 ≤ z → allK (chk 2 z) 0 (Wy 2 z - 1) = true := by decide +kernel
theorem chk3 : ∀ z, z < 4 → 1 ≤ z → allK (chk 3 z) 0 (Wy 3 z - 1) = true := by decide +kernel
theorem chk4 : ∀ z, z < 5 → 1 ≤ z → allK (chk 4 z) 0 (Wy 4 z - 1) = true := by decide +kernel
theorem chk5 : ∀ z, z < 6 → 1 ≤ z → allK (chk 5 z) 0 (Wy 5 z - 1) = true := by decide +kernel
theorem chk6 : ∀ z, z < 7 → 1 ≤ z → allK (chk 6 z) 0 (Wy 6 z - 1) = true := by decide +kernel
