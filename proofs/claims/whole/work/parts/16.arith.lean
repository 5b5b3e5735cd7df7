/-! whole numbers that stand in Int32, by simp -/
theorem li_0 : (0 : Int32) = nI 0 := rfl
theorem li_1 : (1 : Int32) = nI 1 := rfl
theorem li_2 : (2 : Int32) = nI 2 := rfl
theorem li_3 : (3 : Int32) = nI 3 := rfl
theorem li_4 : (4 : Int32) = nI 4 := rfl
theorem li_5 : (5 : Int32) = nI 5 := rfl
theorem li_6 : (6 : Int32) = nI 6 := rfl
theorem li_7 : (7 : Int32) = nI 7 := rfl
theorem li_8 : (8 : Int32) = nI 8 := rfl
theorem li_9 : (9 : Int32) = nI 9 := rfl
theorem li_10 : (10 : Int32) = nI 10 := rfl
theorem li_11 : (11 : Int32) = nI 11 := rfl
theorem li_12 : (12 : Int32) = nI 12 := rfl
theorem li_13 : (13 : Int32) = nI 13 := rfl
theorem li_14 : (14 : Int32) = nI 14 := rfl
theorem li_15 : (15 : Int32) = nI 15 := rfl
theorem li_16 : (16 : Int32) = nI 16 := rfl
theorem li_17 : (17 : Int32) = nI 17 := rfl
theorem li_18 : (18 : Int32) = nI 18 := rfl
theorem li_19 : (19 : Int32) = nI 19 := rfl
theorem li_20 : (20 : Int32) = nI 20 := rfl
theorem li_21 : (21 : Int32) = nI 21 := rfl
theorem li_22 : (22 : Int32) = nI 22 := rfl
theorem li_23 : (23 : Int32) = nI 23 := rfl
theorem li_24 : (24 : Int32) = nI 24 := rfl
theorem li_25 : (25 : Int32) = nI 25 := rfl
theorem li_26 : (26 : Int32) = nI 26 := rfl
theorem li_27 : (27 : Int32) = nI 27 := rfl
theorem li_28 : (28 : Int32) = nI 28 := rfl
theorem li_29 : (29 : Int32) = nI 29 := rfl
theorem li_30 : (30 : Int32) = nI 30 := rfl
theorem li_31 : (31 : Int32) = nI 31 := rfl
theorem li_32 : (32 : Int32) = nI 32 := rfl
theorem li_33 : (33 : Int32) = nI 33 := rfl
theorem li_34 : (34 : Int32) = nI 34 := rfl
theorem li_35 : (35 : Int32) = nI 35 := rfl
theorem li_36 : (36 : Int32) = nI 36 := rfl
theorem li_37 : (37 : Int32) = nI 37 := rfl
theorem li_38 : (38 : Int32) = nI 38 := rfl
theorem li_39 : (39 : Int32) = nI 39 := rfl
theorem li_40 : (40 : Int32) = nI 40 := rfl
theorem li_41 : (41 : Int32) = nI 41 := rfl
theorem li_42 : (42 : Int32) = nI 42 := rfl
theorem li_43 : (43 : Int32) = nI 43 := rfl
theorem li_44 : (44 : Int32) = nI 44 := rfl
theorem li_45 : (45 : Int32) = nI 45 := rfl
theorem li_46 : (46 : Int32) = nI 46 := rfl
theorem li_47 : (47 : Int32) = nI 47 := rfl
theorem li_48 : (48 : Int32) = nI 48 := rfl
theorem li_49 : (49 : Int32) = nI 49 := rfl
theorem li_50 : (50 : Int32) = nI 50 := rfl
theorem li_51 : (51 : Int32) = nI 51 := rfl
theorem li_52 : (52 : Int32) = nI 52 := rfl
theorem li_53 : (53 : Int32) = nI 53 := rfl
theorem li_54 : (54 : Int32) = nI 54 := rfl
theorem li_55 : (55 : Int32) = nI 55 := rfl
theorem li_56 : (56 : Int32) = nI 56 := rfl
theorem li_57 : (57 : Int32) = nI 57 := rfl
theorem li_58 : (58 : Int32) = nI 58 := rfl
theorem li_59 : (59 : Int32) = nI 59 := rfl
theorem li_60 : (60 : Int32) = nI 60 := rfl
theorem li_61 : (61 : Int32) = nI 61 := rfl
theorem li_62 : (62 : Int32) = nI 62 := rfl
theorem li_63 : (63 : Int32) = nI 63 := rfl
theorem li_68 : (68 : Int32) = nI 68 := rfl
theorem li_85 : (85 : Int32) = nI 85 := rfl
theorem li_100 : (100 : Int32) = nI 100 := rfl
theorem li_200 : (200 : Int32) = nI 200 := rfl
theorem li_216 : (216 : Int32) = nI 216 := rfl
theorem li_255 : (255 : Int32) = nI 255 := rfl
theorem li_301 : (301 : Int32) = nI 301 := rfl
theorem li_999 : (999 : Int32) = nI 999 := rfl
theorem li_1000 : (1000 : Int32) = nI 1000 := rfl
theorem li_9999 : (9999 : Int32) = nI 9999 := rfl
theorem s_l32 : ∀ n, n < 32 → ((nI n &&& 31).toBitVec.smod 32).toNat = n := by decide +kernel
theorem vpT {k N : Nat} (h : k < N) (hN : N < 2 ^ 31) : vp_in (nI k) N = True := eq_true (vp_in_nI h hN)
theorem irem_nI {a d : Nat} (ha : a < 2 ^ 31) (h0 : 0 < d) (hd : d < 2 ^ 31) : irem (nI a) (nI d) = nI (a % d) := pk_rem ha h0 hd
theorem ishr_nI {a k : Nat} (ha : a < 2 ^ 31) (hk : k < 32) : ishr (nI a) (nI k) = nI (a / 2 ^ k) := pk_shrN ha _ k (s_l32 k hk)
theorem ishl_nI {a k : Nat} (hk : k < 32) (h : a * 2 ^ k < 2 ^ 32) : ishl (nI a) (nI k) = nI (a * 2 ^ k) := pk_shlN _ k (s_l32 k hk) h
theorem and1_nI {a : Nat} : nI a &&& nI 1 = nI (a % 2) := by rw [fa_and, Nat.and_one_is_mod]
theorem upd2_at {M : Mm} {k j : Nat} {x : Int32} : upd2 M k j x k j = x := by rw [upd2_eq]; exact pk_us
theorem upd2_row {M : Mm} {k j i : Nat} {x : Int32} (h : i ≠ j) : upd2 M k j x k i = M k i := by rw [upd2_eq]; exact pk_un h
theorem upd2_off {M : Mm} {k j q : Nat} {x : Int32} (h : q ≠ k) : upd2 M k j x q = M q := upd2_ne h
theorem upd2_r {M : Mm} {k j i : Nat} {x : Int32} : upd2 M k j x k i = if i = j then x else M k i := by
  by_cases h : i = j
  · subst h; rw [upd2_at, if_pos rfl]
  · rw [upd2_row h, if_neg h]
theorem bit_iff {a k : Nat} : a / 2 ^ k % 2 = 1 ↔ a.testBit k = true := by rw [Nat.testBit_eq_decide_div_mod_eq]; simp
theorem bit_iff0 {a k : Nat} : a / 2 ^ k % 2 = 0 ↔ a.testBit k = false := by rw [Nat.testBit_eq_decide_div_mod_eq]; simp
/-- small leaf contracts -/
theorem lg_lt0 (a b : Int64) : (lg_cmp a b < 0) = (a < b) := by
  unfold lg_cmp
  apply propext
  by_cases h1 : b < a
  · rw [if_pos h1]
    exact ⟨fun h => absurd h (by decide), fun h => absurd h (lg_lt_not h1)⟩
  · rw [if_neg h1]
    by_cases h2 : a = b
    · rw [if_pos h2]
      exact ⟨fun h => absurd h (by decide), fun h => absurd (h2 ▸ h) h1⟩
    · rw [if_neg h2]
      refine ⟨fun _ => ?_, fun _ => by decide⟩
      rw [fa_lt64] at *
      rw [fa_eq64] at h2
      omega
theorem lg_gt0 (a b : Int64) : (0 < lg_cmp a b) = (b < a) := by
  unfold lg_cmp
  apply propext
  by_cases h1 : b < a
  · rw [if_pos h1]
    exact ⟨fun _ => h1, fun _ => by decide⟩
  · rw [if_neg h1]
    by_cases h2 : a = b
    · rw [if_pos h2]
      exact ⟨fun h => absurd h (by decide), fun h => absurd h h1⟩
    · rw [if_neg h2]
      exact ⟨fun h => absurd h (by decide), fun h => absurd h h1⟩
theorem c8_in (d : Nat) (a b c : Int64) (M : Mm) (Q : Int32 → Mm → Prop) (h : Q (if b ≤ a ∧ a ≤ c then 1 else 0) M) : kX8_in d a b c M Q := by
  apply rX8_in
  rw [lg_lt0, lg_gt0]
  refine ⟨fun h1 => ?_, fun h1 => ⟨fun h2 => ?_, fun h2 => ?_⟩⟩
  · rw [if_neg (fun q => by rw [fa_lt64] at h1; rw [fa_le64] at q; omega)] at h
    exact h
  · rw [if_neg (fun q => by rw [fa_lt64] at h2; rw [fa_le64, fa_le64] at q; omega)] at h
    exact h
  · rw [if_pos (by rw [fa_lt64] at h1 h2; rw [fa_le64, fa_le64]; omega)] at h
    exact h
/-- 'in' over widened ints -/
theorem c8_inI (d : Nat) (a b c : Int32) (M : Mm) (Q : Int32 → Mm → Prop) (h : Q (if b ≤ a ∧ a ≤ c then 1 else 0) M) : kX8_in d a.toInt64 b.toInt64 c.toInt64 M Q := by
  apply c8_in
  simpa only [fa_wide_le] using h
theorem c8_has (d a k : Nat) (M : Mm) (Q : Int32 → Mm → Prop) (ha : a < 2 ^ 31) (hk : k < 32) (h : Q (if a.testBit k then 1 else 0) M) : kX8_has d (nI a) (nI k) M Q := by
  apply rX8_has
  have hm : a / 2 ^ k % 2 < 2 := Nat.mod_lt _ (by omega)
  have hd : a / 2 ^ k ≤ a := Nat.div_le_self _ _
  simp (disch := omega) only [li_1, ishr_nI, and1_nI, nI_eq, bit_iff]
  by_cases hb : a.testBit k = true
  · simp only [hb, if_true] at h
    exact ⟨fun q => absurd hb q, fun _ => h⟩
  · simp only [hb] at h
    exact ⟨fun _ => h, fun q => absurd q hb⟩
