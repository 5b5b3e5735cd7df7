/-! WHAT CLASS AND REFERENCE SHARE BETWEEN TWO CALLS -/
def dis (n : Nat) (th : Nat → Nat) : Prop := ∀ i j, i < n → j < n → th i = th j → th i ≠ 0 → i = j
def fig (th : Nat → Nat) : Nat → Nat
  | 0 => 0
  | k + 1 => 10 * fig th k + th k
def okR (n : Nat) (kd th : Nat → Nat) (stp ngt : Nat) : Prop := (n = 0 ∧ stp = 0 ∧ ngt = 0) ∨ (2 ≤ n ∧ n ≤ 7 ∧ okK n kd ∧ okT n th ∧ dis n th ∧ stp ≤ 9999 ∧ 1 ≤ ngt ∧ ngt ≤ 9)
def I_row (M : Mm) (j : Nat) : Prop := (M (2 + 2 * j) 1 = -1 ∧ M 52 j = -1) ∨ ∃ ln sz : Nat, ln ≤ 2 ∧ sz ≤ 40 ∧ M (2 + 2 * j) 1 = nI ln ∧ M (2 + 2 * j) 2 = nI sz ∧ M 52 j = nI sz ∧ M 53 j = nI ln ∧ ∀ i, i < 40 → M (3 + 2 * j) i = M 54 (40 * j + i)
def I_rows (M : Mm) : Prop := ∀ j, j < 8 → I_row M j
def I_tape (M : Mm) : Prop := (∃ tz, tz ≤ 50 ∧ M 18 3 = nI tz ∧ M 49 3 = nI tz ∧ ∀ i, i < tz → ∃ c, c < 256 ∧ M 19 i = nI c ∧ M 51 i = nI c) ∧ M 18 4 = M 49 4 ∧ M 20 3 = 0
/-- acts, the oldest first: things, step, night -/
abbrev ActT : Type := Nat → (Nat → Nat) × Nat × Nat
def AcC (M : Mm) (n na : Nat) (A : ActT) : Prop := ∃ old : Nat, old < 24 ∧ M 36 3 = nI old ∧ M 36 4 = nI na ∧ ∀ a, a < na → M 37 ((old + a) % 24) = nI (fig (A a).1 n) ∧ M 38 ((old + a) % 24) = nI (A a).2.1 ∧ M 39 ((old + a) % 24) = nI (A a).2.2
def AcM (M : Mm) (n na : Nat) (A : ActT) : Prop := M 49 1 = nI na ∧ ∀ a, a < na → M 50 (85 + 9 * a) = nI (A a).2.2 ∧ M 50 (85 + 9 * a + 1) = nI (A a).2.1 ∧ ∀ i, i < n → M 50 (85 + 9 * a + 2 + i) = nI ((A a).1 i)
def okA (n na : Nat) (A : ActT) : Prop := na ≤ 24 ∧ (0 < na → 0 < n) ∧ ∀ a, a < na → okT n (A a).1 ∧ dis n (A a).1 ∧ (A a).2.1 ≤ 9999 ∧ 1 ≤ (A a).2.2 ∧ (A a).2.2 ≤ 9
def I_acts (M : Mm) (n : Nat) : Prop := ∃ (na : Nat) (A : ActT), AcC M n na A ∧ AcM M n na A ∧ okA n na A
def I_ra (M : Mm) : Prop := ∃ n kd th stp ngt, RgC M 23 n kd th stp ngt ∧ RgM M 0 n kd th stp ngt ∧ okR n kd th stp ngt ∧ I_acts M n
def I_im (M : Mm) (k : Nat) : Prop := ∃ n kd th stp ngt, RgC M (30 + 3 * k) n kd th stp ngt ∧ RgM M (34 + 17 * k) n kd th stp ngt ∧ okR n kd th stp ngt
def I_img (M : Mm) : Prop := I_im M 0 ∧ I_im M 1
def I_fnd (M : Mm) : Prop := M 0 10 = M 49 5
def I_trc (M : Mm) : Prop := ∃ tn, tn ≤ 16 ∧ M 46 1 = nI tn ∧ M 49 22 = nI tn ∧ ∀ i, i < tn → M 47 i = M 64 i
def Inv (M : Mm) : Prop := I_rows M ∧ I_tape M ∧ I_ra M ∧ I_img M ∧ I_fnd M ∧ I_trc M
/-- what a ring rests on -/
theorem RgC_c {M M' : Mm} {o n : Nat} {kd th : Nat → Nat} {stp ngt : Nat} (h : RgC M o n kd th stp ngt) (h0 : M' o = M o) (h1 : M' (o + 1) = M (o + 1)) (h2 : M' (o + 2) = M (o + 2)) : RgC M' o n kd th stp ngt := by
  obtain ⟨a, b, c, d, e⟩ := h
  exact ⟨by rw [h0]; exact a, by rw [h0]; exact b, by rw [h0]; exact c, fun i hi => by rw [h1]; exact d i hi, fun i hi => by rw [h2]; exact e i hi⟩
theorem RgM_c {M M' : Mm} {r n : Nat} {kd th : Nat → Nat} {stp ngt : Nat} (h : RgM M r n kd th stp ngt) (hn : n ≤ 7) (h0 : ∀ i, r ≤ i → i < r + 17 → M' 50 i = M 50 i) : RgM M' r n kd th stp ngt := by
  obtain ⟨a, b, c, d, e⟩ := h
  exact ⟨by rw [h0 _ (by omega) (by omega)]; exact a, by rw [h0 _ (by omega) (by omega)]; exact b, by rw [h0 _ (by omega) (by omega)]; exact c, fun i hi => by rw [h0 _ (by omega) (by omega)]; exact d i hi, fun i hi => by rw [h0 _ (by omega) (by omega)]; exact e i hi⟩
theorem okR_7 {n : Nat} {kd th : Nat → Nat} {stp ngt : Nat} (h : okR n kd th stp ngt) : n ≤ 7 := by
  rcases h with h | h <;> omega
theorem I_rows_c {M M' : Mm} (h : I_rows M) (h1 : ∀ k, 2 ≤ k → k ≤ 17 → M' k = M k) (h2 : M' 52 = M 52) (h3 : M' 53 = M 53) (h4 : M' 54 = M 54) : I_rows M' := by
  intro j hj
  have q := h j hj
  unfold I_row at *
  rw [h1 (2 + 2 * j) (by omega) (by omega), h1 (3 + 2 * j) (by omega) (by omega), h2, h3, h4]
  exact q
theorem I_tape_c {M M' : Mm} (h : I_tape M) (a : M' 18 3 = M 18 3) (b : M' 18 4 = M 18 4) (c : M' 19 = M 19) (d : M' 49 3 = M 49 3) (e : M' 49 4 = M 49 4) (f : M' 51 = M 51) (g : M' 20 3 = M 20 3) : I_tape M' := by
  unfold I_tape at *
  rw [a, b, c, d, e, f, g]
  exact h
theorem AcC_c {M M' : Mm} {n na : Nat} {A : ActT} (h : AcC M n na A) (h36 : M' 36 = M 36) (h37 : M' 37 = M 37) (h38 : M' 38 = M 38) (h39 : M' 39 = M 39) : AcC M' n na A := by
  unfold AcC at *
  rw [h36, h37, h38, h39]
  exact h
theorem AcM_c {M M' : Mm} {n na : Nat} {A : ActT} (h : AcM M n na A) (h1 : M' 49 1 = M 49 1) (h0 : ∀ i, 85 ≤ i → M' 50 i = M 50 i) : AcM M' n na A := by
  refine ⟨by rw [h1]; exact h.1, fun a ha => ?_⟩
  obtain ⟨a4, a5, a6⟩ := h.2 a ha
  exact ⟨by rw [h0 _ (by omega)]; exact a4, by rw [h0 _ (by omega)]; exact a5, fun i hi => by rw [h0 _ (by omega)]; exact a6 i hi⟩
theorem I_acts_c {M M' : Mm} {n : Nat} (h : I_acts M n) (h36 : M' 36 = M 36) (h37 : M' 37 = M 37) (h38 : M' 38 = M 38) (h39 : M' 39 = M 39) (h1 : M' 49 1 = M 49 1) (h0 : ∀ i, 85 ≤ i → M' 50 i = M 50 i) : I_acts M' n := by
  obtain ⟨na, A, b1, b2, b3⟩ := h
  exact ⟨na, A, AcC_c b1 h36 h37 h38 h39, AcM_c b2 h1 h0, b3⟩
theorem I_ra_c {M M' : Mm} (h : I_ra M) (h23 : M' 23 = M 23) (h24 : M' 24 = M 24) (h25 : M' 25 = M 25) (h36 : M' 36 = M 36) (h37 : M' 37 = M 37) (h38 : M' 38 = M 38) (h39 : M' 39 = M 39) (h1 : M' 49 1 = M 49 1) (h0 : ∀ i, (i < 17 ∨ 85 ≤ i) → M' 50 i = M 50 i) : I_ra M' := by
  obtain ⟨n, kd, th, stp, ngt, a, b, c, e⟩ := h
  exact ⟨n, kd, th, stp, ngt, RgC_c a h23 h24 h25, RgM_c b (okR_7 c) (fun i _ hi => h0 i (by omega)), c, I_acts_c e h36 h37 h38 h39 h1 (fun i hi => h0 i (by omega))⟩
theorem I_im_c {M M' : Mm} {k : Nat} (h : I_im M k) (h0 : M' (30 + 3 * k) = M (30 + 3 * k)) (h1 : M' (30 + 3 * k + 1) = M (30 + 3 * k + 1)) (h2 : M' (30 + 3 * k + 2) = M (30 + 3 * k + 2)) (h5 : ∀ i, 34 + 17 * k ≤ i → i < 34 + 17 * k + 17 → M' 50 i = M 50 i) : I_im M' k := by
  obtain ⟨n, kd, th, stp, ngt, a, b, c⟩ := h
  exact ⟨n, kd, th, stp, ngt, RgC_c a h0 h1 h2, RgM_c b (okR_7 c) h5, c⟩
theorem I_img_c {M M' : Mm} (h : I_img M) (hk : ∀ k, 30 ≤ k → k ≤ 35 → M' k = M k) (h5 : ∀ i, 34 ≤ i → i < 68 → M' 50 i = M 50 i) : I_img M' :=
  ⟨I_im_c h.1 (hk _ (by omega) (by omega)) (hk _ (by omega) (by omega)) (hk _ (by omega) (by omega)) (fun i h1 h2 => h5 i (by omega) (by omega)), I_im_c h.2 (hk _ (by omega) (by omega)) (hk _ (by omega) (by omega)) (hk _ (by omega) (by omega)) (fun i h1 h2 => h5 i (by omega) (by omega))⟩
theorem I_trc_c {M M' : Mm} (h : I_trc M) (a : M' 46 1 = M 46 1) (b : M' 49 22 = M 49 22) (c : M' 47 = M 47) (d : M' 64 = M 64) : I_trc M' := by
  unfold I_trc at *
  rw [a, b, c, d]
  exact h
/-- only what is worked with: the class's trial, goal, orders, planned, the draft; the reference's tried and read blocks and its rows of work -/
def scr (M M' : Mm) : Prop := (∀ k, k ≠ 18 → k ≠ 20 → k ≠ 21 → k ≠ 22 → k ≠ 26 → k ≠ 27 → k ≠ 28 → k ≠ 41 → k ≠ 42 → k ≠ 43 → k ≠ 44 → k ≠ 45 → k ≠ 48 → k ≠ 49 → k ≠ 50 → k ≠ 55 → k ≠ 56 → k ≠ 57 → k ≠ 58 → k ≠ 59 → k ≠ 60 → k ≠ 61 → k ≠ 62 → k ≠ 63 → M' k = M k)
  ∧ (∀ j, j ≠ 2 → M' 18 j = M 18 j) ∧ M' 20 3 = M 20 3 ∧ (∀ j, j ≠ 10 → j ≠ 11 → j ≠ 12 → M' 49 j = M 49 j) ∧ ∀ i, (i < 17 ∨ (34 ≤ i ∧ i < 68) ∨ 85 ≤ i) → M' 50 i = M 50 i
theorem scr_rf {M : Mm} : scr M M := ⟨fun _ _ _ _ _ _ _ _ _ _ _ _ _ _ _ _ _ _ _ _ _ _ _ _ _ => rfl, fun _ _ => rfl, rfl, fun _ _ _ _ => rfl, fun _ _ => rfl⟩
theorem scr_tr {M M' M'' : Mm} (h : scr M M') (g : scr M' M'') : scr M M'' := by
  refine ⟨fun k a1 a2 a3 a4 a5 a6 a7 a8 a9 b1 b2 b3 b4 b5 b6 b7 b8 b9 c1 c2 c3 c4 c5 c6 => ?_, fun j hj => (g.2.1 j hj).trans (h.2.1 j hj), g.2.2.1.trans h.2.2.1, fun j x1 x2 x3 => (g.2.2.2.1 j x1 x2 x3).trans (h.2.2.2.1 j x1 x2 x3), fun i hi => (g.2.2.2.2 i hi).trans (h.2.2.2.2 i hi)⟩
  exact (g.1 k a1 a2 a3 a4 a5 a6 a7 a8 a9 b1 b2 b3 b4 b5 b6 b7 b8 b9 c1 c2 c3 c4 c5 c6).trans (h.1 k a1 a2 a3 a4 a5 a6 a7 a8 a9 b1 b2 b3 b4 b5 b6 b7 b8 b9 c1 c2 c3 c4 c5 c6)
theorem scr_row {M M' : Mm} (h : scr M M') (k : Nat) (hk : k ≠ 18 ∧ k ≠ 20 ∧ k ≠ 21 ∧ k ≠ 22 ∧ k ≠ 26 ∧ k ≠ 27 ∧ k ≠ 28 ∧ k ≠ 41 ∧ k ≠ 42 ∧ k ≠ 43 ∧ k ≠ 44 ∧ k ≠ 45 ∧ k ≠ 48 ∧ k ≠ 49 ∧ k ≠ 50 ∧ k ≠ 55 ∧ k ≠ 56 ∧ k ≠ 57 ∧ k ≠ 58 ∧ k ≠ 59 ∧ k ≠ 60 ∧ k ≠ 61 ∧ k ≠ 62 ∧ k ≠ 63) : M' k = M k := by
  obtain ⟨a1, a2, a3, a4, a5, a6, a7, a8, a9, b1, b2, b3, b4, b5, b6, b7, b8, b9, c1, c2, c3, c4, c5, c6⟩ := hk
  exact h.1 k a1 a2 a3 a4 a5 a6 a7 a8 a9 b1 b2 b3 b4 b5 b6 b7 b8 b9 c1 c2 c3 c4 c5 c6
/-- a row of work is written -/
def wk (k : Nat) : Prop := k = 21 ∨ k = 22 ∨ k = 26 ∨ k = 27 ∨ k = 28 ∨ k = 41 ∨ k = 42 ∨ k = 43 ∨ k = 44 ∨ k = 45 ∨ k = 48 ∨ k = 55 ∨ k = 56 ∨ k = 57 ∨ k = 58 ∨ k = 59 ∨ k = 60 ∨ k = 61 ∨ k = 62 ∨ k = 63
theorem scr_of {M M' : Mm} (h : ∀ k, ¬ wk k → M' k = M k) : scr M M' := by
  refine ⟨fun k a1 a2 a3 a4 a5 a6 a7 a8 a9 b1 b2 b3 b4 b5 b6 b7 b8 b9 c1 c2 c3 c4 c5 c6 => h k (by unfold wk; omega), fun j hj => by rw [h 18 (by unfold wk; omega)], by rw [h 20 (by unfold wk; omega)], fun j _ _ _ => by rw [h 49 (by unfold wk; omega)], fun i _ => by rw [h 50 (by unfold wk; omega)]⟩
theorem scr_keep {M M' : Mm} {r n : Nat} (h : keepM M M' r n) (hr : r = 17 ∨ r = 68) (hn : n ≤ 7) : scr M M' := by
  refine ⟨fun k a1 a2 a3 a4 a5 a6 a7 a8 a9 b1 b2 b3 b4 b5 b6 b7 b8 b9 c1 c2 c3 c4 c5 c6 => h.1 k b6, fun j hj => by rw [h.1 18 (by omega)], by rw [h.1 20 (by omega)], fun j _ _ _ => by rw [h.1 49 (by omega)], fun i hi => h.2 i (by omega)⟩
theorem I_rows_s {M M' : Mm} (h : I_rows M) (s : scr M M') : I_rows M' := I_rows_c h (fun k h1 h2 => scr_row s k (by omega)) (scr_row s 52 (by omega)) (scr_row s 53 (by omega)) (scr_row s 54 (by omega))
theorem I_tape_s {M M' : Mm} (h : I_tape M) (s : scr M M') : I_tape M' := I_tape_c h (s.2.1 3 (by omega)) (s.2.1 4 (by omega)) (scr_row s 19 (by omega)) (s.2.2.2.1 3 (by omega) (by omega) (by omega)) (s.2.2.2.1 4 (by omega) (by omega) (by omega)) (scr_row s 51 (by omega)) s.2.2.1
theorem I_ra_s {M M' : Mm} (h : I_ra M) (s : scr M M') : I_ra M' := I_ra_c h (scr_row s 23 (by omega)) (scr_row s 24 (by omega)) (scr_row s 25 (by omega)) (scr_row s 36 (by omega)) (scr_row s 37 (by omega)) (scr_row s 38 (by omega)) (scr_row s 39 (by omega)) (s.2.2.2.1 1 (by omega) (by omega) (by omega)) (fun i hi => s.2.2.2.2 i (by omega))
theorem I_img_s {M M' : Mm} (h : I_img M) (s : scr M M') : I_img M' := I_img_c h (fun k h1 h2 => scr_row s k (by omega)) (fun i h1 h2 => s.2.2.2.2 i (by omega))
theorem I_fnd_s {M M' : Mm} (h : I_fnd M) (s : scr M M') : I_fnd M' := by
  unfold I_fnd at *
  rw [scr_row s 0 (by omega), s.2.2.2.1 5 (by omega) (by omega) (by omega)]
  exact h
theorem I_trc_s {M M' : Mm} (h : I_trc M) (s : scr M M') : I_trc M' := I_trc_c h (by rw [scr_row s 46 (by omega)]) (s.2.2.2.1 22 (by omega) (by omega) (by omega)) (scr_row s 47 (by omega)) (scr_row s 64 (by omega))
theorem Inv_s {M M' : Mm} (h : Inv M) (s : scr M M') : Inv M' := ⟨I_rows_s h.1 s, I_tape_s h.2.1 s, I_ra_s h.2.2.1 s, I_img_s h.2.2.2.1 s, I_fnd_s h.2.2.2.2.1 s, I_trc_s h.2.2.2.2.2 s⟩
/-- both say how it was found -/
theorem Inv_f {M : Mm} (h : Inv M) (x : Int32) : Inv (upd2 (upd2 M 0 10 x) 49 5 x) := by
  obtain ⟨a, b, c, d, e, f⟩ := h
  have r : ∀ k, k ≠ 0 → k ≠ 49 → upd2 (upd2 M 0 10 x) 49 5 x k = M k := fun k h1 h2 => by rw [upd2_off h2, upd2_off h1]
  have q : ∀ j, j ≠ 5 → upd2 (upd2 M 0 10 x) 49 5 x 49 j = M 49 j := fun j hj => by rw [upd2_row hj, upd2_off (by omega)]
  refine ⟨I_rows_c a (fun k h1 h2 => r k (by omega) (by omega)) (r 52 (by omega) (by omega)) (r 53 (by omega) (by omega)) (r 54 (by omega) (by omega)), I_tape_c b (by rw [r 18 (by omega) (by omega)]) (by rw [r 18 (by omega) (by omega)]) (r 19 (by omega) (by omega)) (q 3 (by omega)) (q 4 (by omega)) (r 51 (by omega) (by omega)) (by rw [r 20 (by omega) (by omega)]), I_ra_c c (r 23 (by omega) (by omega)) (r 24 (by omega) (by omega)) (r 25 (by omega) (by omega)) (r 36 (by omega) (by omega)) (r 37 (by omega) (by omega)) (r 38 (by omega) (by omega)) (r 39 (by omega) (by omega)) (q 1 (by omega)) (fun i _ => by rw [r 50 (by omega) (by omega)]), I_img_c d (fun k h1 h2 => r k (by omega) (by omega)) (fun i _ _ => by rw [r 50 (by omega) (by omega)]), ?_, I_trc_c f (by rw [r 46 (by omega) (by omega)]) (q 22 (by omega)) (r 47 (by omega) (by omega)) (r 64 (by omega) (by omega))⟩
  unfold I_fnd
  rw [upd2_at, upd2_off (by omega), upd2_at]
/-- a call of both -/
abbrev Both (x y : (Int32 → Mm → Prop) → Mm → Prop) (M : Mm) : Prop := x (fun r1 M1 => y (fun r2 M2 => r1 = r2 ∧ Inv M2) M1) M
/-- which row, or none -/
theorem c7_row_y (d j : Nat) (M : Mm) (Q : Int32 → Mm → Prop) (hj : j < 8) (h : Q 1 M) : kX7_isRow d (nI j) M Q := by
  apply rX7_isRow
  simp (disch := omega) only [li_0, li_1, li_2, li_3, li_4, li_5, li_6, li_7, li_8, li_9, li_10, li_16, li_17, li_20, li_24, li_34, li_40, li_50, li_60, li_68, li_85, li_200, li_9999, nI_add, nI_clamp, vpT, nI_leI, nI_ltI, nI_eq, irem_nI, true_and, and_true, forall_eq, not_true_eq_false, not_false_eq_true, forall_const, false_and, and_false, false_imp_iff, true_imp_iff, imp_self]
  exact ⟨fun q => by omega, fun _ => ⟨fun q => by omega, fun _ => h⟩⟩
theorem c7_row_n (d : Nat) (v : Int32) (M : Mm) (Q : Int32 → Mm → Prop) (hj : v < 0 ∨ nI 8 ≤ v) (h : Q 0 M) : kX7_isRow d v M Q := by
  apply rX7_isRow
  refine ⟨fun _ => h, fun q => ⟨fun _ => h, fun q2 => ?_⟩⟩
  rcases hj with z | z
  · exact absurd z q
  · exact absurd z q2
theorem c8_row_y (d j : Nat) (M : Mm) (Q : Int32 → Mm → Prop) (hj : j < 8) (h : Q 1 M) : kX8_isRow (d + 1) (nI j) M Q := by
  apply rX8_isRow
  refine c8_inI d (nI j) 0 7 M _ ?_
  rw [if_pos (by rw [li_0, li_7]; simp (disch := omega) only [nI_leI]; omega)]
  exact ⟨Or.inr rfl, h⟩
theorem c8_row_n (d : Nat) (v : Int32) (M : Mm) (Q : Int32 → Mm → Prop) (hj : v < 0 ∨ nI 8 ≤ v) (h : Q 0 M) : kX8_isRow (d + 1) v M Q := by
  apply rX8_isRow
  refine c8_inI d v 0 7 M _ ?_
  rw [if_neg (fun q => ?_)]
  · exact ⟨Or.inl rfl, h⟩
  · have e8 : (nI 8).toInt = 8 := nI_toInt (by omega)
    have e0 : (0 : Int32).toInt = 0 := rfl
    have e7 : (7 : Int32).toInt = 7 := rfl
    rw [fa_le, fa_le] at q
    rw [fa_lt, fa_le] at hj
    omega
theorem c7_found (d : Nat) (v : Int32) (M : Mm) (Q : Int32 → Mm → Prop) (h : Q (-1000010 - v) (upd2 M 0 10 v)) : kX7_found d v M Q := by
  apply rX7_found
  intro M1 e
  rw [e]; exact h
theorem c8_finds (d : Nat) (v : Int32) (M : Mm) (Q : Int32 → Mm → Prop) (h : Q (-1000010 - v) (upd2 M 49 5 v)) : kX8_finds d v M Q := by
  apply rX8_finds
  intro M1 e
  rw [e]; exact h
