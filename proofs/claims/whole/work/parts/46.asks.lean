/-! ASK: bodies, and what they leave -/
def SC (M0 M : Mm) (L : List Int32) : Prop := (∀ q, q ≠ 46 → q ≠ 47 → M q = M0 q) ∧ M 46 1 = nI L.length ∧ ∀ i, i < L.length → M 47 i = L.getD i 0
def SM (M0 M : Mm) (L : List Int32) : Prop := (∀ q, q ≠ 49 → q ≠ 64 → M q = M0 q) ∧ (∀ i, i ≠ 22 → M 49 i = M0 49 i) ∧ M 49 22 = nI L.length ∧ ∀ i, i < L.length → M 64 i = L.getD i 0
theorem gD_app {L : List Int32} {v : Int32} {i : Nat} (h : i < (L ++ [v]).length) : (L ++ [v]).getD i 0 = if i = L.length then v else L.getD i 0 := by
  rw [List.length_append] at h
  by_cases c : i = L.length
  · rw [if_pos c, c]; simp
  · have : i < L.length := by simp at h; omega
    rw [if_neg c, List.getD_eq_getElem?_getD, List.getElem?_append_left this, ← List.getD_eq_getElem?_getD]
theorem c1_lv (d : Nat) (v : Int32) (L : List Int32) (M0 M : Mm) (Q : Int32 → Mm → Prop) (hS : SC M0 M L) (hL : L.length < 16) (h : ∀ M', SC M0 M' (L ++ [v]) → Q 0 M') : kX1_leave d v M Q := by
  apply rX1_leave
  obtain ⟨h1, h2, h3⟩ := hS
  rw [h2, nI_clamp (by omega)]
  refine ⟨fun q => absurd q (by rw [li_16]; exact nI_ge (by omega) (by omega)), fun _ => ⟨vp_in_nI hL (by omega), ?_⟩⟩
  rintro M1 rfl M2 rfl
  refine h _ ⟨fun q a b => by rw [upd2_off a, upd2_off b, h1 q a b], ?_, fun i hi => ?_⟩
  · rw [upd2_at, upd2_off (by omega), h2, nI_1, List.length_append]; rfl
  · rw [gD_app hi, upd2_off (by omega), upd2_r]
    rw [List.length_append] at hi
    by_cases c : i = L.length
    · rw [if_pos c, if_pos c]
    · rw [if_neg c, if_neg c]; exact h3 i (by simp at hi; omega)
theorem c8_tr (d : Nat) (v : Int32) (L : List Int32) (M0 M : Mm) (Q : Int32 → Mm → Prop) (hS : SM M0 M L) (hL : L.length < 16) (h : ∀ M', SM M0 M' (L ++ [v]) → Q 0 M') : kX8_traces d v M Q := by
  apply rX8_traces
  obtain ⟨h1, h4, h2, h3⟩ := hS
  rw [h2, nI_clamp (by omega)]
  refine ⟨fun q => absurd q (by rw [li_16]; exact nI_ge (by omega) (by omega)), fun _ => ⟨vp_in_nI hL (by omega), ?_⟩⟩
  rintro M1 rfl M2 rfl
  refine h _ ⟨fun q a b => by rw [upd2_off a, upd2_off b, h1 q a b], fun i hi => by rw [upd2_row hi, upd2_off (by omega), h4 i hi], ?_, fun i hi => ?_⟩
  · rw [upd2_at, upd2_off (by omega), h2, nI_1, List.length_append]; rfl
  · rw [gD_app hi, upd2_off (by omega), upd2_r]
    rw [List.length_append] at hi
    by_cases c : i = L.length
    · rw [if_pos c, if_pos c]
    · rw [if_neg c, if_neg c]; exact h3 i (by simp at hi; omega)
theorem SC_R {M0 M : Mm} {L : List Int32} {n : Nat} {kd th : Nat → Nat} {stp ngt : Nat} (h : SC M0 M L) (hC : RgC M0 23 n kd th stp ngt) : RgC M 23 n kd th stp ngt := RgC_c hC (h.1 _ (by omega) (by omega)) (h.1 _ (by omega) (by omega)) (h.1 _ (by omega) (by omega))
theorem SM_R {M0 M : Mm} {L : List Int32} {n : Nat} {kd th : Nat → Nat} {stp ngt : Nat} (h : SM M0 M L) (hM : RgM M0 0 n kd th stp ngt) (h7 : n ≤ 7) : RgM M 0 n kd th stp ngt := RgM_c hM h7 (fun i _ _ => by rw [h.1 50 (by omega) (by omega)])
section
variable {n s K : Nat} {kd th : Nat → Nat} {stp ngt : Nat} {M0 : Mm}
theorem r10 (d e : Nat) (L : List Int32) (M : Mm) (Q : Int32 → Mm → Prop) (hC : RgC M0 23 n kd th stp ngt) (ht : okT n th) (hk : okK n kd) (h7 : n ≤ 7) (hs : s < n) (hK : kd s = K) (hS : SC M0 M L) (hL : L.length + 1 ≤ 16) (he : e + 1 ≤ 16) (h : ∀ M', SC M0 M' (L ++ [10]) → Q (nI (th s)) M') : kX1_run (d + 1) 10 23 (nI s) (nI e) M Q := by
  apply rX1_run _ _ _ rg23
  refine ⟨fun _ => c1_lv _ 10 L M0 M _ hS (by omega) (fun M1 g => ?_), fun q => absurd (by rw [li_16]; exact nI_lt (by omega) (by omega)) q⟩
  have R := SC_R g hC
  have ek : M1 (23 + 1) s = nI K := by rw [← hK]; exact R.2.2.2.1 s hs
  have et : M1 (23 + 2) s = nI (th s) := R.2.2.2.2 s hs
  have bk := hk s hs
  have gl : (L ++ [(10 : Int32)]).length = L.length + 1 := by simp
  rw [nI_clamp (show s < 2 ^ 31 by omega), ek, et, nI_clamp (show K < 2 ^ 31 by omega), nI_1]
  refine ⟨vp_in_nI (by omega) (by omega), vp_in_nI (by omega) (by omega), vp_in_nI (by omega) (by omega), vp_in_nI (by omega) (by omega), ?_⟩
  refine ⟨fun _ => ⟨vp_in_nI (by omega) (by omega), h M1 g⟩, fun q => absurd q (by decide), fun q => absurd q (by decide), fun q => absurd q (by decide), fun q => absurd q (by decide), fun q => absurd q (by decide), fun q => absurd q (by decide), fun q => absurd q (by decide), fun q => absurd q (by decide), fun q => absurd q (by decide), fun q => absurd rfl (q.1)⟩
theorem r20 (d e : Nat) (L : List Int32) (M : Mm) (Q : Int32 → Mm → Prop) (hC : RgC M0 23 n kd th stp ngt) (ht : okT n th) (hk : okK n kd) (h7 : n ≤ 7) (hs : s < n) (hK : kd s = K) (hS : SC M0 M L) (hL : L.length + 1 ≤ 16) (he : e + 1 ≤ 16) (h : ∀ M', SC M0 M' (L ++ [20]) → Q (nI s) M') : kX1_run (d + 1) 20 23 (nI s) (nI e) M Q := by
  apply rX1_run _ _ _ rg23
  refine ⟨fun _ => c1_lv _ 20 L M0 M _ hS (by omega) (fun M1 g => ?_), fun q => absurd (by rw [li_16]; exact nI_lt (by omega) (by omega)) q⟩
  have R := SC_R g hC
  have ek : M1 (23 + 1) s = nI K := by rw [← hK]; exact R.2.2.2.1 s hs
  have et : M1 (23 + 2) s = nI (th s) := R.2.2.2.2 s hs
  have bk := hk s hs
  have gl : (L ++ [(20 : Int32)]).length = L.length + 1 := by simp
  rw [nI_clamp (show s < 2 ^ 31 by omega), ek, et, nI_clamp (show K < 2 ^ 31 by omega), nI_1]
  refine ⟨vp_in_nI (by omega) (by omega), vp_in_nI (by omega) (by omega), vp_in_nI (by omega) (by omega), vp_in_nI (by omega) (by omega), ?_⟩
  refine ⟨fun q => absurd q (by decide), fun q => absurd q (by decide), fun q => absurd q (by decide), fun q => absurd q (by decide), fun q => absurd q (by decide), fun _ => h M1 g, fun q => absurd q (by decide), fun q => absurd q (by decide), fun q => absurd q (by decide), fun q => absurd q (by decide), fun q => absurd rfl (q.2.2.2.2.2.1)⟩
theorem r13 (d e : Nat) (L : List Int32) (M : Mm) (Q : Int32 → Mm → Prop) (hC : RgC M0 23 n kd th stp ngt) (ht : okT n th) (hk : okK n kd) (h7 : n ≤ 7) (hs : s < n) (hK : kd s = K) (hS : SC M0 M L) (hL : L.length + 2 ≤ 16) (he : e + 2 ≤ 16) (h : ∀ M', SC M0 M' (L ++ [13, 10]) → Q (nI (th s) - 100) M') : kX1_run (d + 2) 13 23 (nI s) (nI e) M Q := by
  apply rX1_run _ _ _ rg23
  refine ⟨fun _ => c1_lv _ 13 L M0 M _ hS (by omega) (fun M1 g => ?_), fun q => absurd (by rw [li_16]; exact nI_lt (by omega) (by omega)) q⟩
  have R := SC_R g hC
  have ek : M1 (23 + 1) s = nI K := by rw [← hK]; exact R.2.2.2.1 s hs
  have et : M1 (23 + 2) s = nI (th s) := R.2.2.2.2 s hs
  have bk := hk s hs
  have gl : (L ++ [(13 : Int32)]).length = L.length + 1 := by simp
  rw [nI_clamp (show s < 2 ^ 31 by omega), ek, et, nI_clamp (show K < 2 ^ 31 by omega), nI_1]
  refine ⟨vp_in_nI (by omega) (by omega), vp_in_nI (by omega) (by omega), vp_in_nI (by omega) (by omega), vp_in_nI (by omega) (by omega), ?_⟩
  refine ⟨fun q => absurd q (by decide), fun q => absurd q (by decide), fun q => absurd q (by decide), fun _ => r10 _ (e + 1) _ M1 _ hC ht hk h7 hs hK g (by omega) (by omega) (fun M2 g2 => h M2 (by simpa using g2)), fun q => absurd q (by decide), fun q => absurd q (by decide), fun q => absurd q (by decide), fun q => absurd q (by decide), fun q => absurd q (by decide), fun q => absurd q (by decide), fun q => absurd rfl (q.2.2.2.1)⟩
theorem r14 (d e : Nat) (L : List Int32) (M : Mm) (Q : Int32 → Mm → Prop) (hC : RgC M0 23 n kd th stp ngt) (ht : okT n th) (hk : okK n kd) (h7 : n ≤ 7) (hs : s < n) (hK : kd s = K) (hS : SC M0 M L) (hL : L.length + 3 ≤ 16) (he : e + 3 ≤ 16) (h : ∀ M', SC M0 M' (L ++ [14, 13, 10]) → Q (2 * (nI (th s) - 100)) M') : kX1_run (d + 3) 14 23 (nI s) (nI e) M Q := by
  apply rX1_run _ _ _ rg23
  refine ⟨fun _ => c1_lv _ 14 L M0 M _ hS (by omega) (fun M1 g => ?_), fun q => absurd (by rw [li_16]; exact nI_lt (by omega) (by omega)) q⟩
  have R := SC_R g hC
  have ek : M1 (23 + 1) s = nI K := by rw [← hK]; exact R.2.2.2.1 s hs
  have et : M1 (23 + 2) s = nI (th s) := R.2.2.2.2 s hs
  have bk := hk s hs
  have gl : (L ++ [(14 : Int32)]).length = L.length + 1 := by simp
  rw [nI_clamp (show s < 2 ^ 31 by omega), ek, et, nI_clamp (show K < 2 ^ 31 by omega), nI_1]
  refine ⟨vp_in_nI (by omega) (by omega), vp_in_nI (by omega) (by omega), vp_in_nI (by omega) (by omega), vp_in_nI (by omega) (by omega), ?_⟩
  refine ⟨fun q => absurd q (by decide), fun q => absurd q (by decide), fun q => absurd q (by decide), fun q => absurd q (by decide), fun _ => r13 _ (e + 1) _ M1 _ hC ht hk h7 hs hK g (by omega) (by omega) (fun M2 g2 => h M2 (by simpa using g2)), fun q => absurd q (by decide), fun q => absurd q (by decide), fun q => absurd q (by decide), fun q => absurd q (by decide), fun q => absurd q (by decide), fun q => absurd rfl (q.2.2.2.2.1)⟩
theorem r21 (d e : Nat) (L : List Int32) (M : Mm) (Q : Int32 → Mm → Prop) (hC : RgC M0 23 n kd th stp ngt) (ht : okT n th) (hk : okK n kd) (h7 : n ≤ 7) (hs : s < n) (hK : kd s = K) (hS : SC M0 M L) (hL : L.length + 2 ≤ 16) (he : e + 2 ≤ 16) (h : ∀ M', SC M0 M' (L ++ [21, 20]) → Q (nI s + nI (cnt0 th n)) M') : kX1_run (d + 2) 21 23 (nI s) (nI e) M Q := by
  apply rX1_run _ _ _ rg23
  refine ⟨fun _ => c1_lv _ 21 L M0 M _ hS (by omega) (fun M1 g => ?_), fun q => absurd (by rw [li_16]; exact nI_lt (by omega) (by omega)) q⟩
  have R := SC_R g hC
  have ek : M1 (23 + 1) s = nI K := by rw [← hK]; exact R.2.2.2.1 s hs
  have et : M1 (23 + 2) s = nI (th s) := R.2.2.2.2 s hs
  have bk := hk s hs
  have gl : (L ++ [(21 : Int32)]).length = L.length + 1 := by simp
  rw [nI_clamp (show s < 2 ^ 31 by omega), ek, et, nI_clamp (show K < 2 ^ 31 by omega), nI_1]
  refine ⟨vp_in_nI (by omega) (by omega), vp_in_nI (by omega) (by omega), vp_in_nI (by omega) (by omega), vp_in_nI (by omega) (by omega), ?_⟩
  refine ⟨fun q => absurd q (by decide), fun q => absurd q (by decide), fun q => absurd q (by decide), fun q => absurd q (by decide), fun q => absurd q (by decide), fun q => absurd q (by decide), fun _ => r20 _ (e + 1) _ M1 _ hC ht hk h7 hs hK g (by omega) (by omega) (fun M2 g2 => c4_withNone _ 23 rg23 n kd th stp ngt M2 _ (SC_R g2 hC) ht h7 (h M2 (by simpa using g2))), fun q => absurd q (by decide), fun q => absurd q (by decide), fun q => absurd q (by decide), fun q => absurd rfl (q.2.2.2.2.2.2.1)⟩
theorem r22 (d e : Nat) (L : List Int32) (M : Mm) (Q : Int32 → Mm → Prop) (hC : RgC M0 23 n kd th stp ngt) (ht : okT n th) (hk : okK n kd) (h7 : n ≤ 7) (hs : s < n) (hK : kd s = K) (hS : SC M0 M L) (hL : L.length + 3 ≤ 16) (he : e + 3 ≤ 16) (h : ∀ M', SC M0 M' (L ++ [22, 21, 20]) → Q (nI s + nI (cnt0 th n) - 1000) M') : kX1_run (d + 3) 22 23 (nI s) (nI e) M Q := by
  apply rX1_run _ _ _ rg23
  refine ⟨fun _ => c1_lv _ 22 L M0 M _ hS (by omega) (fun M1 g => ?_), fun q => absurd (by rw [li_16]; exact nI_lt (by omega) (by omega)) q⟩
  have R := SC_R g hC
  have ek : M1 (23 + 1) s = nI K := by rw [← hK]; exact R.2.2.2.1 s hs
  have et : M1 (23 + 2) s = nI (th s) := R.2.2.2.2 s hs
  have bk := hk s hs
  have gl : (L ++ [(22 : Int32)]).length = L.length + 1 := by simp
  rw [nI_clamp (show s < 2 ^ 31 by omega), ek, et, nI_clamp (show K < 2 ^ 31 by omega), nI_1]
  refine ⟨vp_in_nI (by omega) (by omega), vp_in_nI (by omega) (by omega), vp_in_nI (by omega) (by omega), vp_in_nI (by omega) (by omega), ?_⟩
  refine ⟨fun q => absurd q (by decide), fun q => absurd q (by decide), fun q => absurd q (by decide), fun q => absurd q (by decide), fun q => absurd q (by decide), fun q => absurd q (by decide), fun q => absurd q (by decide), fun _ => r21 _ (e + 1) _ M1 _ hC ht hk h7 hs hK g (by omega) (by omega) (fun M2 g2 => h M2 (by simpa using g2)), fun q => absurd q (by decide), fun q => absurd q (by decide), fun q => absurd rfl (q.2.2.2.2.2.2.2.1)⟩
theorem r24 (d e : Nat) (L : List Int32) (M : Mm) (Q : Int32 → Mm → Prop) (hC : RgC M0 23 n kd th stp ngt) (ht : okT n th) (hk : okK n kd) (h7 : n ≤ 7) (hs : s < n) (hK : kd s = K) (hS : SC M0 M L) (hL : L.length + 3 ≤ 16) (he : e + 3 ≤ 16) (h : ∀ M', SC M0 M' (L ++ [24, 21, 20]) → Q (2 * (nI s + nI (cnt0 th n))) M') : kX1_run (d + 3) 24 23 (nI s) (nI e) M Q := by
  apply rX1_run _ _ _ rg23
  refine ⟨fun _ => c1_lv _ 24 L M0 M _ hS (by omega) (fun M1 g => ?_), fun q => absurd (by rw [li_16]; exact nI_lt (by omega) (by omega)) q⟩
  have R := SC_R g hC
  have ek : M1 (23 + 1) s = nI K := by rw [← hK]; exact R.2.2.2.1 s hs
  have et : M1 (23 + 2) s = nI (th s) := R.2.2.2.2 s hs
  have bk := hk s hs
  have gl : (L ++ [(24 : Int32)]).length = L.length + 1 := by simp
  rw [nI_clamp (show s < 2 ^ 31 by omega), ek, et, nI_clamp (show K < 2 ^ 31 by omega), nI_1]
  refine ⟨vp_in_nI (by omega) (by omega), vp_in_nI (by omega) (by omega), vp_in_nI (by omega) (by omega), vp_in_nI (by omega) (by omega), ?_⟩
  refine ⟨fun q => absurd q (by decide), fun q => absurd q (by decide), fun q => absurd q (by decide), fun q => absurd q (by decide), fun q => absurd q (by decide), fun q => absurd q (by decide), fun q => absurd q (by decide), fun q => absurd q (by decide), fun q => absurd q (by decide), fun _ => r21 _ (e + 1) _ M1 _ hC ht hk h7 hs hK g (by omega) (by omega) (fun M2 g2 => h M2 (by simpa using g2)), fun q => absurd rfl (q.2.2.2.2.2.2.2.2.2)⟩
theorem r11_1 (d e : Nat) (L : List Int32) (M : Mm) (Q : Int32 → Mm → Prop) (hC : RgC M0 23 n kd th stp ngt) (ht : okT n th) (hk : okK n kd) (h7 : n ≤ 7) (hs : s < n) (hK : kd s = K) (hk3 : K = 1) (hS : SC M0 M L) (hL : L.length + 4 ≤ 16) (he : e + 4 ≤ 16) (h : ∀ M', SC M0 M' (L ++ [11, 10, 21, 20]) → Q (nI (th s) + (nI s + nI (cnt0 th n))) M') : kX1_run (d + 4) 11 23 (nI s) (nI e) M Q := by
  apply rX1_run _ _ _ rg23
  refine ⟨fun _ => c1_lv _ 11 L M0 M _ hS (by omega) (fun M1 g => ?_), fun q => absurd (by rw [li_16]; exact nI_lt (by omega) (by omega)) q⟩
  have R := SC_R g hC
  have ek : M1 (23 + 1) s = nI K := by rw [← hK]; exact R.2.2.2.1 s hs
  have et : M1 (23 + 2) s = nI (th s) := R.2.2.2.2 s hs
  have bk := hk s hs
  have gl : (L ++ [(11 : Int32)]).length = L.length + 1 := by simp
  rw [nI_clamp (show s < 2 ^ 31 by omega), ek, et, nI_clamp (show K < 2 ^ 31 by omega), nI_1]
  refine ⟨vp_in_nI (by omega) (by omega), vp_in_nI (by omega) (by omega), vp_in_nI (by omega) (by omega), vp_in_nI (by omega) (by omega), ?_⟩
  refine ⟨fun q => absurd q (by decide), fun _ => r10 (d + 2) (e + 1) _ M1 _ hC ht hk h7 hs hK g (by omega) (by omega) (fun M2 g2 => ?_), fun q => absurd q (by decide), fun q => absurd q (by decide), fun q => absurd q (by decide), fun q => absurd q (by decide), fun q => absurd q (by decide), fun q => absurd q (by decide), fun q => absurd q (by decide), fun q => absurd q (by decide), fun q => absurd rfl (q.2.1)⟩
  have gl2 : (L ++ [(11 : Int32)] ++ [10]).length = L.length + 2 := by simp
  subst hk3
  exact r21 (d + 1) (e + 1) _ M2 _ hC ht hk h7 hs hK g2 (by omega) (by omega) (fun M3 g3 => h M3 (by simpa using g3))
theorem r11_2 (d e : Nat) (L : List Int32) (M : Mm) (Q : Int32 → Mm → Prop) (hC : RgC M0 23 n kd th stp ngt) (ht : okT n th) (hk : okK n kd) (h7 : n ≤ 7) (hs : s < n) (hK : kd s = K) (hk3 : K = 2) (hS : SC M0 M L) (hL : L.length + 5 ≤ 16) (he : e + 4 ≤ 16) (h : ∀ M', SC M0 M' (L ++ [11, 10, 24, 21, 20]) → Q (nI (th s) + (2 * (nI s + nI (cnt0 th n)))) M') : kX1_run (d + 4) 11 23 (nI s) (nI e) M Q := by
  apply rX1_run _ _ _ rg23
  refine ⟨fun _ => c1_lv _ 11 L M0 M _ hS (by omega) (fun M1 g => ?_), fun q => absurd (by rw [li_16]; exact nI_lt (by omega) (by omega)) q⟩
  have R := SC_R g hC
  have ek : M1 (23 + 1) s = nI K := by rw [← hK]; exact R.2.2.2.1 s hs
  have et : M1 (23 + 2) s = nI (th s) := R.2.2.2.2 s hs
  have bk := hk s hs
  have gl : (L ++ [(11 : Int32)]).length = L.length + 1 := by simp
  rw [nI_clamp (show s < 2 ^ 31 by omega), ek, et, nI_clamp (show K < 2 ^ 31 by omega), nI_1]
  refine ⟨vp_in_nI (by omega) (by omega), vp_in_nI (by omega) (by omega), vp_in_nI (by omega) (by omega), vp_in_nI (by omega) (by omega), ?_⟩
  refine ⟨fun q => absurd q (by decide), fun _ => r10 (d + 2) (e + 1) _ M1 _ hC ht hk h7 hs hK g (by omega) (by omega) (fun M2 g2 => ?_), fun q => absurd q (by decide), fun q => absurd q (by decide), fun q => absurd q (by decide), fun q => absurd q (by decide), fun q => absurd q (by decide), fun q => absurd q (by decide), fun q => absurd q (by decide), fun q => absurd q (by decide), fun q => absurd rfl (q.2.1)⟩
  have gl2 : (L ++ [(11 : Int32)] ++ [10]).length = L.length + 2 := by simp
  subst hk3
  exact r24 d (e + 1) _ M2 _ hC ht hk h7 hs hK g2 (by omega) (by omega) (fun M3 g3 => h M3 (by simpa using g3))
theorem r11_3 (d e : Nat) (L : List Int32) (M : Mm) (Q : Int32 → Mm → Prop) (hC : RgC M0 23 n kd th stp ngt) (ht : okT n th) (hk : okK n kd) (h7 : n ≤ 7) (hs : s < n) (hK : kd s = K) (hk3 : K = 3) (hS : SC M0 M L) (hL : L.length + 5 ≤ 16) (he : e + 4 ≤ 16) (h : ∀ M', SC M0 M' (L ++ [11, 10, 22, 21, 20]) → Q (nI (th s) + (nI s + nI (cnt0 th n) - 1000)) M') : kX1_run (d + 4) 11 23 (nI s) (nI e) M Q := by
  apply rX1_run _ _ _ rg23
  refine ⟨fun _ => c1_lv _ 11 L M0 M _ hS (by omega) (fun M1 g => ?_), fun q => absurd (by rw [li_16]; exact nI_lt (by omega) (by omega)) q⟩
  have R := SC_R g hC
  have ek : M1 (23 + 1) s = nI K := by rw [← hK]; exact R.2.2.2.1 s hs
  have et : M1 (23 + 2) s = nI (th s) := R.2.2.2.2 s hs
  have bk := hk s hs
  have gl : (L ++ [(11 : Int32)]).length = L.length + 1 := by simp
  rw [nI_clamp (show s < 2 ^ 31 by omega), ek, et, nI_clamp (show K < 2 ^ 31 by omega), nI_1]
  refine ⟨vp_in_nI (by omega) (by omega), vp_in_nI (by omega) (by omega), vp_in_nI (by omega) (by omega), vp_in_nI (by omega) (by omega), ?_⟩
  refine ⟨fun q => absurd q (by decide), fun _ => r10 (d + 2) (e + 1) _ M1 _ hC ht hk h7 hs hK g (by omega) (by omega) (fun M2 g2 => ?_), fun q => absurd q (by decide), fun q => absurd q (by decide), fun q => absurd q (by decide), fun q => absurd q (by decide), fun q => absurd q (by decide), fun q => absurd q (by decide), fun q => absurd q (by decide), fun q => absurd q (by decide), fun q => absurd rfl (q.2.1)⟩
  have gl2 : (L ++ [(11 : Int32)] ++ [10]).length = L.length + 2 := by simp
  subst hk3
  exact r22 d (e + 1) _ M2 _ hC ht hk h7 hs hK g2 (by omega) (by omega) (fun M3 g3 => h M3 (by simpa using g3))
theorem r12 (d e : Nat) (L : List Int32) (M : Mm) (Q : Int32 → Mm → Prop) (hC : RgC M0 23 n kd th stp ngt) (ht : okT n th) (hk : okK n kd) (h7 : n ≤ 7) (hs : s < n) (hK : kd s = K) (hk3 : K = 2) (hS : SC M0 M L) (hL : L.length + 6 ≤ 16) (he : e + 5 ≤ 16) (h : ∀ M', SC M0 M' (L ++ [12, 11, 10, 24, 21, 20]) → Q (-(nI (th s) + (2 * (nI s + nI (cnt0 th n))))) M') : kX1_run (d + 5) 12 23 (nI s) (nI e) M Q := by
  apply rX1_run _ _ _ rg23
  refine ⟨fun _ => c1_lv _ 12 L M0 M _ hS (by omega) (fun M1 g => ?_), fun q => absurd (by rw [li_16]; exact nI_lt (by omega) (by omega)) q⟩
  have R := SC_R g hC
  have ek : M1 (23 + 1) s = nI K := by rw [← hK]; exact R.2.2.2.1 s hs
  have et : M1 (23 + 2) s = nI (th s) := R.2.2.2.2 s hs
  have bk := hk s hs
  have gl : (L ++ [(12 : Int32)]).length = L.length + 1 := by simp
  rw [nI_clamp (show s < 2 ^ 31 by omega), ek, et, nI_clamp (show K < 2 ^ 31 by omega), nI_1]
  refine ⟨vp_in_nI (by omega) (by omega), vp_in_nI (by omega) (by omega), vp_in_nI (by omega) (by omega), vp_in_nI (by omega) (by omega), ?_⟩
  refine ⟨fun q => absurd q (by decide), fun q => absurd q (by decide), fun _ => r11_2 d (e + 1) _ M1 _ hC ht hk h7 hs hK hk3 g (by omega) (by omega) (fun M2 g2 => h M2 (by simpa using g2)), fun q => absurd q (by decide), fun q => absurd q (by decide), fun q => absurd q (by decide), fun q => absurd q (by decide), fun q => absurd q (by decide), fun q => absurd q (by decide), fun q => absurd q (by decide), fun q => absurd rfl (q.2.2.1)⟩
theorem r23_4 (d e : Nat) (L : List Int32) (M : Mm) (Q : Int32 → Mm → Prop) (hC : RgC M0 23 n kd th stp ngt) (ht : okT n th) (hk : okK n kd) (h7 : n ≤ 7) (hs : s < n) (hK : kd s = K) (hk3 : K = 4) (hS : SC M0 M L) (hL : L.length + 4 ≤ 16) (he : e + 4 ≤ 16) (h : ∀ M', SC M0 M' (L ++ [23, 20, 13, 10]) → Q (nI s - (nI (th s) - 100)) M') : kX1_run (d + 4) 23 23 (nI s) (nI e) M Q := by
  apply rX1_run _ _ _ rg23
  refine ⟨fun _ => c1_lv _ 23 L M0 M _ hS (by omega) (fun M1 g => ?_), fun q => absurd (by rw [li_16]; exact nI_lt (by omega) (by omega)) q⟩
  have R := SC_R g hC
  have ek : M1 (23 + 1) s = nI K := by rw [← hK]; exact R.2.2.2.1 s hs
  have et : M1 (23 + 2) s = nI (th s) := R.2.2.2.2 s hs
  have bk := hk s hs
  have gl : (L ++ [(23 : Int32)]).length = L.length + 1 := by simp
  rw [nI_clamp (show s < 2 ^ 31 by omega), ek, et, nI_clamp (show K < 2 ^ 31 by omega), nI_1]
  refine ⟨vp_in_nI (by omega) (by omega), vp_in_nI (by omega) (by omega), vp_in_nI (by omega) (by omega), vp_in_nI (by omega) (by omega), ?_⟩
  refine ⟨fun q => absurd q (by decide), fun q => absurd q (by decide), fun q => absurd q (by decide), fun q => absurd q (by decide), fun q => absurd q (by decide), fun q => absurd q (by decide), fun q => absurd q (by decide), fun q => absurd q (by decide), fun _ => r20 (d + 2) (e + 1) _ M1 _ hC ht hk h7 hs hK g (by omega) (by omega) (fun M2 g2 => ?_), fun q => absurd q (by decide), fun q => absurd rfl (q.2.2.2.2.2.2.2.2.1)⟩
  have gl2 : (L ++ [(23 : Int32)] ++ [20]).length = L.length + 2 := by simp
  subst hk3
  exact r13 (d + 1) (e + 1) _ M2 _ hC ht hk h7 hs hK g2 (by omega) (by omega) (fun M3 g3 => h M3 (by simpa using g3))
theorem r23_5 (d e : Nat) (L : List Int32) (M : Mm) (Q : Int32 → Mm → Prop) (hC : RgC M0 23 n kd th stp ngt) (ht : okT n th) (hk : okK n kd) (h7 : n ≤ 7) (hs : s < n) (hK : kd s = K) (hk3 : K = 5) (hS : SC M0 M L) (hL : L.length + 5 ≤ 16) (he : e + 4 ≤ 16) (h : ∀ M', SC M0 M' (L ++ [23, 20, 14, 13, 10]) → Q (nI s - (2 * (nI (th s) - 100))) M') : kX1_run (d + 4) 23 23 (nI s) (nI e) M Q := by
  apply rX1_run _ _ _ rg23
  refine ⟨fun _ => c1_lv _ 23 L M0 M _ hS (by omega) (fun M1 g => ?_), fun q => absurd (by rw [li_16]; exact nI_lt (by omega) (by omega)) q⟩
  have R := SC_R g hC
  have ek : M1 (23 + 1) s = nI K := by rw [← hK]; exact R.2.2.2.1 s hs
  have et : M1 (23 + 2) s = nI (th s) := R.2.2.2.2 s hs
  have bk := hk s hs
  have gl : (L ++ [(23 : Int32)]).length = L.length + 1 := by simp
  rw [nI_clamp (show s < 2 ^ 31 by omega), ek, et, nI_clamp (show K < 2 ^ 31 by omega), nI_1]
  refine ⟨vp_in_nI (by omega) (by omega), vp_in_nI (by omega) (by omega), vp_in_nI (by omega) (by omega), vp_in_nI (by omega) (by omega), ?_⟩
  refine ⟨fun q => absurd q (by decide), fun q => absurd q (by decide), fun q => absurd q (by decide), fun q => absurd q (by decide), fun q => absurd q (by decide), fun q => absurd q (by decide), fun q => absurd q (by decide), fun q => absurd q (by decide), fun _ => r20 (d + 2) (e + 1) _ M1 _ hC ht hk h7 hs hK g (by omega) (by omega) (fun M2 g2 => ?_), fun q => absurd q (by decide), fun q => absurd rfl (q.2.2.2.2.2.2.2.2.1)⟩
  have gl2 : (L ++ [(23 : Int32)] ++ [20]).length = L.length + 2 := by simp
  subst hk3
  exact r14 (d) (e + 1) _ M2 _ hC ht hk h7 hs hK g2 (by omega) (by omega) (fun M3 g3 => h M3 (by simpa using g3))
theorem s10 (d : Nat) (L : List Int32) (M : Mm) (Q : Int32 → Mm → Prop) (hM : RgM M0 0 n kd th stp ngt) (ht : okT n th) (hk : okK n kd) (h7 : n ≤ 7) (hs : s < n) (hK : kd s = K) (hS : SM M0 M L) (hL : L.length + 1 ≤ 16) (h : ∀ M', SM M0 M' (L ++ [10]) → Q (nI (th s)) M') : kX8_size10 (d + 1) (nI s) M Q := by
  apply rX8_size10
  refine c8_tr _ 10 L M0 M _ hS (by omega) (fun M1 g => ?_)
  have et : M1 50 (0 + 3 + s) = nI (th s) := (SM_R g hM h7).2.2.2.1 s hs
  rw [Nat.zero_add] at et
  rw [li_3, nI_add, nI_clamp (by omega), et]
  exact ⟨vp_in_nI (by omega) (by omega), h M1 g⟩
theorem k20 (d : Nat) (L : List Int32) (M : Mm) (Q : Int32 → Mm → Prop) (hM : RgM M0 0 n kd th stp ngt) (ht : okT n th) (hk : okK n kd) (h7 : n ≤ 7) (hs : s < n) (hK : kd s = K) (hS : SM M0 M L) (hL : L.length + 1 ≤ 16) (h : ∀ M', SM M0 M' (L ++ [20]) → Q (nI s) M') : kX8_mark20 (d + 1) (nI s) M Q := by
  apply rX8_mark20
  exact c8_tr _ 20 L M0 M _ hS (by omega) (fun M1 g => h M1 g)
theorem s13 (d : Nat) (L : List Int32) (M : Mm) (Q : Int32 → Mm → Prop) (hM : RgM M0 0 n kd th stp ngt) (ht : okT n th) (hk : okK n kd) (h7 : n ≤ 7) (hs : s < n) (hK : kd s = K) (hS : SM M0 M L) (hL : L.length + 2 ≤ 16) (h : ∀ M', SM M0 M' (L ++ [13, 10]) → Q (nI (th s) - 100) M') : kX8_size13 (d + 2) (nI s) M Q := by
  apply rX8_size13
  have gl : (L ++ [(13 : Int32)]).length = L.length + 1 := by simp
  exact c8_tr _ 13 L M0 M _ hS (by omega) (fun M1 g => s10 _ _ M1 _ hM ht hk h7 hs hK g (by omega) (fun M2 g2 => h M2 (by simpa using g2)))
theorem k21 (d : Nat) (L : List Int32) (M : Mm) (Q : Int32 → Mm → Prop) (hM : RgM M0 0 n kd th stp ngt) (ht : okT n th) (hk : okK n kd) (h7 : n ≤ 7) (hs : s < n) (hK : kd s = K) (hS : SM M0 M L) (hL : L.length + 2 ≤ 16) (h : ∀ M', SM M0 M' (L ++ [21, 20]) → Q (nI s + nI (cnt0 th n)) M') : kX8_mark21 (d + 2) (nI s) M Q := by
  apply rX8_mark21
  have gl : (L ++ [(21 : Int32)]).length = L.length + 1 := by simp
  exact c8_tr _ 21 L M0 M _ hS (by omega) (fun M1 g => k20 _ _ M1 _ hM ht hk h7 hs hK g (by omega) (fun M2 g2 => c8_noneOf _ n kd th stp ngt M2 _ (SM_R g2 hM h7) ht h7 (h M2 (by simpa using g2))))
theorem kO_1 (d : Nat) (L : List Int32) (M : Mm) (Q : Int32 → Mm → Prop) (hM : RgM M0 0 n kd th stp ngt) (ht : okT n th) (hk : okK n kd) (h7 : n ≤ 7) (hs : s < n) (hK : kd s = K) (hk3 : K = 1) (hS : SM M0 M L) (hL : L.length + 2 ≤ 16) (h : ∀ M', SM M0 M' (L ++ [21, 20]) → Q (nI s + nI (cnt0 th n)) M') : kX8_markOf (d + 3) (nI s) M Q := by
  apply rX8_markOf
  have ek : M 50 (0 + 10 + s) = nI K := by rw [← hK]; exact (SM_R hS hM h7).2.2.2.2 s hs
  rw [Nat.zero_add] at ek
  have bk := hk s hs
  subst hk3
  rw [li_10, nI_add, nI_clamp (by omega), ek]
  exact ⟨vp_in_nI (by omega) (by omega), fun q => absurd q (by decide), fun q => absurd q (by decide), fun _ => k21 d _ M _ hM ht hk h7 hs hK hS (by omega) h⟩
theorem kO_2 (d : Nat) (L : List Int32) (M : Mm) (Q : Int32 → Mm → Prop) (hM : RgM M0 0 n kd th stp ngt) (ht : okT n th) (hk : okK n kd) (h7 : n ≤ 7) (hs : s < n) (hK : kd s = K) (hk3 : K = 2) (hS : SM M0 M L) (hL : L.length + 3 ≤ 16) (h : ∀ M', SM M0 M' (L ++ [24, 21, 20]) → Q (2 * (nI s + nI (cnt0 th n))) M') : kX8_markOf (d + 3) (nI s) M Q := by
  apply rX8_markOf
  have gl : (L ++ [(24 : Int32)]).length = L.length + 1 := by simp
  have ek : M 50 (0 + 10 + s) = nI K := by rw [← hK]; exact (SM_R hS hM h7).2.2.2.2 s hs
  rw [Nat.zero_add] at ek
  have bk := hk s hs
  subst hk3
  rw [li_10, nI_add, nI_clamp (by omega), ek]
  exact ⟨vp_in_nI (by omega) (by omega), fun _ => c8_tr _ 24 L M0 M _ hS (by omega) (fun M1 g => k21 d _ M1 _ hM ht hk h7 hs hK g (by omega) (fun M2 g2 => h M2 (by simpa using g2))), fun q => absurd q (by decide), fun q => absurd rfl q.1⟩
theorem kO_3 (d : Nat) (L : List Int32) (M : Mm) (Q : Int32 → Mm → Prop) (hM : RgM M0 0 n kd th stp ngt) (ht : okT n th) (hk : okK n kd) (h7 : n ≤ 7) (hs : s < n) (hK : kd s = K) (hk3 : K = 3) (hS : SM M0 M L) (hL : L.length + 3 ≤ 16) (h : ∀ M', SM M0 M' (L ++ [22, 21, 20]) → Q (nI s + nI (cnt0 th n) - 1000) M') : kX8_markOf (d + 3) (nI s) M Q := by
  apply rX8_markOf
  have gl : (L ++ [(22 : Int32)]).length = L.length + 1 := by simp
  have ek : M 50 (0 + 10 + s) = nI K := by rw [← hK]; exact (SM_R hS hM h7).2.2.2.2 s hs
  rw [Nat.zero_add] at ek
  have bk := hk s hs
  subst hk3
  rw [li_10, nI_add, nI_clamp (by omega), ek]
  exact ⟨vp_in_nI (by omega) (by omega), fun q => absurd q (by decide), fun _ => c8_tr _ 22 L M0 M _ hS (by omega) (fun M1 g => k21 d _ M1 _ hM ht hk h7 hs hK g (by omega) (fun M2 g2 => h M2 (by simpa using g2))), fun q => absurd rfl q.2⟩
theorem s11_1 (d : Nat) (L : List Int32) (M : Mm) (Q : Int32 → Mm → Prop) (hM : RgM M0 0 n kd th stp ngt) (ht : okT n th) (hk : okK n kd) (h7 : n ≤ 7) (hs : s < n) (hK : kd s = K) (hk3 : K = 1) (hS : SM M0 M L) (hL : L.length + 4 ≤ 16) (h : ∀ M', SM M0 M' (L ++ [11, 10, 21, 20]) → Q (nI (th s) + (nI s + nI (cnt0 th n))) M') : kX8_size11 (d + 4) (nI s) M Q := by
  apply rX8_size11
  have gl : (L ++ [(11 : Int32)]).length = L.length + 1 := by simp
  have gl2 : (L ++ [(11 : Int32)] ++ [10]).length = L.length + 2 := by simp
  exact c8_tr _ 11 L M0 M _ hS (by omega) (fun M1 g => s10 (d + 2) _ M1 _ hM ht hk h7 hs hK g (by omega) (fun M2 g2 => kO_1 d _ M2 _ hM ht hk h7 hs hK hk3 g2 (by omega) (fun M3 g3 => h M3 (by simpa using g3))))
theorem s11_2 (d : Nat) (L : List Int32) (M : Mm) (Q : Int32 → Mm → Prop) (hM : RgM M0 0 n kd th stp ngt) (ht : okT n th) (hk : okK n kd) (h7 : n ≤ 7) (hs : s < n) (hK : kd s = K) (hk3 : K = 2) (hS : SM M0 M L) (hL : L.length + 5 ≤ 16) (h : ∀ M', SM M0 M' (L ++ [11, 10, 24, 21, 20]) → Q (nI (th s) + (2 * (nI s + nI (cnt0 th n)))) M') : kX8_size11 (d + 4) (nI s) M Q := by
  apply rX8_size11
  have gl : (L ++ [(11 : Int32)]).length = L.length + 1 := by simp
  have gl2 : (L ++ [(11 : Int32)] ++ [10]).length = L.length + 2 := by simp
  exact c8_tr _ 11 L M0 M _ hS (by omega) (fun M1 g => s10 (d + 2) _ M1 _ hM ht hk h7 hs hK g (by omega) (fun M2 g2 => kO_2 d _ M2 _ hM ht hk h7 hs hK hk3 g2 (by omega) (fun M3 g3 => h M3 (by simpa using g3))))
theorem s11_3 (d : Nat) (L : List Int32) (M : Mm) (Q : Int32 → Mm → Prop) (hM : RgM M0 0 n kd th stp ngt) (ht : okT n th) (hk : okK n kd) (h7 : n ≤ 7) (hs : s < n) (hK : kd s = K) (hk3 : K = 3) (hS : SM M0 M L) (hL : L.length + 5 ≤ 16) (h : ∀ M', SM M0 M' (L ++ [11, 10, 22, 21, 20]) → Q (nI (th s) + (nI s + nI (cnt0 th n) - 1000)) M') : kX8_size11 (d + 4) (nI s) M Q := by
  apply rX8_size11
  have gl : (L ++ [(11 : Int32)]).length = L.length + 1 := by simp
  have gl2 : (L ++ [(11 : Int32)] ++ [10]).length = L.length + 2 := by simp
  exact c8_tr _ 11 L M0 M _ hS (by omega) (fun M1 g => s10 (d + 2) _ M1 _ hM ht hk h7 hs hK g (by omega) (fun M2 g2 => kO_3 d _ M2 _ hM ht hk h7 hs hK hk3 g2 (by omega) (fun M3 g3 => h M3 (by simpa using g3))))
theorem sO_1 (d : Nat) (L : List Int32) (M : Mm) (Q : Int32 → Mm → Prop) (hM : RgM M0 0 n kd th stp ngt) (ht : okT n th) (hk : okK n kd) (h7 : n ≤ 7) (hs : s < n) (hK : kd s = K) (hk3 : K = 1) (hS : SM M0 M L) (hL : L.length + 4 ≤ 16) (h : ∀ M', SM M0 M' (L ++ [11, 10, 21, 20]) → Q (nI (th s) + (nI s + nI (cnt0 th n))) M') : kX8_sizeOf (d + 5) (nI s) M Q := by
  apply rX8_sizeOf
  have ek : M 50 (0 + 10 + s) = nI K := by rw [← hK]; exact (SM_R hS hM h7).2.2.2.2 s hs
  rw [Nat.zero_add] at ek
  have bk := hk s hs
  subst hk3
  rw [li_10, nI_add, nI_clamp (by omega), ek]
  exact ⟨vp_in_nI (by omega) (by omega), fun q => absurd q (by decide), fun q => absurd q (by decide), fun q => absurd q (by decide), fun _ => s11_1 d _ M _ hM ht hk h7 hs hK rfl hS (by omega) h⟩
theorem sO_2 (d : Nat) (L : List Int32) (M : Mm) (Q : Int32 → Mm → Prop) (hM : RgM M0 0 n kd th stp ngt) (ht : okT n th) (hk : okK n kd) (h7 : n ≤ 7) (hs : s < n) (hK : kd s = K) (hk3 : K = 2) (hS : SM M0 M L) (hL : L.length + 6 ≤ 16) (h : ∀ M', SM M0 M' (L ++ [12, 11, 10, 24, 21, 20]) → Q (-(nI (th s) + (2 * (nI s + nI (cnt0 th n))))) M') : kX8_sizeOf (d + 5) (nI s) M Q := by
  apply rX8_sizeOf
  have gl : (L ++ [(12 : Int32)]).length = L.length + 1 := by simp
  have ek : M 50 (0 + 10 + s) = nI K := by rw [← hK]; exact (SM_R hS hM h7).2.2.2.2 s hs
  rw [Nat.zero_add] at ek
  have bk := hk s hs
  subst hk3
  rw [li_10, nI_add, nI_clamp (by omega), ek]
  exact ⟨vp_in_nI (by omega) (by omega), fun _ => c8_tr _ 12 L M0 M _ hS (by omega) (fun M1 g => s11_2 d _ M1 _ hM ht hk h7 hs hK rfl g (by omega) (fun M2 g2 => h M2 (by simpa using g2))), fun q => absurd q (by decide), fun q => absurd q (by decide), fun q => absurd rfl q.1⟩
theorem sO_3 (d : Nat) (L : List Int32) (M : Mm) (Q : Int32 → Mm → Prop) (hM : RgM M0 0 n kd th stp ngt) (ht : okT n th) (hk : okK n kd) (h7 : n ≤ 7) (hs : s < n) (hK : kd s = K) (hk3 : K = 3) (hS : SM M0 M L) (hL : L.length + 5 ≤ 16) (h : ∀ M', SM M0 M' (L ++ [11, 10, 22, 21, 20]) → Q (nI (th s) + (nI s + nI (cnt0 th n) - 1000)) M') : kX8_sizeOf (d + 5) (nI s) M Q := by
  apply rX8_sizeOf
  have ek : M 50 (0 + 10 + s) = nI K := by rw [← hK]; exact (SM_R hS hM h7).2.2.2.2 s hs
  rw [Nat.zero_add] at ek
  have bk := hk s hs
  subst hk3
  rw [li_10, nI_add, nI_clamp (by omega), ek]
  exact ⟨vp_in_nI (by omega) (by omega), fun q => absurd q (by decide), fun q => absurd q (by decide), fun q => absurd q (by decide), fun _ => s11_3 d _ M _ hM ht hk h7 hs hK rfl hS (by omega) h⟩
theorem sO_4 (d : Nat) (L : List Int32) (M : Mm) (Q : Int32 → Mm → Prop) (hM : RgM M0 0 n kd th stp ngt) (ht : okT n th) (hk : okK n kd) (h7 : n ≤ 7) (hs : s < n) (hK : kd s = K) (hk3 : K = 4) (hS : SM M0 M L) (hL : L.length + 2 ≤ 16) (h : ∀ M', SM M0 M' (L ++ [13, 10]) → Q (nI (th s) - 100) M') : kX8_sizeOf (d + 5) (nI s) M Q := by
  apply rX8_sizeOf
  have ek : M 50 (0 + 10 + s) = nI K := by rw [← hK]; exact (SM_R hS hM h7).2.2.2.2 s hs
  rw [Nat.zero_add] at ek
  have bk := hk s hs
  subst hk3
  rw [li_10, nI_add, nI_clamp (by omega), ek]
  exact ⟨vp_in_nI (by omega) (by omega), fun q => absurd q (by decide), fun _ => s13 (d + 2) _ M _ hM ht hk h7 hs hK hS (by omega) h, fun q => absurd q (by decide), fun q => absurd rfl q.2.1⟩
theorem sO_5 (d : Nat) (L : List Int32) (M : Mm) (Q : Int32 → Mm → Prop) (hM : RgM M0 0 n kd th stp ngt) (ht : okT n th) (hk : okK n kd) (h7 : n ≤ 7) (hs : s < n) (hK : kd s = K) (hk3 : K = 5) (hS : SM M0 M L) (hL : L.length + 3 ≤ 16) (h : ∀ M', SM M0 M' (L ++ [14, 13, 10]) → Q (2 * (nI (th s) - 100)) M') : kX8_sizeOf (d + 5) (nI s) M Q := by
  apply rX8_sizeOf
  have gl : (L ++ [(14 : Int32)]).length = L.length + 1 := by simp
  have ek : M 50 (0 + 10 + s) = nI K := by rw [← hK]; exact (SM_R hS hM h7).2.2.2.2 s hs
  rw [Nat.zero_add] at ek
  have bk := hk s hs
  subst hk3
  rw [li_10, nI_add, nI_clamp (by omega), ek]
  exact ⟨vp_in_nI (by omega) (by omega), fun q => absurd q (by decide), fun q => absurd q (by decide), fun _ => c8_tr _ 14 L M0 M _ hS (by omega) (fun M1 g => s13 (d + 2) _ M1 _ hM ht hk h7 hs hK g (by omega) (fun M2 g2 => h M2 (by simpa using g2))), fun q => absurd rfl q.2.2⟩
theorem k23_4 (d : Nat) (L : List Int32) (M : Mm) (Q : Int32 → Mm → Prop) (hM : RgM M0 0 n kd th stp ngt) (ht : okT n th) (hk : okK n kd) (h7 : n ≤ 7) (hs : s < n) (hK : kd s = K) (hk3 : K = 4) (hS : SM M0 M L) (hL : L.length + 4 ≤ 16) (h : ∀ M', SM M0 M' (L ++ [23, 20, 13, 10]) → Q (nI s - (nI (th s) - 100)) M') : kX8_mark23 (d + 6) (nI s) M Q := by
  apply rX8_mark23
  have gl : (L ++ [(23 : Int32)]).length = L.length + 1 := by simp
  have gl2 : (L ++ [(23 : Int32)] ++ [20]).length = L.length + 2 := by simp
  exact c8_tr _ 23 L M0 M _ hS (by omega) (fun M1 g => k20 (d + 4) _ M1 _ hM ht hk h7 hs hK g (by omega) (fun M2 g2 => sO_4 d _ M2 _ hM ht hk h7 hs hK hk3 g2 (by omega) (fun M3 g3 => h M3 (by simpa using g3))))
theorem k23_5 (d : Nat) (L : List Int32) (M : Mm) (Q : Int32 → Mm → Prop) (hM : RgM M0 0 n kd th stp ngt) (ht : okT n th) (hk : okK n kd) (h7 : n ≤ 7) (hs : s < n) (hK : kd s = K) (hk3 : K = 5) (hS : SM M0 M L) (hL : L.length + 5 ≤ 16) (h : ∀ M', SM M0 M' (L ++ [23, 20, 14, 13, 10]) → Q (nI s - (2 * (nI (th s) - 100))) M') : kX8_mark23 (d + 6) (nI s) M Q := by
  apply rX8_mark23
  have gl : (L ++ [(23 : Int32)]).length = L.length + 1 := by simp
  have gl2 : (L ++ [(23 : Int32)] ++ [20]).length = L.length + 2 := by simp
  exact c8_tr _ 23 L M0 M _ hS (by omega) (fun M1 g => k20 (d + 4) _ M1 _ hM ht hk h7 hs hK g (by omega) (fun M2 g2 => sO_5 d _ M2 _ hM ht hk h7 hs hK hk3 g2 (by omega) (fun M3 g3 => h M3 (by simpa using g3))))
end
theorem Inv_tr {M M1 M2 : Mm} {L : List Int32} (hI : Inv M) (h1 : SC M M1 L) (h2 : SM M1 M2 L) (hL : L.length ≤ 16) : Inv M2 := by
  obtain ⟨a, b, c, d, e, f⟩ := hI
  have r : ∀ q, q ≠ 46 → q ≠ 47 → q ≠ 49 → q ≠ 64 → M2 q = M q := fun q z1 z2 z3 z4 => by rw [h2.1 q z3 z4, h1.1 q z1 z2]
  have r49 : ∀ i, i ≠ 22 → M2 49 i = M 49 i := fun i hi => by rw [h2.2.1 i hi, h1.1 49 (by omega) (by omega)]
  have rr : ∀ q, q < 46 → M2 q = M q := fun q h => r q (by omega) (by omega) (by omega) (by omega)
  have r50 : M2 50 = M 50 := r 50 (by omega) (by omega) (by omega) (by omega)
  refine ⟨I_rows_c a (fun k _ _ => rr k (by omega)) (r 52 (by omega) (by omega) (by omega) (by omega)) (r 53 (by omega) (by omega) (by omega) (by omega)) (r 54 (by omega) (by omega) (by omega) (by omega)), I_tape_c b (by rw [rr 18 (by omega)]) (by rw [rr 18 (by omega)]) (rr 19 (by omega)) (r49 3 (by omega)) (r49 4 (by omega)) (r 51 (by omega) (by omega) (by omega) (by omega)) (by rw [rr 20 (by omega)]), I_ra_c c (rr 23 (by omega)) (rr 24 (by omega)) (rr 25 (by omega)) (rr 36 (by omega)) (rr 37 (by omega)) (rr 38 (by omega)) (rr 39 (by omega)) (r49 1 (by omega)) (fun i _ => by rw [r50]), I_img_c d (fun k _ _ => rr k (by omega)) (fun i _ _ => by rw [r50]), ?_, ⟨L.length, hL, ?_, h2.2.2.1, fun i hi => ?_⟩⟩
  · show M2 0 10 = M2 49 5
    rw [rr 0 (by omega), r49 5 (by omega)]; exact e
  · rw [h2.1 46 (by omega) (by omega)]; exact h1.2.1
  · rw [h2.1 47 (by omega) (by omega), h1.2.2 i hi, h2.2.2.2 i hi]
theorem L_ask (v1 v2 : Int32) (M : Mm) (hI : Inv M) : kX7_ask 40 v1 v2 M (fun r1 M1 => kX8_ask 40 v1 v2 M1 (fun r2 M2 => r1 = r2 ∧ Inv M2)) := by
  obtain ⟨n, kd, th, stp, ngt, hC, hM, hok, -⟩ := hI.2.2.1
  have h7 := okR_7 hok
  apply rX7_ask
  rcases s_ix v1 h7 with h1 | ⟨s, hs, rfl⟩
  · refine c4_sn _ 23 rg23 n _ _ _ hC.1 h1 ⟨fun _ => ?_, fun q => absurd rfl q⟩
    apply rX8_ask
    exact c8_sn _ n _ _ _ hM.1 h7 h1 ⟨fun _ => ⟨rfl, hI⟩, fun q => absurd rfl q⟩
  refine c4_sy _ 23 rg23 n s _ _ hC.1 h7 hs ⟨fun q => absurd q (by decide), fun _ => c7_fs _ _ _ _ ?_⟩
  have ht := (okR_T hok).1
  have hk := (okR_T hok).2
  have bk := hk s hs
  have c1start : SC M (upd2 M 46 1 0) [] := ⟨fun q a b => upd2_off a, upd2_at, fun i hi => absurd hi (by simp)⟩
  have c8start : ∀ M1 : Mm, SM M1 (upd2 M1 49 22 0) [] := fun M1 => ⟨fun q a b => upd2_off a, fun i hi => upd2_row hi, upd2_at, fun i hi => absurd hi (by simp)⟩
  have m8 : ∀ (M1 : Mm) (Q : Int32 → Mm → Prop), M1 50 = M 50 → (v2 = 0 ∨ v2 = 1) → ((¬ v2 = 0 → ((kd s < 4 → kX8_markOf 39 (nI s) (upd2 M1 49 22 0) (fun r3 M4 => Q r3 M4)) ∧ (¬ kd s < 4 → kX8_mark23 39 (nI s) (upd2 M1 49 22 0) (fun r4 M5 => Q r4 M5)))) ∧ (v2 = 0 → kX8_sizeOf 39 (nI s) (upd2 M1 49 22 0) (fun r5 M6 => Q r5 M6))) → kX8_ask 40 (nI s) v2 M1 Q := by
    intro M1 Q e hv h
    apply rX8_ask
    refine c8_sy _ n s _ _ (by rw [e]; exact hM.1) h7 hs ⟨fun q => absurd q (by decide), fun _ => c8_fs _ _ _ _ ?_⟩
    rw [if_pos hv]
    refine ⟨fun _ => ?_, fun q => absurd q (by decide)⟩
    rintro M3 rfl
    have ek : upd2 M1 49 22 0 50 (0 + 10 + s) = nI (kd s) := by rw [upd2_off (by omega), e]; exact hM.2.2.2.2 s hs
    rw [Nat.zero_add] at ek
    rw [li_10, nI_add, nI_clamp (by omega), ek, li_4]
    simp (disch := omega) only [nI_ltI]
    exact ⟨fun z => ⟨vp_in_nI (by omega) (by omega), h.1 z⟩, h.2⟩
  have ekc : upd2 M 46 1 0 (23 + 1) s = nI (kd s) := by rw [upd2_off (by omega)]; exact hC.2.2.2.1 s hs
  have hM1 : ∀ {M1 : Mm} {L : List Int32}, SC M M1 L → RgM M1 0 n kd th stp ngt := fun {M1 L} g => RgM_c hM h7 (fun i _ _ => by rw [g.1 50 (by omega) (by omega)])
  have a7 : ∀ (Q : Int32 → Mm → Prop), ((¬ v2 = 0 → kX1_run 38 ((stL 2).getD (kd s) 0) 23 (nI s) 0 (upd2 M 46 1 0) (fun r3 M3 => Q r3 M3)) ∧ (v2 = 0 → kX1_run 38 ((stL 1).getD (kd s) 0) 23 (nI s) 0 (upd2 M 46 1 0) (fun r3 M3 => Q r3 M3))) → kX1_answer 39 23 (nI s) v2 M Q := by
    intro Q h
    apply rX1_answer _ _ rg23
    rintro M1 rfl
    rw [nI_clamp (show s < 2 ^ 31 by omega), ekc, nI_clamp (by omega)]
    refine ⟨vp_in_nI (by omega) (by omega), fun z => ⟨vp_in_nI (by omega) (by omega), ?_⟩, fun z => ⟨vp_in_nI (by omega) (by omega), ?_⟩⟩
    · apply rX1_answer_33 _ _ rg23
      exact h.1 z
    · apply rX1_answer_33 _ _ rg23
      exact h.2 z
  rcases fs_ix v2 with rfl | rfl | hv
  · rw [if_pos (by decide)]
    refine ⟨fun _ => ?_, fun q => absurd q (by decide)⟩
    rcases (show kd s = 1 ∨ kd s = 2 ∨ kd s = 3 ∨ kd s = 4 ∨ kd s = 5 by omega) with e | e | e | e | e
    · refine a7 _ ⟨fun z => absurd rfl z, fun _ => ?_⟩
      rw [e]
      refine r11_1 34 0 [] _ _ hC ht hk h7 hs e rfl c1start (by decide) (by decide) (fun M1 g => m8 M1 _ (g.1 50 (by omega) (by omega)) (Or.inl rfl) ?_)
      exact ⟨fun z => absurd rfl z, fun _ => sO_1 34 [] _ _ (hM1 g) ht hk h7 hs e rfl (c8start M1) (by decide) (fun M2 g2 => ⟨rfl, Inv_tr hI g g2 (by decide)⟩)⟩
    · refine a7 _ ⟨fun z => absurd rfl z, fun _ => ?_⟩
      rw [e]
      refine r12 33 0 [] _ _ hC ht hk h7 hs e rfl c1start (by decide) (by decide) (fun M1 g => m8 M1 _ (g.1 50 (by omega) (by omega)) (Or.inl rfl) ?_)
      exact ⟨fun z => absurd rfl z, fun _ => sO_2 34 [] _ _ (hM1 g) ht hk h7 hs e rfl (c8start M1) (by decide) (fun M2 g2 => ⟨rfl, Inv_tr hI g g2 (by decide)⟩)⟩
    · refine a7 _ ⟨fun z => absurd rfl z, fun _ => ?_⟩
      rw [e]
      refine r11_3 34 0 [] _ _ hC ht hk h7 hs e rfl c1start (by decide) (by decide) (fun M1 g => m8 M1 _ (g.1 50 (by omega) (by omega)) (Or.inl rfl) ?_)
      exact ⟨fun z => absurd rfl z, fun _ => sO_3 34 [] _ _ (hM1 g) ht hk h7 hs e rfl (c8start M1) (by decide) (fun M2 g2 => ⟨rfl, Inv_tr hI g g2 (by decide)⟩)⟩
    · refine a7 _ ⟨fun z => absurd rfl z, fun _ => ?_⟩
      rw [e]
      refine r13 36 0 [] _ _ hC ht hk h7 hs e c1start (by decide) (by decide) (fun M1 g => m8 M1 _ (g.1 50 (by omega) (by omega)) (Or.inl rfl) ?_)
      exact ⟨fun z => absurd rfl z, fun _ => sO_4 34 [] _ _ (hM1 g) ht hk h7 hs e rfl (c8start M1) (by decide) (fun M2 g2 => ⟨rfl, Inv_tr hI g g2 (by decide)⟩)⟩
    · refine a7 _ ⟨fun z => absurd rfl z, fun _ => ?_⟩
      rw [e]
      refine r14 35 0 [] _ _ hC ht hk h7 hs e c1start (by decide) (by decide) (fun M1 g => m8 M1 _ (g.1 50 (by omega) (by omega)) (Or.inl rfl) ?_)
      exact ⟨fun z => absurd rfl z, fun _ => sO_5 34 [] _ _ (hM1 g) ht hk h7 hs e rfl (c8start M1) (by decide) (fun M2 g2 => ⟨rfl, Inv_tr hI g g2 (by decide)⟩)⟩
  · rw [if_pos (by decide)]
    refine ⟨fun _ => ?_, fun q => absurd q (by decide)⟩
    rcases (show kd s = 1 ∨ kd s = 2 ∨ kd s = 3 ∨ kd s = 4 ∨ kd s = 5 by omega) with e | e | e | e | e
    · refine a7 _ ⟨fun _ => ?_, fun z => absurd z (by decide)⟩
      rw [e]
      refine r21 36 0 [] _ _ hC ht hk h7 hs e c1start (by decide) (by decide) (fun M1 g => m8 M1 _ (g.1 50 (by omega) (by omega)) (Or.inr rfl) ?_)
      exact ⟨fun _ => ⟨fun _ => kO_1 36 [] _ _ (hM1 g) ht hk h7 hs e rfl (c8start M1) (by decide) (fun M2 g2 => ⟨rfl, Inv_tr hI g g2 (by decide)⟩), fun z => absurd (by rw [e]; decide) z⟩, fun z => absurd z (by decide)⟩
    · refine a7 _ ⟨fun _ => ?_, fun z => absurd z (by decide)⟩
      rw [e]
      refine r24 35 0 [] _ _ hC ht hk h7 hs e c1start (by decide) (by decide) (fun M1 g => m8 M1 _ (g.1 50 (by omega) (by omega)) (Or.inr rfl) ?_)
      exact ⟨fun _ => ⟨fun _ => kO_2 36 [] _ _ (hM1 g) ht hk h7 hs e rfl (c8start M1) (by decide) (fun M2 g2 => ⟨rfl, Inv_tr hI g g2 (by decide)⟩), fun z => absurd (by rw [e]; decide) z⟩, fun z => absurd z (by decide)⟩
    · refine a7 _ ⟨fun _ => ?_, fun z => absurd z (by decide)⟩
      rw [e]
      refine r22 35 0 [] _ _ hC ht hk h7 hs e c1start (by decide) (by decide) (fun M1 g => m8 M1 _ (g.1 50 (by omega) (by omega)) (Or.inr rfl) ?_)
      exact ⟨fun _ => ⟨fun _ => kO_3 36 [] _ _ (hM1 g) ht hk h7 hs e rfl (c8start M1) (by decide) (fun M2 g2 => ⟨rfl, Inv_tr hI g g2 (by decide)⟩), fun z => absurd (by rw [e]; decide) z⟩, fun z => absurd z (by decide)⟩
    · refine a7 _ ⟨fun _ => ?_, fun z => absurd z (by decide)⟩
      rw [e]
      refine r23_4 34 0 [] _ _ hC ht hk h7 hs e rfl c1start (by decide) (by decide) (fun M1 g => m8 M1 _ (g.1 50 (by omega) (by omega)) (Or.inr rfl) ?_)
      exact ⟨fun _ => ⟨fun z => absurd z (by rw [e]; decide), fun _ => k23_4 33 [] _ _ (hM1 g) ht hk h7 hs e rfl (c8start M1) (by decide) (fun M2 g2 => ⟨rfl, Inv_tr hI g g2 (by decide)⟩)⟩, fun z => absurd z (by decide)⟩
    · refine a7 _ ⟨fun _ => ?_, fun z => absurd z (by decide)⟩
      rw [e]
      refine r23_5 34 0 [] _ _ hC ht hk h7 hs e rfl c1start (by decide) (by decide) (fun M1 g => m8 M1 _ (g.1 50 (by omega) (by omega)) (Or.inr rfl) ?_)
      exact ⟨fun _ => ⟨fun z => absurd z (by rw [e]; decide), fun _ => k23_5 33 [] _ _ (hM1 g) ht hk h7 hs e rfl (c8start M1) (by decide) (fun M2 g2 => ⟨rfl, Inv_tr hI g g2 (by decide)⟩)⟩, fun z => absurd z (by decide)⟩
  · rw [if_neg (fun z => z.elim hv.1 hv.2)]
    refine ⟨fun q => absurd rfl q, fun _ => ?_⟩
    apply rX8_ask
    refine c8_sy _ n s _ _ hM.1 h7 hs ⟨fun q => absurd q (by decide), fun _ => c8_fs _ _ _ _ ?_⟩
    rw [if_neg (fun z => z.elim hv.1 hv.2)]
    exact ⟨fun q => absurd rfl q, fun _ => ⟨rfl, hI⟩⟩
