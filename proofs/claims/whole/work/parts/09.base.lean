/-! THE SYSTEM AS ONE PURE MEMORY: object k's slot j holds M k j; references never change after the constructors -/
abbrev Mm : Type := Nat → Nat → Int32
def upd2 (M : Mm) (k j : Nat) (x : Int32) : Mm := fun i => if i = k then upd (M k) j x else M i
def setR (M : Mm) (k : Nat) (f : Nat → Int32) : Mm := fun i => if i = k then f else M i
def irem (x y : Int32) : Int32 := x - x / y * y
def lrem (x y : Int64) : Int64 := x - x / y * y
def ishl (x y : Int32) : Int32 := x <<< (y &&& 31)
def ishr (x y : Int32) : Int32 := x >>> (y &&& 31)
def iushr (x y : Int32) : Int32 := (x.toUInt32 >>> (y.toUInt32 &&& Int32.toUInt32 31)).toInt32
def imax (x y : Int32) : Int32 := if x < y then y else x
def imin (x y : Int32) : Int32 := if y < x then y else x
def sh (i : Int32) : Nat := 2 + 2 * i.toNatClampNeg
def im (i : Int32) : Nat := 30 + 3 * i.toNatClampNeg
/-- addresses, array classes, class numbers -/
abbrev Gg : Type := va_G × (Nat → ClassId) × (Nat → Nat)
def ob_cl : List Nat := [7, 11, 5, 9, 5, 9, 5, 9, 5, 9, 5, 9, 5, 9, 5, 9, 5, 9, 6, 9, 4, 9, 9, 4, 9, 9, 4, 9, 9, 10, 4, 9, 9, 4, 9, 9, 0, 9, 9, 9, 2, 9, 9, 3, 9, 9, 1, 9, 9, 8, 9, 9, 9, 9, 9, 9, 9, 9, 9, 9, 9, 9, 9, 9, 9]
def ob_c (k : Nat) : Nat := ob_cl.getD k 9
def ob_nl : List Nat := [0, 8, 0, 40, 0, 40, 0, 40, 0, 40, 0, 40, 0, 40, 0, 40, 0, 40, 0, 50, 0, 7, 7, 0, 7, 7, 0, 7, 7, 2, 0, 7, 7, 0, 7, 7, 0, 24, 24, 24, 0, 7, 7, 0, 7, 10, 0, 16, 2, 0, 301, 50, 8, 8, 320, 40, 10, 7, 7, 7, 7, 8, 21, 7, 16]
def ob_n (k : Nat) : Nat := ob_nl.getD k 0
def ob_nf (c : Nat) : Nat := [5, 2, 2, 3, 5, 3, 5, 11, 23].getD c 0
def ob_r (k j : Nat) : Option Nat :=
  if k = 0 then [some 1, some 18, some 23, some 26, some 29, some 36, some 40, some 43, some 46, some 48].getD j none
  else if k = 1 then (if j < 8 then some (2 + 2 * j) else none)
  else if k = 29 then (if j < 2 then some (30 + 3 * j) else none)
  else if k = 18 then [some 19, some 20].getD j none
  else if k = 36 then [some 37, some 38, some 39].getD j none
  else if k = 40 then [some 41, some 42].getD j none
  else if k = 43 then [some 44, some 45].getD j none
  else if k = 46 then [some 47].getD j none
  else if k = 49 then [some 50, none, some 51, none, none, none, some 52, some 53, some 54, some 55, none, none, none, some 56, some 57, some 58, some 59, some 60, some 61, some 62, some 63, some 64].getD j none
  else if ob_c k = 4 then [some (k + 1), some (k + 2)].getD j none
  else if ob_c k = 5 then [some (k + 1)].getD j none
  else none
def ob_f (G : Gg) (k : Nat) (row : Nat → Int32) (j : Nat) : Value := match ob_r k j with
  | some t => .ref (G.2.2 t)
  | none => .int (row j)
def ob_e (G : Gg) (k : Nat) (row : Nat → Int32) : va_E := if ob_c k < 9 then .inr (ob_c k, (List.range (ob_nf (ob_c k))).map (ob_f G k row)) else if ob_c k = 9 then .inl (G.2.1 0, ob_n k, .inl row) else .inl (G.2.1 (ob_c k - 9), ob_n k, .inr (.inr (.inr (.inr (fun j => (ob_r k j).map G.2.2)))))
def wl (G : Gg) (M : Mm) : va_W := (List.range 65).map (fun k => (G.2.2 k, ob_e G k (M k)))
def tyl (G : Gg) : List (ClassId × FieldType) := [(G.2.1 0, .int), (G.2.1 1, .object "NicheSaints$Ring"), (G.2.1 2, .object "NicheSaints$Shelf")]
def tv (G : Gg) (v : Value) : Value := match v with
  | .ref k => .ref (G.2.2 k)
  | v => v
def tl (G : Gg) (lv : List (Nat × Value)) : List (Nat × Value) := lv.map (fun q => (q.1, tv G q.2))
def ob_v (M : Mm) (k j : Nat) : Value := match ob_r k j with
  | some t => .ref t
  | none => .int (M k j)
def isRg (o : Nat) : Prop := o = 20 ∨ o = 23 ∨ o = 26 ∨ o = 30 ∨ o = 33
def isSh (o : Nat) : Prop := o = 2 ∨ o = 4 ∨ o = 6 ∨ o = 8 ∨ o = 10 ∨ o = 12 ∨ o = 14 ∨ o = 16
def isIa (o : Nat) : Prop := o < 65 ∧ ob_c o = 9
theorem sh_is {i : Int32} (h : vp_in i 8) : isSh (sh i) := by
  have : i.toNatClampNeg < 8 := Nat.not_le.mp fun q => h (Or.inr q)
  unfold isSh sh
  omega
theorem im_is {i : Int32} (h : vp_in i 2) : isRg (im i) := by
  have : i.toNatClampNeg < 2 := Nat.not_le.mp fun q => h (Or.inr q)
  unfold isRg im
  omega
theorem rg_lt {o : Nat} (h : isRg o) : o < 65 := by rcases h with rfl | rfl | rfl | rfl | rfl <;> first | rfl | decide
theorem rg_c9 {o : Nat} (h : isRg o) : ob_c o < 9 := by rcases h with rfl | rfl | rfl | rfl | rfl <;> first | rfl | decide
theorem rg_cl {o : Nat} (h : isRg o) : vwCl[ob_c o]? = some (RX4, TX4, 5) := by rcases h with rfl | rfl | rfl | rfl | rfl <;> first | rfl | decide
theorem rg_nf {o : Nat} (h : isRg o) : ob_nf (ob_c o) = 5 := by rcases h with rfl | rfl | rfl | rfl | rfl <;> first | rfl | decide
theorem rg_r2 {o : Nat} (h : isRg o) : ob_r o 2 = none := by rcases h with rfl | rfl | rfl | rfl | rfl <;> first | rfl | decide
theorem rg_r3 {o : Nat} (h : isRg o) : ob_r o 3 = none := by rcases h with rfl | rfl | rfl | rfl | rfl <;> first | rfl | decide
theorem rg_r4 {o : Nat} (h : isRg o) : ob_r o 4 = none := by rcases h with rfl | rfl | rfl | rfl | rfl <;> first | rfl | decide
theorem rg1_lt {o : Nat} (h : isRg o) : o + 1 < 65 := by rcases h with rfl | rfl | rfl | rfl | rfl <;> first | rfl | decide
theorem rg1_c {o : Nat} (h : isRg o) : ob_c (o + 1) = 9 := by rcases h with rfl | rfl | rfl | rfl | rfl <;> first | rfl | decide
theorem rg1_n {o : Nat} (h : isRg o) : ob_n (o + 1) = 7 := by rcases h with rfl | rfl | rfl | rfl | rfl <;> first | rfl | decide
theorem rg2_lt {o : Nat} (h : isRg o) : o + 2 < 65 := by rcases h with rfl | rfl | rfl | rfl | rfl <;> first | rfl | decide
theorem rg2_c {o : Nat} (h : isRg o) : ob_c (o + 2) = 9 := by rcases h with rfl | rfl | rfl | rfl | rfl <;> first | rfl | decide
theorem rg2_n {o : Nat} (h : isRg o) : ob_n (o + 2) = 7 := by rcases h with rfl | rfl | rfl | rfl | rfl <;> first | rfl | decide
theorem sh_lt {o : Nat} (h : isSh o) : o < 65 := by rcases h with rfl | rfl | rfl | rfl | rfl | rfl | rfl | rfl <;> first | rfl | decide
theorem sh_c9 {o : Nat} (h : isSh o) : ob_c o < 9 := by rcases h with rfl | rfl | rfl | rfl | rfl | rfl | rfl | rfl <;> first | rfl | decide
theorem sh_cl {o : Nat} (h : isSh o) : vwCl[ob_c o]? = some (RX5, TX5, 3) := by rcases h with rfl | rfl | rfl | rfl | rfl | rfl | rfl | rfl <;> first | rfl | decide
theorem sh_nf {o : Nat} (h : isSh o) : ob_nf (ob_c o) = 3 := by rcases h with rfl | rfl | rfl | rfl | rfl | rfl | rfl | rfl <;> first | rfl | decide
theorem sh_r1 {o : Nat} (h : isSh o) : ob_r o 1 = none := by rcases h with rfl | rfl | rfl | rfl | rfl | rfl | rfl | rfl <;> first | rfl | decide
theorem sh_r2 {o : Nat} (h : isSh o) : ob_r o 2 = none := by rcases h with rfl | rfl | rfl | rfl | rfl | rfl | rfl | rfl <;> first | rfl | decide
theorem sh1_lt {o : Nat} (h : isSh o) : o + 1 < 65 := by rcases h with rfl | rfl | rfl | rfl | rfl | rfl | rfl | rfl <;> first | rfl | decide
theorem sh1_c {o : Nat} (h : isSh o) : ob_c (o + 1) = 9 := by rcases h with rfl | rfl | rfl | rfl | rfl | rfl | rfl | rfl <;> first | rfl | decide
theorem sh1_n {o : Nat} (h : isSh o) : ob_n (o + 1) = 40 := by rcases h with rfl | rfl | rfl | rfl | rfl | rfl | rfl | rfl <;> first | rfl | decide
theorem rg_v0 {M : Mm} {o : Nat} (h : isRg o) : ob_v M o 0 = .ref (o + 1) := by rcases h with rfl | rfl | rfl | rfl | rfl <;> rfl
theorem rg_v1 {M : Mm} {o : Nat} (h : isRg o) : ob_v M o 1 = .ref (o + 2) := by rcases h with rfl | rfl | rfl | rfl | rfl <;> rfl
theorem rg_v2 {M : Mm} {o : Nat} (h : isRg o) : ob_v M o 2 = .int (M o 2) := by rcases h with rfl | rfl | rfl | rfl | rfl <;> rfl
theorem rg_v3 {M : Mm} {o : Nat} (h : isRg o) : ob_v M o 3 = .int (M o 3) := by rcases h with rfl | rfl | rfl | rfl | rfl <;> rfl
theorem rg_v4 {M : Mm} {o : Nat} (h : isRg o) : ob_v M o 4 = .int (M o 4) := by rcases h with rfl | rfl | rfl | rfl | rfl <;> rfl
theorem sh_v0 {M : Mm} {o : Nat} (h : isSh o) : ob_v M o 0 = .ref (o + 1) := by rcases h with rfl | rfl | rfl | rfl | rfl | rfl | rfl | rfl <;> rfl
theorem sh_v1 {M : Mm} {o : Nat} (h : isSh o) : ob_v M o 1 = .int (M o 1) := by rcases h with rfl | rfl | rfl | rfl | rfl | rfl | rfl | rfl <;> rfl
theorem sh_v2 {M : Mm} {o : Nat} (h : isSh o) : ob_v M o 2 = .int (M o 2) := by rcases h with rfl | rfl | rfl | rfl | rfl | rfl | rfl | rfl <;> rfl
theorem ob_r_sh {j : Nat} (h : j < 8) : ob_r 1 j = some (2 + 2 * j) := by simp [ob_r, h]
theorem ob_r_im {j : Nat} (h : j < 2) : ob_r 29 j = some (30 + 3 * j) := by simp [ob_r, h]
theorem wl_get (G : Gg) (M : Mm) {k : Nat} (h : k < 65) : (wl G M)[k]? = some (G.2.2 k, ob_e G k (M k)) := by
  simp [wl, List.getElem?_map, List.getElem?_range h]
theorem wl_len (G : Gg) (M : Mm) : (wl G M).length = 65 := by simp [wl]
theorem wl_set (G : Gg) {M M' : Mm} {k : Nat} (h : k < 65) {e : va_E} (he : e = ob_e G k (M' k)) (ho : ∀ j, j ≠ k → M' j = M j) : (wl G M).set k (G.2.2 k, e) = wl G M' := by
  apply List.ext_getElem?
  intro i
  by_cases hi : i < 65
  · rw [wl_get G M' hi]
    by_cases hik : i = k
    · subst hik
      rw [List.getElem?_set_self (by rw [wl_len]; exact h), he]
    · rw [List.getElem?_set_ne (Ne.symm hik), wl_get G M hi, ho i hik]
  · rw [List.getElem?_eq_none (by rw [List.length_set, wl_len]; omega), List.getElem?_eq_none (by rw [wl_len]; omega)]
theorem upd2_ne {M : Mm} {k j : Nat} {x : Int32} {i : Nat} (h : i ≠ k) : upd2 M k j x i = M i := by simp [upd2, h]
theorem upd2_eq {M : Mm} {k j : Nat} {x : Int32} : upd2 M k j x k = upd (M k) j x := by simp [upd2]
theorem setR_ne {M : Mm} {k : Nat} {f : Nat → Int32} {i : Nat} (h : i ≠ k) : setR M k f i = M i := by simp [setR, h]
theorem setR_eq {M : Mm} {k : Nat} {f : Nat → Int32} : setR M k f k = f := by simp [setR]
theorem ob_e_o (G : Gg) {k : Nat} (row : Nat → Int32) (h : ob_c k < 9) : ob_e G k row = .inr (ob_c k, (List.range (ob_nf (ob_c k))).map (ob_f G k row)) := by simp [ob_e, h]
theorem ob_e_i (G : Gg) {k : Nat} (row : Nat → Int32) (h : ob_c k = 9) : ob_e G k row = .inl (G.2.1 0, ob_n k, .inl row) := by simp [ob_e, h]
theorem ob_e_r (G : Gg) {k : Nat} (row : Nat → Int32) (h : 9 < ob_c k) : ob_e G k row = .inl (G.2.1 (ob_c k - 9), ob_n k, .inr (.inr (.inr (.inr (fun j => (ob_r k j).map G.2.2))))) := by
  have h1 : ¬ ob_c k < 9 := by omega
  have h2 : ¬ ob_c k = 9 := by omega
  simp [ob_e, h1, h2]
theorem tv_ob (G : Gg) (M : Mm) (k j : Nat) : tv G (ob_v M k j) = ob_f G k (M k) j := by
  unfold ob_v ob_f
  cases ob_r k j <;> rfl
theorem ob_put (G : Gg) {k j : Nat} {row : Nat → Int32} {x : Int32} {n : Nat} (hr : ob_r k j = none) : ((List.range n).map (ob_f G k row)).set j (.int x) = (List.range n).map (ob_f G k (upd row j x)) := by
  apply List.ext_getElem?
  intro i
  by_cases hi : i < n
  · by_cases hij : i = j
    · subst hij
      rw [List.getElem?_set_self (by simp [hi])]
      simp [List.getElem?_map, List.getElem?_range hi, ob_f, hr, upd]
    · rw [List.getElem?_set_ne (Ne.symm hij)]
      simp [List.getElem?_map, List.getElem?_range hi, ob_f, upd, hij]
  · rw [List.getElem?_eq_none (by simp; omega), List.getElem?_eq_none (by simp; omega)]
theorem tv_cat (G : Gg) (v : Value) : (tv G v).category = v.category := by cases v <;> rfl
theorem tl_at (G : Gg) {lv : List (Nat × Value)} {k i : Nat} {v : Value} (h : lv[k]? = some (i, v)) : (tl G lv)[k]? = some (i, tv G v) := by simp [tl, List.getElem?_map, h]
theorem tl_cons (G : Gg) (i : Nat) (v : Value) (lv : List (Nat × Value)) : tl G ((i, v) :: lv) = (i, tv G v) :: tl G lv := rfl
def st1 (lv : List (Nat × Value)) (i : Nat) (v : Value) : List (Nat × Value) := (i, v) :: lv.filter (fun q => !(q.1 == i) && !(q.1 + 1 == i && q.2.category == 2))
def st2 (lv : List (Nat × Value)) (i : Nat) (v : Value) : List (Nat × Value) := (i, v) :: lv.filter (fun q => !(q.1 == i) && (!(q.1 == i + 1) && !(q.1 + 1 == i && q.2.category == 2)))
theorem tl_st1 (G : Gg) (lv : List (Nat × Value)) (i : Nat) (v : Value) : (i, tv G v) :: (tl G lv).filter (fun q => !(q.1 == i) && !(q.1 + 1 == i && q.2.category == 2)) = tl G (st1 lv i v) := by
  simp [st1, tl, List.filter_map, Function.comp_def, tv_cat]
theorem tl_st2 (G : Gg) (lv : List (Nat × Value)) (i : Nat) (v : Value) : (i, tv G v) :: (tl G lv).filter (fun q => !(q.1 == i) && (!(q.1 == i + 1) && !(q.1 + 1 == i && q.2.category == 2))) = tl G (st2 lv i v) := by
  simp [st2, tl, List.filter_map, Function.comp_def, tv_cat]
theorem tl_args (G : Gg) (vs : List Value) : ∀ k, lv_args k (vs.map (tv G)) = tl G (lv_args k vs) := by
  induction vs with
  | nil => intro k; rfl
  | cons v vs ih => intro k; simp only [List.map_cons, lv_args, tl_cons, tv_cat, ih]
theorem tl_sl (G : Gg) (vs : List Value) : (lg_sl (vs.map (tv G))).length = (lg_sl vs).length := by
  induction vs with
  | nil => rfl
  | cons v vs ih =>
    have h : ∀ (v : Value) (vs : List Value), (lg_sl (v :: vs)).length = (if v.category = 2 then 2 else 1) + (lg_sl vs).length := by
      intro v vs
      simp only [lg_sl, List.flatMap_cons, List.length_append]
      split <;> rfl
    rw [List.map_cons, h, h, ih, tv_cat]
theorem tl_sum (G : Gg) (st : List Value) : ((st.map (tv G)).map fun v => v.category).sum = (st.map fun v => v.category).sum := by
  rw [List.map_map]
  congr 1
  exact List.map_congr_left (fun v _ => tv_cat G v)
/-- what stands outside: static arrays, the one text -/
def stN (i : Nat) : String := ["WIDER", "SIZE_BODY", "MARK_BODY"].getD i ""
def stL (i : Nat) : List Int32 := [[-1, 0, 1, 1, 0, 4], [10, 11, 12, 11, 13, 14], [20, 21, 24, 22, 23, 23]].getD i []
def Sx (G : Gg) (A : Nat → Prop) (U : State) (H : Heap) : Prop :=
  (∀ i, i < 3 → va_Z "NicheSaints" (stN i) "[I" (.ref (G.2.2 (1000 + i))) A U H ∧ va_T .int (G.2.2 (1000 + i)) (stL i).length (fun j => .int ((stL i).getD j 0)) A U H)
  ∧ va_Z "java/lang/String" "COMPACT_STRINGS" "Z" (.int 1) A U H ∧ vk_R RX6 76 "gspho" (G.2.2 1004) U
  ∧ vk_S 1 [5] [[103, 115, 112, 104, 111]] (fun _ => G.2.2 1004) (fun _ => G.2.2 1005) A U H
  ∧ va_Nw (.fieldLinkNest RX1 24 "NicheSaints" "SIZE_BODY" "[I" "NicheSaints") U ∧ va_Nw (.fieldLinkNest RX1 27 "NicheSaints" "MARK_BODY" "[I" "NicheSaints") U
theorem Sx.go {G : Gg} {A B : Nat → Prop} {s U : State} {H H1 : Heap} (h : Sx G A s H) (hW : s.WarmedH U.vm) (hq : ∀ a : Nat, a < H.size → ¬ A a → H1[a]? = H[a]?) (hAB : ∀ q, B q → A q) : Sx G B U H1 := by
  obtain ⟨h1, h2, h3, h4, h5, h6⟩ := h
  exact ⟨fun i hi => ⟨(((h1 i hi).1.moved hW.alike).kept hq).narrow hAB, (((h1 i hi).2.moved hW.alike).kept hq).narrow hAB⟩, ((h2.moved hW.alike).kept hq).narrow hAB, h3.warm hW, ((h4.moved hW.alike).kept hq).narrow hAB, h5.warmF hW, h6.warmF hW⟩
theorem Sx.same {G : Gg} {A : Nat → Prop} {u U : State} {H : Heap} (h : Sx G A u H) (hv : u.vm = U.vm) : Sx G A U H := by
  obtain ⟨h1, h2, h3, h4, h5, h6⟩ := h
  have al : u.vm.Alike U.vm := hv ▸ Vm.Alike.refl u.vm
  exact ⟨fun i hi => ⟨(h1 i hi).1.moved al, (h1 i hi).2.moved al⟩, h2.moved al, h3.same hv.symm, h4.moved al, h5.same rfl hv, h6.same rfl hv⟩
def rtv (ret : Option FieldType) (r : Int32) : Option Value := match ret with
  | none => none
  | some _ => some (.int r)
def psh (ret : Option FieldType) (r : Int32) (st : List Value) : List Value := match ret with
  | none => st
  | some _ => .int r :: st
def rmD (d : Nat) : Room := { frames := d, cells := 0, slots := 0, locals := 64 * d }
def CB (G : Gg) (M : Mm) (sz : Nat) (U : State) : Prop := U.heap.size = sz ∧ va_P G.1 vwCl (wl G M) U.heap ∧ va_K G.1 vwCl (tyl G) U ∧ va_D (fun _ => True) (wl G M) ∧ Sx G (va_A (wl G M) sz) U U.heap
def QC (G : Gg) (ret : Option FieldType) (A : Nat → Prop) (Q : Int32 → Mm → Prop) : Array Value → State → Outcome → State → Prop := fun _ st oc t => (∃ (r : Int32) (M' : Mm), oc = .returned (rtv ret r) ∧ Q r M' ∧ va_P G.1 vwCl (wl G M') t.heap ∧ va_D A (wl G M')) ∧ va_F A st t
/-- a method's contract -/
def Ct (d : Nat) (y : MethodName) (ret : Option FieldType) (ws : List Cond) (av : List Value) (M : Mm) (Q : Int32 → Mm → Prop) : Prop := ∃ d0, d0 ≤ d ∧ ∀ (l : Launch) (G : Gg) (sz : Nat), Met l y ws (rmD d0) (va_Pc (av.map (tv G)) (CB G M sz)) (QC G ret (va_A (wl G M) sz) Q) 0 0 (va_A (wl G M) sz)
def Cx (y : MethodName) (cc : ByteArray) (nL : Nat) (ret : Option FieldType) (ws : List Cond) (p : Program) (s : State) (m : MethodId) (args : Array Value) (meth : Method) (c : Code) (G : Gg) (A : Nat → Prop) : Prop :=
  p.tables.exec = Jvm.exec ∧ c.code = cc ∧ meth.sig.returnType = ret ∧ c.maxLocals = nL ∧ s.vm.findClass y.cls = some m.cls ∧ (∀ w ∈ ws, w.before args s = true) ∧ meth.locks = false ∧ va_K G.1 vwCl (tyl G) s ∧ (∀ q, s.heap.size ≤ q → A q) ∧ Sx G A s s.heap
/-- a method's body at a place: it comes to its end with Q -/
def Bd (d : Nat) (y : MethodName) (cc : ByteArray) (nL : Nat) (ret : Option FieldType) (ws : List Cond) (pc : Nat) (lv : List (Nat × Value)) (st : List Value) (M : Mm) (Q : Int32 → Mm → Prop) : Prop :=
  ∀ (p : Program) (l : Launch) (e : Env) (s : State) (m : MethodId) (args : Array Value) (below : List Frame) (meth : Method) (c : Code) (G : Gg) (A : Nat → Prop), Cx y cc nL ret ws p s m args meth c G A →
  ∀ (H : Heap) (locs : List Loc) (ls : Array Slot), va_P G.1 vwCl (wl G M) H → va_D A (wl G M) → va_S A s.heap H locs → lv_has ls nL (tl G lv) → W p l e (rmD d) s m args below meth c H locs 0 0 (MQ below (QC G ret A Q) args s 0 0 A) (F0 m pc ls (st.map (tv G)))
theorem Met.post {l : Launch} {y : MethodName} {ws : List Cond} {rm : Room} {Pc : Array Value → State → Prop} {Qc Qc' : Array Value → State → Outcome → State → Prop} {mc ms : Nat} {free : Addr → Prop} (h : Met l y ws rm Pc Qc mc ms free) (hq : ∀ a s o t, Qc a s o t → Qc' a s o t) : Met l y ws rm Pc Qc' mc ms free := by
  intro p e ha hc hk s m args below hf hap hP hK
  obtain ⟨t, o, h1, h2, h3, h4, h5⟩ := h p e ha hc hk s m args below hf hap hP hK
  exact ⟨t, o, h1, h2, h3, hq _ _ _ _ h4, h5⟩
theorem Ct.mono {d d' : Nat} {y : MethodName} {ret : Option FieldType} {ws : List Cond} {av : List Value} {M : Mm} {Q Q' : Int32 → Mm → Prop} (h : Ct d y ret ws av M Q) (hd : d ≤ d') (hq : ∀ r M', Q r M' → Q' r M') : Ct d' y ret ws av M Q' := by
  obtain ⟨d0, h0, h1⟩ := h
  refine ⟨d0, by omega, fun l G sz => (h1 l G sz).post ?_⟩
  rintro a s o t ⟨⟨r, M', e1, e2, e3⟩, e4⟩
  exact ⟨⟨r, M', e1, hq _ _ e2, e3⟩, e4⟩
theorem Bd.mono {d : Nat} {y : MethodName} {cc : ByteArray} {nL : Nat} {ret : Option FieldType} {ws : List Cond} {pc : Nat} {lv : List (Nat × Value)} {st : List Value} {M : Mm} {Q Q' : Int32 → Mm → Prop} (h : Bd d y cc nL ret ws pc lv st M Q) (hq : ∀ r M', Q r M' → Q' r M') : Bd d y cc nL ret ws pc lv st M Q' := by
  intro p l e s m args below meth c G A C H locs ls hP hD hS hl T hT X
  obtain ⟨t, h1, o, h2, h3, ⟨⟨r, M', e1, e2, e3⟩, e4⟩, h5⟩ := h p l e s m args below meth c G A C H locs ls hP hD hS hl T hT X
  exact ⟨t, h1, o, h2, h3, ⟨⟨r, M', e1, hq _ _ e2, e3⟩, e4⟩, h5⟩
/-- from the entry -/
theorem Ct.of {d : Nat} {y : MethodName} {cc : ByteArray} {nL : Nat} {ret : Option FieldType} {ws ws' : List Cond} {av : List Value} {M : Mm} {Q : Int32 → Mm → Prop} (hy : plainName y.cls = true) (hw : ws = Cond.code y cc nL ret :: ws') (hn : (lg_sl av).length ≤ nL)
    (h : Bd d y cc nL ret ws 0 (lv_args 0 av) [] M Q) : Ct d y ret ws av M Q := by
  refine ⟨d, Nat.le_refl d, fun l G sz => ?_⟩
  refine Met.ofW (cc := cc) (maxL := nL) (ret := ret) hy hw ?_
  intro p e s m args below meth c s₁ B hml hv
  obtain ⟨rfl, hsz, hP, hK, hD0, hX⟩ := hv
  subst hsz
  have hD := hD0.self (sz := s.heap.size)
  have hl := lv_entry (av.map (tv G)) (n := nL) (by rw [tl_sl]; exact hn)
  rw [lg_entry_eq]
  rw [tl_args] at hl
  exact h p l e s m _ below meth c G _ ⟨B.exec, B.bytes, B.returns, hml, findClass_of_methodNamed B.named, atoms_spec (ws := ws) B.pre, B.notSynchronized, hK, fun q hq => Or.inr hq, hX⟩ s.heap [] _ hP hD va_S.rf hl
section Rules
variable {d : Nat} {y : MethodName} {cc : ByteArray} {nL : Nat} {ret : Option FieldType} {ws : List Cond} {pc : Nat} {lv : List (Nat × Value)} {st : List Value} {M : Mm} {Q : Int32 → Mm → Prop}
/-- fewer locals, in any order -/
theorem B_weak {lv' : List (Nat × Value)} (ks : List Nat) (hk : lv_pick lv ks = lv') (h : Bd d y cc nL ret ws pc lv' st M Q) : Bd d y cc nL ret ws pc lv st M Q := by
  intro p l e s m args below meth c G A C H locs ls hP hD hS hl
  refine h p l e s m args below meth c G A C H locs ls hP hD hS (lv_sub hl ks ?_)
  rw [← hk]
  simp only [lv_pick, tl, List.map_filterMap]
  congr 1
  funext k
  simp only [List.getElem?_map, Option.map_map]
theorem B_iconst {n : Int} {v : Int32} (hd : decode cc pc = .ok (.iconst n, 1)) (hv : Int32.ofInt n = v) (k : Bd d y cc nL ret ws (pc + 1) lv (.int v :: st) M Q) : Bd d y cc nL ret ws pc lv st M Q := by
  intro p l e s m args below meth c G A C H locs ls hP hD hS hl
  exact lv_iconst C.1 C.2.1 hd hv (k p l e s m args below meth c G A C H locs ls hP hD hS hl)
theorem B_bipush {n : Int} {v : Int32} (hd : decode cc pc = .ok (.bipush n, 2)) (hv : (Int8.ofInt n).toInt32 = v) (k : Bd d y cc nL ret ws (pc + 2) lv (.int v :: st) M Q) : Bd d y cc nL ret ws pc lv st M Q := by
  intro p l e s m args below meth c G A C H locs ls hP hD hS hl
  exact lv_bipush C.1 C.2.1 hd hv (k p l e s m args below meth c G A C H locs ls hP hD hS hl)
theorem B_sipush {n : Int} {v : Int32} (hd : decode cc pc = .ok (.sipush n, 3)) (hv : (Int16.ofInt n).toInt32 = v) (k : Bd d y cc nL ret ws (pc + 3) lv (.int v :: st) M Q) : Bd d y cc nL ret ws pc lv st M Q := by
  intro p l e s m args below meth c G A C H locs ls hP hD hS hl
  exact lv_sipush C.1 C.2.1 hd hv (k p l e s m args below meth c G A C H locs ls hP hD hS hl)
theorem B_lconst {n : Fin 2} {v : Int64} (hd : decode cc pc = .ok (.lconst n, 1)) (hv : Int64.ofNat (n : Nat) = v) (k : Bd d y cc nL ret ws (pc + 1) lv (.long v :: st) M Q) : Bd d y cc nL ret ws pc lv st M Q := by
  intro p l e s m args below meth c G A C H locs ls hP hD hS hl
  exact lv_lconst C.1 C.2.1 hd hv (k p l e s m args below meth c G A C H locs ls hP hD hS hl)
theorem B_ldc {index : Nat} {v : Int32} (hd : decode cc pc = .ok (.ldc index, 2)) (hw : Cond.constant y.cls index v ∈ ws) (k : Bd d y cc nL ret ws (pc + 2) lv (.int v :: st) M Q) : Bd d y cc nL ret ws pc lv st M Q := by
  intro p l e s m args below meth c G A C H locs ls hP hD hS hl
  exact lv_ldc C.1 C.2.1 C.2.2.2.2.1 (C.2.2.2.2.2.1 _ hw) hd (k p l e s m args below meth c G A C H locs ls hP hD hS hl)
theorem B_ldcw {index : Nat} {v : Int32} (hd : decode cc pc = .ok (.ldc_w index, 3)) (hw : Cond.constant y.cls index v ∈ ws) (k : Bd d y cc nL ret ws (pc + 3) lv (.int v :: st) M Q) : Bd d y cc nL ret ws pc lv st M Q := by
  intro p l e s m args below meth c G A C H locs ls hP hD hS hl
  exact lv_ldcw C.1 C.2.1 C.2.2.2.2.1 (C.2.2.2.2.2.1 _ hw) hd (k p l e s m args below meth c G A C H locs ls hP hD hS hl)
theorem B_ldc2 {index : Nat} {v : Int64} (hd : decode cc pc = .ok (.ldc2_w index, 3)) (hw : Cond.constantLong y.cls index v ∈ ws) (k : Bd d y cc nL ret ws (pc + 3) lv (.long v :: st) M Q) : Bd d y cc nL ret ws pc lv st M Q := by
  intro p l e s m args below meth c G A C H locs ls hP hD hS hl
  exact lv_ldc2 C.1 C.2.1 C.2.2.2.2.1 (C.2.2.2.2.2.1 _ hw) hd (k p l e s m args below meth c G A C H locs ls hP hD hS hl)
theorem B_iload_n {k0 : Fin 4} {x : Int32} (hd : decode cc pc = .ok (.iload_n k0, 1)) (q : Nat) (hq : lv[q]? = some ((k0 : Nat), .int x)) (k : Bd d y cc nL ret ws (pc + 1) lv (.int x :: st) M Q) : Bd d y cc nL ret ws pc lv st M Q := by
  intro p l e s m args below meth c G A C H locs ls hP hD hS hl
  exact lv_iload_n C.1 C.2.1 hd rfl (lv_at hl q (tl_at G hq)) (k p l e s m args below meth c G A C H locs ls hP hD hS hl)
theorem B_iload {i : Nat} {x : Int32} (hd : decode cc pc = .ok (.iload i, 2)) (q : Nat) (hq : lv[q]? = some (i, .int x)) (k : Bd d y cc nL ret ws (pc + 2) lv (.int x :: st) M Q) : Bd d y cc nL ret ws pc lv st M Q := by
  intro p l e s m args below meth c G A C H locs ls hP hD hS hl
  exact lv_iload C.1 C.2.1 hd (lv_at hl q (tl_at G hq)) (k p l e s m args below meth c G A C H locs ls hP hD hS hl)
theorem B_lload_n {k0 : Fin 4} {x : Int64} (hd : decode cc pc = .ok (.lload_n k0, 1)) (q : Nat) (hq : lv[q]? = some ((k0 : Nat), .long x)) (k : Bd d y cc nL ret ws (pc + 1) lv (.long x :: st) M Q) : Bd d y cc nL ret ws pc lv st M Q := by
  intro p l e s m args below meth c G A C H locs ls hP hD hS hl
  exact lv_lload_n C.1 C.2.1 hd rfl (lv_at hl q (tl_at G hq)) (k p l e s m args below meth c G A C H locs ls hP hD hS hl)
theorem B_lload {i : Nat} {x : Int64} (hd : decode cc pc = .ok (.lload i, 2)) (q : Nat) (hq : lv[q]? = some (i, .long x)) (k : Bd d y cc nL ret ws (pc + 2) lv (.long x :: st) M Q) : Bd d y cc nL ret ws pc lv st M Q := by
  intro p l e s m args below meth c G A C H locs ls hP hD hS hl
  exact lv_lload C.1 C.2.1 hd (lv_at hl q (tl_at G hq)) (k p l e s m args below meth c G A C H locs ls hP hD hS hl)
theorem B_aload_n {k0 : Fin 4} {x : Nat} (hd : decode cc pc = .ok (.aload_n k0, 1)) (q : Nat) (hq : lv[q]? = some ((k0 : Nat), .ref x)) (k : Bd d y cc nL ret ws (pc + 1) lv (.ref x :: st) M Q) : Bd d y cc nL ret ws pc lv st M Q := by
  intro p l e s m args below meth c G A C H locs ls hP hD hS hl
  exact lv_aload_n C.1 C.2.1 hd rfl (lv_at hl q (tl_at G hq)) (k p l e s m args below meth c G A C H locs ls hP hD hS hl)
theorem B_aload {i : Nat} {x : Nat} (hd : decode cc pc = .ok (.aload i, 2)) (q : Nat) (hq : lv[q]? = some (i, .ref x)) (k : Bd d y cc nL ret ws (pc + 2) lv (.ref x :: st) M Q) : Bd d y cc nL ret ws pc lv st M Q := by
  intro p l e s m args below meth c G A C H locs ls hP hD hS hl
  exact lv_aload C.1 C.2.1 hd (lv_at hl q (tl_at G hq)) (k p l e s m args below meth c G A C H locs ls hP hD hS hl)
theorem B_istore_n {lv1 : List (Nat × Value)} {k0 : Fin 4} {x : Int32} (hd : decode cc pc = .ok (.istore_n k0, 1)) (hn : (k0 : Nat) < nL) (h1 : st1 lv k0 (.int x) = lv1) (k : Bd d y cc nL ret ws (pc + 1) lv1 st M Q) : Bd d y cc nL ret ws pc lv (.int x :: st) M Q := by
  intro p l e s m args below meth c G A C H locs ls hP hD hS hl
  exact lv_istore_n C.1 C.2.1 hd rfl hl hn ((tl_st1 G lv k0 (.int x)).trans (congrArg (tl G) h1)) (fun ls hl => k p l e s m args below meth c G A C H locs ls hP hD hS hl)
theorem B_istore {lv1 : List (Nat × Value)} {i : Nat} {x : Int32} (hd : decode cc pc = .ok (.istore i, 2)) (hn : i < nL) (h1 : st1 lv i (.int x) = lv1) (k : Bd d y cc nL ret ws (pc + 2) lv1 st M Q) : Bd d y cc nL ret ws pc lv (.int x :: st) M Q := by
  intro p l e s m args below meth c G A C H locs ls hP hD hS hl
  exact lv_istore C.1 C.2.1 hd hl hn ((tl_st1 G lv i (.int x)).trans (congrArg (tl G) h1)) (fun ls hl => k p l e s m args below meth c G A C H locs ls hP hD hS hl)
theorem B_lstore {lv1 : List (Nat × Value)} {i : Nat} {x : Int64} (hd : decode cc pc = .ok (.lstore i, 2)) (hn : i + 1 < nL) (h1 : st2 lv i (.long x) = lv1) (k : Bd d y cc nL ret ws (pc + 2) lv1 st M Q) : Bd d y cc nL ret ws pc lv (.long x :: st) M Q := by
  intro p l e s m args below meth c G A C H locs ls hP hD hS hl
  exact lv_lstore C.1 C.2.1 hd hl hn ((tl_st2 G lv i (.long x)).trans (congrArg (tl G) h1)) (fun ls hl => k p l e s m args below meth c G A C H locs ls hP hD hS hl)
theorem B_astore {lv1 : List (Nat × Value)} {i : Nat} {x : Nat} (hd : decode cc pc = .ok (.astore i, 2)) (hn : i < nL) (h1 : st1 lv i (.ref x) = lv1) (k : Bd d y cc nL ret ws (pc + 2) lv1 st M Q) : Bd d y cc nL ret ws pc lv (.ref x :: st) M Q := by
  intro p l e s m args below meth c G A C H locs ls hP hD hS hl
  exact lv_astore C.1 C.2.1 hd hl hn ((tl_st1 G lv i (.ref x)).trans (congrArg (tl G) h1)) (fun ls hl => k p l e s m args below meth c G A C H locs ls hP hD hS hl)
theorem B_iinc {lv1 : List (Nat × Value)} {i : Nat} {n : Int} {x v : Int32} (hd : decode cc pc = .ok (.iinc i n, 3)) (q : Nat) (hq : lv[q]? = some (i, .int x)) (hv : x + Int32.ofInt n = v) (hn : i < nL) (h1 : st1 lv i (.int v) = lv1) (k : Bd d y cc nL ret ws (pc + 3) lv1 st M Q) : Bd d y cc nL ret ws pc lv st M Q := by
  intro p l e s m args below meth c G A C H locs ls hP hD hS hl
  exact lv_iinc (k := q) C.1 C.2.1 hd hl (tl_at G hq) hv hn ((tl_st1 G lv i (.int v)).trans (congrArg (tl G) h1)) (fun ls hl => k p l e s m args below meth c G A C H locs ls hP hD hS hl)
theorem B_iadd {x z : Int32} (hd : decode cc pc = .ok (.iadd, 1)) (k : Bd d y cc nL ret ws (pc + 1) lv (.int (x + z) :: st) M Q) : Bd d y cc nL ret ws pc lv (.int z :: .int x :: st) M Q := by
  intro p l e s m args below meth c G A C H locs ls hP hD hS hl
  exact lv_iadd C.1 C.2.1 hd (k p l e s m args below meth c G A C H locs ls hP hD hS hl)
theorem B_isub {x z : Int32} (hd : decode cc pc = .ok (.isub, 1)) (k : Bd d y cc nL ret ws (pc + 1) lv (.int (x - z) :: st) M Q) : Bd d y cc nL ret ws pc lv (.int z :: .int x :: st) M Q := by
  intro p l e s m args below meth c G A C H locs ls hP hD hS hl
  exact lv_isub C.1 C.2.1 hd (k p l e s m args below meth c G A C H locs ls hP hD hS hl)
theorem B_imul {x z : Int32} (hd : decode cc pc = .ok (.imul, 1)) (k : Bd d y cc nL ret ws (pc + 1) lv (.int (x * z) :: st) M Q) : Bd d y cc nL ret ws pc lv (.int z :: .int x :: st) M Q := by
  intro p l e s m args below meth c G A C H locs ls hP hD hS hl
  exact lv_imul C.1 C.2.1 hd (k p l e s m args below meth c G A C H locs ls hP hD hS hl)
theorem B_iand {x z : Int32} (hd : decode cc pc = .ok (.iand, 1)) (k : Bd d y cc nL ret ws (pc + 1) lv (.int (x &&& z) :: st) M Q) : Bd d y cc nL ret ws pc lv (.int z :: .int x :: st) M Q := by
  intro p l e s m args below meth c G A C H locs ls hP hD hS hl
  exact lv_iand C.1 C.2.1 hd (k p l e s m args below meth c G A C H locs ls hP hD hS hl)
theorem B_ior {x z : Int32} (hd : decode cc pc = .ok (.ior, 1)) (k : Bd d y cc nL ret ws (pc + 1) lv (.int (x ||| z) :: st) M Q) : Bd d y cc nL ret ws pc lv (.int z :: .int x :: st) M Q := by
  intro p l e s m args below meth c G A C H locs ls hP hD hS hl
  exact lv_ior C.1 C.2.1 hd (k p l e s m args below meth c G A C H locs ls hP hD hS hl)
theorem B_ixor {x z : Int32} (hd : decode cc pc = .ok (.ixor, 1)) (k : Bd d y cc nL ret ws (pc + 1) lv (.int (x ^^^ z) :: st) M Q) : Bd d y cc nL ret ws pc lv (.int z :: .int x :: st) M Q := by
  intro p l e s m args below meth c G A C H locs ls hP hD hS hl
  exact lv_ixor C.1 C.2.1 hd (k p l e s m args below meth c G A C H locs ls hP hD hS hl)
theorem B_ishl {x z : Int32} (hd : decode cc pc = .ok (.ishl, 1)) (k : Bd d y cc nL ret ws (pc + 1) lv (.int (ishl x z) :: st) M Q) : Bd d y cc nL ret ws pc lv (.int z :: .int x :: st) M Q := by
  intro p l e s m args below meth c G A C H locs ls hP hD hS hl
  exact lv_ishl C.1 C.2.1 hd (k p l e s m args below meth c G A C H locs ls hP hD hS hl)
theorem B_ishr {x z : Int32} (hd : decode cc pc = .ok (.ishr, 1)) (k : Bd d y cc nL ret ws (pc + 1) lv (.int (ishr x z) :: st) M Q) : Bd d y cc nL ret ws pc lv (.int z :: .int x :: st) M Q := by
  intro p l e s m args below meth c G A C H locs ls hP hD hS hl
  exact lv_ishr C.1 C.2.1 hd (k p l e s m args below meth c G A C H locs ls hP hD hS hl)
theorem B_iushr {x z : Int32} (hd : decode cc pc = .ok (.iushr, 1)) (k : Bd d y cc nL ret ws (pc + 1) lv (.int (iushr x z) :: st) M Q) : Bd d y cc nL ret ws pc lv (.int z :: .int x :: st) M Q := by
  intro p l e s m args below meth c G A C H locs ls hP hD hS hl
  exact lv_iushr (v := iushr x z) C.1 C.2.1 hd rfl (k p l e s m args below meth c G A C H locs ls hP hD hS hl)
theorem B_idiv {x z : Int32} (hd : decode cc pc = .ok (.idiv, 1)) (hz : ¬ z = 0) (k : Bd d y cc nL ret ws (pc + 1) lv (.int (x / z) :: st) M Q) : Bd d y cc nL ret ws pc lv (.int z :: .int x :: st) M Q := by
  intro p l e s m args below meth c G A C H locs ls hP hD hS hl
  exact lv_idiv C.1 C.2.1 hd hz (k p l e s m args below meth c G A C H locs ls hP hD hS hl)
theorem B_irem {x z : Int32} (hd : decode cc pc = .ok (.irem, 1)) (hz : ¬ z = 0) (k : Bd d y cc nL ret ws (pc + 1) lv (.int (irem x z) :: st) M Q) : Bd d y cc nL ret ws pc lv (.int z :: .int x :: st) M Q := by
  intro p l e s m args below meth c G A C H locs ls hP hD hS hl
  exact lv_irem C.1 C.2.1 hd hz (k p l e s m args below meth c G A C H locs ls hP hD hS hl)
theorem B_ineg {x : Int32} (hd : decode cc pc = .ok (.ineg, 1)) (k : Bd d y cc nL ret ws (pc + 1) lv (.int (-x) :: st) M Q) : Bd d y cc nL ret ws pc lv (.int x :: st) M Q := by
  intro p l e s m args below meth c G A C H locs ls hP hD hS hl
  exact lv_ineg C.1 C.2.1 hd (k p l e s m args below meth c G A C H locs ls hP hD hS hl)
theorem B_ladd {x z : Int64} (hd : decode cc pc = .ok (.ladd, 1)) (k : Bd d y cc nL ret ws (pc + 1) lv (.long (x + z) :: st) M Q) : Bd d y cc nL ret ws pc lv (.long z :: .long x :: st) M Q := by
  intro p l e s m args below meth c G A C H locs ls hP hD hS hl
  exact lv_ladd C.1 C.2.1 hd (k p l e s m args below meth c G A C H locs ls hP hD hS hl)
theorem B_lmul {x z : Int64} (hd : decode cc pc = .ok (.lmul, 1)) (k : Bd d y cc nL ret ws (pc + 1) lv (.long (x * z) :: st) M Q) : Bd d y cc nL ret ws pc lv (.long z :: .long x :: st) M Q := by
  intro p l e s m args below meth c G A C H locs ls hP hD hS hl
  exact lv_lmul C.1 C.2.1 hd (k p l e s m args below meth c G A C H locs ls hP hD hS hl)
theorem B_lsub {x z : Int64} (hd : decode cc pc = .ok (.lsub, 1)) (k : Bd d y cc nL ret ws (pc + 1) lv (.long (x - z) :: st) M Q) : Bd d y cc nL ret ws pc lv (.long z :: .long x :: st) M Q := by
  intro p l e s m args below meth c G A C H locs ls hP hD hS hl
  exact lv_lsub C.1 C.2.1 hd (k p l e s m args below meth c G A C H locs ls hP hD hS hl)
theorem B_lrem {x z : Int64} (hd : decode cc pc = .ok (.lrem, 1)) (hz : ¬ z = 0) (k : Bd d y cc nL ret ws (pc + 1) lv (.long (lrem x z) :: st) M Q) : Bd d y cc nL ret ws pc lv (.long z :: .long x :: st) M Q := by
  intro p l e s m args below meth c G A C H locs ls hP hD hS hl
  exact lv_lrem C.1 C.2.1 hd hz (k p l e s m args below meth c G A C H locs ls hP hD hS hl)
theorem B_lcmp {x z : Int64} (hd : decode cc pc = .ok (.lcmp, 1)) (k : Bd d y cc nL ret ws (pc + 1) lv (.int (lg_cmp x z) :: st) M Q) : Bd d y cc nL ret ws pc lv (.long z :: .long x :: st) M Q := by
  intro p l e s m args below meth c G A C H locs ls hP hD hS hl
  exact W.lcmp C.1 C.2.1 hd (k p l e s m args below meth c G A C H locs ls hP hD hS hl)
theorem B_i2l {x : Int32} (hd : decode cc pc = .ok (.i2l, 1)) (k : Bd d y cc nL ret ws (pc + 1) lv (.long x.toInt64 :: st) M Q) : Bd d y cc nL ret ws pc lv (.int x :: st) M Q := by
  intro p l e s m args below meth c G A C H locs ls hP hD hS hl
  exact lv_i2l C.1 C.2.1 hd rfl (k p l e s m args below meth c G A C H locs ls hP hD hS hl)
theorem B_l2i {x : Int64} (hd : decode cc pc = .ok (.l2i, 1)) (k : Bd d y cc nL ret ws (pc + 1) lv (.int x.toInt32 :: st) M Q) : Bd d y cc nL ret ws pc lv (.long x :: st) M Q := by
  intro p l e s m args below meth c G A C H locs ls hP hD hS hl
  exact lv_l2i C.1 C.2.1 hd rfl (k p l e s m args below meth c G A C H locs ls hP hD hS hl)
theorem B_i2b {x : Int32} (hd : decode cc pc = .ok (.i2b, 1)) (k : Bd d y cc nL ret ws (pc + 1) lv (.int x.toInt8.toInt32 :: st) M Q) : Bd d y cc nL ret ws pc lv (.int x :: st) M Q := by
  intro p l e s m args below meth c G A C H locs ls hP hD hS hl
  exact lv_i2b C.1 C.2.1 hd rfl (k p l e s m args below meth c G A C H locs ls hP hD hS hl)
theorem B_i2s {x : Int32} (hd : decode cc pc = .ok (.i2s, 1)) (k : Bd d y cc nL ret ws (pc + 1) lv (.int x.toInt16.toInt32 :: st) M Q) : Bd d y cc nL ret ws pc lv (.int x :: st) M Q := by
  intro p l e s m args below meth c G A C H locs ls hP hD hS hl
  exact lv_i2s C.1 C.2.1 hd rfl (k p l e s m args below meth c G A C H locs ls hP hD hS hl)
theorem B_i2c {x : Int32} (hd : decode cc pc = .ok (.i2c, 1)) (k : Bd d y cc nL ret ws (pc + 1) lv (.int (x.toUInt32 % 65536).toInt32 :: st) M Q) : Bd d y cc nL ret ws pc lv (.int x :: st) M Q := by
  intro p l e s m args below meth c G A C H locs ls hP hD hS hl
  exact lv_i2c C.1 C.2.1 hd rfl (k p l e s m args below meth c G A C H locs ls hP hD hS hl)
theorem B_dup {v : Value} (hd : decode cc pc = .ok (.dup, 1)) (hv : v.category = 1) (k : Bd d y cc nL ret ws (pc + 1) lv (v :: v :: st) M Q) : Bd d y cc nL ret ws pc lv (v :: st) M Q := by
  intro p l e s m args below meth c G A C H locs ls hP hD hS hl
  exact lv_dup C.1 C.2.1 hd (by rw [tv_cat]; exact hv) (k p l e s m args below meth c G A C H locs ls hP hD hS hl)
theorem B_dup2 {v u : Value} (hd : decode cc pc = .ok (.dup2, 1)) (hv : v.category = 1) (hu : u.category = 1) (k : Bd d y cc nL ret ws (pc + 1) lv (v :: u :: v :: u :: st) M Q) : Bd d y cc nL ret ws pc lv (v :: u :: st) M Q := by
  intro p l e s m args below meth c G A C H locs ls hP hD hS hl
  exact lv_dup2_11 C.1 C.2.1 hd (by rw [tv_cat]; exact hv) (by rw [tv_cat]; exact hu) (k p l e s m args below meth c G A C H locs ls hP hD hS hl)
theorem B_goto {off : Int} {tgt : Nat} (hd : decode cc pc = .ok (.goto off, 3)) (ht : (pc : Int) + off = (tgt : Int)) (k : Bd d y cc nL ret ws tgt lv st M Q) : Bd d y cc nL ret ws pc lv st M Q := by
  intro p l e s m args below meth c G A C H locs ls hP hD hS hl
  exact lv_goto C.1 C.2.1 hd ht (k p l e s m args below meth c G A C H locs ls hP hD hS hl)
theorem B_if_eq {x : Int32} {off : Int} {tgt : Nat} (hd : decode cc pc = .ok (.ifCond .eq off, 3)) (ht : (pc : Int) + off = (tgt : Int)) (kt : x = 0 → Bd d y cc nL ret ws tgt lv st M Q) (kf : ¬ x = 0 → Bd d y cc nL ret ws (pc + 3) lv st M Q) : Bd d y cc nL ret ws pc lv (.int x :: st) M Q := by
  intro p l e s m args below meth c G A C H locs ls hP hD hS hl
  exact lv_if_eq C.1 C.2.1 hd ht (fun h => kt h p l e s m args below meth c G A C H locs ls hP hD hS hl) (fun h => kf h p l e s m args below meth c G A C H locs ls hP hD hS hl)
theorem B_icmp_eq {x z : Int32} {off : Int} {tgt : Nat} (hd : decode cc pc = .ok (.if_icmp .eq off, 3)) (ht : (pc : Int) + off = (tgt : Int)) (kt : x = z → Bd d y cc nL ret ws tgt lv st M Q) (kf : ¬ x = z → Bd d y cc nL ret ws (pc + 3) lv st M Q) : Bd d y cc nL ret ws pc lv (.int z :: .int x :: st) M Q := by
  intro p l e s m args below meth c G A C H locs ls hP hD hS hl
  exact lv_icmp_eq C.1 C.2.1 hd ht (fun h => kt h p l e s m args below meth c G A C H locs ls hP hD hS hl) (fun h => kf h p l e s m args below meth c G A C H locs ls hP hD hS hl)
theorem B_if_ne {x : Int32} {off : Int} {tgt : Nat} (hd : decode cc pc = .ok (.ifCond .ne off, 3)) (ht : (pc : Int) + off = (tgt : Int)) (kt : ¬ x = 0 → Bd d y cc nL ret ws tgt lv st M Q) (kf : x = 0 → Bd d y cc nL ret ws (pc + 3) lv st M Q) : Bd d y cc nL ret ws pc lv (.int x :: st) M Q := by
  intro p l e s m args below meth c G A C H locs ls hP hD hS hl
  exact lv_if_ne C.1 C.2.1 hd ht (fun h => kt h p l e s m args below meth c G A C H locs ls hP hD hS hl) (fun h => kf h p l e s m args below meth c G A C H locs ls hP hD hS hl)
theorem B_icmp_ne {x z : Int32} {off : Int} {tgt : Nat} (hd : decode cc pc = .ok (.if_icmp .ne off, 3)) (ht : (pc : Int) + off = (tgt : Int)) (kt : ¬ x = z → Bd d y cc nL ret ws tgt lv st M Q) (kf : x = z → Bd d y cc nL ret ws (pc + 3) lv st M Q) : Bd d y cc nL ret ws pc lv (.int z :: .int x :: st) M Q := by
  intro p l e s m args below meth c G A C H locs ls hP hD hS hl
  exact lv_icmp_ne C.1 C.2.1 hd ht (fun h => kt h p l e s m args below meth c G A C H locs ls hP hD hS hl) (fun h => kf h p l e s m args below meth c G A C H locs ls hP hD hS hl)
theorem B_if_lt {x : Int32} {off : Int} {tgt : Nat} (hd : decode cc pc = .ok (.ifCond .lt off, 3)) (ht : (pc : Int) + off = (tgt : Int)) (kt : x < 0 → Bd d y cc nL ret ws tgt lv st M Q) (kf : ¬ x < 0 → Bd d y cc nL ret ws (pc + 3) lv st M Q) : Bd d y cc nL ret ws pc lv (.int x :: st) M Q := by
  intro p l e s m args below meth c G A C H locs ls hP hD hS hl
  exact lv_if_lt C.1 C.2.1 hd ht (fun h => kt h p l e s m args below meth c G A C H locs ls hP hD hS hl) (fun h => kf h p l e s m args below meth c G A C H locs ls hP hD hS hl)
theorem B_icmp_lt {x z : Int32} {off : Int} {tgt : Nat} (hd : decode cc pc = .ok (.if_icmp .lt off, 3)) (ht : (pc : Int) + off = (tgt : Int)) (kt : x < z → Bd d y cc nL ret ws tgt lv st M Q) (kf : ¬ x < z → Bd d y cc nL ret ws (pc + 3) lv st M Q) : Bd d y cc nL ret ws pc lv (.int z :: .int x :: st) M Q := by
  intro p l e s m args below meth c G A C H locs ls hP hD hS hl
  exact lv_icmp_lt C.1 C.2.1 hd ht (fun h => kt h p l e s m args below meth c G A C H locs ls hP hD hS hl) (fun h => kf h p l e s m args below meth c G A C H locs ls hP hD hS hl)
theorem B_if_ge {x : Int32} {off : Int} {tgt : Nat} (hd : decode cc pc = .ok (.ifCond .ge off, 3)) (ht : (pc : Int) + off = (tgt : Int)) (kt : 0 ≤ x → Bd d y cc nL ret ws tgt lv st M Q) (kf : ¬ 0 ≤ x → Bd d y cc nL ret ws (pc + 3) lv st M Q) : Bd d y cc nL ret ws pc lv (.int x :: st) M Q := by
  intro p l e s m args below meth c G A C H locs ls hP hD hS hl
  exact lv_if_ge C.1 C.2.1 hd ht (fun h => kt h p l e s m args below meth c G A C H locs ls hP hD hS hl) (fun h => kf h p l e s m args below meth c G A C H locs ls hP hD hS hl)
theorem B_icmp_ge {x z : Int32} {off : Int} {tgt : Nat} (hd : decode cc pc = .ok (.if_icmp .ge off, 3)) (ht : (pc : Int) + off = (tgt : Int)) (kt : z ≤ x → Bd d y cc nL ret ws tgt lv st M Q) (kf : ¬ z ≤ x → Bd d y cc nL ret ws (pc + 3) lv st M Q) : Bd d y cc nL ret ws pc lv (.int z :: .int x :: st) M Q := by
  intro p l e s m args below meth c G A C H locs ls hP hD hS hl
  exact lv_icmp_ge C.1 C.2.1 hd ht (fun h => kt h p l e s m args below meth c G A C H locs ls hP hD hS hl) (fun h => kf h p l e s m args below meth c G A C H locs ls hP hD hS hl)
theorem B_if_gt {x : Int32} {off : Int} {tgt : Nat} (hd : decode cc pc = .ok (.ifCond .gt off, 3)) (ht : (pc : Int) + off = (tgt : Int)) (kt : 0 < x → Bd d y cc nL ret ws tgt lv st M Q) (kf : ¬ 0 < x → Bd d y cc nL ret ws (pc + 3) lv st M Q) : Bd d y cc nL ret ws pc lv (.int x :: st) M Q := by
  intro p l e s m args below meth c G A C H locs ls hP hD hS hl
  exact lv_if_gt C.1 C.2.1 hd ht (fun h => kt h p l e s m args below meth c G A C H locs ls hP hD hS hl) (fun h => kf h p l e s m args below meth c G A C H locs ls hP hD hS hl)
theorem B_icmp_gt {x z : Int32} {off : Int} {tgt : Nat} (hd : decode cc pc = .ok (.if_icmp .gt off, 3)) (ht : (pc : Int) + off = (tgt : Int)) (kt : z < x → Bd d y cc nL ret ws tgt lv st M Q) (kf : ¬ z < x → Bd d y cc nL ret ws (pc + 3) lv st M Q) : Bd d y cc nL ret ws pc lv (.int z :: .int x :: st) M Q := by
  intro p l e s m args below meth c G A C H locs ls hP hD hS hl
  exact lv_icmp_gt C.1 C.2.1 hd ht (fun h => kt h p l e s m args below meth c G A C H locs ls hP hD hS hl) (fun h => kf h p l e s m args below meth c G A C H locs ls hP hD hS hl)
theorem B_if_le {x : Int32} {off : Int} {tgt : Nat} (hd : decode cc pc = .ok (.ifCond .le off, 3)) (ht : (pc : Int) + off = (tgt : Int)) (kt : x ≤ 0 → Bd d y cc nL ret ws tgt lv st M Q) (kf : ¬ x ≤ 0 → Bd d y cc nL ret ws (pc + 3) lv st M Q) : Bd d y cc nL ret ws pc lv (.int x :: st) M Q := by
  intro p l e s m args below meth c G A C H locs ls hP hD hS hl
  exact lv_if_le C.1 C.2.1 hd ht (fun h => kt h p l e s m args below meth c G A C H locs ls hP hD hS hl) (fun h => kf h p l e s m args below meth c G A C H locs ls hP hD hS hl)
theorem B_icmp_le {x z : Int32} {off : Int} {tgt : Nat} (hd : decode cc pc = .ok (.if_icmp .le off, 3)) (ht : (pc : Int) + off = (tgt : Int)) (kt : x ≤ z → Bd d y cc nL ret ws tgt lv st M Q) (kf : ¬ x ≤ z → Bd d y cc nL ret ws (pc + 3) lv st M Q) : Bd d y cc nL ret ws pc lv (.int z :: .int x :: st) M Q := by
  intro p l e s m args below meth c G A C H locs ls hP hD hS hl
  exact lv_icmp_le C.1 C.2.1 hd ht (fun h => kt h p l e s m args below meth c G A C H locs ls hP hD hS hl) (fun h => kf h p l e s m args below meth c G A C H locs ls hP hD hS hl)
end Rules
