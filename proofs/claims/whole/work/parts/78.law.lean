/-! THE LAW: a call, and a place of its body -/
section
variable {p : Program} {l : Launch} {e : Env} {s : State} {m : MethodId} {below : List Frame} {meth : Method} {c : Code}
/-- behind a call, with what is made counted -/
theorem LW_back {R : Room} {args : Array Value} {H : Heap} {locs : List Loc} {Q0 : State → Prop} {ls : Array Slot} {st0 rest : List Value} {a : Array Value} {G : Gg} {A : Nat → Prop} {rt : Option FieldType} {Q1 : Int32 → Mm → Prop} {M : Mm} {pc cells slots : Nat}
    (hr : va_Run p l e R s m args below meth c H locs cells slots 0 0 (F0 m pc ls st0) rest (QC G rt (va_A (wl G M) H.size) Q1 a) (va_A (wl G M) H.size)) (hD : va_D A (wl G M)) (hA : ∀ q, s.heap.size ≤ q → A q) (hS : va_S A s.heap H locs)
    (kk : ∀ (r : Int32) (M' : Mm) (H1 : Heap) (locs1 : List Loc), Q1 r M' → va_P G.1 vwCl (wl G M') H1 → va_D A (wl G M') → va_S A s.heap H1 locs1 → W p l e R s m args below meth c H1 locs1 cells slots Q0 (F0 m (pc + 3) ls ((rtv rt r).toList ++ rest))) : W p l e R s m args below meth c H locs cells slots Q0 (F0 m pc ls st0) := by
  have hF : ∀ q, va_A (wl G M) H.size q → A q := by
    intro q hq
    rcases hq with ⟨k, e, hk⟩ | hq
    · exact hD.2 k _ hk
    · exact hA q (Nat.le_trans hS.1 hq)
  intro T hT X
  obtain ⟨v, st₀, t, T', L, h0, X', hL, e1, e2, ⟨⟨r, M', hv, hq, hP1, hD1⟩, hz, hk⟩, stp⟩ := hr T hT X
  have hv' : v = rtv rt r := by injection hv
  subst hv'
  rw [h0] at hz hk
  obtain ⟨t2, a1, b1⟩ := kk r M' T'.heap (locs ++ L) hq (by rw [e1]; exact hP1) (hD1.weaken (fun _ _ _ h => hF _ h))
    ⟨Nat.le_trans hS.1 (by rw [e1]; exact hz), fun q h1 h2 => by rw [e1, hk q (Nat.lt_of_lt_of_le h1 hS.1) (fun z => h2 (hF q z))]; exact hS.2.1 q h1 h2, fun q hq => by
      rcases List.mem_append.mp hq with h | h
      · exact hS.2.2 q h
      · exact hF _ (hL q h)⟩ T' rfl X'
  exact ⟨t2, stp t2 a1, b1⟩
def LA (s : State) : Nat → Prop := fun q => s.heap.size ≤ q
/-- what holds all along the law -/
def LC (p : Program) (s : State) (m : MethodId) (meth : Method) (c : Code) (b L : Nat) (xs : Nat → Int32) (G : Gg) : Prop := lw_At p s m meth c b L xs ∧ va_K G.1 vwCl (tyl G) s ∧ Sx G (LA s) s s.heap
variable {b L : Nat} {xs : Nat → Int32} {G : Gg}
/-- the law at a place, with i ints read and the memory M -/
def LB (p : Program) (l : Launch) (e : Env) (s : State) (m : MethodId) (below : List Frame) (meth : Method) (c : Code) (b : Nat) (G : Gg) (pc i : Nat) (M : Mm) : Prop := ∀ (H : Heap) (locs : List Loc) (ls : Array Slot), va_P G.1 vwCl (wl G M) H → va_D (LA s) (wl G M) → va_S (LA s) s.heap H locs → lv_has ls 4 [(0, .ref b), (1, .ref (G.2.2 0)), (2, .ref (G.2.2 49)), (3, .int (nI i))] → W p l e room_1 s m #[Value.ref b] below meth c H locs 65 1488 (lw_Z below #[Value.ref b] s) (F0 m pc ls [])
theorem law_call {y1 : MethodName} {cc1 : ByteArray} {nL1 index pc : Nat} {ws1 ws1' : List Cond} {Cn : String} {M : Mm} {Q1 : Int32 → Mm → Prop} {Q0 : State → Prop} {H : Heap} {locs : List Loc} {ls : Array Slot} (C : LC p s m meth c b L xs G) (o : Nat) (As st : List Value) (hAs : As.map (tv G) = As) (hd : decode code pc = .ok (.invokevirtual index, 3)) (hg : GoodIn lw_tbl (wsV RL index Cn y1 ws1)) (hw : ws1 = Cond.code y1 cc1 nL1 (some .int) :: ws1')
    (hy : y1.cls = Cn ∧ y1.cls ≠ "java/lang/invoke/MethodHandle" ∧ y1.cls ≠ "java/lang/invoke/VarHandle" ∧ (parseMethodDescriptor y1.desc).map (fun d => d.parameters.length) = some As.length) (ho : o < 65) (hc9 : ob_c o < 9) (Tt : u_T) (N : Nat) (hcl : vwCl[ob_c o]? = some (Cn, Tt, N)) (hnL : nL1 ≤ 45) (hst : (st.map fun v => v.category).sum ≤ 8) {stk : List Value} (hstk : As.reverse ++ .ref (G.2.2 o) :: st = stk)
    (hP : va_P G.1 vwCl (wl G M) H) (hD : va_D (LA s) (wl G M)) (hS : va_S (LA s) s.heap H locs) (hl : ls.size = 4) (k : Ct 40 y1 (some .int) ws1 (.ref o :: As) M Q1)
    (kk : ∀ (r : Int32) (M' : Mm) (H1 : Heap) (locs1 : List Loc), Q1 r M' → va_P G.1 vwCl (wl G M') H1 → va_D (LA s) (wl G M') → va_S (LA s) s.heap H1 locs1 → W p l e room_1 s m #[Value.ref b] below meth c H1 locs1 65 1488 Q0 (F0 m (pc + 3) ls (.int r :: st))) : W p l e room_1 s m #[Value.ref b] below meth c H locs 65 1488 Q0 (F0 m pc ls stk) := by
  subst hstk
  obtain ⟨⟨hx, hb, hr, hml, hown, hts, hX, hbl, hlocks, hgv⟩, hK, hSx⟩ := C
  obtain ⟨d0, hd0, hM⟩ := k
  have he := wl_obj G M ho hc9
  have hM' := hM l G H.size
  rw [List.map_cons, hAs] at hM'
  refine LW_back (va_runV (As := As) (rest := st) (nL := 4) (n := As.length) (b := G.2.2 o) (own := RL) ⟨hx, hb, hml, hown, hts⟩ hM' (cwV As.length hts hg hw rfl rfl hy ⟨?_, ?_⟩) ⟨CB_blind G M H.size _, va_recv hK hP hcl he, fun U hU hW => ⟨rfl, CB_at hK (fun q h => h) hSx hP hD hS hU hW⟩⟩ rfl rfl hl rfl (lv_room hst) hd ⟨?_, ?_⟩) hD (fun q h => h) hS (fun r M' H1 locs1 hq hP1 hD1 hS1 => kk r M' H1 locs1 hq hP1 hD1 hS1)
  · show d0 + 1 ≤ 2048
    omega
  · show 8 + (nL1 + 11) + 64 * d0 ≤ 84000
    omega
  · exact Nat.le_of_ble_eq_true rfl
  · exact Nat.le_of_ble_eq_true rfl
theorem sc_in {i k L : Nat} (hL : L ≤ 3072) (hk : k < 6) (hi : i + 6 ≤ L) : vp_in (nI (i + k)) L := vp_in_nI (by omega) (by omega)
end
