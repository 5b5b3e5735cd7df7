/-! THE LAW: its calls -/
theorem hyW_X7_began : yX7_began.cls = RX7 ∧ yX7_began.cls ≠ "java/lang/invoke/MethodHandle" ∧ yX7_began.cls ≠ "java/lang/invoke/VarHandle" ∧ (parseMethodDescriptor yX7_began.desc).map (fun d => d.parameters.length) = some 5 := by decide +kernel
theorem hyW_X8_began : yX8_began.cls = RX8 ∧ yX8_began.cls ≠ "java/lang/invoke/MethodHandle" ∧ yX8_began.cls ≠ "java/lang/invoke/VarHandle" ∧ (parseMethodDescriptor yX8_began.desc).map (fun d => d.parameters.length) = some 5 := by decide +kernel
set_option maxHeartbeats 4000000 in
set_option maxRecDepth 100000 in
theorem law_22 {p : Program} {l : Launch} {e : Env} {s : State} {m : MethodId} {below : List Frame} {meth : Method} {c : Code} {b L : Nat} {xs : Nat → Int32} {G : Gg} (hL : L ≤ 3072) (C : LC p s m meth c b L xs G) {i : Nat} (hi : i + 6 ≤ L) {M : Mm} (hI : Inv M) (kk : ∀ M3, Inv M3 → LB p l e s m below meth c b G 1219 i M3) : LB p l e s m below meth c b G 866 i M := by
  intro H locs ls hP hD hS hl
  obtain ⟨hx, hb, hr, hml, hown, hts, hX, hbl, hlocks, hgv⟩ := C.1
  have hbA : ¬ LA s b := Nat.not_le.mpr hbl
  refine lv_aload_n hx hb dL_law_866 rfl (lv_at hl 1 rfl) ?_
  refine lv_aload_n hx hb dL_law_867 rfl (lv_at hl 0 rfl) ?_
  refine lv_iload_n hx hb dL_law_868 rfl (lv_at hl 3 rfl) ?_
  refine lv_iconst (v := 1) hx hb dL_law_869 (by decide) ?_
  refine lv_iadd hx hb dL_law_870 ?_
  rw [show nI i + (1 : Int32) = nI (i + 1) from by rw [li_1, nI_add]]
  refine va_sld hx hb hX hbl hbA hS (sc_in hL (by decide) hi) dL_law_871 ?_
  refine lv_aload_n hx hb dL_law_872 rfl (lv_at hl 0 rfl) ?_
  refine lv_iload_n hx hb dL_law_873 rfl (lv_at hl 3 rfl) ?_
  refine lv_iconst (v := 2) hx hb dL_law_874 (by decide) ?_
  refine lv_iadd hx hb dL_law_875 ?_
  rw [show nI i + (2 : Int32) = nI (i + 2) from by rw [li_2, nI_add]]
  refine va_sld hx hb hX hbl hbA hS (sc_in hL (by decide) hi) dL_law_876 ?_
  refine lv_aload_n hx hb dL_law_877 rfl (lv_at hl 0 rfl) ?_
  refine lv_iload_n hx hb dL_law_878 rfl (lv_at hl 3 rfl) ?_
  refine lv_iconst (v := 3) hx hb dL_law_879 (by decide) ?_
  refine lv_iadd hx hb dL_law_880 ?_
  rw [show nI i + (3 : Int32) = nI (i + 3) from by rw [li_3, nI_add]]
  refine va_sld hx hb hX hbl hbA hS (sc_in hL (by decide) hi) dL_law_881 ?_
  refine lv_aload_n hx hb dL_law_882 rfl (lv_at hl 0 rfl) ?_
  refine lv_iload_n hx hb dL_law_883 rfl (lv_at hl 3 rfl) ?_
  refine lv_iconst (v := 4) hx hb dL_law_884 (by decide) ?_
  refine lv_iadd hx hb dL_law_885 ?_
  rw [show nI i + (4 : Int32) = nI (i + 4) from by rw [li_4, nI_add]]
  refine va_sld hx hb hX hbl hbA hS (sc_in hL (by decide) hi) dL_law_886 ?_
  refine lv_aload_n hx hb dL_law_887 rfl (lv_at hl 0 rfl) ?_
  refine lv_iload_n hx hb dL_law_888 rfl (lv_at hl 3 rfl) ?_
  refine lv_iconst (v := 5) hx hb dL_law_889 (by decide) ?_
  refine lv_iadd hx hb dL_law_890 ?_
  rw [show nI i + (5 : Int32) = nI (i + 5) from by rw [li_5, nI_add]]
  refine va_sld hx hb hX hbl hbA hS (sc_in hL (by decide) hi) dL_law_891 ?_
  refine law_call C 0 [.int (xs (nI (i + 1)).toNatClampNeg), .int (xs (nI (i + 2)).toNatClampNeg), .int (xs (nI (i + 3)).toNatClampNeg), .int (xs (nI (i + 4)).toNatClampNeg), .int (xs (nI (i + 5)).toNatClampNeg)] [] rfl dL_law_892 gW_X7_began rfl hyW_X7_began (by decide) (by decide) TX7 11 rfl (by decide) (Nat.le_of_ble_eq_true rfl) rfl hP hD hS hl.1 (L_began (xs (nI (i + 1)).toNatClampNeg) (xs (nI (i + 2)).toNatClampNeg) (xs (nI (i + 3)).toNatClampNeg) (xs (nI (i + 4)).toNatClampNeg) (xs (nI (i + 5)).toNatClampNeg) M hI) (fun r1 M1 H locs h1 hP hD hS => ?_)
  refine lv_aload_n hx hb dL_law_895 rfl (lv_at hl 2 rfl) ?_
  refine lv_aload_n hx hb dL_law_896 rfl (lv_at hl 0 rfl) ?_
  refine lv_iload_n hx hb dL_law_897 rfl (lv_at hl 3 rfl) ?_
  refine lv_iconst (v := 1) hx hb dL_law_898 (by decide) ?_
  refine lv_iadd hx hb dL_law_899 ?_
  rw [show nI i + (1 : Int32) = nI (i + 1) from by rw [li_1, nI_add]]
  refine va_sld hx hb hX hbl hbA hS (sc_in hL (by decide) hi) dL_law_900 ?_
  refine lv_aload_n hx hb dL_law_901 rfl (lv_at hl 0 rfl) ?_
  refine lv_iload_n hx hb dL_law_902 rfl (lv_at hl 3 rfl) ?_
  refine lv_iconst (v := 2) hx hb dL_law_903 (by decide) ?_
  refine lv_iadd hx hb dL_law_904 ?_
  rw [show nI i + (2 : Int32) = nI (i + 2) from by rw [li_2, nI_add]]
  refine va_sld hx hb hX hbl hbA hS (sc_in hL (by decide) hi) dL_law_905 ?_
  refine lv_aload_n hx hb dL_law_906 rfl (lv_at hl 0 rfl) ?_
  refine lv_iload_n hx hb dL_law_907 rfl (lv_at hl 3 rfl) ?_
  refine lv_iconst (v := 3) hx hb dL_law_908 (by decide) ?_
  refine lv_iadd hx hb dL_law_909 ?_
  rw [show nI i + (3 : Int32) = nI (i + 3) from by rw [li_3, nI_add]]
  refine va_sld hx hb hX hbl hbA hS (sc_in hL (by decide) hi) dL_law_910 ?_
  refine lv_aload_n hx hb dL_law_911 rfl (lv_at hl 0 rfl) ?_
  refine lv_iload_n hx hb dL_law_912 rfl (lv_at hl 3 rfl) ?_
  refine lv_iconst (v := 4) hx hb dL_law_913 (by decide) ?_
  refine lv_iadd hx hb dL_law_914 ?_
  rw [show nI i + (4 : Int32) = nI (i + 4) from by rw [li_4, nI_add]]
  refine va_sld hx hb hX hbl hbA hS (sc_in hL (by decide) hi) dL_law_915 ?_
  refine lv_aload_n hx hb dL_law_916 rfl (lv_at hl 0 rfl) ?_
  refine lv_iload_n hx hb dL_law_917 rfl (lv_at hl 3 rfl) ?_
  refine lv_iconst (v := 5) hx hb dL_law_918 (by decide) ?_
  refine lv_iadd hx hb dL_law_919 ?_
  rw [show nI i + (5 : Int32) = nI (i + 5) from by rw [li_5, nI_add]]
  refine va_sld hx hb hX hbl hbA hS (sc_in hL (by decide) hi) dL_law_920 ?_
  refine law_call C 49 [.int (xs (nI (i + 1)).toNatClampNeg), .int (xs (nI (i + 2)).toNatClampNeg), .int (xs (nI (i + 3)).toNatClampNeg), .int (xs (nI (i + 4)).toNatClampNeg), .int (xs (nI (i + 5)).toNatClampNeg)] [.int r1] rfl dL_law_921 gW_X8_began rfl hyW_X8_began (by decide) (by decide) TX8 23 rfl (by decide) (Nat.le_of_ble_eq_true rfl) rfl hP hD hS hl.1 h1 (fun r2 M2 H locs h2 hP hD hS => ?_)
  exact lv_icmp_eq (tgt := 1219) hx hb dL_law_924 (by decide) (fun _ => kk M2 h2.2 H locs ls hP hD hS hl) (fun c9 => absurd h2.1 c9)
theorem hyW_X7_sleep : yX7_sleep.cls = RX7 ∧ yX7_sleep.cls ≠ "java/lang/invoke/MethodHandle" ∧ yX7_sleep.cls ≠ "java/lang/invoke/VarHandle" ∧ (parseMethodDescriptor yX7_sleep.desc).map (fun d => d.parameters.length) = some 4 := by decide +kernel
theorem hyW_X8_sleep : yX8_sleep.cls = RX8 ∧ yX8_sleep.cls ≠ "java/lang/invoke/MethodHandle" ∧ yX8_sleep.cls ≠ "java/lang/invoke/VarHandle" ∧ (parseMethodDescriptor yX8_sleep.desc).map (fun d => d.parameters.length) = some 4 := by decide +kernel
set_option maxHeartbeats 4000000 in
set_option maxRecDepth 100000 in
theorem law_23 {p : Program} {l : Launch} {e : Env} {s : State} {m : MethodId} {below : List Frame} {meth : Method} {c : Code} {b L : Nat} {xs : Nat → Int32} {G : Gg} (hL : L ≤ 3072) (C : LC p s m meth c b L xs G) {i : Nat} (hi : i + 6 ≤ L) {M : Mm} (hI : Inv M) (kk : ∀ M3, Inv M3 → LB p l e s m below meth c b G 1219 i M3) : LB p l e s m below meth c b G 929 i M := by
  intro H locs ls hP hD hS hl
  obtain ⟨hx, hb, hr, hml, hown, hts, hX, hbl, hlocks, hgv⟩ := C.1
  have hbA : ¬ LA s b := Nat.not_le.mpr hbl
  refine lv_aload_n hx hb dL_law_929 rfl (lv_at hl 1 rfl) ?_
  refine lv_aload_n hx hb dL_law_930 rfl (lv_at hl 0 rfl) ?_
  refine lv_iload_n hx hb dL_law_931 rfl (lv_at hl 3 rfl) ?_
  refine lv_iconst (v := 1) hx hb dL_law_932 (by decide) ?_
  refine lv_iadd hx hb dL_law_933 ?_
  rw [show nI i + (1 : Int32) = nI (i + 1) from by rw [li_1, nI_add]]
  refine va_sld hx hb hX hbl hbA hS (sc_in hL (by decide) hi) dL_law_934 ?_
  refine lv_aload_n hx hb dL_law_935 rfl (lv_at hl 0 rfl) ?_
  refine lv_iload_n hx hb dL_law_936 rfl (lv_at hl 3 rfl) ?_
  refine lv_iconst (v := 2) hx hb dL_law_937 (by decide) ?_
  refine lv_iadd hx hb dL_law_938 ?_
  rw [show nI i + (2 : Int32) = nI (i + 2) from by rw [li_2, nI_add]]
  refine va_sld hx hb hX hbl hbA hS (sc_in hL (by decide) hi) dL_law_939 ?_
  refine lv_aload_n hx hb dL_law_940 rfl (lv_at hl 0 rfl) ?_
  refine lv_iload_n hx hb dL_law_941 rfl (lv_at hl 3 rfl) ?_
  refine lv_iconst (v := 3) hx hb dL_law_942 (by decide) ?_
  refine lv_iadd hx hb dL_law_943 ?_
  rw [show nI i + (3 : Int32) = nI (i + 3) from by rw [li_3, nI_add]]
  refine va_sld hx hb hX hbl hbA hS (sc_in hL (by decide) hi) dL_law_944 ?_
  refine lv_aload_n hx hb dL_law_945 rfl (lv_at hl 0 rfl) ?_
  refine lv_iload_n hx hb dL_law_946 rfl (lv_at hl 3 rfl) ?_
  refine lv_iconst (v := 4) hx hb dL_law_947 (by decide) ?_
  refine lv_iadd hx hb dL_law_948 ?_
  rw [show nI i + (4 : Int32) = nI (i + 4) from by rw [li_4, nI_add]]
  refine va_sld hx hb hX hbl hbA hS (sc_in hL (by decide) hi) dL_law_949 ?_
  refine law_call C 0 [.int (xs (nI (i + 1)).toNatClampNeg), .int (xs (nI (i + 2)).toNatClampNeg), .int (xs (nI (i + 3)).toNatClampNeg), .int (xs (nI (i + 4)).toNatClampNeg)] [] rfl dL_law_950 gW_X7_sleep rfl hyW_X7_sleep (by decide) (by decide) TX7 11 rfl (by decide) (Nat.le_of_ble_eq_true rfl) rfl hP hD hS hl.1 (L_sleep (xs (nI (i + 1)).toNatClampNeg) (xs (nI (i + 2)).toNatClampNeg) (xs (nI (i + 3)).toNatClampNeg) (xs (nI (i + 4)).toNatClampNeg) M hI) (fun r1 M1 H locs h1 hP hD hS => ?_)
  refine lv_aload_n hx hb dL_law_953 rfl (lv_at hl 2 rfl) ?_
  refine lv_aload_n hx hb dL_law_954 rfl (lv_at hl 0 rfl) ?_
  refine lv_iload_n hx hb dL_law_955 rfl (lv_at hl 3 rfl) ?_
  refine lv_iconst (v := 1) hx hb dL_law_956 (by decide) ?_
  refine lv_iadd hx hb dL_law_957 ?_
  rw [show nI i + (1 : Int32) = nI (i + 1) from by rw [li_1, nI_add]]
  refine va_sld hx hb hX hbl hbA hS (sc_in hL (by decide) hi) dL_law_958 ?_
  refine lv_aload_n hx hb dL_law_959 rfl (lv_at hl 0 rfl) ?_
  refine lv_iload_n hx hb dL_law_960 rfl (lv_at hl 3 rfl) ?_
  refine lv_iconst (v := 2) hx hb dL_law_961 (by decide) ?_
  refine lv_iadd hx hb dL_law_962 ?_
  rw [show nI i + (2 : Int32) = nI (i + 2) from by rw [li_2, nI_add]]
  refine va_sld hx hb hX hbl hbA hS (sc_in hL (by decide) hi) dL_law_963 ?_
  refine lv_aload_n hx hb dL_law_964 rfl (lv_at hl 0 rfl) ?_
  refine lv_iload_n hx hb dL_law_965 rfl (lv_at hl 3 rfl) ?_
  refine lv_iconst (v := 3) hx hb dL_law_966 (by decide) ?_
  refine lv_iadd hx hb dL_law_967 ?_
  rw [show nI i + (3 : Int32) = nI (i + 3) from by rw [li_3, nI_add]]
  refine va_sld hx hb hX hbl hbA hS (sc_in hL (by decide) hi) dL_law_968 ?_
  refine lv_aload_n hx hb dL_law_969 rfl (lv_at hl 0 rfl) ?_
  refine lv_iload_n hx hb dL_law_970 rfl (lv_at hl 3 rfl) ?_
  refine lv_iconst (v := 4) hx hb dL_law_971 (by decide) ?_
  refine lv_iadd hx hb dL_law_972 ?_
  rw [show nI i + (4 : Int32) = nI (i + 4) from by rw [li_4, nI_add]]
  refine va_sld hx hb hX hbl hbA hS (sc_in hL (by decide) hi) dL_law_973 ?_
  refine law_call C 49 [.int (xs (nI (i + 1)).toNatClampNeg), .int (xs (nI (i + 2)).toNatClampNeg), .int (xs (nI (i + 3)).toNatClampNeg), .int (xs (nI (i + 4)).toNatClampNeg)] [.int r1] rfl dL_law_974 gW_X8_sleep rfl hyW_X8_sleep (by decide) (by decide) TX8 23 rfl (by decide) (Nat.le_of_ble_eq_true rfl) rfl hP hD hS hl.1 h1 (fun r2 M2 H locs h2 hP hD hS => ?_)
  exact lv_icmp_eq (tgt := 1219) hx hb dL_law_977 (by decide) (fun _ => kk M2 h2.2 H locs ls hP hD hS hl) (fun c9 => absurd h2.1 c9)
theorem hyW_X7_drawn : yX7_drawn.cls = RX7 ∧ yX7_drawn.cls ≠ "java/lang/invoke/MethodHandle" ∧ yX7_drawn.cls ≠ "java/lang/invoke/VarHandle" ∧ (parseMethodDescriptor yX7_drawn.desc).map (fun d => d.parameters.length) = some 3 := by decide +kernel
theorem hyW_X8_drawn : yX8_drawn.cls = RX8 ∧ yX8_drawn.cls ≠ "java/lang/invoke/MethodHandle" ∧ yX8_drawn.cls ≠ "java/lang/invoke/VarHandle" ∧ (parseMethodDescriptor yX8_drawn.desc).map (fun d => d.parameters.length) = some 3 := by decide +kernel
set_option maxHeartbeats 4000000 in
set_option maxRecDepth 100000 in
theorem law_24 {p : Program} {l : Launch} {e : Env} {s : State} {m : MethodId} {below : List Frame} {meth : Method} {c : Code} {b L : Nat} {xs : Nat → Int32} {G : Gg} (hL : L ≤ 3072) (C : LC p s m meth c b L xs G) {i : Nat} (hi : i + 6 ≤ L) {M : Mm} (hI : Inv M) (kk : ∀ M3, Inv M3 → LB p l e s m below meth c b G 1219 i M3) : LB p l e s m below meth c b G 982 i M := by
  intro H locs ls hP hD hS hl
  obtain ⟨hx, hb, hr, hml, hown, hts, hX, hbl, hlocks, hgv⟩ := C.1
  have hbA : ¬ LA s b := Nat.not_le.mpr hbl
  refine lv_aload_n hx hb dL_law_982 rfl (lv_at hl 1 rfl) ?_
  refine lv_aload_n hx hb dL_law_983 rfl (lv_at hl 0 rfl) ?_
  refine lv_iload_n hx hb dL_law_984 rfl (lv_at hl 3 rfl) ?_
  refine lv_iconst (v := 1) hx hb dL_law_985 (by decide) ?_
  refine lv_iadd hx hb dL_law_986 ?_
  rw [show nI i + (1 : Int32) = nI (i + 1) from by rw [li_1, nI_add]]
  refine va_sld hx hb hX hbl hbA hS (sc_in hL (by decide) hi) dL_law_987 ?_
  refine lv_aload_n hx hb dL_law_988 rfl (lv_at hl 0 rfl) ?_
  refine lv_iload_n hx hb dL_law_989 rfl (lv_at hl 3 rfl) ?_
  refine lv_iconst (v := 2) hx hb dL_law_990 (by decide) ?_
  refine lv_iadd hx hb dL_law_991 ?_
  rw [show nI i + (2 : Int32) = nI (i + 2) from by rw [li_2, nI_add]]
  refine va_sld hx hb hX hbl hbA hS (sc_in hL (by decide) hi) dL_law_992 ?_
  refine lv_aload_n hx hb dL_law_993 rfl (lv_at hl 0 rfl) ?_
  refine lv_iload_n hx hb dL_law_994 rfl (lv_at hl 3 rfl) ?_
  refine lv_iconst (v := 3) hx hb dL_law_995 (by decide) ?_
  refine lv_iadd hx hb dL_law_996 ?_
  rw [show nI i + (3 : Int32) = nI (i + 3) from by rw [li_3, nI_add]]
  refine va_sld hx hb hX hbl hbA hS (sc_in hL (by decide) hi) dL_law_997 ?_
  refine law_call C 0 [.int (xs (nI (i + 1)).toNatClampNeg), .int (xs (nI (i + 2)).toNatClampNeg), .int (xs (nI (i + 3)).toNatClampNeg)] [] rfl dL_law_998 gW_X7_drawn rfl hyW_X7_drawn (by decide) (by decide) TX7 11 rfl (by decide) (Nat.le_of_ble_eq_true rfl) rfl hP hD hS hl.1 (L_drawn (xs (nI (i + 1)).toNatClampNeg) (xs (nI (i + 2)).toNatClampNeg) (xs (nI (i + 3)).toNatClampNeg) M hI) (fun r1 M1 H locs h1 hP hD hS => ?_)
  refine lv_aload_n hx hb dL_law_1001 rfl (lv_at hl 2 rfl) ?_
  refine lv_aload_n hx hb dL_law_1002 rfl (lv_at hl 0 rfl) ?_
  refine lv_iload_n hx hb dL_law_1003 rfl (lv_at hl 3 rfl) ?_
  refine lv_iconst (v := 1) hx hb dL_law_1004 (by decide) ?_
  refine lv_iadd hx hb dL_law_1005 ?_
  rw [show nI i + (1 : Int32) = nI (i + 1) from by rw [li_1, nI_add]]
  refine va_sld hx hb hX hbl hbA hS (sc_in hL (by decide) hi) dL_law_1006 ?_
  refine lv_aload_n hx hb dL_law_1007 rfl (lv_at hl 0 rfl) ?_
  refine lv_iload_n hx hb dL_law_1008 rfl (lv_at hl 3 rfl) ?_
  refine lv_iconst (v := 2) hx hb dL_law_1009 (by decide) ?_
  refine lv_iadd hx hb dL_law_1010 ?_
  rw [show nI i + (2 : Int32) = nI (i + 2) from by rw [li_2, nI_add]]
  refine va_sld hx hb hX hbl hbA hS (sc_in hL (by decide) hi) dL_law_1011 ?_
  refine lv_aload_n hx hb dL_law_1012 rfl (lv_at hl 0 rfl) ?_
  refine lv_iload_n hx hb dL_law_1013 rfl (lv_at hl 3 rfl) ?_
  refine lv_iconst (v := 3) hx hb dL_law_1014 (by decide) ?_
  refine lv_iadd hx hb dL_law_1015 ?_
  rw [show nI i + (3 : Int32) = nI (i + 3) from by rw [li_3, nI_add]]
  refine va_sld hx hb hX hbl hbA hS (sc_in hL (by decide) hi) dL_law_1016 ?_
  refine law_call C 49 [.int (xs (nI (i + 1)).toNatClampNeg), .int (xs (nI (i + 2)).toNatClampNeg), .int (xs (nI (i + 3)).toNatClampNeg)] [.int r1] rfl dL_law_1017 gW_X8_drawn rfl hyW_X8_drawn (by decide) (by decide) TX8 23 rfl (by decide) (Nat.le_of_ble_eq_true rfl) rfl hP hD hS hl.1 h1 (fun r2 M2 H locs h2 hP hD hS => ?_)
  exact lv_icmp_eq (tgt := 1219) hx hb dL_law_1020 (by decide) (fun _ => kk M2 h2.2 H locs ls hP hD hS hl) (fun c9 => absurd h2.1 c9)
theorem hyW_X7_image : yX7_image.cls = RX7 ∧ yX7_image.cls ≠ "java/lang/invoke/MethodHandle" ∧ yX7_image.cls ≠ "java/lang/invoke/VarHandle" ∧ (parseMethodDescriptor yX7_image.desc).map (fun d => d.parameters.length) = some 1 := by decide +kernel
theorem hyW_X8_image : yX8_image.cls = RX8 ∧ yX8_image.cls ≠ "java/lang/invoke/MethodHandle" ∧ yX8_image.cls ≠ "java/lang/invoke/VarHandle" ∧ (parseMethodDescriptor yX8_image.desc).map (fun d => d.parameters.length) = some 1 := by decide +kernel
set_option maxHeartbeats 4000000 in
set_option maxRecDepth 100000 in
theorem law_25 {p : Program} {l : Launch} {e : Env} {s : State} {m : MethodId} {below : List Frame} {meth : Method} {c : Code} {b L : Nat} {xs : Nat → Int32} {G : Gg} (hL : L ≤ 3072) (C : LC p s m meth c b L xs G) {i : Nat} (hi : i + 6 ≤ L) {M : Mm} (hI : Inv M) (kk : ∀ M3, Inv M3 → LB p l e s m below meth c b G 1219 i M3) : LB p l e s m below meth c b G 1025 i M := by
  intro H locs ls hP hD hS hl
  obtain ⟨hx, hb, hr, hml, hown, hts, hX, hbl, hlocks, hgv⟩ := C.1
  have hbA : ¬ LA s b := Nat.not_le.mpr hbl
  refine lv_aload_n hx hb dL_law_1025 rfl (lv_at hl 1 rfl) ?_
  refine lv_aload_n hx hb dL_law_1026 rfl (lv_at hl 0 rfl) ?_
  refine lv_iload_n hx hb dL_law_1027 rfl (lv_at hl 3 rfl) ?_
  refine lv_iconst (v := 1) hx hb dL_law_1028 (by decide) ?_
  refine lv_iadd hx hb dL_law_1029 ?_
  rw [show nI i + (1 : Int32) = nI (i + 1) from by rw [li_1, nI_add]]
  refine va_sld hx hb hX hbl hbA hS (sc_in hL (by decide) hi) dL_law_1030 ?_
  refine law_call C 0 [.int (xs (nI (i + 1)).toNatClampNeg)] [] rfl dL_law_1031 gW_X7_image rfl hyW_X7_image (by decide) (by decide) TX7 11 rfl (by decide) (Nat.le_of_ble_eq_true rfl) rfl hP hD hS hl.1 (L_image (xs (nI (i + 1)).toNatClampNeg) M hI) (fun r1 M1 H locs h1 hP hD hS => ?_)
  refine lv_aload_n hx hb dL_law_1034 rfl (lv_at hl 2 rfl) ?_
  refine lv_aload_n hx hb dL_law_1035 rfl (lv_at hl 0 rfl) ?_
  refine lv_iload_n hx hb dL_law_1036 rfl (lv_at hl 3 rfl) ?_
  refine lv_iconst (v := 1) hx hb dL_law_1037 (by decide) ?_
  refine lv_iadd hx hb dL_law_1038 ?_
  rw [show nI i + (1 : Int32) = nI (i + 1) from by rw [li_1, nI_add]]
  refine va_sld hx hb hX hbl hbA hS (sc_in hL (by decide) hi) dL_law_1039 ?_
  refine law_call C 49 [.int (xs (nI (i + 1)).toNatClampNeg)] [.int r1] rfl dL_law_1040 gW_X8_image rfl hyW_X8_image (by decide) (by decide) TX8 23 rfl (by decide) (Nat.le_of_ble_eq_true rfl) rfl hP hD hS hl.1 h1 (fun r2 M2 H locs h2 hP hD hS => ?_)
  exact lv_icmp_eq (tgt := 1219) hx hb dL_law_1043 (by decide) (fun _ => kk M2 h2.2 H locs ls hP hD hS hl) (fun c9 => absurd h2.1 c9)
theorem hyW_X7_restore : yX7_restore.cls = RX7 ∧ yX7_restore.cls ≠ "java/lang/invoke/MethodHandle" ∧ yX7_restore.cls ≠ "java/lang/invoke/VarHandle" ∧ (parseMethodDescriptor yX7_restore.desc).map (fun d => d.parameters.length) = some 1 := by decide +kernel
theorem hyW_X8_restore : yX8_restore.cls = RX8 ∧ yX8_restore.cls ≠ "java/lang/invoke/MethodHandle" ∧ yX8_restore.cls ≠ "java/lang/invoke/VarHandle" ∧ (parseMethodDescriptor yX8_restore.desc).map (fun d => d.parameters.length) = some 1 := by decide +kernel
set_option maxHeartbeats 4000000 in
set_option maxRecDepth 100000 in
theorem law_26 {p : Program} {l : Launch} {e : Env} {s : State} {m : MethodId} {below : List Frame} {meth : Method} {c : Code} {b L : Nat} {xs : Nat → Int32} {G : Gg} (hL : L ≤ 3072) (C : LC p s m meth c b L xs G) {i : Nat} (hi : i + 6 ≤ L) {M : Mm} (hI : Inv M) (kk : ∀ M3, Inv M3 → LB p l e s m below meth c b G 1219 i M3) : LB p l e s m below meth c b G 1048 i M := by
  intro H locs ls hP hD hS hl
  obtain ⟨hx, hb, hr, hml, hown, hts, hX, hbl, hlocks, hgv⟩ := C.1
  have hbA : ¬ LA s b := Nat.not_le.mpr hbl
  refine lv_aload_n hx hb dL_law_1048 rfl (lv_at hl 1 rfl) ?_
  refine lv_aload_n hx hb dL_law_1049 rfl (lv_at hl 0 rfl) ?_
  refine lv_iload_n hx hb dL_law_1050 rfl (lv_at hl 3 rfl) ?_
  refine lv_iconst (v := 1) hx hb dL_law_1051 (by decide) ?_
  refine lv_iadd hx hb dL_law_1052 ?_
  rw [show nI i + (1 : Int32) = nI (i + 1) from by rw [li_1, nI_add]]
  refine va_sld hx hb hX hbl hbA hS (sc_in hL (by decide) hi) dL_law_1053 ?_
  refine law_call C 0 [.int (xs (nI (i + 1)).toNatClampNeg)] [] rfl dL_law_1054 gW_X7_restore rfl hyW_X7_restore (by decide) (by decide) TX7 11 rfl (by decide) (Nat.le_of_ble_eq_true rfl) rfl hP hD hS hl.1 (L_restore (xs (nI (i + 1)).toNatClampNeg) M hI) (fun r1 M1 H locs h1 hP hD hS => ?_)
  refine lv_aload_n hx hb dL_law_1057 rfl (lv_at hl 2 rfl) ?_
  refine lv_aload_n hx hb dL_law_1058 rfl (lv_at hl 0 rfl) ?_
  refine lv_iload_n hx hb dL_law_1059 rfl (lv_at hl 3 rfl) ?_
  refine lv_iconst (v := 1) hx hb dL_law_1060 (by decide) ?_
  refine lv_iadd hx hb dL_law_1061 ?_
  rw [show nI i + (1 : Int32) = nI (i + 1) from by rw [li_1, nI_add]]
  refine va_sld hx hb hX hbl hbA hS (sc_in hL (by decide) hi) dL_law_1062 ?_
  refine law_call C 49 [.int (xs (nI (i + 1)).toNatClampNeg)] [.int r1] rfl dL_law_1063 gW_X8_restore rfl hyW_X8_restore (by decide) (by decide) TX8 23 rfl (by decide) (Nat.le_of_ble_eq_true rfl) rfl hP hD hS hl.1 h1 (fun r2 M2 H locs h2 hP hD hS => ?_)
  exact lv_icmp_eq (tgt := 1219) hx hb dL_law_1066 (by decide) (fun _ => kk M2 h2.2 H locs ls hP hD hS hl) (fun c9 => absurd h2.1 c9)
theorem hyW_X7_kind : yX7_kind.cls = RX7 ∧ yX7_kind.cls ≠ "java/lang/invoke/MethodHandle" ∧ yX7_kind.cls ≠ "java/lang/invoke/VarHandle" ∧ (parseMethodDescriptor yX7_kind.desc).map (fun d => d.parameters.length) = some 1 := by decide +kernel
theorem hyW_X8_kind : yX8_kind.cls = RX8 ∧ yX8_kind.cls ≠ "java/lang/invoke/MethodHandle" ∧ yX8_kind.cls ≠ "java/lang/invoke/VarHandle" ∧ (parseMethodDescriptor yX8_kind.desc).map (fun d => d.parameters.length) = some 1 := by decide +kernel
set_option maxHeartbeats 4000000 in
set_option maxRecDepth 100000 in
theorem law_27 {p : Program} {l : Launch} {e : Env} {s : State} {m : MethodId} {below : List Frame} {meth : Method} {c : Code} {b L : Nat} {xs : Nat → Int32} {G : Gg} (hL : L ≤ 3072) (C : LC p s m meth c b L xs G) {i : Nat} (hi : i + 6 ≤ L) {M : Mm} (hI : Inv M) (kk : ∀ M3, Inv M3 → LB p l e s m below meth c b G 1219 i M3) : LB p l e s m below meth c b G 1071 i M := by
  intro H locs ls hP hD hS hl
  obtain ⟨hx, hb, hr, hml, hown, hts, hX, hbl, hlocks, hgv⟩ := C.1
  have hbA : ¬ LA s b := Nat.not_le.mpr hbl
  refine lv_aload_n hx hb dL_law_1071 rfl (lv_at hl 1 rfl) ?_
  refine lv_aload_n hx hb dL_law_1072 rfl (lv_at hl 0 rfl) ?_
  refine lv_iload_n hx hb dL_law_1073 rfl (lv_at hl 3 rfl) ?_
  refine lv_iconst (v := 1) hx hb dL_law_1074 (by decide) ?_
  refine lv_iadd hx hb dL_law_1075 ?_
  rw [show nI i + (1 : Int32) = nI (i + 1) from by rw [li_1, nI_add]]
  refine va_sld hx hb hX hbl hbA hS (sc_in hL (by decide) hi) dL_law_1076 ?_
  refine law_call C 0 [.int (xs (nI (i + 1)).toNatClampNeg)] [] rfl dL_law_1077 gW_X7_kind rfl hyW_X7_kind (by decide) (by decide) TX7 11 rfl (by decide) (Nat.le_of_ble_eq_true rfl) rfl hP hD hS hl.1 (L_kind (xs (nI (i + 1)).toNatClampNeg) M hI) (fun r1 M1 H locs h1 hP hD hS => ?_)
  refine lv_aload_n hx hb dL_law_1080 rfl (lv_at hl 2 rfl) ?_
  refine lv_aload_n hx hb dL_law_1081 rfl (lv_at hl 0 rfl) ?_
  refine lv_iload_n hx hb dL_law_1082 rfl (lv_at hl 3 rfl) ?_
  refine lv_iconst (v := 1) hx hb dL_law_1083 (by decide) ?_
  refine lv_iadd hx hb dL_law_1084 ?_
  rw [show nI i + (1 : Int32) = nI (i + 1) from by rw [li_1, nI_add]]
  refine va_sld hx hb hX hbl hbA hS (sc_in hL (by decide) hi) dL_law_1085 ?_
  refine law_call C 49 [.int (xs (nI (i + 1)).toNatClampNeg)] [.int r1] rfl dL_law_1086 gW_X8_kind rfl hyW_X8_kind (by decide) (by decide) TX8 23 rfl (by decide) (Nat.le_of_ble_eq_true rfl) rfl hP hD hS hl.1 h1 (fun r2 M2 H locs h2 hP hD hS => ?_)
  exact lv_icmp_eq (tgt := 1219) hx hb dL_law_1089 (by decide) (fun _ => kk M2 h2.2 H locs ls hP hD hS hl) (fun c9 => absurd h2.1 c9)
theorem hyW_X7_as : yX7_as.cls = RX7 ∧ yX7_as.cls ≠ "java/lang/invoke/MethodHandle" ∧ yX7_as.cls ≠ "java/lang/invoke/VarHandle" ∧ (parseMethodDescriptor yX7_as.desc).map (fun d => d.parameters.length) = some 2 := by decide +kernel
theorem hyW_X8_as : yX8_as.cls = RX8 ∧ yX8_as.cls ≠ "java/lang/invoke/MethodHandle" ∧ yX8_as.cls ≠ "java/lang/invoke/VarHandle" ∧ (parseMethodDescriptor yX8_as.desc).map (fun d => d.parameters.length) = some 2 := by decide +kernel
set_option maxHeartbeats 4000000 in
set_option maxRecDepth 100000 in
theorem law_28 {p : Program} {l : Launch} {e : Env} {s : State} {m : MethodId} {below : List Frame} {meth : Method} {c : Code} {b L : Nat} {xs : Nat → Int32} {G : Gg} (hL : L ≤ 3072) (C : LC p s m meth c b L xs G) {i : Nat} (hi : i + 6 ≤ L) {M : Mm} (hI : Inv M) (kk : ∀ M3, Inv M3 → LB p l e s m below meth c b G 1219 i M3) : LB p l e s m below meth c b G 1094 i M := by
  intro H locs ls hP hD hS hl
  obtain ⟨hx, hb, hr, hml, hown, hts, hX, hbl, hlocks, hgv⟩ := C.1
  have hbA : ¬ LA s b := Nat.not_le.mpr hbl
  refine lv_aload_n hx hb dL_law_1094 rfl (lv_at hl 1 rfl) ?_
  refine lv_aload_n hx hb dL_law_1095 rfl (lv_at hl 0 rfl) ?_
  refine lv_iload_n hx hb dL_law_1096 rfl (lv_at hl 3 rfl) ?_
  refine lv_iconst (v := 1) hx hb dL_law_1097 (by decide) ?_
  refine lv_iadd hx hb dL_law_1098 ?_
  rw [show nI i + (1 : Int32) = nI (i + 1) from by rw [li_1, nI_add]]
  refine va_sld hx hb hX hbl hbA hS (sc_in hL (by decide) hi) dL_law_1099 ?_
  refine lv_aload_n hx hb dL_law_1100 rfl (lv_at hl 0 rfl) ?_
  refine lv_iload_n hx hb dL_law_1101 rfl (lv_at hl 3 rfl) ?_
  refine lv_iconst (v := 2) hx hb dL_law_1102 (by decide) ?_
  refine lv_iadd hx hb dL_law_1103 ?_
  rw [show nI i + (2 : Int32) = nI (i + 2) from by rw [li_2, nI_add]]
  refine va_sld hx hb hX hbl hbA hS (sc_in hL (by decide) hi) dL_law_1104 ?_
  refine law_call C 0 [.int (xs (nI (i + 1)).toNatClampNeg), .int (xs (nI (i + 2)).toNatClampNeg)] [] rfl dL_law_1105 gW_X7_as rfl hyW_X7_as (by decide) (by decide) TX7 11 rfl (by decide) (Nat.le_of_ble_eq_true rfl) rfl hP hD hS hl.1 (L_as (xs (nI (i + 1)).toNatClampNeg) (xs (nI (i + 2)).toNatClampNeg) M hI) (fun r1 M1 H locs h1 hP hD hS => ?_)
  refine lv_aload_n hx hb dL_law_1108 rfl (lv_at hl 2 rfl) ?_
  refine lv_aload_n hx hb dL_law_1109 rfl (lv_at hl 0 rfl) ?_
  refine lv_iload_n hx hb dL_law_1110 rfl (lv_at hl 3 rfl) ?_
  refine lv_iconst (v := 1) hx hb dL_law_1111 (by decide) ?_
  refine lv_iadd hx hb dL_law_1112 ?_
  rw [show nI i + (1 : Int32) = nI (i + 1) from by rw [li_1, nI_add]]
  refine va_sld hx hb hX hbl hbA hS (sc_in hL (by decide) hi) dL_law_1113 ?_
  refine lv_aload_n hx hb dL_law_1114 rfl (lv_at hl 0 rfl) ?_
  refine lv_iload_n hx hb dL_law_1115 rfl (lv_at hl 3 rfl) ?_
  refine lv_iconst (v := 2) hx hb dL_law_1116 (by decide) ?_
  refine lv_iadd hx hb dL_law_1117 ?_
  rw [show nI i + (2 : Int32) = nI (i + 2) from by rw [li_2, nI_add]]
  refine va_sld hx hb hX hbl hbA hS (sc_in hL (by decide) hi) dL_law_1118 ?_
  refine law_call C 49 [.int (xs (nI (i + 1)).toNatClampNeg), .int (xs (nI (i + 2)).toNatClampNeg)] [.int r1] rfl dL_law_1119 gW_X8_as rfl hyW_X8_as (by decide) (by decide) TX8 23 rfl (by decide) (Nat.le_of_ble_eq_true rfl) rfl hP hD hS hl.1 h1 (fun r2 M2 H locs h2 hP hD hS => ?_)
  exact lv_icmp_eq (tgt := 1219) hx hb dL_law_1122 (by decide) (fun _ => kk M2 h2.2 H locs ls hP hD hS hl) (fun c9 => absurd h2.1 c9)
theorem hyW_X7_ask : yX7_ask.cls = RX7 ∧ yX7_ask.cls ≠ "java/lang/invoke/MethodHandle" ∧ yX7_ask.cls ≠ "java/lang/invoke/VarHandle" ∧ (parseMethodDescriptor yX7_ask.desc).map (fun d => d.parameters.length) = some 2 := by decide +kernel
theorem hyW_X8_ask : yX8_ask.cls = RX8 ∧ yX8_ask.cls ≠ "java/lang/invoke/MethodHandle" ∧ yX8_ask.cls ≠ "java/lang/invoke/VarHandle" ∧ (parseMethodDescriptor yX8_ask.desc).map (fun d => d.parameters.length) = some 2 := by decide +kernel
set_option maxHeartbeats 4000000 in
set_option maxRecDepth 100000 in
theorem law_29 {p : Program} {l : Launch} {e : Env} {s : State} {m : MethodId} {below : List Frame} {meth : Method} {c : Code} {b L : Nat} {xs : Nat → Int32} {G : Gg} (hL : L ≤ 3072) (C : LC p s m meth c b L xs G) {i : Nat} (hi : i + 6 ≤ L) {M : Mm} (hI : Inv M) (kk : ∀ M3, Inv M3 → LB p l e s m below meth c b G 1219 i M3) : LB p l e s m below meth c b G 1127 i M := by
  intro H locs ls hP hD hS hl
  obtain ⟨hx, hb, hr, hml, hown, hts, hX, hbl, hlocks, hgv⟩ := C.1
  have hbA : ¬ LA s b := Nat.not_le.mpr hbl
  refine lv_aload_n hx hb dL_law_1127 rfl (lv_at hl 1 rfl) ?_
  refine lv_aload_n hx hb dL_law_1128 rfl (lv_at hl 0 rfl) ?_
  refine lv_iload_n hx hb dL_law_1129 rfl (lv_at hl 3 rfl) ?_
  refine lv_iconst (v := 1) hx hb dL_law_1130 (by decide) ?_
  refine lv_iadd hx hb dL_law_1131 ?_
  rw [show nI i + (1 : Int32) = nI (i + 1) from by rw [li_1, nI_add]]
  refine va_sld hx hb hX hbl hbA hS (sc_in hL (by decide) hi) dL_law_1132 ?_
  refine lv_aload_n hx hb dL_law_1133 rfl (lv_at hl 0 rfl) ?_
  refine lv_iload_n hx hb dL_law_1134 rfl (lv_at hl 3 rfl) ?_
  refine lv_iconst (v := 2) hx hb dL_law_1135 (by decide) ?_
  refine lv_iadd hx hb dL_law_1136 ?_
  rw [show nI i + (2 : Int32) = nI (i + 2) from by rw [li_2, nI_add]]
  refine va_sld hx hb hX hbl hbA hS (sc_in hL (by decide) hi) dL_law_1137 ?_
  refine law_call C 0 [.int (xs (nI (i + 1)).toNatClampNeg), .int (xs (nI (i + 2)).toNatClampNeg)] [] rfl dL_law_1138 gW_X7_ask rfl hyW_X7_ask (by decide) (by decide) TX7 11 rfl (by decide) (Nat.le_of_ble_eq_true rfl) rfl hP hD hS hl.1 (L_ask (xs (nI (i + 1)).toNatClampNeg) (xs (nI (i + 2)).toNatClampNeg) M hI) (fun r1 M1 H locs h1 hP hD hS => ?_)
  refine lv_aload_n hx hb dL_law_1141 rfl (lv_at hl 2 rfl) ?_
  refine lv_aload_n hx hb dL_law_1142 rfl (lv_at hl 0 rfl) ?_
  refine lv_iload_n hx hb dL_law_1143 rfl (lv_at hl 3 rfl) ?_
  refine lv_iconst (v := 1) hx hb dL_law_1144 (by decide) ?_
  refine lv_iadd hx hb dL_law_1145 ?_
  rw [show nI i + (1 : Int32) = nI (i + 1) from by rw [li_1, nI_add]]
  refine va_sld hx hb hX hbl hbA hS (sc_in hL (by decide) hi) dL_law_1146 ?_
  refine lv_aload_n hx hb dL_law_1147 rfl (lv_at hl 0 rfl) ?_
  refine lv_iload_n hx hb dL_law_1148 rfl (lv_at hl 3 rfl) ?_
  refine lv_iconst (v := 2) hx hb dL_law_1149 (by decide) ?_
  refine lv_iadd hx hb dL_law_1150 ?_
  rw [show nI i + (2 : Int32) = nI (i + 2) from by rw [li_2, nI_add]]
  refine va_sld hx hb hX hbl hbA hS (sc_in hL (by decide) hi) dL_law_1151 ?_
  refine law_call C 49 [.int (xs (nI (i + 1)).toNatClampNeg), .int (xs (nI (i + 2)).toNatClampNeg)] [.int r1] rfl dL_law_1152 gW_X8_ask rfl hyW_X8_ask (by decide) (by decide) TX8 23 rfl (by decide) (Nat.le_of_ble_eq_true rfl) rfl hP hD hS hl.1 h1 (fun r2 M2 H locs h2 hP hD hS => ?_)
  exact lv_icmp_eq (tgt := 1219) hx hb dL_law_1155 (by decide) (fun _ => kk M2 h2.2 H locs ls hP hD hS hl) (fun c9 => absurd h2.1 c9)
theorem hyW_X7_trace : yX7_trace.cls = RX7 ∧ yX7_trace.cls ≠ "java/lang/invoke/MethodHandle" ∧ yX7_trace.cls ≠ "java/lang/invoke/VarHandle" ∧ (parseMethodDescriptor yX7_trace.desc).map (fun d => d.parameters.length) = some 1 := by decide +kernel
theorem hyW_X8_trace : yX8_trace.cls = RX8 ∧ yX8_trace.cls ≠ "java/lang/invoke/MethodHandle" ∧ yX8_trace.cls ≠ "java/lang/invoke/VarHandle" ∧ (parseMethodDescriptor yX8_trace.desc).map (fun d => d.parameters.length) = some 1 := by decide +kernel
set_option maxHeartbeats 4000000 in
set_option maxRecDepth 100000 in
theorem law_30 {p : Program} {l : Launch} {e : Env} {s : State} {m : MethodId} {below : List Frame} {meth : Method} {c : Code} {b L : Nat} {xs : Nat → Int32} {G : Gg} (hL : L ≤ 3072) (C : LC p s m meth c b L xs G) {i : Nat} (hi : i + 6 ≤ L) {M : Mm} (hI : Inv M) (kk : ∀ M3, Inv M3 → LB p l e s m below meth c b G 1219 i M3) : LB p l e s m below meth c b G 1160 i M := by
  intro H locs ls hP hD hS hl
  obtain ⟨hx, hb, hr, hml, hown, hts, hX, hbl, hlocks, hgv⟩ := C.1
  have hbA : ¬ LA s b := Nat.not_le.mpr hbl
  refine lv_aload_n hx hb dL_law_1160 rfl (lv_at hl 1 rfl) ?_
  refine lv_aload_n hx hb dL_law_1161 rfl (lv_at hl 0 rfl) ?_
  refine lv_iload_n hx hb dL_law_1162 rfl (lv_at hl 3 rfl) ?_
  refine lv_iconst (v := 1) hx hb dL_law_1163 (by decide) ?_
  refine lv_iadd hx hb dL_law_1164 ?_
  rw [show nI i + (1 : Int32) = nI (i + 1) from by rw [li_1, nI_add]]
  refine va_sld hx hb hX hbl hbA hS (sc_in hL (by decide) hi) dL_law_1165 ?_
  refine law_call C 0 [.int (xs (nI (i + 1)).toNatClampNeg)] [] rfl dL_law_1166 gW_X7_trace rfl hyW_X7_trace (by decide) (by decide) TX7 11 rfl (by decide) (Nat.le_of_ble_eq_true rfl) rfl hP hD hS hl.1 (L_trace (xs (nI (i + 1)).toNatClampNeg) M hI) (fun r1 M1 H locs h1 hP hD hS => ?_)
  refine lv_aload_n hx hb dL_law_1169 rfl (lv_at hl 2 rfl) ?_
  refine lv_aload_n hx hb dL_law_1170 rfl (lv_at hl 0 rfl) ?_
  refine lv_iload_n hx hb dL_law_1171 rfl (lv_at hl 3 rfl) ?_
  refine lv_iconst (v := 1) hx hb dL_law_1172 (by decide) ?_
  refine lv_iadd hx hb dL_law_1173 ?_
  rw [show nI i + (1 : Int32) = nI (i + 1) from by rw [li_1, nI_add]]
  refine va_sld hx hb hX hbl hbA hS (sc_in hL (by decide) hi) dL_law_1174 ?_
  refine law_call C 49 [.int (xs (nI (i + 1)).toNatClampNeg)] [.int r1] rfl dL_law_1175 gW_X8_trace rfl hyW_X8_trace (by decide) (by decide) TX8 23 rfl (by decide) (Nat.le_of_ble_eq_true rfl) rfl hP hD hS hl.1 h1 (fun r2 M2 H locs h2 hP hD hS => ?_)
  exact lv_icmp_eq (tgt := 1219) hx hb dL_law_1178 (by decide) (fun _ => kk M2 h2.2 H locs ls hP hD hS hl) (fun c9 => absurd h2.1 c9)
theorem hyW_X7_count : yX7_count.cls = RX7 ∧ yX7_count.cls ≠ "java/lang/invoke/MethodHandle" ∧ yX7_count.cls ≠ "java/lang/invoke/VarHandle" ∧ (parseMethodDescriptor yX7_count.desc).map (fun d => d.parameters.length) = some 1 := by decide +kernel
theorem hyW_X8_count : yX8_count.cls = RX8 ∧ yX8_count.cls ≠ "java/lang/invoke/MethodHandle" ∧ yX8_count.cls ≠ "java/lang/invoke/VarHandle" ∧ (parseMethodDescriptor yX8_count.desc).map (fun d => d.parameters.length) = some 1 := by decide +kernel
set_option maxHeartbeats 4000000 in
set_option maxRecDepth 100000 in
theorem law_31 {p : Program} {l : Launch} {e : Env} {s : State} {m : MethodId} {below : List Frame} {meth : Method} {c : Code} {b L : Nat} {xs : Nat → Int32} {G : Gg} (hL : L ≤ 3072) (C : LC p s m meth c b L xs G) {i : Nat} (hi : i + 6 ≤ L) {M : Mm} (hI : Inv M) (kk : ∀ M3, Inv M3 → LB p l e s m below meth c b G 1219 i M3) : LB p l e s m below meth c b G 1183 i M := by
  intro H locs ls hP hD hS hl
  obtain ⟨hx, hb, hr, hml, hown, hts, hX, hbl, hlocks, hgv⟩ := C.1
  have hbA : ¬ LA s b := Nat.not_le.mpr hbl
  refine lv_aload_n hx hb dL_law_1183 rfl (lv_at hl 1 rfl) ?_
  refine lv_aload_n hx hb dL_law_1184 rfl (lv_at hl 0 rfl) ?_
  refine lv_iload_n hx hb dL_law_1185 rfl (lv_at hl 3 rfl) ?_
  refine lv_iconst (v := 1) hx hb dL_law_1186 (by decide) ?_
  refine lv_iadd hx hb dL_law_1187 ?_
  rw [show nI i + (1 : Int32) = nI (i + 1) from by rw [li_1, nI_add]]
  refine va_sld hx hb hX hbl hbA hS (sc_in hL (by decide) hi) dL_law_1188 ?_
  refine law_call C 0 [.int (xs (nI (i + 1)).toNatClampNeg)] [] rfl dL_law_1189 gW_X7_count rfl hyW_X7_count (by decide) (by decide) TX7 11 rfl (by decide) (Nat.le_of_ble_eq_true rfl) rfl hP hD hS hl.1 (L_count (xs (nI (i + 1)).toNatClampNeg) M hI) (fun r1 M1 H locs h1 hP hD hS => ?_)
  refine lv_aload_n hx hb dL_law_1192 rfl (lv_at hl 2 rfl) ?_
  refine lv_aload_n hx hb dL_law_1193 rfl (lv_at hl 0 rfl) ?_
  refine lv_iload_n hx hb dL_law_1194 rfl (lv_at hl 3 rfl) ?_
  refine lv_iconst (v := 1) hx hb dL_law_1195 (by decide) ?_
  refine lv_iadd hx hb dL_law_1196 ?_
  rw [show nI i + (1 : Int32) = nI (i + 1) from by rw [li_1, nI_add]]
  refine va_sld hx hb hX hbl hbA hS (sc_in hL (by decide) hi) dL_law_1197 ?_
  refine law_call C 49 [.int (xs (nI (i + 1)).toNatClampNeg)] [.int r1] rfl dL_law_1198 gW_X8_count rfl hyW_X8_count (by decide) (by decide) TX8 23 rfl (by decide) (Nat.le_of_ble_eq_true rfl) rfl hP hD hS hl.1 h1 (fun r2 M2 H locs h2 hP hD hS => ?_)
  exact lv_icmp_eq (tgt := 1219) hx hb dL_law_1201 (by decide) (fun _ => kk M2 h2.2 H locs ls hP hD hS hl) (fun c9 => absurd h2.1 c9)
theorem hyW_X7_status : yX7_status.cls = RX7 ∧ yX7_status.cls ≠ "java/lang/invoke/MethodHandle" ∧ yX7_status.cls ≠ "java/lang/invoke/VarHandle" ∧ (parseMethodDescriptor yX7_status.desc).map (fun d => d.parameters.length) = some 0 := by decide +kernel
theorem hyW_X8_status : yX8_status.cls = RX8 ∧ yX8_status.cls ≠ "java/lang/invoke/MethodHandle" ∧ yX8_status.cls ≠ "java/lang/invoke/VarHandle" ∧ (parseMethodDescriptor yX8_status.desc).map (fun d => d.parameters.length) = some 0 := by decide +kernel
set_option maxHeartbeats 4000000 in
set_option maxRecDepth 100000 in
theorem law_32 {p : Program} {l : Launch} {e : Env} {s : State} {m : MethodId} {below : List Frame} {meth : Method} {c : Code} {b L : Nat} {xs : Nat → Int32} {G : Gg} (hL : L ≤ 3072) (C : LC p s m meth c b L xs G) {i : Nat} (hi : i + 6 ≤ L) {M : Mm} (hI : Inv M) (kk : ∀ M3, Inv M3 → LB p l e s m below meth c b G 1219 i M3) : LB p l e s m below meth c b G 1206 i M := by
  intro H locs ls hP hD hS hl
  obtain ⟨hx, hb, hr, hml, hown, hts, hX, hbl, hlocks, hgv⟩ := C.1
  have hbA : ¬ LA s b := Nat.not_le.mpr hbl
  refine lv_aload_n hx hb dL_law_1206 rfl (lv_at hl 1 rfl) ?_
  refine law_call C 0 [] [] rfl dL_law_1207 gW_X7_status rfl hyW_X7_status (by decide) (by decide) TX7 11 rfl (by decide) (Nat.le_of_ble_eq_true rfl) rfl hP hD hS hl.1 (L_status  M hI) (fun r1 M1 H locs h1 hP hD hS => ?_)
  refine lv_aload_n hx hb dL_law_1210 rfl (lv_at hl 2 rfl) ?_
  refine law_call C 49 [] [.int r1] rfl dL_law_1211 gW_X8_status rfl hyW_X8_status (by decide) (by decide) TX8 23 rfl (by decide) (Nat.le_of_ble_eq_true rfl) rfl hP hD hS hl.1 h1 (fun r2 M2 H locs h2 hP hD hS => ?_)
  exact lv_icmp_eq (tgt := 1219) hx hb dL_law_1214 (by decide) (fun _ => kk M2 h2.2 H locs ls hP hD hS hl) (fun c9 => absurd h2.1 c9)
