/-! THE START: memory behind the constructors -/
def shl0 : Nat → Int32 := fun j => if j = 1 then -1 else 0
def M0 : Mm := fun k => if k = 52 then (upd (upd (upd (upd (upd (upd (upd (upd (fun _ => 0) 0 (-1)) 1 (-1)) 2 (-1)) 3 (-1)) 4 (-1)) 5 (-1)) 6 (-1)) 7 (-1)) else if (2 ≤ k ∧ k ≤ 17) ∧ k % 2 = 0 then shl0 else fun _ => 0
theorem Inv_M0 : Inv M0 := by
  refine ⟨fun j hj => Or.inl ?_, ⟨⟨0, by omega, by decide, by decide, fun i hi => by omega⟩, by decide, by decide⟩, ⟨0, fun _ => 0, fun _ => 0, 0, 0, ⟨by decide, by decide, by decide, fun i hi => by omega, fun i hi => by omega⟩, ⟨by decide, by decide, by decide, fun i hi => by omega, fun i hi => by omega⟩, Or.inl ⟨rfl, rfl, rfl⟩, ⟨0, fun _ => (fun _ => 0, 0, 0), ⟨0, by omega, by decide, by decide, fun a ha => by omega⟩, ⟨by decide, fun a ha => by omega⟩, ⟨by omega, fun h => by omega, fun a ha => by omega⟩⟩⟩, ⟨⟨0, fun _ => 0, fun _ => 0, 0, 0, ⟨by decide, by decide, by decide, fun i hi => by omega, fun i hi => by omega⟩, ⟨by decide, by decide, by decide, fun i hi => by omega, fun i hi => by omega⟩, Or.inl ⟨rfl, rfl, rfl⟩⟩, ⟨0, fun _ => 0, fun _ => 0, 0, 0, ⟨by decide, by decide, by decide, fun i hi => by omega, fun i hi => by omega⟩, ⟨by decide, by decide, by decide, fun i hi => by omega, fun i hi => by omega⟩, Or.inl ⟨rfl, rfl, rfl⟩⟩⟩, by show M0 0 10 = M0 49 5; decide, ⟨0, by omega, by decide, by decide, fun i hi => by omega⟩⟩
  rcases (show j = 0 ∨ j = 1 ∨ j = 2 ∨ j = 3 ∨ j = 4 ∨ j = 5 ∨ j = 6 ∨ j = 7 by omega) with rfl | rfl | rfl | rfl | rfl | rfl | rfl | rfl <;> exact ⟨by decide, by decide⟩
theorem fS1 (G : Gg) : (fun j => (ob_r 1 j).map G.2.2) = va_up (va_up (va_up (va_up (va_up (va_up (va_up (va_up (fun _ => none) 0 (some (G.2.2 2))) 1 (some (G.2.2 4))) 2 (some (G.2.2 6))) 3 (some (G.2.2 8))) 4 (some (G.2.2 10))) 5 (some (G.2.2 12))) 6 (some (G.2.2 14))) 7 (some (G.2.2 16)) := by
  funext j
  rcases (show j = 0 ∨ j = 1 ∨ j = 2 ∨ j = 3 ∨ j = 4 ∨ j = 5 ∨ j = 6 ∨ j = 7 ∨ 8 ≤ j by omega) with rfl | rfl | rfl | rfl | rfl | rfl | rfl | rfl | h
  all_goals first | rfl | skip
  rw [va_up_ne _ _ (by omega), va_up_ne _ _ (by omega), va_up_ne _ _ (by omega), va_up_ne _ _ (by omega), va_up_ne _ _ (by omega), va_up_ne _ _ (by omega), va_up_ne _ _ (by omega), va_up_ne _ _ (by omega)]
  have : ¬ j < 8 := by omega
  simp [ob_r, this]
theorem fS2 (G : Gg) : (fun j => (ob_r 29 j).map G.2.2) = va_up (va_up (fun _ => none) 0 (some (G.2.2 30))) 1 (some (G.2.2 33)) := by
  funext j
  rcases (show j = 0 ∨ j = 1 ∨ 2 ≤ j by omega) with rfl | rfl | h
  all_goals first | rfl | skip
  rw [va_up_ne _ _ (by omega), va_up_ne _ _ (by omega)]
  have : ¬ j < 2 := by omega
  simp [ob_r, this]
theorem oe_0 (G : Gg) : ob_e G 0 (M0 0) = .inr (7, [.ref (G.2.2 1), .ref (G.2.2 18), .ref (G.2.2 23), .ref (G.2.2 26), .ref (G.2.2 29), .ref (G.2.2 36), .ref (G.2.2 40), .ref (G.2.2 43), .ref (G.2.2 46), .ref (G.2.2 48), .int 0]) := rfl
theorem oe_1 (G : Gg) : ob_e G 1 (M0 1) = .inl (G.2.1 2, 8, .inr (.inr (.inr (.inr (va_up (va_up (va_up (va_up (va_up (va_up (va_up (va_up (fun _ => none) 0 (some (G.2.2 2))) 1 (some (G.2.2 4))) 2 (some (G.2.2 6))) 3 (some (G.2.2 8))) 4 (some (G.2.2 10))) 5 (some (G.2.2 12))) 6 (some (G.2.2 14))) 7 (some (G.2.2 16))))))) := by
  rw [← fS1 G]
  rfl
theorem oe_2 (G : Gg) : ob_e G 2 (M0 2) = .inr (5, [.ref (G.2.2 3), .int (-1), .int 0]) := rfl
theorem oe_3 (G : Gg) : ob_e G 3 (M0 3) = .inl (G.2.1 0, 40, .inl (fun _ => 0)) := rfl
theorem oe_4 (G : Gg) : ob_e G 4 (M0 4) = .inr (5, [.ref (G.2.2 5), .int (-1), .int 0]) := rfl
theorem oe_5 (G : Gg) : ob_e G 5 (M0 5) = .inl (G.2.1 0, 40, .inl (fun _ => 0)) := rfl
theorem oe_6 (G : Gg) : ob_e G 6 (M0 6) = .inr (5, [.ref (G.2.2 7), .int (-1), .int 0]) := rfl
theorem oe_7 (G : Gg) : ob_e G 7 (M0 7) = .inl (G.2.1 0, 40, .inl (fun _ => 0)) := rfl
theorem oe_8 (G : Gg) : ob_e G 8 (M0 8) = .inr (5, [.ref (G.2.2 9), .int (-1), .int 0]) := rfl
theorem oe_9 (G : Gg) : ob_e G 9 (M0 9) = .inl (G.2.1 0, 40, .inl (fun _ => 0)) := rfl
theorem oe_10 (G : Gg) : ob_e G 10 (M0 10) = .inr (5, [.ref (G.2.2 11), .int (-1), .int 0]) := rfl
theorem oe_11 (G : Gg) : ob_e G 11 (M0 11) = .inl (G.2.1 0, 40, .inl (fun _ => 0)) := rfl
theorem oe_12 (G : Gg) : ob_e G 12 (M0 12) = .inr (5, [.ref (G.2.2 13), .int (-1), .int 0]) := rfl
theorem oe_13 (G : Gg) : ob_e G 13 (M0 13) = .inl (G.2.1 0, 40, .inl (fun _ => 0)) := rfl
theorem oe_14 (G : Gg) : ob_e G 14 (M0 14) = .inr (5, [.ref (G.2.2 15), .int (-1), .int 0]) := rfl
theorem oe_15 (G : Gg) : ob_e G 15 (M0 15) = .inl (G.2.1 0, 40, .inl (fun _ => 0)) := rfl
theorem oe_16 (G : Gg) : ob_e G 16 (M0 16) = .inr (5, [.ref (G.2.2 17), .int (-1), .int 0]) := rfl
theorem oe_17 (G : Gg) : ob_e G 17 (M0 17) = .inl (G.2.1 0, 40, .inl (fun _ => 0)) := rfl
theorem oe_18 (G : Gg) : ob_e G 18 (M0 18) = .inr (6, [.ref (G.2.2 19), .ref (G.2.2 20), .int 0, .int 0, .int 0]) := rfl
theorem oe_19 (G : Gg) : ob_e G 19 (M0 19) = .inl (G.2.1 0, 50, .inl (fun _ => 0)) := rfl
theorem oe_20 (G : Gg) : ob_e G 20 (M0 20) = .inr (4, [.ref (G.2.2 21), .ref (G.2.2 22), .int 0, .int 0, .int 0]) := rfl
theorem oe_21 (G : Gg) : ob_e G 21 (M0 21) = .inl (G.2.1 0, 7, .inl (fun _ => 0)) := rfl
theorem oe_22 (G : Gg) : ob_e G 22 (M0 22) = .inl (G.2.1 0, 7, .inl (fun _ => 0)) := rfl
theorem oe_23 (G : Gg) : ob_e G 23 (M0 23) = .inr (4, [.ref (G.2.2 24), .ref (G.2.2 25), .int 0, .int 0, .int 0]) := rfl
theorem oe_24 (G : Gg) : ob_e G 24 (M0 24) = .inl (G.2.1 0, 7, .inl (fun _ => 0)) := rfl
theorem oe_25 (G : Gg) : ob_e G 25 (M0 25) = .inl (G.2.1 0, 7, .inl (fun _ => 0)) := rfl
theorem oe_26 (G : Gg) : ob_e G 26 (M0 26) = .inr (4, [.ref (G.2.2 27), .ref (G.2.2 28), .int 0, .int 0, .int 0]) := rfl
theorem oe_27 (G : Gg) : ob_e G 27 (M0 27) = .inl (G.2.1 0, 7, .inl (fun _ => 0)) := rfl
theorem oe_28 (G : Gg) : ob_e G 28 (M0 28) = .inl (G.2.1 0, 7, .inl (fun _ => 0)) := rfl
theorem oe_29 (G : Gg) : ob_e G 29 (M0 29) = .inl (G.2.1 1, 2, .inr (.inr (.inr (.inr (va_up (va_up (fun _ => none) 0 (some (G.2.2 30))) 1 (some (G.2.2 33))))))) := by
  rw [← fS2 G]
  rfl
theorem oe_30 (G : Gg) : ob_e G 30 (M0 30) = .inr (4, [.ref (G.2.2 31), .ref (G.2.2 32), .int 0, .int 0, .int 0]) := rfl
theorem oe_31 (G : Gg) : ob_e G 31 (M0 31) = .inl (G.2.1 0, 7, .inl (fun _ => 0)) := rfl
theorem oe_32 (G : Gg) : ob_e G 32 (M0 32) = .inl (G.2.1 0, 7, .inl (fun _ => 0)) := rfl
theorem oe_33 (G : Gg) : ob_e G 33 (M0 33) = .inr (4, [.ref (G.2.2 34), .ref (G.2.2 35), .int 0, .int 0, .int 0]) := rfl
theorem oe_34 (G : Gg) : ob_e G 34 (M0 34) = .inl (G.2.1 0, 7, .inl (fun _ => 0)) := rfl
theorem oe_35 (G : Gg) : ob_e G 35 (M0 35) = .inl (G.2.1 0, 7, .inl (fun _ => 0)) := rfl
theorem oe_36 (G : Gg) : ob_e G 36 (M0 36) = .inr (0, [.ref (G.2.2 37), .ref (G.2.2 38), .ref (G.2.2 39), .int 0, .int 0]) := rfl
theorem oe_37 (G : Gg) : ob_e G 37 (M0 37) = .inl (G.2.1 0, 24, .inl (fun _ => 0)) := rfl
theorem oe_38 (G : Gg) : ob_e G 38 (M0 38) = .inl (G.2.1 0, 24, .inl (fun _ => 0)) := rfl
theorem oe_39 (G : Gg) : ob_e G 39 (M0 39) = .inl (G.2.1 0, 24, .inl (fun _ => 0)) := rfl
theorem oe_40 (G : Gg) : ob_e G 40 (M0 40) = .inr (2, [.ref (G.2.2 41), .ref (G.2.2 42)]) := rfl
theorem oe_41 (G : Gg) : ob_e G 41 (M0 41) = .inl (G.2.1 0, 7, .inl (fun _ => 0)) := rfl
theorem oe_42 (G : Gg) : ob_e G 42 (M0 42) = .inl (G.2.1 0, 7, .inl (fun _ => 0)) := rfl
theorem oe_43 (G : Gg) : ob_e G 43 (M0 43) = .inr (3, [.ref (G.2.2 44), .ref (G.2.2 45), .int 0]) := rfl
theorem oe_44 (G : Gg) : ob_e G 44 (M0 44) = .inl (G.2.1 0, 7, .inl (fun _ => 0)) := rfl
theorem oe_45 (G : Gg) : ob_e G 45 (M0 45) = .inl (G.2.1 0, 10, .inl (fun _ => 0)) := rfl
theorem oe_46 (G : Gg) : ob_e G 46 (M0 46) = .inr (1, [.ref (G.2.2 47), .int 0]) := rfl
theorem oe_47 (G : Gg) : ob_e G 47 (M0 47) = .inl (G.2.1 0, 16, .inl (fun _ => 0)) := rfl
theorem oe_48 (G : Gg) : ob_e G 48 (M0 48) = .inl (G.2.1 0, 2, .inl (fun _ => 0)) := rfl
theorem oe_49 (G : Gg) : ob_e G 49 (M0 49) = .inr (8, [.ref (G.2.2 50), .int 0, .ref (G.2.2 51), .int 0, .int 0, .int 0, .ref (G.2.2 52), .ref (G.2.2 53), .ref (G.2.2 54), .ref (G.2.2 55), .int 0, .int 0, .int 0, .ref (G.2.2 56), .ref (G.2.2 57), .ref (G.2.2 58), .ref (G.2.2 59), .ref (G.2.2 60), .ref (G.2.2 61), .ref (G.2.2 62), .ref (G.2.2 63), .ref (G.2.2 64), .int 0]) := rfl
theorem oe_50 (G : Gg) : ob_e G 50 (M0 50) = .inl (G.2.1 0, 301, .inl (fun _ => 0)) := rfl
theorem oe_51 (G : Gg) : ob_e G 51 (M0 51) = .inl (G.2.1 0, 50, .inl (fun _ => 0)) := rfl
theorem oe_52 (G : Gg) : ob_e G 52 (M0 52) = .inl (G.2.1 0, 8, .inl (upd (upd (upd (upd (upd (upd (upd (upd (fun _ => 0) 0 (-1)) 1 (-1)) 2 (-1)) 3 (-1)) 4 (-1)) 5 (-1)) 6 (-1)) 7 (-1))) := rfl
theorem oe_53 (G : Gg) : ob_e G 53 (M0 53) = .inl (G.2.1 0, 8, .inl (fun _ => 0)) := rfl
theorem oe_54 (G : Gg) : ob_e G 54 (M0 54) = .inl (G.2.1 0, 320, .inl (fun _ => 0)) := rfl
theorem oe_55 (G : Gg) : ob_e G 55 (M0 55) = .inl (G.2.1 0, 40, .inl (fun _ => 0)) := rfl
theorem oe_56 (G : Gg) : ob_e G 56 (M0 56) = .inl (G.2.1 0, 10, .inl (fun _ => 0)) := rfl
theorem oe_57 (G : Gg) : ob_e G 57 (M0 57) = .inl (G.2.1 0, 7, .inl (fun _ => 0)) := rfl
theorem oe_58 (G : Gg) : ob_e G 58 (M0 58) = .inl (G.2.1 0, 7, .inl (fun _ => 0)) := rfl
theorem oe_59 (G : Gg) : ob_e G 59 (M0 59) = .inl (G.2.1 0, 7, .inl (fun _ => 0)) := rfl
theorem oe_60 (G : Gg) : ob_e G 60 (M0 60) = .inl (G.2.1 0, 7, .inl (fun _ => 0)) := rfl
theorem oe_61 (G : Gg) : ob_e G 61 (M0 61) = .inl (G.2.1 0, 8, .inl (fun _ => 0)) := rfl
theorem oe_62 (G : Gg) : ob_e G 62 (M0 62) = .inl (G.2.1 0, 21, .inl (fun _ => 0)) := rfl
theorem oe_63 (G : Gg) : ob_e G 63 (M0 63) = .inl (G.2.1 0, 7, .inl (fun _ => 0)) := rfl
theorem oe_64 (G : Gg) : ob_e G 64 (M0 64) = .inl (G.2.1 0, 16, .inl (fun _ => 0)) := rfl
set_option maxRecDepth 20000 in
theorem wl_M0 (G : Gg) : wl G M0 = [(G.2.2 0, .inr (7, [.ref (G.2.2 1), .ref (G.2.2 18), .ref (G.2.2 23), .ref (G.2.2 26), .ref (G.2.2 29), .ref (G.2.2 36), .ref (G.2.2 40), .ref (G.2.2 43), .ref (G.2.2 46), .ref (G.2.2 48), .int 0])), (G.2.2 1, .inl (G.2.1 2, 8, .inr (.inr (.inr (.inr (va_up (va_up (va_up (va_up (va_up (va_up (va_up (va_up (fun _ => none) 0 (some (G.2.2 2))) 1 (some (G.2.2 4))) 2 (some (G.2.2 6))) 3 (some (G.2.2 8))) 4 (some (G.2.2 10))) 5 (some (G.2.2 12))) 6 (some (G.2.2 14))) 7 (some (G.2.2 16)))))))), (G.2.2 2, .inr (5, [.ref (G.2.2 3), .int (-1), .int 0])), (G.2.2 3, .inl (G.2.1 0, 40, .inl (fun _ => 0))), (G.2.2 4, .inr (5, [.ref (G.2.2 5), .int (-1), .int 0])), (G.2.2 5, .inl (G.2.1 0, 40, .inl (fun _ => 0))), (G.2.2 6, .inr (5, [.ref (G.2.2 7), .int (-1), .int 0])), (G.2.2 7, .inl (G.2.1 0, 40, .inl (fun _ => 0))), (G.2.2 8, .inr (5, [.ref (G.2.2 9), .int (-1), .int 0])), (G.2.2 9, .inl (G.2.1 0, 40, .inl (fun _ => 0))), (G.2.2 10, .inr (5, [.ref (G.2.2 11), .int (-1), .int 0])), (G.2.2 11, .inl (G.2.1 0, 40, .inl (fun _ => 0))), (G.2.2 12, .inr (5, [.ref (G.2.2 13), .int (-1), .int 0])), (G.2.2 13, .inl (G.2.1 0, 40, .inl (fun _ => 0))), (G.2.2 14, .inr (5, [.ref (G.2.2 15), .int (-1), .int 0])), (G.2.2 15, .inl (G.2.1 0, 40, .inl (fun _ => 0))), (G.2.2 16, .inr (5, [.ref (G.2.2 17), .int (-1), .int 0])), (G.2.2 17, .inl (G.2.1 0, 40, .inl (fun _ => 0))), (G.2.2 18, .inr (6, [.ref (G.2.2 19), .ref (G.2.2 20), .int 0, .int 0, .int 0])), (G.2.2 19, .inl (G.2.1 0, 50, .inl (fun _ => 0))), (G.2.2 20, .inr (4, [.ref (G.2.2 21), .ref (G.2.2 22), .int 0, .int 0, .int 0])), (G.2.2 21, .inl (G.2.1 0, 7, .inl (fun _ => 0))), (G.2.2 22, .inl (G.2.1 0, 7, .inl (fun _ => 0))), (G.2.2 23, .inr (4, [.ref (G.2.2 24), .ref (G.2.2 25), .int 0, .int 0, .int 0])), (G.2.2 24, .inl (G.2.1 0, 7, .inl (fun _ => 0))), (G.2.2 25, .inl (G.2.1 0, 7, .inl (fun _ => 0))), (G.2.2 26, .inr (4, [.ref (G.2.2 27), .ref (G.2.2 28), .int 0, .int 0, .int 0])), (G.2.2 27, .inl (G.2.1 0, 7, .inl (fun _ => 0))), (G.2.2 28, .inl (G.2.1 0, 7, .inl (fun _ => 0))), (G.2.2 29, .inl (G.2.1 1, 2, .inr (.inr (.inr (.inr (va_up (va_up (fun _ => none) 0 (some (G.2.2 30))) 1 (some (G.2.2 33)))))))), (G.2.2 30, .inr (4, [.ref (G.2.2 31), .ref (G.2.2 32), .int 0, .int 0, .int 0])), (G.2.2 31, .inl (G.2.1 0, 7, .inl (fun _ => 0))), (G.2.2 32, .inl (G.2.1 0, 7, .inl (fun _ => 0))), (G.2.2 33, .inr (4, [.ref (G.2.2 34), .ref (G.2.2 35), .int 0, .int 0, .int 0])), (G.2.2 34, .inl (G.2.1 0, 7, .inl (fun _ => 0))), (G.2.2 35, .inl (G.2.1 0, 7, .inl (fun _ => 0))), (G.2.2 36, .inr (0, [.ref (G.2.2 37), .ref (G.2.2 38), .ref (G.2.2 39), .int 0, .int 0])), (G.2.2 37, .inl (G.2.1 0, 24, .inl (fun _ => 0))), (G.2.2 38, .inl (G.2.1 0, 24, .inl (fun _ => 0))), (G.2.2 39, .inl (G.2.1 0, 24, .inl (fun _ => 0))), (G.2.2 40, .inr (2, [.ref (G.2.2 41), .ref (G.2.2 42)])), (G.2.2 41, .inl (G.2.1 0, 7, .inl (fun _ => 0))), (G.2.2 42, .inl (G.2.1 0, 7, .inl (fun _ => 0))), (G.2.2 43, .inr (3, [.ref (G.2.2 44), .ref (G.2.2 45), .int 0])), (G.2.2 44, .inl (G.2.1 0, 7, .inl (fun _ => 0))), (G.2.2 45, .inl (G.2.1 0, 10, .inl (fun _ => 0))), (G.2.2 46, .inr (1, [.ref (G.2.2 47), .int 0])), (G.2.2 47, .inl (G.2.1 0, 16, .inl (fun _ => 0))), (G.2.2 48, .inl (G.2.1 0, 2, .inl (fun _ => 0))), (G.2.2 49, .inr (8, [.ref (G.2.2 50), .int 0, .ref (G.2.2 51), .int 0, .int 0, .int 0, .ref (G.2.2 52), .ref (G.2.2 53), .ref (G.2.2 54), .ref (G.2.2 55), .int 0, .int 0, .int 0, .ref (G.2.2 56), .ref (G.2.2 57), .ref (G.2.2 58), .ref (G.2.2 59), .ref (G.2.2 60), .ref (G.2.2 61), .ref (G.2.2 62), .ref (G.2.2 63), .ref (G.2.2 64), .int 0])), (G.2.2 50, .inl (G.2.1 0, 301, .inl (fun _ => 0))), (G.2.2 51, .inl (G.2.1 0, 50, .inl (fun _ => 0))), (G.2.2 52, .inl (G.2.1 0, 8, .inl (upd (upd (upd (upd (upd (upd (upd (upd (fun _ => 0) 0 (-1)) 1 (-1)) 2 (-1)) 3 (-1)) 4 (-1)) 5 (-1)) 6 (-1)) 7 (-1)))), (G.2.2 53, .inl (G.2.1 0, 8, .inl (fun _ => 0))), (G.2.2 54, .inl (G.2.1 0, 320, .inl (fun _ => 0))), (G.2.2 55, .inl (G.2.1 0, 40, .inl (fun _ => 0))), (G.2.2 56, .inl (G.2.1 0, 10, .inl (fun _ => 0))), (G.2.2 57, .inl (G.2.1 0, 7, .inl (fun _ => 0))), (G.2.2 58, .inl (G.2.1 0, 7, .inl (fun _ => 0))), (G.2.2 59, .inl (G.2.1 0, 7, .inl (fun _ => 0))), (G.2.2 60, .inl (G.2.1 0, 7, .inl (fun _ => 0))), (G.2.2 61, .inl (G.2.1 0, 8, .inl (fun _ => 0))), (G.2.2 62, .inl (G.2.1 0, 21, .inl (fun _ => 0))), (G.2.2 63, .inl (G.2.1 0, 7, .inl (fun _ => 0))), (G.2.2 64, .inl (G.2.1 0, 16, .inl (fun _ => 0)))] := by
  show (List.range 65).map (fun k => (G.2.2 k, ob_e G k (M0 k))) = _
  rw [show List.range 65 = [0, 1, 2, 3, 4, 5, 6, 7, 8, 9, 10, 11, 12, 13, 14, 15, 16, 17, 18, 19, 20, 21, 22, 23, 24, 25, 26, 27, 28, 29, 30, 31, 32, 33, 34, 35, 36, 37, 38, 39, 40, 41, 42, 43, 44, 45, 46, 47, 48, 49, 50, 51, 52, 53, 54, 55, 56, 57, 58, 59, 60, 61, 62, 63, 64] from by decide]
  simp only [List.map_cons, List.map_nil, oe_0, oe_1, oe_2, oe_3, oe_4, oe_5, oe_6, oe_7, oe_8, oe_9, oe_10, oe_11, oe_12, oe_13, oe_14, oe_15, oe_16, oe_17, oe_18, oe_19, oe_20, oe_21, oe_22, oe_23, oe_24, oe_25, oe_26, oe_27, oe_28, oe_29, oe_30, oe_31, oe_32, oe_33, oe_34, oe_35, oe_36, oe_37, oe_38, oe_39, oe_40, oe_41, oe_42, oe_43, oe_44, oe_45, oe_46, oe_47, oe_48, oe_49, oe_50, oe_51, oe_52, oe_53, oe_54, oe_55, oe_56, oe_57, oe_58, oe_59, oe_60, oe_61, oe_62, oe_63, oe_64]
/-- the classes at the law's entry -/
theorem law_K {s : State} {args : Array Value} (hts : ∀ w ∈ lw_tbl, w.before args s = true) : ∃ (D : va_G) (cI : ClassId), va_K D vwCl [(cI, .int)] s := by
  obtain ⟨c0, i0, hk0⟩ := u_known (C := RX0) (T := TX0) (N := 5) (n := 5) hts lin_X0 (hts _ tw_inst0)
  obtain ⟨c1, i1, hk1⟩ := u_known (C := RX1) (T := TX1) (N := 2) (n := 2) hts lin_X1 (hts _ tw_inst1)
  obtain ⟨c2, i2, hk2⟩ := u_known (C := RX2) (T := TX2) (N := 2) (n := 2) hts lin_X2 (hts _ tw_inst2)
  obtain ⟨c3, i3, hk3⟩ := u_known (C := RX3) (T := TX3) (N := 3) (n := 3) hts lin_X3 (hts _ tw_inst3)
  obtain ⟨c4, i4, hk4⟩ := u_known (C := RX4) (T := TX4) (N := 5) (n := 5) hts lin_X4 (hts _ tw_inst4)
  obtain ⟨c5, i5, hk5⟩ := u_known (C := RX5) (T := TX5) (N := 3) (n := 3) hts lin_X5 (hts _ tw_inst5)
  obtain ⟨c6, i6, hk6⟩ := u_known (C := RX6) (T := TX6) (N := 5) (n := 5) hts lin_X6 (hts _ tw_inst6)
  obtain ⟨c7, i7, hk7⟩ := u_known (C := RX7) (T := TX7) (N := 11) (n := 11) hts lin_X7 (hts _ tw_inst7)
  obtain ⟨c8, i8, hk8⟩ := u_known (C := RX8) (T := TX8) (N := 23) (n := 23) hts lin_X8 (hts _ tw_inst8)
  obtain ⟨cA, kA, comp, hf, hk, hkind⟩ := Cond.arrayClass_spec (hts _ tw_arrI)
  refine ⟨(fun k => [c0, c1, c2, c3, c4, c5, c6, c7, c8].getD k c0, fun k => [i0, i1, i2, i3, i4, i5, i6, i7, i8].getD k i0), cA, fun k q hq => ?_, fun k q hq => ?_⟩
  · match k, hq with
    | 0, hq => cases hq; exact hk0
    | 1, hq => cases hq; exact hk1
    | 2, hq => cases hq; exact hk2
    | 3, hq => cases hq; exact hk3
    | 4, hq => cases hq; exact hk4
    | 5, hq => cases hq; exact hk5
    | 6, hq => cases hq; exact hk6
    | 7, hq => cases hq; exact hk7
    | 8, hq => cases hq; exact hk8
    | k + 9, hq => simp [vwCl] at hq
  · match k, hq with
    | 0, hq => cases hq; exact ⟨fun n z => ⟨fun k h => (by cases h), kA, hk, comp, hkind⟩, hf⟩
    | k + 1, hq => simp at hq
theorem law_N {s : State} {args : Array Value} (hts : ∀ w ∈ lw_tbl, w.before args s = true) : NwB s := ⟨va_Nw.of rfl (hts _ tw_nest6_17), va_Nw.of rfl (hts _ tw_nest7_17), va_Nw.of rfl (hts _ tw_nest7_24), va_Nw.of rfl (hts _ tw_nest7_38), va_Nw.of rfl (hts _ tw_nest7_45), va_Nw.of rfl (hts _ tw_nest7_52), va_Nw.of rfl (hts _ tw_nest7_59), va_Nw.of rfl (hts _ tw_nest7_68), va_AO.of (hts _ tw_ao5), va_AO.of (hts _ tw_ao4)⟩
/-- what stands outside -/
theorem law_X {s : State} {args : Array Value} (hts : ∀ w ∈ lw_tbl, w.before args s = true) (hgv : (Jvm.Cond.and given_1 narrow_1).before args s = true) : ∃ z : Nat → Nat, ∀ G : Gg, (∀ i, i < 6 → G.2.2 (1000 + i) = z i) → Sx G (fun q => s.heap.size ≤ q) s s.heap := by
  have hs := flat_of_before _ hgv
  have hA : ∀ a : Nat, a < s.heap.size → ¬ (fun q : Nat => s.heap.size ≤ q) a := fun a h => Nat.not_le.mpr h
  obtain ⟨t0, e0, T0⟩ := va_Tof (tm := .static "NicheSaints" "WIDER" "[I") (ty := .int) (N := 6) (f := fun j => .int ((stL 0).getD j 0)) (A := fun q : Nat => s.heap.size ≤ q) (by decide) (hs (.arrayOf (.static "NicheSaints" "WIDER" "[I") .int) (by decide +kernel)) (va_eqt (hs (.eq (.length (.static "NicheSaints" "WIDER" "[I")) (.int (Int32.ofNat 6))) (by decide +kernel))) (fun j hj => by
    rcases (show j = 0 ∨ j = 1 ∨ j = 2 ∨ j = 3 ∨ j = 4 ∨ j = 5 by omega) with rfl | rfl | rfl | rfl | rfl | rfl
    all_goals exact va_eqt (hs _ (by decide +kernel))) hA
  have Z0 : va_Z "NicheSaints" "WIDER" "[I" (.ref t0) (fun q : Nat => s.heap.size ≤ q) s s.heap := va_Zref (hts _ tw_ls0) (hts _ tw_iniN) e0 hA
  obtain ⟨t1, e1, T1⟩ := va_Tof (tm := .static "NicheSaints" "SIZE_BODY" "[I") (ty := .int) (N := 6) (f := fun j => .int ((stL 1).getD j 0)) (A := fun q : Nat => s.heap.size ≤ q) (by decide) (hs (.arrayOf (.static "NicheSaints" "SIZE_BODY" "[I") .int) (by decide +kernel)) (va_eqt (hs (.eq (.length (.static "NicheSaints" "SIZE_BODY" "[I")) (.int (Int32.ofNat 6))) (by decide +kernel))) (fun j hj => by
    rcases (show j = 0 ∨ j = 1 ∨ j = 2 ∨ j = 3 ∨ j = 4 ∨ j = 5 by omega) with rfl | rfl | rfl | rfl | rfl | rfl
    all_goals exact va_eqt (hs _ (by decide +kernel))) hA
  have Z1 : va_Z "NicheSaints" "SIZE_BODY" "[I" (.ref t1) (fun q : Nat => s.heap.size ≤ q) s s.heap := va_Zref (hts _ tw_ls1) (hts _ tw_iniN) e1 hA
  obtain ⟨t2, e2, T2⟩ := va_Tof (tm := .static "NicheSaints" "MARK_BODY" "[I") (ty := .int) (N := 6) (f := fun j => .int ((stL 2).getD j 0)) (A := fun q : Nat => s.heap.size ≤ q) (by decide) (hs (.arrayOf (.static "NicheSaints" "MARK_BODY" "[I") .int) (by decide +kernel)) (va_eqt (hs (.eq (.length (.static "NicheSaints" "MARK_BODY" "[I")) (.int (Int32.ofNat 6))) (by decide +kernel))) (fun j hj => by
    rcases (show j = 0 ∨ j = 1 ∨ j = 2 ∨ j = 3 ∨ j = 4 ∨ j = 5 by omega) with rfl | rfl | rfl | rfl | rfl | rfl
    all_goals exact va_eqt (hs _ (by decide +kernel))) hA
  have Z2 : va_Z "NicheSaints" "MARK_BODY" "[I" (.ref t2) (fun q : Nat => s.heap.size ≤ q) s s.heap := va_Zref (hts _ tw_ls2) (hts _ tw_iniN) e2 hA
  obtain ⟨adK, adV, hS, hR⟩ := vk_Sof (N := 1) (tm := fun _ => .string "NicheSaints$Tape" 76) (len := [5]) (byt := [[103, 115, 112, 104, 111]]) (A := fun q : Nat => s.heap.size ≤ q) (fun i hi => by rcases (show i = 0 by omega) with rfl; decide) (fun i hi => hs (.exactly (.string "NicheSaints$Tape" 76) "java/lang/String") (by decide +kernel)) (fun i hi => hs (.eq (.field (.string "NicheSaints$Tape" 76) "java/lang/String" "coder" "B") (.int 0)) (by decide +kernel)) (fun i hi => hs (.arrayOf (.field (.string "NicheSaints$Tape" 76) "java/lang/String" "value" "[B") .byte) (by decide +kernel)) (fun i hi => by rcases (show i = 0 by omega) with rfl; exact hs _ (by decide +kernel)) (fun i hi j hj => by
    rcases (show i = 0 by omega) with rfl
    rcases (show j = 0 ∨ j = 1 ∨ j = 2 ∨ j = 3 ∨ j = 4 from by have : j < 5 := hj; omega) with rfl | rfl | rfl | rfl | rfl
    all_goals exact hs _ (by decide +kernel)) (fun i j hi hj h => by omega) hA
  refine ⟨fun i => [t0, t1, t2, 0, adK 0, adV 0].getD i 0, fun G hG => ⟨fun i hi => ?_, va_Zof (hts _ tw_ls4) (hts _ tw_iniS) (va_eqi (hs (.eq (.static "java/lang/String" "COMPACT_STRINGS" "Z") (.int 1)) (by decide +kernel))) hA, ?_, ?_, va_Nw.of rfl (hts _ tw_fn1), va_Nw.of rfl (hts _ tw_fn2)⟩⟩
  · rw [hG i (by omega)]
    rcases (show i = 0 ∨ i = 1 ∨ i = 2 by omega) with rfl | rfl | rfl
    · exact ⟨Z0, T0⟩
    · exact ⟨Z1, T1⟩
    · exact ⟨Z2, T2⟩
  · have e : G.2.2 1004 = adK 0 := hG 4 (by omega)
    rw [e]
    exact vk_R.of (hts _ tw_str) (hR 0 (by omega))
  · have e : G.2.2 1004 = adK 0 := hG 4 (by omega)
    have e5 : G.2.2 1005 = adV 0 := hG 5 (by omega)
    rw [e, e5]
    exact ⟨fun i hi => by rcases (show i = 0 by omega) with rfl; exact hS.1 0 (by omega), fun i j hi hj _ => by omega⟩
