set_option maxHeartbeats 4000000 in
set_option maxRecDepth 100000 in
theorem lc_torn {p : Program} {l : Launch} {e : Env} {s : State} {m : MethodId} {below : List Frame} {meth : Method} {c : Code} {Q : State → Prop} {D : va_G} {cI cB cZ : ClassId} {adK adV : Nat → Nat} {b L : Nat} {xs : Nat → Int32} (C0 : LX p s m meth c D cI cB cZ adK adV b L xs) {i : Nat} (hi : i + 6 ≤ L) {xa ma : Nat → Nat} {XA : Nat → Nat → Int32} {XI : Nat → Int32} {MA : Nat → Nat → Int32} {MI : Nat → Int32} {H : Heap} {locs : List Loc} {ls : Array Slot} (hI : Inv XA XI MA MI) (hP : va_P D vwCl (wL cI cB cZ xa ma XA XI MA MI) H) (hD : va_D (Age s) (wL cI cB cZ xa ma XA XI MA MI)) (hS : va_S (Age s) s.heap H locs) (hl : lv_has ls 4 [(0, .ref b), (1, .ref (xa 0)), (2, .ref (ma 0)), (3, .int (nI i))]) (K : ∀ (xa ma : Nat → Nat) (XA : Nat → Nat → Int32) (XI : Nat → Int32) (MA : Nat → Nat → Int32) (MI : Nat → Int32) (H : Heap) (locs : List Loc) (ls : Array Slot), Inv XA XI MA MI → va_P D vwCl (wL cI cB cZ xa ma XA XI MA MI) H → va_D (Age s) (wL cI cB cZ xa ma XA XI MA MI) → va_S (Age s) s.heap H locs → lv_has ls 4 [(0, .ref b), (1, .ref (xa 0)), (2, .ref (ma 0)), (3, .int (nI i))] → W p l e room_1 s m #[Value.ref b] below meth c H locs 78 11425 Q (F0 m 1058 ls [])) : W p l e room_1 s m #[Value.ref b] below meth c H locs 78 11425 Q (F0 m 488 ls []) := by
  obtain ⟨⟨hx, hb, hml, hown, hT⟩, ⟨hK, hN⟩, hZ, hX, hbl, hL⟩ := C0
  have hA : ∀ q : Nat, s.heap.size ≤ q → Age s q := fun _ h => h
  have hbA : ¬ Age s b := Nat.not_le.mpr hbl
  obtain ⟨rX, rM, eX_, eM_, hr_, hI2⟩ := pm_torn hI 
  refine lv_aload_n hx hb dL_law_488 rfl (lv_at hl 1 rfl) ?_
  refine rV_RO (As := []) (rest := []) ⟨hx, hb, hml, hown, hT⟩ (gdV tb_898 tb_899 tb_900 tb_85 tb_901) hd_X11_torn (c_X11_torn l D cI cB cZ (xa 0) (xa 4) (xa 5) (xa 24) (xa 1) (xa 3) (xa 9) (xa 14) (xa 19) (xa 20) (xa 21) (xa 22) (xa 28) (xa 34) (xa 42) (xa 6) (xa 7) (xa 8) (xa 25) (xa 26) (xa 27) (XI 0) (XI 7) (XI 8) (XI 9) (XI 10) (XI 11) (XA 1) rX eX_) ⟨rfl, rfl⟩ ⟨Nat.le_of_ble_eq_true rfl, Nat.le_of_ble_eq_true rfl⟩ ⟨hK, hN⟩ hP [0, 4, 5, 24] rfl 0 rfl rfl rfl hl.1 rfl (Nat.le_of_ble_eq_true rfl) ⟨Nat.le_of_ble_eq_true rfl, Nat.le_of_ble_eq_true rfl⟩ dL_law_489 (fun _ => ?_)
  refine lv_aload_n hx hb dL_law_492 rfl (lv_at hl 2 rfl) ?_
  refine rV_RO (As := []) (rest := [.int rX]) ⟨hx, hb, hml, hown, hT⟩ (gdV tb_1541 tb_1504 tb_1505 tb_97 tb_1506) hd_X12_torn (c_X12_torn l D cI cB cZ (ma 0) (ma 1) (ma 2) (ma 3) (ma 4) (ma 5) (ma 6) (ma 7) (ma 8) (ma 9) (ma 10) (ma 11) (ma 12) (ma 13) (ma 14) (ma 15) (ma 16) (ma 17) (ma 18) (ma 19) (ma 20) (ma 21) (ma 22) (ma 23) (ma 24) (ma 25) (ma 26) (ma 27) (MI 0) (MI 1) (MI 2) (MI 3) (MI 4) (MI 5) (MI 6) (MI 7) (MI 8) (MI 9) (MI 10) (MI 11) (MI 12) (MI 13) (MI 14) (MI 15) (MA 0) rM eM_) ⟨rfl, rfl⟩ ⟨Nat.le_of_ble_eq_true rfl, Nat.le_of_ble_eq_true rfl⟩ ⟨hK, hN⟩ hP [50, 51] rfl 50 rfl rfl rfl hl.1 rfl (Nat.le_of_ble_eq_true rfl) ⟨Nat.le_of_ble_eq_true rfl, Nat.le_of_ble_eq_true rfl⟩ dL_law_493 (fun _ => ?_)
  refine lv_icmp_eq (tgt := 1058) hx hb dL_law_496 (by decide) (fun hc => ?_) (fun hc => absurd hr_ hc)
  exact K xa ma _ _ _ _ H locs ls hI2 hP hD hS hl
set_option maxHeartbeats 4000000 in
set_option maxRecDepth 100000 in
theorem lc_together {p : Program} {l : Launch} {e : Env} {s : State} {m : MethodId} {below : List Frame} {meth : Method} {c : Code} {Q : State → Prop} {D : va_G} {cI cB cZ : ClassId} {adK adV : Nat → Nat} {b L : Nat} {xs : Nat → Int32} (C0 : LX p s m meth c D cI cB cZ adK adV b L xs) {i : Nat} (hi : i + 6 ≤ L) {xa ma : Nat → Nat} {XA : Nat → Nat → Int32} {XI : Nat → Int32} {MA : Nat → Nat → Int32} {MI : Nat → Int32} {H : Heap} {locs : List Loc} {ls : Array Slot} (hI : Inv XA XI MA MI) (hP : va_P D vwCl (wL cI cB cZ xa ma XA XI MA MI) H) (hD : va_D (Age s) (wL cI cB cZ xa ma XA XI MA MI)) (hS : va_S (Age s) s.heap H locs) (hl : lv_has ls 4 [(0, .ref b), (1, .ref (xa 0)), (2, .ref (ma 0)), (3, .int (nI i))]) (K : ∀ (xa ma : Nat → Nat) (XA : Nat → Nat → Int32) (XI : Nat → Int32) (MA : Nat → Nat → Int32) (MI : Nat → Int32) (H : Heap) (locs : List Loc) (ls : Array Slot), Inv XA XI MA MI → va_P D vwCl (wL cI cB cZ xa ma XA XI MA MI) H → va_D (Age s) (wL cI cB cZ xa ma XA XI MA MI) → va_S (Age s) s.heap H locs → lv_has ls 4 [(0, .ref b), (1, .ref (xa 0)), (2, .ref (ma 0)), (3, .int (nI i))] → W p l e room_1 s m #[Value.ref b] below meth c H locs 78 11425 Q (F0 m 1058 ls [])) : W p l e room_1 s m #[Value.ref b] below meth c H locs 78 11425 Q (F0 m 501 ls []) := by
  obtain ⟨⟨hx, hb, hml, hown, hT⟩, ⟨hK, hN⟩, hZ, hX, hbl, hL⟩ := C0
  have hA : ∀ q : Nat, s.heap.size ≤ q → Age s q := fun _ h => h
  have hbA : ¬ Age s b := Nat.not_le.mpr hbl
  have h_1 : vp_in (nI i + 1) L := by rw [show nI i + 1 = nI (i + 1) from nI_add i 1]; exact vp_in_nI (by omega) (by omega)
  have h_2 : vp_in (nI i + 2) L := by rw [show nI i + 2 = nI (i + 2) from nI_add i 2]; exact vp_in_nI (by omega) (by omega)
  obtain ⟨rX, rM, eX_, eM_, hr_, hI2⟩ := pm_together hI (xs (nI i + 1).toNatClampNeg) (xs (nI i + 2).toNatClampNeg)
  refine lv_aload_n hx hb dL_law_501 rfl (lv_at hl 1 rfl) ?_
  refine lv_aload_n hx hb dL_law_502 rfl (lv_at hl 0 rfl) ?_
  refine lv_iload_n hx hb dL_law_503 rfl (lv_at hl 3 rfl) ?_
  refine lv_iconst (v := 1) hx hb dL_law_504 (by decide) ?_
  refine lv_iadd hx hb dL_law_505 ?_
  refine va_sld hx hb hX hbl hbA hS h_1 dL_law_506 ?_
  refine lv_aload_n hx hb dL_law_507 rfl (lv_at hl 0 rfl) ?_
  refine lv_iload_n hx hb dL_law_508 rfl (lv_at hl 3 rfl) ?_
  refine lv_iconst (v := 2) hx hb dL_law_509 (by decide) ?_
  refine lv_iadd hx hb dL_law_510 ?_
  refine va_sld hx hb hX hbl hbA hS h_2 dL_law_511 ?_
  refine rV_RO (As := [.int (xs (nI i + 1).toNatClampNeg), .int (xs (nI i + 2).toNatClampNeg)]) (rest := []) ⟨hx, hb, hml, hown, hT⟩ (gdV tb_902 tb_903 tb_904 tb_85 tb_905) hd_X11_together (c_X11_together l D cI cB cZ (xa 0) (xa 4) (xa 5) (xa 24) (xa 1) (xa 3) (xa 9) (xa 14) (xa 19) (xa 20) (xa 21) (xa 22) (xa 28) (xa 34) (xa 42) (xa 6) (xa 7) (xa 8) (xa 25) (xa 26) (xa 27) (XI 0) (XI 7) (XI 8) (XI 9) (XI 10) (XI 11) (XA 1) (xs (nI i + 1).toNatClampNeg) (xs (nI i + 2).toNatClampNeg) rX eX_) ⟨rfl, rfl⟩ ⟨Nat.le_of_ble_eq_true rfl, Nat.le_of_ble_eq_true rfl⟩ ⟨hK, hN⟩ hP [0, 4, 5, 24] rfl 0 rfl rfl rfl hl.1 rfl (Nat.le_of_ble_eq_true rfl) ⟨Nat.le_of_ble_eq_true rfl, Nat.le_of_ble_eq_true rfl⟩ dL_law_512 (fun _ => ?_)
  refine lv_aload_n hx hb dL_law_515 rfl (lv_at hl 2 rfl) ?_
  refine lv_aload_n hx hb dL_law_516 rfl (lv_at hl 0 rfl) ?_
  refine lv_iload_n hx hb dL_law_517 rfl (lv_at hl 3 rfl) ?_
  refine lv_iconst (v := 1) hx hb dL_law_518 (by decide) ?_
  refine lv_iadd hx hb dL_law_519 ?_
  refine va_sld hx hb hX hbl hbA hS h_1 dL_law_520 ?_
  refine lv_aload_n hx hb dL_law_521 rfl (lv_at hl 0 rfl) ?_
  refine lv_iload_n hx hb dL_law_522 rfl (lv_at hl 3 rfl) ?_
  refine lv_iconst (v := 2) hx hb dL_law_523 (by decide) ?_
  refine lv_iadd hx hb dL_law_524 ?_
  refine va_sld hx hb hX hbl hbA hS h_2 dL_law_525 ?_
  refine rV_RO (As := [.int (xs (nI i + 1).toNatClampNeg), .int (xs (nI i + 2).toNatClampNeg)]) (rest := [.int rX]) ⟨hx, hb, hml, hown, hT⟩ (gdV tb_1542 tb_1543 tb_1544 tb_97 tb_1545) hd_X12_together (c_X12_together l D cI cB cZ (ma 0) (ma 1) (ma 2) (ma 3) (ma 4) (ma 5) (ma 6) (ma 7) (ma 8) (ma 9) (ma 10) (ma 11) (ma 12) (ma 13) (ma 14) (ma 15) (ma 16) (ma 17) (ma 18) (ma 19) (ma 20) (ma 21) (ma 22) (ma 23) (ma 24) (ma 25) (ma 26) (ma 27) (MI 0) (MI 1) (MI 2) (MI 3) (MI 4) (MI 5) (MI 6) (MI 7) (MI 8) (MI 9) (MI 10) (MI 11) (MI 12) (MI 13) (MI 14) (MI 15) (MA 0) (xs (nI i + 1).toNatClampNeg) (xs (nI i + 2).toNatClampNeg) rM eM_) ⟨rfl, rfl⟩ ⟨Nat.le_of_ble_eq_true rfl, Nat.le_of_ble_eq_true rfl⟩ ⟨hK, hN⟩ hP [50, 51] rfl 50 rfl rfl rfl hl.1 rfl (Nat.le_of_ble_eq_true rfl) ⟨Nat.le_of_ble_eq_true rfl, Nat.le_of_ble_eq_true rfl⟩ dL_law_526 (fun _ => ?_)
  refine lv_icmp_eq (tgt := 1058) hx hb dL_law_529 (by decide) (fun hc => ?_) (fun hc => absurd hr_ hc)
  exact K xa ma _ _ _ _ H locs ls hI2 hP hD hS hl
set_option maxHeartbeats 4000000 in
set_option maxRecDepth 100000 in
theorem lc_seesNothing {p : Program} {l : Launch} {e : Env} {s : State} {m : MethodId} {below : List Frame} {meth : Method} {c : Code} {Q : State → Prop} {D : va_G} {cI cB cZ : ClassId} {adK adV : Nat → Nat} {b L : Nat} {xs : Nat → Int32} (C0 : LX p s m meth c D cI cB cZ adK adV b L xs) {i : Nat} (hi : i + 6 ≤ L) {xa ma : Nat → Nat} {XA : Nat → Nat → Int32} {XI : Nat → Int32} {MA : Nat → Nat → Int32} {MI : Nat → Int32} {H : Heap} {locs : List Loc} {ls : Array Slot} (hI : Inv XA XI MA MI) (hP : va_P D vwCl (wL cI cB cZ xa ma XA XI MA MI) H) (hD : va_D (Age s) (wL cI cB cZ xa ma XA XI MA MI)) (hS : va_S (Age s) s.heap H locs) (hl : lv_has ls 4 [(0, .ref b), (1, .ref (xa 0)), (2, .ref (ma 0)), (3, .int (nI i))]) (K : ∀ (xa ma : Nat → Nat) (XA : Nat → Nat → Int32) (XI : Nat → Int32) (MA : Nat → Nat → Int32) (MI : Nat → Int32) (H : Heap) (locs : List Loc) (ls : Array Slot), Inv XA XI MA MI → va_P D vwCl (wL cI cB cZ xa ma XA XI MA MI) H → va_D (Age s) (wL cI cB cZ xa ma XA XI MA MI) → va_S (Age s) s.heap H locs → lv_has ls 4 [(0, .ref b), (1, .ref (xa 0)), (2, .ref (ma 0)), (3, .int (nI i))] → W p l e room_1 s m #[Value.ref b] below meth c H locs 78 11425 Q (F0 m 1058 ls [])) : W p l e room_1 s m #[Value.ref b] below meth c H locs 78 11425 Q (F0 m 534 ls []) := by
  obtain ⟨⟨hx, hb, hml, hown, hT⟩, ⟨hK, hN⟩, hZ, hX, hbl, hL⟩ := C0
  have hA : ∀ q : Nat, s.heap.size ≤ q → Age s q := fun _ h => h
  have hbA : ¬ Age s b := Nat.not_le.mpr hbl
  have h_1 : vp_in (nI i + 1) L := by rw [show nI i + 1 = nI (i + 1) from nI_add i 1]; exact vp_in_nI (by omega) (by omega)
  obtain ⟨rX, rM, eX_, eM_, hr_, hI2⟩ := pm_seesNothing hI (xs (nI i + 1).toNatClampNeg)
  refine lv_aload_n hx hb dL_law_534 rfl (lv_at hl 1 rfl) ?_
  refine lv_aload_n hx hb dL_law_535 rfl (lv_at hl 0 rfl) ?_
  refine lv_iload_n hx hb dL_law_536 rfl (lv_at hl 3 rfl) ?_
  refine lv_iconst (v := 1) hx hb dL_law_537 (by decide) ?_
  refine lv_iadd hx hb dL_law_538 ?_
  refine va_sld hx hb hX hbl hbA hS h_1 dL_law_539 ?_
  refine rV_RO (As := [.int (xs (nI i + 1).toNatClampNeg)]) (rest := []) ⟨hx, hb, hml, hown, hT⟩ (gdV tb_917 tb_918 tb_919 tb_85 tb_920) hd_X11_seesNothing (c_X11_seesNothing l D cI cB cZ (xa 0) (xa 4) (xa 5) (xa 24) (xa 1) (xa 3) (xa 9) (xa 14) (xa 19) (xa 20) (xa 21) (xa 22) (xa 28) (xa 34) (xa 42) (xa 6) (xa 7) (xa 8) (xa 25) (xa 26) (xa 27) (XI 0) (XI 7) (XI 8) (XI 9) (XI 10) (XI 11) (XA 1) (xs (nI i + 1).toNatClampNeg) rX eX_) ⟨rfl, rfl⟩ ⟨Nat.le_of_ble_eq_true rfl, Nat.le_of_ble_eq_true rfl⟩ ⟨hK, hN⟩ hP [0, 4, 5, 24] rfl 0 rfl rfl rfl hl.1 rfl (Nat.le_of_ble_eq_true rfl) ⟨Nat.le_of_ble_eq_true rfl, Nat.le_of_ble_eq_true rfl⟩ dL_law_540 (fun _ => ?_)
  refine lv_aload_n hx hb dL_law_543 rfl (lv_at hl 2 rfl) ?_
  refine lv_aload_n hx hb dL_law_544 rfl (lv_at hl 0 rfl) ?_
  refine lv_iload_n hx hb dL_law_545 rfl (lv_at hl 3 rfl) ?_
  refine lv_iconst (v := 1) hx hb dL_law_546 (by decide) ?_
  refine lv_iadd hx hb dL_law_547 ?_
  refine va_sld hx hb hX hbl hbA hS h_1 dL_law_548 ?_
  refine rV_RO (As := [.int (xs (nI i + 1).toNatClampNeg)]) (rest := [.int rX]) ⟨hx, hb, hml, hown, hT⟩ (gdV tb_1551 tb_1552 tb_1553 tb_97 tb_1554) hd_X12_seesNothing (c_X12_seesNothing l D cI cB cZ (ma 0) (ma 1) (ma 2) (ma 3) (ma 4) (ma 5) (ma 6) (ma 7) (ma 8) (ma 9) (ma 10) (ma 11) (ma 12) (ma 13) (ma 14) (ma 15) (ma 16) (ma 17) (ma 18) (ma 19) (ma 20) (ma 21) (ma 22) (ma 23) (ma 24) (ma 25) (ma 26) (ma 27) (MI 0) (MI 1) (MI 2) (MI 3) (MI 4) (MI 5) (MI 6) (MI 7) (MI 8) (MI 9) (MI 10) (MI 11) (MI 12) (MI 13) (MI 14) (MI 15) (MA 0) (xs (nI i + 1).toNatClampNeg) rM eM_) ⟨rfl, rfl⟩ ⟨Nat.le_of_ble_eq_true rfl, Nat.le_of_ble_eq_true rfl⟩ ⟨hK, hN⟩ hP [50, 51] rfl 50 rfl rfl rfl hl.1 rfl (Nat.le_of_ble_eq_true rfl) ⟨Nat.le_of_ble_eq_true rfl, Nat.le_of_ble_eq_true rfl⟩ dL_law_549 (fun _ => ?_)
  refine lv_icmp_eq (tgt := 1058) hx hb dL_law_552 (by decide) (fun hc => ?_) (fun hc => absurd hr_ hc)
  exact K xa ma _ _ _ _ H locs ls hI2 hP hD hS hl
set_option maxHeartbeats 4000000 in
set_option maxRecDepth 100000 in
theorem lc_even {p : Program} {l : Launch} {e : Env} {s : State} {m : MethodId} {below : List Frame} {meth : Method} {c : Code} {Q : State → Prop} {D : va_G} {cI cB cZ : ClassId} {adK adV : Nat → Nat} {b L : Nat} {xs : Nat → Int32} (C0 : LX p s m meth c D cI cB cZ adK adV b L xs) {i : Nat} (hi : i + 6 ≤ L) {xa ma : Nat → Nat} {XA : Nat → Nat → Int32} {XI : Nat → Int32} {MA : Nat → Nat → Int32} {MI : Nat → Int32} {H : Heap} {locs : List Loc} {ls : Array Slot} (hI : Inv XA XI MA MI) (hP : va_P D vwCl (wL cI cB cZ xa ma XA XI MA MI) H) (hD : va_D (Age s) (wL cI cB cZ xa ma XA XI MA MI)) (hS : va_S (Age s) s.heap H locs) (hl : lv_has ls 4 [(0, .ref b), (1, .ref (xa 0)), (2, .ref (ma 0)), (3, .int (nI i))]) (K : ∀ (xa ma : Nat → Nat) (XA : Nat → Nat → Int32) (XI : Nat → Int32) (MA : Nat → Nat → Int32) (MI : Nat → Int32) (H : Heap) (locs : List Loc) (ls : Array Slot), Inv XA XI MA MI → va_P D vwCl (wL cI cB cZ xa ma XA XI MA MI) H → va_D (Age s) (wL cI cB cZ xa ma XA XI MA MI) → va_S (Age s) s.heap H locs → lv_has ls 4 [(0, .ref b), (1, .ref (xa 0)), (2, .ref (ma 0)), (3, .int (nI i))] → W p l e room_1 s m #[Value.ref b] below meth c H locs 78 11425 Q (F0 m 1058 ls [])) : W p l e room_1 s m #[Value.ref b] below meth c H locs 78 11425 Q (F0 m 557 ls []) := by
  obtain ⟨⟨hx, hb, hml, hown, hT⟩, ⟨hK, hN⟩, hZ, hX, hbl, hL⟩ := C0
  have hA : ∀ q : Nat, s.heap.size ≤ q → Age s q := fun _ h => h
  have hbA : ¬ Age s b := Nat.not_le.mpr hbl
  have h_1 : vp_in (nI i + 1) L := by rw [show nI i + 1 = nI (i + 1) from nI_add i 1]; exact vp_in_nI (by omega) (by omega)
  have h_2 : vp_in (nI i + 2) L := by rw [show nI i + 2 = nI (i + 2) from nI_add i 2]; exact vp_in_nI (by omega) (by omega)
  have h_3 : vp_in (nI i + 3) L := by rw [show nI i + 3 = nI (i + 3) from nI_add i 3]; exact vp_in_nI (by omega) (by omega)
  have h_4 : vp_in (nI i + 4) L := by rw [show nI i + 4 = nI (i + 4) from nI_add i 4]; exact vp_in_nI (by omega) (by omega)
  obtain ⟨rX, rM, eX_, eM_, hr_, hI2⟩ := pm_even hI (xs (nI i + 1).toNatClampNeg) (xs (nI i + 2).toNatClampNeg) (xs (nI i + 3).toNatClampNeg) (xs (nI i + 4).toNatClampNeg)
  refine lv_aload_n hx hb dL_law_557 rfl (lv_at hl 1 rfl) ?_
  refine lv_aload_n hx hb dL_law_558 rfl (lv_at hl 0 rfl) ?_
  refine lv_iload_n hx hb dL_law_559 rfl (lv_at hl 3 rfl) ?_
  refine lv_iconst (v := 1) hx hb dL_law_560 (by decide) ?_
  refine lv_iadd hx hb dL_law_561 ?_
  refine va_sld hx hb hX hbl hbA hS h_1 dL_law_562 ?_
  refine lv_aload_n hx hb dL_law_563 rfl (lv_at hl 0 rfl) ?_
  refine lv_iload_n hx hb dL_law_564 rfl (lv_at hl 3 rfl) ?_
  refine lv_iconst (v := 2) hx hb dL_law_565 (by decide) ?_
  refine lv_iadd hx hb dL_law_566 ?_
  refine va_sld hx hb hX hbl hbA hS h_2 dL_law_567 ?_
  refine lv_aload_n hx hb dL_law_568 rfl (lv_at hl 0 rfl) ?_
  refine lv_iload_n hx hb dL_law_569 rfl (lv_at hl 3 rfl) ?_
  refine lv_iconst (v := 3) hx hb dL_law_570 (by decide) ?_
  refine lv_iadd hx hb dL_law_571 ?_
  refine va_sld hx hb hX hbl hbA hS h_3 dL_law_572 ?_
  refine lv_aload_n hx hb dL_law_573 rfl (lv_at hl 0 rfl) ?_
  refine lv_iload_n hx hb dL_law_574 rfl (lv_at hl 3 rfl) ?_
  refine lv_iconst (v := 4) hx hb dL_law_575 (by decide) ?_
  refine lv_iadd hx hb dL_law_576 ?_
  refine va_sld hx hb hX hbl hbA hS h_4 dL_law_577 ?_
  refine rV_RW (As := [.int (xs (nI i + 1).toNatClampNeg), .int (xs (nI i + 2).toNatClampNeg), .int (xs (nI i + 3).toNatClampNeg), .int (xs (nI i + 4).toNatClampNeg)]) (rest := []) (w2 := (wL cI cB cZ xa ma (va_up (va_up XA 17 rX.2.2.1) 18 rX.2.2.2) (va_up XI 1 rX.2.1) MA MI)) ⟨hx, hb, hml, hown, hT⟩ (gdV tb_929 tb_930 tb_931 tb_85 tb_932) hd_X11_even (c_X11_even l D cI cB cZ (xa 0) (xa 1) (xa 2) (xa 28) (xa 29) (xa 30) (xa 3) (xa 4) (xa 9) (xa 14) (xa 19) (xa 20) (xa 21) (xa 22) (xa 24) (xa 34) (xa 42) (xa 31) (xa 32) (xa 33) (XI 0) (XI 1) (XA 0) (XA 17) (XA 18) (xs (nI i + 1).toNatClampNeg) (xs (nI i + 2).toNatClampNeg) (xs (nI i + 3).toNatClampNeg) (xs (nI i + 4).toNatClampNeg) H.size rX eX_) ⟨rfl, rfl⟩ ⟨Nat.le_of_ble_eq_true rfl, Nat.le_of_ble_eq_true rfl⟩ ⟨hK, hN⟩ hA hP hD hS [0, 1, 2, 28, 29, 30] [3, 4, 5, 6, 7, 8, 9, 10, 11, 12, 13, 14, 15, 16, 17, 18, 19, 20, 21, 22, 23, 24, 25, 26, 27, 31, 32, 33, 34, 35, 36, 37, 38, 39, 40, 41, 42, 43, 44, 45, 46, 47, 48, 49, 50, 51, 52, 53, 54, 55, 56, 57, 58, 59, 60, 61, 62, 63, 64, 65, 66, 67, 68, 69, 70, 71, 72, 73, 74, 75, 76, 77] rfl (by decide) (wr := [_, _, _, _, _, _, _, _, _, _, _, _, _, _, _, _, _, _, _, _, _, _, _, _, _, _, _, _, _, _, _, _, _, _, _, _, _, _, _, _, _, _, _, _, _, _, _, _, _, _, _, _, _, _, _, _, _, _, _, _, _, _, _, _, _, _, _, _, _, _, _, _]) rfl (by decide) (by decide) [72, 73, 74, 0, 1, 2, 3, 4, 5, 6, 7, 8, 9, 10, 11, 12, 13, 14, 15, 16, 17, 18, 19, 20, 21, 22, 23, 24, 75, 76, 77, 25, 26, 27, 28, 29, 30, 31, 32, 33, 34, 35, 36, 37, 38, 39, 40, 41, 42, 43, 44, 45, 46, 47, 48, 49, 50, 51, 52, 53, 54, 55, 56, 57, 58, 59, 60, 61, 62, 63, 64, 65, 66, 67, 68, 69, 70, 71] rfl (by decide) 0 rfl rfl rfl hl.1 rfl (Nat.le_of_ble_eq_true rfl) ⟨Nat.le_of_ble_eq_true rfl, Nat.le_of_ble_eq_true rfl⟩ dL_law_578 (fun H locs hP hD hS _ => ?_)
  refine lv_aload_n hx hb dL_law_581 rfl (lv_at hl 2 rfl) ?_
  refine lv_aload_n hx hb dL_law_582 rfl (lv_at hl 0 rfl) ?_
  refine lv_iload_n hx hb dL_law_583 rfl (lv_at hl 3 rfl) ?_
  refine lv_iconst (v := 1) hx hb dL_law_584 (by decide) ?_
  refine lv_iadd hx hb dL_law_585 ?_
  refine va_sld hx hb hX hbl hbA hS h_1 dL_law_586 ?_
  refine lv_aload_n hx hb dL_law_587 rfl (lv_at hl 0 rfl) ?_
  refine lv_iload_n hx hb dL_law_588 rfl (lv_at hl 3 rfl) ?_
  refine lv_iconst (v := 2) hx hb dL_law_589 (by decide) ?_
  refine lv_iadd hx hb dL_law_590 ?_
  refine va_sld hx hb hX hbl hbA hS h_2 dL_law_591 ?_
  refine lv_aload_n hx hb dL_law_592 rfl (lv_at hl 0 rfl) ?_
  refine lv_iload_n hx hb dL_law_593 rfl (lv_at hl 3 rfl) ?_
  refine lv_iconst (v := 3) hx hb dL_law_594 (by decide) ?_
  refine lv_iadd hx hb dL_law_595 ?_
  refine va_sld hx hb hX hbl hbA hS h_3 dL_law_596 ?_
  refine lv_aload_n hx hb dL_law_597 rfl (lv_at hl 0 rfl) ?_
  refine lv_iload_n hx hb dL_law_598 rfl (lv_at hl 3 rfl) ?_
  refine lv_iconst (v := 4) hx hb dL_law_599 (by decide) ?_
  refine lv_iadd hx hb dL_law_600 ?_
  refine va_sld hx hb hX hbl hbA hS h_4 dL_law_601 ?_
  refine rV_RW (As := [.int (xs (nI i + 1).toNatClampNeg), .int (xs (nI i + 2).toNatClampNeg), .int (xs (nI i + 3).toNatClampNeg), .int (xs (nI i + 4).toNatClampNeg)]) (rest := [.int rX.1]) (w2 := (wL cI cB cZ xa ma (va_up (va_up XA 17 rX.2.2.1) 18 rX.2.2.2) (va_up XI 1 rX.2.1) MA (va_up MI 0 rM.2))) ⟨hx, hb, hml, hown, hT⟩ (gdV tb_1559 tb_1560 tb_1561 tb_97 tb_1562) hd_X12_even (c_X12_even l D cI cB cZ (ma 0) (ma 4) (ma 1) (ma 2) (ma 3) (ma 5) (ma 6) (ma 7) (ma 8) (ma 9) (ma 10) (ma 11) (ma 12) (ma 13) (ma 14) (ma 15) (ma 16) (ma 17) (ma 18) (ma 19) (ma 20) (ma 21) (ma 22) (ma 23) (ma 24) (ma 25) (ma 26) (ma 27) (MI 0) (MI 1) (MI 2) (MI 3) (MI 4) (MI 5) (MI 6) (MI 7) (MI 8) (MI 9) (MI 10) (MI 11) (MI 12) (MI 13) (MI 14) (MI 15) (MA 3) (xs (nI i + 1).toNatClampNeg) (xs (nI i + 2).toNatClampNeg) (xs (nI i + 3).toNatClampNeg) (xs (nI i + 4).toNatClampNeg) H.size rM eM_) ⟨rfl, rfl⟩ ⟨Nat.le_of_ble_eq_true rfl, Nat.le_of_ble_eq_true rfl⟩ ⟨hK, hN⟩ hA hP hD hS [50, 54] [0, 1, 2, 3, 4, 5, 6, 7, 8, 9, 10, 11, 12, 13, 14, 15, 16, 17, 18, 19, 20, 21, 22, 23, 24, 25, 26, 27, 28, 29, 30, 31, 32, 33, 34, 35, 36, 37, 38, 39, 40, 41, 42, 43, 44, 45, 46, 47, 48, 49, 51, 52, 53, 55, 56, 57, 58, 59, 60, 61, 62, 63, 64, 65, 66, 67, 68, 69, 70, 71, 72, 73, 74, 75, 76, 77] rfl (by decide) (wr := [_, _, _, _, _, _, _, _, _, _, _, _, _, _, _, _, _, _, _, _, _, _, _, _, _, _, _, _, _, _, _, _, _, _, _, _, _, _, _, _, _, _, _, _, _, _, _, _, _, _, _, _, _, _, _, _, _, _, _, _, _, _, _, _, _, _, _, _, _, _, _, _, _, _, _, _]) rfl (by decide) (by decide) [0, 1, 2, 3, 4, 5, 6, 7, 8, 9, 10, 11, 12, 13, 14, 15, 16, 17, 18, 19, 20, 21, 22, 23, 24, 25, 26, 27, 28, 29, 30, 31, 32, 33, 34, 35, 36, 37, 38, 39, 40, 41, 42, 43, 44, 45, 46, 47, 48, 49, 76, 50, 51, 52, 77, 53, 54, 55, 56, 57, 58, 59, 60, 61, 62, 63, 64, 65, 66, 67, 68, 69, 70, 71, 72, 73, 74, 75] rfl (by decide) 50 rfl rfl rfl hl.1 rfl (Nat.le_of_ble_eq_true rfl) ⟨Nat.le_of_ble_eq_true rfl, Nat.le_of_ble_eq_true rfl⟩ dL_law_602 (fun H locs hP hD hS _ => ?_)
  refine lv_icmp_eq (tgt := 1058) hx hb dL_law_605 (by decide) (fun hc => ?_) (fun hc => absurd hr_ hc)
  exact K xa ma _ _ _ _ H locs ls hI2 hP hD hS hl
set_option maxHeartbeats 4000000 in
set_option maxRecDepth 100000 in
theorem lc_order {p : Program} {l : Launch} {e : Env} {s : State} {m : MethodId} {below : List Frame} {meth : Method} {c : Code} {Q : State → Prop} {D : va_G} {cI cB cZ : ClassId} {adK adV : Nat → Nat} {b L : Nat} {xs : Nat → Int32} (C0 : LX p s m meth c D cI cB cZ adK adV b L xs) {i : Nat} (hi : i + 6 ≤ L) {xa ma : Nat → Nat} {XA : Nat → Nat → Int32} {XI : Nat → Int32} {MA : Nat → Nat → Int32} {MI : Nat → Int32} {H : Heap} {locs : List Loc} {ls : Array Slot} (hI : Inv XA XI MA MI) (hP : va_P D vwCl (wL cI cB cZ xa ma XA XI MA MI) H) (hD : va_D (Age s) (wL cI cB cZ xa ma XA XI MA MI)) (hS : va_S (Age s) s.heap H locs) (hl : lv_has ls 4 [(0, .ref b), (1, .ref (xa 0)), (2, .ref (ma 0)), (3, .int (nI i))]) (K : ∀ (xa ma : Nat → Nat) (XA : Nat → Nat → Int32) (XI : Nat → Int32) (MA : Nat → Nat → Int32) (MI : Nat → Int32) (H : Heap) (locs : List Loc) (ls : Array Slot), Inv XA XI MA MI → va_P D vwCl (wL cI cB cZ xa ma XA XI MA MI) H → va_D (Age s) (wL cI cB cZ xa ma XA XI MA MI) → va_S (Age s) s.heap H locs → lv_has ls 4 [(0, .ref b), (1, .ref (xa 0)), (2, .ref (ma 0)), (3, .int (nI i))] → W p l e room_1 s m #[Value.ref b] below meth c H locs 78 11425 Q (F0 m 1058 ls [])) : W p l e room_1 s m #[Value.ref b] below meth c H locs 78 11425 Q (F0 m 610 ls []) := by
  obtain ⟨⟨hx, hb, hml, hown, hT⟩, ⟨hK, hN⟩, hZ, hX, hbl, hL⟩ := C0
  have hA : ∀ q : Nat, s.heap.size ≤ q → Age s q := fun _ h => h
  have hbA : ¬ Age s b := Nat.not_le.mpr hbl
  have h_1 : vp_in (nI i + 1) L := by rw [show nI i + 1 = nI (i + 1) from nI_add i 1]; exact vp_in_nI (by omega) (by omega)
  have h_2 : vp_in (nI i + 2) L := by rw [show nI i + 2 = nI (i + 2) from nI_add i 2]; exact vp_in_nI (by omega) (by omega)
  have h_3 : vp_in (nI i + 3) L := by rw [show nI i + 3 = nI (i + 3) from nI_add i 3]; exact vp_in_nI (by omega) (by omega)
  obtain ⟨rX, rM, eX_, eM_, hr_, hI2⟩ := pm_order hI (xs (nI i + 1).toNatClampNeg) (xs (nI i + 2).toNatClampNeg) (xs (nI i + 3).toNatClampNeg)
  refine lv_aload_n hx hb dL_law_610 rfl (lv_at hl 1 rfl) ?_
  refine lv_aload_n hx hb dL_law_611 rfl (lv_at hl 0 rfl) ?_
  refine lv_iload_n hx hb dL_law_612 rfl (lv_at hl 3 rfl) ?_
  refine lv_iconst (v := 1) hx hb dL_law_613 (by decide) ?_
  refine lv_iadd hx hb dL_law_614 ?_
  refine va_sld hx hb hX hbl hbA hS h_1 dL_law_615 ?_
  refine lv_aload_n hx hb dL_law_616 rfl (lv_at hl 0 rfl) ?_
  refine lv_iload_n hx hb dL_law_617 rfl (lv_at hl 3 rfl) ?_
  refine lv_iconst (v := 2) hx hb dL_law_618 (by decide) ?_
  refine lv_iadd hx hb dL_law_619 ?_
  refine va_sld hx hb hX hbl hbA hS h_2 dL_law_620 ?_
  refine lv_aload_n hx hb dL_law_621 rfl (lv_at hl 0 rfl) ?_
  refine lv_iload_n hx hb dL_law_622 rfl (lv_at hl 3 rfl) ?_
  refine lv_iconst (v := 3) hx hb dL_law_623 (by decide) ?_
  refine lv_iadd hx hb dL_law_624 ?_
  refine va_sld hx hb hX hbl hbA hS h_3 dL_law_625 ?_
  refine rV_RO (As := [.int (xs (nI i + 1).toNatClampNeg), .int (xs (nI i + 2).toNatClampNeg), .int (xs (nI i + 3).toNatClampNeg)]) (rest := []) ⟨hx, hb, hml, hown, hT⟩ (gdV tb_954 tb_955 tb_956 tb_85 tb_957) hd_X11_order (c_X11_order l D cI cB cZ (xa 0) (xa 4) (xa 5) (xa 6) (xa 24) (xa 1) (xa 3) (xa 9) (xa 14) (xa 19) (xa 20) (xa 21) (xa 22) (xa 28) (xa 34) (xa 42) (xa 7) (xa 8) (xa 25) (xa 26) (xa 27) (XI 0) (XI 7) (XI 8) (XI 9) (XI 10) (XI 11) (XA 1) (XA 2) (xs (nI i + 1).toNatClampNeg) (xs (nI i + 2).toNatClampNeg) (xs (nI i + 3).toNatClampNeg) rX eX_) ⟨rfl, rfl⟩ ⟨Nat.le_of_ble_eq_true rfl, Nat.le_of_ble_eq_true rfl⟩ ⟨hK, hN⟩ hP [0, 4, 5, 6, 24] rfl 0 rfl rfl rfl hl.1 rfl (Nat.le_of_ble_eq_true rfl) ⟨Nat.le_of_ble_eq_true rfl, Nat.le_of_ble_eq_true rfl⟩ dL_law_626 (fun _ => ?_)
  refine lv_aload_n hx hb dL_law_629 rfl (lv_at hl 2 rfl) ?_
  refine lv_aload_n hx hb dL_law_630 rfl (lv_at hl 0 rfl) ?_
  refine lv_iload_n hx hb dL_law_631 rfl (lv_at hl 3 rfl) ?_
  refine lv_iconst (v := 1) hx hb dL_law_632 (by decide) ?_
  refine lv_iadd hx hb dL_law_633 ?_
  refine va_sld hx hb hX hbl hbA hS h_1 dL_law_634 ?_
  refine lv_aload_n hx hb dL_law_635 rfl (lv_at hl 0 rfl) ?_
  refine lv_iload_n hx hb dL_law_636 rfl (lv_at hl 3 rfl) ?_
  refine lv_iconst (v := 2) hx hb dL_law_637 (by decide) ?_
  refine lv_iadd hx hb dL_law_638 ?_
  refine va_sld hx hb hX hbl hbA hS h_2 dL_law_639 ?_
  refine lv_aload_n hx hb dL_law_640 rfl (lv_at hl 0 rfl) ?_
  refine lv_iload_n hx hb dL_law_641 rfl (lv_at hl 3 rfl) ?_
  refine lv_iconst (v := 3) hx hb dL_law_642 (by decide) ?_
  refine lv_iadd hx hb dL_law_643 ?_
  refine va_sld hx hb hX hbl hbA hS h_3 dL_law_644 ?_
  refine rV_RO (As := [.int (xs (nI i + 1).toNatClampNeg), .int (xs (nI i + 2).toNatClampNeg), .int (xs (nI i + 3).toNatClampNeg)]) (rest := [.int rX]) ⟨hx, hb, hml, hown, hT⟩ (gdV tb_1573 tb_1574 tb_1575 tb_97 tb_1576) hd_X12_order (c_X12_order l D cI cB cZ (ma 0) (ma 1) (ma 2) (ma 3) (ma 4) (ma 5) (ma 6) (ma 7) (ma 8) (ma 9) (ma 10) (ma 11) (ma 12) (ma 13) (ma 14) (ma 15) (ma 16) (ma 17) (ma 18) (ma 19) (ma 20) (ma 21) (ma 22) (ma 23) (ma 24) (ma 25) (ma 26) (ma 27) (MI 0) (MI 1) (MI 2) (MI 3) (MI 4) (MI 5) (MI 6) (MI 7) (MI 8) (MI 9) (MI 10) (MI 11) (MI 12) (MI 13) (MI 14) (MI 15) (MA 0) (xs (nI i + 1).toNatClampNeg) (xs (nI i + 2).toNatClampNeg) (xs (nI i + 3).toNatClampNeg) rM eM_) ⟨rfl, rfl⟩ ⟨Nat.le_of_ble_eq_true rfl, Nat.le_of_ble_eq_true rfl⟩ ⟨hK, hN⟩ hP [50, 51] rfl 50 rfl rfl rfl hl.1 rfl (Nat.le_of_ble_eq_true rfl) ⟨Nat.le_of_ble_eq_true rfl, Nat.le_of_ble_eq_true rfl⟩ dL_law_645 (fun _ => ?_)
  refine lv_icmp_eq (tgt := 1058) hx hb dL_law_648 (by decide) (fun hc => ?_) (fun hc => absurd hr_ hc)
  exact K xa ma _ _ _ _ H locs ls hI2 hP hD hS hl
set_option maxHeartbeats 4000000 in
set_option maxRecDepth 100000 in
theorem lc_moreFit {p : Program} {l : Launch} {e : Env} {s : State} {m : MethodId} {below : List Frame} {meth : Method} {c : Code} {Q : State → Prop} {D : va_G} {cI cB cZ : ClassId} {adK adV : Nat → Nat} {b L : Nat} {xs : Nat → Int32} (C0 : LX p s m meth c D cI cB cZ adK adV b L xs) {i : Nat} (hi : i + 6 ≤ L) {xa ma : Nat → Nat} {XA : Nat → Nat → Int32} {XI : Nat → Int32} {MA : Nat → Nat → Int32} {MI : Nat → Int32} {H : Heap} {locs : List Loc} {ls : Array Slot} (hI : Inv XA XI MA MI) (hP : va_P D vwCl (wL cI cB cZ xa ma XA XI MA MI) H) (hD : va_D (Age s) (wL cI cB cZ xa ma XA XI MA MI)) (hS : va_S (Age s) s.heap H locs) (hl : lv_has ls 4 [(0, .ref b), (1, .ref (xa 0)), (2, .ref (ma 0)), (3, .int (nI i))]) (K : ∀ (xa ma : Nat → Nat) (XA : Nat → Nat → Int32) (XI : Nat → Int32) (MA : Nat → Nat → Int32) (MI : Nat → Int32) (H : Heap) (locs : List Loc) (ls : Array Slot), Inv XA XI MA MI → va_P D vwCl (wL cI cB cZ xa ma XA XI MA MI) H → va_D (Age s) (wL cI cB cZ xa ma XA XI MA MI) → va_S (Age s) s.heap H locs → lv_has ls 4 [(0, .ref b), (1, .ref (xa 0)), (2, .ref (ma 0)), (3, .int (nI i))] → W p l e room_1 s m #[Value.ref b] below meth c H locs 78 11425 Q (F0 m 1058 ls [])) : W p l e room_1 s m #[Value.ref b] below meth c H locs 78 11425 Q (F0 m 653 ls []) := by
  obtain ⟨⟨hx, hb, hml, hown, hT⟩, ⟨hK, hN⟩, hZ, hX, hbl, hL⟩ := C0
  have hA : ∀ q : Nat, s.heap.size ≤ q → Age s q := fun _ h => h
  have hbA : ¬ Age s b := Nat.not_le.mpr hbl
  have h_1 : vp_in (nI i + 1) L := by rw [show nI i + 1 = nI (i + 1) from nI_add i 1]; exact vp_in_nI (by omega) (by omega)
  have h_2 : vp_in (nI i + 2) L := by rw [show nI i + 2 = nI (i + 2) from nI_add i 2]; exact vp_in_nI (by omega) (by omega)
  obtain ⟨rX, rM, eX_, eM_, hr_, hI2⟩ := pm_moreFit hI (xs (nI i + 1).toNatClampNeg) (xs (nI i + 2).toNatClampNeg)
  refine lv_aload_n hx hb dL_law_653 rfl (lv_at hl 1 rfl) ?_
  refine lv_aload_n hx hb dL_law_654 rfl (lv_at hl 0 rfl) ?_
  refine lv_iload_n hx hb dL_law_655 rfl (lv_at hl 3 rfl) ?_
  refine lv_iconst (v := 1) hx hb dL_law_656 (by decide) ?_
  refine lv_iadd hx hb dL_law_657 ?_
  refine va_sld hx hb hX hbl hbA hS h_1 dL_law_658 ?_
  refine lv_aload_n hx hb dL_law_659 rfl (lv_at hl 0 rfl) ?_
  refine lv_iload_n hx hb dL_law_660 rfl (lv_at hl 3 rfl) ?_
  refine lv_iconst (v := 2) hx hb dL_law_661 (by decide) ?_
  refine lv_iadd hx hb dL_law_662 ?_
  refine va_sld hx hb hX hbl hbA hS h_2 dL_law_663 ?_
  refine rV_RW (As := [.int (xs (nI i + 1).toNatClampNeg), .int (xs (nI i + 2).toNatClampNeg)]) (rest := []) (w2 := (wL cI cB cZ xa ma (va_up XA 17 rX.2.2) (va_up XI 1 rX.2.1) MA MI)) ⟨hx, hb, hml, hown, hT⟩ (gdV tb_962 tb_963 tb_964 tb_85 tb_965) hd_X11_moreFit (c_X11_moreFit l D cI cB cZ (xa 0) (xa 1) (xa 2) (xa 4) (xa 5) (xa 28) (xa 29) (xa 3) (xa 9) (xa 14) (xa 19) (xa 20) (xa 21) (xa 22) (xa 24) (xa 34) (xa 42) (xa 6) (xa 7) (xa 8) (xa 30) (xa 31) (xa 32) (xa 33) (XI 0) (XI 1) (XA 0) (XI 7) (XI 8) (XI 9) (XI 10) (XI 11) (XA 1) (XA 17) (xs (nI i + 1).toNatClampNeg) (xs (nI i + 2).toNatClampNeg) H.size rX eX_) ⟨rfl, rfl⟩ ⟨Nat.le_of_ble_eq_true rfl, Nat.le_of_ble_eq_true rfl⟩ ⟨hK, hN⟩ hA hP hD hS [0, 1, 2, 4, 5, 28, 29] [3, 6, 7, 8, 9, 10, 11, 12, 13, 14, 15, 16, 17, 18, 19, 20, 21, 22, 23, 24, 25, 26, 27, 30, 31, 32, 33, 34, 35, 36, 37, 38, 39, 40, 41, 42, 43, 44, 45, 46, 47, 48, 49, 50, 51, 52, 53, 54, 55, 56, 57, 58, 59, 60, 61, 62, 63, 64, 65, 66, 67, 68, 69, 70, 71, 72, 73, 74, 75, 76, 77] rfl (by decide) (wr := [_, _, _, _, _, _, _, _, _, _, _, _, _, _, _, _, _, _, _, _, _, _, _, _, _, _, _, _, _, _, _, _, _, _, _, _, _, _, _, _, _, _, _, _, _, _, _, _, _, _, _, _, _, _, _, _, _, _, _, _, _, _, _, _, _, _, _, _, _, _, _]) rfl (by decide) (by decide) [71, 72, 73, 0, 74, 75, 1, 2, 3, 4, 5, 6, 7, 8, 9, 10, 11, 12, 13, 14, 15, 16, 17, 18, 19, 20, 21, 22, 76, 77, 23, 24, 25, 26, 27, 28, 29, 30, 31, 32, 33, 34, 35, 36, 37, 38, 39, 40, 41, 42, 43, 44, 45, 46, 47, 48, 49, 50, 51, 52, 53, 54, 55, 56, 57, 58, 59, 60, 61, 62, 63, 64, 65, 66, 67, 68, 69, 70] rfl (by decide) 0 rfl rfl rfl hl.1 rfl (Nat.le_of_ble_eq_true rfl) ⟨Nat.le_of_ble_eq_true rfl, Nat.le_of_ble_eq_true rfl⟩ dL_law_664 (fun H locs hP hD hS _ => ?_)
  refine lv_aload_n hx hb dL_law_667 rfl (lv_at hl 2 rfl) ?_
  refine lv_aload_n hx hb dL_law_668 rfl (lv_at hl 0 rfl) ?_
  refine lv_iload_n hx hb dL_law_669 rfl (lv_at hl 3 rfl) ?_
  refine lv_iconst (v := 1) hx hb dL_law_670 (by decide) ?_
  refine lv_iadd hx hb dL_law_671 ?_
  refine va_sld hx hb hX hbl hbA hS h_1 dL_law_672 ?_
  refine lv_aload_n hx hb dL_law_673 rfl (lv_at hl 0 rfl) ?_
  refine lv_iload_n hx hb dL_law_674 rfl (lv_at hl 3 rfl) ?_
  refine lv_iconst (v := 2) hx hb dL_law_675 (by decide) ?_
  refine lv_iadd hx hb dL_law_676 ?_
  refine va_sld hx hb hX hbl hbA hS h_2 dL_law_677 ?_
  refine rV_RW (As := [.int (xs (nI i + 1).toNatClampNeg), .int (xs (nI i + 2).toNatClampNeg)]) (rest := [.int rX.1]) (w2 := (wL cI cB cZ xa ma (va_up XA 17 rX.2.2) (va_up XI 1 rX.2.1) (va_up (va_up MA 18 rM.2.2.1) 19 rM.2.2.2) (va_up MI 0 rM.2.1))) ⟨hx, hb, hml, hown, hT⟩ (gdV tb_1577 tb_1578 tb_1579 tb_97 tb_1580) hd_X12_moreFit (c_X12_moreFit l D cI cB cZ (ma 0) (ma 1) (ma 4) (ma 19) (ma 20) (ma 2) (ma 3) (ma 5) (ma 6) (ma 7) (ma 8) (ma 9) (ma 10) (ma 11) (ma 12) (ma 13) (ma 14) (ma 15) (ma 16) (ma 17) (ma 18) (ma 21) (ma 22) (ma 23) (ma 24) (ma 25) (ma 26) (ma 27) (MI 0) (MI 1) (MI 2) (MI 3) (MI 4) (MI 5) (MI 6) (MI 7) (MI 8) (MI 9) (MI 10) (MI 11) (MI 12) (MI 13) (MI 14) (MI 15) (MA 0) (MA 3) (MA 18) (MA 19) (xs (nI i + 1).toNatClampNeg) (xs (nI i + 2).toNatClampNeg) H.size rM eM_) ⟨rfl, rfl⟩ ⟨Nat.le_of_ble_eq_true rfl, Nat.le_of_ble_eq_true rfl⟩ ⟨hK, hN⟩ hA hP hD hS [50, 51, 54, 69, 70] [0, 1, 2, 3, 4, 5, 6, 7, 8, 9, 10, 11, 12, 13, 14, 15, 16, 17, 18, 19, 20, 21, 22, 23, 24, 25, 26, 27, 28, 29, 30, 31, 32, 33, 34, 35, 36, 37, 38, 39, 40, 41, 42, 43, 44, 45, 46, 47, 48, 49, 52, 53, 55, 56, 57, 58, 59, 60, 61, 62, 63, 64, 65, 66, 67, 68, 71, 72, 73, 74, 75, 76, 77] rfl (by decide) (wr := [_, _, _, _, _, _, _, _, _, _, _, _, _, _, _, _, _, _, _, _, _, _, _, _, _, _, _, _, _, _, _, _, _, _, _, _, _, _, _, _, _, _, _, _, _, _, _, _, _, _, _, _, _, _, _, _, _, _, _, _, _, _, _, _, _, _, _, _, _, _, _, _, _]) rfl (by decide) (by decide) [0, 1, 2, 3, 4, 5, 6, 7, 8, 9, 10, 11, 12, 13, 14, 15, 16, 17, 18, 19, 20, 21, 22, 23, 24, 25, 26, 27, 28, 29, 30, 31, 32, 33, 34, 35, 36, 37, 38, 39, 40, 41, 42, 43, 44, 45, 46, 47, 48, 49, 73, 74, 50, 51, 75, 52, 53, 54, 55, 56, 57, 58, 59, 60, 61, 62, 63, 64, 65, 76, 77, 66, 67, 68, 69, 70, 71, 72] rfl (by decide) 50 rfl rfl rfl hl.1 rfl (Nat.le_of_ble_eq_true rfl) ⟨Nat.le_of_ble_eq_true rfl, Nat.le_of_ble_eq_true rfl⟩ dL_law_678 (fun H locs hP hD hS _ => ?_)
  refine lv_icmp_eq (tgt := 1058) hx hb dL_law_681 (by decide) (fun hc => ?_) (fun hc => absurd hr_ hc)
  exact K xa ma _ _ _ _ H locs ls hI2 hP hD hS hl
set_option maxHeartbeats 4000000 in
set_option maxRecDepth 100000 in
theorem lc_fathers {p : Program} {l : Launch} {e : Env} {s : State} {m : MethodId} {below : List Frame} {meth : Method} {c : Code} {Q : State → Prop} {D : va_G} {cI cB cZ : ClassId} {adK adV : Nat → Nat} {b L : Nat} {xs : Nat → Int32} (C0 : LX p s m meth c D cI cB cZ adK adV b L xs) {i : Nat} (hi : i + 6 ≤ L) {xa ma : Nat → Nat} {XA : Nat → Nat → Int32} {XI : Nat → Int32} {MA : Nat → Nat → Int32} {MI : Nat → Int32} {H : Heap} {locs : List Loc} {ls : Array Slot} (hI : Inv XA XI MA MI) (hP : va_P D vwCl (wL cI cB cZ xa ma XA XI MA MI) H) (hD : va_D (Age s) (wL cI cB cZ xa ma XA XI MA MI)) (hS : va_S (Age s) s.heap H locs) (hl : lv_has ls 4 [(0, .ref b), (1, .ref (xa 0)), (2, .ref (ma 0)), (3, .int (nI i))]) (K : ∀ (xa ma : Nat → Nat) (XA : Nat → Nat → Int32) (XI : Nat → Int32) (MA : Nat → Nat → Int32) (MI : Nat → Int32) (H : Heap) (locs : List Loc) (ls : Array Slot), Inv XA XI MA MI → va_P D vwCl (wL cI cB cZ xa ma XA XI MA MI) H → va_D (Age s) (wL cI cB cZ xa ma XA XI MA MI) → va_S (Age s) s.heap H locs → lv_has ls 4 [(0, .ref b), (1, .ref (xa 0)), (2, .ref (ma 0)), (3, .int (nI i))] → W p l e room_1 s m #[Value.ref b] below meth c H locs 78 11425 Q (F0 m 1058 ls [])) : W p l e room_1 s m #[Value.ref b] below meth c H locs 78 11425 Q (F0 m 686 ls []) := by
  obtain ⟨⟨hx, hb, hml, hown, hT⟩, ⟨hK, hN⟩, hZ, hX, hbl, hL⟩ := C0
  have hA : ∀ q : Nat, s.heap.size ≤ q → Age s q := fun _ h => h
  have hbA : ¬ Age s b := Nat.not_le.mpr hbl
  have h_1 : vp_in (nI i + 1) L := by rw [show nI i + 1 = nI (i + 1) from nI_add i 1]; exact vp_in_nI (by omega) (by omega)
  have h_2 : vp_in (nI i + 2) L := by rw [show nI i + 2 = nI (i + 2) from nI_add i 2]; exact vp_in_nI (by omega) (by omega)
  have h_3 : vp_in (nI i + 3) L := by rw [show nI i + 3 = nI (i + 3) from nI_add i 3]; exact vp_in_nI (by omega) (by omega)
  obtain ⟨rX, rM, eX_, eM_, hr_, hI2⟩ := pm_fathers hI (xs (nI i + 1).toNatClampNeg) (xs (nI i + 2).toNatClampNeg) (xs (nI i + 3).toNatClampNeg)
  refine lv_aload_n hx hb dL_law_686 rfl (lv_at hl 1 rfl) ?_
  refine lv_aload_n hx hb dL_law_687 rfl (lv_at hl 0 rfl) ?_
  refine lv_iload_n hx hb dL_law_688 rfl (lv_at hl 3 rfl) ?_
  refine lv_iconst (v := 1) hx hb dL_law_689 (by decide) ?_
  refine lv_iadd hx hb dL_law_690 ?_
  refine va_sld hx hb hX hbl hbA hS h_1 dL_law_691 ?_
  refine lv_aload_n hx hb dL_law_692 rfl (lv_at hl 0 rfl) ?_
  refine lv_iload_n hx hb dL_law_693 rfl (lv_at hl 3 rfl) ?_
  refine lv_iconst (v := 2) hx hb dL_law_694 (by decide) ?_
  refine lv_iadd hx hb dL_law_695 ?_
  refine va_sld hx hb hX hbl hbA hS h_2 dL_law_696 ?_
  refine lv_aload_n hx hb dL_law_697 rfl (lv_at hl 0 rfl) ?_
  refine lv_iload_n hx hb dL_law_698 rfl (lv_at hl 3 rfl) ?_
  refine lv_iconst (v := 3) hx hb dL_law_699 (by decide) ?_
  refine lv_iadd hx hb dL_law_700 ?_
  refine va_sld hx hb hX hbl hbA hS h_3 dL_law_701 ?_
  refine rV_RO (As := [.int (xs (nI i + 1).toNatClampNeg), .int (xs (nI i + 2).toNatClampNeg), .int (xs (nI i + 3).toNatClampNeg)]) (rest := []) ⟨hx, hb, hml, hown, hT⟩ (gdV tb_982 tb_983 tb_984 tb_85 tb_985) hd_X11_fathers (c_X11_fathers l D cI cB cZ (xa 0) (xa 4) (xa 5) (xa 24) (xa 1) (xa 3) (xa 9) (xa 14) (xa 19) (xa 20) (xa 21) (xa 22) (xa 28) (xa 34) (xa 42) (xa 6) (xa 7) (xa 8) (xa 25) (xa 26) (xa 27) (XI 0) (XI 7) (XI 8) (XI 9) (XI 10) (XI 11) (XA 1) (xs (nI i + 1).toNatClampNeg) (xs (nI i + 2).toNatClampNeg) (xs (nI i + 3).toNatClampNeg) rX eX_) ⟨rfl, rfl⟩ ⟨Nat.le_of_ble_eq_true rfl, Nat.le_of_ble_eq_true rfl⟩ ⟨hK, hN⟩ hP [0, 4, 5, 24] rfl 0 rfl rfl rfl hl.1 rfl (Nat.le_of_ble_eq_true rfl) ⟨Nat.le_of_ble_eq_true rfl, Nat.le_of_ble_eq_true rfl⟩ dL_law_702 (fun _ => ?_)
  refine lv_aload_n hx hb dL_law_705 rfl (lv_at hl 2 rfl) ?_
  refine lv_aload_n hx hb dL_law_706 rfl (lv_at hl 0 rfl) ?_
  refine lv_iload_n hx hb dL_law_707 rfl (lv_at hl 3 rfl) ?_
  refine lv_iconst (v := 1) hx hb dL_law_708 (by decide) ?_
  refine lv_iadd hx hb dL_law_709 ?_
  refine va_sld hx hb hX hbl hbA hS h_1 dL_law_710 ?_
  refine lv_aload_n hx hb dL_law_711 rfl (lv_at hl 0 rfl) ?_
  refine lv_iload_n hx hb dL_law_712 rfl (lv_at hl 3 rfl) ?_
  refine lv_iconst (v := 2) hx hb dL_law_713 (by decide) ?_
  refine lv_iadd hx hb dL_law_714 ?_
  refine va_sld hx hb hX hbl hbA hS h_2 dL_law_715 ?_
  refine lv_aload_n hx hb dL_law_716 rfl (lv_at hl 0 rfl) ?_
  refine lv_iload_n hx hb dL_law_717 rfl (lv_at hl 3 rfl) ?_
  refine lv_iconst (v := 3) hx hb dL_law_718 (by decide) ?_
  refine lv_iadd hx hb dL_law_719 ?_
  refine va_sld hx hb hX hbl hbA hS h_3 dL_law_720 ?_
  refine rV_RO (As := [.int (xs (nI i + 1).toNatClampNeg), .int (xs (nI i + 2).toNatClampNeg), .int (xs (nI i + 3).toNatClampNeg)]) (rest := [.int rX]) ⟨hx, hb, hml, hown, hT⟩ (gdV tb_1588 tb_1589 tb_1590 tb_97 tb_1591) hd_X12_fathers (c_X12_fathers l D cI cB cZ (ma 0) (ma 1) (ma 2) (ma 3) (ma 4) (ma 5) (ma 6) (ma 7) (ma 8) (ma 9) (ma 10) (ma 11) (ma 12) (ma 13) (ma 14) (ma 15) (ma 16) (ma 17) (ma 18) (ma 19) (ma 20) (ma 21) (ma 22) (ma 23) (ma 24) (ma 25) (ma 26) (ma 27) (MI 0) (MI 1) (MI 2) (MI 3) (MI 4) (MI 5) (MI 6) (MI 7) (MI 8) (MI 9) (MI 10) (MI 11) (MI 12) (MI 13) (MI 14) (MI 15) (MA 0) (xs (nI i + 1).toNatClampNeg) (xs (nI i + 2).toNatClampNeg) (xs (nI i + 3).toNatClampNeg) rM eM_) ⟨rfl, rfl⟩ ⟨Nat.le_of_ble_eq_true rfl, Nat.le_of_ble_eq_true rfl⟩ ⟨hK, hN⟩ hP [50, 51] rfl 50 rfl rfl rfl hl.1 rfl (Nat.le_of_ble_eq_true rfl) ⟨Nat.le_of_ble_eq_true rfl, Nat.le_of_ble_eq_true rfl⟩ dL_law_721 (fun _ => ?_)
  refine lv_icmp_eq (tgt := 1058) hx hb dL_law_724 (by decide) (fun hc => ?_) (fun hc => absurd hr_ hc)
  exact K xa ma _ _ _ _ H locs ls hI2 hP hD hS hl
set_option maxHeartbeats 4000000 in
set_option maxRecDepth 100000 in
theorem lc_singers {p : Program} {l : Launch} {e : Env} {s : State} {m : MethodId} {below : List Frame} {meth : Method} {c : Code} {Q : State → Prop} {D : va_G} {cI cB cZ : ClassId} {adK adV : Nat → Nat} {b L : Nat} {xs : Nat → Int32} (C0 : LX p s m meth c D cI cB cZ adK adV b L xs) {i : Nat} (hi : i + 6 ≤ L) {xa ma : Nat → Nat} {XA : Nat → Nat → Int32} {XI : Nat → Int32} {MA : Nat → Nat → Int32} {MI : Nat → Int32} {H : Heap} {locs : List Loc} {ls : Array Slot} (hI : Inv XA XI MA MI) (hP : va_P D vwCl (wL cI cB cZ xa ma XA XI MA MI) H) (hD : va_D (Age s) (wL cI cB cZ xa ma XA XI MA MI)) (hS : va_S (Age s) s.heap H locs) (hl : lv_has ls 4 [(0, .ref b), (1, .ref (xa 0)), (2, .ref (ma 0)), (3, .int (nI i))]) (K : ∀ (xa ma : Nat → Nat) (XA : Nat → Nat → Int32) (XI : Nat → Int32) (MA : Nat → Nat → Int32) (MI : Nat → Int32) (H : Heap) (locs : List Loc) (ls : Array Slot), Inv XA XI MA MI → va_P D vwCl (wL cI cB cZ xa ma XA XI MA MI) H → va_D (Age s) (wL cI cB cZ xa ma XA XI MA MI) → va_S (Age s) s.heap H locs → lv_has ls 4 [(0, .ref b), (1, .ref (xa 0)), (2, .ref (ma 0)), (3, .int (nI i))] → W p l e room_1 s m #[Value.ref b] below meth c H locs 78 11425 Q (F0 m 1058 ls [])) : W p l e room_1 s m #[Value.ref b] below meth c H locs 78 11425 Q (F0 m 729 ls []) := by
  obtain ⟨⟨hx, hb, hml, hown, hT⟩, ⟨hK, hN⟩, hZ, hX, hbl, hL⟩ := C0
  have hA : ∀ q : Nat, s.heap.size ≤ q → Age s q := fun _ h => h
  have hbA : ¬ Age s b := Nat.not_le.mpr hbl
  have h_1 : vp_in (nI i + 1) L := by rw [show nI i + 1 = nI (i + 1) from nI_add i 1]; exact vp_in_nI (by omega) (by omega)
  obtain ⟨rX, rM, eX_, eM_, hr_, hI2⟩ := pm_singers hI (xs (nI i + 1).toNatClampNeg)
  refine lv_aload_n hx hb dL_law_729 rfl (lv_at hl 1 rfl) ?_
  refine lv_aload_n hx hb dL_law_730 rfl (lv_at hl 0 rfl) ?_
  refine lv_iload_n hx hb dL_law_731 rfl (lv_at hl 3 rfl) ?_
  refine lv_iconst (v := 1) hx hb dL_law_732 (by decide) ?_
  refine lv_iadd hx hb dL_law_733 ?_
  refine va_sld hx hb hX hbl hbA hS h_1 dL_law_734 ?_
  refine rV_RW (As := [.int (xs (nI i + 1).toNatClampNeg)]) (rest := []) (w2 := (wL cI cB cZ xa ma (va_up XA 14 rX.2) XI MA MI)) ⟨hx, hb, hml, hown, hT⟩ (gdV tb_990 tb_991 tb_992 tb_85 tb_993) hd_X11_singers (c_X11_singers l D cI cB cZ (xa 0) (xa 4) (xa 5) (xa 24) (xa 25) (xa 1) (xa 3) (xa 9) (xa 14) (xa 19) (xa 20) (xa 21) (xa 22) (xa 28) (xa 34) (xa 42) (xa 6) (xa 7) (xa 8) (xa 26) (xa 27) (XI 0) (XI 7) (XI 8) (XI 9) (XI 10) (XI 11) (XA 1) (XA 14) (xs (nI i + 1).toNatClampNeg) H.size rX eX_) ⟨rfl, rfl⟩ ⟨Nat.le_of_ble_eq_true rfl, Nat.le_of_ble_eq_true rfl⟩ ⟨hK, hN⟩ hA hP hD hS [0, 4, 5, 24, 25] [1, 2, 3, 6, 7, 8, 9, 10, 11, 12, 13, 14, 15, 16, 17, 18, 19, 20, 21, 22, 23, 26, 27, 28, 29, 30, 31, 32, 33, 34, 35, 36, 37, 38, 39, 40, 41, 42, 43, 44, 45, 46, 47, 48, 49, 50, 51, 52, 53, 54, 55, 56, 57, 58, 59, 60, 61, 62, 63, 64, 65, 66, 67, 68, 69, 70, 71, 72, 73, 74, 75, 76, 77] rfl (by decide) (wr := [_, _, _, _, _, _, _, _, _, _, _, _, _, _, _, _, _, _, _, _, _, _, _, _, _, _, _, _, _, _, _, _, _, _, _, _, _, _, _, _, _, _, _, _, _, _, _, _, _, _, _, _, _, _, _, _, _, _, _, _, _, _, _, _, _, _, _, _, _, _, _, _, _]) rfl (by decide) (by decide) [73, 0, 1, 2, 74, 75, 3, 4, 5, 6, 7, 8, 9, 10, 11, 12, 13, 14, 15, 16, 17, 18, 19, 20, 76, 77, 21, 22, 23, 24, 25, 26, 27, 28, 29, 30, 31, 32, 33, 34, 35, 36, 37, 38, 39, 40, 41, 42, 43, 44, 45, 46, 47, 48, 49, 50, 51, 52, 53, 54, 55, 56, 57, 58, 59, 60, 61, 62, 63, 64, 65, 66, 67, 68, 69, 70, 71, 72] rfl (by decide) 0 rfl rfl rfl hl.1 rfl (Nat.le_of_ble_eq_true rfl) ⟨Nat.le_of_ble_eq_true rfl, Nat.le_of_ble_eq_true rfl⟩ dL_law_735 (fun H locs hP hD hS _ => ?_)
  refine lv_aload_n hx hb dL_law_738 rfl (lv_at hl 2 rfl) ?_
  refine lv_aload_n hx hb dL_law_739 rfl (lv_at hl 0 rfl) ?_
  refine lv_iload_n hx hb dL_law_740 rfl (lv_at hl 3 rfl) ?_
  refine lv_iconst (v := 1) hx hb dL_law_741 (by decide) ?_
  refine lv_iadd hx hb dL_law_742 ?_
  refine va_sld hx hb hX hbl hbA hS h_1 dL_law_743 ?_
  refine rV_RW (As := [.int (xs (nI i + 1).toNatClampNeg)]) (rest := [.int rX.1]) (w2 := (wL cI cB cZ xa ma (va_up XA 14 rX.2) XI (va_up MA 20 rM.2) MI)) ⟨hx, hb, hml, hown, hT⟩ (gdV tb_1592 tb_1593 tb_1594 tb_97 tb_1595) hd_X12_singers (c_X12_singers l D cI cB cZ (ma 0) (ma 1) (ma 21) (ma 2) (ma 3) (ma 4) (ma 5) (ma 6) (ma 7) (ma 8) (ma 9) (ma 10) (ma 11) (ma 12) (ma 13) (ma 14) (ma 15) (ma 16) (ma 17) (ma 18) (ma 19) (ma 20) (ma 22) (ma 23) (ma 24) (ma 25) (ma 26) (ma 27) (MI 0) (MI 1) (MI 2) (MI 3) (MI 4) (MI 5) (MI 6) (MI 7) (MI 8) (MI 9) (MI 10) (MI 11) (MI 12) (MI 13) (MI 14) (MI 15) (MA 0) (MA 20) (xs (nI i + 1).toNatClampNeg) H.size rM eM_) ⟨rfl, rfl⟩ ⟨Nat.le_of_ble_eq_true rfl, Nat.le_of_ble_eq_true rfl⟩ ⟨hK, hN⟩ hA hP hD hS [50, 51, 71] [0, 1, 2, 3, 4, 5, 6, 7, 8, 9, 10, 11, 12, 13, 14, 15, 16, 17, 18, 19, 20, 21, 22, 23, 24, 25, 26, 27, 28, 29, 30, 31, 32, 33, 34, 35, 36, 37, 38, 39, 40, 41, 42, 43, 44, 45, 46, 47, 48, 49, 52, 53, 54, 55, 56, 57, 58, 59, 60, 61, 62, 63, 64, 65, 66, 67, 68, 69, 70, 72, 73, 74, 75, 76, 77] rfl (by decide) (wr := [_, _, _, _, _, _, _, _, _, _, _, _, _, _, _, _, _, _, _, _, _, _, _, _, _, _, _, _, _, _, _, _, _, _, _, _, _, _, _, _, _, _, _, _, _, _, _, _, _, _, _, _, _, _, _, _, _, _, _, _, _, _, _, _, _, _, _, _, _, _, _, _, _, _, _]) rfl (by decide) (by decide) [0, 1, 2, 3, 4, 5, 6, 7, 8, 9, 10, 11, 12, 13, 14, 15, 16, 17, 18, 19, 20, 21, 22, 23, 24, 25, 26, 27, 28, 29, 30, 31, 32, 33, 34, 35, 36, 37, 38, 39, 40, 41, 42, 43, 44, 45, 46, 47, 48, 49, 75, 76, 50, 51, 52, 53, 54, 55, 56, 57, 58, 59, 60, 61, 62, 63, 64, 65, 66, 67, 68, 77, 69, 70, 71, 72, 73, 74] rfl (by decide) 50 rfl rfl rfl hl.1 rfl (Nat.le_of_ble_eq_true rfl) ⟨Nat.le_of_ble_eq_true rfl, Nat.le_of_ble_eq_true rfl⟩ dL_law_744 (fun H locs hP hD hS _ => ?_)
  refine lv_icmp_eq (tgt := 1058) hx hb dL_law_747 (by decide) (fun hc => ?_) (fun hc => absurd hr_ hc)
  exact K xa ma _ _ _ _ H locs ls hI2 hP hD hS hl
set_option maxHeartbeats 4000000 in
set_option maxRecDepth 100000 in
theorem lc_strangers {p : Program} {l : Launch} {e : Env} {s : State} {m : MethodId} {below : List Frame} {meth : Method} {c : Code} {Q : State → Prop} {D : va_G} {cI cB cZ : ClassId} {adK adV : Nat → Nat} {b L : Nat} {xs : Nat → Int32} (C0 : LX p s m meth c D cI cB cZ adK adV b L xs) {i : Nat} (hi : i + 6 ≤ L) {xa ma : Nat → Nat} {XA : Nat → Nat → Int32} {XI : Nat → Int32} {MA : Nat → Nat → Int32} {MI : Nat → Int32} {H : Heap} {locs : List Loc} {ls : Array Slot} (hI : Inv XA XI MA MI) (hP : va_P D vwCl (wL cI cB cZ xa ma XA XI MA MI) H) (hD : va_D (Age s) (wL cI cB cZ xa ma XA XI MA MI)) (hS : va_S (Age s) s.heap H locs) (hl : lv_has ls 4 [(0, .ref b), (1, .ref (xa 0)), (2, .ref (ma 0)), (3, .int (nI i))]) (K : ∀ (xa ma : Nat → Nat) (XA : Nat → Nat → Int32) (XI : Nat → Int32) (MA : Nat → Nat → Int32) (MI : Nat → Int32) (H : Heap) (locs : List Loc) (ls : Array Slot), Inv XA XI MA MI → va_P D vwCl (wL cI cB cZ xa ma XA XI MA MI) H → va_D (Age s) (wL cI cB cZ xa ma XA XI MA MI) → va_S (Age s) s.heap H locs → lv_has ls 4 [(0, .ref b), (1, .ref (xa 0)), (2, .ref (ma 0)), (3, .int (nI i))] → W p l e room_1 s m #[Value.ref b] below meth c H locs 78 11425 Q (F0 m 1058 ls [])) : W p l e room_1 s m #[Value.ref b] below meth c H locs 78 11425 Q (F0 m 752 ls []) := by
  obtain ⟨⟨hx, hb, hml, hown, hT⟩, ⟨hK, hN⟩, hZ, hX, hbl, hL⟩ := C0
  have hA : ∀ q : Nat, s.heap.size ≤ q → Age s q := fun _ h => h
  have hbA : ¬ Age s b := Nat.not_le.mpr hbl
  have h_1 : vp_in (nI i + 1) L := by rw [show nI i + 1 = nI (i + 1) from nI_add i 1]; exact vp_in_nI (by omega) (by omega)
  obtain ⟨rX, rM, eX_, eM_, hr_, hI2⟩ := pm_strangers hI (xs (nI i + 1).toNatClampNeg)
  refine lv_aload_n hx hb dL_law_752 rfl (lv_at hl 1 rfl) ?_
  refine lv_aload_n hx hb dL_law_753 rfl (lv_at hl 0 rfl) ?_
  refine lv_iload_n hx hb dL_law_754 rfl (lv_at hl 3 rfl) ?_
  refine lv_iconst (v := 1) hx hb dL_law_755 (by decide) ?_
  refine lv_iadd hx hb dL_law_756 ?_
  refine va_sld hx hb hX hbl hbA hS h_1 dL_law_757 ?_
  refine rV_RO (As := [.int (xs (nI i + 1).toNatClampNeg)]) (rest := []) ⟨hx, hb, hml, hown, hT⟩ (gdV tb_1009 tb_1010 tb_1011 tb_85 tb_1012) hd_X11_strangers (c_X11_strangers l D cI cB cZ (xa 0) (xa 4) (xa 5) (xa 24) (xa 1) (xa 3) (xa 9) (xa 14) (xa 19) (xa 20) (xa 21) (xa 22) (xa 28) (xa 34) (xa 42) (xa 6) (xa 7) (xa 8) (xa 25) (xa 26) (xa 27) (XI 0) (XI 7) (XI 8) (XI 9) (XI 10) (XI 11) (XA 1) (xs (nI i + 1).toNatClampNeg) rX eX_) ⟨rfl, rfl⟩ ⟨Nat.le_of_ble_eq_true rfl, Nat.le_of_ble_eq_true rfl⟩ ⟨hK, hN⟩ hP [0, 4, 5, 24] rfl 0 rfl rfl rfl hl.1 rfl (Nat.le_of_ble_eq_true rfl) ⟨Nat.le_of_ble_eq_true rfl, Nat.le_of_ble_eq_true rfl⟩ dL_law_758 (fun _ => ?_)
  refine lv_aload_n hx hb dL_law_761 rfl (lv_at hl 2 rfl) ?_
  refine lv_aload_n hx hb dL_law_762 rfl (lv_at hl 0 rfl) ?_
  refine lv_iload_n hx hb dL_law_763 rfl (lv_at hl 3 rfl) ?_
  refine lv_iconst (v := 1) hx hb dL_law_764 (by decide) ?_
  refine lv_iadd hx hb dL_law_765 ?_
  refine va_sld hx hb hX hbl hbA hS h_1 dL_law_766 ?_
  refine rV_RO (As := [.int (xs (nI i + 1).toNatClampNeg)]) (rest := [.int rX]) ⟨hx, hb, hml, hown, hT⟩ (gdV tb_1596 tb_1597 tb_1598 tb_97 tb_1599) hd_X12_strangers (c_X12_strangers l D cI cB cZ (ma 0) (ma 1) (ma 2) (ma 3) (ma 4) (ma 5) (ma 6) (ma 7) (ma 8) (ma 9) (ma 10) (ma 11) (ma 12) (ma 13) (ma 14) (ma 15) (ma 16) (ma 17) (ma 18) (ma 19) (ma 20) (ma 21) (ma 22) (ma 23) (ma 24) (ma 25) (ma 26) (ma 27) (MI 0) (MI 1) (MI 2) (MI 3) (MI 4) (MI 5) (MI 6) (MI 7) (MI 8) (MI 9) (MI 10) (MI 11) (MI 12) (MI 13) (MI 14) (MI 15) (MA 0) (xs (nI i + 1).toNatClampNeg) rM eM_) ⟨rfl, rfl⟩ ⟨Nat.le_of_ble_eq_true rfl, Nat.le_of_ble_eq_true rfl⟩ ⟨hK, hN⟩ hP [50, 51] rfl 50 rfl rfl rfl hl.1 rfl (Nat.le_of_ble_eq_true rfl) ⟨Nat.le_of_ble_eq_true rfl, Nat.le_of_ble_eq_true rfl⟩ dL_law_767 (fun _ => ?_)
  refine lv_icmp_eq (tgt := 1058) hx hb dL_law_770 (by decide) (fun hc => ?_) (fun hc => absurd hr_ hc)
  exact K xa ma _ _ _ _ H locs ls hI2 hP hD hS hl
set_option maxHeartbeats 4000000 in
set_option maxRecDepth 100000 in
theorem lc_inLine {p : Program} {l : Launch} {e : Env} {s : State} {m : MethodId} {below : List Frame} {meth : Method} {c : Code} {Q : State → Prop} {D : va_G} {cI cB cZ : ClassId} {adK adV : Nat → Nat} {b L : Nat} {xs : Nat → Int32} (C0 : LX p s m meth c D cI cB cZ adK adV b L xs) {i : Nat} (hi : i + 6 ≤ L) {xa ma : Nat → Nat} {XA : Nat → Nat → Int32} {XI : Nat → Int32} {MA : Nat → Nat → Int32} {MI : Nat → Int32} {H : Heap} {locs : List Loc} {ls : Array Slot} (hI : Inv XA XI MA MI) (hP : va_P D vwCl (wL cI cB cZ xa ma XA XI MA MI) H) (hD : va_D (Age s) (wL cI cB cZ xa ma XA XI MA MI)) (hS : va_S (Age s) s.heap H locs) (hl : lv_has ls 4 [(0, .ref b), (1, .ref (xa 0)), (2, .ref (ma 0)), (3, .int (nI i))]) (K : ∀ (xa ma : Nat → Nat) (XA : Nat → Nat → Int32) (XI : Nat → Int32) (MA : Nat → Nat → Int32) (MI : Nat → Int32) (H : Heap) (locs : List Loc) (ls : Array Slot), Inv XA XI MA MI → va_P D vwCl (wL cI cB cZ xa ma XA XI MA MI) H → va_D (Age s) (wL cI cB cZ xa ma XA XI MA MI) → va_S (Age s) s.heap H locs → lv_has ls 4 [(0, .ref b), (1, .ref (xa 0)), (2, .ref (ma 0)), (3, .int (nI i))] → W p l e room_1 s m #[Value.ref b] below meth c H locs 78 11425 Q (F0 m 1058 ls [])) : W p l e room_1 s m #[Value.ref b] below meth c H locs 78 11425 Q (F0 m 775 ls []) := by
  obtain ⟨⟨hx, hb, hml, hown, hT⟩, ⟨hK, hN⟩, hZ, hX, hbl, hL⟩ := C0
  have hA : ∀ q : Nat, s.heap.size ≤ q → Age s q := fun _ h => h
  have hbA : ¬ Age s b := Nat.not_le.mpr hbl
  have h_1 : vp_in (nI i + 1) L := by rw [show nI i + 1 = nI (i + 1) from nI_add i 1]; exact vp_in_nI (by omega) (by omega)
  obtain ⟨rX, rM, eX_, eM_, hr_, hI2⟩ := pm_inLine hI (xs (nI i + 1).toNatClampNeg)
  refine lv_aload_n hx hb dL_law_775 rfl (lv_at hl 1 rfl) ?_
  refine lv_aload_n hx hb dL_law_776 rfl (lv_at hl 0 rfl) ?_
  refine lv_iload_n hx hb dL_law_777 rfl (lv_at hl 3 rfl) ?_
  refine lv_iconst (v := 1) hx hb dL_law_778 (by decide) ?_
  refine lv_iadd hx hb dL_law_779 ?_
  refine va_sld hx hb hX hbl hbA hS h_1 dL_law_780 ?_
  refine rV_RO (As := [.int (xs (nI i + 1).toNatClampNeg)]) (rest := []) ⟨hx, hb, hml, hown, hT⟩ (gdV tb_1021 tb_1022 tb_1023 tb_85 tb_1024) hd_X11_inLine (c_X11_inLine l D cI cB cZ (xa 0) (xa 4) (xa 8) (xa 24) (xa 1) (xa 3) (xa 9) (xa 14) (xa 19) (xa 20) (xa 21) (xa 22) (xa 28) (xa 34) (xa 42) (xa 5) (xa 6) (xa 7) (xa 25) (xa 26) (xa 27) (XI 0) (XI 7) (XI 8) (XI 9) (XI 10) (XI 11) (XA 4) (xs (nI i + 1).toNatClampNeg) rX eX_) ⟨rfl, rfl⟩ ⟨Nat.le_of_ble_eq_true rfl, Nat.le_of_ble_eq_true rfl⟩ ⟨hK, hN⟩ hP [0, 4, 8, 24] rfl 0 rfl rfl rfl hl.1 rfl (Nat.le_of_ble_eq_true rfl) ⟨Nat.le_of_ble_eq_true rfl, Nat.le_of_ble_eq_true rfl⟩ dL_law_781 (fun _ => ?_)
  refine lv_aload_n hx hb dL_law_784 rfl (lv_at hl 2 rfl) ?_
  refine lv_aload_n hx hb dL_law_785 rfl (lv_at hl 0 rfl) ?_
  refine lv_iload_n hx hb dL_law_786 rfl (lv_at hl 3 rfl) ?_
  refine lv_iconst (v := 1) hx hb dL_law_787 (by decide) ?_
  refine lv_iadd hx hb dL_law_788 ?_
  refine va_sld hx hb hX hbl hbA hS h_1 dL_law_789 ?_
  refine rV_RO (As := [.int (xs (nI i + 1).toNatClampNeg)]) (rest := [.int rX]) ⟨hx, hb, hml, hown, hT⟩ (gdV tb_1604 tb_1605 tb_1606 tb_97 tb_1607) hd_X12_inLine (c_X12_inLine l D cI cB cZ (ma 0) (ma 1) (ma 2) (ma 3) (ma 4) (ma 5) (ma 6) (ma 7) (ma 8) (ma 9) (ma 10) (ma 11) (ma 12) (ma 13) (ma 14) (ma 15) (ma 16) (ma 17) (ma 18) (ma 19) (ma 20) (ma 21) (ma 22) (ma 23) (ma 24) (ma 25) (ma 26) (ma 27) (MI 0) (MI 1) (MI 2) (MI 3) (MI 4) (MI 5) (MI 6) (MI 7) (MI 8) (MI 9) (MI 10) (MI 11) (MI 12) (MI 13) (MI 14) (MI 15) (MA 0) (xs (nI i + 1).toNatClampNeg) rM eM_) ⟨rfl, rfl⟩ ⟨Nat.le_of_ble_eq_true rfl, Nat.le_of_ble_eq_true rfl⟩ ⟨hK, hN⟩ hP [50, 51] rfl 50 rfl rfl rfl hl.1 rfl (Nat.le_of_ble_eq_true rfl) ⟨Nat.le_of_ble_eq_true rfl, Nat.le_of_ble_eq_true rfl⟩ dL_law_790 (fun _ => ?_)
  refine lv_icmp_eq (tgt := 1058) hx hb dL_law_793 (by decide) (fun hc => ?_) (fun hc => absurd hr_ hc)
  exact K xa ma _ _ _ _ H locs ls hI2 hP hD hS hl
