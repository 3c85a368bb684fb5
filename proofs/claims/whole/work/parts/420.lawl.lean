set_option maxHeartbeats 4000000 in
set_option maxRecDepth 100000 in
theorem law_loop {p : Program} {l : Launch} {e : Env} {s : State} {m : MethodId} {below : List Frame} {meth : Method} {c : Code} {Q : State → Prop} {D : va_G} {cI cB cZ : ClassId} {adK adV : Nat → Nat} {b L : Nat} {xs : Nat → Int32} (C0 : LX p s m meth c D cI cB cZ adK adV b L xs) (hend : ∀ (H : Heap) (locs : List Loc) (ls : Array Slot), va_S (Age s) s.heap H locs → W p l e room_1 s m #[Value.ref b] below meth c H locs 78 11425 Q (F0 m 1064 ls [])) : ∀ (n i : Nat), i ≤ L → L + 1 ≤ i + n → ∀ (xa ma : Nat → Nat) (XA : Nat → Nat → Int32) (XI : Nat → Int32) (MA : Nat → Nat → Int32) (MI : Nat → Int32) (H : Heap) (locs : List Loc) (ls : Array Slot), Inv XA XI MA MI → va_P D vwCl (wL cI cB cZ xa ma XA XI MA MI) H → va_D (Age s) (wL cI cB cZ xa ma XA XI MA MI) → va_S (Age s) s.heap H locs → lv_has ls 4 [(0, .ref b), (1, .ref (xa 0)), (2, .ref (ma 0)), (3, .int (nI i))] → W p l e room_1 s m #[Value.ref b] below meth c H locs 78 11425 Q (F0 m 18 ls []) := by
  obtain ⟨⟨hx, hb, hml, hown, hT⟩, ⟨hK, hN⟩, hZ, hX, hbl, hL⟩ := id C0
  have hbA : ¬ Age s b := Nat.not_le.mpr hbl
  intro n
  induction n with
  | zero =>
    intro i h1 h2
    exact absurd h2 (by omega)
  | succ n ih =>
    intro i hi hin xa ma XA XI MA MI H locs ls hI hP hD hS hl
    refine lv_iload_n hx hb dL_law_18 rfl (lv_at hl 3 rfl) ?_
    refine lv_aload_n hx hb dL_law_19 rfl (lv_at hl 0 rfl) ?_
    refine va_slen hx hb hX hbl hbA hS dL_law_20 ?_
    refine lv_bipush (v := 6) hx hb dL_law_21 (by decide) ?_
    refine lv_isub hx hb dL_law_23 ?_
    refine lv_icmp_gt (tgt := 1064) hx hb dL_law_24 (by decide) (fun hc => hend H locs ls hS) (fun hc => ?_)
    have h6 : i + 6 ≤ L := by
      rcases Nat.lt_or_ge L (i + 6) with q | q
      · exfalso
        apply hc
        show nI L - nI 6 < nI i
        apply Int32.lt_iff_toInt_lt.mpr
        rw [pk_sub_toInt (by omega) (by omega), nI_toInt (by omega)]
        omega
      · exact q
    have h0 : vp_in (nI i) L := vp_in_nI (by omega) (by omega)
    have K : ∀ (xa ma : Nat → Nat) (XA : Nat → Nat → Int32) (XI : Nat → Int32) (MA : Nat → Nat → Int32) (MI : Nat → Int32) (H : Heap) (locs : List Loc) (ls : Array Slot), Inv XA XI MA MI → va_P D vwCl (wL cI cB cZ xa ma XA XI MA MI) H → va_D (Age s) (wL cI cB cZ xa ma XA XI MA MI) → va_S (Age s) s.heap H locs → lv_has ls 4 [(0, .ref b), (1, .ref (xa 0)), (2, .ref (ma 0)), (3, .int (nI i))] → W p l e room_1 s m #[Value.ref b] below meth c H locs 78 11425 Q (F0 m 1058 ls []) := by
      intro xa ma XA XI MA MI H locs ls hI hP hD hS hl
      refine lv_iinc (v := nI (i + 6)) (lv' := [(3, .int (nI (i + 6))), (0, .ref b), (1, .ref (xa 0)), (2, .ref (ma 0))]) hx hb dL_law_1058 hl (k := 3) rfl (nI_add i 6) (by decide) rfl (fun ls hl => ?_)
      refine lv_goto (tgt := 18) hx hb dL_law_1061 (by decide) ?_
      exact ih (i + 6) (by omega) (by omega) xa ma XA XI MA MI H locs ls hI hP hD hS (lv_sub hl [1, 2, 3, 0] rfl)
    refine lv_aload_n hx hb dL_law_27 rfl (lv_at hl 0 rfl) ?_
    refine lv_iload_n hx hb dL_law_28 rfl (lv_at hl 3 rfl) ?_
    refine va_sld hx hb hX hbl hbA hS h0 dL_law_29 ?_
    refine lv_bipush (v := 31) hx hb dL_law_30 (by decide) ?_
    refine lv_iand hx hb dL_law_32 ?_
    generalize xs (nI i).toNatClampNeg &&& 31 = y
    by_cases hs_0 : y = 0
    · refine lv_tableIn (off := 135) (tgt := 168) hx hb dL_law_33 (by rw [hs_0]; decide) (by rw [hs_0]; decide) (by rw [hs_0]; rfl) (by decide) ?_
      exact lc_coat C0 h6 hI hP hD hS hl K
    by_cases hs_1 : y = 1
    · refine lv_tableIn (off := 168) (tgt := 201) hx hb dL_law_33 (by rw [hs_1]; decide) (by rw [hs_1]; decide) (by rw [hs_1]; rfl) (by decide) ?_
      exact lc_feed C0 h6 hI hP hD hS hl K
    by_cases hs_2 : y = 2
    · refine lv_tableIn (off := 231) (tgt := 264) hx hb dL_law_33 (by rw [hs_2]; decide) (by rw [hs_2]; decide) (by rw [hs_2]; rfl) (by decide) ?_
      exact lc_law C0 h6 hI hP hD hS hl K
    by_cases hs_3 : y = 3
    · refine lv_tableIn (off := 254) (tgt := 287) hx hb dL_law_33 (by rw [hs_3]; decide) (by rw [hs_3]; decide) (by rw [hs_3]; rfl) (by decide) ?_
      exact lc_list C0 h6 hI hP hD hS hl K
    by_cases hs_4 : y = 4
    · refine lv_tableIn (off := 277) (tgt := 310) hx hb dL_law_33 (by rw [hs_4]; decide) (by rw [hs_4]; decide) (by rw [hs_4]; rfl) (by decide) ?_
      exact lc_moves C0 h6 hI hP hD hS hl K
    by_cases hs_5 : y = 5
    · refine lv_tableIn (off := 300) (tgt := 333) hx hb dL_law_33 (by rw [hs_5]; decide) (by rw [hs_5]; decide) (by rw [hs_5]; rfl) (by decide) ?_
      exact lc_come C0 h6 hI hP hD hS hl K
    by_cases hs_6 : y = 6
    · refine lv_tableIn (off := 323) (tgt := 356) hx hb dL_law_33 (by rw [hs_6]; decide) (by rw [hs_6]; decide) (by rw [hs_6]; rfl) (by decide) ?_
      exact lc_tried C0 h6 hI hP hD hS hl K
    by_cases hs_7 : y = 7
    · refine lv_tableIn (off := 356) (tgt := 389) hx hb dL_law_33 (by rw [hs_7]; decide) (by rw [hs_7]; decide) (by rw [hs_7]; rfl) (by decide) ?_
      exact lc_guestAt C0 h6 hI hP hD hS hl K
    by_cases hs_8 : y = 8
    · refine lv_tableIn (off := 389) (tgt := 422) hx hb dL_law_33 (by rw [hs_8]; decide) (by rw [hs_8]; decide) (by rw [hs_8]; rfl) (by decide) ?_
      exact lc_coatAt C0 h6 hI hP hD hS hl K
    by_cases hs_9 : y = 9
    · refine lv_tableIn (off := 412) (tgt := 445) hx hb dL_law_33 (by rw [hs_9]; decide) (by rw [hs_9]; decide) (by rw [hs_9]; rfl) (by decide) ?_
      exact lc_pew C0 h6 hI hP hD hS hl K
    by_cases hs_10 : y = 10
    · refine lv_tableIn (off := 455) (tgt := 488) hx hb dL_law_33 (by rw [hs_10]; decide) (by rw [hs_10]; decide) (by rw [hs_10]; rfl) (by decide) ?_
      exact lc_torn C0 h6 hI hP hD hS hl K
    by_cases hs_11 : y = 11
    · refine lv_tableIn (off := 468) (tgt := 501) hx hb dL_law_33 (by rw [hs_11]; decide) (by rw [hs_11]; decide) (by rw [hs_11]; rfl) (by decide) ?_
      exact lc_together C0 h6 hI hP hD hS hl K
    by_cases hs_12 : y = 12
    · refine lv_tableIn (off := 501) (tgt := 534) hx hb dL_law_33 (by rw [hs_12]; decide) (by rw [hs_12]; decide) (by rw [hs_12]; rfl) (by decide) ?_
      exact lc_seesNothing C0 h6 hI hP hD hS hl K
    by_cases hs_13 : y = 13
    · refine lv_tableIn (off := 524) (tgt := 557) hx hb dL_law_33 (by rw [hs_13]; decide) (by rw [hs_13]; decide) (by rw [hs_13]; rfl) (by decide) ?_
      exact lc_even C0 h6 hI hP hD hS hl K
    by_cases hs_14 : y = 14
    · refine lv_tableIn (off := 577) (tgt := 610) hx hb dL_law_33 (by rw [hs_14]; decide) (by rw [hs_14]; decide) (by rw [hs_14]; rfl) (by decide) ?_
      exact lc_order C0 h6 hI hP hD hS hl K
    by_cases hs_15 : y = 15
    · refine lv_tableIn (off := 620) (tgt := 653) hx hb dL_law_33 (by rw [hs_15]; decide) (by rw [hs_15]; decide) (by rw [hs_15]; rfl) (by decide) ?_
      exact lc_moreFit C0 h6 hI hP hD hS hl K
    by_cases hs_16 : y = 16
    · refine lv_tableIn (off := 653) (tgt := 686) hx hb dL_law_33 (by rw [hs_16]; decide) (by rw [hs_16]; decide) (by rw [hs_16]; rfl) (by decide) ?_
      exact lc_fathers C0 h6 hI hP hD hS hl K
    by_cases hs_17 : y = 17
    · refine lv_tableIn (off := 696) (tgt := 729) hx hb dL_law_33 (by rw [hs_17]; decide) (by rw [hs_17]; decide) (by rw [hs_17]; rfl) (by decide) ?_
      exact lc_singers C0 h6 hI hP hD hS hl K
    by_cases hs_18 : y = 18
    · refine lv_tableIn (off := 719) (tgt := 752) hx hb dL_law_33 (by rw [hs_18]; decide) (by rw [hs_18]; decide) (by rw [hs_18]; rfl) (by decide) ?_
      exact lc_strangers C0 h6 hI hP hD hS hl K
    by_cases hs_19 : y = 19
    · refine lv_tableIn (off := 742) (tgt := 775) hx hb dL_law_33 (by rw [hs_19]; decide) (by rw [hs_19]; decide) (by rw [hs_19]; rfl) (by decide) ?_
      exact lc_inLine C0 h6 hI hP hD hS hl K
    by_cases hs_20 : y = 20
    · refine lv_tableIn (off := 765) (tgt := 798) hx hb dL_law_33 (by rw [hs_20]; decide) (by rw [hs_20]; decide) (by rw [hs_20]; rfl) (by decide) ?_
      exact lc_edge C0 h6 hI hP hD hS hl K
    by_cases hs_21 : y = 21
    · refine lv_tableIn (off := 788) (tgt := 821) hx hb dL_law_33 (by rw [hs_21]; decide) (by rw [hs_21]; decide) (by rw [hs_21]; rfl) (by decide) ?_
      exact lc_ushers C0 h6 hI hP hD hS hl K
    by_cases hs_22 : y = 22
    · refine lv_tableIn (off := 831) (tgt := 864) hx hb dL_law_33 (by rw [hs_22]; decide) (by rw [hs_22]; decide) (by rw [hs_22]; rfl) (by decide) ?_
      exact lc_leastTime C0 h6 hI hP hD hS hl K
    by_cases hs_23 : y = 23
    · refine lv_tableIn (off := 864) (tgt := 897) hx hb dL_law_33 (by rw [hs_23]; decide) (by rw [hs_23]; decide) (by rw [hs_23]; rfl) (by decide) ?_
      exact lc_photo C0 h6 hI hP hD hS hl K
    by_cases hs_24 : y = 24
    · refine lv_tableIn (off := 887) (tgt := 920) hx hb dL_law_33 (by rw [hs_24]; decide) (by rw [hs_24]; decide) (by rw [hs_24]; rfl) (by decide) ?_
      exact lc_hats C0 h6 hI hP hD hS hl K
    by_cases hs_25 : y = 25
    · refine lv_tableIn (off := 920) (tgt := 953) hx hb dL_law_33 (by rw [hs_25]; decide) (by rw [hs_25]; decide) (by rw [hs_25]; rfl) (by decide) ?_
      exact lc_seed C0 h6 hI hP hD hS hl K
    by_cases hs_26 : y = 26
    · refine lv_tableIn (off := 943) (tgt := 976) hx hb dL_law_33 (by rw [hs_26]; decide) (by rw [hs_26]; decide) (by rw [hs_26]; rfl) (by decide) ?_
      exact lc_keep C0 h6 hI hP hD hS hl K
    by_cases hs_27 : y = 27
    · refine lv_tableIn (off := 956) (tgt := 989) hx hb dL_law_33 (by rw [hs_27]; decide) (by rw [hs_27]; decide) (by rw [hs_27]; rfl) (by decide) ?_
      exact lc_undo C0 h6 hI hP hD hS hl K
    by_cases hs_28 : y = 28
    · refine lv_tableIn (off := 969) (tgt := 1002) hx hb dL_law_33 (by rw [hs_28]; decide) (by rw [hs_28]; decide) (by rw [hs_28]; rfl) (by decide) ?_
      exact lc_check C0 h6 hI hP hD hS hl K
    by_cases hs_29 : y = 29
    · refine lv_tableIn (off := 1002) (tgt := 1035) hx hb dL_law_33 (by rw [hs_29]; decide) (by rw [hs_29]; decide) (by rw [hs_29]; rfl) (by decide) ?_
      exact lc_count C0 h6 hI hP hD hS hl K
    refine lv_tableOut (tgt := 1058) hx hb dL_law_33 (ts_out 0 30 (by decide) (by decide) (fun k hk => match k, hk with | 0, _ => hs_0 | 1, _ => hs_1 | 2, _ => hs_2 | 3, _ => hs_3 | 4, _ => hs_4 | 5, _ => hs_5 | 6, _ => hs_6 | 7, _ => hs_7 | 8, _ => hs_8 | 9, _ => hs_9 | 10, _ => hs_10 | 11, _ => hs_11 | 12, _ => hs_12 | 13, _ => hs_13 | 14, _ => hs_14 | 15, _ => hs_15 | 16, _ => hs_16 | 17, _ => hs_17 | 18, _ => hs_18 | 19, _ => hs_19 | 20, _ => hs_20 | 21, _ => hs_21 | 22, _ => hs_22 | 23, _ => hs_23 | 24, _ => hs_24 | 25, _ => hs_25 | 26, _ => hs_26 | 27, _ => hs_27 | 28, _ => hs_28 | 29, _ => hs_29 | k + 30, hk => absurd hk (by omega))) (by decide) ?_
    exact K xa ma XA XI MA MI H locs ls hI hP hD hS hl
