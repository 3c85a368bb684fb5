def f_X12_seesNot (t_now : (Nat → Int32)) (x1 : Int32) : Option (Int32) := (f_X12_isTaken t_now x1).bind (fun z2 => (if z2 = 0 then some (0) else (if (jrem x1 72) < 9 then some (0) else (f_X12_isTaken t_now (x1 - 9)).bind (fun z22 => (if z22 = 0 then some (0) else ix 637 ((0 + x1) - 9) ((f_X12_heightOf (t_now ((0 + x1) - 9).toNatClampNeg)).bind (fun z39 => ix 637 (0 + x1) ((f_X12_heightOf (t_now (0 + x1).toNatClampNeg)).bind (fun z50 => (if z39 ≤ z50 then some (0) else some (1)))))))))))
def w_X12_seesNot (cI cB cZ : ClassId) (a_t : Nat) (a_t_now : Nat) (a_t_aside : Nat) (a_t_kept : Nat) (a_t_tape : Nat) (a_t_said : Nat) (a_t_waitsAt : Nat) (a_t_saidLetter : Nat) (a_t_saidFrom : Nat) (a_t_saidHalf : Nat) (a_t_saidTo : Nat) (a_t_codes : Nat) (a_t_clauseOf : Nat) (a_t_codeFrom : Nat) (a_t_codeHalf : Nat) (a_t_codeTo : Nat) (a_t_stack : Nat) (a_t_facts : Nat) (a_t_newLine : Nat) (a_t_canSit : Nat) (a_t_canNext : Nat) (a_t_singersIn : Nat) (a_t_freeAt : Nat) (a_t_beginsAt : Nat) (a_t_leastBy : Nat) (a_t_mostBy : Nat) (a_t_mostNext : Nat) (a_t_risesTo : Nat) (t_taped : Int32) (t_place0 : Int32) (t_length0 : Int32) (t_fault : Int32) (t_number0 : Int32) (t_open : Int32) (t_codeMany : Int32) (t_waiting : Int32) (t_saidMany : Int32) (t_clauses : Int32) (t_newMany : Int32) (t_lines : Int32) (t_stoodNow : Int32) (t_lastSeat : Int32) (t_climbedNow : Int32) (t_isKept : Int32) (t_now : (Nat → Int32)) : va_W := [(a_t, .inr (11, [.ref a_t_now, .ref a_t_aside, .ref a_t_kept, .ref a_t_tape, .int t_taped, .int t_place0, .int t_length0, .int t_fault, .int t_number0, .int t_open, .int t_codeMany, .int t_waiting, .int t_saidMany, .int t_clauses, .ref a_t_said, .ref a_t_waitsAt, .ref a_t_saidLetter, .ref a_t_saidFrom, .ref a_t_saidHalf, .ref a_t_saidTo, .ref a_t_codes, .ref a_t_clauseOf, .ref a_t_codeFrom, .ref a_t_codeHalf, .ref a_t_codeTo, .ref a_t_stack, .ref a_t_facts, .ref a_t_newLine, .int t_newMany, .int t_lines, .int t_stoodNow, .int t_lastSeat, .int t_climbedNow, .ref a_t_canSit, .ref a_t_canNext, .ref a_t_singersIn, .ref a_t_freeAt, .ref a_t_beginsAt, .ref a_t_leastBy, .ref a_t_mostBy, .ref a_t_mostNext, .ref a_t_risesTo, .int t_isKept])), (a_t_now, .inl (cI, 637, .inl t_now))]
set_option maxHeartbeats 4000000 in
set_option maxRecDepth 100000 in
theorem b_X12_seesNot {p : Program} {l : Launch} {e : Env} {R : Room} {s : State} {m : MethodId} {args : Array Value} {below : List Frame} {meth : Method} {c : Code} {Q : State → Prop} {D : va_G} {cI cB cZ : ClassId} (hx : p.tables.exec = Jvm.exec) (hb : c.code = cX12_seesNot) (hml : c.maxLocals = 2) (hown : s.vm.findClass RX12 = some m.cls) (hT : ∀ w ∈ TB, w.before args s = true) (hRf : (1) ≤ R.frames) (hRl : (21) ≤ R.locals) (hK : va_K D vwCl (tyL cI cB cZ) s) (hN : NW s)  (a_t : Nat) (a_t_now : Nat) (a_t_aside : Nat) (a_t_kept : Nat) (a_t_tape : Nat) (a_t_said : Nat) (a_t_waitsAt : Nat) (a_t_saidLetter : Nat) (a_t_saidFrom : Nat) (a_t_saidHalf : Nat) (a_t_saidTo : Nat) (a_t_codes : Nat) (a_t_clauseOf : Nat) (a_t_codeFrom : Nat) (a_t_codeHalf : Nat) (a_t_codeTo : Nat) (a_t_stack : Nat) (a_t_facts : Nat) (a_t_newLine : Nat) (a_t_canSit : Nat) (a_t_canNext : Nat) (a_t_singersIn : Nat) (a_t_freeAt : Nat) (a_t_beginsAt : Nat) (a_t_leastBy : Nat) (a_t_mostBy : Nat) (a_t_mostNext : Nat) (a_t_risesTo : Nat) (t_taped : Int32) (t_place0 : Int32) (t_length0 : Int32) (t_fault : Int32) (t_number0 : Int32) (t_open : Int32) (t_codeMany : Int32) (t_waiting : Int32) (t_saidMany : Int32) (t_clauses : Int32) (t_newMany : Int32) (t_lines : Int32) (t_stoodNow : Int32) (t_lastSeat : Int32) (t_climbedNow : Int32) (t_isKept : Int32) (t_now : (Nat → Int32)) (x1 : Int32) (res : Int32) (hf : f_X12_seesNot t_now x1 = some res) (hP : va_P D vwCl (w_X12_seesNot cI cB cZ a_t a_t_now a_t_aside a_t_kept a_t_tape a_t_said a_t_waitsAt a_t_saidLetter a_t_saidFrom a_t_saidHalf a_t_saidTo a_t_codes a_t_clauseOf a_t_codeFrom a_t_codeHalf a_t_codeTo a_t_stack a_t_facts a_t_newLine a_t_canSit a_t_canNext a_t_singersIn a_t_freeAt a_t_beginsAt a_t_leastBy a_t_mostBy a_t_mostNext a_t_risesTo t_taped t_place0 t_length0 t_fault t_number0 t_open t_codeMany t_waiting t_saidMany t_clauses t_newMany t_lines t_stoodNow t_lastSeat t_climbedNow t_isKept t_now) s.heap) (hQ : ∀ (pc : Nat) (ls : Array Slot), (res = 0 ∨ res = 1) → decode cX12_seesNot pc = .ok (.ireturn, 1) → W p l e R s m args below meth c s.heap [] 0 0 Q (F0 m pc ls [.int res])) (ls : Array Slot) (hl : lv_has ls 2 [(0, .ref a_t), (1, .int x1)]) : W p l e R s m args below meth c s.heap [] 0 0 Q (F0 m 0 ls []) := by
  unfold f_X12_seesNot at hf
  refine lv_aload_n hx hb dX12_seesNot_0 rfl (lv_at hl 0 rfl) ?_
  refine lv_iload_n hx hb dX12_seesNot_1 rfl (lv_at hl 1 rfl) ?_
  obtain ⟨z2, e2, hf⟩ := bd_some hf
  refine rV_RO (As := [.int x1]) (rest := []) ⟨hx, hb, hml, hown, hT⟩ (gdV tb_1404 tb_1406 tb_56 tb_97 tb_1407) hd_X12_isTaken (c_X12_isTaken l D cI cB cZ a_t a_t_now a_t_aside a_t_kept a_t_tape a_t_said a_t_waitsAt a_t_saidLetter a_t_saidFrom a_t_saidHalf a_t_saidTo a_t_codes a_t_clauseOf a_t_codeFrom a_t_codeHalf a_t_codeTo a_t_stack a_t_facts a_t_newLine a_t_canSit a_t_canNext a_t_singersIn a_t_freeAt a_t_beginsAt a_t_leastBy a_t_mostBy a_t_mostNext a_t_risesTo t_taped t_place0 t_length0 t_fault t_number0 t_open t_codeMany t_waiting t_saidMany t_clauses t_newMany t_lines t_stoodNow t_lastSeat t_climbedNow t_isKept t_now x1 z2 e2) ⟨rfl, rfl⟩ ⟨Nat.le_trans (by decide) hRf, Nat.le_trans (by decide) hRl⟩ ⟨hK, hN⟩ hP [0, 1] rfl 0 rfl rfl rfl hl.1 rfl (Nat.le_of_ble_eq_true rfl) ⟨Nat.zero_le _, Nat.zero_le _⟩ dX12_seesNot_2 (fun hz_2 => ?_)
  refine lv_if_eq (tgt := 60) hx hb dX12_seesNot_5 (by decide) (fun hc_5 => ?_) (fun hc_5 => ?_)
  · have hf := it_pos hc_5 hf
    refine lv_iconst (v := 0) hx hb dX12_seesNot_60 (by decide) ?_
    obtain rfl := Option.some.inj hf
    exact hQ 61 ls (Or.inl rfl) dX12_seesNot_61
  · have hf := it_neg hc_5 hf
    refine lv_iload_n hx hb dX12_seesNot_8 rfl (lv_at hl 1 rfl) ?_
    refine lv_bipush (v := 72) hx hb dX12_seesNot_9 (by decide) ?_
    refine lv_irem hx hb dX12_seesNot_11 (by decide) ?_
    refine lv_bipush (v := 9) hx hb dX12_seesNot_12 (by decide) ?_
    refine lv_icmp_lt (tgt := 60) hx hb dX12_seesNot_14 (by decide) (fun hc_14 => ?_) (fun hc_14 => ?_)
    · have hf := it_pos hc_14 hf
      refine lv_iconst (v := 0) hx hb dX12_seesNot_60 (by decide) ?_
      obtain rfl := Option.some.inj hf
      exact hQ 61 ls (Or.inl rfl) dX12_seesNot_61
    · have hf := it_neg hc_14 hf
      refine lv_aload_n hx hb dX12_seesNot_17 rfl (lv_at hl 0 rfl) ?_
      refine lv_iload_n hx hb dX12_seesNot_18 rfl (lv_at hl 1 rfl) ?_
      refine lv_bipush (v := 9) hx hb dX12_seesNot_19 (by decide) ?_
      refine lv_isub hx hb dX12_seesNot_21 ?_
      obtain ⟨z22, e22, hf⟩ := bd_some hf
      refine rV_RO (As := [.int (x1 - 9)]) (rest := []) ⟨hx, hb, hml, hown, hT⟩ (gdV tb_1404 tb_1406 tb_56 tb_97 tb_1407) hd_X12_isTaken (c_X12_isTaken l D cI cB cZ a_t a_t_now a_t_aside a_t_kept a_t_tape a_t_said a_t_waitsAt a_t_saidLetter a_t_saidFrom a_t_saidHalf a_t_saidTo a_t_codes a_t_clauseOf a_t_codeFrom a_t_codeHalf a_t_codeTo a_t_stack a_t_facts a_t_newLine a_t_canSit a_t_canNext a_t_singersIn a_t_freeAt a_t_beginsAt a_t_leastBy a_t_mostBy a_t_mostNext a_t_risesTo t_taped t_place0 t_length0 t_fault t_number0 t_open t_codeMany t_waiting t_saidMany t_clauses t_newMany t_lines t_stoodNow t_lastSeat t_climbedNow t_isKept t_now (x1 - 9) z22 e22) ⟨rfl, rfl⟩ ⟨Nat.le_trans (by decide) hRf, Nat.le_trans (by decide) hRl⟩ ⟨hK, hN⟩ hP [0, 1] rfl 0 rfl rfl rfl hl.1 rfl (Nat.le_of_ble_eq_true rfl) ⟨Nat.zero_le _, Nat.zero_le _⟩ dX12_seesNot_22 (fun hz_22 => ?_)
      refine lv_if_eq (tgt := 60) hx hb dX12_seesNot_25 (by decide) (fun hc_25 => ?_) (fun hc_25 => ?_)
      · have hf := it_pos hc_25 hf
        refine lv_iconst (v := 0) hx hb dX12_seesNot_60 (by decide) ?_
        obtain rfl := Option.some.inj hf
        exact hQ 61 ls (Or.inl rfl) dX12_seesNot_61
      · have hf := it_neg hc_25 hf
        refine lv_aload_n hx hb dX12_seesNot_28 rfl (lv_at hl 0 rfl) ?_
        refine va_get (D := D) (ci := 11) (v := .ref a_t_now) (C := RX12) (T := TX12) (N := 43) hx hb hT inX12 hown hK hP 0 rfl rfl 0 (by decide) (hT _ tb_1148) (fun _ h9 => h9) rfl dX12_seesNot_29 ?_
        refine lv_iconst (v := 0) hx hb dX12_seesNot_32 (by decide) ?_
        refine lv_iload_n hx hb dX12_seesNot_33 rfl (lv_at hl 1 rfl) ?_
        refine lv_iadd hx hb dX12_seesNot_34 ?_
        refine lv_bipush (v := 9) hx hb dX12_seesNot_35 (by decide) ?_
        refine lv_isub hx hb dX12_seesNot_37 ?_
        obtain ⟨hi_38, hf⟩ := ix_some hf
        refine va_iald hx hb hK hP 1 0 rfl rfl hi_38 dX12_seesNot_38 ?_
        obtain ⟨z39, e39, hf⟩ := bd_some hf
        refine rS_RO (As := [.int (t_now ((0 + x1) - 9).toNatClampNeg)]) (rest := []) ⟨hx, hb, hml, hown, hT⟩ (gdS tb_1434 tb_1435 tb_97 tb_1436) hd_X12_heightOf (c_X12_heightOf l D cI cB cZ (t_now ((0 + x1) - 9).toNatClampNeg) z39 e39) ⟨rfl, rfl⟩ ⟨Nat.le_trans (by decide) hRf, Nat.le_trans (by decide) hRl⟩ ⟨hK, hN⟩ hP [] rfl rfl hl.1 rfl (Nat.le_of_ble_eq_true rfl) ⟨Nat.zero_le _, Nat.zero_le _⟩ dX12_seesNot_39 (fun _ => ?_)
        refine lv_aload_n hx hb dX12_seesNot_42 rfl (lv_at hl 0 rfl) ?_
        refine va_get (D := D) (ci := 11) (v := .ref a_t_now) (C := RX12) (T := TX12) (N := 43) hx hb hT inX12 hown hK hP 0 rfl rfl 0 (by decide) (hT _ tb_1148) (fun _ h9 => h9) rfl dX12_seesNot_43 ?_
        refine lv_iconst (v := 0) hx hb dX12_seesNot_46 (by decide) ?_
        refine lv_iload_n hx hb dX12_seesNot_47 rfl (lv_at hl 1 rfl) ?_
        refine lv_iadd hx hb dX12_seesNot_48 ?_
        obtain ⟨hi_49, hf⟩ := ix_some hf
        refine va_iald hx hb hK hP 1 0 rfl rfl hi_49 dX12_seesNot_49 ?_
        obtain ⟨z50, e50, hf⟩ := bd_some hf
        refine rS_RO (As := [.int (t_now (0 + x1).toNatClampNeg)]) (rest := [.int z39]) ⟨hx, hb, hml, hown, hT⟩ (gdS tb_1434 tb_1435 tb_97 tb_1436) hd_X12_heightOf (c_X12_heightOf l D cI cB cZ (t_now (0 + x1).toNatClampNeg) z50 e50) ⟨rfl, rfl⟩ ⟨Nat.le_trans (by decide) hRf, Nat.le_trans (by decide) hRl⟩ ⟨hK, hN⟩ hP [] rfl rfl hl.1 rfl (Nat.le_of_ble_eq_true rfl) ⟨Nat.zero_le _, Nat.zero_le _⟩ dX12_seesNot_50 (fun _ => ?_)
        refine lv_icmp_le (tgt := 60) hx hb dX12_seesNot_53 (by decide) (fun hc_53 => ?_) (fun hc_53 => ?_)
        · have hf := it_pos hc_53 hf
          refine lv_iconst (v := 0) hx hb dX12_seesNot_60 (by decide) ?_
          obtain rfl := Option.some.inj hf
          exact hQ 61 ls (Or.inl rfl) dX12_seesNot_61
        · have hf := it_neg hc_53 hf
          refine lv_iconst (v := 1) hx hb dX12_seesNot_56 (by decide) ?_
          refine lv_goto (tgt := 61) hx hb dX12_seesNot_57 (by decide) ?_
          obtain rfl := Option.some.inj hf
          exact hQ 61 ls (Or.inr rfl) dX12_seesNot_61
theorem hd_X12_seesNot : (yX12_seesNot).cls = RX12 ∧ (yX12_seesNot).cls ≠ "java/lang/invoke/MethodHandle" ∧ (yX12_seesNot).cls ≠ "java/lang/invoke/VarHandle" ∧ (parseMethodDescriptor (yX12_seesNot).desc).map (fun d => d.parameters.length) = some 1 := by decide +kernel
theorem c_X12_seesNot (l : Launch) (D : va_G) (cI cB cZ : ClassId) (a_t : Nat) (a_t_now : Nat) (a_t_aside : Nat) (a_t_kept : Nat) (a_t_tape : Nat) (a_t_said : Nat) (a_t_waitsAt : Nat) (a_t_saidLetter : Nat) (a_t_saidFrom : Nat) (a_t_saidHalf : Nat) (a_t_saidTo : Nat) (a_t_codes : Nat) (a_t_clauseOf : Nat) (a_t_codeFrom : Nat) (a_t_codeHalf : Nat) (a_t_codeTo : Nat) (a_t_stack : Nat) (a_t_facts : Nat) (a_t_newLine : Nat) (a_t_canSit : Nat) (a_t_canNext : Nat) (a_t_singersIn : Nat) (a_t_freeAt : Nat) (a_t_beginsAt : Nat) (a_t_leastBy : Nat) (a_t_mostBy : Nat) (a_t_mostNext : Nat) (a_t_risesTo : Nat) (t_taped : Int32) (t_place0 : Int32) (t_length0 : Int32) (t_fault : Int32) (t_number0 : Int32) (t_open : Int32) (t_codeMany : Int32) (t_waiting : Int32) (t_saidMany : Int32) (t_clauses : Int32) (t_newMany : Int32) (t_lines : Int32) (t_stoodNow : Int32) (t_lastSeat : Int32) (t_climbedNow : Int32) (t_isKept : Int32) (t_now : (Nat → Int32)) (x1 : Int32) (res : Int32) (hf : f_X12_seesNot t_now x1 = some res) : Met l yX12_seesNot (.code yX12_seesNot cX12_seesNot 2 (some .boolean) :: TB) (rmk (1) (21)) (pRO [.ref a_t, .int x1] D cI cB cZ (w_X12_seesNot cI cB cZ a_t a_t_now a_t_aside a_t_kept a_t_tape a_t_said a_t_waitsAt a_t_saidLetter a_t_saidFrom a_t_saidHalf a_t_saidTo a_t_codes a_t_clauseOf a_t_codeFrom a_t_codeHalf a_t_codeTo a_t_stack a_t_facts a_t_newLine a_t_canSit a_t_canNext a_t_singersIn a_t_freeAt a_t_beginsAt a_t_leastBy a_t_mostBy a_t_mostNext a_t_risesTo t_taped t_place0 t_length0 t_fault t_number0 t_open t_codeMany t_waiting t_saidMany t_clauses t_newMany t_lines t_stoodNow t_lastSeat t_climbedNow t_isKept t_now)) (qRO (some (.int res)) (res = 0 ∨ res = 1)) 0 0 (fun _ => False) :=
  mkRO (by decide +kernel) (Nat.le_of_ble_eq_true rfl) (fun p e s m below meth c ls S hr hlk hK hP hl => b_X12_seesNot S.1 S.2.1 S.2.2.1 S.2.2.2.1 S.2.2.2.2 (Nat.le_refl _) (Nat.le_refl _) hK.1 hK.2 a_t a_t_now a_t_aside a_t_kept a_t_tape a_t_said a_t_waitsAt a_t_saidLetter a_t_saidFrom a_t_saidHalf a_t_saidTo a_t_codes a_t_clauseOf a_t_codeFrom a_t_codeHalf a_t_codeTo a_t_stack a_t_facts a_t_newLine a_t_canSit a_t_canNext a_t_singersIn a_t_freeAt a_t_beginsAt a_t_leastBy a_t_mostBy a_t_mostNext a_t_risesTo t_taped t_place0 t_length0 t_fault t_number0 t_open t_codeMany t_waiting t_saidMany t_clauses t_newMany t_lines t_stoodNow t_lastSeat t_climbedNow t_isKept t_now x1 res hf hP (fun pc ls hE hd => eRO_i S.1 S.2.1 hr (nz_ok hE) hlk hE hd) ls hl)
def f_X12_seesNothing_21 (t_now : (Nat → Int32)) : Nat → Int32 → Int32 → Int32 → Int32 → Option (Int32)
  | 0, _, _, _, _ => none
  | n + 1, x1, x2, x3, x4 => (if x4 < 0 then (if x1 = 0 then some (x2) else some (x3)) else (f_X12_seesNot t_now x4).bind (fun z29 => (if z29 = 0 then (f_X12_seesNothing_21 t_now n) x1 x2 x3 (x4 + (-1)) else (f_X12_seesNothing_21 t_now n) x1 (x2 + 1) x4 (x4 + (-1)))))
def f_X12_seesNothing (t_now : (Nat → Int32)) (x1 : Int32) : Option (Int32) := (f_X12_in x1 0 1).bind (fun z3 => (if z3 = 0 then some ((-1)) else f_X12_seesNothing_21 t_now FU x1 0 (-2) 143))
def w_X12_seesNothing (cI cB cZ : ClassId) (a_t : Nat) (a_t_now : Nat) (a_t_aside : Nat) (a_t_kept : Nat) (a_t_tape : Nat) (a_t_said : Nat) (a_t_waitsAt : Nat) (a_t_saidLetter : Nat) (a_t_saidFrom : Nat) (a_t_saidHalf : Nat) (a_t_saidTo : Nat) (a_t_codes : Nat) (a_t_clauseOf : Nat) (a_t_codeFrom : Nat) (a_t_codeHalf : Nat) (a_t_codeTo : Nat) (a_t_stack : Nat) (a_t_facts : Nat) (a_t_newLine : Nat) (a_t_canSit : Nat) (a_t_canNext : Nat) (a_t_singersIn : Nat) (a_t_freeAt : Nat) (a_t_beginsAt : Nat) (a_t_leastBy : Nat) (a_t_mostBy : Nat) (a_t_mostNext : Nat) (a_t_risesTo : Nat) (t_taped : Int32) (t_place0 : Int32) (t_length0 : Int32) (t_fault : Int32) (t_number0 : Int32) (t_open : Int32) (t_codeMany : Int32) (t_waiting : Int32) (t_saidMany : Int32) (t_clauses : Int32) (t_newMany : Int32) (t_lines : Int32) (t_stoodNow : Int32) (t_lastSeat : Int32) (t_climbedNow : Int32) (t_isKept : Int32) (t_now : (Nat → Int32)) : va_W := [(a_t, .inr (11, [.ref a_t_now, .ref a_t_aside, .ref a_t_kept, .ref a_t_tape, .int t_taped, .int t_place0, .int t_length0, .int t_fault, .int t_number0, .int t_open, .int t_codeMany, .int t_waiting, .int t_saidMany, .int t_clauses, .ref a_t_said, .ref a_t_waitsAt, .ref a_t_saidLetter, .ref a_t_saidFrom, .ref a_t_saidHalf, .ref a_t_saidTo, .ref a_t_codes, .ref a_t_clauseOf, .ref a_t_codeFrom, .ref a_t_codeHalf, .ref a_t_codeTo, .ref a_t_stack, .ref a_t_facts, .ref a_t_newLine, .int t_newMany, .int t_lines, .int t_stoodNow, .int t_lastSeat, .int t_climbedNow, .ref a_t_canSit, .ref a_t_canNext, .ref a_t_singersIn, .ref a_t_freeAt, .ref a_t_beginsAt, .ref a_t_leastBy, .ref a_t_mostBy, .ref a_t_mostNext, .ref a_t_risesTo, .int t_isKept])), (a_t_now, .inl (cI, 637, .inl t_now))]
set_option maxHeartbeats 4000000 in
set_option maxRecDepth 100000 in
theorem b_X12_seesNothing {p : Program} {l : Launch} {e : Env} {R : Room} {s : State} {m : MethodId} {args : Array Value} {below : List Frame} {meth : Method} {c : Code} {Q : State → Prop} {D : va_G} {cI cB cZ : ClassId} (hx : p.tables.exec = Jvm.exec) (hb : c.code = cX12_seesNothing) (hml : c.maxLocals = 5) (hown : s.vm.findClass RX12 = some m.cls) (hT : ∀ w ∈ TB, w.before args s = true) (hRf : (2) ≤ R.frames) (hRl : (42) ≤ R.locals) (hK : va_K D vwCl (tyL cI cB cZ) s) (hN : NW s)  (a_t : Nat) (a_t_now : Nat) (a_t_aside : Nat) (a_t_kept : Nat) (a_t_tape : Nat) (a_t_said : Nat) (a_t_waitsAt : Nat) (a_t_saidLetter : Nat) (a_t_saidFrom : Nat) (a_t_saidHalf : Nat) (a_t_saidTo : Nat) (a_t_codes : Nat) (a_t_clauseOf : Nat) (a_t_codeFrom : Nat) (a_t_codeHalf : Nat) (a_t_codeTo : Nat) (a_t_stack : Nat) (a_t_facts : Nat) (a_t_newLine : Nat) (a_t_canSit : Nat) (a_t_canNext : Nat) (a_t_singersIn : Nat) (a_t_freeAt : Nat) (a_t_beginsAt : Nat) (a_t_leastBy : Nat) (a_t_mostBy : Nat) (a_t_mostNext : Nat) (a_t_risesTo : Nat) (t_taped : Int32) (t_place0 : Int32) (t_length0 : Int32) (t_fault : Int32) (t_number0 : Int32) (t_open : Int32) (t_codeMany : Int32) (t_waiting : Int32) (t_saidMany : Int32) (t_clauses : Int32) (t_newMany : Int32) (t_lines : Int32) (t_stoodNow : Int32) (t_lastSeat : Int32) (t_climbedNow : Int32) (t_isKept : Int32) (t_now : (Nat → Int32)) (x1 : Int32) (res : Int32) (hf : f_X12_seesNothing t_now x1 = some res) (hP : va_P D vwCl (w_X12_seesNothing cI cB cZ a_t a_t_now a_t_aside a_t_kept a_t_tape a_t_said a_t_waitsAt a_t_saidLetter a_t_saidFrom a_t_saidHalf a_t_saidTo a_t_codes a_t_clauseOf a_t_codeFrom a_t_codeHalf a_t_codeTo a_t_stack a_t_facts a_t_newLine a_t_canSit a_t_canNext a_t_singersIn a_t_freeAt a_t_beginsAt a_t_leastBy a_t_mostBy a_t_mostNext a_t_risesTo t_taped t_place0 t_length0 t_fault t_number0 t_open t_codeMany t_waiting t_saidMany t_clauses t_newMany t_lines t_stoodNow t_lastSeat t_climbedNow t_isKept t_now) s.heap) (hQ : ∀ (pc : Nat) (ls : Array Slot), True → decode cX12_seesNothing pc = .ok (.ireturn, 1) → W p l e R s m args below meth c s.heap [] 0 0 Q (F0 m pc ls [.int res])) (ls : Array Slot) (hl : lv_has ls 5 [(0, .ref a_t), (1, .int x1)]) : W p l e R s m args below meth c s.heap [] 0 0 Q (F0 m 0 ls []) := by
  unfold f_X12_seesNothing at hf
  refine lv_iload_n hx hb dX12_seesNothing_0 rfl (lv_at hl 1 rfl) ?_
  refine lv_iconst (v := 0) hx hb dX12_seesNothing_1 (by decide) ?_
  refine lv_iconst (v := 1) hx hb dX12_seesNothing_2 (by decide) ?_
  obtain ⟨z3, e3, hf⟩ := bd_some hf
  refine rS_RO (As := [.int x1, .int 0, .int 1]) (rest := []) ⟨hx, hb, hml, hown, hT⟩ (gdS tb_1283 tb_1284 tb_97 tb_1285) hd_X12_in (c_X12_in l D cI cB cZ x1 0 1 z3 e3) ⟨rfl, rfl⟩ ⟨Nat.le_trans (by decide) hRf, Nat.le_trans (by decide) hRl⟩ ⟨hK, hN⟩ hP [] rfl rfl hl.1 rfl (Nat.le_of_ble_eq_true rfl) ⟨Nat.zero_le _, Nat.zero_le _⟩ dX12_seesNothing_3 (fun hz_3 => ?_)
  refine lv_if_ne (tgt := 11) hx hb dX12_seesNothing_6 (by decide) (fun hc_6 => ?_) (fun hc_6 => ?_)
  · have hf := it_neg hc_6 hf
    refine lv_iconst (v := 0) hx hb dX12_seesNothing_11 (by decide) ?_
    refine lv_istore_n (lv' := [(2, .int 0), (0, .ref a_t), (1, .int x1)]) hx hb dX12_seesNothing_12 rfl hl (by decide) rfl (fun ls hl => ?_)
    refine lv_bipush (v := (-2)) hx hb dX12_seesNothing_13 (by decide) ?_
    refine lv_istore_n (lv' := [(3, .int (-2)), (2, .int 0), (0, .ref a_t), (1, .int x1)]) hx hb dX12_seesNothing_15 rfl hl (by decide) rfl (fun ls hl => ?_)
    refine lv_sipush (v := 143) hx hb dX12_seesNothing_16 (by decide) ?_
    have J_21 : ∀ (n_21 : Nat) (x1 : Int32) (x2 : Int32) (x3 : Int32) (x4 : Int32) (ls : Array Slot), f_X12_seesNothing_21 t_now n_21 x1 x2 x3 x4 = some res → lv_has ls 5 [(0, .ref a_t), (1, .int x1), (2, .int x2), (3, .int x3), (4, .int x4)] → W p l e R s m args below meth c s.heap [] 0 0 Q (F0 m 21 ls []) := by
      intro n_21
      induction n_21 with
      | zero =>
        intro x1 x2 x3 x4 ls hf hl
        cases hf
      | succ n_21 ih_21 =>
        intro x1 x2 x3 x4 ls hf hl
        unfold f_X12_seesNothing_21 at hf
        refine lv_iload hx hb dX12_seesNothing_21 (lv_at hl 4 rfl) ?_
        refine lv_if_lt (tgt := 51) hx hb dX12_seesNothing_23 (by decide) (fun hc_23 => ?_) (fun hc_23 => ?_)
        · have hf := it_pos hc_23 hf
          refine lv_iload_n hx hb dX12_seesNothing_51 rfl (lv_at hl 1 rfl) ?_
          refine lv_if_ne (tgt := 59) hx hb dX12_seesNothing_52 (by decide) (fun hc_52 => ?_) (fun hc_52 => ?_)
          · have hf := it_neg hc_52 hf
            refine lv_iload_n hx hb dX12_seesNothing_59 rfl (lv_at hl 3 rfl) ?_
            obtain rfl := Option.some.inj hf
            exact hQ 60 ls trivial dX12_seesNothing_60
          · have hf := it_pos hc_52 hf
            refine lv_iload_n hx hb dX12_seesNothing_55 rfl (lv_at hl 2 rfl) ?_
            refine lv_goto (tgt := 60) hx hb dX12_seesNothing_56 (by decide) ?_
            obtain rfl := Option.some.inj hf
            exact hQ 60 ls trivial dX12_seesNothing_60
        · have hf := it_neg hc_23 hf
          refine lv_aload_n hx hb dX12_seesNothing_26 rfl (lv_at hl 0 rfl) ?_
          refine lv_iload hx hb dX12_seesNothing_27 (lv_at hl 4 rfl) ?_
          obtain ⟨z29, e29, hf⟩ := bd_some hf
          refine rV_RO (As := [.int x4]) (rest := []) ⟨hx, hb, hml, hown, hT⟩ (gdV tb_1555 tb_1557 tb_79 tb_97 tb_1558) hd_X12_seesNot (c_X12_seesNot l D cI cB cZ a_t a_t_now a_t_aside a_t_kept a_t_tape a_t_said a_t_waitsAt a_t_saidLetter a_t_saidFrom a_t_saidHalf a_t_saidTo a_t_codes a_t_clauseOf a_t_codeFrom a_t_codeHalf a_t_codeTo a_t_stack a_t_facts a_t_newLine a_t_canSit a_t_canNext a_t_singersIn a_t_freeAt a_t_beginsAt a_t_leastBy a_t_mostBy a_t_mostNext a_t_risesTo t_taped t_place0 t_length0 t_fault t_number0 t_open t_codeMany t_waiting t_saidMany t_clauses t_newMany t_lines t_stoodNow t_lastSeat t_climbedNow t_isKept t_now x4 z29 e29) ⟨rfl, rfl⟩ ⟨Nat.le_trans (by decide) hRf, Nat.le_trans (by decide) hRl⟩ ⟨hK, hN⟩ hP [0, 1] rfl 0 rfl rfl rfl hl.1 rfl (Nat.le_of_ble_eq_true rfl) ⟨Nat.zero_le _, Nat.zero_le _⟩ dX12_seesNothing_29 (fun hz_29 => ?_)
          refine lv_if_ne (tgt := 38) hx hb dX12_seesNothing_32 (by decide) (fun hc_32 => ?_) (fun hc_32 => ?_)
          · have hf := it_neg hc_32 hf
            refine lv_iload_n hx hb dX12_seesNothing_38 rfl (lv_at hl 2 rfl) ?_
            refine lv_iconst (v := 1) hx hb dX12_seesNothing_39 (by decide) ?_
            refine lv_iadd hx hb dX12_seesNothing_40 ?_
            refine lv_istore_n (lv' := [(2, .int (x2 + 1)), (0, .ref a_t), (1, .int x1), (3, .int x3), (4, .int x4)]) hx hb dX12_seesNothing_41 rfl hl (by decide) rfl (fun ls hl => ?_)
            refine lv_iload hx hb dX12_seesNothing_42 (lv_at hl 4 rfl) ?_
            refine lv_istore_n (lv' := [(3, .int x4), (2, .int (x2 + 1)), (0, .ref a_t), (1, .int x1), (4, .int x4)]) hx hb dX12_seesNothing_44 rfl hl (by decide) rfl (fun ls hl => ?_)
            refine lv_iinc (v := x4 + (-1)) (lv' := [(4, .int (x4 + (-1))), (3, .int x4), (2, .int (x2 + 1)), (0, .ref a_t), (1, .int x1)]) hx hb dX12_seesNothing_45 hl (k := 4) rfl (congrArg (_ + ·) (by decide : Int32.ofInt (-1) = (-1))) (by decide) rfl (fun ls hl => ?_)
            refine lv_goto (tgt := 21) hx hb dX12_seesNothing_48 (by decide) ?_
            exact ih_21 _ _ _ _ _ hf (lv_sub hl [3, 4, 2, 1, 0] rfl)
          · have hf := it_pos hc_32 hf
            refine lv_goto (tgt := 45) hx hb dX12_seesNothing_35 (by decide) ?_
            refine lv_iinc (v := x4 + (-1)) (lv' := [(4, .int (x4 + (-1))), (0, .ref a_t), (1, .int x1), (2, .int x2), (3, .int x3)]) hx hb dX12_seesNothing_45 hl (k := 4) rfl (congrArg (_ + ·) (by decide : Int32.ofInt (-1) = (-1))) (by decide) rfl (fun ls hl => ?_)
            refine lv_goto (tgt := 21) hx hb dX12_seesNothing_48 (by decide) ?_
            exact ih_21 _ _ _ _ _ hf (lv_sub hl [1, 2, 3, 4, 0] rfl)
    refine lv_istore (lv' := [(4, .int 143), (3, .int (-2)), (2, .int 0), (0, .ref a_t), (1, .int x1)]) hx hb dX12_seesNothing_19 hl (by decide) rfl (fun ls hl => ?_)
    exact J_21 _ _ _ _ _ _ hf (lv_sub hl [3, 4, 2, 1, 0] rfl)
  · have hf := it_pos hc_6 hf
    refine lv_iconst (v := (-1)) hx hb dX12_seesNothing_9 (by decide) ?_
    obtain rfl := Option.some.inj hf
    exact hQ 10 ls trivial dX12_seesNothing_10
theorem hd_X12_seesNothing : (yX12_seesNothing).cls = RX12 ∧ (yX12_seesNothing).cls ≠ "java/lang/invoke/MethodHandle" ∧ (yX12_seesNothing).cls ≠ "java/lang/invoke/VarHandle" ∧ (parseMethodDescriptor (yX12_seesNothing).desc).map (fun d => d.parameters.length) = some 1 := by decide +kernel
theorem c_X12_seesNothing (l : Launch) (D : va_G) (cI cB cZ : ClassId) (a_t : Nat) (a_t_now : Nat) (a_t_aside : Nat) (a_t_kept : Nat) (a_t_tape : Nat) (a_t_said : Nat) (a_t_waitsAt : Nat) (a_t_saidLetter : Nat) (a_t_saidFrom : Nat) (a_t_saidHalf : Nat) (a_t_saidTo : Nat) (a_t_codes : Nat) (a_t_clauseOf : Nat) (a_t_codeFrom : Nat) (a_t_codeHalf : Nat) (a_t_codeTo : Nat) (a_t_stack : Nat) (a_t_facts : Nat) (a_t_newLine : Nat) (a_t_canSit : Nat) (a_t_canNext : Nat) (a_t_singersIn : Nat) (a_t_freeAt : Nat) (a_t_beginsAt : Nat) (a_t_leastBy : Nat) (a_t_mostBy : Nat) (a_t_mostNext : Nat) (a_t_risesTo : Nat) (t_taped : Int32) (t_place0 : Int32) (t_length0 : Int32) (t_fault : Int32) (t_number0 : Int32) (t_open : Int32) (t_codeMany : Int32) (t_waiting : Int32) (t_saidMany : Int32) (t_clauses : Int32) (t_newMany : Int32) (t_lines : Int32) (t_stoodNow : Int32) (t_lastSeat : Int32) (t_climbedNow : Int32) (t_isKept : Int32) (t_now : (Nat → Int32)) (x1 : Int32) (res : Int32) (hf : f_X12_seesNothing t_now x1 = some res) : Met l yX12_seesNothing (.code yX12_seesNothing cX12_seesNothing 5 (some .int) :: TB) (rmk (2) (42)) (pRO [.ref a_t, .int x1] D cI cB cZ (w_X12_seesNothing cI cB cZ a_t a_t_now a_t_aside a_t_kept a_t_tape a_t_said a_t_waitsAt a_t_saidLetter a_t_saidFrom a_t_saidHalf a_t_saidTo a_t_codes a_t_clauseOf a_t_codeFrom a_t_codeHalf a_t_codeTo a_t_stack a_t_facts a_t_newLine a_t_canSit a_t_canNext a_t_singersIn a_t_freeAt a_t_beginsAt a_t_leastBy a_t_mostBy a_t_mostNext a_t_risesTo t_taped t_place0 t_length0 t_fault t_number0 t_open t_codeMany t_waiting t_saidMany t_clauses t_newMany t_lines t_stoodNow t_lastSeat t_climbedNow t_isKept t_now)) (qRO (some (.int res)) True) 0 0 (fun _ => False) :=
  mkRO (by decide +kernel) (Nat.le_of_ble_eq_true rfl) (fun p e s m below meth c ls S hr hlk hK hP hl => b_X12_seesNothing S.1 S.2.1 S.2.2.1 S.2.2.2.1 S.2.2.2.2 (Nat.le_refl _) (Nat.le_refl _) hK.1 hK.2 a_t a_t_now a_t_aside a_t_kept a_t_tape a_t_said a_t_waitsAt a_t_saidLetter a_t_saidFrom a_t_saidHalf a_t_saidTo a_t_codes a_t_clauseOf a_t_codeFrom a_t_codeHalf a_t_codeTo a_t_stack a_t_facts a_t_newLine a_t_canSit a_t_canNext a_t_singersIn a_t_freeAt a_t_beginsAt a_t_leastBy a_t_mostBy a_t_mostNext a_t_risesTo t_taped t_place0 t_length0 t_fault t_number0 t_open t_codeMany t_waiting t_saidMany t_clauses t_newMany t_lines t_stoodNow t_lastSeat t_climbedNow t_isKept t_now x1 res hf hP (fun pc ls hE hd => eRO_i S.1 S.2.1 hr rfl hlk hE hd) ls hl)
def f_X12_even_84 (t_tape : (Nat → Int32)) (k68 : Int32 → Int32 → Int32 → Int32 → Int32 → Int32 → Int32 → Int32 → Option (Int32 × Int32)) : Nat → Int32 → Int32 → Int32 → Int32 → Int32 → Int32 → Int32 → Int32 → Int32 → Int32 → Option (Int32 × Int32)
  | 0, _, _, _, _, _, _, _, _, _, _ => none
  | n + 1, x1, x2, x3, x4, x5, x6, x7, x8, x9, t_taped => (if x1 ≤ x9 then (f_X12_size x8).bind (fun z129 => (if z129 < x6 then (f_X12_size x8).bind (fun z142 => k68 x1 x2 x3 x4 x7 z142 (x7 + 1) t_taped) else k68 x1 x2 x3 x4 x5 x6 (x7 + 1) t_taped)) else (f_X12_has x7 x9).bind (fun z96 => (if z96 = 0 then (f_X12_octet t_tape x9).bind (fun z114 => (f_X12_even_84 t_tape k68 n) x1 x2 x3 x4 x5 x6 x7 (x8 + (-z114)) (x9 + 1) t_taped) else (f_X12_octet t_tape x9).bind (fun z105 => (f_X12_even_84 t_tape k68 n) x1 x2 x3 x4 x5 x6 x7 (x8 + z105) (x9 + 1) t_taped))))
def f_X12_even_68 (t_tape : (Nat → Int32)) : Nat → Int32 → Int32 → Int32 → Int32 → Int32 → Int32 → Int32 → Int32 → Option (Int32 × Int32)
  | 0, _, _, _, _, _, _, _, _ => none
  | n + 1, x1, x2, x3, x4, x5, x6, x7, t_taped => (if (1 <<< (x1 &&& 31)) ≤ x7 then (if x4 = 0 then some (x6, t_taped) else some (x5, t_taped)) else f_X12_even_84 t_tape (f_X12_even_68 t_tape n) FU x1 x2 x3 x4 x5 x6 x7 (x2 - x3) 0 t_taped)
def f_X12_even (t_taped : Int32) (t_tape : (Nat → Int32)) (x1 : Int32) (x2 : Int32) (x3 : Int32) (x4 : Int32) : Option (Int32 × Int32) := (f_X12_in x1 1 12).bind (fun z4 => (if z4 = 0 then some ((-1), t_taped) else (f_X12_in x2 0 200).bind (fun z15 => (if z15 = 0 then some ((-1), t_taped) else (f_X12_in x3 0 200).bind (fun z26 => (if z26 = 0 then some ((-1), t_taped) else (f_X12_in x4 0 1).bind (fun z36 => (if z36 = 0 then some ((-1), t_taped) else (if x1 ≤ t_taped then f_X12_even_68 t_tape FU x1 x2 x3 x4 0 1000000 0 0 else some ((-1), t_taped))))))))))
def w_X12_even (cI cB cZ : ClassId) (a_t : Nat) (a_t_tape : Nat) (a_t_now : Nat) (a_t_aside : Nat) (a_t_kept : Nat) (a_t_said : Nat) (a_t_waitsAt : Nat) (a_t_saidLetter : Nat) (a_t_saidFrom : Nat) (a_t_saidHalf : Nat) (a_t_saidTo : Nat) (a_t_codes : Nat) (a_t_clauseOf : Nat) (a_t_codeFrom : Nat) (a_t_codeHalf : Nat) (a_t_codeTo : Nat) (a_t_stack : Nat) (a_t_facts : Nat) (a_t_newLine : Nat) (a_t_canSit : Nat) (a_t_canNext : Nat) (a_t_singersIn : Nat) (a_t_freeAt : Nat) (a_t_beginsAt : Nat) (a_t_leastBy : Nat) (a_t_mostBy : Nat) (a_t_mostNext : Nat) (a_t_risesTo : Nat) (t_taped : Int32) (t_place0 : Int32) (t_length0 : Int32) (t_fault : Int32) (t_number0 : Int32) (t_open : Int32) (t_codeMany : Int32) (t_waiting : Int32) (t_saidMany : Int32) (t_clauses : Int32) (t_newMany : Int32) (t_lines : Int32) (t_stoodNow : Int32) (t_lastSeat : Int32) (t_climbedNow : Int32) (t_isKept : Int32) (t_tape : (Nat → Int32)) : va_W := [(a_t, .inr (11, [.ref a_t_now, .ref a_t_aside, .ref a_t_kept, .ref a_t_tape, .int t_taped, .int t_place0, .int t_length0, .int t_fault, .int t_number0, .int t_open, .int t_codeMany, .int t_waiting, .int t_saidMany, .int t_clauses, .ref a_t_said, .ref a_t_waitsAt, .ref a_t_saidLetter, .ref a_t_saidFrom, .ref a_t_saidHalf, .ref a_t_saidTo, .ref a_t_codes, .ref a_t_clauseOf, .ref a_t_codeFrom, .ref a_t_codeHalf, .ref a_t_codeTo, .ref a_t_stack, .ref a_t_facts, .ref a_t_newLine, .int t_newMany, .int t_lines, .int t_stoodNow, .int t_lastSeat, .int t_climbedNow, .ref a_t_canSit, .ref a_t_canNext, .ref a_t_singersIn, .ref a_t_freeAt, .ref a_t_beginsAt, .ref a_t_leastBy, .ref a_t_mostBy, .ref a_t_mostNext, .ref a_t_risesTo, .int t_isKept])), (a_t_tape, .inl (cB, 260, .inl t_tape))]
set_option maxHeartbeats 4000000 in
set_option maxRecDepth 100000 in
theorem b_X12_even {p : Program} {l : Launch} {e : Env} {R : Room} {s : State} {m : MethodId} {args : Array Value} {below : List Frame} {meth : Method} {c : Code} {Q : State → Prop} {D : va_G} {cI cB cZ : ClassId} (hx : p.tables.exec = Jvm.exec) (hb : c.code = cX12_even) (hml : c.maxLocals = 10) (hown : s.vm.findClass RX12 = some m.cls) (hT : ∀ w ∈ TB, w.before args s = true) (hRf : (1) ≤ R.frames) (hRl : (22) ≤ R.locals) (hK : va_K D vwCl (tyL cI cB cZ) s) (hN : NW s) {A : Nat → Prop} (hA : ∀ q : Nat, s.heap.size ≤ q → A q) (H : Heap) (locs : List Loc)  (a_t : Nat) (a_t_tape : Nat) (a_t_now : Nat) (a_t_aside : Nat) (a_t_kept : Nat) (a_t_said : Nat) (a_t_waitsAt : Nat) (a_t_saidLetter : Nat) (a_t_saidFrom : Nat) (a_t_saidHalf : Nat) (a_t_saidTo : Nat) (a_t_codes : Nat) (a_t_clauseOf : Nat) (a_t_codeFrom : Nat) (a_t_codeHalf : Nat) (a_t_codeTo : Nat) (a_t_stack : Nat) (a_t_facts : Nat) (a_t_newLine : Nat) (a_t_canSit : Nat) (a_t_canNext : Nat) (a_t_singersIn : Nat) (a_t_freeAt : Nat) (a_t_beginsAt : Nat) (a_t_leastBy : Nat) (a_t_mostBy : Nat) (a_t_mostNext : Nat) (a_t_risesTo : Nat) (t_taped : Int32) (t_place0 : Int32) (t_length0 : Int32) (t_fault : Int32) (t_number0 : Int32) (t_open : Int32) (t_codeMany : Int32) (t_waiting : Int32) (t_saidMany : Int32) (t_clauses : Int32) (t_newMany : Int32) (t_lines : Int32) (t_stoodNow : Int32) (t_lastSeat : Int32) (t_climbedNow : Int32) (t_isKept : Int32) (t_tape : (Nat → Int32)) (x1 : Int32) (x2 : Int32) (x3 : Int32) (x4 : Int32) (res : Int32 × Int32) (hf : f_X12_even t_taped t_tape x1 x2 x3 x4 = some res) (hP : va_P D vwCl (w_X12_even cI cB cZ a_t a_t_tape a_t_now a_t_aside a_t_kept a_t_said a_t_waitsAt a_t_saidLetter a_t_saidFrom a_t_saidHalf a_t_saidTo a_t_codes a_t_clauseOf a_t_codeFrom a_t_codeHalf a_t_codeTo a_t_stack a_t_facts a_t_newLine a_t_canSit a_t_canNext a_t_singersIn a_t_freeAt a_t_beginsAt a_t_leastBy a_t_mostBy a_t_mostNext a_t_risesTo t_taped t_place0 t_length0 t_fault t_number0 t_open t_codeMany t_waiting t_saidMany t_clauses t_newMany t_lines t_stoodNow t_lastSeat t_climbedNow t_isKept t_tape) H) (hD : va_D A (w_X12_even cI cB cZ a_t a_t_tape a_t_now a_t_aside a_t_kept a_t_said a_t_waitsAt a_t_saidLetter a_t_saidFrom a_t_saidHalf a_t_saidTo a_t_codes a_t_clauseOf a_t_codeFrom a_t_codeHalf a_t_codeTo a_t_stack a_t_facts a_t_newLine a_t_canSit a_t_canNext a_t_singersIn a_t_freeAt a_t_beginsAt a_t_leastBy a_t_mostBy a_t_mostNext a_t_risesTo t_taped t_place0 t_length0 t_fault t_number0 t_open t_codeMany t_waiting t_saidMany t_clauses t_newMany t_lines t_stoodNow t_lastSeat t_climbedNow t_isKept t_tape)) (hS : va_S A s.heap H locs) (hQ : ∀ (H : Heap) (locs : List Loc) (pc : Nat) (ls : Array Slot), va_P D vwCl (w_X12_even cI cB cZ a_t a_t_tape a_t_now a_t_aside a_t_kept a_t_said a_t_waitsAt a_t_saidLetter a_t_saidFrom a_t_saidHalf a_t_saidTo a_t_codes a_t_clauseOf a_t_codeFrom a_t_codeHalf a_t_codeTo a_t_stack a_t_facts a_t_newLine a_t_canSit a_t_canNext a_t_singersIn a_t_freeAt a_t_beginsAt a_t_leastBy a_t_mostBy a_t_mostNext a_t_risesTo res.2 t_place0 t_length0 t_fault t_number0 t_open t_codeMany t_waiting t_saidMany t_clauses t_newMany t_lines t_stoodNow t_lastSeat t_climbedNow t_isKept t_tape) H → va_D A (w_X12_even cI cB cZ a_t a_t_tape a_t_now a_t_aside a_t_kept a_t_said a_t_waitsAt a_t_saidLetter a_t_saidFrom a_t_saidHalf a_t_saidTo a_t_codes a_t_clauseOf a_t_codeFrom a_t_codeHalf a_t_codeTo a_t_stack a_t_facts a_t_newLine a_t_canSit a_t_canNext a_t_singersIn a_t_freeAt a_t_beginsAt a_t_leastBy a_t_mostBy a_t_mostNext a_t_risesTo res.2 t_place0 t_length0 t_fault t_number0 t_open t_codeMany t_waiting t_saidMany t_clauses t_newMany t_lines t_stoodNow t_lastSeat t_climbedNow t_isKept t_tape) → va_S A s.heap H locs → True → decode cX12_even pc = .ok (.ireturn, 1) → W p l e R s m args below meth c H locs 0 0 Q (F0 m pc ls [.int res.1])) (ls : Array Slot) (hl : lv_has ls 10 [(0, .ref a_t), (1, .int x1), (2, .int x2), (3, .int x3), (4, .int x4)]) : W p l e R s m args below meth c H locs 0 0 Q (F0 m 0 ls []) := by
  unfold f_X12_even at hf
  refine lv_iload_n hx hb dX12_even_0 rfl (lv_at hl 1 rfl) ?_
  refine lv_iconst (v := 1) hx hb dX12_even_1 (by decide) ?_
  refine lv_bipush (v := 12) hx hb dX12_even_2 (by decide) ?_
  obtain ⟨z4, e4, hf⟩ := bd_some hf
  refine rS_RO (As := [.int x1, .int 1, .int 12]) (rest := []) ⟨hx, hb, hml, hown, hT⟩ (gdS tb_1283 tb_1284 tb_97 tb_1285) hd_X12_in (c_X12_in l D cI cB cZ x1 1 12 z4 e4) ⟨rfl, rfl⟩ ⟨Nat.le_trans (by decide) hRf, Nat.le_trans (by decide) hRl⟩ ⟨hK, hN⟩ hP [] rfl rfl hl.1 rfl (Nat.le_of_ble_eq_true rfl) ⟨Nat.zero_le _, Nat.zero_le _⟩ dX12_even_4 (fun hz_4 => ?_)
  refine lv_if_eq (tgt := 50) hx hb dX12_even_7 (by decide) (fun hc_7 => ?_) (fun hc_7 => ?_)
  · have hf := it_pos hc_7 hf
    refine lv_iconst (v := (-1)) hx hb dX12_even_50 (by decide) ?_
    obtain rfl := Option.some.inj hf
    exact hQ H locs 51 ls hP hD hS trivial dX12_even_51
  · have hf := it_neg hc_7 hf
    refine lv_iload_n hx hb dX12_even_10 rfl (lv_at hl 2 rfl) ?_
    refine lv_iconst (v := 0) hx hb dX12_even_11 (by decide) ?_
    refine lv_sipush (v := 200) hx hb dX12_even_12 (by decide) ?_
    obtain ⟨z15, e15, hf⟩ := bd_some hf
    refine rS_RO (As := [.int x2, .int 0, .int 200]) (rest := []) ⟨hx, hb, hml, hown, hT⟩ (gdS tb_1283 tb_1284 tb_97 tb_1285) hd_X12_in (c_X12_in l D cI cB cZ x2 0 200 z15 e15) ⟨rfl, rfl⟩ ⟨Nat.le_trans (by decide) hRf, Nat.le_trans (by decide) hRl⟩ ⟨hK, hN⟩ hP [] rfl rfl hl.1 rfl (Nat.le_of_ble_eq_true rfl) ⟨Nat.zero_le _, Nat.zero_le _⟩ dX12_even_15 (fun hz_15 => ?_)
    refine lv_if_eq (tgt := 50) hx hb dX12_even_18 (by decide) (fun hc_18 => ?_) (fun hc_18 => ?_)
    · have hf := it_pos hc_18 hf
      refine lv_iconst (v := (-1)) hx hb dX12_even_50 (by decide) ?_
      obtain rfl := Option.some.inj hf
      exact hQ H locs 51 ls hP hD hS trivial dX12_even_51
    · have hf := it_neg hc_18 hf
      refine lv_iload_n hx hb dX12_even_21 rfl (lv_at hl 3 rfl) ?_
      refine lv_iconst (v := 0) hx hb dX12_even_22 (by decide) ?_
      refine lv_sipush (v := 200) hx hb dX12_even_23 (by decide) ?_
      obtain ⟨z26, e26, hf⟩ := bd_some hf
      refine rS_RO (As := [.int x3, .int 0, .int 200]) (rest := []) ⟨hx, hb, hml, hown, hT⟩ (gdS tb_1283 tb_1284 tb_97 tb_1285) hd_X12_in (c_X12_in l D cI cB cZ x3 0 200 z26 e26) ⟨rfl, rfl⟩ ⟨Nat.le_trans (by decide) hRf, Nat.le_trans (by decide) hRl⟩ ⟨hK, hN⟩ hP [] rfl rfl hl.1 rfl (Nat.le_of_ble_eq_true rfl) ⟨Nat.zero_le _, Nat.zero_le _⟩ dX12_even_26 (fun hz_26 => ?_)
      refine lv_if_eq (tgt := 50) hx hb dX12_even_29 (by decide) (fun hc_29 => ?_) (fun hc_29 => ?_)
      · have hf := it_pos hc_29 hf
        refine lv_iconst (v := (-1)) hx hb dX12_even_50 (by decide) ?_
        obtain rfl := Option.some.inj hf
        exact hQ H locs 51 ls hP hD hS trivial dX12_even_51
      · have hf := it_neg hc_29 hf
        refine lv_iload hx hb dX12_even_32 (lv_at hl 4 rfl) ?_
        refine lv_iconst (v := 0) hx hb dX12_even_34 (by decide) ?_
        refine lv_iconst (v := 1) hx hb dX12_even_35 (by decide) ?_
        obtain ⟨z36, e36, hf⟩ := bd_some hf
        refine rS_RO (As := [.int x4, .int 0, .int 1]) (rest := []) ⟨hx, hb, hml, hown, hT⟩ (gdS tb_1283 tb_1284 tb_97 tb_1285) hd_X12_in (c_X12_in l D cI cB cZ x4 0 1 z36 e36) ⟨rfl, rfl⟩ ⟨Nat.le_trans (by decide) hRf, Nat.le_trans (by decide) hRl⟩ ⟨hK, hN⟩ hP [] rfl rfl hl.1 rfl (Nat.le_of_ble_eq_true rfl) ⟨Nat.zero_le _, Nat.zero_le _⟩ dX12_even_36 (fun hz_36 => ?_)
        refine lv_if_eq (tgt := 50) hx hb dX12_even_39 (by decide) (fun hc_39 => ?_) (fun hc_39 => ?_)
        · have hf := it_pos hc_39 hf
          refine lv_iconst (v := (-1)) hx hb dX12_even_50 (by decide) ?_
          obtain rfl := Option.some.inj hf
          exact hQ H locs 51 ls hP hD hS trivial dX12_even_51
        · have hf := it_neg hc_39 hf
          refine lv_iload_n hx hb dX12_even_42 rfl (lv_at hl 1 rfl) ?_
          refine lv_aload_n hx hb dX12_even_43 rfl (lv_at hl 0 rfl) ?_
          refine va_get (D := D) (ci := 11) (v := .int t_taped) (C := RX12) (T := TX12) (N := 43) hx hb hT inX12 hown hK hP 0 rfl rfl 4 (by decide) (hT _ tb_1152) (fun _ h9 => h9) rfl dX12_even_44 ?_
          refine lv_icmp_le (tgt := 52) hx hb dX12_even_47 (by decide) (fun hc_47 => ?_) (fun hc_47 => ?_)
          · have hf := it_pos hc_47 hf
            refine lv_aload_n hx hb dX12_even_52 rfl (lv_at hl 0 rfl) ?_
            refine lv_iconst (v := 0) hx hb dX12_even_53 (by decide) ?_
            refine va_put (D := D) (ci := 11) (v := .int 0) (ty := (.int)) (C := RX12) (T := TX12) (N := 43) hx hb hT inX12 tyX12 tyX12_ok nmX12 hown hK hP hD hS 0 rfl rfl 4 (by decide) (hT _ tb_1152) (fun _ h9 => h9) rfl (by decide +kernel) rfl rfl (Nat.le_of_ble_eq_true rfl) dX12_even_54 (fun H locs hP hD hS => ?_)
            have hP : va_P D vwCl (w_X12_even cI cB cZ a_t a_t_tape a_t_now a_t_aside a_t_kept a_t_said a_t_waitsAt a_t_saidLetter a_t_saidFrom a_t_saidHalf a_t_saidTo a_t_codes a_t_clauseOf a_t_codeFrom a_t_codeHalf a_t_codeTo a_t_stack a_t_facts a_t_newLine a_t_canSit a_t_canNext a_t_singersIn a_t_freeAt a_t_beginsAt a_t_leastBy a_t_mostBy a_t_mostNext a_t_risesTo 0 t_place0 t_length0 t_fault t_number0 t_open t_codeMany t_waiting t_saidMany t_clauses t_newMany t_lines t_stoodNow t_lastSeat t_climbedNow t_isKept t_tape) H := hP
            have hD : va_D A (w_X12_even cI cB cZ a_t a_t_tape a_t_now a_t_aside a_t_kept a_t_said a_t_waitsAt a_t_saidLetter a_t_saidFrom a_t_saidHalf a_t_saidTo a_t_codes a_t_clauseOf a_t_codeFrom a_t_codeHalf a_t_codeTo a_t_stack a_t_facts a_t_newLine a_t_canSit a_t_canNext a_t_singersIn a_t_freeAt a_t_beginsAt a_t_leastBy a_t_mostBy a_t_mostNext a_t_risesTo 0 t_place0 t_length0 t_fault t_number0 t_open t_codeMany t_waiting t_saidMany t_clauses t_newMany t_lines t_stoodNow t_lastSeat t_climbedNow t_isKept t_tape) := hD
            refine lv_iconst (v := 0) hx hb dX12_even_57 (by decide) ?_
            refine lv_istore (lv' := [(5, .int 0), (0, .ref a_t), (1, .int x1), (2, .int x2), (3, .int x3), (4, .int x4)]) hx hb dX12_even_58 hl (by decide) rfl (fun ls hl => ?_)
            refine lv_ldcw (v := 1000000) hx hb hown (hT _ tb_1550) dX12_even_60 ?_
            refine lv_istore (lv' := [(6, .int 1000000), (5, .int 0), (0, .ref a_t), (1, .int x1), (2, .int x2), (3, .int x3), (4, .int x4)]) hx hb dX12_even_63 hl (by decide) rfl (fun ls hl => ?_)
            refine lv_iconst (v := 0) hx hb dX12_even_65 (by decide) ?_
            have J_68 : ∀ (n_68 : Nat) (x1 : Int32) (x2 : Int32) (x3 : Int32) (x4 : Int32) (x5 : Int32) (x6 : Int32) (x7 : Int32) (t_taped : Int32) (H : Heap) (locs : List Loc) (ls : Array Slot), f_X12_even_68 t_tape n_68 x1 x2 x3 x4 x5 x6 x7 t_taped = some res → va_P D vwCl (w_X12_even cI cB cZ a_t a_t_tape a_t_now a_t_aside a_t_kept a_t_said a_t_waitsAt a_t_saidLetter a_t_saidFrom a_t_saidHalf a_t_saidTo a_t_codes a_t_clauseOf a_t_codeFrom a_t_codeHalf a_t_codeTo a_t_stack a_t_facts a_t_newLine a_t_canSit a_t_canNext a_t_singersIn a_t_freeAt a_t_beginsAt a_t_leastBy a_t_mostBy a_t_mostNext a_t_risesTo t_taped t_place0 t_length0 t_fault t_number0 t_open t_codeMany t_waiting t_saidMany t_clauses t_newMany t_lines t_stoodNow t_lastSeat t_climbedNow t_isKept t_tape) H → va_D A (w_X12_even cI cB cZ a_t a_t_tape a_t_now a_t_aside a_t_kept a_t_said a_t_waitsAt a_t_saidLetter a_t_saidFrom a_t_saidHalf a_t_saidTo a_t_codes a_t_clauseOf a_t_codeFrom a_t_codeHalf a_t_codeTo a_t_stack a_t_facts a_t_newLine a_t_canSit a_t_canNext a_t_singersIn a_t_freeAt a_t_beginsAt a_t_leastBy a_t_mostBy a_t_mostNext a_t_risesTo t_taped t_place0 t_length0 t_fault t_number0 t_open t_codeMany t_waiting t_saidMany t_clauses t_newMany t_lines t_stoodNow t_lastSeat t_climbedNow t_isKept t_tape) → va_S A s.heap H locs → lv_has ls 10 [(0, .ref a_t), (1, .int x1), (2, .int x2), (3, .int x3), (4, .int x4), (5, .int x5), (6, .int x6), (7, .int x7)] → W p l e R s m args below meth c H locs 0 0 Q (F0 m 68 ls []) := by
              intro n_68
              induction n_68 with
              | zero =>
                intro x1 x2 x3 x4 x5 x6 x7 t_taped H locs ls hf hP hD hS hl
                cases hf
              | succ n_68 ih_68 =>
                intro x1 x2 x3 x4 x5 x6 x7 t_taped H locs ls hf hP hD hS hl
                unfold f_X12_even_68 at hf
                refine lv_iload hx hb dX12_even_68 (lv_at hl 7 rfl) ?_
                refine lv_iconst (v := 1) hx hb dX12_even_70 (by decide) ?_
                refine lv_iload_n hx hb dX12_even_71 rfl (lv_at hl 1 rfl) ?_
                refine lv_ishl hx hb dX12_even_72 ?_
                refine lv_icmp_ge (tgt := 157) hx hb dX12_even_73 (by decide) (fun hc_73 => ?_) (fun hc_73 => ?_)
                · have hf := it_pos hc_73 hf
                  refine lv_iload hx hb dX12_even_157 (lv_at hl 4 rfl) ?_
                  refine lv_if_ne (tgt := 167) hx hb dX12_even_159 (by decide) (fun hc_159 => ?_) (fun hc_159 => ?_)
                  · have hf := it_neg hc_159 hf
                    refine lv_iload hx hb dX12_even_167 (lv_at hl 5 rfl) ?_
                    obtain rfl := Option.some.inj hf
                    exact hQ H locs 169 ls hP hD hS trivial dX12_even_169
                  · have hf := it_pos hc_159 hf
                    refine lv_iload hx hb dX12_even_162 (lv_at hl 6 rfl) ?_
                    refine lv_goto (tgt := 169) hx hb dX12_even_164 (by decide) ?_
                    obtain rfl := Option.some.inj hf
                    exact hQ H locs 169 ls hP hD hS trivial dX12_even_169
                · have hf := it_neg hc_73 hf
                  refine lv_iload_n hx hb dX12_even_76 rfl (lv_at hl 2 rfl) ?_
                  refine lv_iload_n hx hb dX12_even_77 rfl (lv_at hl 3 rfl) ?_
                  refine lv_isub hx hb dX12_even_78 ?_
                  refine lv_istore (lv' := [(8, .int (x2 - x3)), (0, .ref a_t), (1, .int x1), (2, .int x2), (3, .int x3), (4, .int x4), (5, .int x5), (6, .int x6), (7, .int x7)]) hx hb dX12_even_79 hl (by decide) rfl (fun ls hl => ?_)
                  refine lv_iconst (v := 0) hx hb dX12_even_81 (by decide) ?_
                  have J_84 : ∀ (n_84 : Nat) (x1 : Int32) (x2 : Int32) (x3 : Int32) (x4 : Int32) (x5 : Int32) (x6 : Int32) (x7 : Int32) (x8 : Int32) (x9 : Int32) (t_taped : Int32) (H : Heap) (locs : List Loc) (ls : Array Slot), f_X12_even_84 t_tape (f_X12_even_68 t_tape n_68) n_84 x1 x2 x3 x4 x5 x6 x7 x8 x9 t_taped = some res → va_P D vwCl (w_X12_even cI cB cZ a_t a_t_tape a_t_now a_t_aside a_t_kept a_t_said a_t_waitsAt a_t_saidLetter a_t_saidFrom a_t_saidHalf a_t_saidTo a_t_codes a_t_clauseOf a_t_codeFrom a_t_codeHalf a_t_codeTo a_t_stack a_t_facts a_t_newLine a_t_canSit a_t_canNext a_t_singersIn a_t_freeAt a_t_beginsAt a_t_leastBy a_t_mostBy a_t_mostNext a_t_risesTo t_taped t_place0 t_length0 t_fault t_number0 t_open t_codeMany t_waiting t_saidMany t_clauses t_newMany t_lines t_stoodNow t_lastSeat t_climbedNow t_isKept t_tape) H → va_D A (w_X12_even cI cB cZ a_t a_t_tape a_t_now a_t_aside a_t_kept a_t_said a_t_waitsAt a_t_saidLetter a_t_saidFrom a_t_saidHalf a_t_saidTo a_t_codes a_t_clauseOf a_t_codeFrom a_t_codeHalf a_t_codeTo a_t_stack a_t_facts a_t_newLine a_t_canSit a_t_canNext a_t_singersIn a_t_freeAt a_t_beginsAt a_t_leastBy a_t_mostBy a_t_mostNext a_t_risesTo t_taped t_place0 t_length0 t_fault t_number0 t_open t_codeMany t_waiting t_saidMany t_clauses t_newMany t_lines t_stoodNow t_lastSeat t_climbedNow t_isKept t_tape) → va_S A s.heap H locs → lv_has ls 10 [(0, .ref a_t), (1, .int x1), (2, .int x2), (3, .int x3), (4, .int x4), (5, .int x5), (6, .int x6), (7, .int x7), (8, .int x8), (9, .int x9)] → W p l e R s m args below meth c H locs 0 0 Q (F0 m 84 ls []) := by
                    intro n_84
                    induction n_84 with
                    | zero =>
                      intro x1 x2 x3 x4 x5 x6 x7 x8 x9 t_taped H locs ls hf hP hD hS hl
                      cases hf
                    | succ n_84 ih_84 =>
                      intro x1 x2 x3 x4 x5 x6 x7 x8 x9 t_taped H locs ls hf hP hD hS hl
                      unfold f_X12_even_84 at hf
                      refine lv_iload hx hb dX12_even_84 (lv_at hl 9 rfl) ?_
                      refine lv_iload_n hx hb dX12_even_86 rfl (lv_at hl 1 rfl) ?_
                      refine lv_icmp_ge (tgt := 127) hx hb dX12_even_87 (by decide) (fun hc_87 => ?_) (fun hc_87 => ?_)
                      · have hf := it_pos hc_87 hf
                        refine lv_iload hx hb dX12_even_127 (lv_at hl 8 rfl) ?_
                        obtain ⟨z129, e129, hf⟩ := bd_some hf
                        refine rS_RO (As := [.int x8]) (rest := []) ⟨hx, hb, hml, hown, hT⟩ (gdS tb_1570 tb_1571 tb_97 tb_1572) hd_X12_size (c_X12_size l D cI cB cZ x8 z129 e129) ⟨rfl, rfl⟩ ⟨Nat.le_trans (by decide) hRf, Nat.le_trans (by decide) hRl⟩ ⟨hK, hN⟩ hP [] rfl rfl hl.1 rfl (Nat.le_of_ble_eq_true rfl) ⟨Nat.zero_le _, Nat.zero_le _⟩ dX12_even_129 (fun _ => ?_)
                        refine lv_iload hx hb dX12_even_132 (lv_at hl 6 rfl) ?_
                        refine lv_icmp_lt (tgt := 140) hx hb dX12_even_134 (by decide) (fun hc_134 => ?_) (fun hc_134 => ?_)
                        · have hf := it_pos hc_134 hf
                          refine lv_iload hx hb dX12_even_140 (lv_at hl 8 rfl) ?_
                          obtain ⟨z142, e142, hf⟩ := bd_some hf
                          refine rS_RO (As := [.int x8]) (rest := []) ⟨hx, hb, hml, hown, hT⟩ (gdS tb_1570 tb_1571 tb_97 tb_1572) hd_X12_size (c_X12_size l D cI cB cZ x8 z142 e142) ⟨rfl, rfl⟩ ⟨Nat.le_trans (by decide) hRf, Nat.le_trans (by decide) hRl⟩ ⟨hK, hN⟩ hP [] rfl rfl hl.1 rfl (Nat.le_of_ble_eq_true rfl) ⟨Nat.zero_le _, Nat.zero_le _⟩ dX12_even_142 (fun _ => ?_)
                          refine lv_istore (lv' := [(6, .int z142), (0, .ref a_t), (1, .int x1), (2, .int x2), (3, .int x3), (4, .int x4), (5, .int x5), (7, .int x7), (8, .int x8), (9, .int x9)]) hx hb dX12_even_145 hl (by decide) rfl (fun ls hl => ?_)
                          refine lv_iload hx hb dX12_even_147 (lv_at hl 7 rfl) ?_
                          refine lv_istore (lv' := [(5, .int x7), (6, .int z142), (0, .ref a_t), (1, .int x1), (2, .int x2), (3, .int x3), (4, .int x4), (7, .int x7), (8, .int x8), (9, .int x9)]) hx hb dX12_even_149 hl (by decide) rfl (fun ls hl => ?_)
                          refine lv_iinc (v := x7 + 1) (lv' := [(7, .int (x7 + 1)), (5, .int x7), (6, .int z142), (0, .ref a_t), (1, .int x1), (2, .int x2), (3, .int x3), (4, .int x4), (8, .int x8), (9, .int x9)]) hx hb dX12_even_151 hl (k := 7) rfl (congrArg (_ + ·) (by decide : Int32.ofInt 1 = 1)) (by decide) rfl (fun ls hl => ?_)
                          refine lv_goto (tgt := 68) hx hb dX12_even_154 (by decide) ?_
                          exact ih_68 _ _ _ _ _ _ _ _ _ _ _ hf hP hD hS (lv_sub hl [3, 4, 5, 6, 7, 1, 2, 0] rfl)
                        · have hf := it_neg hc_134 hf
                          refine lv_goto (tgt := 151) hx hb dX12_even_137 (by decide) ?_
                          refine lv_iinc (v := x7 + 1) (lv' := [(7, .int (x7 + 1)), (0, .ref a_t), (1, .int x1), (2, .int x2), (3, .int x3), (4, .int x4), (5, .int x5), (6, .int x6), (8, .int x8), (9, .int x9)]) hx hb dX12_even_151 hl (k := 7) rfl (congrArg (_ + ·) (by decide : Int32.ofInt 1 = 1)) (by decide) rfl (fun ls hl => ?_)
                          refine lv_goto (tgt := 68) hx hb dX12_even_154 (by decide) ?_
                          exact ih_68 _ _ _ _ _ _ _ _ _ _ _ hf hP hD hS (lv_sub hl [1, 2, 3, 4, 5, 6, 7, 0] rfl)
                      · have hf := it_neg hc_87 hf
                        refine lv_iload hx hb dX12_even_90 (lv_at hl 8 rfl) ?_
                        refine lv_iload hx hb dX12_even_92 (lv_at hl 7 rfl) ?_
                        refine lv_iload hx hb dX12_even_94 (lv_at hl 9 rfl) ?_
                        obtain ⟨z96, e96, hf⟩ := bd_some hf
                        refine rS_RO (As := [.int x7, .int x9]) (rest := [.int x8]) ⟨hx, hb, hml, hown, hT⟩ (gdS tb_1563 tb_1564 tb_97 tb_1565) hd_X12_has (c_X12_has l D cI cB cZ x7 x9 z96 e96) ⟨rfl, rfl⟩ ⟨Nat.le_trans (by decide) hRf, Nat.le_trans (by decide) hRl⟩ ⟨hK, hN⟩ hP [] rfl rfl hl.1 rfl (Nat.le_of_ble_eq_true rfl) ⟨Nat.zero_le _, Nat.zero_le _⟩ dX12_even_96 (fun hz_96 => ?_)
                        refine lv_if_eq (tgt := 111) hx hb dX12_even_99 (by decide) (fun hc_99 => ?_) (fun hc_99 => ?_)
                        · have hf := it_pos hc_99 hf
                          refine lv_aload_n hx hb dX12_even_111 rfl (lv_at hl 0 rfl) ?_
                          refine lv_iload hx hb dX12_even_112 (lv_at hl 9 rfl) ?_
                          obtain ⟨z114, e114, hf⟩ := bd_some hf
                          refine rV_RO (As := [.int x9]) (rest := [.int x8]) ⟨hx, hb, hml, hown, hT⟩ (gdV tb_1566 tb_1568 tb_80 tb_97 tb_1569) hd_X12_octet (c_X12_octet l D cI cB cZ a_t a_t_tape a_t_now a_t_aside a_t_kept a_t_said a_t_waitsAt a_t_saidLetter a_t_saidFrom a_t_saidHalf a_t_saidTo a_t_codes a_t_clauseOf a_t_codeFrom a_t_codeHalf a_t_codeTo a_t_stack a_t_facts a_t_newLine a_t_canSit a_t_canNext a_t_singersIn a_t_freeAt a_t_beginsAt a_t_leastBy a_t_mostBy a_t_mostNext a_t_risesTo t_taped t_place0 t_length0 t_fault t_number0 t_open t_codeMany t_waiting t_saidMany t_clauses t_newMany t_lines t_stoodNow t_lastSeat t_climbedNow t_isKept t_tape x9 z114 e114) ⟨rfl, rfl⟩ ⟨Nat.le_trans (by decide) hRf, Nat.le_trans (by decide) hRl⟩ ⟨hK, hN⟩ hP [0, 1] rfl 0 rfl rfl rfl hl.1 rfl (Nat.le_of_ble_eq_true rfl) ⟨Nat.zero_le _, Nat.zero_le _⟩ dX12_even_114 (fun _ => ?_)
                          refine lv_ineg hx hb dX12_even_117 ?_
                          refine lv_iadd hx hb dX12_even_118 ?_
                          refine lv_istore (lv' := [(8, .int (x8 + (-z114))), (0, .ref a_t), (1, .int x1), (2, .int x2), (3, .int x3), (4, .int x4), (5, .int x5), (6, .int x6), (7, .int x7), (9, .int x9)]) hx hb dX12_even_119 hl (by decide) rfl (fun ls hl => ?_)
                          refine lv_iinc (v := x9 + 1) (lv' := [(9, .int (x9 + 1)), (8, .int (x8 + (-z114))), (0, .ref a_t), (1, .int x1), (2, .int x2), (3, .int x3), (4, .int x4), (5, .int x5), (6, .int x6), (7, .int x7)]) hx hb dX12_even_121 hl (k := 9) rfl (congrArg (_ + ·) (by decide : Int32.ofInt 1 = 1)) (by decide) rfl (fun ls hl => ?_)
                          refine lv_goto (tgt := 84) hx hb dX12_even_124 (by decide) ?_
                          exact ih_84 _ _ _ _ _ _ _ _ _ _ _ _ _ hf hP hD hS (lv_sub hl [2, 3, 4, 5, 6, 7, 8, 9, 1, 0] rfl)
                        · have hf := it_neg hc_99 hf
                          refine lv_aload_n hx hb dX12_even_102 rfl (lv_at hl 0 rfl) ?_
                          refine lv_iload hx hb dX12_even_103 (lv_at hl 9 rfl) ?_
                          obtain ⟨z105, e105, hf⟩ := bd_some hf
                          refine rV_RO (As := [.int x9]) (rest := [.int x8]) ⟨hx, hb, hml, hown, hT⟩ (gdV tb_1566 tb_1568 tb_80 tb_97 tb_1569) hd_X12_octet (c_X12_octet l D cI cB cZ a_t a_t_tape a_t_now a_t_aside a_t_kept a_t_said a_t_waitsAt a_t_saidLetter a_t_saidFrom a_t_saidHalf a_t_saidTo a_t_codes a_t_clauseOf a_t_codeFrom a_t_codeHalf a_t_codeTo a_t_stack a_t_facts a_t_newLine a_t_canSit a_t_canNext a_t_singersIn a_t_freeAt a_t_beginsAt a_t_leastBy a_t_mostBy a_t_mostNext a_t_risesTo t_taped t_place0 t_length0 t_fault t_number0 t_open t_codeMany t_waiting t_saidMany t_clauses t_newMany t_lines t_stoodNow t_lastSeat t_climbedNow t_isKept t_tape x9 z105 e105) ⟨rfl, rfl⟩ ⟨Nat.le_trans (by decide) hRf, Nat.le_trans (by decide) hRl⟩ ⟨hK, hN⟩ hP [0, 1] rfl 0 rfl rfl rfl hl.1 rfl (Nat.le_of_ble_eq_true rfl) ⟨Nat.zero_le _, Nat.zero_le _⟩ dX12_even_105 (fun _ => ?_)
                          refine lv_goto (tgt := 118) hx hb dX12_even_108 (by decide) ?_
                          refine lv_iadd hx hb dX12_even_118 ?_
                          refine lv_istore (lv' := [(8, .int (x8 + z105)), (0, .ref a_t), (1, .int x1), (2, .int x2), (3, .int x3), (4, .int x4), (5, .int x5), (6, .int x6), (7, .int x7), (9, .int x9)]) hx hb dX12_even_119 hl (by decide) rfl (fun ls hl => ?_)
                          refine lv_iinc (v := x9 + 1) (lv' := [(9, .int (x9 + 1)), (8, .int (x8 + z105)), (0, .ref a_t), (1, .int x1), (2, .int x2), (3, .int x3), (4, .int x4), (5, .int x5), (6, .int x6), (7, .int x7)]) hx hb dX12_even_121 hl (k := 9) rfl (congrArg (_ + ·) (by decide : Int32.ofInt 1 = 1)) (by decide) rfl (fun ls hl => ?_)
                          refine lv_goto (tgt := 84) hx hb dX12_even_124 (by decide) ?_
                          exact ih_84 _ _ _ _ _ _ _ _ _ _ _ _ _ hf hP hD hS (lv_sub hl [2, 3, 4, 5, 6, 7, 8, 9, 1, 0] rfl)
                  refine lv_istore (lv' := [(9, .int 0), (8, .int (x2 - x3)), (0, .ref a_t), (1, .int x1), (2, .int x2), (3, .int x3), (4, .int x4), (5, .int x5), (6, .int x6), (7, .int x7)]) hx hb dX12_even_82 hl (by decide) rfl (fun ls hl => ?_)
                  exact J_84 _ _ _ _ _ _ _ _ _ _ _ _ _ _ hf hP hD hS (lv_sub hl [2, 3, 4, 5, 6, 7, 8, 9, 1, 0] rfl)
            refine lv_istore (lv' := [(7, .int 0), (6, .int 1000000), (5, .int 0), (0, .ref a_t), (1, .int x1), (2, .int x2), (3, .int x3), (4, .int x4)]) hx hb dX12_even_66 hl (by decide) rfl (fun ls hl => ?_)
            exact J_68 _ _ _ _ _ _ _ _ _ _ _ _ hf hP hD hS (lv_sub hl [3, 4, 5, 6, 7, 2, 1, 0] rfl)
          · have hf := it_neg hc_47 hf
            refine lv_iconst (v := (-1)) hx hb dX12_even_50 (by decide) ?_
            obtain rfl := Option.some.inj hf
            exact hQ H locs 51 ls hP hD hS trivial dX12_even_51
theorem hd_X12_even : (yX12_even).cls = RX12 ∧ (yX12_even).cls ≠ "java/lang/invoke/MethodHandle" ∧ (yX12_even).cls ≠ "java/lang/invoke/VarHandle" ∧ (parseMethodDescriptor (yX12_even).desc).map (fun d => d.parameters.length) = some 4 := by decide +kernel
theorem c_X12_even (l : Launch) (D : va_G) (cI cB cZ : ClassId) (a_t : Nat) (a_t_tape : Nat) (a_t_now : Nat) (a_t_aside : Nat) (a_t_kept : Nat) (a_t_said : Nat) (a_t_waitsAt : Nat) (a_t_saidLetter : Nat) (a_t_saidFrom : Nat) (a_t_saidHalf : Nat) (a_t_saidTo : Nat) (a_t_codes : Nat) (a_t_clauseOf : Nat) (a_t_codeFrom : Nat) (a_t_codeHalf : Nat) (a_t_codeTo : Nat) (a_t_stack : Nat) (a_t_facts : Nat) (a_t_newLine : Nat) (a_t_canSit : Nat) (a_t_canNext : Nat) (a_t_singersIn : Nat) (a_t_freeAt : Nat) (a_t_beginsAt : Nat) (a_t_leastBy : Nat) (a_t_mostBy : Nat) (a_t_mostNext : Nat) (a_t_risesTo : Nat) (t_taped : Int32) (t_place0 : Int32) (t_length0 : Int32) (t_fault : Int32) (t_number0 : Int32) (t_open : Int32) (t_codeMany : Int32) (t_waiting : Int32) (t_saidMany : Int32) (t_clauses : Int32) (t_newMany : Int32) (t_lines : Int32) (t_stoodNow : Int32) (t_lastSeat : Int32) (t_climbedNow : Int32) (t_isKept : Int32) (t_tape : (Nat → Int32)) (x1 : Int32) (x2 : Int32) (x3 : Int32) (x4 : Int32) (sz : Nat) (res : Int32 × Int32) (hf : f_X12_even t_taped t_tape x1 x2 x3 x4 = some res) : Met l yX12_even (.code yX12_even cX12_even 10 (some .int) :: TB) (rmk (1) (22)) (pRW [.ref a_t, .int x1, .int x2, .int x3, .int x4] D cI cB cZ (w_X12_even cI cB cZ a_t a_t_tape a_t_now a_t_aside a_t_kept a_t_said a_t_waitsAt a_t_saidLetter a_t_saidFrom a_t_saidHalf a_t_saidTo a_t_codes a_t_clauseOf a_t_codeFrom a_t_codeHalf a_t_codeTo a_t_stack a_t_facts a_t_newLine a_t_canSit a_t_canNext a_t_singersIn a_t_freeAt a_t_beginsAt a_t_leastBy a_t_mostBy a_t_mostNext a_t_risesTo t_taped t_place0 t_length0 t_fault t_number0 t_open t_codeMany t_waiting t_saidMany t_clauses t_newMany t_lines t_stoodNow t_lastSeat t_climbedNow t_isKept t_tape) sz) (qRW (some (.int res.1)) True D (w_X12_even cI cB cZ a_t a_t_tape a_t_now a_t_aside a_t_kept a_t_said a_t_waitsAt a_t_saidLetter a_t_saidFrom a_t_saidHalf a_t_saidTo a_t_codes a_t_clauseOf a_t_codeFrom a_t_codeHalf a_t_codeTo a_t_stack a_t_facts a_t_newLine a_t_canSit a_t_canNext a_t_singersIn a_t_freeAt a_t_beginsAt a_t_leastBy a_t_mostBy a_t_mostNext a_t_risesTo t_taped t_place0 t_length0 t_fault t_number0 t_open t_codeMany t_waiting t_saidMany t_clauses t_newMany t_lines t_stoodNow t_lastSeat t_climbedNow t_isKept t_tape) sz (w_X12_even cI cB cZ a_t a_t_tape a_t_now a_t_aside a_t_kept a_t_said a_t_waitsAt a_t_saidLetter a_t_saidFrom a_t_saidHalf a_t_saidTo a_t_codes a_t_clauseOf a_t_codeFrom a_t_codeHalf a_t_codeTo a_t_stack a_t_facts a_t_newLine a_t_canSit a_t_canNext a_t_singersIn a_t_freeAt a_t_beginsAt a_t_leastBy a_t_mostBy a_t_mostNext a_t_risesTo res.2 t_place0 t_length0 t_fault t_number0 t_open t_codeMany t_waiting t_saidMany t_clauses t_newMany t_lines t_stoodNow t_lastSeat t_climbedNow t_isKept t_tape)) 0 0 (va_A (w_X12_even cI cB cZ a_t a_t_tape a_t_now a_t_aside a_t_kept a_t_said a_t_waitsAt a_t_saidLetter a_t_saidFrom a_t_saidHalf a_t_saidTo a_t_codes a_t_clauseOf a_t_codeFrom a_t_codeHalf a_t_codeTo a_t_stack a_t_facts a_t_newLine a_t_canSit a_t_canNext a_t_singersIn a_t_freeAt a_t_beginsAt a_t_leastBy a_t_mostBy a_t_mostNext a_t_risesTo t_taped t_place0 t_length0 t_fault t_number0 t_open t_codeMany t_waiting t_saidMany t_clauses t_newMany t_lines t_stoodNow t_lastSeat t_climbedNow t_isKept t_tape) sz) :=
  mkRW (by decide +kernel) (Nat.le_of_ble_eq_true rfl) (fun p e s m below meth c ls A hAe S hr hlk hK hA hP hD hS hl => b_X12_even S.1 S.2.1 S.2.2.1 S.2.2.2.1 S.2.2.2.2 (Nat.le_refl _) (Nat.le_refl _) hK.1 hK.2 hA s.heap [] a_t a_t_tape a_t_now a_t_aside a_t_kept a_t_said a_t_waitsAt a_t_saidLetter a_t_saidFrom a_t_saidHalf a_t_saidTo a_t_codes a_t_clauseOf a_t_codeFrom a_t_codeHalf a_t_codeTo a_t_stack a_t_facts a_t_newLine a_t_canSit a_t_canNext a_t_singersIn a_t_freeAt a_t_beginsAt a_t_leastBy a_t_mostBy a_t_mostNext a_t_risesTo t_taped t_place0 t_length0 t_fault t_number0 t_open t_codeMany t_waiting t_saidMany t_clauses t_newMany t_lines t_stoodNow t_lastSeat t_climbedNow t_isKept t_tape x1 x2 x3 x4 res hf hP hD hS (fun H locs pc ls hP hD hS hE hd => eRW_i S.1 S.2.1 hr rfl hlk hAe hP hD hS hE hd) ls hl)
def f_X12_order_119 (t_now : (Nat → Int32)) (k37 : Int32 → Int32 → Int32 → Int32 → Option (Int32)) (k53 : Int32 → Int32 → Int32 → Int32 → Int32 → Option (Int32)) (x3 : Int32) (x4 : Int32) (x5 : Int32) (x6 : Int32) (x7 : Int32) : Option (Int32) := k53 x3 x4 (x5 + 1) x6 (x7 + 1)
def f_X12_order_53 (t_now : (Nat → Int32)) (k37 : Int32 → Int32 → Int32 → Int32 → Option (Int32)) : Nat → Int32 → Int32 → Int32 → Int32 → Int32 → Option (Int32)
  | 0, _, _, _, _, _ => none
  | n + 1, x3, x4, x5, x6, x7 => (if (x4 + 9) ≤ x7 then k37 x3 x4 x5 (x6 + 1) else (f_X12_isTaken t_now x6).bind (fun z66 => (if z66 = 0 then (f_X12_order_53 t_now k37 n) x3 x4 x5 x6 (x7 + 1) else (f_X12_isTaken t_now x7).bind (fun z75 => (if z75 = 0 then (f_X12_order_53 t_now k37 n) x3 x4 x5 x6 (x7 + 1) else (if x3 = 1 then f_X12_order_119 t_now k37 (f_X12_order_53 t_now k37 n) x3 x4 x5 x6 x7 else (if x3 = 2 then ix 637 (144 + x6) (ix 637 (144 + x7) ((if (t_now (144 + x7).toNatClampNeg) ≤ (t_now (144 + x6).toNatClampNeg) then (f_X12_order_53 t_now k37 n) x3 x4 x5 x6 (x7 + 1) else f_X12_order_119 t_now k37 (f_X12_order_53 t_now k37 n) x3 x4 x5 x6 x7))) else (f_X12_order_53 t_now k37 n) x3 x4 x5 x6 (x7 + 1))))))))
def f_X12_order_37 (t_now : (Nat → Int32)) : Nat → Int32 → Int32 → Int32 → Int32 → Option (Int32)
  | 0, _, _, _, _ => none
  | n + 1, x3, x4, x5, x6 => (if (x4 + 9) ≤ x6 then some (x5) else f_X12_order_53 t_now (f_X12_order_37 t_now n) FU x3 x4 x5 x6 (x6 + 1))
def f_X12_order (t_now : (Nat → Int32)) (x1 : Int32) (x2 : Int32) (x3 : Int32) : Option (Int32) := (f_X12_isPew x1 x2).bind (fun z2 => (if z2 = 0 then some ((-1)) else (f_X12_in x3 0 2).bind (fun z11 => (if z11 = 0 then some ((-1)) else f_X12_order_37 t_now FU x3 (9 * ((8 * x1) + x2)) 0 (9 * ((8 * x1) + x2))))))
def w_X12_order (cI cB cZ : ClassId) (a_t : Nat) (a_t_now : Nat) (a_t_aside : Nat) (a_t_kept : Nat) (a_t_tape : Nat) (a_t_said : Nat) (a_t_waitsAt : Nat) (a_t_saidLetter : Nat) (a_t_saidFrom : Nat) (a_t_saidHalf : Nat) (a_t_saidTo : Nat) (a_t_codes : Nat) (a_t_clauseOf : Nat) (a_t_codeFrom : Nat) (a_t_codeHalf : Nat) (a_t_codeTo : Nat) (a_t_stack : Nat) (a_t_facts : Nat) (a_t_newLine : Nat) (a_t_canSit : Nat) (a_t_canNext : Nat) (a_t_singersIn : Nat) (a_t_freeAt : Nat) (a_t_beginsAt : Nat) (a_t_leastBy : Nat) (a_t_mostBy : Nat) (a_t_mostNext : Nat) (a_t_risesTo : Nat) (t_taped : Int32) (t_place0 : Int32) (t_length0 : Int32) (t_fault : Int32) (t_number0 : Int32) (t_open : Int32) (t_codeMany : Int32) (t_waiting : Int32) (t_saidMany : Int32) (t_clauses : Int32) (t_newMany : Int32) (t_lines : Int32) (t_stoodNow : Int32) (t_lastSeat : Int32) (t_climbedNow : Int32) (t_isKept : Int32) (t_now : (Nat → Int32)) : va_W := [(a_t, .inr (11, [.ref a_t_now, .ref a_t_aside, .ref a_t_kept, .ref a_t_tape, .int t_taped, .int t_place0, .int t_length0, .int t_fault, .int t_number0, .int t_open, .int t_codeMany, .int t_waiting, .int t_saidMany, .int t_clauses, .ref a_t_said, .ref a_t_waitsAt, .ref a_t_saidLetter, .ref a_t_saidFrom, .ref a_t_saidHalf, .ref a_t_saidTo, .ref a_t_codes, .ref a_t_clauseOf, .ref a_t_codeFrom, .ref a_t_codeHalf, .ref a_t_codeTo, .ref a_t_stack, .ref a_t_facts, .ref a_t_newLine, .int t_newMany, .int t_lines, .int t_stoodNow, .int t_lastSeat, .int t_climbedNow, .ref a_t_canSit, .ref a_t_canNext, .ref a_t_singersIn, .ref a_t_freeAt, .ref a_t_beginsAt, .ref a_t_leastBy, .ref a_t_mostBy, .ref a_t_mostNext, .ref a_t_risesTo, .int t_isKept])), (a_t_now, .inl (cI, 637, .inl t_now))]
set_option maxHeartbeats 4000000 in
set_option maxRecDepth 100000 in
theorem b_X12_order {p : Program} {l : Launch} {e : Env} {R : Room} {s : State} {m : MethodId} {args : Array Value} {below : List Frame} {meth : Method} {c : Code} {Q : State → Prop} {D : va_G} {cI cB cZ : ClassId} (hx : p.tables.exec = Jvm.exec) (hb : c.code = cX12_order) (hml : c.maxLocals = 8) (hown : s.vm.findClass RX12 = some m.cls) (hT : ∀ w ∈ TB, w.before args s = true) (hRf : (2) ≤ R.frames) (hRl : (43) ≤ R.locals) (hK : va_K D vwCl (tyL cI cB cZ) s) (hN : NW s)  (a_t : Nat) (a_t_now : Nat) (a_t_aside : Nat) (a_t_kept : Nat) (a_t_tape : Nat) (a_t_said : Nat) (a_t_waitsAt : Nat) (a_t_saidLetter : Nat) (a_t_saidFrom : Nat) (a_t_saidHalf : Nat) (a_t_saidTo : Nat) (a_t_codes : Nat) (a_t_clauseOf : Nat) (a_t_codeFrom : Nat) (a_t_codeHalf : Nat) (a_t_codeTo : Nat) (a_t_stack : Nat) (a_t_facts : Nat) (a_t_newLine : Nat) (a_t_canSit : Nat) (a_t_canNext : Nat) (a_t_singersIn : Nat) (a_t_freeAt : Nat) (a_t_beginsAt : Nat) (a_t_leastBy : Nat) (a_t_mostBy : Nat) (a_t_mostNext : Nat) (a_t_risesTo : Nat) (t_taped : Int32) (t_place0 : Int32) (t_length0 : Int32) (t_fault : Int32) (t_number0 : Int32) (t_open : Int32) (t_codeMany : Int32) (t_waiting : Int32) (t_saidMany : Int32) (t_clauses : Int32) (t_newMany : Int32) (t_lines : Int32) (t_stoodNow : Int32) (t_lastSeat : Int32) (t_climbedNow : Int32) (t_isKept : Int32) (t_now : (Nat → Int32)) (x1 : Int32) (x2 : Int32) (x3 : Int32) (res : Int32) (hf : f_X12_order t_now x1 x2 x3 = some res) (hP : va_P D vwCl (w_X12_order cI cB cZ a_t a_t_now a_t_aside a_t_kept a_t_tape a_t_said a_t_waitsAt a_t_saidLetter a_t_saidFrom a_t_saidHalf a_t_saidTo a_t_codes a_t_clauseOf a_t_codeFrom a_t_codeHalf a_t_codeTo a_t_stack a_t_facts a_t_newLine a_t_canSit a_t_canNext a_t_singersIn a_t_freeAt a_t_beginsAt a_t_leastBy a_t_mostBy a_t_mostNext a_t_risesTo t_taped t_place0 t_length0 t_fault t_number0 t_open t_codeMany t_waiting t_saidMany t_clauses t_newMany t_lines t_stoodNow t_lastSeat t_climbedNow t_isKept t_now) s.heap) (hQ : ∀ (pc : Nat) (ls : Array Slot), True → decode cX12_order pc = .ok (.ireturn, 1) → W p l e R s m args below meth c s.heap [] 0 0 Q (F0 m pc ls [.int res])) (ls : Array Slot) (hl : lv_has ls 8 [(0, .ref a_t), (1, .int x1), (2, .int x2), (3, .int x3)]) : W p l e R s m args below meth c s.heap [] 0 0 Q (F0 m 0 ls []) := by
  unfold f_X12_order at hf
  refine lv_iload_n hx hb dX12_order_0 rfl (lv_at hl 1 rfl) ?_
  refine lv_iload_n hx hb dX12_order_1 rfl (lv_at hl 2 rfl) ?_
  obtain ⟨z2, e2, hf⟩ := bd_some hf
  refine rS_RO (As := [.int x1, .int x2]) (rest := []) ⟨hx, hb, hml, hown, hT⟩ (gdS tb_1527 tb_1528 tb_97 tb_1529) hd_X12_isPew (c_X12_isPew l D cI cB cZ x1 x2 z2 e2) ⟨rfl, rfl⟩ ⟨Nat.le_trans (by decide) hRf, Nat.le_trans (by decide) hRl⟩ ⟨hK, hN⟩ hP [] rfl rfl hl.1 rfl (Nat.le_of_ble_eq_true rfl) ⟨Nat.zero_le _, Nat.zero_le _⟩ dX12_order_2 (fun hz_2 => ?_)
  refine lv_if_eq (tgt := 17) hx hb dX12_order_5 (by decide) (fun hc_5 => ?_) (fun hc_5 => ?_)
  · have hf := it_pos hc_5 hf
    refine lv_iconst (v := (-1)) hx hb dX12_order_17 (by decide) ?_
    obtain rfl := Option.some.inj hf
    exact hQ 18 ls trivial dX12_order_18
  · have hf := it_neg hc_5 hf
    refine lv_iload_n hx hb dX12_order_8 rfl (lv_at hl 3 rfl) ?_
    refine lv_iconst (v := 0) hx hb dX12_order_9 (by decide) ?_
    refine lv_iconst (v := 2) hx hb dX12_order_10 (by decide) ?_
    obtain ⟨z11, e11, hf⟩ := bd_some hf
    refine rS_RO (As := [.int x3, .int 0, .int 2]) (rest := []) ⟨hx, hb, hml, hown, hT⟩ (gdS tb_1283 tb_1284 tb_97 tb_1285) hd_X12_in (c_X12_in l D cI cB cZ x3 0 2 z11 e11) ⟨rfl, rfl⟩ ⟨Nat.le_trans (by decide) hRf, Nat.le_trans (by decide) hRl⟩ ⟨hK, hN⟩ hP [] rfl rfl hl.1 rfl (Nat.le_of_ble_eq_true rfl) ⟨Nat.zero_le _, Nat.zero_le _⟩ dX12_order_11 (fun hz_11 => ?_)
    refine lv_if_ne (tgt := 19) hx hb dX12_order_14 (by decide) (fun hc_14 => ?_) (fun hc_14 => ?_)
    · have hf := it_neg hc_14 hf
      refine lv_bipush (v := 9) hx hb dX12_order_19 (by decide) ?_
      refine lv_bipush (v := 8) hx hb dX12_order_21 (by decide) ?_
      refine lv_iload_n hx hb dX12_order_23 rfl (lv_at hl 1 rfl) ?_
      refine lv_imul hx hb dX12_order_24 ?_
      refine lv_iload_n hx hb dX12_order_25 rfl (lv_at hl 2 rfl) ?_
      refine lv_iadd hx hb dX12_order_26 ?_
      refine lv_imul hx hb dX12_order_27 ?_
      refine lv_istore (lv' := [(4, .int (9 * ((8 * x1) + x2))), (0, .ref a_t), (1, .int x1), (2, .int x2), (3, .int x3)]) hx hb dX12_order_28 hl (by decide) rfl (fun ls hl => ?_)
      refine lv_iconst (v := 0) hx hb dX12_order_30 (by decide) ?_
      refine lv_istore (lv' := [(5, .int 0), (4, .int (9 * ((8 * x1) + x2))), (0, .ref a_t), (1, .int x1), (2, .int x2), (3, .int x3)]) hx hb dX12_order_31 hl (by decide) rfl (fun ls hl => ?_)
      refine lv_iload hx hb dX12_order_33 (lv_at hl 1 rfl) ?_
      have J_37 : ∀ (n_37 : Nat) (x3 : Int32) (x4 : Int32) (x5 : Int32) (x6 : Int32) (ls : Array Slot), f_X12_order_37 t_now n_37 x3 x4 x5 x6 = some res → lv_has ls 8 [(0, .ref a_t), (3, .int x3), (4, .int x4), (5, .int x5), (6, .int x6)] → W p l e R s m args below meth c s.heap [] 0 0 Q (F0 m 37 ls []) := by
        intro n_37
        induction n_37 with
        | zero =>
          intro x3 x4 x5 x6 ls hf hl
          cases hf
        | succ n_37 ih_37 =>
          intro x3 x4 x5 x6 ls hf hl
          unfold f_X12_order_37 at hf
          refine lv_iload hx hb dX12_order_37 (lv_at hl 4 rfl) ?_
          refine lv_iload hx hb dX12_order_39 (lv_at hl 2 rfl) ?_
          refine lv_bipush (v := 9) hx hb dX12_order_41 (by decide) ?_
          refine lv_iadd hx hb dX12_order_43 ?_
          refine lv_icmp_ge (tgt := 137) hx hb dX12_order_44 (by decide) (fun hc_44 => ?_) (fun hc_44 => ?_)
          · have hf := it_pos hc_44 hf
            refine lv_iload hx hb dX12_order_137 (lv_at hl 3 rfl) ?_
            obtain rfl := Option.some.inj hf
            exact hQ 139 ls trivial dX12_order_139
          · have hf := it_neg hc_44 hf
            refine lv_iload hx hb dX12_order_47 (lv_at hl 4 rfl) ?_
            refine lv_iconst (v := 1) hx hb dX12_order_49 (by decide) ?_
            refine lv_iadd hx hb dX12_order_50 ?_
            have J_53 : ∀ (n_53 : Nat) (x3 : Int32) (x4 : Int32) (x5 : Int32) (x6 : Int32) (x7 : Int32) (ls : Array Slot), f_X12_order_53 t_now (f_X12_order_37 t_now n_37) n_53 x3 x4 x5 x6 x7 = some res → lv_has ls 8 [(0, .ref a_t), (3, .int x3), (4, .int x4), (5, .int x5), (6, .int x6), (7, .int x7)] → W p l e R s m args below meth c s.heap [] 0 0 Q (F0 m 53 ls []) := by
              intro n_53
              induction n_53 with
              | zero =>
                intro x3 x4 x5 x6 x7 ls hf hl
                cases hf
              | succ n_53 ih_53 =>
                intro x3 x4 x5 x6 x7 ls hf hl
                unfold f_X12_order_53 at hf
                refine lv_iload hx hb dX12_order_53 (lv_at hl 5 rfl) ?_
                refine lv_iload hx hb dX12_order_55 (lv_at hl 2 rfl) ?_
                refine lv_bipush (v := 9) hx hb dX12_order_57 (by decide) ?_
                refine lv_iadd hx hb dX12_order_59 ?_
                refine lv_icmp_ge (tgt := 131) hx hb dX12_order_60 (by decide) (fun hc_60 => ?_) (fun hc_60 => ?_)
                · have hf := it_pos hc_60 hf
                  refine lv_iinc (v := x6 + 1) (lv' := [(6, .int (x6 + 1)), (0, .ref a_t), (3, .int x3), (4, .int x4), (5, .int x5), (7, .int x7)]) hx hb dX12_order_131 hl (k := 4) rfl (congrArg (_ + ·) (by decide : Int32.ofInt 1 = 1)) (by decide) rfl (fun ls hl => ?_)
                  refine lv_goto (tgt := 37) hx hb dX12_order_134 (by decide) ?_
                  exact ih_37 _ _ _ _ _ hf (lv_sub hl [1, 2, 3, 4, 0] rfl)
                · have hf := it_neg hc_60 hf
                  refine lv_aload_n hx hb dX12_order_63 rfl (lv_at hl 0 rfl) ?_
                  refine lv_iload hx hb dX12_order_64 (lv_at hl 4 rfl) ?_
                  obtain ⟨z66, e66, hf⟩ := bd_some hf
                  refine rV_RO (As := [.int x6]) (rest := []) ⟨hx, hb, hml, hown, hT⟩ (gdV tb_1404 tb_1406 tb_56 tb_97 tb_1407) hd_X12_isTaken (c_X12_isTaken l D cI cB cZ a_t a_t_now a_t_aside a_t_kept a_t_tape a_t_said a_t_waitsAt a_t_saidLetter a_t_saidFrom a_t_saidHalf a_t_saidTo a_t_codes a_t_clauseOf a_t_codeFrom a_t_codeHalf a_t_codeTo a_t_stack a_t_facts a_t_newLine a_t_canSit a_t_canNext a_t_singersIn a_t_freeAt a_t_beginsAt a_t_leastBy a_t_mostBy a_t_mostNext a_t_risesTo t_taped t_place0 t_length0 t_fault t_number0 t_open t_codeMany t_waiting t_saidMany t_clauses t_newMany t_lines t_stoodNow t_lastSeat t_climbedNow t_isKept t_now x6 z66 e66) ⟨rfl, rfl⟩ ⟨Nat.le_trans (by decide) hRf, Nat.le_trans (by decide) hRl⟩ ⟨hK, hN⟩ hP [0, 1] rfl 0 rfl rfl rfl hl.1 rfl (Nat.le_of_ble_eq_true rfl) ⟨Nat.zero_le _, Nat.zero_le _⟩ dX12_order_66 (fun hz_66 => ?_)
                  refine lv_if_eq (tgt := 125) hx hb dX12_order_69 (by decide) (fun hc_69 => ?_) (fun hc_69 => ?_)
                  · have hf := it_pos hc_69 hf
                    refine lv_iinc (v := x7 + 1) (lv' := [(7, .int (x7 + 1)), (0, .ref a_t), (3, .int x3), (4, .int x4), (5, .int x5), (6, .int x6)]) hx hb dX12_order_125 hl (k := 5) rfl (congrArg (_ + ·) (by decide : Int32.ofInt 1 = 1)) (by decide) rfl (fun ls hl => ?_)
                    refine lv_goto (tgt := 53) hx hb dX12_order_128 (by decide) ?_
                    exact ih_53 _ _ _ _ _ _ hf (lv_sub hl [1, 2, 3, 4, 5, 0] rfl)
                  · have hf := it_neg hc_69 hf
                    refine lv_aload_n hx hb dX12_order_72 rfl (lv_at hl 0 rfl) ?_
                    refine lv_iload hx hb dX12_order_73 (lv_at hl 5 rfl) ?_
                    obtain ⟨z75, e75, hf⟩ := bd_some hf
                    refine rV_RO (As := [.int x7]) (rest := []) ⟨hx, hb, hml, hown, hT⟩ (gdV tb_1404 tb_1406 tb_56 tb_97 tb_1407) hd_X12_isTaken (c_X12_isTaken l D cI cB cZ a_t a_t_now a_t_aside a_t_kept a_t_tape a_t_said a_t_waitsAt a_t_saidLetter a_t_saidFrom a_t_saidHalf a_t_saidTo a_t_codes a_t_clauseOf a_t_codeFrom a_t_codeHalf a_t_codeTo a_t_stack a_t_facts a_t_newLine a_t_canSit a_t_canNext a_t_singersIn a_t_freeAt a_t_beginsAt a_t_leastBy a_t_mostBy a_t_mostNext a_t_risesTo t_taped t_place0 t_length0 t_fault t_number0 t_open t_codeMany t_waiting t_saidMany t_clauses t_newMany t_lines t_stoodNow t_lastSeat t_climbedNow t_isKept t_now x7 z75 e75) ⟨rfl, rfl⟩ ⟨Nat.le_trans (by decide) hRf, Nat.le_trans (by decide) hRl⟩ ⟨hK, hN⟩ hP [0, 1] rfl 0 rfl rfl rfl hl.1 rfl (Nat.le_of_ble_eq_true rfl) ⟨Nat.zero_le _, Nat.zero_le _⟩ dX12_order_75 (fun hz_75 => ?_)
                    refine lv_if_ne (tgt := 84) hx hb dX12_order_78 (by decide) (fun hc_78 => ?_) (fun hc_78 => ?_)
                    · have hf := it_neg hc_78 hf
                      refine lv_iload_n hx hb dX12_order_84 rfl (lv_at hl 1 rfl) ?_
                      refine lv_iconst (v := 1) hx hb dX12_order_85 (by decide) ?_
                      have J_119 : ∀ (x3 : Int32) (x4 : Int32) (x5 : Int32) (x6 : Int32) (x7 : Int32) (ls : Array Slot), f_X12_order_119 t_now (f_X12_order_37 t_now n_37) (f_X12_order_53 t_now (f_X12_order_37 t_now n_37) n_53) x3 x4 x5 x6 x7 = some res → lv_has ls 8 [(0, .ref a_t), (3, .int x3), (4, .int x4), (5, .int x5), (6, .int x6), (7, .int x7)] → W p l e R s m args below meth c s.heap [] 0 0 Q (F0 m 119 ls []) := by
                        intro x3 x4 x5 x6 x7 ls hf hl
                        unfold f_X12_order_119 at hf
                        refine lv_iload hx hb dX12_order_119 (lv_at hl 3 rfl) ?_
                        refine lv_iconst (v := 1) hx hb dX12_order_121 (by decide) ?_
                        refine lv_iadd hx hb dX12_order_122 ?_
                        refine lv_istore (lv' := [(5, .int (x5 + 1)), (0, .ref a_t), (3, .int x3), (4, .int x4), (6, .int x6), (7, .int x7)]) hx hb dX12_order_123 hl (by decide) rfl (fun ls hl => ?_)
                        refine lv_iinc (v := x7 + 1) (lv' := [(7, .int (x7 + 1)), (5, .int (x5 + 1)), (0, .ref a_t), (3, .int x3), (4, .int x4), (6, .int x6)]) hx hb dX12_order_125 hl (k := 5) rfl (congrArg (_ + ·) (by decide : Int32.ofInt 1 = 1)) (by decide) rfl (fun ls hl => ?_)
                        refine lv_goto (tgt := 53) hx hb dX12_order_128 (by decide) ?_
                        exact ih_53 _ _ _ _ _ _ hf (lv_sub hl [2, 3, 4, 1, 5, 0] rfl)
                      refine lv_icmp_eq (tgt := 119) hx hb dX12_order_86 (by decide) (fun hc_86 => ?_) (fun hc_86 => ?_)
                      · have hf := it_pos hc_86 hf
                        exact J_119 _ _ _ _ _ _ hf (lv_sub hl [0, 1, 2, 3, 4, 5] rfl)
                      · have hf := it_neg hc_86 hf
                        refine lv_iload_n hx hb dX12_order_89 rfl (lv_at hl 1 rfl) ?_
                        refine lv_iconst (v := 2) hx hb dX12_order_90 (by decide) ?_
                        refine lv_icmp_ne (tgt := 125) hx hb dX12_order_91 (by decide) (fun hc_91 => ?_) (fun hc_91 => ?_)
                        · have hf := it_neg hc_91 hf
                          refine lv_iinc (v := x7 + 1) (lv' := [(7, .int (x7 + 1)), (0, .ref a_t), (3, .int x3), (4, .int x4), (5, .int x5), (6, .int x6)]) hx hb dX12_order_125 hl (k := 5) rfl (congrArg (_ + ·) (by decide : Int32.ofInt 1 = 1)) (by decide) rfl (fun ls hl => ?_)
                          refine lv_goto (tgt := 53) hx hb dX12_order_128 (by decide) ?_
                          exact ih_53 _ _ _ _ _ _ hf (lv_sub hl [1, 2, 3, 4, 5, 0] rfl)
                        · have hf := it_pos hc_91 hf
                          refine lv_aload_n hx hb dX12_order_94 rfl (lv_at hl 0 rfl) ?_
                          refine va_get (D := D) (ci := 11) (v := .ref a_t_now) (C := RX12) (T := TX12) (N := 43) hx hb hT inX12 hown hK hP 0 rfl rfl 0 (by decide) (hT _ tb_1148) (fun _ h9 => h9) rfl dX12_order_95 ?_
                          refine lv_sipush (v := 144) hx hb dX12_order_98 (by decide) ?_
                          refine lv_iload hx hb dX12_order_101 (lv_at hl 4 rfl) ?_
                          refine lv_iadd hx hb dX12_order_103 ?_
                          obtain ⟨hi_104, hf⟩ := ix_some hf
                          refine va_iald hx hb hK hP 1 0 rfl rfl hi_104 dX12_order_104 ?_
                          refine lv_aload_n hx hb dX12_order_105 rfl (lv_at hl 0 rfl) ?_
                          refine va_get (D := D) (ci := 11) (v := .ref a_t_now) (C := RX12) (T := TX12) (N := 43) hx hb hT inX12 hown hK hP 0 rfl rfl 0 (by decide) (hT _ tb_1148) (fun _ h9 => h9) rfl dX12_order_106 ?_
                          refine lv_sipush (v := 144) hx hb dX12_order_109 (by decide) ?_
                          refine lv_iload hx hb dX12_order_112 (lv_at hl 5 rfl) ?_
                          refine lv_iadd hx hb dX12_order_114 ?_
                          obtain ⟨hi_115, hf⟩ := ix_some hf
                          refine va_iald hx hb hK hP 1 0 rfl rfl hi_115 dX12_order_115 ?_
                          refine lv_icmp_ge (tgt := 125) hx hb dX12_order_116 (by decide) (fun hc_116 => ?_) (fun hc_116 => ?_)
                          · have hf := it_pos hc_116 hf
                            refine lv_iinc (v := x7 + 1) (lv' := [(7, .int (x7 + 1)), (0, .ref a_t), (3, .int x3), (4, .int x4), (5, .int x5), (6, .int x6)]) hx hb dX12_order_125 hl (k := 5) rfl (congrArg (_ + ·) (by decide : Int32.ofInt 1 = 1)) (by decide) rfl (fun ls hl => ?_)
                            refine lv_goto (tgt := 53) hx hb dX12_order_128 (by decide) ?_
                            exact ih_53 _ _ _ _ _ _ hf (lv_sub hl [1, 2, 3, 4, 5, 0] rfl)
                          · have hf := it_neg hc_116 hf
                            exact J_119 _ _ _ _ _ _ hf (lv_sub hl [0, 1, 2, 3, 4, 5] rfl)
                    · have hf := it_pos hc_78 hf
                      refine lv_goto (tgt := 125) hx hb dX12_order_81 (by decide) ?_
                      refine lv_iinc (v := x7 + 1) (lv' := [(7, .int (x7 + 1)), (0, .ref a_t), (3, .int x3), (4, .int x4), (5, .int x5), (6, .int x6)]) hx hb dX12_order_125 hl (k := 5) rfl (congrArg (_ + ·) (by decide : Int32.ofInt 1 = 1)) (by decide) rfl (fun ls hl => ?_)
                      refine lv_goto (tgt := 53) hx hb dX12_order_128 (by decide) ?_
                      exact ih_53 _ _ _ _ _ _ hf (lv_sub hl [1, 2, 3, 4, 5, 0] rfl)
            refine lv_istore (lv' := [(7, .int (x6 + 1)), (0, .ref a_t), (3, .int x3), (4, .int x4), (5, .int x5), (6, .int x6)]) hx hb dX12_order_51 hl (by decide) rfl (fun ls hl => ?_)
            exact J_53 _ _ _ _ _ _ _ hf (lv_sub hl [1, 2, 3, 4, 5, 0] rfl)
      refine lv_istore (lv' := [(6, .int (9 * ((8 * x1) + x2))), (5, .int 0), (4, .int (9 * ((8 * x1) + x2))), (0, .ref a_t), (1, .int x1), (2, .int x2), (3, .int x3)]) hx hb dX12_order_35 hl (by decide) rfl (fun ls hl => ?_)
      exact J_37 _ _ _ _ _ _ hf (lv_sub hl [3, 6, 2, 1, 0] rfl)
    · have hf := it_pos hc_14 hf
      refine lv_iconst (v := (-1)) hx hb dX12_order_17 (by decide) ?_
      obtain rfl := Option.some.inj hf
      exact hQ 18 ls trivial dX12_order_18
theorem hd_X12_order : (yX12_order).cls = RX12 ∧ (yX12_order).cls ≠ "java/lang/invoke/MethodHandle" ∧ (yX12_order).cls ≠ "java/lang/invoke/VarHandle" ∧ (parseMethodDescriptor (yX12_order).desc).map (fun d => d.parameters.length) = some 3 := by decide +kernel
theorem c_X12_order (l : Launch) (D : va_G) (cI cB cZ : ClassId) (a_t : Nat) (a_t_now : Nat) (a_t_aside : Nat) (a_t_kept : Nat) (a_t_tape : Nat) (a_t_said : Nat) (a_t_waitsAt : Nat) (a_t_saidLetter : Nat) (a_t_saidFrom : Nat) (a_t_saidHalf : Nat) (a_t_saidTo : Nat) (a_t_codes : Nat) (a_t_clauseOf : Nat) (a_t_codeFrom : Nat) (a_t_codeHalf : Nat) (a_t_codeTo : Nat) (a_t_stack : Nat) (a_t_facts : Nat) (a_t_newLine : Nat) (a_t_canSit : Nat) (a_t_canNext : Nat) (a_t_singersIn : Nat) (a_t_freeAt : Nat) (a_t_beginsAt : Nat) (a_t_leastBy : Nat) (a_t_mostBy : Nat) (a_t_mostNext : Nat) (a_t_risesTo : Nat) (t_taped : Int32) (t_place0 : Int32) (t_length0 : Int32) (t_fault : Int32) (t_number0 : Int32) (t_open : Int32) (t_codeMany : Int32) (t_waiting : Int32) (t_saidMany : Int32) (t_clauses : Int32) (t_newMany : Int32) (t_lines : Int32) (t_stoodNow : Int32) (t_lastSeat : Int32) (t_climbedNow : Int32) (t_isKept : Int32) (t_now : (Nat → Int32)) (x1 : Int32) (x2 : Int32) (x3 : Int32) (res : Int32) (hf : f_X12_order t_now x1 x2 x3 = some res) : Met l yX12_order (.code yX12_order cX12_order 8 (some .int) :: TB) (rmk (2) (43)) (pRO [.ref a_t, .int x1, .int x2, .int x3] D cI cB cZ (w_X12_order cI cB cZ a_t a_t_now a_t_aside a_t_kept a_t_tape a_t_said a_t_waitsAt a_t_saidLetter a_t_saidFrom a_t_saidHalf a_t_saidTo a_t_codes a_t_clauseOf a_t_codeFrom a_t_codeHalf a_t_codeTo a_t_stack a_t_facts a_t_newLine a_t_canSit a_t_canNext a_t_singersIn a_t_freeAt a_t_beginsAt a_t_leastBy a_t_mostBy a_t_mostNext a_t_risesTo t_taped t_place0 t_length0 t_fault t_number0 t_open t_codeMany t_waiting t_saidMany t_clauses t_newMany t_lines t_stoodNow t_lastSeat t_climbedNow t_isKept t_now)) (qRO (some (.int res)) True) 0 0 (fun _ => False) :=
  mkRO (by decide +kernel) (Nat.le_of_ble_eq_true rfl) (fun p e s m below meth c ls S hr hlk hK hP hl => b_X12_order S.1 S.2.1 S.2.2.1 S.2.2.2.1 S.2.2.2.2 (Nat.le_refl _) (Nat.le_refl _) hK.1 hK.2 a_t a_t_now a_t_aside a_t_kept a_t_tape a_t_said a_t_waitsAt a_t_saidLetter a_t_saidFrom a_t_saidHalf a_t_saidTo a_t_codes a_t_clauseOf a_t_codeFrom a_t_codeHalf a_t_codeTo a_t_stack a_t_facts a_t_newLine a_t_canSit a_t_canNext a_t_singersIn a_t_freeAt a_t_beginsAt a_t_leastBy a_t_mostBy a_t_mostNext a_t_risesTo t_taped t_place0 t_length0 t_fault t_number0 t_open t_codeMany t_waiting t_saidMany t_clauses t_newMany t_lines t_stoodNow t_lastSeat t_climbedNow t_isKept t_now x1 x2 x3 res hf hP (fun pc ls hE hd => eRO_i S.1 S.2.1 hr rfl hlk hE hd) ls hl)
def f_X12_sumOf_5 (t_tape : (Nat → Int32)) : Nat → Int32 → Int32 → Int32 → Int32 → Option (Int32)
  | 0, _, _, _, _ => none
  | n + 1, x1, x2, x3, x4 => (if x2 ≤ x4 then some (x3) else (f_X12_has x1 x4).bind (fun z14 => (if z14 = 0 then (f_X12_sumOf_5 t_tape n) x1 x2 x3 (x4 + 1) else (f_X12_octet t_tape x4).bind (fun z24 => (f_X12_sumOf_5 t_tape n) x1 x2 (x3 + z24) (x4 + 1)))))
def f_X12_sumOf (t_tape : (Nat → Int32)) (x1 : Int32) (x2 : Int32) : Option (Int32) := f_X12_sumOf_5 t_tape FU x1 x2 0 0
def w_X12_sumOf (cI cB cZ : ClassId) (a_t : Nat) (a_t_tape : Nat) (a_t_now : Nat) (a_t_aside : Nat) (a_t_kept : Nat) (a_t_said : Nat) (a_t_waitsAt : Nat) (a_t_saidLetter : Nat) (a_t_saidFrom : Nat) (a_t_saidHalf : Nat) (a_t_saidTo : Nat) (a_t_codes : Nat) (a_t_clauseOf : Nat) (a_t_codeFrom : Nat) (a_t_codeHalf : Nat) (a_t_codeTo : Nat) (a_t_stack : Nat) (a_t_facts : Nat) (a_t_newLine : Nat) (a_t_canSit : Nat) (a_t_canNext : Nat) (a_t_singersIn : Nat) (a_t_freeAt : Nat) (a_t_beginsAt : Nat) (a_t_leastBy : Nat) (a_t_mostBy : Nat) (a_t_mostNext : Nat) (a_t_risesTo : Nat) (t_taped : Int32) (t_place0 : Int32) (t_length0 : Int32) (t_fault : Int32) (t_number0 : Int32) (t_open : Int32) (t_codeMany : Int32) (t_waiting : Int32) (t_saidMany : Int32) (t_clauses : Int32) (t_newMany : Int32) (t_lines : Int32) (t_stoodNow : Int32) (t_lastSeat : Int32) (t_climbedNow : Int32) (t_isKept : Int32) (t_tape : (Nat → Int32)) : va_W := [(a_t, .inr (11, [.ref a_t_now, .ref a_t_aside, .ref a_t_kept, .ref a_t_tape, .int t_taped, .int t_place0, .int t_length0, .int t_fault, .int t_number0, .int t_open, .int t_codeMany, .int t_waiting, .int t_saidMany, .int t_clauses, .ref a_t_said, .ref a_t_waitsAt, .ref a_t_saidLetter, .ref a_t_saidFrom, .ref a_t_saidHalf, .ref a_t_saidTo, .ref a_t_codes, .ref a_t_clauseOf, .ref a_t_codeFrom, .ref a_t_codeHalf, .ref a_t_codeTo, .ref a_t_stack, .ref a_t_facts, .ref a_t_newLine, .int t_newMany, .int t_lines, .int t_stoodNow, .int t_lastSeat, .int t_climbedNow, .ref a_t_canSit, .ref a_t_canNext, .ref a_t_singersIn, .ref a_t_freeAt, .ref a_t_beginsAt, .ref a_t_leastBy, .ref a_t_mostBy, .ref a_t_mostNext, .ref a_t_risesTo, .int t_isKept])), (a_t_tape, .inl (cB, 260, .inl t_tape))]
set_option maxHeartbeats 4000000 in
set_option maxRecDepth 100000 in
theorem b_X12_sumOf {p : Program} {l : Launch} {e : Env} {R : Room} {s : State} {m : MethodId} {args : Array Value} {below : List Frame} {meth : Method} {c : Code} {Q : State → Prop} {D : va_G} {cI cB cZ : ClassId} (hx : p.tables.exec = Jvm.exec) (hb : c.code = cX12_sumOf) (hml : c.maxLocals = 5) (hown : s.vm.findClass RX12 = some m.cls) (hT : ∀ w ∈ TB, w.before args s = true) (hRf : (1) ≤ R.frames) (hRl : (21) ≤ R.locals) (hK : va_K D vwCl (tyL cI cB cZ) s) (hN : NW s)  (a_t : Nat) (a_t_tape : Nat) (a_t_now : Nat) (a_t_aside : Nat) (a_t_kept : Nat) (a_t_said : Nat) (a_t_waitsAt : Nat) (a_t_saidLetter : Nat) (a_t_saidFrom : Nat) (a_t_saidHalf : Nat) (a_t_saidTo : Nat) (a_t_codes : Nat) (a_t_clauseOf : Nat) (a_t_codeFrom : Nat) (a_t_codeHalf : Nat) (a_t_codeTo : Nat) (a_t_stack : Nat) (a_t_facts : Nat) (a_t_newLine : Nat) (a_t_canSit : Nat) (a_t_canNext : Nat) (a_t_singersIn : Nat) (a_t_freeAt : Nat) (a_t_beginsAt : Nat) (a_t_leastBy : Nat) (a_t_mostBy : Nat) (a_t_mostNext : Nat) (a_t_risesTo : Nat) (t_taped : Int32) (t_place0 : Int32) (t_length0 : Int32) (t_fault : Int32) (t_number0 : Int32) (t_open : Int32) (t_codeMany : Int32) (t_waiting : Int32) (t_saidMany : Int32) (t_clauses : Int32) (t_newMany : Int32) (t_lines : Int32) (t_stoodNow : Int32) (t_lastSeat : Int32) (t_climbedNow : Int32) (t_isKept : Int32) (t_tape : (Nat → Int32)) (x1 : Int32) (x2 : Int32) (res : Int32) (hf : f_X12_sumOf t_tape x1 x2 = some res) (hP : va_P D vwCl (w_X12_sumOf cI cB cZ a_t a_t_tape a_t_now a_t_aside a_t_kept a_t_said a_t_waitsAt a_t_saidLetter a_t_saidFrom a_t_saidHalf a_t_saidTo a_t_codes a_t_clauseOf a_t_codeFrom a_t_codeHalf a_t_codeTo a_t_stack a_t_facts a_t_newLine a_t_canSit a_t_canNext a_t_singersIn a_t_freeAt a_t_beginsAt a_t_leastBy a_t_mostBy a_t_mostNext a_t_risesTo t_taped t_place0 t_length0 t_fault t_number0 t_open t_codeMany t_waiting t_saidMany t_clauses t_newMany t_lines t_stoodNow t_lastSeat t_climbedNow t_isKept t_tape) s.heap) (hQ : ∀ (pc : Nat) (ls : Array Slot), True → decode cX12_sumOf pc = .ok (.ireturn, 1) → W p l e R s m args below meth c s.heap [] 0 0 Q (F0 m pc ls [.int res])) (ls : Array Slot) (hl : lv_has ls 5 [(0, .ref a_t), (1, .int x1), (2, .int x2)]) : W p l e R s m args below meth c s.heap [] 0 0 Q (F0 m 0 ls []) := by
  unfold f_X12_sumOf at hf
  refine lv_iconst (v := 0) hx hb dX12_sumOf_0 (by decide) ?_
  refine lv_istore_n (lv' := [(3, .int 0), (0, .ref a_t), (1, .int x1), (2, .int x2)]) hx hb dX12_sumOf_1 rfl hl (by decide) rfl (fun ls hl => ?_)
  refine lv_iconst (v := 0) hx hb dX12_sumOf_2 (by decide) ?_
  have J_5 : ∀ (n_5 : Nat) (x1 : Int32) (x2 : Int32) (x3 : Int32) (x4 : Int32) (ls : Array Slot), f_X12_sumOf_5 t_tape n_5 x1 x2 x3 x4 = some res → lv_has ls 5 [(0, .ref a_t), (1, .int x1), (2, .int x2), (3, .int x3), (4, .int x4)] → W p l e R s m args below meth c s.heap [] 0 0 Q (F0 m 5 ls []) := by
    intro n_5
    induction n_5 with
    | zero =>
      intro x1 x2 x3 x4 ls hf hl
      cases hf
    | succ n_5 ih_5 =>
      intro x1 x2 x3 x4 ls hf hl
      unfold f_X12_sumOf_5 at hf
      refine lv_iload hx hb dX12_sumOf_5 (lv_at hl 4 rfl) ?_
      refine lv_iload_n hx hb dX12_sumOf_7 rfl (lv_at hl 2 rfl) ?_
      refine lv_icmp_ge (tgt := 35) hx hb dX12_sumOf_8 (by decide) (fun hc_8 => ?_) (fun hc_8 => ?_)
      · have hf := it_pos hc_8 hf
        refine lv_iload_n hx hb dX12_sumOf_35 rfl (lv_at hl 3 rfl) ?_
        obtain rfl := Option.some.inj hf
        exact hQ 36 ls trivial dX12_sumOf_36
      · have hf := it_neg hc_8 hf
        refine lv_iload_n hx hb dX12_sumOf_11 rfl (lv_at hl 1 rfl) ?_
        refine lv_iload hx hb dX12_sumOf_12 (lv_at hl 4 rfl) ?_
        obtain ⟨z14, e14, hf⟩ := bd_some hf
        refine rS_RO (As := [.int x1, .int x4]) (rest := []) ⟨hx, hb, hml, hown, hT⟩ (gdS tb_1563 tb_1564 tb_97 tb_1565) hd_X12_has (c_X12_has l D cI cB cZ x1 x4 z14 e14) ⟨rfl, rfl⟩ ⟨Nat.le_trans (by decide) hRf, Nat.le_trans (by decide) hRl⟩ ⟨hK, hN⟩ hP [] rfl rfl hl.1 rfl (Nat.le_of_ble_eq_true rfl) ⟨Nat.zero_le _, Nat.zero_le _⟩ dX12_sumOf_14 (fun hz_14 => ?_)
        refine lv_if_eq (tgt := 29) hx hb dX12_sumOf_17 (by decide) (fun hc_17 => ?_) (fun hc_17 => ?_)
        · have hf := it_pos hc_17 hf
          refine lv_iinc (v := x4 + 1) (lv' := [(4, .int (x4 + 1)), (0, .ref a_t), (1, .int x1), (2, .int x2), (3, .int x3)]) hx hb dX12_sumOf_29 hl (k := 4) rfl (congrArg (_ + ·) (by decide : Int32.ofInt 1 = 1)) (by decide) rfl (fun ls hl => ?_)
          refine lv_goto (tgt := 5) hx hb dX12_sumOf_32 (by decide) ?_
          exact ih_5 _ _ _ _ _ hf (lv_sub hl [1, 2, 3, 4, 0] rfl)
        · have hf := it_neg hc_17 hf
          refine lv_iload_n hx hb dX12_sumOf_20 rfl (lv_at hl 3 rfl) ?_
          refine lv_aload_n hx hb dX12_sumOf_21 rfl (lv_at hl 0 rfl) ?_
          refine lv_iload hx hb dX12_sumOf_22 (lv_at hl 4 rfl) ?_
          obtain ⟨z24, e24, hf⟩ := bd_some hf
          refine rV_RO (As := [.int x4]) (rest := [.int x3]) ⟨hx, hb, hml, hown, hT⟩ (gdV tb_1566 tb_1568 tb_80 tb_97 tb_1569) hd_X12_octet (c_X12_octet l D cI cB cZ a_t a_t_tape a_t_now a_t_aside a_t_kept a_t_said a_t_waitsAt a_t_saidLetter a_t_saidFrom a_t_saidHalf a_t_saidTo a_t_codes a_t_clauseOf a_t_codeFrom a_t_codeHalf a_t_codeTo a_t_stack a_t_facts a_t_newLine a_t_canSit a_t_canNext a_t_singersIn a_t_freeAt a_t_beginsAt a_t_leastBy a_t_mostBy a_t_mostNext a_t_risesTo t_taped t_place0 t_length0 t_fault t_number0 t_open t_codeMany t_waiting t_saidMany t_clauses t_newMany t_lines t_stoodNow t_lastSeat t_climbedNow t_isKept t_tape x4 z24 e24) ⟨rfl, rfl⟩ ⟨Nat.le_trans (by decide) hRf, Nat.le_trans (by decide) hRl⟩ ⟨hK, hN⟩ hP [0, 1] rfl 0 rfl rfl rfl hl.1 rfl (Nat.le_of_ble_eq_true rfl) ⟨Nat.zero_le _, Nat.zero_le _⟩ dX12_sumOf_24 (fun _ => ?_)
          refine lv_iadd hx hb dX12_sumOf_27 ?_
          refine lv_istore_n (lv' := [(3, .int (x3 + z24)), (0, .ref a_t), (1, .int x1), (2, .int x2), (4, .int x4)]) hx hb dX12_sumOf_28 rfl hl (by decide) rfl (fun ls hl => ?_)
          refine lv_iinc (v := x4 + 1) (lv' := [(4, .int (x4 + 1)), (3, .int (x3 + z24)), (0, .ref a_t), (1, .int x1), (2, .int x2)]) hx hb dX12_sumOf_29 hl (k := 4) rfl (congrArg (_ + ·) (by decide : Int32.ofInt 1 = 1)) (by decide) rfl (fun ls hl => ?_)
          refine lv_goto (tgt := 5) hx hb dX12_sumOf_32 (by decide) ?_
          exact ih_5 _ _ _ _ _ hf (lv_sub hl [2, 3, 4, 1, 0] rfl)
  refine lv_istore (lv' := [(4, .int 0), (3, .int 0), (0, .ref a_t), (1, .int x1), (2, .int x2)]) hx hb dX12_sumOf_3 hl (by decide) rfl (fun ls hl => ?_)
  exact J_5 _ _ _ _ _ _ hf (lv_sub hl [2, 3, 4, 1, 0] rfl)
theorem hd_X12_sumOf : (yX12_sumOf).cls = RX12 ∧ (yX12_sumOf).cls ≠ "java/lang/invoke/MethodHandle" ∧ (yX12_sumOf).cls ≠ "java/lang/invoke/VarHandle" ∧ (parseMethodDescriptor (yX12_sumOf).desc).map (fun d => d.parameters.length) = some 2 := by decide +kernel
theorem c_X12_sumOf (l : Launch) (D : va_G) (cI cB cZ : ClassId) (a_t : Nat) (a_t_tape : Nat) (a_t_now : Nat) (a_t_aside : Nat) (a_t_kept : Nat) (a_t_said : Nat) (a_t_waitsAt : Nat) (a_t_saidLetter : Nat) (a_t_saidFrom : Nat) (a_t_saidHalf : Nat) (a_t_saidTo : Nat) (a_t_codes : Nat) (a_t_clauseOf : Nat) (a_t_codeFrom : Nat) (a_t_codeHalf : Nat) (a_t_codeTo : Nat) (a_t_stack : Nat) (a_t_facts : Nat) (a_t_newLine : Nat) (a_t_canSit : Nat) (a_t_canNext : Nat) (a_t_singersIn : Nat) (a_t_freeAt : Nat) (a_t_beginsAt : Nat) (a_t_leastBy : Nat) (a_t_mostBy : Nat) (a_t_mostNext : Nat) (a_t_risesTo : Nat) (t_taped : Int32) (t_place0 : Int32) (t_length0 : Int32) (t_fault : Int32) (t_number0 : Int32) (t_open : Int32) (t_codeMany : Int32) (t_waiting : Int32) (t_saidMany : Int32) (t_clauses : Int32) (t_newMany : Int32) (t_lines : Int32) (t_stoodNow : Int32) (t_lastSeat : Int32) (t_climbedNow : Int32) (t_isKept : Int32) (t_tape : (Nat → Int32)) (x1 : Int32) (x2 : Int32) (res : Int32) (hf : f_X12_sumOf t_tape x1 x2 = some res) : Met l yX12_sumOf (.code yX12_sumOf cX12_sumOf 5 (some .int) :: TB) (rmk (1) (21)) (pRO [.ref a_t, .int x1, .int x2] D cI cB cZ (w_X12_sumOf cI cB cZ a_t a_t_tape a_t_now a_t_aside a_t_kept a_t_said a_t_waitsAt a_t_saidLetter a_t_saidFrom a_t_saidHalf a_t_saidTo a_t_codes a_t_clauseOf a_t_codeFrom a_t_codeHalf a_t_codeTo a_t_stack a_t_facts a_t_newLine a_t_canSit a_t_canNext a_t_singersIn a_t_freeAt a_t_beginsAt a_t_leastBy a_t_mostBy a_t_mostNext a_t_risesTo t_taped t_place0 t_length0 t_fault t_number0 t_open t_codeMany t_waiting t_saidMany t_clauses t_newMany t_lines t_stoodNow t_lastSeat t_climbedNow t_isKept t_tape)) (qRO (some (.int res)) True) 0 0 (fun _ => False) :=
  mkRO (by decide +kernel) (Nat.le_of_ble_eq_true rfl) (fun p e s m below meth c ls S hr hlk hK hP hl => b_X12_sumOf S.1 S.2.1 S.2.2.1 S.2.2.2.1 S.2.2.2.2 (Nat.le_refl _) (Nat.le_refl _) hK.1 hK.2 a_t a_t_tape a_t_now a_t_aside a_t_kept a_t_said a_t_waitsAt a_t_saidLetter a_t_saidFrom a_t_saidHalf a_t_saidTo a_t_codes a_t_clauseOf a_t_codeFrom a_t_codeHalf a_t_codeTo a_t_stack a_t_facts a_t_newLine a_t_canSit a_t_canNext a_t_singersIn a_t_freeAt a_t_beginsAt a_t_leastBy a_t_mostBy a_t_mostNext a_t_risesTo t_taped t_place0 t_length0 t_fault t_number0 t_open t_codeMany t_waiting t_saidMany t_clauses t_newMany t_lines t_stoodNow t_lastSeat t_climbedNow t_isKept t_tape x1 x2 res hf hP (fun pc ls hE hd => eRO_i S.1 S.2.1 hr rfl hlk hE hd) ls hl)
def f_X12_moreFit_86 (t_now : (Nat → Int32)) (t_tape : (Nat → Int32)) (k66 : Int32 → Int32 → Int32 → Int32 → (Nat → Int32) → (Nat → Int32) → Option (Int32 × Int32 × (Nat → Int32) × (Nat → Int32))) (x1 : Int32) (x2 : Int32) (x3 : Int32) (y0 : Int32) (y1 : Int32) (t_taped : Int32) (t_canSit : (Nat → Int32)) (t_canNext : (Nat → Int32)) : Option (Int32 × Int32 × (Nat → Int32) × (Nat → Int32)) := ix 64 y0 (k66 x1 x2 (x3 + 1) t_taped (upd t_canSit y0.toNatClampNeg (vp_nar .boolean y1)) t_canNext)
def f_X12_moreFit_171 (t_now : (Nat → Int32)) (t_tape : (Nat → Int32)) (k95 : Int32 → Int32 → Int32 → Int32 → (Nat → Int32) → (Nat → Int32) → Option (Int32 × Int32 × (Nat → Int32) × (Nat → Int32))) (k145 : Int32 → Int32 → Int32 → Int32 → Int32 → Int32 → (Nat → Int32) → (Nat → Int32) → Option (Int32 × Int32 × (Nat → Int32) × (Nat → Int32))) : Nat → Int32 → Int32 → Int32 → Int32 → Int32 → Int32 → Int32 → (Nat → Int32) → (Nat → Int32) → Option (Int32 × Int32 × (Nat → Int32) × (Nat → Int32))
  | 0, _, _, _, _, _, _, _, _, _ => none
  | n + 1, x1, x2, x3, x4, x5, x6, t_taped, t_canSit, t_canNext => (if (1 <<< (x1 &&& 31)) ≤ x6 then k145 x1 x2 x3 x4 (x5 + 1) t_taped t_canSit t_canNext else ix 64 x6 ((if (t_canSit x6.toNatClampNeg) = 0 then (f_X12_moreFit_171 t_now t_tape k95 k145 n) x1 x2 x3 x4 x5 (x6 + 1) t_taped t_canSit t_canNext else (if (x6 &&& x5) = 0 then ix 64 (x6 ||| x5) ((f_X12_moreFit_171 t_now t_tape k95 k145 n) x1 x2 x3 x4 x5 (x6 + 1) t_taped t_canSit (upd t_canNext (x6 ||| x5).toNatClampNeg (vp_nar .boolean 1))) else (f_X12_moreFit_171 t_now t_tape k95 k145 n) x1 x2 x3 x4 x5 (x6 + 1) t_taped t_canSit t_canNext))))
def f_X12_moreFit_223 (t_now : (Nat → Int32)) (t_tape : (Nat → Int32)) (k95 : Int32 → Int32 → Int32 → Int32 → (Nat → Int32) → (Nat → Int32) → Option (Int32 × Int32 × (Nat → Int32) × (Nat → Int32))) : Nat → Int32 → Int32 → Int32 → Int32 → Int32 → (Nat → Int32) → (Nat → Int32) → Option (Int32 × Int32 × (Nat → Int32) × (Nat → Int32))
  | 0, _, _, _, _, _, _, _ => none
  | n + 1, x1, x2, x3, x5, t_taped, t_canSit, t_canNext => (if (1 <<< (x1 &&& 31)) ≤ x5 then k95 x1 x2 (x3 + 1) t_taped t_canSit t_canNext else ix 64 x5 (ix 64 x5 ((f_X12_moreFit_223 t_now t_tape k95 n) x1 x2 x3 (x5 + 1) t_taped (upd t_canSit x5.toNatClampNeg (vp_nar .boolean (t_canNext x5.toNatClampNeg))) t_canNext)))
def f_X12_moreFit_145 (t_now : (Nat → Int32)) (t_tape : (Nat → Int32)) (k95 : Int32 → Int32 → Int32 → Int32 → (Nat → Int32) → (Nat → Int32) → Option (Int32 × Int32 × (Nat → Int32) × (Nat → Int32))) : Nat → Int32 → Int32 → Int32 → Int32 → Int32 → Int32 → (Nat → Int32) → (Nat → Int32) → Option (Int32 × Int32 × (Nat → Int32) × (Nat → Int32))
  | 0, _, _, _, _, _, _, _, _ => none
  | n + 1, x1, x2, x3, x4, x5, t_taped, t_canSit, t_canNext => (if (1 <<< (x1 &&& 31)) ≤ x5 then f_X12_moreFit_223 t_now t_tape k95 FU x1 x2 x3 0 t_taped t_canSit t_canNext else (f_X12_sumOf t_tape x5 x1).bind (fun z157 => (if z157 ≤ x4 then f_X12_moreFit_171 t_now t_tape k95 (f_X12_moreFit_145 t_now t_tape k95 n) FU x1 x2 x3 x4 x5 0 t_taped t_canSit t_canNext else (f_X12_moreFit_145 t_now t_tape k95 n) x1 x2 x3 x4 (x5 + 1) t_taped t_canSit t_canNext)))
def f_X12_moreFit_114 (t_now : (Nat → Int32)) (t_tape : (Nat → Int32)) (k95 : Int32 → Int32 → Int32 → Int32 → (Nat → Int32) → (Nat → Int32) → Option (Int32 × Int32 × (Nat → Int32) × (Nat → Int32))) : Nat → Int32 → Int32 → Int32 → Int32 → Int32 → Int32 → (Nat → Int32) → (Nat → Int32) → Option (Int32 × Int32 × (Nat → Int32) × (Nat → Int32))
  | 0, _, _, _, _, _, _, _, _ => none
  | n + 1, x1, x2, x3, x4, x5, t_taped, t_canSit, t_canNext => (if (1 <<< (x1 &&& 31)) ≤ x5 then f_X12_moreFit_145 t_now t_tape k95 FU x1 x2 x3 x4 1 t_taped t_canSit t_canNext else ix 64 x5 (ix 64 x5 ((f_X12_moreFit_114 t_now t_tape k95 n) x1 x2 x3 x4 (x5 + 1) t_taped t_canSit (upd t_canNext x5.toNatClampNeg (vp_nar .boolean (t_canSit x5.toNatClampNeg))))))
def f_X12_moreFit_262 (t_now : (Nat → Int32)) (t_tape : (Nat → Int32)) : Nat → Int32 → Int32 → Int32 → Int32 → Int32 → (Nat → Int32) → (Nat → Int32) → Option (Int32 × Int32 × (Nat → Int32) × (Nat → Int32))
  | 0, _, _, _, _, _, _, _ => none
  | n + 1, x1, x2, x3, x4, t_taped, t_canSit, t_canNext => (if (1 <<< (x1 &&& 31)) ≤ x4 then (if x2 = 0 then (f_X12_bits x3).bind (fun z306 => some (z306, t_taped, t_canSit, t_canNext)) else some (x3, t_taped, t_canSit, t_canNext)) else ix 64 x4 ((if (t_canSit x4.toNatClampNeg) = 0 then (f_X12_moreFit_262 t_now t_tape n) x1 x2 x3 (x4 + 1) t_taped t_canSit t_canNext else (f_X12_bits x4).bind (fun z282 => (f_X12_bits x3).bind (fun z286 => (if z282 ≤ z286 then (f_X12_moreFit_262 t_now t_tape n) x1 x2 x3 (x4 + 1) t_taped t_canSit t_canNext else (f_X12_moreFit_262 t_now t_tape n) x1 x2 x4 (x4 + 1) t_taped t_canSit t_canNext))))))
def f_X12_moreFit_95 (t_now : (Nat → Int32)) (t_tape : (Nat → Int32)) : Nat → Int32 → Int32 → Int32 → Int32 → (Nat → Int32) → (Nat → Int32) → Option (Int32 × Int32 × (Nat → Int32) × (Nat → Int32))
  | 0, _, _, _, _, _, _ => none
  | n + 1, x1, x2, x3, t_taped, t_canSit, t_canNext => (if 16 ≤ x3 then f_X12_moreFit_262 t_now t_tape FU x1 x2 0 1 t_taped t_canSit t_canNext else (f_X12_sittersIn t_now x3).bind (fun z105 => f_X12_moreFit_114 t_now t_tape (f_X12_moreFit_95 t_now t_tape n) FU x1 x2 x3 (9 - z105) 0 t_taped t_canSit t_canNext))
def f_X12_moreFit_66 (t_now : (Nat → Int32)) (t_tape : (Nat → Int32)) : Nat → Int32 → Int32 → Int32 → Int32 → (Nat → Int32) → (Nat → Int32) → Option (Int32 × Int32 × (Nat → Int32) × (Nat → Int32))
  | 0, _, _, _, _, _, _ => none
  | n + 1, x1, x2, x3, t_taped, t_canSit, t_canNext => (if 64 ≤ x3 then f_X12_moreFit_95 t_now t_tape FU x1 x2 0 t_taped t_canSit t_canNext else (if x3 = 0 then f_X12_moreFit_86 t_now t_tape (f_X12_moreFit_66 t_now t_tape n) x1 x2 x3 x3 1 t_taped t_canSit t_canNext else f_X12_moreFit_86 t_now t_tape (f_X12_moreFit_66 t_now t_tape n) x1 x2 x3 x3 0 t_taped t_canSit t_canNext))
def f_X12_moreFit_36 (t_now : (Nat → Int32)) (t_tape : (Nat → Int32)) : Nat → Int32 → Int32 → Int32 → Int32 → (Nat → Int32) → (Nat → Int32) → Option (Int32 × Int32 × (Nat → Int32) × (Nat → Int32))
  | 0, _, _, _, _, _, _ => none
  | n + 1, x1, x2, x3, t_taped, t_canSit, t_canNext => (if x1 ≤ x3 then f_X12_moreFit_66 t_now t_tape FU x1 x2 0 t_taped t_canSit t_canNext else (f_X12_octet t_tape x3).bind (fun z43 => (f_X12_in z43 1 9).bind (fun z49 => (if z49 = 0 then some ((-2), t_taped, t_canSit, t_canNext) else (f_X12_moreFit_36 t_now t_tape n) x1 x2 (x3 + 1) t_taped t_canSit t_canNext))))
def f_X12_moreFit (t_taped : Int32) (t_now : (Nat → Int32)) (t_tape : (Nat → Int32)) (t_canSit : (Nat → Int32)) (t_canNext : (Nat → Int32)) (x1 : Int32) (x2 : Int32) : Option (Int32 × Int32 × (Nat → Int32) × (Nat → Int32)) := (f_X12_in x1 1 6).bind (fun z4 => (if z4 = 0 then some ((-1), t_taped, t_canSit, t_canNext) else (f_X12_in x2 0 1).bind (fun z13 => (if z13 = 0 then some ((-1), t_taped, t_canSit, t_canNext) else (if x1 ≤ t_taped then f_X12_moreFit_36 t_now t_tape FU x1 x2 0 0 t_canSit t_canNext else some ((-1), t_taped, t_canSit, t_canNext))))))
def w_X12_moreFit (cI cB cZ : ClassId) (a_t : Nat) (a_t_now : Nat) (a_t_tape : Nat) (a_t_canSit : Nat) (a_t_canNext : Nat) (a_t_aside : Nat) (a_t_kept : Nat) (a_t_said : Nat) (a_t_waitsAt : Nat) (a_t_saidLetter : Nat) (a_t_saidFrom : Nat) (a_t_saidHalf : Nat) (a_t_saidTo : Nat) (a_t_codes : Nat) (a_t_clauseOf : Nat) (a_t_codeFrom : Nat) (a_t_codeHalf : Nat) (a_t_codeTo : Nat) (a_t_stack : Nat) (a_t_facts : Nat) (a_t_newLine : Nat) (a_t_singersIn : Nat) (a_t_freeAt : Nat) (a_t_beginsAt : Nat) (a_t_leastBy : Nat) (a_t_mostBy : Nat) (a_t_mostNext : Nat) (a_t_risesTo : Nat) (t_taped : Int32) (t_place0 : Int32) (t_length0 : Int32) (t_fault : Int32) (t_number0 : Int32) (t_open : Int32) (t_codeMany : Int32) (t_waiting : Int32) (t_saidMany : Int32) (t_clauses : Int32) (t_newMany : Int32) (t_lines : Int32) (t_stoodNow : Int32) (t_lastSeat : Int32) (t_climbedNow : Int32) (t_isKept : Int32) (t_now : (Nat → Int32)) (t_tape : (Nat → Int32)) (t_canSit : (Nat → Int32)) (t_canNext : (Nat → Int32)) : va_W := [(a_t, .inr (11, [.ref a_t_now, .ref a_t_aside, .ref a_t_kept, .ref a_t_tape, .int t_taped, .int t_place0, .int t_length0, .int t_fault, .int t_number0, .int t_open, .int t_codeMany, .int t_waiting, .int t_saidMany, .int t_clauses, .ref a_t_said, .ref a_t_waitsAt, .ref a_t_saidLetter, .ref a_t_saidFrom, .ref a_t_saidHalf, .ref a_t_saidTo, .ref a_t_codes, .ref a_t_clauseOf, .ref a_t_codeFrom, .ref a_t_codeHalf, .ref a_t_codeTo, .ref a_t_stack, .ref a_t_facts, .ref a_t_newLine, .int t_newMany, .int t_lines, .int t_stoodNow, .int t_lastSeat, .int t_climbedNow, .ref a_t_canSit, .ref a_t_canNext, .ref a_t_singersIn, .ref a_t_freeAt, .ref a_t_beginsAt, .ref a_t_leastBy, .ref a_t_mostBy, .ref a_t_mostNext, .ref a_t_risesTo, .int t_isKept])), (a_t_now, .inl (cI, 637, .inl t_now)), (a_t_tape, .inl (cB, 260, .inl t_tape)), (a_t_canSit, .inl (cZ, 64, .inl t_canSit)), (a_t_canNext, .inl (cZ, 64, .inl t_canNext))]
set_option maxHeartbeats 4000000 in
set_option maxRecDepth 100000 in
theorem b_X12_moreFit {p : Program} {l : Launch} {e : Env} {R : Room} {s : State} {m : MethodId} {args : Array Value} {below : List Frame} {meth : Method} {c : Code} {Q : State → Prop} {D : va_G} {cI cB cZ : ClassId} (hx : p.tables.exec = Jvm.exec) (hb : c.code = cX12_moreFit) (hml : c.maxLocals = 7) (hown : s.vm.findClass RX12 = some m.cls) (hT : ∀ w ∈ TB, w.before args s = true) (hRf : (2) ≤ R.frames) (hRl : (45) ≤ R.locals) (hK : va_K D vwCl (tyL cI cB cZ) s) (hN : NW s) {A : Nat → Prop} (hA : ∀ q : Nat, s.heap.size ≤ q → A q) (H : Heap) (locs : List Loc)  (a_t : Nat) (a_t_now : Nat) (a_t_tape : Nat) (a_t_canSit : Nat) (a_t_canNext : Nat) (a_t_aside : Nat) (a_t_kept : Nat) (a_t_said : Nat) (a_t_waitsAt : Nat) (a_t_saidLetter : Nat) (a_t_saidFrom : Nat) (a_t_saidHalf : Nat) (a_t_saidTo : Nat) (a_t_codes : Nat) (a_t_clauseOf : Nat) (a_t_codeFrom : Nat) (a_t_codeHalf : Nat) (a_t_codeTo : Nat) (a_t_stack : Nat) (a_t_facts : Nat) (a_t_newLine : Nat) (a_t_singersIn : Nat) (a_t_freeAt : Nat) (a_t_beginsAt : Nat) (a_t_leastBy : Nat) (a_t_mostBy : Nat) (a_t_mostNext : Nat) (a_t_risesTo : Nat) (t_taped : Int32) (t_place0 : Int32) (t_length0 : Int32) (t_fault : Int32) (t_number0 : Int32) (t_open : Int32) (t_codeMany : Int32) (t_waiting : Int32) (t_saidMany : Int32) (t_clauses : Int32) (t_newMany : Int32) (t_lines : Int32) (t_stoodNow : Int32) (t_lastSeat : Int32) (t_climbedNow : Int32) (t_isKept : Int32) (t_now : (Nat → Int32)) (t_tape : (Nat → Int32)) (t_canSit : (Nat → Int32)) (t_canNext : (Nat → Int32)) (x1 : Int32) (x2 : Int32) (res : Int32 × Int32 × (Nat → Int32) × (Nat → Int32)) (hf : f_X12_moreFit t_taped t_now t_tape t_canSit t_canNext x1 x2 = some res) (hP : va_P D vwCl (w_X12_moreFit cI cB cZ a_t a_t_now a_t_tape a_t_canSit a_t_canNext a_t_aside a_t_kept a_t_said a_t_waitsAt a_t_saidLetter a_t_saidFrom a_t_saidHalf a_t_saidTo a_t_codes a_t_clauseOf a_t_codeFrom a_t_codeHalf a_t_codeTo a_t_stack a_t_facts a_t_newLine a_t_singersIn a_t_freeAt a_t_beginsAt a_t_leastBy a_t_mostBy a_t_mostNext a_t_risesTo t_taped t_place0 t_length0 t_fault t_number0 t_open t_codeMany t_waiting t_saidMany t_clauses t_newMany t_lines t_stoodNow t_lastSeat t_climbedNow t_isKept t_now t_tape t_canSit t_canNext) H) (hD : va_D A (w_X12_moreFit cI cB cZ a_t a_t_now a_t_tape a_t_canSit a_t_canNext a_t_aside a_t_kept a_t_said a_t_waitsAt a_t_saidLetter a_t_saidFrom a_t_saidHalf a_t_saidTo a_t_codes a_t_clauseOf a_t_codeFrom a_t_codeHalf a_t_codeTo a_t_stack a_t_facts a_t_newLine a_t_singersIn a_t_freeAt a_t_beginsAt a_t_leastBy a_t_mostBy a_t_mostNext a_t_risesTo t_taped t_place0 t_length0 t_fault t_number0 t_open t_codeMany t_waiting t_saidMany t_clauses t_newMany t_lines t_stoodNow t_lastSeat t_climbedNow t_isKept t_now t_tape t_canSit t_canNext)) (hS : va_S A s.heap H locs) (hQ : ∀ (H : Heap) (locs : List Loc) (pc : Nat) (ls : Array Slot), va_P D vwCl (w_X12_moreFit cI cB cZ a_t a_t_now a_t_tape a_t_canSit a_t_canNext a_t_aside a_t_kept a_t_said a_t_waitsAt a_t_saidLetter a_t_saidFrom a_t_saidHalf a_t_saidTo a_t_codes a_t_clauseOf a_t_codeFrom a_t_codeHalf a_t_codeTo a_t_stack a_t_facts a_t_newLine a_t_singersIn a_t_freeAt a_t_beginsAt a_t_leastBy a_t_mostBy a_t_mostNext a_t_risesTo res.2.1 t_place0 t_length0 t_fault t_number0 t_open t_codeMany t_waiting t_saidMany t_clauses t_newMany t_lines t_stoodNow t_lastSeat t_climbedNow t_isKept t_now t_tape res.2.2.1 res.2.2.2) H → va_D A (w_X12_moreFit cI cB cZ a_t a_t_now a_t_tape a_t_canSit a_t_canNext a_t_aside a_t_kept a_t_said a_t_waitsAt a_t_saidLetter a_t_saidFrom a_t_saidHalf a_t_saidTo a_t_codes a_t_clauseOf a_t_codeFrom a_t_codeHalf a_t_codeTo a_t_stack a_t_facts a_t_newLine a_t_singersIn a_t_freeAt a_t_beginsAt a_t_leastBy a_t_mostBy a_t_mostNext a_t_risesTo res.2.1 t_place0 t_length0 t_fault t_number0 t_open t_codeMany t_waiting t_saidMany t_clauses t_newMany t_lines t_stoodNow t_lastSeat t_climbedNow t_isKept t_now t_tape res.2.2.1 res.2.2.2) → va_S A s.heap H locs → True → decode cX12_moreFit pc = .ok (.ireturn, 1) → W p l e R s m args below meth c H locs 0 0 Q (F0 m pc ls [.int res.1])) (ls : Array Slot) (hl : lv_has ls 7 [(0, .ref a_t), (1, .int x1), (2, .int x2)]) : W p l e R s m args below meth c H locs 0 0 Q (F0 m 0 ls []) := by
  unfold f_X12_moreFit at hf
  refine lv_iload_n hx hb dX12_moreFit_0 rfl (lv_at hl 1 rfl) ?_
  refine lv_iconst (v := 1) hx hb dX12_moreFit_1 (by decide) ?_
  refine lv_bipush (v := 6) hx hb dX12_moreFit_2 (by decide) ?_
  obtain ⟨z4, e4, hf⟩ := bd_some hf
  refine rS_RO (As := [.int x1, .int 1, .int 6]) (rest := []) ⟨hx, hb, hml, hown, hT⟩ (gdS tb_1283 tb_1284 tb_97 tb_1285) hd_X12_in (c_X12_in l D cI cB cZ x1 1 6 z4 e4) ⟨rfl, rfl⟩ ⟨Nat.le_trans (by decide) hRf, Nat.le_trans (by decide) hRl⟩ ⟨hK, hN⟩ hP [] rfl rfl hl.1 rfl (Nat.le_of_ble_eq_true rfl) ⟨Nat.zero_le _, Nat.zero_le _⟩ dX12_moreFit_4 (fun hz_4 => ?_)
  refine lv_if_eq (tgt := 27) hx hb dX12_moreFit_7 (by decide) (fun hc_7 => ?_) (fun hc_7 => ?_)
  · have hf := it_pos hc_7 hf
    refine lv_iconst (v := (-1)) hx hb dX12_moreFit_27 (by decide) ?_
    obtain rfl := Option.some.inj hf
    exact hQ H locs 28 ls hP hD hS trivial dX12_moreFit_28
  · have hf := it_neg hc_7 hf
    refine lv_iload_n hx hb dX12_moreFit_10 rfl (lv_at hl 2 rfl) ?_
    refine lv_iconst (v := 0) hx hb dX12_moreFit_11 (by decide) ?_
    refine lv_iconst (v := 1) hx hb dX12_moreFit_12 (by decide) ?_
    obtain ⟨z13, e13, hf⟩ := bd_some hf
    refine rS_RO (As := [.int x2, .int 0, .int 1]) (rest := []) ⟨hx, hb, hml, hown, hT⟩ (gdS tb_1283 tb_1284 tb_97 tb_1285) hd_X12_in (c_X12_in l D cI cB cZ x2 0 1 z13 e13) ⟨rfl, rfl⟩ ⟨Nat.le_trans (by decide) hRf, Nat.le_trans (by decide) hRl⟩ ⟨hK, hN⟩ hP [] rfl rfl hl.1 rfl (Nat.le_of_ble_eq_true rfl) ⟨Nat.zero_le _, Nat.zero_le _⟩ dX12_moreFit_13 (fun hz_13 => ?_)
    refine lv_if_eq (tgt := 27) hx hb dX12_moreFit_16 (by decide) (fun hc_16 => ?_) (fun hc_16 => ?_)
    · have hf := it_pos hc_16 hf
      refine lv_iconst (v := (-1)) hx hb dX12_moreFit_27 (by decide) ?_
      obtain rfl := Option.some.inj hf
      exact hQ H locs 28 ls hP hD hS trivial dX12_moreFit_28
    · have hf := it_neg hc_16 hf
      refine lv_iload_n hx hb dX12_moreFit_19 rfl (lv_at hl 1 rfl) ?_
      refine lv_aload_n hx hb dX12_moreFit_20 rfl (lv_at hl 0 rfl) ?_
      refine va_get (D := D) (ci := 11) (v := .int t_taped) (C := RX12) (T := TX12) (N := 43) hx hb hT inX12 hown hK hP 0 rfl rfl 4 (by decide) (hT _ tb_1152) (fun _ h9 => h9) rfl dX12_moreFit_21 ?_
      refine lv_icmp_le (tgt := 29) hx hb dX12_moreFit_24 (by decide) (fun hc_24 => ?_) (fun hc_24 => ?_)
      · have hf := it_pos hc_24 hf
        refine lv_aload_n hx hb dX12_moreFit_29 rfl (lv_at hl 0 rfl) ?_
        refine lv_iconst (v := 0) hx hb dX12_moreFit_30 (by decide) ?_
        refine va_put (D := D) (ci := 11) (v := .int 0) (ty := (.int)) (C := RX12) (T := TX12) (N := 43) hx hb hT inX12 tyX12 tyX12_ok nmX12 hown hK hP hD hS 0 rfl rfl 4 (by decide) (hT _ tb_1152) (fun _ h9 => h9) rfl (by decide +kernel) rfl rfl (Nat.le_of_ble_eq_true rfl) dX12_moreFit_31 (fun H locs hP hD hS => ?_)
        have hP : va_P D vwCl (w_X12_moreFit cI cB cZ a_t a_t_now a_t_tape a_t_canSit a_t_canNext a_t_aside a_t_kept a_t_said a_t_waitsAt a_t_saidLetter a_t_saidFrom a_t_saidHalf a_t_saidTo a_t_codes a_t_clauseOf a_t_codeFrom a_t_codeHalf a_t_codeTo a_t_stack a_t_facts a_t_newLine a_t_singersIn a_t_freeAt a_t_beginsAt a_t_leastBy a_t_mostBy a_t_mostNext a_t_risesTo 0 t_place0 t_length0 t_fault t_number0 t_open t_codeMany t_waiting t_saidMany t_clauses t_newMany t_lines t_stoodNow t_lastSeat t_climbedNow t_isKept t_now t_tape t_canSit t_canNext) H := hP
        have hD : va_D A (w_X12_moreFit cI cB cZ a_t a_t_now a_t_tape a_t_canSit a_t_canNext a_t_aside a_t_kept a_t_said a_t_waitsAt a_t_saidLetter a_t_saidFrom a_t_saidHalf a_t_saidTo a_t_codes a_t_clauseOf a_t_codeFrom a_t_codeHalf a_t_codeTo a_t_stack a_t_facts a_t_newLine a_t_singersIn a_t_freeAt a_t_beginsAt a_t_leastBy a_t_mostBy a_t_mostNext a_t_risesTo 0 t_place0 t_length0 t_fault t_number0 t_open t_codeMany t_waiting t_saidMany t_clauses t_newMany t_lines t_stoodNow t_lastSeat t_climbedNow t_isKept t_now t_tape t_canSit t_canNext) := hD
        refine lv_iconst (v := 0) hx hb dX12_moreFit_34 (by decide) ?_
        have J_36 : ∀ (n_36 : Nat) (x1 : Int32) (x2 : Int32) (x3 : Int32) (t_taped : Int32) (t_canSit : (Nat → Int32)) (t_canNext : (Nat → Int32)) (H : Heap) (locs : List Loc) (ls : Array Slot), f_X12_moreFit_36 t_now t_tape n_36 x1 x2 x3 t_taped t_canSit t_canNext = some res → va_P D vwCl (w_X12_moreFit cI cB cZ a_t a_t_now a_t_tape a_t_canSit a_t_canNext a_t_aside a_t_kept a_t_said a_t_waitsAt a_t_saidLetter a_t_saidFrom a_t_saidHalf a_t_saidTo a_t_codes a_t_clauseOf a_t_codeFrom a_t_codeHalf a_t_codeTo a_t_stack a_t_facts a_t_newLine a_t_singersIn a_t_freeAt a_t_beginsAt a_t_leastBy a_t_mostBy a_t_mostNext a_t_risesTo t_taped t_place0 t_length0 t_fault t_number0 t_open t_codeMany t_waiting t_saidMany t_clauses t_newMany t_lines t_stoodNow t_lastSeat t_climbedNow t_isKept t_now t_tape t_canSit t_canNext) H → va_D A (w_X12_moreFit cI cB cZ a_t a_t_now a_t_tape a_t_canSit a_t_canNext a_t_aside a_t_kept a_t_said a_t_waitsAt a_t_saidLetter a_t_saidFrom a_t_saidHalf a_t_saidTo a_t_codes a_t_clauseOf a_t_codeFrom a_t_codeHalf a_t_codeTo a_t_stack a_t_facts a_t_newLine a_t_singersIn a_t_freeAt a_t_beginsAt a_t_leastBy a_t_mostBy a_t_mostNext a_t_risesTo t_taped t_place0 t_length0 t_fault t_number0 t_open t_codeMany t_waiting t_saidMany t_clauses t_newMany t_lines t_stoodNow t_lastSeat t_climbedNow t_isKept t_now t_tape t_canSit t_canNext) → va_S A s.heap H locs → lv_has ls 7 [(0, .ref a_t), (1, .int x1), (2, .int x2), (3, .int x3)] → W p l e R s m args below meth c H locs 0 0 Q (F0 m 36 ls []) := by
          intro n_36
          induction n_36 with
          | zero =>
            intro x1 x2 x3 t_taped t_canSit t_canNext H locs ls hf hP hD hS hl
            cases hf
          | succ n_36 ih_36 =>
            intro x1 x2 x3 t_taped t_canSit t_canNext H locs ls hf hP hD hS hl
            unfold f_X12_moreFit_36 at hf
            refine lv_iload_n hx hb dX12_moreFit_36 rfl (lv_at hl 3 rfl) ?_
            refine lv_iload_n hx hb dX12_moreFit_37 rfl (lv_at hl 1 rfl) ?_
            refine lv_icmp_ge (tgt := 64) hx hb dX12_moreFit_38 (by decide) (fun hc_38 => ?_) (fun hc_38 => ?_)
            · have hf := it_pos hc_38 hf
              refine lv_iconst (v := 0) hx hb dX12_moreFit_64 (by decide) ?_
              have J_66 : ∀ (n_66 : Nat) (x1 : Int32) (x2 : Int32) (x3 : Int32) (t_taped : Int32) (t_canSit : (Nat → Int32)) (t_canNext : (Nat → Int32)) (H : Heap) (locs : List Loc) (ls : Array Slot), f_X12_moreFit_66 t_now t_tape n_66 x1 x2 x3 t_taped t_canSit t_canNext = some res → va_P D vwCl (w_X12_moreFit cI cB cZ a_t a_t_now a_t_tape a_t_canSit a_t_canNext a_t_aside a_t_kept a_t_said a_t_waitsAt a_t_saidLetter a_t_saidFrom a_t_saidHalf a_t_saidTo a_t_codes a_t_clauseOf a_t_codeFrom a_t_codeHalf a_t_codeTo a_t_stack a_t_facts a_t_newLine a_t_singersIn a_t_freeAt a_t_beginsAt a_t_leastBy a_t_mostBy a_t_mostNext a_t_risesTo t_taped t_place0 t_length0 t_fault t_number0 t_open t_codeMany t_waiting t_saidMany t_clauses t_newMany t_lines t_stoodNow t_lastSeat t_climbedNow t_isKept t_now t_tape t_canSit t_canNext) H → va_D A (w_X12_moreFit cI cB cZ a_t a_t_now a_t_tape a_t_canSit a_t_canNext a_t_aside a_t_kept a_t_said a_t_waitsAt a_t_saidLetter a_t_saidFrom a_t_saidHalf a_t_saidTo a_t_codes a_t_clauseOf a_t_codeFrom a_t_codeHalf a_t_codeTo a_t_stack a_t_facts a_t_newLine a_t_singersIn a_t_freeAt a_t_beginsAt a_t_leastBy a_t_mostBy a_t_mostNext a_t_risesTo t_taped t_place0 t_length0 t_fault t_number0 t_open t_codeMany t_waiting t_saidMany t_clauses t_newMany t_lines t_stoodNow t_lastSeat t_climbedNow t_isKept t_now t_tape t_canSit t_canNext) → va_S A s.heap H locs → lv_has ls 7 [(0, .ref a_t), (1, .int x1), (2, .int x2), (3, .int x3)] → W p l e R s m args below meth c H locs 0 0 Q (F0 m 66 ls []) := by
                intro n_66
                induction n_66 with
                | zero =>
                  intro x1 x2 x3 t_taped t_canSit t_canNext H locs ls hf hP hD hS hl
                  cases hf
                | succ n_66 ih_66 =>
                  intro x1 x2 x3 t_taped t_canSit t_canNext H locs ls hf hP hD hS hl
                  unfold f_X12_moreFit_66 at hf
                  refine lv_iload_n hx hb dX12_moreFit_66 rfl (lv_at hl 3 rfl) ?_
                  refine lv_bipush (v := 64) hx hb dX12_moreFit_67 (by decide) ?_
                  refine lv_icmp_ge (tgt := 93) hx hb dX12_moreFit_69 (by decide) (fun hc_69 => ?_) (fun hc_69 => ?_)
                  · have hf := it_pos hc_69 hf
                    refine lv_iconst (v := 0) hx hb dX12_moreFit_93 (by decide) ?_
                    have J_95 : ∀ (n_95 : Nat) (x1 : Int32) (x2 : Int32) (x3 : Int32) (t_taped : Int32) (t_canSit : (Nat → Int32)) (t_canNext : (Nat → Int32)) (H : Heap) (locs : List Loc) (ls : Array Slot), f_X12_moreFit_95 t_now t_tape n_95 x1 x2 x3 t_taped t_canSit t_canNext = some res → va_P D vwCl (w_X12_moreFit cI cB cZ a_t a_t_now a_t_tape a_t_canSit a_t_canNext a_t_aside a_t_kept a_t_said a_t_waitsAt a_t_saidLetter a_t_saidFrom a_t_saidHalf a_t_saidTo a_t_codes a_t_clauseOf a_t_codeFrom a_t_codeHalf a_t_codeTo a_t_stack a_t_facts a_t_newLine a_t_singersIn a_t_freeAt a_t_beginsAt a_t_leastBy a_t_mostBy a_t_mostNext a_t_risesTo t_taped t_place0 t_length0 t_fault t_number0 t_open t_codeMany t_waiting t_saidMany t_clauses t_newMany t_lines t_stoodNow t_lastSeat t_climbedNow t_isKept t_now t_tape t_canSit t_canNext) H → va_D A (w_X12_moreFit cI cB cZ a_t a_t_now a_t_tape a_t_canSit a_t_canNext a_t_aside a_t_kept a_t_said a_t_waitsAt a_t_saidLetter a_t_saidFrom a_t_saidHalf a_t_saidTo a_t_codes a_t_clauseOf a_t_codeFrom a_t_codeHalf a_t_codeTo a_t_stack a_t_facts a_t_newLine a_t_singersIn a_t_freeAt a_t_beginsAt a_t_leastBy a_t_mostBy a_t_mostNext a_t_risesTo t_taped t_place0 t_length0 t_fault t_number0 t_open t_codeMany t_waiting t_saidMany t_clauses t_newMany t_lines t_stoodNow t_lastSeat t_climbedNow t_isKept t_now t_tape t_canSit t_canNext) → va_S A s.heap H locs → lv_has ls 7 [(0, .ref a_t), (1, .int x1), (2, .int x2), (3, .int x3)] → W p l e R s m args below meth c H locs 0 0 Q (F0 m 95 ls []) := by
                      intro n_95
                      induction n_95 with
                      | zero =>
                        intro x1 x2 x3 t_taped t_canSit t_canNext H locs ls hf hP hD hS hl
                        cases hf
                      | succ n_95 ih_95 =>
                        intro x1 x2 x3 t_taped t_canSit t_canNext H locs ls hf hP hD hS hl
                        unfold f_X12_moreFit_95 at hf
                        refine lv_iload_n hx hb dX12_moreFit_95 rfl (lv_at hl 3 rfl) ?_
                        refine lv_bipush (v := 16) hx hb dX12_moreFit_96 (by decide) ?_
                        refine lv_icmp_ge (tgt := 257) hx hb dX12_moreFit_98 (by decide) (fun hc_98 => ?_) (fun hc_98 => ?_)
                        · have hf := it_pos hc_98 hf
                          refine lv_iconst (v := 0) hx hb dX12_moreFit_257 (by decide) ?_
                          refine lv_istore_n (lv' := [(3, .int 0), (0, .ref a_t), (1, .int x1), (2, .int x2)]) hx hb dX12_moreFit_258 rfl hl (by decide) rfl (fun ls hl => ?_)
                          refine lv_iconst (v := 1) hx hb dX12_moreFit_259 (by decide) ?_
                          have J_262 : ∀ (n_262 : Nat) (x1 : Int32) (x2 : Int32) (x3 : Int32) (x4 : Int32) (t_taped : Int32) (t_canSit : (Nat → Int32)) (t_canNext : (Nat → Int32)) (H : Heap) (locs : List Loc) (ls : Array Slot), f_X12_moreFit_262 t_now t_tape n_262 x1 x2 x3 x4 t_taped t_canSit t_canNext = some res → va_P D vwCl (w_X12_moreFit cI cB cZ a_t a_t_now a_t_tape a_t_canSit a_t_canNext a_t_aside a_t_kept a_t_said a_t_waitsAt a_t_saidLetter a_t_saidFrom a_t_saidHalf a_t_saidTo a_t_codes a_t_clauseOf a_t_codeFrom a_t_codeHalf a_t_codeTo a_t_stack a_t_facts a_t_newLine a_t_singersIn a_t_freeAt a_t_beginsAt a_t_leastBy a_t_mostBy a_t_mostNext a_t_risesTo t_taped t_place0 t_length0 t_fault t_number0 t_open t_codeMany t_waiting t_saidMany t_clauses t_newMany t_lines t_stoodNow t_lastSeat t_climbedNow t_isKept t_now t_tape t_canSit t_canNext) H → va_D A (w_X12_moreFit cI cB cZ a_t a_t_now a_t_tape a_t_canSit a_t_canNext a_t_aside a_t_kept a_t_said a_t_waitsAt a_t_saidLetter a_t_saidFrom a_t_saidHalf a_t_saidTo a_t_codes a_t_clauseOf a_t_codeFrom a_t_codeHalf a_t_codeTo a_t_stack a_t_facts a_t_newLine a_t_singersIn a_t_freeAt a_t_beginsAt a_t_leastBy a_t_mostBy a_t_mostNext a_t_risesTo t_taped t_place0 t_length0 t_fault t_number0 t_open t_codeMany t_waiting t_saidMany t_clauses t_newMany t_lines t_stoodNow t_lastSeat t_climbedNow t_isKept t_now t_tape t_canSit t_canNext) → va_S A s.heap H locs → lv_has ls 7 [(0, .ref a_t), (1, .int x1), (2, .int x2), (3, .int x3), (4, .int x4)] → W p l e R s m args below meth c H locs 0 0 Q (F0 m 262 ls []) := by
                            intro n_262
                            induction n_262 with
                            | zero =>
                              intro x1 x2 x3 x4 t_taped t_canSit t_canNext H locs ls hf hP hD hS hl
                              cases hf
                            | succ n_262 ih_262 =>
                              intro x1 x2 x3 x4 t_taped t_canSit t_canNext H locs ls hf hP hD hS hl
                              unfold f_X12_moreFit_262 at hf
                              refine lv_iload hx hb dX12_moreFit_262 (lv_at hl 4 rfl) ?_
                              refine lv_iconst (v := 1) hx hb dX12_moreFit_264 (by decide) ?_
                              refine lv_iload_n hx hb dX12_moreFit_265 rfl (lv_at hl 1 rfl) ?_
                              refine lv_ishl hx hb dX12_moreFit_266 ?_
                              refine lv_icmp_ge (tgt := 301) hx hb dX12_moreFit_267 (by decide) (fun hc_267 => ?_) (fun hc_267 => ?_)
                              · have hf := it_pos hc_267 hf
                                refine lv_iload_n hx hb dX12_moreFit_301 rfl (lv_at hl 2 rfl) ?_
                                refine lv_if_ne (tgt := 312) hx hb dX12_moreFit_302 (by decide) (fun hc_302 => ?_) (fun hc_302 => ?_)
                                · have hf := it_neg hc_302 hf
                                  refine lv_iload_n hx hb dX12_moreFit_312 rfl (lv_at hl 3 rfl) ?_
                                  obtain rfl := Option.some.inj hf
                                  exact hQ H locs 313 ls hP hD hS trivial dX12_moreFit_313
                                · have hf := it_pos hc_302 hf
                                  refine lv_iload_n hx hb dX12_moreFit_305 rfl (lv_at hl 3 rfl) ?_
                                  obtain ⟨z306, e306, hf⟩ := bd_some hf
                                  refine rS_RO (As := [.int x3]) (rest := []) ⟨hx, hb, hml, hown, hT⟩ (gdS tb_1585 tb_1586 tb_97 tb_1587) hd_X12_bits (c_X12_bits l D cI cB cZ x3 z306 e306) ⟨rfl, rfl⟩ ⟨Nat.le_trans (by decide) hRf, Nat.le_trans (by decide) hRl⟩ ⟨hK, hN⟩ hP [] rfl rfl hl.1 rfl (Nat.le_of_ble_eq_true rfl) ⟨Nat.zero_le _, Nat.zero_le _⟩ dX12_moreFit_306 (fun _ => ?_)
                                  refine lv_goto (tgt := 313) hx hb dX12_moreFit_309 (by decide) ?_
                                  obtain rfl := Option.some.inj hf
                                  exact hQ H locs 313 ls hP hD hS trivial dX12_moreFit_313
                              · have hf := it_neg hc_267 hf
                                refine lv_aload_n hx hb dX12_moreFit_270 rfl (lv_at hl 0 rfl) ?_
                                refine va_get (D := D) (ci := 11) (v := .ref a_t_canSit) (C := RX12) (T := TX12) (N := 43) hx hb hT inX12 hown hK hP 0 rfl rfl 33 (by decide) (hT _ tb_1181) (fun _ h9 => h9) rfl dX12_moreFit_271 ?_
                                refine lv_iload hx hb dX12_moreFit_274 (lv_at hl 4 rfl) ?_
                                obtain ⟨hi_276, hf⟩ := ix_some hf
                                refine va_zald hx hb hK hP 3 2 rfl rfl hi_276 dX12_moreFit_276 ?_
                                refine lv_if_eq (tgt := 295) hx hb dX12_moreFit_277 (by decide) (fun hc_277 => ?_) (fun hc_277 => ?_)
                                · have hf := it_pos hc_277 hf
                                  refine lv_iinc (v := x4 + 1) (lv' := [(4, .int (x4 + 1)), (0, .ref a_t), (1, .int x1), (2, .int x2), (3, .int x3)]) hx hb dX12_moreFit_295 hl (k := 4) rfl (congrArg (_ + ·) (by decide : Int32.ofInt 1 = 1)) (by decide) rfl (fun ls hl => ?_)
                                  refine lv_goto (tgt := 262) hx hb dX12_moreFit_298 (by decide) ?_
                                  exact ih_262 _ _ _ _ _ _ _ _ _ _ hf hP hD hS (lv_sub hl [1, 2, 3, 4, 0] rfl)
                                · have hf := it_neg hc_277 hf
                                  refine lv_iload hx hb dX12_moreFit_280 (lv_at hl 4 rfl) ?_
                                  obtain ⟨z282, e282, hf⟩ := bd_some hf
                                  refine rS_RO (As := [.int x4]) (rest := []) ⟨hx, hb, hml, hown, hT⟩ (gdS tb_1585 tb_1586 tb_97 tb_1587) hd_X12_bits (c_X12_bits l D cI cB cZ x4 z282 e282) ⟨rfl, rfl⟩ ⟨Nat.le_trans (by decide) hRf, Nat.le_trans (by decide) hRl⟩ ⟨hK, hN⟩ hP [] rfl rfl hl.1 rfl (Nat.le_of_ble_eq_true rfl) ⟨Nat.zero_le _, Nat.zero_le _⟩ dX12_moreFit_282 (fun _ => ?_)
                                  refine lv_iload_n hx hb dX12_moreFit_285 rfl (lv_at hl 3 rfl) ?_
                                  obtain ⟨z286, e286, hf⟩ := bd_some hf
                                  refine rS_RO (As := [.int x3]) (rest := [.int z282]) ⟨hx, hb, hml, hown, hT⟩ (gdS tb_1585 tb_1586 tb_97 tb_1587) hd_X12_bits (c_X12_bits l D cI cB cZ x3 z286 e286) ⟨rfl, rfl⟩ ⟨Nat.le_trans (by decide) hRf, Nat.le_trans (by decide) hRl⟩ ⟨hK, hN⟩ hP [] rfl rfl hl.1 rfl (Nat.le_of_ble_eq_true rfl) ⟨Nat.zero_le _, Nat.zero_le _⟩ dX12_moreFit_286 (fun _ => ?_)
                                  refine lv_icmp_le (tgt := 295) hx hb dX12_moreFit_289 (by decide) (fun hc_289 => ?_) (fun hc_289 => ?_)
                                  · have hf := it_pos hc_289 hf
                                    refine lv_iinc (v := x4 + 1) (lv' := [(4, .int (x4 + 1)), (0, .ref a_t), (1, .int x1), (2, .int x2), (3, .int x3)]) hx hb dX12_moreFit_295 hl (k := 4) rfl (congrArg (_ + ·) (by decide : Int32.ofInt 1 = 1)) (by decide) rfl (fun ls hl => ?_)
                                    refine lv_goto (tgt := 262) hx hb dX12_moreFit_298 (by decide) ?_
                                    exact ih_262 _ _ _ _ _ _ _ _ _ _ hf hP hD hS (lv_sub hl [1, 2, 3, 4, 0] rfl)
                                  · have hf := it_neg hc_289 hf
                                    refine lv_iload hx hb dX12_moreFit_292 (lv_at hl 4 rfl) ?_
                                    refine lv_istore_n (lv' := [(3, .int x4), (0, .ref a_t), (1, .int x1), (2, .int x2), (4, .int x4)]) hx hb dX12_moreFit_294 rfl hl (by decide) rfl (fun ls hl => ?_)
                                    refine lv_iinc (v := x4 + 1) (lv' := [(4, .int (x4 + 1)), (3, .int x4), (0, .ref a_t), (1, .int x1), (2, .int x2)]) hx hb dX12_moreFit_295 hl (k := 4) rfl (congrArg (_ + ·) (by decide : Int32.ofInt 1 = 1)) (by decide) rfl (fun ls hl => ?_)
                                    refine lv_goto (tgt := 262) hx hb dX12_moreFit_298 (by decide) ?_
                                    exact ih_262 _ _ _ _ _ _ _ _ _ _ hf hP hD hS (lv_sub hl [2, 3, 4, 1, 0] rfl)
                          refine lv_istore (lv' := [(4, .int 1), (3, .int 0), (0, .ref a_t), (1, .int x1), (2, .int x2)]) hx hb dX12_moreFit_260 hl (by decide) rfl (fun ls hl => ?_)
                          exact J_262 _ _ _ _ _ _ _ _ _ _ _ hf hP hD hS (lv_sub hl [2, 3, 4, 1, 0] rfl)
                        · have hf := it_neg hc_98 hf
                          refine lv_bipush (v := 9) hx hb dX12_moreFit_101 (by decide) ?_
                          refine lv_aload_n hx hb dX12_moreFit_103 rfl (lv_at hl 0 rfl) ?_
                          refine lv_iload_n hx hb dX12_moreFit_104 rfl (lv_at hl 3 rfl) ?_
                          obtain ⟨z105, e105, hf⟩ := bd_some hf
                          refine rV_RO (As := [.int x3]) (rest := [.int 9]) ⟨hx, hb, hml, hown, hT⟩ (gdV tb_1447 tb_1449 tb_62 tb_97 tb_1450) hd_X12_sittersIn (c_X12_sittersIn l D cI cB cZ a_t a_t_now a_t_aside a_t_kept a_t_tape a_t_said a_t_waitsAt a_t_saidLetter a_t_saidFrom a_t_saidHalf a_t_saidTo a_t_codes a_t_clauseOf a_t_codeFrom a_t_codeHalf a_t_codeTo a_t_stack a_t_facts a_t_newLine a_t_canSit a_t_canNext a_t_singersIn a_t_freeAt a_t_beginsAt a_t_leastBy a_t_mostBy a_t_mostNext a_t_risesTo t_taped t_place0 t_length0 t_fault t_number0 t_open t_codeMany t_waiting t_saidMany t_clauses t_newMany t_lines t_stoodNow t_lastSeat t_climbedNow t_isKept t_now x3 z105 e105) ⟨rfl, rfl⟩ ⟨Nat.le_trans (by decide) hRf, Nat.le_trans (by decide) hRl⟩ ⟨hK, hN⟩ hP [0, 1] rfl 0 rfl rfl rfl hl.1 rfl (Nat.le_of_ble_eq_true rfl) ⟨Nat.zero_le _, Nat.zero_le _⟩ dX12_moreFit_105 (fun _ => ?_)
                          refine lv_isub hx hb dX12_moreFit_108 ?_
                          refine lv_istore (lv' := [(4, .int (9 - z105)), (0, .ref a_t), (1, .int x1), (2, .int x2), (3, .int x3)]) hx hb dX12_moreFit_109 hl (by decide) rfl (fun ls hl => ?_)
                          refine lv_iconst (v := 0) hx hb dX12_moreFit_111 (by decide) ?_
                          have J_114 : ∀ (n_114 : Nat) (x1 : Int32) (x2 : Int32) (x3 : Int32) (x4 : Int32) (x5 : Int32) (t_taped : Int32) (t_canSit : (Nat → Int32)) (t_canNext : (Nat → Int32)) (H : Heap) (locs : List Loc) (ls : Array Slot), f_X12_moreFit_114 t_now t_tape (f_X12_moreFit_95 t_now t_tape n_95) n_114 x1 x2 x3 x4 x5 t_taped t_canSit t_canNext = some res → va_P D vwCl (w_X12_moreFit cI cB cZ a_t a_t_now a_t_tape a_t_canSit a_t_canNext a_t_aside a_t_kept a_t_said a_t_waitsAt a_t_saidLetter a_t_saidFrom a_t_saidHalf a_t_saidTo a_t_codes a_t_clauseOf a_t_codeFrom a_t_codeHalf a_t_codeTo a_t_stack a_t_facts a_t_newLine a_t_singersIn a_t_freeAt a_t_beginsAt a_t_leastBy a_t_mostBy a_t_mostNext a_t_risesTo t_taped t_place0 t_length0 t_fault t_number0 t_open t_codeMany t_waiting t_saidMany t_clauses t_newMany t_lines t_stoodNow t_lastSeat t_climbedNow t_isKept t_now t_tape t_canSit t_canNext) H → va_D A (w_X12_moreFit cI cB cZ a_t a_t_now a_t_tape a_t_canSit a_t_canNext a_t_aside a_t_kept a_t_said a_t_waitsAt a_t_saidLetter a_t_saidFrom a_t_saidHalf a_t_saidTo a_t_codes a_t_clauseOf a_t_codeFrom a_t_codeHalf a_t_codeTo a_t_stack a_t_facts a_t_newLine a_t_singersIn a_t_freeAt a_t_beginsAt a_t_leastBy a_t_mostBy a_t_mostNext a_t_risesTo t_taped t_place0 t_length0 t_fault t_number0 t_open t_codeMany t_waiting t_saidMany t_clauses t_newMany t_lines t_stoodNow t_lastSeat t_climbedNow t_isKept t_now t_tape t_canSit t_canNext) → va_S A s.heap H locs → lv_has ls 7 [(0, .ref a_t), (1, .int x1), (2, .int x2), (3, .int x3), (4, .int x4), (5, .int x5)] → W p l e R s m args below meth c H locs 0 0 Q (F0 m 114 ls []) := by
                            intro n_114
                            induction n_114 with
                            | zero =>
                              intro x1 x2 x3 x4 x5 t_taped t_canSit t_canNext H locs ls hf hP hD hS hl
                              cases hf
                            | succ n_114 ih_114 =>
                              intro x1 x2 x3 x4 x5 t_taped t_canSit t_canNext H locs ls hf hP hD hS hl
                              unfold f_X12_moreFit_114 at hf
                              refine lv_iload hx hb dX12_moreFit_114 (lv_at hl 5 rfl) ?_
                              refine lv_iconst (v := 1) hx hb dX12_moreFit_116 (by decide) ?_
                              refine lv_iload_n hx hb dX12_moreFit_117 rfl (lv_at hl 1 rfl) ?_
                              refine lv_ishl hx hb dX12_moreFit_118 ?_
                              refine lv_icmp_ge (tgt := 142) hx hb dX12_moreFit_119 (by decide) (fun hc_119 => ?_) (fun hc_119 => ?_)
                              · have hf := it_pos hc_119 hf
                                refine lv_iconst (v := 1) hx hb dX12_moreFit_142 (by decide) ?_
                                have J_145 : ∀ (n_145 : Nat) (x1 : Int32) (x2 : Int32) (x3 : Int32) (x4 : Int32) (x5 : Int32) (t_taped : Int32) (t_canSit : (Nat → Int32)) (t_canNext : (Nat → Int32)) (H : Heap) (locs : List Loc) (ls : Array Slot), f_X12_moreFit_145 t_now t_tape (f_X12_moreFit_95 t_now t_tape n_95) n_145 x1 x2 x3 x4 x5 t_taped t_canSit t_canNext = some res → va_P D vwCl (w_X12_moreFit cI cB cZ a_t a_t_now a_t_tape a_t_canSit a_t_canNext a_t_aside a_t_kept a_t_said a_t_waitsAt a_t_saidLetter a_t_saidFrom a_t_saidHalf a_t_saidTo a_t_codes a_t_clauseOf a_t_codeFrom a_t_codeHalf a_t_codeTo a_t_stack a_t_facts a_t_newLine a_t_singersIn a_t_freeAt a_t_beginsAt a_t_leastBy a_t_mostBy a_t_mostNext a_t_risesTo t_taped t_place0 t_length0 t_fault t_number0 t_open t_codeMany t_waiting t_saidMany t_clauses t_newMany t_lines t_stoodNow t_lastSeat t_climbedNow t_isKept t_now t_tape t_canSit t_canNext) H → va_D A (w_X12_moreFit cI cB cZ a_t a_t_now a_t_tape a_t_canSit a_t_canNext a_t_aside a_t_kept a_t_said a_t_waitsAt a_t_saidLetter a_t_saidFrom a_t_saidHalf a_t_saidTo a_t_codes a_t_clauseOf a_t_codeFrom a_t_codeHalf a_t_codeTo a_t_stack a_t_facts a_t_newLine a_t_singersIn a_t_freeAt a_t_beginsAt a_t_leastBy a_t_mostBy a_t_mostNext a_t_risesTo t_taped t_place0 t_length0 t_fault t_number0 t_open t_codeMany t_waiting t_saidMany t_clauses t_newMany t_lines t_stoodNow t_lastSeat t_climbedNow t_isKept t_now t_tape t_canSit t_canNext) → va_S A s.heap H locs → lv_has ls 7 [(0, .ref a_t), (1, .int x1), (2, .int x2), (3, .int x3), (4, .int x4), (5, .int x5)] → W p l e R s m args below meth c H locs 0 0 Q (F0 m 145 ls []) := by
                                  intro n_145
                                  induction n_145 with
                                  | zero =>
                                    intro x1 x2 x3 x4 x5 t_taped t_canSit t_canNext H locs ls hf hP hD hS hl
                                    cases hf
                                  | succ n_145 ih_145 =>
                                    intro x1 x2 x3 x4 x5 t_taped t_canSit t_canNext H locs ls hf hP hD hS hl
                                    unfold f_X12_moreFit_145 at hf
                                    refine lv_iload hx hb dX12_moreFit_145 (lv_at hl 5 rfl) ?_
                                    refine lv_iconst (v := 1) hx hb dX12_moreFit_147 (by decide) ?_
                                    refine lv_iload_n hx hb dX12_moreFit_148 rfl (lv_at hl 1 rfl) ?_
                                    refine lv_ishl hx hb dX12_moreFit_149 ?_
                                    refine lv_icmp_ge (tgt := 220) hx hb dX12_moreFit_150 (by decide) (fun hc_150 => ?_) (fun hc_150 => ?_)
                                    · have hf := it_pos hc_150 hf
                                      refine lv_iconst (v := 0) hx hb dX12_moreFit_220 (by decide) ?_
                                      have J_223 : ∀ (n_223 : Nat) (x1 : Int32) (x2 : Int32) (x3 : Int32) (x5 : Int32) (t_taped : Int32) (t_canSit : (Nat → Int32)) (t_canNext : (Nat → Int32)) (H : Heap) (locs : List Loc) (ls : Array Slot), f_X12_moreFit_223 t_now t_tape (f_X12_moreFit_95 t_now t_tape n_95) n_223 x1 x2 x3 x5 t_taped t_canSit t_canNext = some res → va_P D vwCl (w_X12_moreFit cI cB cZ a_t a_t_now a_t_tape a_t_canSit a_t_canNext a_t_aside a_t_kept a_t_said a_t_waitsAt a_t_saidLetter a_t_saidFrom a_t_saidHalf a_t_saidTo a_t_codes a_t_clauseOf a_t_codeFrom a_t_codeHalf a_t_codeTo a_t_stack a_t_facts a_t_newLine a_t_singersIn a_t_freeAt a_t_beginsAt a_t_leastBy a_t_mostBy a_t_mostNext a_t_risesTo t_taped t_place0 t_length0 t_fault t_number0 t_open t_codeMany t_waiting t_saidMany t_clauses t_newMany t_lines t_stoodNow t_lastSeat t_climbedNow t_isKept t_now t_tape t_canSit t_canNext) H → va_D A (w_X12_moreFit cI cB cZ a_t a_t_now a_t_tape a_t_canSit a_t_canNext a_t_aside a_t_kept a_t_said a_t_waitsAt a_t_saidLetter a_t_saidFrom a_t_saidHalf a_t_saidTo a_t_codes a_t_clauseOf a_t_codeFrom a_t_codeHalf a_t_codeTo a_t_stack a_t_facts a_t_newLine a_t_singersIn a_t_freeAt a_t_beginsAt a_t_leastBy a_t_mostBy a_t_mostNext a_t_risesTo t_taped t_place0 t_length0 t_fault t_number0 t_open t_codeMany t_waiting t_saidMany t_clauses t_newMany t_lines t_stoodNow t_lastSeat t_climbedNow t_isKept t_now t_tape t_canSit t_canNext) → va_S A s.heap H locs → lv_has ls 7 [(0, .ref a_t), (1, .int x1), (2, .int x2), (3, .int x3), (5, .int x5)] → W p l e R s m args below meth c H locs 0 0 Q (F0 m 223 ls []) := by
                                        intro n_223
                                        induction n_223 with
                                        | zero =>
                                          intro x1 x2 x3 x5 t_taped t_canSit t_canNext H locs ls hf hP hD hS hl
                                          cases hf
                                        | succ n_223 ih_223 =>
                                          intro x1 x2 x3 x5 t_taped t_canSit t_canNext H locs ls hf hP hD hS hl
                                          unfold f_X12_moreFit_223 at hf
                                          refine lv_iload hx hb dX12_moreFit_223 (lv_at hl 4 rfl) ?_
                                          refine lv_iconst (v := 1) hx hb dX12_moreFit_225 (by decide) ?_
                                          refine lv_iload_n hx hb dX12_moreFit_226 rfl (lv_at hl 1 rfl) ?_
                                          refine lv_ishl hx hb dX12_moreFit_227 ?_
                                          refine lv_icmp_ge (tgt := 251) hx hb dX12_moreFit_228 (by decide) (fun hc_228 => ?_) (fun hc_228 => ?_)
                                          · have hf := it_pos hc_228 hf
                                            refine lv_iinc (v := x3 + 1) (lv' := [(3, .int (x3 + 1)), (0, .ref a_t), (1, .int x1), (2, .int x2), (5, .int x5)]) hx hb dX12_moreFit_251 hl (k := 3) rfl (congrArg (_ + ·) (by decide : Int32.ofInt 1 = 1)) (by decide) rfl (fun ls hl => ?_)
                                            refine lv_goto (tgt := 95) hx hb dX12_moreFit_254 (by decide) ?_
                                            exact ih_95 _ _ _ _ _ _ _ _ _ hf hP hD hS (lv_sub hl [1, 2, 3, 0] rfl)
                                          · have hf := it_neg hc_228 hf
                                            refine lv_aload_n hx hb dX12_moreFit_231 rfl (lv_at hl 0 rfl) ?_
                                            refine va_get (D := D) (ci := 11) (v := .ref a_t_canSit) (C := RX12) (T := TX12) (N := 43) hx hb hT inX12 hown hK hP 0 rfl rfl 33 (by decide) (hT _ tb_1181) (fun _ h9 => h9) rfl dX12_moreFit_232 ?_
                                            refine lv_iload hx hb dX12_moreFit_235 (lv_at hl 4 rfl) ?_
                                            refine lv_aload_n hx hb dX12_moreFit_237 rfl (lv_at hl 0 rfl) ?_
                                            refine va_get (D := D) (ci := 11) (v := .ref a_t_canNext) (C := RX12) (T := TX12) (N := 43) hx hb hT inX12 hown hK hP 0 rfl rfl 34 (by decide) (hT _ tb_1182) (fun _ h9 => h9) rfl dX12_moreFit_238 ?_
                                            refine lv_iload hx hb dX12_moreFit_241 (lv_at hl 4 rfl) ?_
                                            obtain ⟨hi_243, hf⟩ := ix_some hf
                                            refine va_zald hx hb hK hP 4 2 rfl rfl hi_243 dX12_moreFit_243 ?_
                                            obtain ⟨hi_244, hf⟩ := ix_some hf
                                            refine va_zast hx hb hK hP hD hS 3 2 rfl rfl hi_244 dX12_moreFit_244 (fun H locs hP hD hS => ?_)
                                            have hP : va_P D vwCl (w_X12_moreFit cI cB cZ a_t a_t_now a_t_tape a_t_canSit a_t_canNext a_t_aside a_t_kept a_t_said a_t_waitsAt a_t_saidLetter a_t_saidFrom a_t_saidHalf a_t_saidTo a_t_codes a_t_clauseOf a_t_codeFrom a_t_codeHalf a_t_codeTo a_t_stack a_t_facts a_t_newLine a_t_singersIn a_t_freeAt a_t_beginsAt a_t_leastBy a_t_mostBy a_t_mostNext a_t_risesTo t_taped t_place0 t_length0 t_fault t_number0 t_open t_codeMany t_waiting t_saidMany t_clauses t_newMany t_lines t_stoodNow t_lastSeat t_climbedNow t_isKept t_now t_tape (upd t_canSit x5.toNatClampNeg (vp_nar .boolean (t_canNext x5.toNatClampNeg))) t_canNext) H := hP
                                            have hD : va_D A (w_X12_moreFit cI cB cZ a_t a_t_now a_t_tape a_t_canSit a_t_canNext a_t_aside a_t_kept a_t_said a_t_waitsAt a_t_saidLetter a_t_saidFrom a_t_saidHalf a_t_saidTo a_t_codes a_t_clauseOf a_t_codeFrom a_t_codeHalf a_t_codeTo a_t_stack a_t_facts a_t_newLine a_t_singersIn a_t_freeAt a_t_beginsAt a_t_leastBy a_t_mostBy a_t_mostNext a_t_risesTo t_taped t_place0 t_length0 t_fault t_number0 t_open t_codeMany t_waiting t_saidMany t_clauses t_newMany t_lines t_stoodNow t_lastSeat t_climbedNow t_isKept t_now t_tape (upd t_canSit x5.toNatClampNeg (vp_nar .boolean (t_canNext x5.toNatClampNeg))) t_canNext) := hD
                                            refine lv_iinc (v := x5 + 1) (lv' := [(5, .int (x5 + 1)), (0, .ref a_t), (1, .int x1), (2, .int x2), (3, .int x3)]) hx hb dX12_moreFit_245 hl (k := 4) rfl (congrArg (_ + ·) (by decide : Int32.ofInt 1 = 1)) (by decide) rfl (fun ls hl => ?_)
                                            refine lv_goto (tgt := 223) hx hb dX12_moreFit_248 (by decide) ?_
                                            exact ih_223 _ _ _ _ _ _ _ _ _ _ hf hP hD hS (lv_sub hl [1, 2, 3, 4, 0] rfl)
                                      refine lv_istore (lv' := [(5, .int 0), (0, .ref a_t), (1, .int x1), (2, .int x2), (3, .int x3), (4, .int x4)]) hx hb dX12_moreFit_221 hl (by decide) rfl (fun ls hl => ?_)
                                      exact J_223 _ _ _ _ _ _ _ _ _ _ _ hf hP hD hS (lv_sub hl [1, 2, 3, 4, 0] rfl)
                                    · have hf := it_neg hc_150 hf
                                      refine lv_aload_n hx hb dX12_moreFit_153 rfl (lv_at hl 0 rfl) ?_
                                      refine lv_iload hx hb dX12_moreFit_154 (lv_at hl 5 rfl) ?_
                                      refine lv_iload_n hx hb dX12_moreFit_156 rfl (lv_at hl 1 rfl) ?_
                                      obtain ⟨z157, e157, hf⟩ := bd_some hf
                                      refine rV_RO (As := [.int x5, .int x1]) (rest := []) ⟨hx, hb, hml, hown, hT⟩ (gdV tb_1581 tb_1583 tb_81 tb_97 tb_1584) hd_X12_sumOf (c_X12_sumOf l D cI cB cZ a_t a_t_tape a_t_now a_t_aside a_t_kept a_t_said a_t_waitsAt a_t_saidLetter a_t_saidFrom a_t_saidHalf a_t_saidTo a_t_codes a_t_clauseOf a_t_codeFrom a_t_codeHalf a_t_codeTo a_t_stack a_t_facts a_t_newLine a_t_canSit a_t_canNext a_t_singersIn a_t_freeAt a_t_beginsAt a_t_leastBy a_t_mostBy a_t_mostNext a_t_risesTo t_taped t_place0 t_length0 t_fault t_number0 t_open t_codeMany t_waiting t_saidMany t_clauses t_newMany t_lines t_stoodNow t_lastSeat t_climbedNow t_isKept t_tape x5 x1 z157 e157) ⟨rfl, rfl⟩ ⟨Nat.le_trans (by decide) hRf, Nat.le_trans (by decide) hRl⟩ ⟨hK, hN⟩ hP [0, 2] rfl 0 rfl rfl rfl hl.1 rfl (Nat.le_of_ble_eq_true rfl) ⟨Nat.zero_le _, Nat.zero_le _⟩ dX12_moreFit_157 (fun _ => ?_)
                                      refine lv_iload hx hb dX12_moreFit_160 (lv_at hl 4 rfl) ?_
                                      refine lv_icmp_le (tgt := 168) hx hb dX12_moreFit_162 (by decide) (fun hc_162 => ?_) (fun hc_162 => ?_)
                                      · have hf := it_pos hc_162 hf
                                        refine lv_iconst (v := 0) hx hb dX12_moreFit_168 (by decide) ?_
                                        have J_171 : ∀ (n_171 : Nat) (x1 : Int32) (x2 : Int32) (x3 : Int32) (x4 : Int32) (x5 : Int32) (x6 : Int32) (t_taped : Int32) (t_canSit : (Nat → Int32)) (t_canNext : (Nat → Int32)) (H : Heap) (locs : List Loc) (ls : Array Slot), f_X12_moreFit_171 t_now t_tape (f_X12_moreFit_95 t_now t_tape n_95) (f_X12_moreFit_145 t_now t_tape (f_X12_moreFit_95 t_now t_tape n_95) n_145) n_171 x1 x2 x3 x4 x5 x6 t_taped t_canSit t_canNext = some res → va_P D vwCl (w_X12_moreFit cI cB cZ a_t a_t_now a_t_tape a_t_canSit a_t_canNext a_t_aside a_t_kept a_t_said a_t_waitsAt a_t_saidLetter a_t_saidFrom a_t_saidHalf a_t_saidTo a_t_codes a_t_clauseOf a_t_codeFrom a_t_codeHalf a_t_codeTo a_t_stack a_t_facts a_t_newLine a_t_singersIn a_t_freeAt a_t_beginsAt a_t_leastBy a_t_mostBy a_t_mostNext a_t_risesTo t_taped t_place0 t_length0 t_fault t_number0 t_open t_codeMany t_waiting t_saidMany t_clauses t_newMany t_lines t_stoodNow t_lastSeat t_climbedNow t_isKept t_now t_tape t_canSit t_canNext) H → va_D A (w_X12_moreFit cI cB cZ a_t a_t_now a_t_tape a_t_canSit a_t_canNext a_t_aside a_t_kept a_t_said a_t_waitsAt a_t_saidLetter a_t_saidFrom a_t_saidHalf a_t_saidTo a_t_codes a_t_clauseOf a_t_codeFrom a_t_codeHalf a_t_codeTo a_t_stack a_t_facts a_t_newLine a_t_singersIn a_t_freeAt a_t_beginsAt a_t_leastBy a_t_mostBy a_t_mostNext a_t_risesTo t_taped t_place0 t_length0 t_fault t_number0 t_open t_codeMany t_waiting t_saidMany t_clauses t_newMany t_lines t_stoodNow t_lastSeat t_climbedNow t_isKept t_now t_tape t_canSit t_canNext) → va_S A s.heap H locs → lv_has ls 7 [(0, .ref a_t), (1, .int x1), (2, .int x2), (3, .int x3), (4, .int x4), (5, .int x5), (6, .int x6)] → W p l e R s m args below meth c H locs 0 0 Q (F0 m 171 ls []) := by
                                          intro n_171
                                          induction n_171 with
                                          | zero =>
                                            intro x1 x2 x3 x4 x5 x6 t_taped t_canSit t_canNext H locs ls hf hP hD hS hl
                                            cases hf
                                          | succ n_171 ih_171 =>
                                            intro x1 x2 x3 x4 x5 x6 t_taped t_canSit t_canNext H locs ls hf hP hD hS hl
                                            unfold f_X12_moreFit_171 at hf
                                            refine lv_iload hx hb dX12_moreFit_171 (lv_at hl 6 rfl) ?_
                                            refine lv_iconst (v := 1) hx hb dX12_moreFit_173 (by decide) ?_
                                            refine lv_iload_n hx hb dX12_moreFit_174 rfl (lv_at hl 1 rfl) ?_
                                            refine lv_ishl hx hb dX12_moreFit_175 ?_
                                            refine lv_icmp_ge (tgt := 214) hx hb dX12_moreFit_176 (by decide) (fun hc_176 => ?_) (fun hc_176 => ?_)
                                            · have hf := it_pos hc_176 hf
                                              refine lv_iinc (v := x5 + 1) (lv' := [(5, .int (x5 + 1)), (0, .ref a_t), (1, .int x1), (2, .int x2), (3, .int x3), (4, .int x4), (6, .int x6)]) hx hb dX12_moreFit_214 hl (k := 5) rfl (congrArg (_ + ·) (by decide : Int32.ofInt 1 = 1)) (by decide) rfl (fun ls hl => ?_)
                                              refine lv_goto (tgt := 145) hx hb dX12_moreFit_217 (by decide) ?_
                                              exact ih_145 _ _ _ _ _ _ _ _ _ _ _ hf hP hD hS (lv_sub hl [1, 2, 3, 4, 5, 0] rfl)
                                            · have hf := it_neg hc_176 hf
                                              refine lv_aload_n hx hb dX12_moreFit_179 rfl (lv_at hl 0 rfl) ?_
                                              refine va_get (D := D) (ci := 11) (v := .ref a_t_canSit) (C := RX12) (T := TX12) (N := 43) hx hb hT inX12 hown hK hP 0 rfl rfl 33 (by decide) (hT _ tb_1181) (fun _ h9 => h9) rfl dX12_moreFit_180 ?_
                                              refine lv_iload hx hb dX12_moreFit_183 (lv_at hl 6 rfl) ?_
                                              obtain ⟨hi_185, hf⟩ := ix_some hf
                                              refine va_zald hx hb hK hP 3 2 rfl rfl hi_185 dX12_moreFit_185 ?_
                                              refine lv_if_eq (tgt := 208) hx hb dX12_moreFit_186 (by decide) (fun hc_186 => ?_) (fun hc_186 => ?_)
                                              · have hf := it_pos hc_186 hf
                                                refine lv_iinc (v := x6 + 1) (lv' := [(6, .int (x6 + 1)), (0, .ref a_t), (1, .int x1), (2, .int x2), (3, .int x3), (4, .int x4), (5, .int x5)]) hx hb dX12_moreFit_208 hl (k := 6) rfl (congrArg (_ + ·) (by decide : Int32.ofInt 1 = 1)) (by decide) rfl (fun ls hl => ?_)
                                                refine lv_goto (tgt := 171) hx hb dX12_moreFit_211 (by decide) ?_
                                                exact ih_171 _ _ _ _ _ _ _ _ _ _ _ _ hf hP hD hS (lv_sub hl [1, 2, 3, 4, 5, 6, 0] rfl)
                                              · have hf := it_neg hc_186 hf
                                                refine lv_iload hx hb dX12_moreFit_189 (lv_at hl 6 rfl) ?_
                                                refine lv_iload hx hb dX12_moreFit_191 (lv_at hl 5 rfl) ?_
                                                refine lv_iand hx hb dX12_moreFit_193 ?_
                                                refine lv_if_ne (tgt := 208) hx hb dX12_moreFit_194 (by decide) (fun hc_194 => ?_) (fun hc_194 => ?_)
                                                · have hf := it_neg hc_194 hf
                                                  refine lv_iinc (v := x6 + 1) (lv' := [(6, .int (x6 + 1)), (0, .ref a_t), (1, .int x1), (2, .int x2), (3, .int x3), (4, .int x4), (5, .int x5)]) hx hb dX12_moreFit_208 hl (k := 6) rfl (congrArg (_ + ·) (by decide : Int32.ofInt 1 = 1)) (by decide) rfl (fun ls hl => ?_)
                                                  refine lv_goto (tgt := 171) hx hb dX12_moreFit_211 (by decide) ?_
                                                  exact ih_171 _ _ _ _ _ _ _ _ _ _ _ _ hf hP hD hS (lv_sub hl [1, 2, 3, 4, 5, 6, 0] rfl)
                                                · have hf := it_pos hc_194 hf
                                                  refine lv_aload_n hx hb dX12_moreFit_197 rfl (lv_at hl 0 rfl) ?_
                                                  refine va_get (D := D) (ci := 11) (v := .ref a_t_canNext) (C := RX12) (T := TX12) (N := 43) hx hb hT inX12 hown hK hP 0 rfl rfl 34 (by decide) (hT _ tb_1182) (fun _ h9 => h9) rfl dX12_moreFit_198 ?_
                                                  refine lv_iload hx hb dX12_moreFit_201 (lv_at hl 6 rfl) ?_
                                                  refine lv_iload hx hb dX12_moreFit_203 (lv_at hl 5 rfl) ?_
                                                  refine lv_ior hx hb dX12_moreFit_205 ?_
                                                  refine lv_iconst (v := 1) hx hb dX12_moreFit_206 (by decide) ?_
                                                  obtain ⟨hi_207, hf⟩ := ix_some hf
                                                  refine va_zast hx hb hK hP hD hS 4 2 rfl rfl hi_207 dX12_moreFit_207 (fun H locs hP hD hS => ?_)
                                                  have hP : va_P D vwCl (w_X12_moreFit cI cB cZ a_t a_t_now a_t_tape a_t_canSit a_t_canNext a_t_aside a_t_kept a_t_said a_t_waitsAt a_t_saidLetter a_t_saidFrom a_t_saidHalf a_t_saidTo a_t_codes a_t_clauseOf a_t_codeFrom a_t_codeHalf a_t_codeTo a_t_stack a_t_facts a_t_newLine a_t_singersIn a_t_freeAt a_t_beginsAt a_t_leastBy a_t_mostBy a_t_mostNext a_t_risesTo t_taped t_place0 t_length0 t_fault t_number0 t_open t_codeMany t_waiting t_saidMany t_clauses t_newMany t_lines t_stoodNow t_lastSeat t_climbedNow t_isKept t_now t_tape t_canSit (upd t_canNext (x6 ||| x5).toNatClampNeg (vp_nar .boolean 1))) H := hP
                                                  have hD : va_D A (w_X12_moreFit cI cB cZ a_t a_t_now a_t_tape a_t_canSit a_t_canNext a_t_aside a_t_kept a_t_said a_t_waitsAt a_t_saidLetter a_t_saidFrom a_t_saidHalf a_t_saidTo a_t_codes a_t_clauseOf a_t_codeFrom a_t_codeHalf a_t_codeTo a_t_stack a_t_facts a_t_newLine a_t_singersIn a_t_freeAt a_t_beginsAt a_t_leastBy a_t_mostBy a_t_mostNext a_t_risesTo t_taped t_place0 t_length0 t_fault t_number0 t_open t_codeMany t_waiting t_saidMany t_clauses t_newMany t_lines t_stoodNow t_lastSeat t_climbedNow t_isKept t_now t_tape t_canSit (upd t_canNext (x6 ||| x5).toNatClampNeg (vp_nar .boolean 1))) := hD
                                                  refine lv_iinc (v := x6 + 1) (lv' := [(6, .int (x6 + 1)), (0, .ref a_t), (1, .int x1), (2, .int x2), (3, .int x3), (4, .int x4), (5, .int x5)]) hx hb dX12_moreFit_208 hl (k := 6) rfl (congrArg (_ + ·) (by decide : Int32.ofInt 1 = 1)) (by decide) rfl (fun ls hl => ?_)
                                                  refine lv_goto (tgt := 171) hx hb dX12_moreFit_211 (by decide) ?_
                                                  exact ih_171 _ _ _ _ _ _ _ _ _ _ _ _ hf hP hD hS (lv_sub hl [1, 2, 3, 4, 5, 6, 0] rfl)
                                        refine lv_istore (lv' := [(6, .int 0), (0, .ref a_t), (1, .int x1), (2, .int x2), (3, .int x3), (4, .int x4), (5, .int x5)]) hx hb dX12_moreFit_169 hl (by decide) rfl (fun ls hl => ?_)
                                        exact J_171 _ _ _ _ _ _ _ _ _ _ _ _ _ hf hP hD hS (lv_sub hl [1, 2, 3, 4, 5, 6, 0] rfl)
                                      · have hf := it_neg hc_162 hf
                                        refine lv_goto (tgt := 214) hx hb dX12_moreFit_165 (by decide) ?_
                                        refine lv_iinc (v := x5 + 1) (lv' := [(5, .int (x5 + 1)), (0, .ref a_t), (1, .int x1), (2, .int x2), (3, .int x3), (4, .int x4)]) hx hb dX12_moreFit_214 hl (k := 5) rfl (congrArg (_ + ·) (by decide : Int32.ofInt 1 = 1)) (by decide) rfl (fun ls hl => ?_)
                                        refine lv_goto (tgt := 145) hx hb dX12_moreFit_217 (by decide) ?_
                                        exact ih_145 _ _ _ _ _ _ _ _ _ _ _ hf hP hD hS (lv_sub hl [1, 2, 3, 4, 5, 0] rfl)
                                refine lv_istore (lv' := [(5, .int 1), (0, .ref a_t), (1, .int x1), (2, .int x2), (3, .int x3), (4, .int x4)]) hx hb dX12_moreFit_143 hl (by decide) rfl (fun ls hl => ?_)
                                exact J_145 _ _ _ _ _ _ _ _ _ _ _ _ hf hP hD hS (lv_sub hl [1, 2, 3, 4, 5, 0] rfl)
                              · have hf := it_neg hc_119 hf
                                refine lv_aload_n hx hb dX12_moreFit_122 rfl (lv_at hl 0 rfl) ?_
                                refine va_get (D := D) (ci := 11) (v := .ref a_t_canNext) (C := RX12) (T := TX12) (N := 43) hx hb hT inX12 hown hK hP 0 rfl rfl 34 (by decide) (hT _ tb_1182) (fun _ h9 => h9) rfl dX12_moreFit_123 ?_
                                refine lv_iload hx hb dX12_moreFit_126 (lv_at hl 5 rfl) ?_
                                refine lv_aload_n hx hb dX12_moreFit_128 rfl (lv_at hl 0 rfl) ?_
                                refine va_get (D := D) (ci := 11) (v := .ref a_t_canSit) (C := RX12) (T := TX12) (N := 43) hx hb hT inX12 hown hK hP 0 rfl rfl 33 (by decide) (hT _ tb_1181) (fun _ h9 => h9) rfl dX12_moreFit_129 ?_
                                refine lv_iload hx hb dX12_moreFit_132 (lv_at hl 5 rfl) ?_
                                obtain ⟨hi_134, hf⟩ := ix_some hf
                                refine va_zald hx hb hK hP 3 2 rfl rfl hi_134 dX12_moreFit_134 ?_
                                obtain ⟨hi_135, hf⟩ := ix_some hf
                                refine va_zast hx hb hK hP hD hS 4 2 rfl rfl hi_135 dX12_moreFit_135 (fun H locs hP hD hS => ?_)
                                have hP : va_P D vwCl (w_X12_moreFit cI cB cZ a_t a_t_now a_t_tape a_t_canSit a_t_canNext a_t_aside a_t_kept a_t_said a_t_waitsAt a_t_saidLetter a_t_saidFrom a_t_saidHalf a_t_saidTo a_t_codes a_t_clauseOf a_t_codeFrom a_t_codeHalf a_t_codeTo a_t_stack a_t_facts a_t_newLine a_t_singersIn a_t_freeAt a_t_beginsAt a_t_leastBy a_t_mostBy a_t_mostNext a_t_risesTo t_taped t_place0 t_length0 t_fault t_number0 t_open t_codeMany t_waiting t_saidMany t_clauses t_newMany t_lines t_stoodNow t_lastSeat t_climbedNow t_isKept t_now t_tape t_canSit (upd t_canNext x5.toNatClampNeg (vp_nar .boolean (t_canSit x5.toNatClampNeg)))) H := hP
                                have hD : va_D A (w_X12_moreFit cI cB cZ a_t a_t_now a_t_tape a_t_canSit a_t_canNext a_t_aside a_t_kept a_t_said a_t_waitsAt a_t_saidLetter a_t_saidFrom a_t_saidHalf a_t_saidTo a_t_codes a_t_clauseOf a_t_codeFrom a_t_codeHalf a_t_codeTo a_t_stack a_t_facts a_t_newLine a_t_singersIn a_t_freeAt a_t_beginsAt a_t_leastBy a_t_mostBy a_t_mostNext a_t_risesTo t_taped t_place0 t_length0 t_fault t_number0 t_open t_codeMany t_waiting t_saidMany t_clauses t_newMany t_lines t_stoodNow t_lastSeat t_climbedNow t_isKept t_now t_tape t_canSit (upd t_canNext x5.toNatClampNeg (vp_nar .boolean (t_canSit x5.toNatClampNeg)))) := hD
                                refine lv_iinc (v := x5 + 1) (lv' := [(5, .int (x5 + 1)), (0, .ref a_t), (1, .int x1), (2, .int x2), (3, .int x3), (4, .int x4)]) hx hb dX12_moreFit_136 hl (k := 5) rfl (congrArg (_ + ·) (by decide : Int32.ofInt 1 = 1)) (by decide) rfl (fun ls hl => ?_)
                                refine lv_goto (tgt := 114) hx hb dX12_moreFit_139 (by decide) ?_
                                exact ih_114 _ _ _ _ _ _ _ _ _ _ _ hf hP hD hS (lv_sub hl [1, 2, 3, 4, 5, 0] rfl)
                          refine lv_istore (lv' := [(5, .int 0), (4, .int (9 - z105)), (0, .ref a_t), (1, .int x1), (2, .int x2), (3, .int x3)]) hx hb dX12_moreFit_112 hl (by decide) rfl (fun ls hl => ?_)
                          exact J_114 _ _ _ _ _ _ _ _ _ _ _ _ hf hP hD hS (lv_sub hl [2, 3, 4, 5, 1, 0] rfl)
                    refine lv_istore_n (lv' := [(3, .int 0), (0, .ref a_t), (1, .int x1), (2, .int x2)]) hx hb dX12_moreFit_94 rfl hl (by decide) rfl (fun ls hl => ?_)
                    exact J_95 _ _ _ _ _ _ _ _ _ _ hf hP hD hS (lv_sub hl [1, 2, 3, 0] rfl)
                  · have hf := it_neg hc_69 hf
                    refine lv_aload_n hx hb dX12_moreFit_72 rfl (lv_at hl 0 rfl) ?_
                    refine va_get (D := D) (ci := 11) (v := .ref a_t_canSit) (C := RX12) (T := TX12) (N := 43) hx hb hT inX12 hown hK hP 0 rfl rfl 33 (by decide) (hT _ tb_1181) (fun _ h9 => h9) rfl dX12_moreFit_73 ?_
                    refine lv_iload_n hx hb dX12_moreFit_76 rfl (lv_at hl 3 rfl) ?_
                    refine lv_iload_n hx hb dX12_moreFit_77 rfl (lv_at hl 3 rfl) ?_
                    have J_86 : ∀ (x1 : Int32) (x2 : Int32) (x3 : Int32) (y0 : Int32) (y1 : Int32) (t_taped : Int32) (t_canSit : (Nat → Int32)) (t_canNext : (Nat → Int32)) (H : Heap) (locs : List Loc) (ls : Array Slot), f_X12_moreFit_86 t_now t_tape (f_X12_moreFit_66 t_now t_tape n_66) x1 x2 x3 y0 y1 t_taped t_canSit t_canNext = some res → va_P D vwCl (w_X12_moreFit cI cB cZ a_t a_t_now a_t_tape a_t_canSit a_t_canNext a_t_aside a_t_kept a_t_said a_t_waitsAt a_t_saidLetter a_t_saidFrom a_t_saidHalf a_t_saidTo a_t_codes a_t_clauseOf a_t_codeFrom a_t_codeHalf a_t_codeTo a_t_stack a_t_facts a_t_newLine a_t_singersIn a_t_freeAt a_t_beginsAt a_t_leastBy a_t_mostBy a_t_mostNext a_t_risesTo t_taped t_place0 t_length0 t_fault t_number0 t_open t_codeMany t_waiting t_saidMany t_clauses t_newMany t_lines t_stoodNow t_lastSeat t_climbedNow t_isKept t_now t_tape t_canSit t_canNext) H → va_D A (w_X12_moreFit cI cB cZ a_t a_t_now a_t_tape a_t_canSit a_t_canNext a_t_aside a_t_kept a_t_said a_t_waitsAt a_t_saidLetter a_t_saidFrom a_t_saidHalf a_t_saidTo a_t_codes a_t_clauseOf a_t_codeFrom a_t_codeHalf a_t_codeTo a_t_stack a_t_facts a_t_newLine a_t_singersIn a_t_freeAt a_t_beginsAt a_t_leastBy a_t_mostBy a_t_mostNext a_t_risesTo t_taped t_place0 t_length0 t_fault t_number0 t_open t_codeMany t_waiting t_saidMany t_clauses t_newMany t_lines t_stoodNow t_lastSeat t_climbedNow t_isKept t_now t_tape t_canSit t_canNext) → va_S A s.heap H locs → lv_has ls 7 [(0, .ref a_t), (1, .int x1), (2, .int x2), (3, .int x3)] → W p l e R s m args below meth c H locs 0 0 Q (F0 m 86 ls [.int y1, .int y0, .ref a_t_canSit]) := by
                      intro x1 x2 x3 y0 y1 t_taped t_canSit t_canNext H locs ls hf hP hD hS hl
                      unfold f_X12_moreFit_86 at hf
                      obtain ⟨hi_86, hf⟩ := ix_some hf
                      refine va_zast hx hb hK hP hD hS 3 2 rfl rfl hi_86 dX12_moreFit_86 (fun H locs hP hD hS => ?_)
                      have hP : va_P D vwCl (w_X12_moreFit cI cB cZ a_t a_t_now a_t_tape a_t_canSit a_t_canNext a_t_aside a_t_kept a_t_said a_t_waitsAt a_t_saidLetter a_t_saidFrom a_t_saidHalf a_t_saidTo a_t_codes a_t_clauseOf a_t_codeFrom a_t_codeHalf a_t_codeTo a_t_stack a_t_facts a_t_newLine a_t_singersIn a_t_freeAt a_t_beginsAt a_t_leastBy a_t_mostBy a_t_mostNext a_t_risesTo t_taped t_place0 t_length0 t_fault t_number0 t_open t_codeMany t_waiting t_saidMany t_clauses t_newMany t_lines t_stoodNow t_lastSeat t_climbedNow t_isKept t_now t_tape (upd t_canSit y0.toNatClampNeg (vp_nar .boolean y1)) t_canNext) H := hP
                      have hD : va_D A (w_X12_moreFit cI cB cZ a_t a_t_now a_t_tape a_t_canSit a_t_canNext a_t_aside a_t_kept a_t_said a_t_waitsAt a_t_saidLetter a_t_saidFrom a_t_saidHalf a_t_saidTo a_t_codes a_t_clauseOf a_t_codeFrom a_t_codeHalf a_t_codeTo a_t_stack a_t_facts a_t_newLine a_t_singersIn a_t_freeAt a_t_beginsAt a_t_leastBy a_t_mostBy a_t_mostNext a_t_risesTo t_taped t_place0 t_length0 t_fault t_number0 t_open t_codeMany t_waiting t_saidMany t_clauses t_newMany t_lines t_stoodNow t_lastSeat t_climbedNow t_isKept t_now t_tape (upd t_canSit y0.toNatClampNeg (vp_nar .boolean y1)) t_canNext) := hD
                      refine lv_iinc (v := x3 + 1) (lv' := [(3, .int (x3 + 1)), (0, .ref a_t), (1, .int x1), (2, .int x2)]) hx hb dX12_moreFit_87 hl (k := 3) rfl (congrArg (_ + ·) (by decide : Int32.ofInt 1 = 1)) (by decide) rfl (fun ls hl => ?_)
                      refine lv_goto (tgt := 66) hx hb dX12_moreFit_90 (by decide) ?_
                      exact ih_66 _ _ _ _ _ _ _ _ _ hf hP hD hS (lv_sub hl [1, 2, 3, 0] rfl)
                    refine lv_if_ne (tgt := 85) hx hb dX12_moreFit_78 (by decide) (fun hc_78 => ?_) (fun hc_78 => ?_)
                    · have hf := it_neg hc_78 hf
                      refine lv_iconst (v := 0) hx hb dX12_moreFit_85 (by decide) ?_
                      exact J_86 _ _ _ _ _ _ _ _ _ _ _ hf hP hD hS (lv_sub hl [0, 1, 2, 3] rfl)
                    · have hf := it_pos hc_78 hf
                      refine lv_iconst (v := 1) hx hb dX12_moreFit_81 (by decide) ?_
                      refine lv_goto (tgt := 86) hx hb dX12_moreFit_82 (by decide) ?_
                      exact J_86 _ _ _ _ _ _ _ _ _ _ _ hf hP hD hS (lv_sub hl [0, 1, 2, 3] rfl)
              refine lv_istore_n (lv' := [(3, .int 0), (0, .ref a_t), (1, .int x1), (2, .int x2)]) hx hb dX12_moreFit_65 rfl hl (by decide) rfl (fun ls hl => ?_)
              exact J_66 _ _ _ _ _ _ _ _ _ _ hf hP hD hS (lv_sub hl [1, 2, 3, 0] rfl)
            · have hf := it_neg hc_38 hf
              refine lv_aload_n hx hb dX12_moreFit_41 rfl (lv_at hl 0 rfl) ?_
              refine lv_iload_n hx hb dX12_moreFit_42 rfl (lv_at hl 3 rfl) ?_
              obtain ⟨z43, e43, hf⟩ := bd_some hf
              refine rV_RO (As := [.int x3]) (rest := []) ⟨hx, hb, hml, hown, hT⟩ (gdV tb_1566 tb_1568 tb_80 tb_97 tb_1569) hd_X12_octet (c_X12_octet l D cI cB cZ a_t a_t_tape a_t_now a_t_aside a_t_kept a_t_said a_t_waitsAt a_t_saidLetter a_t_saidFrom a_t_saidHalf a_t_saidTo a_t_codes a_t_clauseOf a_t_codeFrom a_t_codeHalf a_t_codeTo a_t_stack a_t_facts a_t_newLine a_t_canSit a_t_canNext a_t_singersIn a_t_freeAt a_t_beginsAt a_t_leastBy a_t_mostBy a_t_mostNext a_t_risesTo t_taped t_place0 t_length0 t_fault t_number0 t_open t_codeMany t_waiting t_saidMany t_clauses t_newMany t_lines t_stoodNow t_lastSeat t_climbedNow t_isKept t_tape x3 z43 e43) ⟨rfl, rfl⟩ ⟨Nat.le_trans (by decide) hRf, Nat.le_trans (by decide) hRl⟩ ⟨hK, hN⟩ hP [0, 2] rfl 0 rfl rfl rfl hl.1 rfl (Nat.le_of_ble_eq_true rfl) ⟨Nat.zero_le _, Nat.zero_le _⟩ dX12_moreFit_43 (fun _ => ?_)
              refine lv_iconst (v := 1) hx hb dX12_moreFit_46 (by decide) ?_
              refine lv_bipush (v := 9) hx hb dX12_moreFit_47 (by decide) ?_
              obtain ⟨z49, e49, hf⟩ := bd_some hf
              refine rS_RO (As := [.int z43, .int 1, .int 9]) (rest := []) ⟨hx, hb, hml, hown, hT⟩ (gdS tb_1283 tb_1284 tb_97 tb_1285) hd_X12_in (c_X12_in l D cI cB cZ z43 1 9 z49 e49) ⟨rfl, rfl⟩ ⟨Nat.le_trans (by decide) hRf, Nat.le_trans (by decide) hRl⟩ ⟨hK, hN⟩ hP [] rfl rfl hl.1 rfl (Nat.le_of_ble_eq_true rfl) ⟨Nat.zero_le _, Nat.zero_le _⟩ dX12_moreFit_49 (fun hz_49 => ?_)
              refine lv_if_ne (tgt := 58) hx hb dX12_moreFit_52 (by decide) (fun hc_52 => ?_) (fun hc_52 => ?_)
              · have hf := it_neg hc_52 hf
                refine lv_iinc (v := x3 + 1) (lv' := [(3, .int (x3 + 1)), (0, .ref a_t), (1, .int x1), (2, .int x2)]) hx hb dX12_moreFit_58 hl (k := 3) rfl (congrArg (_ + ·) (by decide : Int32.ofInt 1 = 1)) (by decide) rfl (fun ls hl => ?_)
                refine lv_goto (tgt := 36) hx hb dX12_moreFit_61 (by decide) ?_
                exact ih_36 _ _ _ _ _ _ _ _ _ hf hP hD hS (lv_sub hl [1, 2, 3, 0] rfl)
              · have hf := it_pos hc_52 hf
                refine lv_bipush (v := (-2)) hx hb dX12_moreFit_55 (by decide) ?_
                obtain rfl := Option.some.inj hf
                exact hQ H locs 57 ls hP hD hS trivial dX12_moreFit_57
        refine lv_istore_n (lv' := [(3, .int 0), (0, .ref a_t), (1, .int x1), (2, .int x2)]) hx hb dX12_moreFit_35 rfl hl (by decide) rfl (fun ls hl => ?_)
        exact J_36 _ _ _ _ _ _ _ _ _ _ hf hP hD hS (lv_sub hl [1, 2, 3, 0] rfl)
      · have hf := it_neg hc_24 hf
        refine lv_iconst (v := (-1)) hx hb dX12_moreFit_27 (by decide) ?_
        obtain rfl := Option.some.inj hf
        exact hQ H locs 28 ls hP hD hS trivial dX12_moreFit_28
theorem hd_X12_moreFit : (yX12_moreFit).cls = RX12 ∧ (yX12_moreFit).cls ≠ "java/lang/invoke/MethodHandle" ∧ (yX12_moreFit).cls ≠ "java/lang/invoke/VarHandle" ∧ (parseMethodDescriptor (yX12_moreFit).desc).map (fun d => d.parameters.length) = some 2 := by decide +kernel
theorem c_X12_moreFit (l : Launch) (D : va_G) (cI cB cZ : ClassId) (a_t : Nat) (a_t_now : Nat) (a_t_tape : Nat) (a_t_canSit : Nat) (a_t_canNext : Nat) (a_t_aside : Nat) (a_t_kept : Nat) (a_t_said : Nat) (a_t_waitsAt : Nat) (a_t_saidLetter : Nat) (a_t_saidFrom : Nat) (a_t_saidHalf : Nat) (a_t_saidTo : Nat) (a_t_codes : Nat) (a_t_clauseOf : Nat) (a_t_codeFrom : Nat) (a_t_codeHalf : Nat) (a_t_codeTo : Nat) (a_t_stack : Nat) (a_t_facts : Nat) (a_t_newLine : Nat) (a_t_singersIn : Nat) (a_t_freeAt : Nat) (a_t_beginsAt : Nat) (a_t_leastBy : Nat) (a_t_mostBy : Nat) (a_t_mostNext : Nat) (a_t_risesTo : Nat) (t_taped : Int32) (t_place0 : Int32) (t_length0 : Int32) (t_fault : Int32) (t_number0 : Int32) (t_open : Int32) (t_codeMany : Int32) (t_waiting : Int32) (t_saidMany : Int32) (t_clauses : Int32) (t_newMany : Int32) (t_lines : Int32) (t_stoodNow : Int32) (t_lastSeat : Int32) (t_climbedNow : Int32) (t_isKept : Int32) (t_now : (Nat → Int32)) (t_tape : (Nat → Int32)) (t_canSit : (Nat → Int32)) (t_canNext : (Nat → Int32)) (x1 : Int32) (x2 : Int32) (sz : Nat) (res : Int32 × Int32 × (Nat → Int32) × (Nat → Int32)) (hf : f_X12_moreFit t_taped t_now t_tape t_canSit t_canNext x1 x2 = some res) : Met l yX12_moreFit (.code yX12_moreFit cX12_moreFit 7 (some .int) :: TB) (rmk (2) (45)) (pRW [.ref a_t, .int x1, .int x2] D cI cB cZ (w_X12_moreFit cI cB cZ a_t a_t_now a_t_tape a_t_canSit a_t_canNext a_t_aside a_t_kept a_t_said a_t_waitsAt a_t_saidLetter a_t_saidFrom a_t_saidHalf a_t_saidTo a_t_codes a_t_clauseOf a_t_codeFrom a_t_codeHalf a_t_codeTo a_t_stack a_t_facts a_t_newLine a_t_singersIn a_t_freeAt a_t_beginsAt a_t_leastBy a_t_mostBy a_t_mostNext a_t_risesTo t_taped t_place0 t_length0 t_fault t_number0 t_open t_codeMany t_waiting t_saidMany t_clauses t_newMany t_lines t_stoodNow t_lastSeat t_climbedNow t_isKept t_now t_tape t_canSit t_canNext) sz) (qRW (some (.int res.1)) True D (w_X12_moreFit cI cB cZ a_t a_t_now a_t_tape a_t_canSit a_t_canNext a_t_aside a_t_kept a_t_said a_t_waitsAt a_t_saidLetter a_t_saidFrom a_t_saidHalf a_t_saidTo a_t_codes a_t_clauseOf a_t_codeFrom a_t_codeHalf a_t_codeTo a_t_stack a_t_facts a_t_newLine a_t_singersIn a_t_freeAt a_t_beginsAt a_t_leastBy a_t_mostBy a_t_mostNext a_t_risesTo t_taped t_place0 t_length0 t_fault t_number0 t_open t_codeMany t_waiting t_saidMany t_clauses t_newMany t_lines t_stoodNow t_lastSeat t_climbedNow t_isKept t_now t_tape t_canSit t_canNext) sz (w_X12_moreFit cI cB cZ a_t a_t_now a_t_tape a_t_canSit a_t_canNext a_t_aside a_t_kept a_t_said a_t_waitsAt a_t_saidLetter a_t_saidFrom a_t_saidHalf a_t_saidTo a_t_codes a_t_clauseOf a_t_codeFrom a_t_codeHalf a_t_codeTo a_t_stack a_t_facts a_t_newLine a_t_singersIn a_t_freeAt a_t_beginsAt a_t_leastBy a_t_mostBy a_t_mostNext a_t_risesTo res.2.1 t_place0 t_length0 t_fault t_number0 t_open t_codeMany t_waiting t_saidMany t_clauses t_newMany t_lines t_stoodNow t_lastSeat t_climbedNow t_isKept t_now t_tape res.2.2.1 res.2.2.2)) 0 0 (va_A (w_X12_moreFit cI cB cZ a_t a_t_now a_t_tape a_t_canSit a_t_canNext a_t_aside a_t_kept a_t_said a_t_waitsAt a_t_saidLetter a_t_saidFrom a_t_saidHalf a_t_saidTo a_t_codes a_t_clauseOf a_t_codeFrom a_t_codeHalf a_t_codeTo a_t_stack a_t_facts a_t_newLine a_t_singersIn a_t_freeAt a_t_beginsAt a_t_leastBy a_t_mostBy a_t_mostNext a_t_risesTo t_taped t_place0 t_length0 t_fault t_number0 t_open t_codeMany t_waiting t_saidMany t_clauses t_newMany t_lines t_stoodNow t_lastSeat t_climbedNow t_isKept t_now t_tape t_canSit t_canNext) sz) :=
  mkRW (by decide +kernel) (Nat.le_of_ble_eq_true rfl) (fun p e s m below meth c ls A hAe S hr hlk hK hA hP hD hS hl => b_X12_moreFit S.1 S.2.1 S.2.2.1 S.2.2.2.1 S.2.2.2.2 (Nat.le_refl _) (Nat.le_refl _) hK.1 hK.2 hA s.heap [] a_t a_t_now a_t_tape a_t_canSit a_t_canNext a_t_aside a_t_kept a_t_said a_t_waitsAt a_t_saidLetter a_t_saidFrom a_t_saidHalf a_t_saidTo a_t_codes a_t_clauseOf a_t_codeFrom a_t_codeHalf a_t_codeTo a_t_stack a_t_facts a_t_newLine a_t_singersIn a_t_freeAt a_t_beginsAt a_t_leastBy a_t_mostBy a_t_mostNext a_t_risesTo t_taped t_place0 t_length0 t_fault t_number0 t_open t_codeMany t_waiting t_saidMany t_clauses t_newMany t_lines t_stoodNow t_lastSeat t_climbedNow t_isKept t_now t_tape t_canSit t_canNext x1 x2 res hf hP hD hS (fun H locs pc ls hP hD hS hE hd => eRW_i S.1 S.2.1 hr rfl hlk hAe hP hD hS hE hd) ls hl)
def f_X12_fathers_65 (t_now : (Nat → Int32)) (k47 : Int32 → Int32 → Int32 → Int32 → Int32 → Int32 → Int32 → Option (Int32)) : Nat → Int32 → Int32 → Int32 → Int32 → Int32 → Int32 → Int32 → Int32 → Option (Int32)
  | 0, _, _, _, _, _, _, _, _ => none
  | n + 1, x1, x2, x3, x4, x5, x6, x7, x8 => (if ((72 * x1) + 72) ≤ x8 then k47 x1 x2 x3 x4 x5 x6 (x7 + 1) else (f_X12_isTaken t_now x7).bind (fun z80 => (if z80 = 0 then (f_X12_isTaken t_now x8).bind (fun z89 => (if z89 = 0 then (if x2 ≤ ((x8 / 9) - (x7 / 9)) then (if x5 = (-2) then (f_X12_fathers_65 t_now k47 n) x1 x2 x3 (x4 + 1) x7 x8 x7 (x8 + 1) else (f_X12_fathers_65 t_now k47 n) x1 x2 x3 (x4 + 1) x5 x6 x7 (x8 + 1)) else (f_X12_fathers_65 t_now k47 n) x1 x2 x3 x4 x5 x6 x7 (x8 + 1)) else (f_X12_fathers_65 t_now k47 n) x1 x2 x3 x4 x5 x6 x7 (x8 + 1))) else (f_X12_fathers_65 t_now k47 n) x1 x2 x3 x4 x5 x6 x7 (x8 + 1))))
def f_X12_fathers_47 (t_now : (Nat → Int32)) : Nat → Int32 → Int32 → Int32 → Int32 → Int32 → Int32 → Int32 → Option (Int32)
  | 0, _, _, _, _, _, _, _ => none
  | n + 1, x1, x2, x3, x4, x5, x6, x7 => (if ((72 * x1) + 72) ≤ x7 then (if x3 = 0 then some (x4) else (if x3 = 1 then some (x5) else some (x6))) else f_X12_fathers_65 t_now (f_X12_fathers_47 t_now n) FU x1 x2 x3 x4 x5 x6 x7 (x7 + 1))
def f_X12_fathers (t_now : (Nat → Int32)) (x1 : Int32) (x2 : Int32) (x3 : Int32) : Option (Int32) := (f_X12_in x1 0 1).bind (fun z3 => (if z3 = 0 then some ((-1)) else (f_X12_in x2 0 7).bind (fun z13 => (if z13 = 0 then some ((-1)) else (f_X12_in x3 0 2).bind (fun z22 => (if z22 = 0 then some ((-1)) else f_X12_fathers_47 t_now FU x1 x2 x3 0 (-2) (-2) (72 * x1)))))))
def w_X12_fathers (cI cB cZ : ClassId) (a_t : Nat) (a_t_now : Nat) (a_t_aside : Nat) (a_t_kept : Nat) (a_t_tape : Nat) (a_t_said : Nat) (a_t_waitsAt : Nat) (a_t_saidLetter : Nat) (a_t_saidFrom : Nat) (a_t_saidHalf : Nat) (a_t_saidTo : Nat) (a_t_codes : Nat) (a_t_clauseOf : Nat) (a_t_codeFrom : Nat) (a_t_codeHalf : Nat) (a_t_codeTo : Nat) (a_t_stack : Nat) (a_t_facts : Nat) (a_t_newLine : Nat) (a_t_canSit : Nat) (a_t_canNext : Nat) (a_t_singersIn : Nat) (a_t_freeAt : Nat) (a_t_beginsAt : Nat) (a_t_leastBy : Nat) (a_t_mostBy : Nat) (a_t_mostNext : Nat) (a_t_risesTo : Nat) (t_taped : Int32) (t_place0 : Int32) (t_length0 : Int32) (t_fault : Int32) (t_number0 : Int32) (t_open : Int32) (t_codeMany : Int32) (t_waiting : Int32) (t_saidMany : Int32) (t_clauses : Int32) (t_newMany : Int32) (t_lines : Int32) (t_stoodNow : Int32) (t_lastSeat : Int32) (t_climbedNow : Int32) (t_isKept : Int32) (t_now : (Nat → Int32)) : va_W := [(a_t, .inr (11, [.ref a_t_now, .ref a_t_aside, .ref a_t_kept, .ref a_t_tape, .int t_taped, .int t_place0, .int t_length0, .int t_fault, .int t_number0, .int t_open, .int t_codeMany, .int t_waiting, .int t_saidMany, .int t_clauses, .ref a_t_said, .ref a_t_waitsAt, .ref a_t_saidLetter, .ref a_t_saidFrom, .ref a_t_saidHalf, .ref a_t_saidTo, .ref a_t_codes, .ref a_t_clauseOf, .ref a_t_codeFrom, .ref a_t_codeHalf, .ref a_t_codeTo, .ref a_t_stack, .ref a_t_facts, .ref a_t_newLine, .int t_newMany, .int t_lines, .int t_stoodNow, .int t_lastSeat, .int t_climbedNow, .ref a_t_canSit, .ref a_t_canNext, .ref a_t_singersIn, .ref a_t_freeAt, .ref a_t_beginsAt, .ref a_t_leastBy, .ref a_t_mostBy, .ref a_t_mostNext, .ref a_t_risesTo, .int t_isKept])), (a_t_now, .inl (cI, 637, .inl t_now))]
set_option maxHeartbeats 4000000 in
set_option maxRecDepth 100000 in
theorem b_X12_fathers {p : Program} {l : Launch} {e : Env} {R : Room} {s : State} {m : MethodId} {args : Array Value} {below : List Frame} {meth : Method} {c : Code} {Q : State → Prop} {D : va_G} {cI cB cZ : ClassId} (hx : p.tables.exec = Jvm.exec) (hb : c.code = cX12_fathers) (hml : c.maxLocals = 9) (hown : s.vm.findClass RX12 = some m.cls) (hT : ∀ w ∈ TB, w.before args s = true) (hRf : (1) ≤ R.frames) (hRl : (22) ≤ R.locals) (hK : va_K D vwCl (tyL cI cB cZ) s) (hN : NW s)  (a_t : Nat) (a_t_now : Nat) (a_t_aside : Nat) (a_t_kept : Nat) (a_t_tape : Nat) (a_t_said : Nat) (a_t_waitsAt : Nat) (a_t_saidLetter : Nat) (a_t_saidFrom : Nat) (a_t_saidHalf : Nat) (a_t_saidTo : Nat) (a_t_codes : Nat) (a_t_clauseOf : Nat) (a_t_codeFrom : Nat) (a_t_codeHalf : Nat) (a_t_codeTo : Nat) (a_t_stack : Nat) (a_t_facts : Nat) (a_t_newLine : Nat) (a_t_canSit : Nat) (a_t_canNext : Nat) (a_t_singersIn : Nat) (a_t_freeAt : Nat) (a_t_beginsAt : Nat) (a_t_leastBy : Nat) (a_t_mostBy : Nat) (a_t_mostNext : Nat) (a_t_risesTo : Nat) (t_taped : Int32) (t_place0 : Int32) (t_length0 : Int32) (t_fault : Int32) (t_number0 : Int32) (t_open : Int32) (t_codeMany : Int32) (t_waiting : Int32) (t_saidMany : Int32) (t_clauses : Int32) (t_newMany : Int32) (t_lines : Int32) (t_stoodNow : Int32) (t_lastSeat : Int32) (t_climbedNow : Int32) (t_isKept : Int32) (t_now : (Nat → Int32)) (x1 : Int32) (x2 : Int32) (x3 : Int32) (res : Int32) (hf : f_X12_fathers t_now x1 x2 x3 = some res) (hP : va_P D vwCl (w_X12_fathers cI cB cZ a_t a_t_now a_t_aside a_t_kept a_t_tape a_t_said a_t_waitsAt a_t_saidLetter a_t_saidFrom a_t_saidHalf a_t_saidTo a_t_codes a_t_clauseOf a_t_codeFrom a_t_codeHalf a_t_codeTo a_t_stack a_t_facts a_t_newLine a_t_canSit a_t_canNext a_t_singersIn a_t_freeAt a_t_beginsAt a_t_leastBy a_t_mostBy a_t_mostNext a_t_risesTo t_taped t_place0 t_length0 t_fault t_number0 t_open t_codeMany t_waiting t_saidMany t_clauses t_newMany t_lines t_stoodNow t_lastSeat t_climbedNow t_isKept t_now) s.heap) (hQ : ∀ (pc : Nat) (ls : Array Slot), True → decode cX12_fathers pc = .ok (.ireturn, 1) → W p l e R s m args below meth c s.heap [] 0 0 Q (F0 m pc ls [.int res])) (ls : Array Slot) (hl : lv_has ls 9 [(0, .ref a_t), (1, .int x1), (2, .int x2), (3, .int x3)]) : W p l e R s m args below meth c s.heap [] 0 0 Q (F0 m 0 ls []) := by
  unfold f_X12_fathers at hf
  refine lv_iload_n hx hb dX12_fathers_0 rfl (lv_at hl 1 rfl) ?_
  refine lv_iconst (v := 0) hx hb dX12_fathers_1 (by decide) ?_
  refine lv_iconst (v := 1) hx hb dX12_fathers_2 (by decide) ?_
  obtain ⟨z3, e3, hf⟩ := bd_some hf
  refine rS_RO (As := [.int x1, .int 0, .int 1]) (rest := []) ⟨hx, hb, hml, hown, hT⟩ (gdS tb_1283 tb_1284 tb_97 tb_1285) hd_X12_in (c_X12_in l D cI cB cZ x1 0 1 z3 e3) ⟨rfl, rfl⟩ ⟨Nat.le_trans (by decide) hRf, Nat.le_trans (by decide) hRl⟩ ⟨hK, hN⟩ hP [] rfl rfl hl.1 rfl (Nat.le_of_ble_eq_true rfl) ⟨Nat.zero_le _, Nat.zero_le _⟩ dX12_fathers_3 (fun hz_3 => ?_)
  refine lv_if_eq (tgt := 28) hx hb dX12_fathers_6 (by decide) (fun hc_6 => ?_) (fun hc_6 => ?_)
  · have hf := it_pos hc_6 hf
    refine lv_iconst (v := (-1)) hx hb dX12_fathers_28 (by decide) ?_
    obtain rfl := Option.some.inj hf
    exact hQ 29 ls trivial dX12_fathers_29
  · have hf := it_neg hc_6 hf
    refine lv_iload_n hx hb dX12_fathers_9 rfl (lv_at hl 2 rfl) ?_
    refine lv_iconst (v := 0) hx hb dX12_fathers_10 (by decide) ?_
    refine lv_bipush (v := 7) hx hb dX12_fathers_11 (by decide) ?_
    obtain ⟨z13, e13, hf⟩ := bd_some hf
    refine rS_RO (As := [.int x2, .int 0, .int 7]) (rest := []) ⟨hx, hb, hml, hown, hT⟩ (gdS tb_1283 tb_1284 tb_97 tb_1285) hd_X12_in (c_X12_in l D cI cB cZ x2 0 7 z13 e13) ⟨rfl, rfl⟩ ⟨Nat.le_trans (by decide) hRf, Nat.le_trans (by decide) hRl⟩ ⟨hK, hN⟩ hP [] rfl rfl hl.1 rfl (Nat.le_of_ble_eq_true rfl) ⟨Nat.zero_le _, Nat.zero_le _⟩ dX12_fathers_13 (fun hz_13 => ?_)
    refine lv_if_eq (tgt := 28) hx hb dX12_fathers_16 (by decide) (fun hc_16 => ?_) (fun hc_16 => ?_)
    · have hf := it_pos hc_16 hf
      refine lv_iconst (v := (-1)) hx hb dX12_fathers_28 (by decide) ?_
      obtain rfl := Option.some.inj hf
      exact hQ 29 ls trivial dX12_fathers_29
    · have hf := it_neg hc_16 hf
      refine lv_iload_n hx hb dX12_fathers_19 rfl (lv_at hl 3 rfl) ?_
      refine lv_iconst (v := 0) hx hb dX12_fathers_20 (by decide) ?_
      refine lv_iconst (v := 2) hx hb dX12_fathers_21 (by decide) ?_
      obtain ⟨z22, e22, hf⟩ := bd_some hf
      refine rS_RO (As := [.int x3, .int 0, .int 2]) (rest := []) ⟨hx, hb, hml, hown, hT⟩ (gdS tb_1283 tb_1284 tb_97 tb_1285) hd_X12_in (c_X12_in l D cI cB cZ x3 0 2 z22 e22) ⟨rfl, rfl⟩ ⟨Nat.le_trans (by decide) hRf, Nat.le_trans (by decide) hRl⟩ ⟨hK, hN⟩ hP [] rfl rfl hl.1 rfl (Nat.le_of_ble_eq_true rfl) ⟨Nat.zero_le _, Nat.zero_le _⟩ dX12_fathers_22 (fun hz_22 => ?_)
      refine lv_if_ne (tgt := 30) hx hb dX12_fathers_25 (by decide) (fun hc_25 => ?_) (fun hc_25 => ?_)
      · have hf := it_neg hc_25 hf
        refine lv_iconst (v := 0) hx hb dX12_fathers_30 (by decide) ?_
        refine lv_istore (lv' := [(4, .int 0), (0, .ref a_t), (1, .int x1), (2, .int x2), (3, .int x3)]) hx hb dX12_fathers_31 hl (by decide) rfl (fun ls hl => ?_)
        refine lv_bipush (v := (-2)) hx hb dX12_fathers_33 (by decide) ?_
        refine lv_istore (lv' := [(5, .int (-2)), (4, .int 0), (0, .ref a_t), (1, .int x1), (2, .int x2), (3, .int x3)]) hx hb dX12_fathers_35 hl (by decide) rfl (fun ls hl => ?_)
        refine lv_bipush (v := (-2)) hx hb dX12_fathers_37 (by decide) ?_
        refine lv_istore (lv' := [(6, .int (-2)), (5, .int (-2)), (4, .int 0), (0, .ref a_t), (1, .int x1), (2, .int x2), (3, .int x3)]) hx hb dX12_fathers_39 hl (by decide) rfl (fun ls hl => ?_)
        refine lv_bipush (v := 72) hx hb dX12_fathers_41 (by decide) ?_
        refine lv_iload_n hx hb dX12_fathers_43 rfl (lv_at hl 4 rfl) ?_
        refine lv_imul hx hb dX12_fathers_44 ?_
        have J_47 : ∀ (n_47 : Nat) (x1 : Int32) (x2 : Int32) (x3 : Int32) (x4 : Int32) (x5 : Int32) (x6 : Int32) (x7 : Int32) (ls : Array Slot), f_X12_fathers_47 t_now n_47 x1 x2 x3 x4 x5 x6 x7 = some res → lv_has ls 9 [(0, .ref a_t), (1, .int x1), (2, .int x2), (3, .int x3), (4, .int x4), (5, .int x5), (6, .int x6), (7, .int x7)] → W p l e R s m args below meth c s.heap [] 0 0 Q (F0 m 47 ls []) := by
          intro n_47
          induction n_47 with
          | zero =>
            intro x1 x2 x3 x4 x5 x6 x7 ls hf hl
            cases hf
          | succ n_47 ih_47 =>
            intro x1 x2 x3 x4 x5 x6 x7 ls hf hl
            unfold f_X12_fathers_47 at hf
            refine lv_iload hx hb dX12_fathers_47 (lv_at hl 7 rfl) ?_
            refine lv_bipush (v := 72) hx hb dX12_fathers_49 (by decide) ?_
            refine lv_iload_n hx hb dX12_fathers_51 rfl (lv_at hl 1 rfl) ?_
            refine lv_imul hx hb dX12_fathers_52 ?_
            refine lv_bipush (v := 72) hx hb dX12_fathers_53 (by decide) ?_
            refine lv_iadd hx hb dX12_fathers_55 ?_
            refine lv_icmp_ge (tgt := 149) hx hb dX12_fathers_56 (by decide) (fun hc_56 => ?_) (fun hc_56 => ?_)
            · have hf := it_pos hc_56 hf
              refine lv_iload_n hx hb dX12_fathers_149 rfl (lv_at hl 3 rfl) ?_
              refine lv_if_ne (tgt := 158) hx hb dX12_fathers_150 (by decide) (fun hc_150 => ?_) (fun hc_150 => ?_)
              · have hf := it_neg hc_150 hf
                refine lv_iload_n hx hb dX12_fathers_158 rfl (lv_at hl 3 rfl) ?_
                refine lv_iconst (v := 1) hx hb dX12_fathers_159 (by decide) ?_
                refine lv_icmp_ne (tgt := 168) hx hb dX12_fathers_160 (by decide) (fun hc_160 => ?_) (fun hc_160 => ?_)
                · have hf := it_neg hc_160 hf
                  refine lv_iload hx hb dX12_fathers_168 (lv_at hl 6 rfl) ?_
                  obtain rfl := Option.some.inj hf
                  exact hQ 170 ls trivial dX12_fathers_170
                · have hf := it_pos hc_160 hf
                  refine lv_iload hx hb dX12_fathers_163 (lv_at hl 5 rfl) ?_
                  refine lv_goto (tgt := 170) hx hb dX12_fathers_165 (by decide) ?_
                  obtain rfl := Option.some.inj hf
                  exact hQ 170 ls trivial dX12_fathers_170
              · have hf := it_pos hc_150 hf
                refine lv_iload hx hb dX12_fathers_153 (lv_at hl 4 rfl) ?_
                refine lv_goto (tgt := 170) hx hb dX12_fathers_155 (by decide) ?_
                obtain rfl := Option.some.inj hf
                exact hQ 170 ls trivial dX12_fathers_170
            · have hf := it_neg hc_56 hf
              refine lv_iload hx hb dX12_fathers_59 (lv_at hl 7 rfl) ?_
              refine lv_iconst (v := 1) hx hb dX12_fathers_61 (by decide) ?_
              refine lv_iadd hx hb dX12_fathers_62 ?_
              have J_65 : ∀ (n_65 : Nat) (x1 : Int32) (x2 : Int32) (x3 : Int32) (x4 : Int32) (x5 : Int32) (x6 : Int32) (x7 : Int32) (x8 : Int32) (ls : Array Slot), f_X12_fathers_65 t_now (f_X12_fathers_47 t_now n_47) n_65 x1 x2 x3 x4 x5 x6 x7 x8 = some res → lv_has ls 9 [(0, .ref a_t), (1, .int x1), (2, .int x2), (3, .int x3), (4, .int x4), (5, .int x5), (6, .int x6), (7, .int x7), (8, .int x8)] → W p l e R s m args below meth c s.heap [] 0 0 Q (F0 m 65 ls []) := by
                intro n_65
                induction n_65 with
                | zero =>
                  intro x1 x2 x3 x4 x5 x6 x7 x8 ls hf hl
                  cases hf
                | succ n_65 ih_65 =>
                  intro x1 x2 x3 x4 x5 x6 x7 x8 ls hf hl
                  unfold f_X12_fathers_65 at hf
                  refine lv_iload hx hb dX12_fathers_65 (lv_at hl 8 rfl) ?_
                  refine lv_bipush (v := 72) hx hb dX12_fathers_67 (by decide) ?_
                  refine lv_iload_n hx hb dX12_fathers_69 rfl (lv_at hl 1 rfl) ?_
                  refine lv_imul hx hb dX12_fathers_70 ?_
                  refine lv_bipush (v := 72) hx hb dX12_fathers_71 (by decide) ?_
                  refine lv_iadd hx hb dX12_fathers_73 ?_
                  refine lv_icmp_ge (tgt := 143) hx hb dX12_fathers_74 (by decide) (fun hc_74 => ?_) (fun hc_74 => ?_)
                  · have hf := it_pos hc_74 hf
                    refine lv_iinc (v := x7 + 1) (lv' := [(7, .int (x7 + 1)), (0, .ref a_t), (1, .int x1), (2, .int x2), (3, .int x3), (4, .int x4), (5, .int x5), (6, .int x6), (8, .int x8)]) hx hb dX12_fathers_143 hl (k := 7) rfl (congrArg (_ + ·) (by decide : Int32.ofInt 1 = 1)) (by decide) rfl (fun ls hl => ?_)
                    refine lv_goto (tgt := 47) hx hb dX12_fathers_146 (by decide) ?_
                    exact ih_47 _ _ _ _ _ _ _ _ hf (lv_sub hl [1, 2, 3, 4, 5, 6, 7, 0] rfl)
                  · have hf := it_neg hc_74 hf
                    refine lv_aload_n hx hb dX12_fathers_77 rfl (lv_at hl 0 rfl) ?_
                    refine lv_iload hx hb dX12_fathers_78 (lv_at hl 7 rfl) ?_
                    obtain ⟨z80, e80, hf⟩ := bd_some hf
                    refine rV_RO (As := [.int x7]) (rest := []) ⟨hx, hb, hml, hown, hT⟩ (gdV tb_1404 tb_1406 tb_56 tb_97 tb_1407) hd_X12_isTaken (c_X12_isTaken l D cI cB cZ a_t a_t_now a_t_aside a_t_kept a_t_tape a_t_said a_t_waitsAt a_t_saidLetter a_t_saidFrom a_t_saidHalf a_t_saidTo a_t_codes a_t_clauseOf a_t_codeFrom a_t_codeHalf a_t_codeTo a_t_stack a_t_facts a_t_newLine a_t_canSit a_t_canNext a_t_singersIn a_t_freeAt a_t_beginsAt a_t_leastBy a_t_mostBy a_t_mostNext a_t_risesTo t_taped t_place0 t_length0 t_fault t_number0 t_open t_codeMany t_waiting t_saidMany t_clauses t_newMany t_lines t_stoodNow t_lastSeat t_climbedNow t_isKept t_now x7 z80 e80) ⟨rfl, rfl⟩ ⟨Nat.le_trans (by decide) hRf, Nat.le_trans (by decide) hRl⟩ ⟨hK, hN⟩ hP [0, 1] rfl 0 rfl rfl rfl hl.1 rfl (Nat.le_of_ble_eq_true rfl) ⟨Nat.zero_le _, Nat.zero_le _⟩ dX12_fathers_80 (fun hz_80 => ?_)
                    refine lv_if_ne (tgt := 137) hx hb dX12_fathers_83 (by decide) (fun hc_83 => ?_) (fun hc_83 => ?_)
                    · have hf := it_neg hc_83 hf
                      refine lv_iinc (v := x8 + 1) (lv' := [(8, .int (x8 + 1)), (0, .ref a_t), (1, .int x1), (2, .int x2), (3, .int x3), (4, .int x4), (5, .int x5), (6, .int x6), (7, .int x7)]) hx hb dX12_fathers_137 hl (k := 8) rfl (congrArg (_ + ·) (by decide : Int32.ofInt 1 = 1)) (by decide) rfl (fun ls hl => ?_)
                      refine lv_goto (tgt := 65) hx hb dX12_fathers_140 (by decide) ?_
                      exact ih_65 _ _ _ _ _ _ _ _ _ hf (lv_sub hl [1, 2, 3, 4, 5, 6, 7, 8, 0] rfl)
                    · have hf := it_pos hc_83 hf
                      refine lv_aload_n hx hb dX12_fathers_86 rfl (lv_at hl 0 rfl) ?_
                      refine lv_iload hx hb dX12_fathers_87 (lv_at hl 8 rfl) ?_
                      obtain ⟨z89, e89, hf⟩ := bd_some hf
                      refine rV_RO (As := [.int x8]) (rest := []) ⟨hx, hb, hml, hown, hT⟩ (gdV tb_1404 tb_1406 tb_56 tb_97 tb_1407) hd_X12_isTaken (c_X12_isTaken l D cI cB cZ a_t a_t_now a_t_aside a_t_kept a_t_tape a_t_said a_t_waitsAt a_t_saidLetter a_t_saidFrom a_t_saidHalf a_t_saidTo a_t_codes a_t_clauseOf a_t_codeFrom a_t_codeHalf a_t_codeTo a_t_stack a_t_facts a_t_newLine a_t_canSit a_t_canNext a_t_singersIn a_t_freeAt a_t_beginsAt a_t_leastBy a_t_mostBy a_t_mostNext a_t_risesTo t_taped t_place0 t_length0 t_fault t_number0 t_open t_codeMany t_waiting t_saidMany t_clauses t_newMany t_lines t_stoodNow t_lastSeat t_climbedNow t_isKept t_now x8 z89 e89) ⟨rfl, rfl⟩ ⟨Nat.le_trans (by decide) hRf, Nat.le_trans (by decide) hRl⟩ ⟨hK, hN⟩ hP [0, 1] rfl 0 rfl rfl rfl hl.1 rfl (Nat.le_of_ble_eq_true rfl) ⟨Nat.zero_le _, Nat.zero_le _⟩ dX12_fathers_89 (fun hz_89 => ?_)
                      refine lv_if_ne (tgt := 137) hx hb dX12_fathers_92 (by decide) (fun hc_92 => ?_) (fun hc_92 => ?_)
                      · have hf := it_neg hc_92 hf
                        refine lv_iinc (v := x8 + 1) (lv' := [(8, .int (x8 + 1)), (0, .ref a_t), (1, .int x1), (2, .int x2), (3, .int x3), (4, .int x4), (5, .int x5), (6, .int x6), (7, .int x7)]) hx hb dX12_fathers_137 hl (k := 8) rfl (congrArg (_ + ·) (by decide : Int32.ofInt 1 = 1)) (by decide) rfl (fun ls hl => ?_)
                        refine lv_goto (tgt := 65) hx hb dX12_fathers_140 (by decide) ?_
                        exact ih_65 _ _ _ _ _ _ _ _ _ hf (lv_sub hl [1, 2, 3, 4, 5, 6, 7, 8, 0] rfl)
                      · have hf := it_pos hc_92 hf
                        refine lv_iload hx hb dX12_fathers_95 (lv_at hl 8 rfl) ?_
                        refine lv_bipush (v := 9) hx hb dX12_fathers_97 (by decide) ?_
                        refine lv_idiv hx hb dX12_fathers_99 (by decide) ?_
                        refine lv_iload hx hb dX12_fathers_100 (lv_at hl 7 rfl) ?_
                        refine lv_bipush (v := 9) hx hb dX12_fathers_102 (by decide) ?_
                        refine lv_idiv hx hb dX12_fathers_104 (by decide) ?_
                        refine lv_isub hx hb dX12_fathers_105 ?_
                        refine lv_iload_n hx hb dX12_fathers_106 rfl (lv_at hl 2 rfl) ?_
                        refine lv_icmp_ge (tgt := 113) hx hb dX12_fathers_107 (by decide) (fun hc_107 => ?_) (fun hc_107 => ?_)
                        · have hf := it_pos hc_107 hf
                          refine lv_iload hx hb dX12_fathers_113 (lv_at hl 4 rfl) ?_
                          refine lv_iconst (v := 1) hx hb dX12_fathers_115 (by decide) ?_
                          refine lv_iadd hx hb dX12_fathers_116 ?_
                          refine lv_istore (lv' := [(4, .int (x4 + 1)), (0, .ref a_t), (1, .int x1), (2, .int x2), (3, .int x3), (5, .int x5), (6, .int x6), (7, .int x7), (8, .int x8)]) hx hb dX12_fathers_117 hl (by decide) rfl (fun ls hl => ?_)
                          refine lv_iload hx hb dX12_fathers_119 (lv_at hl 5 rfl) ?_
                          refine lv_bipush (v := (-2)) hx hb dX12_fathers_121 (by decide) ?_
                          refine lv_icmp_eq (tgt := 129) hx hb dX12_fathers_123 (by decide) (fun hc_123 => ?_) (fun hc_123 => ?_)
                          · have hf := it_pos hc_123 hf
                            refine lv_iload hx hb dX12_fathers_129 (lv_at hl 7 rfl) ?_
                            refine lv_istore (lv' := [(5, .int x7), (4, .int (x4 + 1)), (0, .ref a_t), (1, .int x1), (2, .int x2), (3, .int x3), (6, .int x6), (7, .int x7), (8, .int x8)]) hx hb dX12_fathers_131 hl (by decide) rfl (fun ls hl => ?_)
                            refine lv_iload hx hb dX12_fathers_133 (lv_at hl 8 rfl) ?_
                            refine lv_istore (lv' := [(6, .int x8), (5, .int x7), (4, .int (x4 + 1)), (0, .ref a_t), (1, .int x1), (2, .int x2), (3, .int x3), (7, .int x7), (8, .int x8)]) hx hb dX12_fathers_135 hl (by decide) rfl (fun ls hl => ?_)
                            refine lv_iinc (v := x8 + 1) (lv' := [(8, .int (x8 + 1)), (6, .int x8), (5, .int x7), (4, .int (x4 + 1)), (0, .ref a_t), (1, .int x1), (2, .int x2), (3, .int x3), (7, .int x7)]) hx hb dX12_fathers_137 hl (k := 8) rfl (congrArg (_ + ·) (by decide : Int32.ofInt 1 = 1)) (by decide) rfl (fun ls hl => ?_)
                            refine lv_goto (tgt := 65) hx hb dX12_fathers_140 (by decide) ?_
                            exact ih_65 _ _ _ _ _ _ _ _ _ hf (lv_sub hl [4, 5, 6, 7, 3, 2, 1, 8, 0] rfl)
                          · have hf := it_neg hc_123 hf
                            refine lv_goto (tgt := 137) hx hb dX12_fathers_126 (by decide) ?_
                            refine lv_iinc (v := x8 + 1) (lv' := [(8, .int (x8 + 1)), (4, .int (x4 + 1)), (0, .ref a_t), (1, .int x1), (2, .int x2), (3, .int x3), (5, .int x5), (6, .int x6), (7, .int x7)]) hx hb dX12_fathers_137 hl (k := 8) rfl (congrArg (_ + ·) (by decide : Int32.ofInt 1 = 1)) (by decide) rfl (fun ls hl => ?_)
                            refine lv_goto (tgt := 65) hx hb dX12_fathers_140 (by decide) ?_
                            exact ih_65 _ _ _ _ _ _ _ _ _ hf (lv_sub hl [2, 3, 4, 5, 1, 6, 7, 8, 0] rfl)
                        · have hf := it_neg hc_107 hf
                          refine lv_goto (tgt := 137) hx hb dX12_fathers_110 (by decide) ?_
                          refine lv_iinc (v := x8 + 1) (lv' := [(8, .int (x8 + 1)), (0, .ref a_t), (1, .int x1), (2, .int x2), (3, .int x3), (4, .int x4), (5, .int x5), (6, .int x6), (7, .int x7)]) hx hb dX12_fathers_137 hl (k := 8) rfl (congrArg (_ + ·) (by decide : Int32.ofInt 1 = 1)) (by decide) rfl (fun ls hl => ?_)
                          refine lv_goto (tgt := 65) hx hb dX12_fathers_140 (by decide) ?_
                          exact ih_65 _ _ _ _ _ _ _ _ _ hf (lv_sub hl [1, 2, 3, 4, 5, 6, 7, 8, 0] rfl)
              refine lv_istore (lv' := [(8, .int (x7 + 1)), (0, .ref a_t), (1, .int x1), (2, .int x2), (3, .int x3), (4, .int x4), (5, .int x5), (6, .int x6), (7, .int x7)]) hx hb dX12_fathers_63 hl (by decide) rfl (fun ls hl => ?_)
              exact J_65 _ _ _ _ _ _ _ _ _ _ hf (lv_sub hl [1, 2, 3, 4, 5, 6, 7, 8, 0] rfl)
        refine lv_istore (lv' := [(7, .int (72 * x1)), (6, .int (-2)), (5, .int (-2)), (4, .int 0), (0, .ref a_t), (1, .int x1), (2, .int x2), (3, .int x3)]) hx hb dX12_fathers_45 hl (by decide) rfl (fun ls hl => ?_)
        exact J_47 _ _ _ _ _ _ _ _ _ hf (lv_sub hl [4, 5, 6, 7, 3, 2, 1, 0] rfl)
      · have hf := it_pos hc_25 hf
        refine lv_iconst (v := (-1)) hx hb dX12_fathers_28 (by decide) ?_
        obtain rfl := Option.some.inj hf
        exact hQ 29 ls trivial dX12_fathers_29
theorem hd_X12_fathers : (yX12_fathers).cls = RX12 ∧ (yX12_fathers).cls ≠ "java/lang/invoke/MethodHandle" ∧ (yX12_fathers).cls ≠ "java/lang/invoke/VarHandle" ∧ (parseMethodDescriptor (yX12_fathers).desc).map (fun d => d.parameters.length) = some 3 := by decide +kernel
theorem c_X12_fathers (l : Launch) (D : va_G) (cI cB cZ : ClassId) (a_t : Nat) (a_t_now : Nat) (a_t_aside : Nat) (a_t_kept : Nat) (a_t_tape : Nat) (a_t_said : Nat) (a_t_waitsAt : Nat) (a_t_saidLetter : Nat) (a_t_saidFrom : Nat) (a_t_saidHalf : Nat) (a_t_saidTo : Nat) (a_t_codes : Nat) (a_t_clauseOf : Nat) (a_t_codeFrom : Nat) (a_t_codeHalf : Nat) (a_t_codeTo : Nat) (a_t_stack : Nat) (a_t_facts : Nat) (a_t_newLine : Nat) (a_t_canSit : Nat) (a_t_canNext : Nat) (a_t_singersIn : Nat) (a_t_freeAt : Nat) (a_t_beginsAt : Nat) (a_t_leastBy : Nat) (a_t_mostBy : Nat) (a_t_mostNext : Nat) (a_t_risesTo : Nat) (t_taped : Int32) (t_place0 : Int32) (t_length0 : Int32) (t_fault : Int32) (t_number0 : Int32) (t_open : Int32) (t_codeMany : Int32) (t_waiting : Int32) (t_saidMany : Int32) (t_clauses : Int32) (t_newMany : Int32) (t_lines : Int32) (t_stoodNow : Int32) (t_lastSeat : Int32) (t_climbedNow : Int32) (t_isKept : Int32) (t_now : (Nat → Int32)) (x1 : Int32) (x2 : Int32) (x3 : Int32) (res : Int32) (hf : f_X12_fathers t_now x1 x2 x3 = some res) : Met l yX12_fathers (.code yX12_fathers cX12_fathers 9 (some .int) :: TB) (rmk (1) (22)) (pRO [.ref a_t, .int x1, .int x2, .int x3] D cI cB cZ (w_X12_fathers cI cB cZ a_t a_t_now a_t_aside a_t_kept a_t_tape a_t_said a_t_waitsAt a_t_saidLetter a_t_saidFrom a_t_saidHalf a_t_saidTo a_t_codes a_t_clauseOf a_t_codeFrom a_t_codeHalf a_t_codeTo a_t_stack a_t_facts a_t_newLine a_t_canSit a_t_canNext a_t_singersIn a_t_freeAt a_t_beginsAt a_t_leastBy a_t_mostBy a_t_mostNext a_t_risesTo t_taped t_place0 t_length0 t_fault t_number0 t_open t_codeMany t_waiting t_saidMany t_clauses t_newMany t_lines t_stoodNow t_lastSeat t_climbedNow t_isKept t_now)) (qRO (some (.int res)) True) 0 0 (fun _ => False) :=
  mkRO (by decide +kernel) (Nat.le_of_ble_eq_true rfl) (fun p e s m below meth c ls S hr hlk hK hP hl => b_X12_fathers S.1 S.2.1 S.2.2.1 S.2.2.2.1 S.2.2.2.2 (Nat.le_refl _) (Nat.le_refl _) hK.1 hK.2 a_t a_t_now a_t_aside a_t_kept a_t_tape a_t_said a_t_waitsAt a_t_saidLetter a_t_saidFrom a_t_saidHalf a_t_saidTo a_t_codes a_t_clauseOf a_t_codeFrom a_t_codeHalf a_t_codeTo a_t_stack a_t_facts a_t_newLine a_t_canSit a_t_canNext a_t_singersIn a_t_freeAt a_t_beginsAt a_t_leastBy a_t_mostBy a_t_mostNext a_t_risesTo t_taped t_place0 t_length0 t_fault t_number0 t_open t_codeMany t_waiting t_saidMany t_clauses t_newMany t_lines t_stoodNow t_lastSeat t_climbedNow t_isKept t_now x1 x2 x3 res hf hP (fun pc ls hE hd => eRO_i S.1 S.2.1 hr rfl hlk hE hd) ls hl)
def f_X12_singers_168 (t_now : (Nat → Int32)) : Nat → Int32 → Int32 → Int32 → (Nat → Int32) → Option (Int32 × (Nat → Int32))
  | 0, _, _, _, _ => none
  | n + 1, x3, x5, x6, t_singersIn => (if 8 ≤ x6 then some (x5, t_singersIn) else (f_X12_size (x6 - x3)).bind (fun z181 => ix 8 x6 ((f_X12_singers_168 t_now n) x3 (x5 + (z181 * (t_singersIn x6.toNatClampNeg))) (x6 + 1) t_singersIn)))
def f_X12_singers_127 (t_now : (Nat → Int32)) : Nat → Int32 → Int32 → Int32 → Int32 → (Nat → Int32) → Option (Int32 × (Nat → Int32))
  | 0, _, _, _, _, _ => none
  | n + 1, x1, x2, x3, x4, t_singersIn => (if ((x2 + 1) / 2) ≤ x4 then (if x1 = 1 then some (x3, t_singersIn) else f_X12_singers_168 t_now FU x3 0 0 t_singersIn) else ix 8 (x3 + 1) ((f_X12_singers_127 t_now n) x1 x2 (x3 + 1) (x4 + (t_singersIn (x3 + 1).toNatClampNeg)) t_singersIn))
def f_X12_singers_36 (t_now : (Nat → Int32)) : Nat → Int32 → Int32 → Int32 → (Nat → Int32) → Option (Int32 × (Nat → Int32))
  | 0, _, _, _, _ => none
  | n + 1, x1, x2, x3, t_singersIn => (if 144 ≤ x3 then (if x1 = 0 then some (x2, t_singersIn) else (if x2 = 0 then some ((-2), t_singersIn) else ix 8 0 (f_X12_singers_127 t_now FU x1 x2 0 (t_singersIn (0 : Int32).toNatClampNeg) t_singersIn))) else (f_X12_isTaken t_now x3).bind (fun z45 => (if z45 = 0 then (f_X12_singers_36 t_now n) x1 x2 (x3 + 1) t_singersIn else ix 637 (0 + x3) ((f_X12_singerOf (t_now (0 + x3).toNatClampNeg)).bind (fun z59 => (if z59 = 0 then (f_X12_singers_36 t_now n) x1 x2 (x3 + 1) t_singersIn else ix 8 ((jrem x3 72) / 9) (ix 8 ((jrem x3 72) / 9) ((f_X12_singers_36 t_now n) x1 (x2 + 1) (x3 + 1) (upd t_singersIn ((jrem x3 72) / 9).toNatClampNeg ((t_singersIn ((jrem x3 72) / 9).toNatClampNeg) + 1))))))))))
def f_X12_singers_15 (t_now : (Nat → Int32)) : Nat → Int32 → Int32 → Int32 → (Nat → Int32) → Option (Int32 × (Nat → Int32))
  | 0, _, _, _, _ => none
  | n + 1, x1, x2, x3, t_singersIn => (if 8 ≤ x3 then f_X12_singers_36 t_now FU x1 x2 0 t_singersIn else ix 8 x3 ((f_X12_singers_15 t_now n) x1 x2 (x3 + 1) (upd t_singersIn x3.toNatClampNeg 0)))
def f_X12_singers (t_now : (Nat → Int32)) (t_singersIn : (Nat → Int32)) (x1 : Int32) : Option (Int32 × (Nat → Int32)) := (f_X12_in x1 0 2).bind (fun z3 => (if z3 = 0 then some ((-1), t_singersIn) else f_X12_singers_15 t_now FU x1 0 0 t_singersIn))
def w_X12_singers (cI cB cZ : ClassId) (a_t : Nat) (a_t_now : Nat) (a_t_singersIn : Nat) (a_t_aside : Nat) (a_t_kept : Nat) (a_t_tape : Nat) (a_t_said : Nat) (a_t_waitsAt : Nat) (a_t_saidLetter : Nat) (a_t_saidFrom : Nat) (a_t_saidHalf : Nat) (a_t_saidTo : Nat) (a_t_codes : Nat) (a_t_clauseOf : Nat) (a_t_codeFrom : Nat) (a_t_codeHalf : Nat) (a_t_codeTo : Nat) (a_t_stack : Nat) (a_t_facts : Nat) (a_t_newLine : Nat) (a_t_canSit : Nat) (a_t_canNext : Nat) (a_t_freeAt : Nat) (a_t_beginsAt : Nat) (a_t_leastBy : Nat) (a_t_mostBy : Nat) (a_t_mostNext : Nat) (a_t_risesTo : Nat) (t_taped : Int32) (t_place0 : Int32) (t_length0 : Int32) (t_fault : Int32) (t_number0 : Int32) (t_open : Int32) (t_codeMany : Int32) (t_waiting : Int32) (t_saidMany : Int32) (t_clauses : Int32) (t_newMany : Int32) (t_lines : Int32) (t_stoodNow : Int32) (t_lastSeat : Int32) (t_climbedNow : Int32) (t_isKept : Int32) (t_now : (Nat → Int32)) (t_singersIn : (Nat → Int32)) : va_W := [(a_t, .inr (11, [.ref a_t_now, .ref a_t_aside, .ref a_t_kept, .ref a_t_tape, .int t_taped, .int t_place0, .int t_length0, .int t_fault, .int t_number0, .int t_open, .int t_codeMany, .int t_waiting, .int t_saidMany, .int t_clauses, .ref a_t_said, .ref a_t_waitsAt, .ref a_t_saidLetter, .ref a_t_saidFrom, .ref a_t_saidHalf, .ref a_t_saidTo, .ref a_t_codes, .ref a_t_clauseOf, .ref a_t_codeFrom, .ref a_t_codeHalf, .ref a_t_codeTo, .ref a_t_stack, .ref a_t_facts, .ref a_t_newLine, .int t_newMany, .int t_lines, .int t_stoodNow, .int t_lastSeat, .int t_climbedNow, .ref a_t_canSit, .ref a_t_canNext, .ref a_t_singersIn, .ref a_t_freeAt, .ref a_t_beginsAt, .ref a_t_leastBy, .ref a_t_mostBy, .ref a_t_mostNext, .ref a_t_risesTo, .int t_isKept])), (a_t_now, .inl (cI, 637, .inl t_now)), (a_t_singersIn, .inl (cI, 8, .inl t_singersIn))]
set_option maxHeartbeats 4000000 in
set_option maxRecDepth 100000 in
theorem b_X12_singers {p : Program} {l : Launch} {e : Env} {R : Room} {s : State} {m : MethodId} {args : Array Value} {below : List Frame} {meth : Method} {c : Code} {Q : State → Prop} {D : va_G} {cI cB cZ : ClassId} (hx : p.tables.exec = Jvm.exec) (hb : c.code = cX12_singers) (hml : c.maxLocals = 7) (hown : s.vm.findClass RX12 = some m.cls) (hT : ∀ w ∈ TB, w.before args s = true) (hRf : (1) ≤ R.frames) (hRl : (22) ≤ R.locals) (hK : va_K D vwCl (tyL cI cB cZ) s) (hN : NW s) {A : Nat → Prop} (hA : ∀ q : Nat, s.heap.size ≤ q → A q) (H : Heap) (locs : List Loc)  (a_t : Nat) (a_t_now : Nat) (a_t_singersIn : Nat) (a_t_aside : Nat) (a_t_kept : Nat) (a_t_tape : Nat) (a_t_said : Nat) (a_t_waitsAt : Nat) (a_t_saidLetter : Nat) (a_t_saidFrom : Nat) (a_t_saidHalf : Nat) (a_t_saidTo : Nat) (a_t_codes : Nat) (a_t_clauseOf : Nat) (a_t_codeFrom : Nat) (a_t_codeHalf : Nat) (a_t_codeTo : Nat) (a_t_stack : Nat) (a_t_facts : Nat) (a_t_newLine : Nat) (a_t_canSit : Nat) (a_t_canNext : Nat) (a_t_freeAt : Nat) (a_t_beginsAt : Nat) (a_t_leastBy : Nat) (a_t_mostBy : Nat) (a_t_mostNext : Nat) (a_t_risesTo : Nat) (t_taped : Int32) (t_place0 : Int32) (t_length0 : Int32) (t_fault : Int32) (t_number0 : Int32) (t_open : Int32) (t_codeMany : Int32) (t_waiting : Int32) (t_saidMany : Int32) (t_clauses : Int32) (t_newMany : Int32) (t_lines : Int32) (t_stoodNow : Int32) (t_lastSeat : Int32) (t_climbedNow : Int32) (t_isKept : Int32) (t_now : (Nat → Int32)) (t_singersIn : (Nat → Int32)) (x1 : Int32) (res : Int32 × (Nat → Int32)) (hf : f_X12_singers t_now t_singersIn x1 = some res) (hP : va_P D vwCl (w_X12_singers cI cB cZ a_t a_t_now a_t_singersIn a_t_aside a_t_kept a_t_tape a_t_said a_t_waitsAt a_t_saidLetter a_t_saidFrom a_t_saidHalf a_t_saidTo a_t_codes a_t_clauseOf a_t_codeFrom a_t_codeHalf a_t_codeTo a_t_stack a_t_facts a_t_newLine a_t_canSit a_t_canNext a_t_freeAt a_t_beginsAt a_t_leastBy a_t_mostBy a_t_mostNext a_t_risesTo t_taped t_place0 t_length0 t_fault t_number0 t_open t_codeMany t_waiting t_saidMany t_clauses t_newMany t_lines t_stoodNow t_lastSeat t_climbedNow t_isKept t_now t_singersIn) H) (hD : va_D A (w_X12_singers cI cB cZ a_t a_t_now a_t_singersIn a_t_aside a_t_kept a_t_tape a_t_said a_t_waitsAt a_t_saidLetter a_t_saidFrom a_t_saidHalf a_t_saidTo a_t_codes a_t_clauseOf a_t_codeFrom a_t_codeHalf a_t_codeTo a_t_stack a_t_facts a_t_newLine a_t_canSit a_t_canNext a_t_freeAt a_t_beginsAt a_t_leastBy a_t_mostBy a_t_mostNext a_t_risesTo t_taped t_place0 t_length0 t_fault t_number0 t_open t_codeMany t_waiting t_saidMany t_clauses t_newMany t_lines t_stoodNow t_lastSeat t_climbedNow t_isKept t_now t_singersIn)) (hS : va_S A s.heap H locs) (hQ : ∀ (H : Heap) (locs : List Loc) (pc : Nat) (ls : Array Slot), va_P D vwCl (w_X12_singers cI cB cZ a_t a_t_now a_t_singersIn a_t_aside a_t_kept a_t_tape a_t_said a_t_waitsAt a_t_saidLetter a_t_saidFrom a_t_saidHalf a_t_saidTo a_t_codes a_t_clauseOf a_t_codeFrom a_t_codeHalf a_t_codeTo a_t_stack a_t_facts a_t_newLine a_t_canSit a_t_canNext a_t_freeAt a_t_beginsAt a_t_leastBy a_t_mostBy a_t_mostNext a_t_risesTo t_taped t_place0 t_length0 t_fault t_number0 t_open t_codeMany t_waiting t_saidMany t_clauses t_newMany t_lines t_stoodNow t_lastSeat t_climbedNow t_isKept t_now res.2) H → va_D A (w_X12_singers cI cB cZ a_t a_t_now a_t_singersIn a_t_aside a_t_kept a_t_tape a_t_said a_t_waitsAt a_t_saidLetter a_t_saidFrom a_t_saidHalf a_t_saidTo a_t_codes a_t_clauseOf a_t_codeFrom a_t_codeHalf a_t_codeTo a_t_stack a_t_facts a_t_newLine a_t_canSit a_t_canNext a_t_freeAt a_t_beginsAt a_t_leastBy a_t_mostBy a_t_mostNext a_t_risesTo t_taped t_place0 t_length0 t_fault t_number0 t_open t_codeMany t_waiting t_saidMany t_clauses t_newMany t_lines t_stoodNow t_lastSeat t_climbedNow t_isKept t_now res.2) → va_S A s.heap H locs → True → decode cX12_singers pc = .ok (.ireturn, 1) → W p l e R s m args below meth c H locs 0 0 Q (F0 m pc ls [.int res.1])) (ls : Array Slot) (hl : lv_has ls 7 [(0, .ref a_t), (1, .int x1)]) : W p l e R s m args below meth c H locs 0 0 Q (F0 m 0 ls []) := by
  unfold f_X12_singers at hf
  refine lv_iload_n hx hb dX12_singers_0 rfl (lv_at hl 1 rfl) ?_
  refine lv_iconst (v := 0) hx hb dX12_singers_1 (by decide) ?_
  refine lv_iconst (v := 2) hx hb dX12_singers_2 (by decide) ?_
  obtain ⟨z3, e3, hf⟩ := bd_some hf
  refine rS_RO (As := [.int x1, .int 0, .int 2]) (rest := []) ⟨hx, hb, hml, hown, hT⟩ (gdS tb_1283 tb_1284 tb_97 tb_1285) hd_X12_in (c_X12_in l D cI cB cZ x1 0 2 z3 e3) ⟨rfl, rfl⟩ ⟨Nat.le_trans (by decide) hRf, Nat.le_trans (by decide) hRl⟩ ⟨hK, hN⟩ hP [] rfl rfl hl.1 rfl (Nat.le_of_ble_eq_true rfl) ⟨Nat.zero_le _, Nat.zero_le _⟩ dX12_singers_3 (fun hz_3 => ?_)
  refine lv_if_ne (tgt := 11) hx hb dX12_singers_6 (by decide) (fun hc_6 => ?_) (fun hc_6 => ?_)
  · have hf := it_neg hc_6 hf
    refine lv_iconst (v := 0) hx hb dX12_singers_11 (by decide) ?_
    refine lv_istore_n (lv' := [(2, .int 0), (0, .ref a_t), (1, .int x1)]) hx hb dX12_singers_12 rfl hl (by decide) rfl (fun ls hl => ?_)
    refine lv_iconst (v := 0) hx hb dX12_singers_13 (by decide) ?_
    have J_15 : ∀ (n_15 : Nat) (x1 : Int32) (x2 : Int32) (x3 : Int32) (t_singersIn : (Nat → Int32)) (H : Heap) (locs : List Loc) (ls : Array Slot), f_X12_singers_15 t_now n_15 x1 x2 x3 t_singersIn = some res → va_P D vwCl (w_X12_singers cI cB cZ a_t a_t_now a_t_singersIn a_t_aside a_t_kept a_t_tape a_t_said a_t_waitsAt a_t_saidLetter a_t_saidFrom a_t_saidHalf a_t_saidTo a_t_codes a_t_clauseOf a_t_codeFrom a_t_codeHalf a_t_codeTo a_t_stack a_t_facts a_t_newLine a_t_canSit a_t_canNext a_t_freeAt a_t_beginsAt a_t_leastBy a_t_mostBy a_t_mostNext a_t_risesTo t_taped t_place0 t_length0 t_fault t_number0 t_open t_codeMany t_waiting t_saidMany t_clauses t_newMany t_lines t_stoodNow t_lastSeat t_climbedNow t_isKept t_now t_singersIn) H → va_D A (w_X12_singers cI cB cZ a_t a_t_now a_t_singersIn a_t_aside a_t_kept a_t_tape a_t_said a_t_waitsAt a_t_saidLetter a_t_saidFrom a_t_saidHalf a_t_saidTo a_t_codes a_t_clauseOf a_t_codeFrom a_t_codeHalf a_t_codeTo a_t_stack a_t_facts a_t_newLine a_t_canSit a_t_canNext a_t_freeAt a_t_beginsAt a_t_leastBy a_t_mostBy a_t_mostNext a_t_risesTo t_taped t_place0 t_length0 t_fault t_number0 t_open t_codeMany t_waiting t_saidMany t_clauses t_newMany t_lines t_stoodNow t_lastSeat t_climbedNow t_isKept t_now t_singersIn) → va_S A s.heap H locs → lv_has ls 7 [(0, .ref a_t), (1, .int x1), (2, .int x2), (3, .int x3)] → W p l e R s m args below meth c H locs 0 0 Q (F0 m 15 ls []) := by
      intro n_15
      induction n_15 with
      | zero =>
        intro x1 x2 x3 t_singersIn H locs ls hf hP hD hS hl
        cases hf
      | succ n_15 ih_15 =>
        intro x1 x2 x3 t_singersIn H locs ls hf hP hD hS hl
        unfold f_X12_singers_15 at hf
        refine lv_iload_n hx hb dX12_singers_15 rfl (lv_at hl 3 rfl) ?_
        refine lv_bipush (v := 8) hx hb dX12_singers_16 (by decide) ?_
        refine lv_icmp_ge (tgt := 34) hx hb dX12_singers_18 (by decide) (fun hc_18 => ?_) (fun hc_18 => ?_)
        · have hf := it_pos hc_18 hf
          refine lv_iconst (v := 0) hx hb dX12_singers_34 (by decide) ?_
          have J_36 : ∀ (n_36 : Nat) (x1 : Int32) (x2 : Int32) (x3 : Int32) (t_singersIn : (Nat → Int32)) (H : Heap) (locs : List Loc) (ls : Array Slot), f_X12_singers_36 t_now n_36 x1 x2 x3 t_singersIn = some res → va_P D vwCl (w_X12_singers cI cB cZ a_t a_t_now a_t_singersIn a_t_aside a_t_kept a_t_tape a_t_said a_t_waitsAt a_t_saidLetter a_t_saidFrom a_t_saidHalf a_t_saidTo a_t_codes a_t_clauseOf a_t_codeFrom a_t_codeHalf a_t_codeTo a_t_stack a_t_facts a_t_newLine a_t_canSit a_t_canNext a_t_freeAt a_t_beginsAt a_t_leastBy a_t_mostBy a_t_mostNext a_t_risesTo t_taped t_place0 t_length0 t_fault t_number0 t_open t_codeMany t_waiting t_saidMany t_clauses t_newMany t_lines t_stoodNow t_lastSeat t_climbedNow t_isKept t_now t_singersIn) H → va_D A (w_X12_singers cI cB cZ a_t a_t_now a_t_singersIn a_t_aside a_t_kept a_t_tape a_t_said a_t_waitsAt a_t_saidLetter a_t_saidFrom a_t_saidHalf a_t_saidTo a_t_codes a_t_clauseOf a_t_codeFrom a_t_codeHalf a_t_codeTo a_t_stack a_t_facts a_t_newLine a_t_canSit a_t_canNext a_t_freeAt a_t_beginsAt a_t_leastBy a_t_mostBy a_t_mostNext a_t_risesTo t_taped t_place0 t_length0 t_fault t_number0 t_open t_codeMany t_waiting t_saidMany t_clauses t_newMany t_lines t_stoodNow t_lastSeat t_climbedNow t_isKept t_now t_singersIn) → va_S A s.heap H locs → lv_has ls 7 [(0, .ref a_t), (1, .int x1), (2, .int x2), (3, .int x3)] → W p l e R s m args below meth c H locs 0 0 Q (F0 m 36 ls []) := by
            intro n_36
            induction n_36 with
            | zero =>
              intro x1 x2 x3 t_singersIn H locs ls hf hP hD hS hl
              cases hf
            | succ n_36 ih_36 =>
              intro x1 x2 x3 t_singersIn H locs ls hf hP hD hS hl
              unfold f_X12_singers_36 at hf
              refine lv_iload_n hx hb dX12_singers_36 rfl (lv_at hl 3 rfl) ?_
              refine lv_sipush (v := 144) hx hb dX12_singers_37 (by decide) ?_
              refine lv_icmp_ge (tgt := 104) hx hb dX12_singers_40 (by decide) (fun hc_40 => ?_) (fun hc_40 => ?_)
              · have hf := it_pos hc_40 hf
                refine lv_iload_n hx hb dX12_singers_104 rfl (lv_at hl 1 rfl) ?_
                refine lv_if_ne (tgt := 110) hx hb dX12_singers_105 (by decide) (fun hc_105 => ?_) (fun hc_105 => ?_)
                · have hf := it_neg hc_105 hf
                  refine lv_iload_n hx hb dX12_singers_110 rfl (lv_at hl 2 rfl) ?_
                  refine lv_if_ne (tgt := 117) hx hb dX12_singers_111 (by decide) (fun hc_111 => ?_) (fun hc_111 => ?_)
                  · have hf := it_neg hc_111 hf
                    refine lv_iconst (v := 0) hx hb dX12_singers_117 (by decide) ?_
                    refine lv_istore_n (lv' := [(3, .int 0), (0, .ref a_t), (1, .int x1), (2, .int x2)]) hx hb dX12_singers_118 rfl hl (by decide) rfl (fun ls hl => ?_)
                    refine lv_aload_n hx hb dX12_singers_119 rfl (lv_at hl 1 rfl) ?_
                    refine va_get (D := D) (ci := 11) (v := .ref a_t_singersIn) (C := RX12) (T := TX12) (N := 43) hx hb hT inX12 hown hK hP 0 rfl rfl 35 (by decide) (hT _ tb_1183) (fun _ h9 => h9) rfl dX12_singers_120 ?_
                    refine lv_iconst (v := 0) hx hb dX12_singers_123 (by decide) ?_
                    obtain ⟨hi_124, hf⟩ := ix_some hf
                    refine va_iald hx hb hK hP 2 0 rfl rfl hi_124 dX12_singers_124 ?_
                    have J_127 : ∀ (n_127 : Nat) (x1 : Int32) (x2 : Int32) (x3 : Int32) (x4 : Int32) (t_singersIn : (Nat → Int32)) (H : Heap) (locs : List Loc) (ls : Array Slot), f_X12_singers_127 t_now n_127 x1 x2 x3 x4 t_singersIn = some res → va_P D vwCl (w_X12_singers cI cB cZ a_t a_t_now a_t_singersIn a_t_aside a_t_kept a_t_tape a_t_said a_t_waitsAt a_t_saidLetter a_t_saidFrom a_t_saidHalf a_t_saidTo a_t_codes a_t_clauseOf a_t_codeFrom a_t_codeHalf a_t_codeTo a_t_stack a_t_facts a_t_newLine a_t_canSit a_t_canNext a_t_freeAt a_t_beginsAt a_t_leastBy a_t_mostBy a_t_mostNext a_t_risesTo t_taped t_place0 t_length0 t_fault t_number0 t_open t_codeMany t_waiting t_saidMany t_clauses t_newMany t_lines t_stoodNow t_lastSeat t_climbedNow t_isKept t_now t_singersIn) H → va_D A (w_X12_singers cI cB cZ a_t a_t_now a_t_singersIn a_t_aside a_t_kept a_t_tape a_t_said a_t_waitsAt a_t_saidLetter a_t_saidFrom a_t_saidHalf a_t_saidTo a_t_codes a_t_clauseOf a_t_codeFrom a_t_codeHalf a_t_codeTo a_t_stack a_t_facts a_t_newLine a_t_canSit a_t_canNext a_t_freeAt a_t_beginsAt a_t_leastBy a_t_mostBy a_t_mostNext a_t_risesTo t_taped t_place0 t_length0 t_fault t_number0 t_open t_codeMany t_waiting t_saidMany t_clauses t_newMany t_lines t_stoodNow t_lastSeat t_climbedNow t_isKept t_now t_singersIn) → va_S A s.heap H locs → lv_has ls 7 [(0, .ref a_t), (1, .int x1), (2, .int x2), (3, .int x3), (4, .int x4)] → W p l e R s m args below meth c H locs 0 0 Q (F0 m 127 ls []) := by
                      intro n_127
                      induction n_127 with
                      | zero =>
                        intro x1 x2 x3 x4 t_singersIn H locs ls hf hP hD hS hl
                        cases hf
                      | succ n_127 ih_127 =>
                        intro x1 x2 x3 x4 t_singersIn H locs ls hf hP hD hS hl
                        unfold f_X12_singers_127 at hf
                        refine lv_iload hx hb dX12_singers_127 (lv_at hl 4 rfl) ?_
                        refine lv_iload_n hx hb dX12_singers_129 rfl (lv_at hl 2 rfl) ?_
                        refine lv_iconst (v := 1) hx hb dX12_singers_130 (by decide) ?_
                        refine lv_iadd hx hb dX12_singers_131 ?_
                        refine lv_iconst (v := 2) hx hb dX12_singers_132 (by decide) ?_
                        refine lv_idiv hx hb dX12_singers_133 (by decide) ?_
                        refine lv_icmp_ge (tgt := 155) hx hb dX12_singers_134 (by decide) (fun hc_134 => ?_) (fun hc_134 => ?_)
                        · have hf := it_pos hc_134 hf
                          refine lv_iload_n hx hb dX12_singers_155 rfl (lv_at hl 1 rfl) ?_
                          refine lv_iconst (v := 1) hx hb dX12_singers_156 (by decide) ?_
                          refine lv_icmp_ne (tgt := 162) hx hb dX12_singers_157 (by decide) (fun hc_157 => ?_) (fun hc_157 => ?_)
                          · have hf := it_neg hc_157 hf
                            refine lv_iconst (v := 0) hx hb dX12_singers_162 (by decide) ?_
                            refine lv_istore (lv' := [(5, .int 0), (0, .ref a_t), (1, .int x1), (2, .int x2), (3, .int x3), (4, .int x4)]) hx hb dX12_singers_163 hl (by decide) rfl (fun ls hl => ?_)
                            refine lv_iconst (v := 0) hx hb dX12_singers_165 (by decide) ?_
                            have J_168 : ∀ (n_168 : Nat) (x3 : Int32) (x5 : Int32) (x6 : Int32) (t_singersIn : (Nat → Int32)) (H : Heap) (locs : List Loc) (ls : Array Slot), f_X12_singers_168 t_now n_168 x3 x5 x6 t_singersIn = some res → va_P D vwCl (w_X12_singers cI cB cZ a_t a_t_now a_t_singersIn a_t_aside a_t_kept a_t_tape a_t_said a_t_waitsAt a_t_saidLetter a_t_saidFrom a_t_saidHalf a_t_saidTo a_t_codes a_t_clauseOf a_t_codeFrom a_t_codeHalf a_t_codeTo a_t_stack a_t_facts a_t_newLine a_t_canSit a_t_canNext a_t_freeAt a_t_beginsAt a_t_leastBy a_t_mostBy a_t_mostNext a_t_risesTo t_taped t_place0 t_length0 t_fault t_number0 t_open t_codeMany t_waiting t_saidMany t_clauses t_newMany t_lines t_stoodNow t_lastSeat t_climbedNow t_isKept t_now t_singersIn) H → va_D A (w_X12_singers cI cB cZ a_t a_t_now a_t_singersIn a_t_aside a_t_kept a_t_tape a_t_said a_t_waitsAt a_t_saidLetter a_t_saidFrom a_t_saidHalf a_t_saidTo a_t_codes a_t_clauseOf a_t_codeFrom a_t_codeHalf a_t_codeTo a_t_stack a_t_facts a_t_newLine a_t_canSit a_t_canNext a_t_freeAt a_t_beginsAt a_t_leastBy a_t_mostBy a_t_mostNext a_t_risesTo t_taped t_place0 t_length0 t_fault t_number0 t_open t_codeMany t_waiting t_saidMany t_clauses t_newMany t_lines t_stoodNow t_lastSeat t_climbedNow t_isKept t_now t_singersIn) → va_S A s.heap H locs → lv_has ls 7 [(0, .ref a_t), (3, .int x3), (5, .int x5), (6, .int x6)] → W p l e R s m args below meth c H locs 0 0 Q (F0 m 168 ls []) := by
                              intro n_168
                              induction n_168 with
                              | zero =>
                                intro x3 x5 x6 t_singersIn H locs ls hf hP hD hS hl
                                cases hf
                              | succ n_168 ih_168 =>
                                intro x3 x5 x6 t_singersIn H locs ls hf hP hD hS hl
                                unfold f_X12_singers_168 at hf
                                refine lv_iload hx hb dX12_singers_168 (lv_at hl 3 rfl) ?_
                                refine lv_bipush (v := 8) hx hb dX12_singers_170 (by decide) ?_
                                refine lv_icmp_ge (tgt := 201) hx hb dX12_singers_172 (by decide) (fun hc_172 => ?_) (fun hc_172 => ?_)
                                · have hf := it_pos hc_172 hf
                                  refine lv_iload hx hb dX12_singers_201 (lv_at hl 2 rfl) ?_
                                  obtain rfl := Option.some.inj hf
                                  exact hQ H locs 203 ls hP hD hS trivial dX12_singers_203
                                · have hf := it_neg hc_172 hf
                                  refine lv_iload hx hb dX12_singers_175 (lv_at hl 2 rfl) ?_
                                  refine lv_iload hx hb dX12_singers_177 (lv_at hl 3 rfl) ?_
                                  refine lv_iload_n hx hb dX12_singers_179 rfl (lv_at hl 1 rfl) ?_
                                  refine lv_isub hx hb dX12_singers_180 ?_
                                  obtain ⟨z181, e181, hf⟩ := bd_some hf
                                  refine rS_RO (As := [.int (x6 - x3)]) (rest := [.int x5]) ⟨hx, hb, hml, hown, hT⟩ (gdS tb_1570 tb_1571 tb_97 tb_1572) hd_X12_size (c_X12_size l D cI cB cZ (x6 - x3) z181 e181) ⟨rfl, rfl⟩ ⟨Nat.le_trans (by decide) hRf, Nat.le_trans (by decide) hRl⟩ ⟨hK, hN⟩ hP [] rfl rfl hl.1 rfl (Nat.le_of_ble_eq_true rfl) ⟨Nat.zero_le _, Nat.zero_le _⟩ dX12_singers_181 (fun _ => ?_)
                                  refine lv_aload_n hx hb dX12_singers_184 rfl (lv_at hl 0 rfl) ?_
                                  refine va_get (D := D) (ci := 11) (v := .ref a_t_singersIn) (C := RX12) (T := TX12) (N := 43) hx hb hT inX12 hown hK hP 0 rfl rfl 35 (by decide) (hT _ tb_1183) (fun _ h9 => h9) rfl dX12_singers_185 ?_
                                  refine lv_iload hx hb dX12_singers_188 (lv_at hl 3 rfl) ?_
                                  obtain ⟨hi_190, hf⟩ := ix_some hf
                                  refine va_iald hx hb hK hP 2 0 rfl rfl hi_190 dX12_singers_190 ?_
                                  refine lv_imul hx hb dX12_singers_191 ?_
                                  refine lv_iadd hx hb dX12_singers_192 ?_
                                  refine lv_istore (lv' := [(5, .int (x5 + (z181 * (t_singersIn x6.toNatClampNeg)))), (0, .ref a_t), (3, .int x3), (6, .int x6)]) hx hb dX12_singers_193 hl (by decide) rfl (fun ls hl => ?_)
                                  refine lv_iinc (v := x6 + 1) (lv' := [(6, .int (x6 + 1)), (5, .int (x5 + (z181 * (t_singersIn x6.toNatClampNeg)))), (0, .ref a_t), (3, .int x3)]) hx hb dX12_singers_195 hl (k := 3) rfl (congrArg (_ + ·) (by decide : Int32.ofInt 1 = 1)) (by decide) rfl (fun ls hl => ?_)
                                  refine lv_goto (tgt := 168) hx hb dX12_singers_198 (by decide) ?_
                                  exact ih_168 _ _ _ _ _ _ _ hf hP hD hS (lv_sub hl [2, 3, 1, 0] rfl)
                            refine lv_istore (lv' := [(6, .int 0), (5, .int 0), (0, .ref a_t), (1, .int x1), (2, .int x2), (3, .int x3), (4, .int x4)]) hx hb dX12_singers_166 hl (by decide) rfl (fun ls hl => ?_)
                            exact J_168 _ _ _ _ _ _ _ _ hf hP hD hS (lv_sub hl [2, 5, 1, 0] rfl)
                          · have hf := it_pos hc_157 hf
                            refine lv_iload_n hx hb dX12_singers_160 rfl (lv_at hl 3 rfl) ?_
                            obtain rfl := Option.some.inj hf
                            exact hQ H locs 161 ls hP hD hS trivial dX12_singers_161
                        · have hf := it_neg hc_134 hf
                          refine lv_iload_n hx hb dX12_singers_137 rfl (lv_at hl 3 rfl) ?_
                          refine lv_iconst (v := 1) hx hb dX12_singers_138 (by decide) ?_
                          refine lv_iadd hx hb dX12_singers_139 ?_
                          refine lv_istore_n (lv' := [(3, .int (x3 + 1)), (0, .ref a_t), (1, .int x1), (2, .int x2), (4, .int x4)]) hx hb dX12_singers_140 rfl hl (by decide) rfl (fun ls hl => ?_)
                          refine lv_iload hx hb dX12_singers_141 (lv_at hl 4 rfl) ?_
                          refine lv_aload_n hx hb dX12_singers_143 rfl (lv_at hl 1 rfl) ?_
                          refine va_get (D := D) (ci := 11) (v := .ref a_t_singersIn) (C := RX12) (T := TX12) (N := 43) hx hb hT inX12 hown hK hP 0 rfl rfl 35 (by decide) (hT _ tb_1183) (fun _ h9 => h9) rfl dX12_singers_144 ?_
                          refine lv_iload_n hx hb dX12_singers_147 rfl (lv_at hl 0 rfl) ?_
                          obtain ⟨hi_148, hf⟩ := ix_some hf
                          refine va_iald hx hb hK hP 2 0 rfl rfl hi_148 dX12_singers_148 ?_
                          refine lv_iadd hx hb dX12_singers_149 ?_
                          refine lv_istore (lv' := [(4, .int (x4 + (t_singersIn (x3 + 1).toNatClampNeg))), (3, .int (x3 + 1)), (0, .ref a_t), (1, .int x1), (2, .int x2)]) hx hb dX12_singers_150 hl (by decide) rfl (fun ls hl => ?_)
                          refine lv_goto (tgt := 127) hx hb dX12_singers_152 (by decide) ?_
                          exact ih_127 _ _ _ _ _ _ _ _ hf hP hD hS (lv_sub hl [2, 3, 4, 1, 0] rfl)
                    refine lv_istore (lv' := [(4, .int (t_singersIn (0 : Int32).toNatClampNeg)), (3, .int 0), (0, .ref a_t), (1, .int x1), (2, .int x2)]) hx hb dX12_singers_125 hl (by decide) rfl (fun ls hl => ?_)
                    exact J_127 _ _ _ _ _ _ _ _ _ hf hP hD hS (lv_sub hl [2, 3, 4, 1, 0] rfl)
                  · have hf := it_pos hc_111 hf
                    refine lv_bipush (v := (-2)) hx hb dX12_singers_114 (by decide) ?_
                    obtain rfl := Option.some.inj hf
                    exact hQ H locs 116 ls hP hD hS trivial dX12_singers_116
                · have hf := it_pos hc_105 hf
                  refine lv_iload_n hx hb dX12_singers_108 rfl (lv_at hl 2 rfl) ?_
                  obtain rfl := Option.some.inj hf
                  exact hQ H locs 109 ls hP hD hS trivial dX12_singers_109
              · have hf := it_neg hc_40 hf
                refine lv_aload_n hx hb dX12_singers_43 rfl (lv_at hl 0 rfl) ?_
                refine lv_iload_n hx hb dX12_singers_44 rfl (lv_at hl 3 rfl) ?_
                obtain ⟨z45, e45, hf⟩ := bd_some hf
                refine rV_RO (As := [.int x3]) (rest := []) ⟨hx, hb, hml, hown, hT⟩ (gdV tb_1404 tb_1406 tb_56 tb_97 tb_1407) hd_X12_isTaken (c_X12_isTaken l D cI cB cZ a_t a_t_now a_t_aside a_t_kept a_t_tape a_t_said a_t_waitsAt a_t_saidLetter a_t_saidFrom a_t_saidHalf a_t_saidTo a_t_codes a_t_clauseOf a_t_codeFrom a_t_codeHalf a_t_codeTo a_t_stack a_t_facts a_t_newLine a_t_canSit a_t_canNext a_t_singersIn a_t_freeAt a_t_beginsAt a_t_leastBy a_t_mostBy a_t_mostNext a_t_risesTo t_taped t_place0 t_length0 t_fault t_number0 t_open t_codeMany t_waiting t_saidMany t_clauses t_newMany t_lines t_stoodNow t_lastSeat t_climbedNow t_isKept t_now x3 z45 e45) ⟨rfl, rfl⟩ ⟨Nat.le_trans (by decide) hRf, Nat.le_trans (by decide) hRl⟩ ⟨hK, hN⟩ hP [0, 1] rfl 0 rfl rfl rfl hl.1 rfl (Nat.le_of_ble_eq_true rfl) ⟨Nat.zero_le _, Nat.zero_le _⟩ dX12_singers_45 (fun hz_45 => ?_)
                refine lv_if_eq (tgt := 98) hx hb dX12_singers_48 (by decide) (fun hc_48 => ?_) (fun hc_48 => ?_)
                · have hf := it_pos hc_48 hf
                  refine lv_iinc (v := x3 + 1) (lv' := [(3, .int (x3 + 1)), (0, .ref a_t), (1, .int x1), (2, .int x2)]) hx hb dX12_singers_98 hl (k := 3) rfl (congrArg (_ + ·) (by decide : Int32.ofInt 1 = 1)) (by decide) rfl (fun ls hl => ?_)
                  refine lv_goto (tgt := 36) hx hb dX12_singers_101 (by decide) ?_
                  exact ih_36 _ _ _ _ _ _ _ hf hP hD hS (lv_sub hl [1, 2, 3, 0] rfl)
                · have hf := it_neg hc_48 hf
                  refine lv_aload_n hx hb dX12_singers_51 rfl (lv_at hl 0 rfl) ?_
                  refine va_get (D := D) (ci := 11) (v := .ref a_t_now) (C := RX12) (T := TX12) (N := 43) hx hb hT inX12 hown hK hP 0 rfl rfl 0 (by decide) (hT _ tb_1148) (fun _ h9 => h9) rfl dX12_singers_52 ?_
                  refine lv_iconst (v := 0) hx hb dX12_singers_55 (by decide) ?_
                  refine lv_iload_n hx hb dX12_singers_56 rfl (lv_at hl 3 rfl) ?_
                  refine lv_iadd hx hb dX12_singers_57 ?_
                  obtain ⟨hi_58, hf⟩ := ix_some hf
                  refine va_iald hx hb hK hP 1 0 rfl rfl hi_58 dX12_singers_58 ?_
                  obtain ⟨z59, e59, hf⟩ := bd_some hf
                  refine rS_RO (As := [.int (t_now (0 + x3).toNatClampNeg)]) (rest := []) ⟨hx, hb, hml, hown, hT⟩ (gdS tb_1440 tb_1441 tb_97 tb_1442) hd_X12_singerOf (c_X12_singerOf l D cI cB cZ (t_now (0 + x3).toNatClampNeg) z59 e59) ⟨rfl, rfl⟩ ⟨Nat.le_trans (by decide) hRf, Nat.le_trans (by decide) hRl⟩ ⟨hK, hN⟩ hP [] rfl rfl hl.1 rfl (Nat.le_of_ble_eq_true rfl) ⟨Nat.zero_le _, Nat.zero_le _⟩ dX12_singers_59 (fun _ => ?_)
                  refine lv_if_ne (tgt := 68) hx hb dX12_singers_62 (by decide) (fun hc_62 => ?_) (fun hc_62 => ?_)
                  · have hf := it_neg hc_62 hf
                    refine lv_aload_n hx hb dX12_singers_68 rfl (lv_at hl 0 rfl) ?_
                    refine va_get (D := D) (ci := 11) (v := .ref a_t_singersIn) (C := RX12) (T := TX12) (N := 43) hx hb hT inX12 hown hK hP 0 rfl rfl 35 (by decide) (hT _ tb_1183) (fun _ h9 => h9) rfl dX12_singers_69 ?_
                    refine lv_iload_n hx hb dX12_singers_72 rfl (lv_at hl 3 rfl) ?_
                    refine lv_bipush (v := 72) hx hb dX12_singers_73 (by decide) ?_
                    refine lv_irem hx hb dX12_singers_75 (by decide) ?_
                    refine lv_bipush (v := 9) hx hb dX12_singers_76 (by decide) ?_
                    refine lv_idiv hx hb dX12_singers_78 (by decide) ?_
                    refine lv_aload_n hx hb dX12_singers_79 rfl (lv_at hl 0 rfl) ?_
                    refine va_get (D := D) (ci := 11) (v := .ref a_t_singersIn) (C := RX12) (T := TX12) (N := 43) hx hb hT inX12 hown hK hP 0 rfl rfl 35 (by decide) (hT _ tb_1183) (fun _ h9 => h9) rfl dX12_singers_80 ?_
                    refine lv_iload_n hx hb dX12_singers_83 rfl (lv_at hl 3 rfl) ?_
                    refine lv_bipush (v := 72) hx hb dX12_singers_84 (by decide) ?_
                    refine lv_irem hx hb dX12_singers_86 (by decide) ?_
                    refine lv_bipush (v := 9) hx hb dX12_singers_87 (by decide) ?_
                    refine lv_idiv hx hb dX12_singers_89 (by decide) ?_
                    obtain ⟨hi_90, hf⟩ := ix_some hf
                    refine va_iald hx hb hK hP 2 0 rfl rfl hi_90 dX12_singers_90 ?_
                    refine lv_iconst (v := 1) hx hb dX12_singers_91 (by decide) ?_
                    refine lv_iadd hx hb dX12_singers_92 ?_
                    obtain ⟨hi_93, hf⟩ := ix_some hf
                    refine va_iast hx hb hK hP hD hS 2 0 rfl rfl hi_93 dX12_singers_93 (fun H locs hP hD hS => ?_)
                    have hP : va_P D vwCl (w_X12_singers cI cB cZ a_t a_t_now a_t_singersIn a_t_aside a_t_kept a_t_tape a_t_said a_t_waitsAt a_t_saidLetter a_t_saidFrom a_t_saidHalf a_t_saidTo a_t_codes a_t_clauseOf a_t_codeFrom a_t_codeHalf a_t_codeTo a_t_stack a_t_facts a_t_newLine a_t_canSit a_t_canNext a_t_freeAt a_t_beginsAt a_t_leastBy a_t_mostBy a_t_mostNext a_t_risesTo t_taped t_place0 t_length0 t_fault t_number0 t_open t_codeMany t_waiting t_saidMany t_clauses t_newMany t_lines t_stoodNow t_lastSeat t_climbedNow t_isKept t_now (upd t_singersIn ((jrem x3 72) / 9).toNatClampNeg ((t_singersIn ((jrem x3 72) / 9).toNatClampNeg) + 1))) H := hP
                    have hD : va_D A (w_X12_singers cI cB cZ a_t a_t_now a_t_singersIn a_t_aside a_t_kept a_t_tape a_t_said a_t_waitsAt a_t_saidLetter a_t_saidFrom a_t_saidHalf a_t_saidTo a_t_codes a_t_clauseOf a_t_codeFrom a_t_codeHalf a_t_codeTo a_t_stack a_t_facts a_t_newLine a_t_canSit a_t_canNext a_t_freeAt a_t_beginsAt a_t_leastBy a_t_mostBy a_t_mostNext a_t_risesTo t_taped t_place0 t_length0 t_fault t_number0 t_open t_codeMany t_waiting t_saidMany t_clauses t_newMany t_lines t_stoodNow t_lastSeat t_climbedNow t_isKept t_now (upd t_singersIn ((jrem x3 72) / 9).toNatClampNeg ((t_singersIn ((jrem x3 72) / 9).toNatClampNeg) + 1))) := hD
                    refine lv_iload_n hx hb dX12_singers_94 rfl (lv_at hl 2 rfl) ?_
                    refine lv_iconst (v := 1) hx hb dX12_singers_95 (by decide) ?_
                    refine lv_iadd hx hb dX12_singers_96 ?_
                    refine lv_istore_n (lv' := [(2, .int (x2 + 1)), (0, .ref a_t), (1, .int x1), (3, .int x3)]) hx hb dX12_singers_97 rfl hl (by decide) rfl (fun ls hl => ?_)
                    refine lv_iinc (v := x3 + 1) (lv' := [(3, .int (x3 + 1)), (2, .int (x2 + 1)), (0, .ref a_t), (1, .int x1)]) hx hb dX12_singers_98 hl (k := 3) rfl (congrArg (_ + ·) (by decide : Int32.ofInt 1 = 1)) (by decide) rfl (fun ls hl => ?_)
                    refine lv_goto (tgt := 36) hx hb dX12_singers_101 (by decide) ?_
                    exact ih_36 _ _ _ _ _ _ _ hf hP hD hS (lv_sub hl [2, 3, 1, 0] rfl)
                  · have hf := it_pos hc_62 hf
                    refine lv_goto (tgt := 98) hx hb dX12_singers_65 (by decide) ?_
                    refine lv_iinc (v := x3 + 1) (lv' := [(3, .int (x3 + 1)), (0, .ref a_t), (1, .int x1), (2, .int x2)]) hx hb dX12_singers_98 hl (k := 3) rfl (congrArg (_ + ·) (by decide : Int32.ofInt 1 = 1)) (by decide) rfl (fun ls hl => ?_)
                    refine lv_goto (tgt := 36) hx hb dX12_singers_101 (by decide) ?_
                    exact ih_36 _ _ _ _ _ _ _ hf hP hD hS (lv_sub hl [1, 2, 3, 0] rfl)
          refine lv_istore_n (lv' := [(3, .int 0), (0, .ref a_t), (1, .int x1), (2, .int x2)]) hx hb dX12_singers_35 rfl hl (by decide) rfl (fun ls hl => ?_)
          exact J_36 _ _ _ _ _ _ _ _ hf hP hD hS (lv_sub hl [1, 2, 3, 0] rfl)
        · have hf := it_neg hc_18 hf
          refine lv_aload_n hx hb dX12_singers_21 rfl (lv_at hl 0 rfl) ?_
          refine va_get (D := D) (ci := 11) (v := .ref a_t_singersIn) (C := RX12) (T := TX12) (N := 43) hx hb hT inX12 hown hK hP 0 rfl rfl 35 (by decide) (hT _ tb_1183) (fun _ h9 => h9) rfl dX12_singers_22 ?_
          refine lv_iload_n hx hb dX12_singers_25 rfl (lv_at hl 3 rfl) ?_
          refine lv_iconst (v := 0) hx hb dX12_singers_26 (by decide) ?_
          obtain ⟨hi_27, hf⟩ := ix_some hf
          refine va_iast hx hb hK hP hD hS 2 0 rfl rfl hi_27 dX12_singers_27 (fun H locs hP hD hS => ?_)
          have hP : va_P D vwCl (w_X12_singers cI cB cZ a_t a_t_now a_t_singersIn a_t_aside a_t_kept a_t_tape a_t_said a_t_waitsAt a_t_saidLetter a_t_saidFrom a_t_saidHalf a_t_saidTo a_t_codes a_t_clauseOf a_t_codeFrom a_t_codeHalf a_t_codeTo a_t_stack a_t_facts a_t_newLine a_t_canSit a_t_canNext a_t_freeAt a_t_beginsAt a_t_leastBy a_t_mostBy a_t_mostNext a_t_risesTo t_taped t_place0 t_length0 t_fault t_number0 t_open t_codeMany t_waiting t_saidMany t_clauses t_newMany t_lines t_stoodNow t_lastSeat t_climbedNow t_isKept t_now (upd t_singersIn x3.toNatClampNeg 0)) H := hP
          have hD : va_D A (w_X12_singers cI cB cZ a_t a_t_now a_t_singersIn a_t_aside a_t_kept a_t_tape a_t_said a_t_waitsAt a_t_saidLetter a_t_saidFrom a_t_saidHalf a_t_saidTo a_t_codes a_t_clauseOf a_t_codeFrom a_t_codeHalf a_t_codeTo a_t_stack a_t_facts a_t_newLine a_t_canSit a_t_canNext a_t_freeAt a_t_beginsAt a_t_leastBy a_t_mostBy a_t_mostNext a_t_risesTo t_taped t_place0 t_length0 t_fault t_number0 t_open t_codeMany t_waiting t_saidMany t_clauses t_newMany t_lines t_stoodNow t_lastSeat t_climbedNow t_isKept t_now (upd t_singersIn x3.toNatClampNeg 0)) := hD
          refine lv_iinc (v := x3 + 1) (lv' := [(3, .int (x3 + 1)), (0, .ref a_t), (1, .int x1), (2, .int x2)]) hx hb dX12_singers_28 hl (k := 3) rfl (congrArg (_ + ·) (by decide : Int32.ofInt 1 = 1)) (by decide) rfl (fun ls hl => ?_)
          refine lv_goto (tgt := 15) hx hb dX12_singers_31 (by decide) ?_
          exact ih_15 _ _ _ _ _ _ _ hf hP hD hS (lv_sub hl [1, 2, 3, 0] rfl)
    refine lv_istore_n (lv' := [(3, .int 0), (2, .int 0), (0, .ref a_t), (1, .int x1)]) hx hb dX12_singers_14 rfl hl (by decide) rfl (fun ls hl => ?_)
    exact J_15 _ _ _ _ _ _ _ _ hf hP hD hS (lv_sub hl [2, 3, 1, 0] rfl)
  · have hf := it_pos hc_6 hf
    refine lv_iconst (v := (-1)) hx hb dX12_singers_9 (by decide) ?_
    obtain rfl := Option.some.inj hf
    exact hQ H locs 10 ls hP hD hS trivial dX12_singers_10
theorem hd_X12_singers : (yX12_singers).cls = RX12 ∧ (yX12_singers).cls ≠ "java/lang/invoke/MethodHandle" ∧ (yX12_singers).cls ≠ "java/lang/invoke/VarHandle" ∧ (parseMethodDescriptor (yX12_singers).desc).map (fun d => d.parameters.length) = some 1 := by decide +kernel
theorem c_X12_singers (l : Launch) (D : va_G) (cI cB cZ : ClassId) (a_t : Nat) (a_t_now : Nat) (a_t_singersIn : Nat) (a_t_aside : Nat) (a_t_kept : Nat) (a_t_tape : Nat) (a_t_said : Nat) (a_t_waitsAt : Nat) (a_t_saidLetter : Nat) (a_t_saidFrom : Nat) (a_t_saidHalf : Nat) (a_t_saidTo : Nat) (a_t_codes : Nat) (a_t_clauseOf : Nat) (a_t_codeFrom : Nat) (a_t_codeHalf : Nat) (a_t_codeTo : Nat) (a_t_stack : Nat) (a_t_facts : Nat) (a_t_newLine : Nat) (a_t_canSit : Nat) (a_t_canNext : Nat) (a_t_freeAt : Nat) (a_t_beginsAt : Nat) (a_t_leastBy : Nat) (a_t_mostBy : Nat) (a_t_mostNext : Nat) (a_t_risesTo : Nat) (t_taped : Int32) (t_place0 : Int32) (t_length0 : Int32) (t_fault : Int32) (t_number0 : Int32) (t_open : Int32) (t_codeMany : Int32) (t_waiting : Int32) (t_saidMany : Int32) (t_clauses : Int32) (t_newMany : Int32) (t_lines : Int32) (t_stoodNow : Int32) (t_lastSeat : Int32) (t_climbedNow : Int32) (t_isKept : Int32) (t_now : (Nat → Int32)) (t_singersIn : (Nat → Int32)) (x1 : Int32) (sz : Nat) (res : Int32 × (Nat → Int32)) (hf : f_X12_singers t_now t_singersIn x1 = some res) : Met l yX12_singers (.code yX12_singers cX12_singers 7 (some .int) :: TB) (rmk (1) (22)) (pRW [.ref a_t, .int x1] D cI cB cZ (w_X12_singers cI cB cZ a_t a_t_now a_t_singersIn a_t_aside a_t_kept a_t_tape a_t_said a_t_waitsAt a_t_saidLetter a_t_saidFrom a_t_saidHalf a_t_saidTo a_t_codes a_t_clauseOf a_t_codeFrom a_t_codeHalf a_t_codeTo a_t_stack a_t_facts a_t_newLine a_t_canSit a_t_canNext a_t_freeAt a_t_beginsAt a_t_leastBy a_t_mostBy a_t_mostNext a_t_risesTo t_taped t_place0 t_length0 t_fault t_number0 t_open t_codeMany t_waiting t_saidMany t_clauses t_newMany t_lines t_stoodNow t_lastSeat t_climbedNow t_isKept t_now t_singersIn) sz) (qRW (some (.int res.1)) True D (w_X12_singers cI cB cZ a_t a_t_now a_t_singersIn a_t_aside a_t_kept a_t_tape a_t_said a_t_waitsAt a_t_saidLetter a_t_saidFrom a_t_saidHalf a_t_saidTo a_t_codes a_t_clauseOf a_t_codeFrom a_t_codeHalf a_t_codeTo a_t_stack a_t_facts a_t_newLine a_t_canSit a_t_canNext a_t_freeAt a_t_beginsAt a_t_leastBy a_t_mostBy a_t_mostNext a_t_risesTo t_taped t_place0 t_length0 t_fault t_number0 t_open t_codeMany t_waiting t_saidMany t_clauses t_newMany t_lines t_stoodNow t_lastSeat t_climbedNow t_isKept t_now t_singersIn) sz (w_X12_singers cI cB cZ a_t a_t_now a_t_singersIn a_t_aside a_t_kept a_t_tape a_t_said a_t_waitsAt a_t_saidLetter a_t_saidFrom a_t_saidHalf a_t_saidTo a_t_codes a_t_clauseOf a_t_codeFrom a_t_codeHalf a_t_codeTo a_t_stack a_t_facts a_t_newLine a_t_canSit a_t_canNext a_t_freeAt a_t_beginsAt a_t_leastBy a_t_mostBy a_t_mostNext a_t_risesTo t_taped t_place0 t_length0 t_fault t_number0 t_open t_codeMany t_waiting t_saidMany t_clauses t_newMany t_lines t_stoodNow t_lastSeat t_climbedNow t_isKept t_now res.2)) 0 0 (va_A (w_X12_singers cI cB cZ a_t a_t_now a_t_singersIn a_t_aside a_t_kept a_t_tape a_t_said a_t_waitsAt a_t_saidLetter a_t_saidFrom a_t_saidHalf a_t_saidTo a_t_codes a_t_clauseOf a_t_codeFrom a_t_codeHalf a_t_codeTo a_t_stack a_t_facts a_t_newLine a_t_canSit a_t_canNext a_t_freeAt a_t_beginsAt a_t_leastBy a_t_mostBy a_t_mostNext a_t_risesTo t_taped t_place0 t_length0 t_fault t_number0 t_open t_codeMany t_waiting t_saidMany t_clauses t_newMany t_lines t_stoodNow t_lastSeat t_climbedNow t_isKept t_now t_singersIn) sz) :=
  mkRW (by decide +kernel) (Nat.le_of_ble_eq_true rfl) (fun p e s m below meth c ls A hAe S hr hlk hK hA hP hD hS hl => b_X12_singers S.1 S.2.1 S.2.2.1 S.2.2.2.1 S.2.2.2.2 (Nat.le_refl _) (Nat.le_refl _) hK.1 hK.2 hA s.heap [] a_t a_t_now a_t_singersIn a_t_aside a_t_kept a_t_tape a_t_said a_t_waitsAt a_t_saidLetter a_t_saidFrom a_t_saidHalf a_t_saidTo a_t_codes a_t_clauseOf a_t_codeFrom a_t_codeHalf a_t_codeTo a_t_stack a_t_facts a_t_newLine a_t_canSit a_t_canNext a_t_freeAt a_t_beginsAt a_t_leastBy a_t_mostBy a_t_mostNext a_t_risesTo t_taped t_place0 t_length0 t_fault t_number0 t_open t_codeMany t_waiting t_saidMany t_clauses t_newMany t_lines t_stoodNow t_lastSeat t_climbedNow t_isKept t_now t_singersIn x1 res hf hP hD hS (fun H locs pc ls hP hD hS hE hd => eRW_i S.1 S.2.1 hr rfl hlk hAe hP hD hS hE hd) ls hl)
def f_X12_isBeside (t_now : (Nat → Int32)) (x1 : Int32) (x2 : Int32) (x3 : Int32) : Option (Int32) := (f_X12_in ((jrem x1 9) + x2) 0 8).bind (fun z13 => (if z13 = 0 then some (0) else (f_X12_isTaken t_now (x1 + x2)).bind (fun z23 => (if z23 = 0 then some (0) else (if x3 = 0 then some (1) else ix 637 (0 + x1) ((f_X12_familyOf (t_now (0 + x1).toNatClampNeg)).bind (fun z43 => ix 637 ((0 + x1) + x2) ((f_X12_familyOf (t_now ((0 + x1) + x2).toNatClampNeg)).bind (fun z56 => (if z43 = z56 then some (1) else some (0)))))))))))
def w_X12_isBeside (cI cB cZ : ClassId) (a_t : Nat) (a_t_now : Nat) (a_t_aside : Nat) (a_t_kept : Nat) (a_t_tape : Nat) (a_t_said : Nat) (a_t_waitsAt : Nat) (a_t_saidLetter : Nat) (a_t_saidFrom : Nat) (a_t_saidHalf : Nat) (a_t_saidTo : Nat) (a_t_codes : Nat) (a_t_clauseOf : Nat) (a_t_codeFrom : Nat) (a_t_codeHalf : Nat) (a_t_codeTo : Nat) (a_t_stack : Nat) (a_t_facts : Nat) (a_t_newLine : Nat) (a_t_canSit : Nat) (a_t_canNext : Nat) (a_t_singersIn : Nat) (a_t_freeAt : Nat) (a_t_beginsAt : Nat) (a_t_leastBy : Nat) (a_t_mostBy : Nat) (a_t_mostNext : Nat) (a_t_risesTo : Nat) (t_taped : Int32) (t_place0 : Int32) (t_length0 : Int32) (t_fault : Int32) (t_number0 : Int32) (t_open : Int32) (t_codeMany : Int32) (t_waiting : Int32) (t_saidMany : Int32) (t_clauses : Int32) (t_newMany : Int32) (t_lines : Int32) (t_stoodNow : Int32) (t_lastSeat : Int32) (t_climbedNow : Int32) (t_isKept : Int32) (t_now : (Nat → Int32)) : va_W := [(a_t, .inr (11, [.ref a_t_now, .ref a_t_aside, .ref a_t_kept, .ref a_t_tape, .int t_taped, .int t_place0, .int t_length0, .int t_fault, .int t_number0, .int t_open, .int t_codeMany, .int t_waiting, .int t_saidMany, .int t_clauses, .ref a_t_said, .ref a_t_waitsAt, .ref a_t_saidLetter, .ref a_t_saidFrom, .ref a_t_saidHalf, .ref a_t_saidTo, .ref a_t_codes, .ref a_t_clauseOf, .ref a_t_codeFrom, .ref a_t_codeHalf, .ref a_t_codeTo, .ref a_t_stack, .ref a_t_facts, .ref a_t_newLine, .int t_newMany, .int t_lines, .int t_stoodNow, .int t_lastSeat, .int t_climbedNow, .ref a_t_canSit, .ref a_t_canNext, .ref a_t_singersIn, .ref a_t_freeAt, .ref a_t_beginsAt, .ref a_t_leastBy, .ref a_t_mostBy, .ref a_t_mostNext, .ref a_t_risesTo, .int t_isKept])), (a_t_now, .inl (cI, 637, .inl t_now))]
set_option maxHeartbeats 4000000 in
set_option maxRecDepth 100000 in
theorem b_X12_isBeside {p : Program} {l : Launch} {e : Env} {R : Room} {s : State} {m : MethodId} {args : Array Value} {below : List Frame} {meth : Method} {c : Code} {Q : State → Prop} {D : va_G} {cI cB cZ : ClassId} (hx : p.tables.exec = Jvm.exec) (hb : c.code = cX12_isBeside) (hml : c.maxLocals = 5) (hown : s.vm.findClass RX12 = some m.cls) (hT : ∀ w ∈ TB, w.before args s = true) (hRf : (1) ≤ R.frames) (hRl : (22) ≤ R.locals) (hK : va_K D vwCl (tyL cI cB cZ) s) (hN : NW s)  (a_t : Nat) (a_t_now : Nat) (a_t_aside : Nat) (a_t_kept : Nat) (a_t_tape : Nat) (a_t_said : Nat) (a_t_waitsAt : Nat) (a_t_saidLetter : Nat) (a_t_saidFrom : Nat) (a_t_saidHalf : Nat) (a_t_saidTo : Nat) (a_t_codes : Nat) (a_t_clauseOf : Nat) (a_t_codeFrom : Nat) (a_t_codeHalf : Nat) (a_t_codeTo : Nat) (a_t_stack : Nat) (a_t_facts : Nat) (a_t_newLine : Nat) (a_t_canSit : Nat) (a_t_canNext : Nat) (a_t_singersIn : Nat) (a_t_freeAt : Nat) (a_t_beginsAt : Nat) (a_t_leastBy : Nat) (a_t_mostBy : Nat) (a_t_mostNext : Nat) (a_t_risesTo : Nat) (t_taped : Int32) (t_place0 : Int32) (t_length0 : Int32) (t_fault : Int32) (t_number0 : Int32) (t_open : Int32) (t_codeMany : Int32) (t_waiting : Int32) (t_saidMany : Int32) (t_clauses : Int32) (t_newMany : Int32) (t_lines : Int32) (t_stoodNow : Int32) (t_lastSeat : Int32) (t_climbedNow : Int32) (t_isKept : Int32) (t_now : (Nat → Int32)) (x1 : Int32) (x2 : Int32) (x3 : Int32) (res : Int32) (hf : f_X12_isBeside t_now x1 x2 x3 = some res) (hP : va_P D vwCl (w_X12_isBeside cI cB cZ a_t a_t_now a_t_aside a_t_kept a_t_tape a_t_said a_t_waitsAt a_t_saidLetter a_t_saidFrom a_t_saidHalf a_t_saidTo a_t_codes a_t_clauseOf a_t_codeFrom a_t_codeHalf a_t_codeTo a_t_stack a_t_facts a_t_newLine a_t_canSit a_t_canNext a_t_singersIn a_t_freeAt a_t_beginsAt a_t_leastBy a_t_mostBy a_t_mostNext a_t_risesTo t_taped t_place0 t_length0 t_fault t_number0 t_open t_codeMany t_waiting t_saidMany t_clauses t_newMany t_lines t_stoodNow t_lastSeat t_climbedNow t_isKept t_now) s.heap) (hQ : ∀ (pc : Nat) (ls : Array Slot), (res = 0 ∨ res = 1) → decode cX12_isBeside pc = .ok (.ireturn, 1) → W p l e R s m args below meth c s.heap [] 0 0 Q (F0 m pc ls [.int res])) (ls : Array Slot) (hl : lv_has ls 5 [(0, .ref a_t), (1, .int x1), (2, .int x2), (3, .int x3)]) : W p l e R s m args below meth c s.heap [] 0 0 Q (F0 m 0 ls []) := by
  unfold f_X12_isBeside at hf
  refine lv_iload_n hx hb dX12_isBeside_0 rfl (lv_at hl 1 rfl) ?_
  refine lv_bipush (v := 9) hx hb dX12_isBeside_1 (by decide) ?_
  refine lv_irem hx hb dX12_isBeside_3 (by decide) ?_
  refine lv_iload_n hx hb dX12_isBeside_4 rfl (lv_at hl 2 rfl) ?_
  refine lv_iadd hx hb dX12_isBeside_5 ?_
  refine lv_istore (lv' := [(4, .int ((jrem x1 9) + x2)), (0, .ref a_t), (1, .int x1), (2, .int x2), (3, .int x3)]) hx hb dX12_isBeside_6 hl (by decide) rfl (fun ls hl => ?_)
  refine lv_iload hx hb dX12_isBeside_8 (lv_at hl 0 rfl) ?_
  refine lv_iconst (v := 0) hx hb dX12_isBeside_10 (by decide) ?_
  refine lv_bipush (v := 8) hx hb dX12_isBeside_11 (by decide) ?_
  obtain ⟨z13, e13, hf⟩ := bd_some hf
  refine rS_RO (As := [.int ((jrem x1 9) + x2), .int 0, .int 8]) (rest := []) ⟨hx, hb, hml, hown, hT⟩ (gdS tb_1283 tb_1284 tb_97 tb_1285) hd_X12_in (c_X12_in l D cI cB cZ ((jrem x1 9) + x2) 0 8 z13 e13) ⟨rfl, rfl⟩ ⟨Nat.le_trans (by decide) hRf, Nat.le_trans (by decide) hRl⟩ ⟨hK, hN⟩ hP [] rfl rfl hl.1 rfl (Nat.le_of_ble_eq_true rfl) ⟨Nat.zero_le _, Nat.zero_le _⟩ dX12_isBeside_13 (fun hz_13 => ?_)
  refine lv_if_eq (tgt := 29) hx hb dX12_isBeside_16 (by decide) (fun hc_16 => ?_) (fun hc_16 => ?_)
  · have hf := it_pos hc_16 hf
    refine lv_iconst (v := 0) hx hb dX12_isBeside_29 (by decide) ?_
    obtain rfl := Option.some.inj hf
    exact hQ 30 ls (Or.inl rfl) dX12_isBeside_30
  · have hf := it_neg hc_16 hf
    refine lv_aload_n hx hb dX12_isBeside_19 rfl (lv_at hl 1 rfl) ?_
    refine lv_iload_n hx hb dX12_isBeside_20 rfl (lv_at hl 2 rfl) ?_
    refine lv_iload_n hx hb dX12_isBeside_21 rfl (lv_at hl 3 rfl) ?_
    refine lv_iadd hx hb dX12_isBeside_22 ?_
    obtain ⟨z23, e23, hf⟩ := bd_some hf
    refine rV_RO (As := [.int (x1 + x2)]) (rest := []) ⟨hx, hb, hml, hown, hT⟩ (gdV tb_1404 tb_1406 tb_56 tb_97 tb_1407) hd_X12_isTaken (c_X12_isTaken l D cI cB cZ a_t a_t_now a_t_aside a_t_kept a_t_tape a_t_said a_t_waitsAt a_t_saidLetter a_t_saidFrom a_t_saidHalf a_t_saidTo a_t_codes a_t_clauseOf a_t_codeFrom a_t_codeHalf a_t_codeTo a_t_stack a_t_facts a_t_newLine a_t_canSit a_t_canNext a_t_singersIn a_t_freeAt a_t_beginsAt a_t_leastBy a_t_mostBy a_t_mostNext a_t_risesTo t_taped t_place0 t_length0 t_fault t_number0 t_open t_codeMany t_waiting t_saidMany t_clauses t_newMany t_lines t_stoodNow t_lastSeat t_climbedNow t_isKept t_now (x1 + x2) z23 e23) ⟨rfl, rfl⟩ ⟨Nat.le_trans (by decide) hRf, Nat.le_trans (by decide) hRl⟩ ⟨hK, hN⟩ hP [0, 1] rfl 0 rfl rfl rfl hl.1 rfl (Nat.le_of_ble_eq_true rfl) ⟨Nat.zero_le _, Nat.zero_le _⟩ dX12_isBeside_23 (fun hz_23 => ?_)
    refine lv_if_ne (tgt := 31) hx hb dX12_isBeside_26 (by decide) (fun hc_26 => ?_) (fun hc_26 => ?_)
    · have hf := it_neg hc_26 hf
      refine lv_iload_n hx hb dX12_isBeside_31 rfl (lv_at hl 4 rfl) ?_
      refine lv_if_eq (tgt := 62) hx hb dX12_isBeside_32 (by decide) (fun hc_32 => ?_) (fun hc_32 => ?_)
      · have hf := it_pos hc_32 hf
        refine lv_iconst (v := 1) hx hb dX12_isBeside_62 (by decide) ?_
        refine lv_goto (tgt := 67) hx hb dX12_isBeside_63 (by decide) ?_
        obtain rfl := Option.some.inj hf
        exact hQ 67 ls (Or.inr rfl) dX12_isBeside_67
      · have hf := it_neg hc_32 hf
        refine lv_aload_n hx hb dX12_isBeside_35 rfl (lv_at hl 1 rfl) ?_
        refine va_get (D := D) (ci := 11) (v := .ref a_t_now) (C := RX12) (T := TX12) (N := 43) hx hb hT inX12 hown hK hP 0 rfl rfl 0 (by decide) (hT _ tb_1148) (fun _ h9 => h9) rfl dX12_isBeside_36 ?_
        refine lv_iconst (v := 0) hx hb dX12_isBeside_39 (by decide) ?_
        refine lv_iload_n hx hb dX12_isBeside_40 rfl (lv_at hl 2 rfl) ?_
        refine lv_iadd hx hb dX12_isBeside_41 ?_
        obtain ⟨hi_42, hf⟩ := ix_some hf
        refine va_iald hx hb hK hP 1 0 rfl rfl hi_42 dX12_isBeside_42 ?_
        obtain ⟨z43, e43, hf⟩ := bd_some hf
        refine rS_RO (As := [.int (t_now (0 + x1).toNatClampNeg)]) (rest := []) ⟨hx, hb, hml, hown, hT⟩ (gdS tb_1431 tb_1432 tb_97 tb_1433) hd_X12_familyOf (c_X12_familyOf l D cI cB cZ (t_now (0 + x1).toNatClampNeg) z43 e43) ⟨rfl, rfl⟩ ⟨Nat.le_trans (by decide) hRf, Nat.le_trans (by decide) hRl⟩ ⟨hK, hN⟩ hP [] rfl rfl hl.1 rfl (Nat.le_of_ble_eq_true rfl) ⟨Nat.zero_le _, Nat.zero_le _⟩ dX12_isBeside_43 (fun _ => ?_)
        refine lv_aload_n hx hb dX12_isBeside_46 rfl (lv_at hl 1 rfl) ?_
        refine va_get (D := D) (ci := 11) (v := .ref a_t_now) (C := RX12) (T := TX12) (N := 43) hx hb hT inX12 hown hK hP 0 rfl rfl 0 (by decide) (hT _ tb_1148) (fun _ h9 => h9) rfl dX12_isBeside_47 ?_
        refine lv_iconst (v := 0) hx hb dX12_isBeside_50 (by decide) ?_
        refine lv_iload_n hx hb dX12_isBeside_51 rfl (lv_at hl 2 rfl) ?_
        refine lv_iadd hx hb dX12_isBeside_52 ?_
        refine lv_iload_n hx hb dX12_isBeside_53 rfl (lv_at hl 3 rfl) ?_
        refine lv_iadd hx hb dX12_isBeside_54 ?_
        obtain ⟨hi_55, hf⟩ := ix_some hf
        refine va_iald hx hb hK hP 1 0 rfl rfl hi_55 dX12_isBeside_55 ?_
        obtain ⟨z56, e56, hf⟩ := bd_some hf
        refine rS_RO (As := [.int (t_now ((0 + x1) + x2).toNatClampNeg)]) (rest := [.int z43]) ⟨hx, hb, hml, hown, hT⟩ (gdS tb_1431 tb_1432 tb_97 tb_1433) hd_X12_familyOf (c_X12_familyOf l D cI cB cZ (t_now ((0 + x1) + x2).toNatClampNeg) z56 e56) ⟨rfl, rfl⟩ ⟨Nat.le_trans (by decide) hRf, Nat.le_trans (by decide) hRl⟩ ⟨hK, hN⟩ hP [] rfl rfl hl.1 rfl (Nat.le_of_ble_eq_true rfl) ⟨Nat.zero_le _, Nat.zero_le _⟩ dX12_isBeside_56 (fun _ => ?_)
        refine lv_icmp_ne (tgt := 66) hx hb dX12_isBeside_59 (by decide) (fun hc_59 => ?_) (fun hc_59 => ?_)
        · have hf := it_neg hc_59 hf
          refine lv_iconst (v := 0) hx hb dX12_isBeside_66 (by decide) ?_
          obtain rfl := Option.some.inj hf
          exact hQ 67 ls (Or.inl rfl) dX12_isBeside_67
        · have hf := it_pos hc_59 hf
          refine lv_iconst (v := 1) hx hb dX12_isBeside_62 (by decide) ?_
          refine lv_goto (tgt := 67) hx hb dX12_isBeside_63 (by decide) ?_
          obtain rfl := Option.some.inj hf
          exact hQ 67 ls (Or.inr rfl) dX12_isBeside_67
    · have hf := it_pos hc_26 hf
      refine lv_iconst (v := 0) hx hb dX12_isBeside_29 (by decide) ?_
      obtain rfl := Option.some.inj hf
      exact hQ 30 ls (Or.inl rfl) dX12_isBeside_30
theorem hd_X12_isBeside : (yX12_isBeside).cls = RX12 ∧ (yX12_isBeside).cls ≠ "java/lang/invoke/MethodHandle" ∧ (yX12_isBeside).cls ≠ "java/lang/invoke/VarHandle" ∧ (parseMethodDescriptor (yX12_isBeside).desc).map (fun d => d.parameters.length) = some 3 := by decide +kernel
theorem c_X12_isBeside (l : Launch) (D : va_G) (cI cB cZ : ClassId) (a_t : Nat) (a_t_now : Nat) (a_t_aside : Nat) (a_t_kept : Nat) (a_t_tape : Nat) (a_t_said : Nat) (a_t_waitsAt : Nat) (a_t_saidLetter : Nat) (a_t_saidFrom : Nat) (a_t_saidHalf : Nat) (a_t_saidTo : Nat) (a_t_codes : Nat) (a_t_clauseOf : Nat) (a_t_codeFrom : Nat) (a_t_codeHalf : Nat) (a_t_codeTo : Nat) (a_t_stack : Nat) (a_t_facts : Nat) (a_t_newLine : Nat) (a_t_canSit : Nat) (a_t_canNext : Nat) (a_t_singersIn : Nat) (a_t_freeAt : Nat) (a_t_beginsAt : Nat) (a_t_leastBy : Nat) (a_t_mostBy : Nat) (a_t_mostNext : Nat) (a_t_risesTo : Nat) (t_taped : Int32) (t_place0 : Int32) (t_length0 : Int32) (t_fault : Int32) (t_number0 : Int32) (t_open : Int32) (t_codeMany : Int32) (t_waiting : Int32) (t_saidMany : Int32) (t_clauses : Int32) (t_newMany : Int32) (t_lines : Int32) (t_stoodNow : Int32) (t_lastSeat : Int32) (t_climbedNow : Int32) (t_isKept : Int32) (t_now : (Nat → Int32)) (x1 : Int32) (x2 : Int32) (x3 : Int32) (res : Int32) (hf : f_X12_isBeside t_now x1 x2 x3 = some res) : Met l yX12_isBeside (.code yX12_isBeside cX12_isBeside 5 (some .boolean) :: TB) (rmk (1) (22)) (pRO [.ref a_t, .int x1, .int x2, .int x3] D cI cB cZ (w_X12_isBeside cI cB cZ a_t a_t_now a_t_aside a_t_kept a_t_tape a_t_said a_t_waitsAt a_t_saidLetter a_t_saidFrom a_t_saidHalf a_t_saidTo a_t_codes a_t_clauseOf a_t_codeFrom a_t_codeHalf a_t_codeTo a_t_stack a_t_facts a_t_newLine a_t_canSit a_t_canNext a_t_singersIn a_t_freeAt a_t_beginsAt a_t_leastBy a_t_mostBy a_t_mostNext a_t_risesTo t_taped t_place0 t_length0 t_fault t_number0 t_open t_codeMany t_waiting t_saidMany t_clauses t_newMany t_lines t_stoodNow t_lastSeat t_climbedNow t_isKept t_now)) (qRO (some (.int res)) (res = 0 ∨ res = 1)) 0 0 (fun _ => False) :=
  mkRO (by decide +kernel) (Nat.le_of_ble_eq_true rfl) (fun p e s m below meth c ls S hr hlk hK hP hl => b_X12_isBeside S.1 S.2.1 S.2.2.1 S.2.2.2.1 S.2.2.2.2 (Nat.le_refl _) (Nat.le_refl _) hK.1 hK.2 a_t a_t_now a_t_aside a_t_kept a_t_tape a_t_said a_t_waitsAt a_t_saidLetter a_t_saidFrom a_t_saidHalf a_t_saidTo a_t_codes a_t_clauseOf a_t_codeFrom a_t_codeHalf a_t_codeTo a_t_stack a_t_facts a_t_newLine a_t_canSit a_t_canNext a_t_singersIn a_t_freeAt a_t_beginsAt a_t_leastBy a_t_mostBy a_t_mostNext a_t_risesTo t_taped t_place0 t_length0 t_fault t_number0 t_open t_codeMany t_waiting t_saidMany t_clauses t_newMany t_lines t_stoodNow t_lastSeat t_climbedNow t_isKept t_now x1 x2 x3 res hf hP (fun pc ls hE hd => eRO_i S.1 S.2.1 hr (nz_ok hE) hlk hE hd) ls hl)
def f_X12_strangers_60 (t_now : (Nat → Int32)) (k21 : Int32 → Int32 → Int32 → Int32 → Option (Int32)) (x1 : Int32) (x2 : Int32) (x3 : Int32) (x4 : Int32) : Option (Int32) := (f_X12_isBeside t_now x4 (-1) 1).bind (fun z65 => (if z65 = 0 then (f_X12_isBeside t_now x4 1 1).bind (fun z76 => (if z76 = 0 then k21 x1 (x2 + 1) x4 (x4 + (-1)) else k21 x1 x2 x3 (x4 + (-1)))) else k21 x1 x2 x3 (x4 + (-1))))
def f_X12_strangers_21 (t_now : (Nat → Int32)) : Nat → Int32 → Int32 → Int32 → Int32 → Option (Int32)
  | 0, _, _, _, _ => none
  | n + 1, x1, x2, x3, x4 => (if x4 < 0 then (if x1 = 0 then some (x2) else some (x3)) else (f_X12_isTaken t_now x4).bind (fun z29 => (if z29 = 0 then (f_X12_strangers_21 t_now n) x1 x2 x3 (x4 + (-1)) else (f_X12_isBeside t_now x4 (-1) 0).bind (fun z40 => (if z40 = 0 then (f_X12_isBeside t_now x4 1 0).bind (fun z51 => (if z51 = 0 then (f_X12_strangers_21 t_now n) x1 x2 x3 (x4 + (-1)) else f_X12_strangers_60 t_now (f_X12_strangers_21 t_now n) x1 x2 x3 x4)) else f_X12_strangers_60 t_now (f_X12_strangers_21 t_now n) x1 x2 x3 x4)))))
def f_X12_strangers (t_now : (Nat → Int32)) (x1 : Int32) : Option (Int32) := (f_X12_in x1 0 1).bind (fun z3 => (if z3 = 0 then some ((-1)) else f_X12_strangers_21 t_now FU x1 0 (-2) 143))
def w_X12_strangers (cI cB cZ : ClassId) (a_t : Nat) (a_t_now : Nat) (a_t_aside : Nat) (a_t_kept : Nat) (a_t_tape : Nat) (a_t_said : Nat) (a_t_waitsAt : Nat) (a_t_saidLetter : Nat) (a_t_saidFrom : Nat) (a_t_saidHalf : Nat) (a_t_saidTo : Nat) (a_t_codes : Nat) (a_t_clauseOf : Nat) (a_t_codeFrom : Nat) (a_t_codeHalf : Nat) (a_t_codeTo : Nat) (a_t_stack : Nat) (a_t_facts : Nat) (a_t_newLine : Nat) (a_t_canSit : Nat) (a_t_canNext : Nat) (a_t_singersIn : Nat) (a_t_freeAt : Nat) (a_t_beginsAt : Nat) (a_t_leastBy : Nat) (a_t_mostBy : Nat) (a_t_mostNext : Nat) (a_t_risesTo : Nat) (t_taped : Int32) (t_place0 : Int32) (t_length0 : Int32) (t_fault : Int32) (t_number0 : Int32) (t_open : Int32) (t_codeMany : Int32) (t_waiting : Int32) (t_saidMany : Int32) (t_clauses : Int32) (t_newMany : Int32) (t_lines : Int32) (t_stoodNow : Int32) (t_lastSeat : Int32) (t_climbedNow : Int32) (t_isKept : Int32) (t_now : (Nat → Int32)) : va_W := [(a_t, .inr (11, [.ref a_t_now, .ref a_t_aside, .ref a_t_kept, .ref a_t_tape, .int t_taped, .int t_place0, .int t_length0, .int t_fault, .int t_number0, .int t_open, .int t_codeMany, .int t_waiting, .int t_saidMany, .int t_clauses, .ref a_t_said, .ref a_t_waitsAt, .ref a_t_saidLetter, .ref a_t_saidFrom, .ref a_t_saidHalf, .ref a_t_saidTo, .ref a_t_codes, .ref a_t_clauseOf, .ref a_t_codeFrom, .ref a_t_codeHalf, .ref a_t_codeTo, .ref a_t_stack, .ref a_t_facts, .ref a_t_newLine, .int t_newMany, .int t_lines, .int t_stoodNow, .int t_lastSeat, .int t_climbedNow, .ref a_t_canSit, .ref a_t_canNext, .ref a_t_singersIn, .ref a_t_freeAt, .ref a_t_beginsAt, .ref a_t_leastBy, .ref a_t_mostBy, .ref a_t_mostNext, .ref a_t_risesTo, .int t_isKept])), (a_t_now, .inl (cI, 637, .inl t_now))]
set_option maxHeartbeats 4000000 in
set_option maxRecDepth 100000 in
theorem b_X12_strangers {p : Program} {l : Launch} {e : Env} {R : Room} {s : State} {m : MethodId} {args : Array Value} {below : List Frame} {meth : Method} {c : Code} {Q : State → Prop} {D : va_G} {cI cB cZ : ClassId} (hx : p.tables.exec = Jvm.exec) (hb : c.code = cX12_strangers) (hml : c.maxLocals = 5) (hown : s.vm.findClass RX12 = some m.cls) (hT : ∀ w ∈ TB, w.before args s = true) (hRf : (2) ≤ R.frames) (hRl : (46) ≤ R.locals) (hK : va_K D vwCl (tyL cI cB cZ) s) (hN : NW s)  (a_t : Nat) (a_t_now : Nat) (a_t_aside : Nat) (a_t_kept : Nat) (a_t_tape : Nat) (a_t_said : Nat) (a_t_waitsAt : Nat) (a_t_saidLetter : Nat) (a_t_saidFrom : Nat) (a_t_saidHalf : Nat) (a_t_saidTo : Nat) (a_t_codes : Nat) (a_t_clauseOf : Nat) (a_t_codeFrom : Nat) (a_t_codeHalf : Nat) (a_t_codeTo : Nat) (a_t_stack : Nat) (a_t_facts : Nat) (a_t_newLine : Nat) (a_t_canSit : Nat) (a_t_canNext : Nat) (a_t_singersIn : Nat) (a_t_freeAt : Nat) (a_t_beginsAt : Nat) (a_t_leastBy : Nat) (a_t_mostBy : Nat) (a_t_mostNext : Nat) (a_t_risesTo : Nat) (t_taped : Int32) (t_place0 : Int32) (t_length0 : Int32) (t_fault : Int32) (t_number0 : Int32) (t_open : Int32) (t_codeMany : Int32) (t_waiting : Int32) (t_saidMany : Int32) (t_clauses : Int32) (t_newMany : Int32) (t_lines : Int32) (t_stoodNow : Int32) (t_lastSeat : Int32) (t_climbedNow : Int32) (t_isKept : Int32) (t_now : (Nat → Int32)) (x1 : Int32) (res : Int32) (hf : f_X12_strangers t_now x1 = some res) (hP : va_P D vwCl (w_X12_strangers cI cB cZ a_t a_t_now a_t_aside a_t_kept a_t_tape a_t_said a_t_waitsAt a_t_saidLetter a_t_saidFrom a_t_saidHalf a_t_saidTo a_t_codes a_t_clauseOf a_t_codeFrom a_t_codeHalf a_t_codeTo a_t_stack a_t_facts a_t_newLine a_t_canSit a_t_canNext a_t_singersIn a_t_freeAt a_t_beginsAt a_t_leastBy a_t_mostBy a_t_mostNext a_t_risesTo t_taped t_place0 t_length0 t_fault t_number0 t_open t_codeMany t_waiting t_saidMany t_clauses t_newMany t_lines t_stoodNow t_lastSeat t_climbedNow t_isKept t_now) s.heap) (hQ : ∀ (pc : Nat) (ls : Array Slot), True → decode cX12_strangers pc = .ok (.ireturn, 1) → W p l e R s m args below meth c s.heap [] 0 0 Q (F0 m pc ls [.int res])) (ls : Array Slot) (hl : lv_has ls 5 [(0, .ref a_t), (1, .int x1)]) : W p l e R s m args below meth c s.heap [] 0 0 Q (F0 m 0 ls []) := by
  unfold f_X12_strangers at hf
  refine lv_iload_n hx hb dX12_strangers_0 rfl (lv_at hl 1 rfl) ?_
  refine lv_iconst (v := 0) hx hb dX12_strangers_1 (by decide) ?_
  refine lv_iconst (v := 1) hx hb dX12_strangers_2 (by decide) ?_
  obtain ⟨z3, e3, hf⟩ := bd_some hf
  refine rS_RO (As := [.int x1, .int 0, .int 1]) (rest := []) ⟨hx, hb, hml, hown, hT⟩ (gdS tb_1283 tb_1284 tb_97 tb_1285) hd_X12_in (c_X12_in l D cI cB cZ x1 0 1 z3 e3) ⟨rfl, rfl⟩ ⟨Nat.le_trans (by decide) hRf, Nat.le_trans (by decide) hRl⟩ ⟨hK, hN⟩ hP [] rfl rfl hl.1 rfl (Nat.le_of_ble_eq_true rfl) ⟨Nat.zero_le _, Nat.zero_le _⟩ dX12_strangers_3 (fun hz_3 => ?_)
  refine lv_if_ne (tgt := 11) hx hb dX12_strangers_6 (by decide) (fun hc_6 => ?_) (fun hc_6 => ?_)
  · have hf := it_neg hc_6 hf
    refine lv_iconst (v := 0) hx hb dX12_strangers_11 (by decide) ?_
    refine lv_istore_n (lv' := [(2, .int 0), (0, .ref a_t), (1, .int x1)]) hx hb dX12_strangers_12 rfl hl (by decide) rfl (fun ls hl => ?_)
    refine lv_bipush (v := (-2)) hx hb dX12_strangers_13 (by decide) ?_
    refine lv_istore_n (lv' := [(3, .int (-2)), (2, .int 0), (0, .ref a_t), (1, .int x1)]) hx hb dX12_strangers_15 rfl hl (by decide) rfl (fun ls hl => ?_)
    refine lv_sipush (v := 143) hx hb dX12_strangers_16 (by decide) ?_
    have J_21 : ∀ (n_21 : Nat) (x1 : Int32) (x2 : Int32) (x3 : Int32) (x4 : Int32) (ls : Array Slot), f_X12_strangers_21 t_now n_21 x1 x2 x3 x4 = some res → lv_has ls 5 [(0, .ref a_t), (1, .int x1), (2, .int x2), (3, .int x3), (4, .int x4)] → W p l e R s m args below meth c s.heap [] 0 0 Q (F0 m 21 ls []) := by
      intro n_21
      induction n_21 with
      | zero =>
        intro x1 x2 x3 x4 ls hf hl
        cases hf
      | succ n_21 ih_21 =>
        intro x1 x2 x3 x4 ls hf hl
        unfold f_X12_strangers_21 at hf
        refine lv_iload hx hb dX12_strangers_21 (lv_at hl 4 rfl) ?_
        refine lv_if_lt (tgt := 98) hx hb dX12_strangers_23 (by decide) (fun hc_23 => ?_) (fun hc_23 => ?_)
        · have hf := it_pos hc_23 hf
          refine lv_iload_n hx hb dX12_strangers_98 rfl (lv_at hl 1 rfl) ?_
          refine lv_if_ne (tgt := 106) hx hb dX12_strangers_99 (by decide) (fun hc_99 => ?_) (fun hc_99 => ?_)
          · have hf := it_neg hc_99 hf
            refine lv_iload_n hx hb dX12_strangers_106 rfl (lv_at hl 3 rfl) ?_
            obtain rfl := Option.some.inj hf
            exact hQ 107 ls trivial dX12_strangers_107
          · have hf := it_pos hc_99 hf
            refine lv_iload_n hx hb dX12_strangers_102 rfl (lv_at hl 2 rfl) ?_
            refine lv_goto (tgt := 107) hx hb dX12_strangers_103 (by decide) ?_
            obtain rfl := Option.some.inj hf
            exact hQ 107 ls trivial dX12_strangers_107
        · have hf := it_neg hc_23 hf
          refine lv_aload_n hx hb dX12_strangers_26 rfl (lv_at hl 0 rfl) ?_
          refine lv_iload hx hb dX12_strangers_27 (lv_at hl 4 rfl) ?_
          obtain ⟨z29, e29, hf⟩ := bd_some hf
          refine rV_RO (As := [.int x4]) (rest := []) ⟨hx, hb, hml, hown, hT⟩ (gdV tb_1404 tb_1406 tb_56 tb_97 tb_1407) hd_X12_isTaken (c_X12_isTaken l D cI cB cZ a_t a_t_now a_t_aside a_t_kept a_t_tape a_t_said a_t_waitsAt a_t_saidLetter a_t_saidFrom a_t_saidHalf a_t_saidTo a_t_codes a_t_clauseOf a_t_codeFrom a_t_codeHalf a_t_codeTo a_t_stack a_t_facts a_t_newLine a_t_canSit a_t_canNext a_t_singersIn a_t_freeAt a_t_beginsAt a_t_leastBy a_t_mostBy a_t_mostNext a_t_risesTo t_taped t_place0 t_length0 t_fault t_number0 t_open t_codeMany t_waiting t_saidMany t_clauses t_newMany t_lines t_stoodNow t_lastSeat t_climbedNow t_isKept t_now x4 z29 e29) ⟨rfl, rfl⟩ ⟨Nat.le_trans (by decide) hRf, Nat.le_trans (by decide) hRl⟩ ⟨hK, hN⟩ hP [0, 1] rfl 0 rfl rfl rfl hl.1 rfl (Nat.le_of_ble_eq_true rfl) ⟨Nat.zero_le _, Nat.zero_le _⟩ dX12_strangers_29 (fun hz_29 => ?_)
          refine lv_if_eq (tgt := 92) hx hb dX12_strangers_32 (by decide) (fun hc_32 => ?_) (fun hc_32 => ?_)
          · have hf := it_pos hc_32 hf
            refine lv_iinc (v := x4 + (-1)) (lv' := [(4, .int (x4 + (-1))), (0, .ref a_t), (1, .int x1), (2, .int x2), (3, .int x3)]) hx hb dX12_strangers_92 hl (k := 4) rfl (congrArg (_ + ·) (by decide : Int32.ofInt (-1) = (-1))) (by decide) rfl (fun ls hl => ?_)
            refine lv_goto (tgt := 21) hx hb dX12_strangers_95 (by decide) ?_
            exact ih_21 _ _ _ _ _ hf (lv_sub hl [1, 2, 3, 4, 0] rfl)
          · have hf := it_neg hc_32 hf
            refine lv_aload_n hx hb dX12_strangers_35 rfl (lv_at hl 0 rfl) ?_
            refine lv_iload hx hb dX12_strangers_36 (lv_at hl 4 rfl) ?_
            refine lv_iconst (v := (-1)) hx hb dX12_strangers_38 (by decide) ?_
            refine lv_iconst (v := 0) hx hb dX12_strangers_39 (by decide) ?_
            obtain ⟨z40, e40, hf⟩ := bd_some hf
            refine rV_RO (As := [.int x4, .int (-1), .int 0]) (rest := []) ⟨hx, hb, hml, hown, hT⟩ (gdV tb_1600 tb_1602 tb_82 tb_97 tb_1603) hd_X12_isBeside (c_X12_isBeside l D cI cB cZ a_t a_t_now a_t_aside a_t_kept a_t_tape a_t_said a_t_waitsAt a_t_saidLetter a_t_saidFrom a_t_saidHalf a_t_saidTo a_t_codes a_t_clauseOf a_t_codeFrom a_t_codeHalf a_t_codeTo a_t_stack a_t_facts a_t_newLine a_t_canSit a_t_canNext a_t_singersIn a_t_freeAt a_t_beginsAt a_t_leastBy a_t_mostBy a_t_mostNext a_t_risesTo t_taped t_place0 t_length0 t_fault t_number0 t_open t_codeMany t_waiting t_saidMany t_clauses t_newMany t_lines t_stoodNow t_lastSeat t_climbedNow t_isKept t_now x4 (-1) 0 z40 e40) ⟨rfl, rfl⟩ ⟨Nat.le_trans (by decide) hRf, Nat.le_trans (by decide) hRl⟩ ⟨hK, hN⟩ hP [0, 1] rfl 0 rfl rfl rfl hl.1 rfl (Nat.le_of_ble_eq_true rfl) ⟨Nat.zero_le _, Nat.zero_le _⟩ dX12_strangers_40 (fun hz_40 => ?_)
            have J_60 : ∀ (x1 : Int32) (x2 : Int32) (x3 : Int32) (x4 : Int32) (ls : Array Slot), f_X12_strangers_60 t_now (f_X12_strangers_21 t_now n_21) x1 x2 x3 x4 = some res → lv_has ls 5 [(0, .ref a_t), (1, .int x1), (2, .int x2), (3, .int x3), (4, .int x4)] → W p l e R s m args below meth c s.heap [] 0 0 Q (F0 m 60 ls []) := by
              intro x1 x2 x3 x4 ls hf hl
              unfold f_X12_strangers_60 at hf
              refine lv_aload_n hx hb dX12_strangers_60 rfl (lv_at hl 0 rfl) ?_
              refine lv_iload hx hb dX12_strangers_61 (lv_at hl 4 rfl) ?_
              refine lv_iconst (v := (-1)) hx hb dX12_strangers_63 (by decide) ?_
              refine lv_iconst (v := 1) hx hb dX12_strangers_64 (by decide) ?_
              obtain ⟨z65, e65, hf⟩ := bd_some hf
              refine rV_RO (As := [.int x4, .int (-1), .int 1]) (rest := []) ⟨hx, hb, hml, hown, hT⟩ (gdV tb_1600 tb_1602 tb_82 tb_97 tb_1603) hd_X12_isBeside (c_X12_isBeside l D cI cB cZ a_t a_t_now a_t_aside a_t_kept a_t_tape a_t_said a_t_waitsAt a_t_saidLetter a_t_saidFrom a_t_saidHalf a_t_saidTo a_t_codes a_t_clauseOf a_t_codeFrom a_t_codeHalf a_t_codeTo a_t_stack a_t_facts a_t_newLine a_t_canSit a_t_canNext a_t_singersIn a_t_freeAt a_t_beginsAt a_t_leastBy a_t_mostBy a_t_mostNext a_t_risesTo t_taped t_place0 t_length0 t_fault t_number0 t_open t_codeMany t_waiting t_saidMany t_clauses t_newMany t_lines t_stoodNow t_lastSeat t_climbedNow t_isKept t_now x4 (-1) 1 z65 e65) ⟨rfl, rfl⟩ ⟨Nat.le_trans (by decide) hRf, Nat.le_trans (by decide) hRl⟩ ⟨hK, hN⟩ hP [0, 1] rfl 0 rfl rfl rfl hl.1 rfl (Nat.le_of_ble_eq_true rfl) ⟨Nat.zero_le _, Nat.zero_le _⟩ dX12_strangers_65 (fun hz_65 => ?_)
              refine lv_if_ne (tgt := 92) hx hb dX12_strangers_68 (by decide) (fun hc_68 => ?_) (fun hc_68 => ?_)
              · have hf := it_neg hc_68 hf
                refine lv_iinc (v := x4 + (-1)) (lv' := [(4, .int (x4 + (-1))), (0, .ref a_t), (1, .int x1), (2, .int x2), (3, .int x3)]) hx hb dX12_strangers_92 hl (k := 4) rfl (congrArg (_ + ·) (by decide : Int32.ofInt (-1) = (-1))) (by decide) rfl (fun ls hl => ?_)
                refine lv_goto (tgt := 21) hx hb dX12_strangers_95 (by decide) ?_
                exact ih_21 _ _ _ _ _ hf (lv_sub hl [1, 2, 3, 4, 0] rfl)
              · have hf := it_pos hc_68 hf
                refine lv_aload_n hx hb dX12_strangers_71 rfl (lv_at hl 0 rfl) ?_
                refine lv_iload hx hb dX12_strangers_72 (lv_at hl 4 rfl) ?_
                refine lv_iconst (v := 1) hx hb dX12_strangers_74 (by decide) ?_
                refine lv_iconst (v := 1) hx hb dX12_strangers_75 (by decide) ?_
                obtain ⟨z76, e76, hf⟩ := bd_some hf
                refine rV_RO (As := [.int x4, .int 1, .int 1]) (rest := []) ⟨hx, hb, hml, hown, hT⟩ (gdV tb_1600 tb_1602 tb_82 tb_97 tb_1603) hd_X12_isBeside (c_X12_isBeside l D cI cB cZ a_t a_t_now a_t_aside a_t_kept a_t_tape a_t_said a_t_waitsAt a_t_saidLetter a_t_saidFrom a_t_saidHalf a_t_saidTo a_t_codes a_t_clauseOf a_t_codeFrom a_t_codeHalf a_t_codeTo a_t_stack a_t_facts a_t_newLine a_t_canSit a_t_canNext a_t_singersIn a_t_freeAt a_t_beginsAt a_t_leastBy a_t_mostBy a_t_mostNext a_t_risesTo t_taped t_place0 t_length0 t_fault t_number0 t_open t_codeMany t_waiting t_saidMany t_clauses t_newMany t_lines t_stoodNow t_lastSeat t_climbedNow t_isKept t_now x4 1 1 z76 e76) ⟨rfl, rfl⟩ ⟨Nat.le_trans (by decide) hRf, Nat.le_trans (by decide) hRl⟩ ⟨hK, hN⟩ hP [0, 1] rfl 0 rfl rfl rfl hl.1 rfl (Nat.le_of_ble_eq_true rfl) ⟨Nat.zero_le _, Nat.zero_le _⟩ dX12_strangers_76 (fun hz_76 => ?_)
                refine lv_if_eq (tgt := 85) hx hb dX12_strangers_79 (by decide) (fun hc_79 => ?_) (fun hc_79 => ?_)
                · have hf := it_pos hc_79 hf
                  refine lv_iload_n hx hb dX12_strangers_85 rfl (lv_at hl 2 rfl) ?_
                  refine lv_iconst (v := 1) hx hb dX12_strangers_86 (by decide) ?_
                  refine lv_iadd hx hb dX12_strangers_87 ?_
                  refine lv_istore_n (lv' := [(2, .int (x2 + 1)), (0, .ref a_t), (1, .int x1), (3, .int x3), (4, .int x4)]) hx hb dX12_strangers_88 rfl hl (by decide) rfl (fun ls hl => ?_)
                  refine lv_iload hx hb dX12_strangers_89 (lv_at hl 4 rfl) ?_
                  refine lv_istore_n (lv' := [(3, .int x4), (2, .int (x2 + 1)), (0, .ref a_t), (1, .int x1), (4, .int x4)]) hx hb dX12_strangers_91 rfl hl (by decide) rfl (fun ls hl => ?_)
                  refine lv_iinc (v := x4 + (-1)) (lv' := [(4, .int (x4 + (-1))), (3, .int x4), (2, .int (x2 + 1)), (0, .ref a_t), (1, .int x1)]) hx hb dX12_strangers_92 hl (k := 4) rfl (congrArg (_ + ·) (by decide : Int32.ofInt (-1) = (-1))) (by decide) rfl (fun ls hl => ?_)
                  refine lv_goto (tgt := 21) hx hb dX12_strangers_95 (by decide) ?_
                  exact ih_21 _ _ _ _ _ hf (lv_sub hl [3, 4, 2, 1, 0] rfl)
                · have hf := it_neg hc_79 hf
                  refine lv_goto (tgt := 92) hx hb dX12_strangers_82 (by decide) ?_
                  refine lv_iinc (v := x4 + (-1)) (lv' := [(4, .int (x4 + (-1))), (0, .ref a_t), (1, .int x1), (2, .int x2), (3, .int x3)]) hx hb dX12_strangers_92 hl (k := 4) rfl (congrArg (_ + ·) (by decide : Int32.ofInt (-1) = (-1))) (by decide) rfl (fun ls hl => ?_)
                  refine lv_goto (tgt := 21) hx hb dX12_strangers_95 (by decide) ?_
                  exact ih_21 _ _ _ _ _ hf (lv_sub hl [1, 2, 3, 4, 0] rfl)
            refine lv_if_ne (tgt := 60) hx hb dX12_strangers_43 (by decide) (fun hc_43 => ?_) (fun hc_43 => ?_)
            · have hf := it_neg hc_43 hf
              exact J_60 _ _ _ _ _ hf (lv_sub hl [0, 1, 2, 3, 4] rfl)
            · have hf := it_pos hc_43 hf
              refine lv_aload_n hx hb dX12_strangers_46 rfl (lv_at hl 0 rfl) ?_
              refine lv_iload hx hb dX12_strangers_47 (lv_at hl 4 rfl) ?_
              refine lv_iconst (v := 1) hx hb dX12_strangers_49 (by decide) ?_
              refine lv_iconst (v := 0) hx hb dX12_strangers_50 (by decide) ?_
              obtain ⟨z51, e51, hf⟩ := bd_some hf
              refine rV_RO (As := [.int x4, .int 1, .int 0]) (rest := []) ⟨hx, hb, hml, hown, hT⟩ (gdV tb_1600 tb_1602 tb_82 tb_97 tb_1603) hd_X12_isBeside (c_X12_isBeside l D cI cB cZ a_t a_t_now a_t_aside a_t_kept a_t_tape a_t_said a_t_waitsAt a_t_saidLetter a_t_saidFrom a_t_saidHalf a_t_saidTo a_t_codes a_t_clauseOf a_t_codeFrom a_t_codeHalf a_t_codeTo a_t_stack a_t_facts a_t_newLine a_t_canSit a_t_canNext a_t_singersIn a_t_freeAt a_t_beginsAt a_t_leastBy a_t_mostBy a_t_mostNext a_t_risesTo t_taped t_place0 t_length0 t_fault t_number0 t_open t_codeMany t_waiting t_saidMany t_clauses t_newMany t_lines t_stoodNow t_lastSeat t_climbedNow t_isKept t_now x4 1 0 z51 e51) ⟨rfl, rfl⟩ ⟨Nat.le_trans (by decide) hRf, Nat.le_trans (by decide) hRl⟩ ⟨hK, hN⟩ hP [0, 1] rfl 0 rfl rfl rfl hl.1 rfl (Nat.le_of_ble_eq_true rfl) ⟨Nat.zero_le _, Nat.zero_le _⟩ dX12_strangers_51 (fun hz_51 => ?_)
              refine lv_if_ne (tgt := 60) hx hb dX12_strangers_54 (by decide) (fun hc_54 => ?_) (fun hc_54 => ?_)
              · have hf := it_neg hc_54 hf
                exact J_60 _ _ _ _ _ hf (lv_sub hl [0, 1, 2, 3, 4] rfl)
              · have hf := it_pos hc_54 hf
                refine lv_goto (tgt := 92) hx hb dX12_strangers_57 (by decide) ?_
                refine lv_iinc (v := x4 + (-1)) (lv' := [(4, .int (x4 + (-1))), (0, .ref a_t), (1, .int x1), (2, .int x2), (3, .int x3)]) hx hb dX12_strangers_92 hl (k := 4) rfl (congrArg (_ + ·) (by decide : Int32.ofInt (-1) = (-1))) (by decide) rfl (fun ls hl => ?_)
                refine lv_goto (tgt := 21) hx hb dX12_strangers_95 (by decide) ?_
                exact ih_21 _ _ _ _ _ hf (lv_sub hl [1, 2, 3, 4, 0] rfl)
    refine lv_istore (lv' := [(4, .int 143), (3, .int (-2)), (2, .int 0), (0, .ref a_t), (1, .int x1)]) hx hb dX12_strangers_19 hl (by decide) rfl (fun ls hl => ?_)
    exact J_21 _ _ _ _ _ _ hf (lv_sub hl [3, 4, 2, 1, 0] rfl)
  · have hf := it_pos hc_6 hf
    refine lv_iconst (v := (-1)) hx hb dX12_strangers_9 (by decide) ?_
    obtain rfl := Option.some.inj hf
    exact hQ 10 ls trivial dX12_strangers_10
theorem hd_X12_strangers : (yX12_strangers).cls = RX12 ∧ (yX12_strangers).cls ≠ "java/lang/invoke/MethodHandle" ∧ (yX12_strangers).cls ≠ "java/lang/invoke/VarHandle" ∧ (parseMethodDescriptor (yX12_strangers).desc).map (fun d => d.parameters.length) = some 1 := by decide +kernel
theorem c_X12_strangers (l : Launch) (D : va_G) (cI cB cZ : ClassId) (a_t : Nat) (a_t_now : Nat) (a_t_aside : Nat) (a_t_kept : Nat) (a_t_tape : Nat) (a_t_said : Nat) (a_t_waitsAt : Nat) (a_t_saidLetter : Nat) (a_t_saidFrom : Nat) (a_t_saidHalf : Nat) (a_t_saidTo : Nat) (a_t_codes : Nat) (a_t_clauseOf : Nat) (a_t_codeFrom : Nat) (a_t_codeHalf : Nat) (a_t_codeTo : Nat) (a_t_stack : Nat) (a_t_facts : Nat) (a_t_newLine : Nat) (a_t_canSit : Nat) (a_t_canNext : Nat) (a_t_singersIn : Nat) (a_t_freeAt : Nat) (a_t_beginsAt : Nat) (a_t_leastBy : Nat) (a_t_mostBy : Nat) (a_t_mostNext : Nat) (a_t_risesTo : Nat) (t_taped : Int32) (t_place0 : Int32) (t_length0 : Int32) (t_fault : Int32) (t_number0 : Int32) (t_open : Int32) (t_codeMany : Int32) (t_waiting : Int32) (t_saidMany : Int32) (t_clauses : Int32) (t_newMany : Int32) (t_lines : Int32) (t_stoodNow : Int32) (t_lastSeat : Int32) (t_climbedNow : Int32) (t_isKept : Int32) (t_now : (Nat → Int32)) (x1 : Int32) (res : Int32) (hf : f_X12_strangers t_now x1 = some res) : Met l yX12_strangers (.code yX12_strangers cX12_strangers 5 (some .int) :: TB) (rmk (2) (46)) (pRO [.ref a_t, .int x1] D cI cB cZ (w_X12_strangers cI cB cZ a_t a_t_now a_t_aside a_t_kept a_t_tape a_t_said a_t_waitsAt a_t_saidLetter a_t_saidFrom a_t_saidHalf a_t_saidTo a_t_codes a_t_clauseOf a_t_codeFrom a_t_codeHalf a_t_codeTo a_t_stack a_t_facts a_t_newLine a_t_canSit a_t_canNext a_t_singersIn a_t_freeAt a_t_beginsAt a_t_leastBy a_t_mostBy a_t_mostNext a_t_risesTo t_taped t_place0 t_length0 t_fault t_number0 t_open t_codeMany t_waiting t_saidMany t_clauses t_newMany t_lines t_stoodNow t_lastSeat t_climbedNow t_isKept t_now)) (qRO (some (.int res)) True) 0 0 (fun _ => False) :=
  mkRO (by decide +kernel) (Nat.le_of_ble_eq_true rfl) (fun p e s m below meth c ls S hr hlk hK hP hl => b_X12_strangers S.1 S.2.1 S.2.2.1 S.2.2.2.1 S.2.2.2.2 (Nat.le_refl _) (Nat.le_refl _) hK.1 hK.2 a_t a_t_now a_t_aside a_t_kept a_t_tape a_t_said a_t_waitsAt a_t_saidLetter a_t_saidFrom a_t_saidHalf a_t_saidTo a_t_codes a_t_clauseOf a_t_codeFrom a_t_codeHalf a_t_codeTo a_t_stack a_t_facts a_t_newLine a_t_canSit a_t_canNext a_t_singersIn a_t_freeAt a_t_beginsAt a_t_leastBy a_t_mostBy a_t_mostNext a_t_risesTo t_taped t_place0 t_length0 t_fault t_number0 t_open t_codeMany t_waiting t_saidMany t_clauses t_newMany t_lines t_stoodNow t_lastSeat t_climbedNow t_isKept t_now x1 res hf hP (fun pc ls hE hd => eRO_i S.1 S.2.1 hr rfl hlk hE hd) ls hl)
def f_X12_inLine_113 (t_now : (Nat → Int32)) (k18 : Int32 → Int32 → Int32 → Int32 → Option (Int32)) (x1 : Int32) (x2 : Int32) (x3 : Int32) (x4 : Int32) (x5 : Int32) : Option (Int32) := (f_X12_familyOf x5).bind (fun z117 => k18 x1 x2 (x3 ||| (1 <<< (z117 &&& 31))) (x4 + 1))
def f_X12_inLine_102 (t_now : (Nat → Int32)) (k18 : Int32 → Int32 → Int32 → Int32 → Option (Int32)) (x1 : Int32) (x2 : Int32) (x3 : Int32) (x4 : Int32) (x5 : Int32) (y0 : Int32) : Option (Int32) := (if y0 = 0 then f_X12_inLine_113 t_now k18 x1 x2 x3 x4 x5 else f_X12_inLine_113 t_now k18 x1 (x2 + 1) x3 x4 x5)
def f_X12_inLine_18 (t_now : (Nat → Int32)) : Nat → Int32 → Int32 → Int32 → Int32 → Option (Int32)
  | 0, _, _, _, _ => none
  | n + 1, x1, x2, x3, x4 => ix 637 632 ((if (t_now (632 : Int32).toNatClampNeg) ≤ x4 then (if x1 = 5 then some (x3) else some (x2)) else ix 637 (432 + x4) ((if 3 ≤ x1 then (if x1 = 3 then (f_X12_childOf (t_now (432 + x4).toNatClampNeg)).bind (fun z73 => (if z73 = 1 then f_X12_inLine_102 t_now (f_X12_inLine_18 t_now n) x1 x2 x3 x4 (t_now (432 + x4).toNatClampNeg) 1 else f_X12_inLine_102 t_now (f_X12_inLine_18 t_now n) x1 x2 x3 x4 (t_now (432 + x4).toNatClampNeg) 0)) else (f_X12_singerOf (t_now (432 + x4).toNatClampNeg)).bind (fun z90 => (if z90 = 1 then f_X12_inLine_102 t_now (f_X12_inLine_18 t_now n) x1 x2 x3 x4 (t_now (432 + x4).toNatClampNeg) 1 else f_X12_inLine_102 t_now (f_X12_inLine_18 t_now n) x1 x2 x3 x4 (t_now (432 + x4).toNatClampNeg) 0))) else (f_X12_sideOf (t_now (432 + x4).toNatClampNeg)).bind (fun z51 => (if z51 = x1 then f_X12_inLine_102 t_now (f_X12_inLine_18 t_now n) x1 x2 x3 x4 (t_now (432 + x4).toNatClampNeg) 1 else f_X12_inLine_102 t_now (f_X12_inLine_18 t_now n) x1 x2 x3 x4 (t_now (432 + x4).toNatClampNeg) 0))))))
def f_X12_inLine (t_now : (Nat → Int32)) (x1 : Int32) : Option (Int32) := (f_X12_in x1 0 5).bind (fun z3 => (if z3 = 0 then some ((-1)) else f_X12_inLine_18 t_now FU x1 0 0 0))
def w_X12_inLine (cI cB cZ : ClassId) (a_t : Nat) (a_t_now : Nat) (a_t_aside : Nat) (a_t_kept : Nat) (a_t_tape : Nat) (a_t_said : Nat) (a_t_waitsAt : Nat) (a_t_saidLetter : Nat) (a_t_saidFrom : Nat) (a_t_saidHalf : Nat) (a_t_saidTo : Nat) (a_t_codes : Nat) (a_t_clauseOf : Nat) (a_t_codeFrom : Nat) (a_t_codeHalf : Nat) (a_t_codeTo : Nat) (a_t_stack : Nat) (a_t_facts : Nat) (a_t_newLine : Nat) (a_t_canSit : Nat) (a_t_canNext : Nat) (a_t_singersIn : Nat) (a_t_freeAt : Nat) (a_t_beginsAt : Nat) (a_t_leastBy : Nat) (a_t_mostBy : Nat) (a_t_mostNext : Nat) (a_t_risesTo : Nat) (t_taped : Int32) (t_place0 : Int32) (t_length0 : Int32) (t_fault : Int32) (t_number0 : Int32) (t_open : Int32) (t_codeMany : Int32) (t_waiting : Int32) (t_saidMany : Int32) (t_clauses : Int32) (t_newMany : Int32) (t_lines : Int32) (t_stoodNow : Int32) (t_lastSeat : Int32) (t_climbedNow : Int32) (t_isKept : Int32) (t_now : (Nat → Int32)) : va_W := [(a_t, .inr (11, [.ref a_t_now, .ref a_t_aside, .ref a_t_kept, .ref a_t_tape, .int t_taped, .int t_place0, .int t_length0, .int t_fault, .int t_number0, .int t_open, .int t_codeMany, .int t_waiting, .int t_saidMany, .int t_clauses, .ref a_t_said, .ref a_t_waitsAt, .ref a_t_saidLetter, .ref a_t_saidFrom, .ref a_t_saidHalf, .ref a_t_saidTo, .ref a_t_codes, .ref a_t_clauseOf, .ref a_t_codeFrom, .ref a_t_codeHalf, .ref a_t_codeTo, .ref a_t_stack, .ref a_t_facts, .ref a_t_newLine, .int t_newMany, .int t_lines, .int t_stoodNow, .int t_lastSeat, .int t_climbedNow, .ref a_t_canSit, .ref a_t_canNext, .ref a_t_singersIn, .ref a_t_freeAt, .ref a_t_beginsAt, .ref a_t_leastBy, .ref a_t_mostBy, .ref a_t_mostNext, .ref a_t_risesTo, .int t_isKept])), (a_t_now, .inl (cI, 637, .inl t_now))]
set_option maxHeartbeats 4000000 in
set_option maxRecDepth 100000 in
theorem b_X12_inLine {p : Program} {l : Launch} {e : Env} {R : Room} {s : State} {m : MethodId} {args : Array Value} {below : List Frame} {meth : Method} {c : Code} {Q : State → Prop} {D : va_G} {cI cB cZ : ClassId} (hx : p.tables.exec = Jvm.exec) (hb : c.code = cX12_inLine) (hml : c.maxLocals = 7) (hown : s.vm.findClass RX12 = some m.cls) (hT : ∀ w ∈ TB, w.before args s = true) (hRf : (1) ≤ R.frames) (hRl : (22) ≤ R.locals) (hK : va_K D vwCl (tyL cI cB cZ) s) (hN : NW s)  (a_t : Nat) (a_t_now : Nat) (a_t_aside : Nat) (a_t_kept : Nat) (a_t_tape : Nat) (a_t_said : Nat) (a_t_waitsAt : Nat) (a_t_saidLetter : Nat) (a_t_saidFrom : Nat) (a_t_saidHalf : Nat) (a_t_saidTo : Nat) (a_t_codes : Nat) (a_t_clauseOf : Nat) (a_t_codeFrom : Nat) (a_t_codeHalf : Nat) (a_t_codeTo : Nat) (a_t_stack : Nat) (a_t_facts : Nat) (a_t_newLine : Nat) (a_t_canSit : Nat) (a_t_canNext : Nat) (a_t_singersIn : Nat) (a_t_freeAt : Nat) (a_t_beginsAt : Nat) (a_t_leastBy : Nat) (a_t_mostBy : Nat) (a_t_mostNext : Nat) (a_t_risesTo : Nat) (t_taped : Int32) (t_place0 : Int32) (t_length0 : Int32) (t_fault : Int32) (t_number0 : Int32) (t_open : Int32) (t_codeMany : Int32) (t_waiting : Int32) (t_saidMany : Int32) (t_clauses : Int32) (t_newMany : Int32) (t_lines : Int32) (t_stoodNow : Int32) (t_lastSeat : Int32) (t_climbedNow : Int32) (t_isKept : Int32) (t_now : (Nat → Int32)) (x1 : Int32) (res : Int32) (hf : f_X12_inLine t_now x1 = some res) (hP : va_P D vwCl (w_X12_inLine cI cB cZ a_t a_t_now a_t_aside a_t_kept a_t_tape a_t_said a_t_waitsAt a_t_saidLetter a_t_saidFrom a_t_saidHalf a_t_saidTo a_t_codes a_t_clauseOf a_t_codeFrom a_t_codeHalf a_t_codeTo a_t_stack a_t_facts a_t_newLine a_t_canSit a_t_canNext a_t_singersIn a_t_freeAt a_t_beginsAt a_t_leastBy a_t_mostBy a_t_mostNext a_t_risesTo t_taped t_place0 t_length0 t_fault t_number0 t_open t_codeMany t_waiting t_saidMany t_clauses t_newMany t_lines t_stoodNow t_lastSeat t_climbedNow t_isKept t_now) s.heap) (hQ : ∀ (pc : Nat) (ls : Array Slot), True → decode cX12_inLine pc = .ok (.ireturn, 1) → W p l e R s m args below meth c s.heap [] 0 0 Q (F0 m pc ls [.int res])) (ls : Array Slot) (hl : lv_has ls 7 [(0, .ref a_t), (1, .int x1)]) : W p l e R s m args below meth c s.heap [] 0 0 Q (F0 m 0 ls []) := by
  unfold f_X12_inLine at hf
  refine lv_iload_n hx hb dX12_inLine_0 rfl (lv_at hl 1 rfl) ?_
  refine lv_iconst (v := 0) hx hb dX12_inLine_1 (by decide) ?_
  refine lv_iconst (v := 5) hx hb dX12_inLine_2 (by decide) ?_
  obtain ⟨z3, e3, hf⟩ := bd_some hf
  refine rS_RO (As := [.int x1, .int 0, .int 5]) (rest := []) ⟨hx, hb, hml, hown, hT⟩ (gdS tb_1283 tb_1284 tb_97 tb_1285) hd_X12_in (c_X12_in l D cI cB cZ x1 0 5 z3 e3) ⟨rfl, rfl⟩ ⟨Nat.le_trans (by decide) hRf, Nat.le_trans (by decide) hRl⟩ ⟨hK, hN⟩ hP [] rfl rfl hl.1 rfl (Nat.le_of_ble_eq_true rfl) ⟨Nat.zero_le _, Nat.zero_le _⟩ dX12_inLine_3 (fun hz_3 => ?_)
  refine lv_if_ne (tgt := 11) hx hb dX12_inLine_6 (by decide) (fun hc_6 => ?_) (fun hc_6 => ?_)
  · have hf := it_neg hc_6 hf
    refine lv_iconst (v := 0) hx hb dX12_inLine_11 (by decide) ?_
    refine lv_istore_n (lv' := [(2, .int 0), (0, .ref a_t), (1, .int x1)]) hx hb dX12_inLine_12 rfl hl (by decide) rfl (fun ls hl => ?_)
    refine lv_iconst (v := 0) hx hb dX12_inLine_13 (by decide) ?_
    refine lv_istore_n (lv' := [(3, .int 0), (2, .int 0), (0, .ref a_t), (1, .int x1)]) hx hb dX12_inLine_14 rfl hl (by decide) rfl (fun ls hl => ?_)
    refine lv_iconst (v := 0) hx hb dX12_inLine_15 (by decide) ?_
    have J_18 : ∀ (n_18 : Nat) (x1 : Int32) (x2 : Int32) (x3 : Int32) (x4 : Int32) (ls : Array Slot), f_X12_inLine_18 t_now n_18 x1 x2 x3 x4 = some res → lv_has ls 7 [(0, .ref a_t), (1, .int x1), (2, .int x2), (3, .int x3), (4, .int x4)] → W p l e R s m args below meth c s.heap [] 0 0 Q (F0 m 18 ls []) := by
      intro n_18
      induction n_18 with
      | zero =>
        intro x1 x2 x3 x4 ls hf hl
        cases hf
      | succ n_18 ih_18 =>
        intro x1 x2 x3 x4 ls hf hl
        unfold f_X12_inLine_18 at hf
        refine lv_iload hx hb dX12_inLine_18 (lv_at hl 4 rfl) ?_
        refine lv_aload_n hx hb dX12_inLine_20 rfl (lv_at hl 0 rfl) ?_
        refine va_get (D := D) (ci := 11) (v := .ref a_t_now) (C := RX12) (T := TX12) (N := 43) hx hb hT inX12 hown hK hP 0 rfl rfl 0 (by decide) (hT _ tb_1148) (fun _ h9 => h9) rfl dX12_inLine_21 ?_
        refine lv_sipush (v := 632) hx hb dX12_inLine_24 (by decide) ?_
        obtain ⟨hi_27, hf⟩ := ix_some hf
        refine va_iald hx hb hK hP 1 0 rfl rfl hi_27 dX12_inLine_27 ?_
        refine lv_icmp_ge (tgt := 129) hx hb dX12_inLine_28 (by decide) (fun hc_28 => ?_) (fun hc_28 => ?_)
        · have hf := it_pos hc_28 hf
          refine lv_iload_n hx hb dX12_inLine_129 rfl (lv_at hl 1 rfl) ?_
          refine lv_iconst (v := 5) hx hb dX12_inLine_130 (by decide) ?_
          refine lv_icmp_ne (tgt := 138) hx hb dX12_inLine_131 (by decide) (fun hc_131 => ?_) (fun hc_131 => ?_)
          · have hf := it_neg hc_131 hf
            refine lv_iload_n hx hb dX12_inLine_138 rfl (lv_at hl 2 rfl) ?_
            obtain rfl := Option.some.inj hf
            exact hQ 139 ls trivial dX12_inLine_139
          · have hf := it_pos hc_131 hf
            refine lv_iload_n hx hb dX12_inLine_134 rfl (lv_at hl 3 rfl) ?_
            refine lv_goto (tgt := 139) hx hb dX12_inLine_135 (by decide) ?_
            obtain rfl := Option.some.inj hf
            exact hQ 139 ls trivial dX12_inLine_139
        · have hf := it_neg hc_28 hf
          refine lv_aload_n hx hb dX12_inLine_31 rfl (lv_at hl 0 rfl) ?_
          refine va_get (D := D) (ci := 11) (v := .ref a_t_now) (C := RX12) (T := TX12) (N := 43) hx hb hT inX12 hown hK hP 0 rfl rfl 0 (by decide) (hT _ tb_1148) (fun _ h9 => h9) rfl dX12_inLine_32 ?_
          refine lv_sipush (v := 432) hx hb dX12_inLine_35 (by decide) ?_
          refine lv_iload hx hb dX12_inLine_38 (lv_at hl 4 rfl) ?_
          refine lv_iadd hx hb dX12_inLine_40 ?_
          obtain ⟨hi_41, hf⟩ := ix_some hf
          refine va_iald hx hb hK hP 1 0 rfl rfl hi_41 dX12_inLine_41 ?_
          refine lv_istore (lv' := [(5, .int (t_now (432 + x4).toNatClampNeg)), (0, .ref a_t), (1, .int x1), (2, .int x2), (3, .int x3), (4, .int x4)]) hx hb dX12_inLine_42 hl (by decide) rfl (fun ls hl => ?_)
          refine lv_iload_n hx hb dX12_inLine_44 rfl (lv_at hl 2 rfl) ?_
          refine lv_iconst (v := 3) hx hb dX12_inLine_45 (by decide) ?_
          have J_102 : ∀ (x1 : Int32) (x2 : Int32) (x3 : Int32) (x4 : Int32) (x5 : Int32) (y0 : Int32) (ls : Array Slot), f_X12_inLine_102 t_now (f_X12_inLine_18 t_now n_18) x1 x2 x3 x4 x5 y0 = some res → lv_has ls 7 [(0, .ref a_t), (1, .int x1), (2, .int x2), (3, .int x3), (4, .int x4), (5, .int x5)] → W p l e R s m args below meth c s.heap [] 0 0 Q (F0 m 102 ls [.int y0]) := by
            intro x1 x2 x3 x4 x5 y0 ls hf hl
            unfold f_X12_inLine_102 at hf
            refine lv_istore (lv' := [(6, .int y0), (0, .ref a_t), (1, .int x1), (2, .int x2), (3, .int x3), (4, .int x4), (5, .int x5)]) hx hb dX12_inLine_102 hl (by decide) rfl (fun ls hl => ?_)
            refine lv_iload hx hb dX12_inLine_104 (lv_at hl 0 rfl) ?_
            have J_113 : ∀ (x1 : Int32) (x2 : Int32) (x3 : Int32) (x4 : Int32) (x5 : Int32) (ls : Array Slot), f_X12_inLine_113 t_now (f_X12_inLine_18 t_now n_18) x1 x2 x3 x4 x5 = some res → lv_has ls 7 [(0, .ref a_t), (1, .int x1), (2, .int x2), (3, .int x3), (4, .int x4), (5, .int x5)] → W p l e R s m args below meth c s.heap [] 0 0 Q (F0 m 113 ls []) := by
              intro x1 x2 x3 x4 x5 ls hf hl
              unfold f_X12_inLine_113 at hf
              refine lv_iload_n hx hb dX12_inLine_113 rfl (lv_at hl 3 rfl) ?_
              refine lv_iconst (v := 1) hx hb dX12_inLine_114 (by decide) ?_
              refine lv_iload hx hb dX12_inLine_115 (lv_at hl 5 rfl) ?_
              obtain ⟨z117, e117, hf⟩ := bd_some hf
              refine rS_RO (As := [.int x5]) (rest := [.int 1, .int x3]) ⟨hx, hb, hml, hown, hT⟩ (gdS tb_1431 tb_1432 tb_97 tb_1433) hd_X12_familyOf (c_X12_familyOf l D cI cB cZ x5 z117 e117) ⟨rfl, rfl⟩ ⟨Nat.le_trans (by decide) hRf, Nat.le_trans (by decide) hRl⟩ ⟨hK, hN⟩ hP [] rfl rfl hl.1 rfl (Nat.le_of_ble_eq_true rfl) ⟨Nat.zero_le _, Nat.zero_le _⟩ dX12_inLine_117 (fun _ => ?_)
              refine lv_ishl hx hb dX12_inLine_120 ?_
              refine lv_ior hx hb dX12_inLine_121 ?_
              refine lv_istore_n (lv' := [(3, .int (x3 ||| (1 <<< (z117 &&& 31)))), (0, .ref a_t), (1, .int x1), (2, .int x2), (4, .int x4), (5, .int x5)]) hx hb dX12_inLine_122 rfl hl (by decide) rfl (fun ls hl => ?_)
              refine lv_iinc (v := x4 + 1) (lv' := [(4, .int (x4 + 1)), (3, .int (x3 ||| (1 <<< (z117 &&& 31)))), (0, .ref a_t), (1, .int x1), (2, .int x2), (5, .int x5)]) hx hb dX12_inLine_123 hl (k := 4) rfl (congrArg (_ + ·) (by decide : Int32.ofInt 1 = 1)) (by decide) rfl (fun ls hl => ?_)
              refine lv_goto (tgt := 18) hx hb dX12_inLine_126 (by decide) ?_
              exact ih_18 _ _ _ _ _ hf (lv_sub hl [2, 3, 4, 1, 0] rfl)
            refine lv_if_eq (tgt := 113) hx hb dX12_inLine_106 (by decide) (fun hc_106 => ?_) (fun hc_106 => ?_)
            · have hf := it_pos hc_106 hf
              exact J_113 _ _ _ _ _ _ hf (lv_sub hl [1, 2, 3, 4, 5, 6] rfl)
            · have hf := it_neg hc_106 hf
              refine lv_iload_n hx hb dX12_inLine_109 rfl (lv_at hl 3 rfl) ?_
              refine lv_iconst (v := 1) hx hb dX12_inLine_110 (by decide) ?_
              refine lv_iadd hx hb dX12_inLine_111 ?_
              refine lv_istore_n (lv' := [(2, .int (x2 + 1)), (6, .int y0), (0, .ref a_t), (1, .int x1), (3, .int x3), (4, .int x4), (5, .int x5)]) hx hb dX12_inLine_112 rfl hl (by decide) rfl (fun ls hl => ?_)
              exact J_113 _ _ _ _ _ _ hf (lv_sub hl [2, 3, 0, 4, 5, 6] rfl)
          refine lv_icmp_ge (tgt := 66) hx hb dX12_inLine_46 (by decide) (fun hc_46 => ?_) (fun hc_46 => ?_)
          · have hf := it_pos hc_46 hf
            refine lv_iload_n hx hb dX12_inLine_66 rfl (lv_at hl 2 rfl) ?_
            refine lv_iconst (v := 3) hx hb dX12_inLine_67 (by decide) ?_
            refine lv_icmp_ne (tgt := 88) hx hb dX12_inLine_68 (by decide) (fun hc_68 => ?_) (fun hc_68 => ?_)
            · have hf := it_neg hc_68 hf
              refine lv_iload hx hb dX12_inLine_88 (lv_at hl 0 rfl) ?_
              obtain ⟨z90, e90, hf⟩ := bd_some hf
              refine rS_RO (As := [.int (t_now (432 + x4).toNatClampNeg)]) (rest := []) ⟨hx, hb, hml, hown, hT⟩ (gdS tb_1440 tb_1441 tb_97 tb_1442) hd_X12_singerOf (c_X12_singerOf l D cI cB cZ (t_now (432 + x4).toNatClampNeg) z90 e90) ⟨rfl, rfl⟩ ⟨Nat.le_trans (by decide) hRf, Nat.le_trans (by decide) hRl⟩ ⟨hK, hN⟩ hP [] rfl rfl hl.1 rfl (Nat.le_of_ble_eq_true rfl) ⟨Nat.zero_le _, Nat.zero_le _⟩ dX12_inLine_90 (fun _ => ?_)
              refine lv_iconst (v := 1) hx hb dX12_inLine_93 (by decide) ?_
              refine lv_icmp_ne (tgt := 101) hx hb dX12_inLine_94 (by decide) (fun hc_94 => ?_) (fun hc_94 => ?_)
              · have hf := it_neg hc_94 hf
                refine lv_iconst (v := 0) hx hb dX12_inLine_101 (by decide) ?_
                exact J_102 _ _ _ _ _ _ _ hf (lv_sub hl [1, 2, 3, 4, 5, 0] rfl)
              · have hf := it_pos hc_94 hf
                refine lv_iconst (v := 1) hx hb dX12_inLine_97 (by decide) ?_
                refine lv_goto (tgt := 102) hx hb dX12_inLine_98 (by decide) ?_
                exact J_102 _ _ _ _ _ _ _ hf (lv_sub hl [1, 2, 3, 4, 5, 0] rfl)
            · have hf := it_pos hc_68 hf
              refine lv_iload hx hb dX12_inLine_71 (lv_at hl 0 rfl) ?_
              obtain ⟨z73, e73, hf⟩ := bd_some hf
              refine rS_RO (As := [.int (t_now (432 + x4).toNatClampNeg)]) (rest := []) ⟨hx, hb, hml, hown, hT⟩ (gdS tb_1437 tb_1438 tb_97 tb_1439) hd_X12_childOf (c_X12_childOf l D cI cB cZ (t_now (432 + x4).toNatClampNeg) z73 e73) ⟨rfl, rfl⟩ ⟨Nat.le_trans (by decide) hRf, Nat.le_trans (by decide) hRl⟩ ⟨hK, hN⟩ hP [] rfl rfl hl.1 rfl (Nat.le_of_ble_eq_true rfl) ⟨Nat.zero_le _, Nat.zero_le _⟩ dX12_inLine_73 (fun _ => ?_)
              refine lv_iconst (v := 1) hx hb dX12_inLine_76 (by decide) ?_
              refine lv_icmp_ne (tgt := 84) hx hb dX12_inLine_77 (by decide) (fun hc_77 => ?_) (fun hc_77 => ?_)
              · have hf := it_neg hc_77 hf
                refine lv_iconst (v := 0) hx hb dX12_inLine_84 (by decide) ?_
                refine lv_goto (tgt := 102) hx hb dX12_inLine_85 (by decide) ?_
                exact J_102 _ _ _ _ _ _ _ hf (lv_sub hl [1, 2, 3, 4, 5, 0] rfl)
              · have hf := it_pos hc_77 hf
                refine lv_iconst (v := 1) hx hb dX12_inLine_80 (by decide) ?_
                refine lv_goto (tgt := 102) hx hb dX12_inLine_81 (by decide) ?_
                exact J_102 _ _ _ _ _ _ _ hf (lv_sub hl [1, 2, 3, 4, 5, 0] rfl)
          · have hf := it_neg hc_46 hf
            refine lv_iload hx hb dX12_inLine_49 (lv_at hl 0 rfl) ?_
            obtain ⟨z51, e51, hf⟩ := bd_some hf
            refine rS_RO (As := [.int (t_now (432 + x4).toNatClampNeg)]) (rest := []) ⟨hx, hb, hml, hown, hT⟩ (gdS tb_1428 tb_1429 tb_97 tb_1430) hd_X12_sideOf (c_X12_sideOf l D cI cB cZ (t_now (432 + x4).toNatClampNeg) z51 e51) ⟨rfl, rfl⟩ ⟨Nat.le_trans (by decide) hRf, Nat.le_trans (by decide) hRl⟩ ⟨hK, hN⟩ hP [] rfl rfl hl.1 rfl (Nat.le_of_ble_eq_true rfl) ⟨Nat.zero_le _, Nat.zero_le _⟩ dX12_inLine_51 (fun _ => ?_)
            refine lv_iload_n hx hb dX12_inLine_54 rfl (lv_at hl 2 rfl) ?_
            refine lv_icmp_ne (tgt := 62) hx hb dX12_inLine_55 (by decide) (fun hc_55 => ?_) (fun hc_55 => ?_)
            · have hf := it_neg hc_55 hf
              refine lv_iconst (v := 0) hx hb dX12_inLine_62 (by decide) ?_
              refine lv_goto (tgt := 102) hx hb dX12_inLine_63 (by decide) ?_
              exact J_102 _ _ _ _ _ _ _ hf (lv_sub hl [1, 2, 3, 4, 5, 0] rfl)
            · have hf := it_pos hc_55 hf
              refine lv_iconst (v := 1) hx hb dX12_inLine_58 (by decide) ?_
              refine lv_goto (tgt := 102) hx hb dX12_inLine_59 (by decide) ?_
              exact J_102 _ _ _ _ _ _ _ hf (lv_sub hl [1, 2, 3, 4, 5, 0] rfl)
    refine lv_istore (lv' := [(4, .int 0), (3, .int 0), (2, .int 0), (0, .ref a_t), (1, .int x1)]) hx hb dX12_inLine_16 hl (by decide) rfl (fun ls hl => ?_)
    exact J_18 _ _ _ _ _ _ hf (lv_sub hl [3, 4, 2, 1, 0] rfl)
  · have hf := it_pos hc_6 hf
    refine lv_iconst (v := (-1)) hx hb dX12_inLine_9 (by decide) ?_
    obtain rfl := Option.some.inj hf
    exact hQ 10 ls trivial dX12_inLine_10
theorem hd_X12_inLine : (yX12_inLine).cls = RX12 ∧ (yX12_inLine).cls ≠ "java/lang/invoke/MethodHandle" ∧ (yX12_inLine).cls ≠ "java/lang/invoke/VarHandle" ∧ (parseMethodDescriptor (yX12_inLine).desc).map (fun d => d.parameters.length) = some 1 := by decide +kernel
theorem c_X12_inLine (l : Launch) (D : va_G) (cI cB cZ : ClassId) (a_t : Nat) (a_t_now : Nat) (a_t_aside : Nat) (a_t_kept : Nat) (a_t_tape : Nat) (a_t_said : Nat) (a_t_waitsAt : Nat) (a_t_saidLetter : Nat) (a_t_saidFrom : Nat) (a_t_saidHalf : Nat) (a_t_saidTo : Nat) (a_t_codes : Nat) (a_t_clauseOf : Nat) (a_t_codeFrom : Nat) (a_t_codeHalf : Nat) (a_t_codeTo : Nat) (a_t_stack : Nat) (a_t_facts : Nat) (a_t_newLine : Nat) (a_t_canSit : Nat) (a_t_canNext : Nat) (a_t_singersIn : Nat) (a_t_freeAt : Nat) (a_t_beginsAt : Nat) (a_t_leastBy : Nat) (a_t_mostBy : Nat) (a_t_mostNext : Nat) (a_t_risesTo : Nat) (t_taped : Int32) (t_place0 : Int32) (t_length0 : Int32) (t_fault : Int32) (t_number0 : Int32) (t_open : Int32) (t_codeMany : Int32) (t_waiting : Int32) (t_saidMany : Int32) (t_clauses : Int32) (t_newMany : Int32) (t_lines : Int32) (t_stoodNow : Int32) (t_lastSeat : Int32) (t_climbedNow : Int32) (t_isKept : Int32) (t_now : (Nat → Int32)) (x1 : Int32) (res : Int32) (hf : f_X12_inLine t_now x1 = some res) : Met l yX12_inLine (.code yX12_inLine cX12_inLine 7 (some .int) :: TB) (rmk (1) (22)) (pRO [.ref a_t, .int x1] D cI cB cZ (w_X12_inLine cI cB cZ a_t a_t_now a_t_aside a_t_kept a_t_tape a_t_said a_t_waitsAt a_t_saidLetter a_t_saidFrom a_t_saidHalf a_t_saidTo a_t_codes a_t_clauseOf a_t_codeFrom a_t_codeHalf a_t_codeTo a_t_stack a_t_facts a_t_newLine a_t_canSit a_t_canNext a_t_singersIn a_t_freeAt a_t_beginsAt a_t_leastBy a_t_mostBy a_t_mostNext a_t_risesTo t_taped t_place0 t_length0 t_fault t_number0 t_open t_codeMany t_waiting t_saidMany t_clauses t_newMany t_lines t_stoodNow t_lastSeat t_climbedNow t_isKept t_now)) (qRO (some (.int res)) True) 0 0 (fun _ => False) :=
  mkRO (by decide +kernel) (Nat.le_of_ble_eq_true rfl) (fun p e s m below meth c ls S hr hlk hK hP hl => b_X12_inLine S.1 S.2.1 S.2.2.1 S.2.2.2.1 S.2.2.2.2 (Nat.le_refl _) (Nat.le_refl _) hK.1 hK.2 a_t a_t_now a_t_aside a_t_kept a_t_tape a_t_said a_t_waitsAt a_t_saidLetter a_t_saidFrom a_t_saidHalf a_t_saidTo a_t_codes a_t_clauseOf a_t_codeFrom a_t_codeHalf a_t_codeTo a_t_stack a_t_facts a_t_newLine a_t_canSit a_t_canNext a_t_singersIn a_t_freeAt a_t_beginsAt a_t_leastBy a_t_mostBy a_t_mostNext a_t_risesTo t_taped t_place0 t_length0 t_fault t_number0 t_open t_codeMany t_waiting t_saidMany t_clauses t_newMany t_lines t_stoodNow t_lastSeat t_climbedNow t_isKept t_now x1 res hf hP (fun pc ls hE hd => eRO_i S.1 S.2.1 hr rfl hlk hE hd) ls hl)
def f_X12_edge_97 (t_now : (Nat → Int32)) (k18 : Int32 → Int32 → Int32 → Int32 → Option (Int32)) (k35 : Int32 → Int32 → Int32 → Int32 → Int32 → Int32 → Option (Int32)) (x1 : Int32) (x2 : Int32) (x3 : Int32) (x4 : Int32) (x5 : Int32) (x6 : Int32) (x7 : Int32) : Option (Int32) := (if x7 = 0 then k35 x1 x2 x3 x4 1 (x6 + 1) else (if x5 = 0 then k35 x1 (x2 + 1) x3 x4 1 (x6 + 1) else k35 x1 x2 x3 x4 1 (x6 + 1)))
def f_X12_edge_81 (t_now : (Nat → Int32)) (k18 : Int32 → Int32 → Int32 → Int32 → Option (Int32)) (k35 : Int32 → Int32 → Int32 → Int32 → Int32 → Int32 → Option (Int32)) (x1 : Int32) (x2 : Int32) (x3 : Int32) (x4 : Int32) (x5 : Int32) (x6 : Int32) (y0 : Int32) : Option (Int32) := (if y0 = 0 then f_X12_edge_97 t_now k18 k35 x1 x2 x3 x4 x5 x6 y0 else (if x5 = 0 then f_X12_edge_97 t_now k18 k35 x1 x2 x3 x4 x5 x6 y0 else f_X12_edge_97 t_now k18 k35 x1 x2 (x3 + 1) x4 x5 x6 y0))
def f_X12_edge_35 (t_now : (Nat → Int32)) (k18 : Int32 → Int32 → Int32 → Int32 → Option (Int32)) : Nat → Int32 → Int32 → Int32 → Int32 → Int32 → Int32 → Option (Int32)
  | 0, _, _, _, _, _, _ => none
  | n + 1, x1, x2, x3, x4, x5, x6 => (if ((9 * x4) + 9) ≤ x6 then k18 x1 x2 x3 (x4 + 1) else (f_X12_isTaken t_now x6).bind (fun z51 => (if z51 = 0 then (f_X12_edge_35 t_now k18 n) x1 x2 x3 x4 x5 (x6 + 1) else ix 637 (0 + x6) ((f_X12_childOf (t_now (0 + x6).toNatClampNeg)).bind (fun z69 => (if z69 = 1 then f_X12_edge_81 t_now k18 (f_X12_edge_35 t_now k18 n) x1 x2 x3 x4 x5 x6 1 else f_X12_edge_81 t_now k18 (f_X12_edge_35 t_now k18 n) x1 x2 x3 x4 x5 x6 0))))))
def f_X12_edge_18 (t_now : (Nat → Int32)) : Nat → Int32 → Int32 → Int32 → Int32 → Option (Int32)
  | 0, _, _, _, _ => none
  | n + 1, x1, x2, x3, x4 => (if 16 ≤ x4 then (if x1 = 0 then some (x2) else some (x3)) else f_X12_edge_35 t_now (f_X12_edge_18 t_now n) FU x1 x2 x3 x4 0 (9 * x4))
def f_X12_edge (t_now : (Nat → Int32)) (x1 : Int32) : Option (Int32) := (f_X12_in x1 0 1).bind (fun z3 => (if z3 = 0 then some ((-1)) else f_X12_edge_18 t_now FU x1 0 0 0))
def w_X12_edge (cI cB cZ : ClassId) (a_t : Nat) (a_t_now : Nat) (a_t_aside : Nat) (a_t_kept : Nat) (a_t_tape : Nat) (a_t_said : Nat) (a_t_waitsAt : Nat) (a_t_saidLetter : Nat) (a_t_saidFrom : Nat) (a_t_saidHalf : Nat) (a_t_saidTo : Nat) (a_t_codes : Nat) (a_t_clauseOf : Nat) (a_t_codeFrom : Nat) (a_t_codeHalf : Nat) (a_t_codeTo : Nat) (a_t_stack : Nat) (a_t_facts : Nat) (a_t_newLine : Nat) (a_t_canSit : Nat) (a_t_canNext : Nat) (a_t_singersIn : Nat) (a_t_freeAt : Nat) (a_t_beginsAt : Nat) (a_t_leastBy : Nat) (a_t_mostBy : Nat) (a_t_mostNext : Nat) (a_t_risesTo : Nat) (t_taped : Int32) (t_place0 : Int32) (t_length0 : Int32) (t_fault : Int32) (t_number0 : Int32) (t_open : Int32) (t_codeMany : Int32) (t_waiting : Int32) (t_saidMany : Int32) (t_clauses : Int32) (t_newMany : Int32) (t_lines : Int32) (t_stoodNow : Int32) (t_lastSeat : Int32) (t_climbedNow : Int32) (t_isKept : Int32) (t_now : (Nat → Int32)) : va_W := [(a_t, .inr (11, [.ref a_t_now, .ref a_t_aside, .ref a_t_kept, .ref a_t_tape, .int t_taped, .int t_place0, .int t_length0, .int t_fault, .int t_number0, .int t_open, .int t_codeMany, .int t_waiting, .int t_saidMany, .int t_clauses, .ref a_t_said, .ref a_t_waitsAt, .ref a_t_saidLetter, .ref a_t_saidFrom, .ref a_t_saidHalf, .ref a_t_saidTo, .ref a_t_codes, .ref a_t_clauseOf, .ref a_t_codeFrom, .ref a_t_codeHalf, .ref a_t_codeTo, .ref a_t_stack, .ref a_t_facts, .ref a_t_newLine, .int t_newMany, .int t_lines, .int t_stoodNow, .int t_lastSeat, .int t_climbedNow, .ref a_t_canSit, .ref a_t_canNext, .ref a_t_singersIn, .ref a_t_freeAt, .ref a_t_beginsAt, .ref a_t_leastBy, .ref a_t_mostBy, .ref a_t_mostNext, .ref a_t_risesTo, .int t_isKept])), (a_t_now, .inl (cI, 637, .inl t_now))]
set_option maxHeartbeats 4000000 in
set_option maxRecDepth 100000 in
theorem b_X12_edge {p : Program} {l : Launch} {e : Env} {R : Room} {s : State} {m : MethodId} {args : Array Value} {below : List Frame} {meth : Method} {c : Code} {Q : State → Prop} {D : va_G} {cI cB cZ : ClassId} (hx : p.tables.exec = Jvm.exec) (hb : c.code = cX12_edge) (hml : c.maxLocals = 8) (hown : s.vm.findClass RX12 = some m.cls) (hT : ∀ w ∈ TB, w.before args s = true) (hRf : (1) ≤ R.frames) (hRl : (22) ≤ R.locals) (hK : va_K D vwCl (tyL cI cB cZ) s) (hN : NW s)  (a_t : Nat) (a_t_now : Nat) (a_t_aside : Nat) (a_t_kept : Nat) (a_t_tape : Nat) (a_t_said : Nat) (a_t_waitsAt : Nat) (a_t_saidLetter : Nat) (a_t_saidFrom : Nat) (a_t_saidHalf : Nat) (a_t_saidTo : Nat) (a_t_codes : Nat) (a_t_clauseOf : Nat) (a_t_codeFrom : Nat) (a_t_codeHalf : Nat) (a_t_codeTo : Nat) (a_t_stack : Nat) (a_t_facts : Nat) (a_t_newLine : Nat) (a_t_canSit : Nat) (a_t_canNext : Nat) (a_t_singersIn : Nat) (a_t_freeAt : Nat) (a_t_beginsAt : Nat) (a_t_leastBy : Nat) (a_t_mostBy : Nat) (a_t_mostNext : Nat) (a_t_risesTo : Nat) (t_taped : Int32) (t_place0 : Int32) (t_length0 : Int32) (t_fault : Int32) (t_number0 : Int32) (t_open : Int32) (t_codeMany : Int32) (t_waiting : Int32) (t_saidMany : Int32) (t_clauses : Int32) (t_newMany : Int32) (t_lines : Int32) (t_stoodNow : Int32) (t_lastSeat : Int32) (t_climbedNow : Int32) (t_isKept : Int32) (t_now : (Nat → Int32)) (x1 : Int32) (res : Int32) (hf : f_X12_edge t_now x1 = some res) (hP : va_P D vwCl (w_X12_edge cI cB cZ a_t a_t_now a_t_aside a_t_kept a_t_tape a_t_said a_t_waitsAt a_t_saidLetter a_t_saidFrom a_t_saidHalf a_t_saidTo a_t_codes a_t_clauseOf a_t_codeFrom a_t_codeHalf a_t_codeTo a_t_stack a_t_facts a_t_newLine a_t_canSit a_t_canNext a_t_singersIn a_t_freeAt a_t_beginsAt a_t_leastBy a_t_mostBy a_t_mostNext a_t_risesTo t_taped t_place0 t_length0 t_fault t_number0 t_open t_codeMany t_waiting t_saidMany t_clauses t_newMany t_lines t_stoodNow t_lastSeat t_climbedNow t_isKept t_now) s.heap) (hQ : ∀ (pc : Nat) (ls : Array Slot), True → decode cX12_edge pc = .ok (.ireturn, 1) → W p l e R s m args below meth c s.heap [] 0 0 Q (F0 m pc ls [.int res])) (ls : Array Slot) (hl : lv_has ls 8 [(0, .ref a_t), (1, .int x1)]) : W p l e R s m args below meth c s.heap [] 0 0 Q (F0 m 0 ls []) := by
  unfold f_X12_edge at hf
  refine lv_iload_n hx hb dX12_edge_0 rfl (lv_at hl 1 rfl) ?_
  refine lv_iconst (v := 0) hx hb dX12_edge_1 (by decide) ?_
  refine lv_iconst (v := 1) hx hb dX12_edge_2 (by decide) ?_
  obtain ⟨z3, e3, hf⟩ := bd_some hf
  refine rS_RO (As := [.int x1, .int 0, .int 1]) (rest := []) ⟨hx, hb, hml, hown, hT⟩ (gdS tb_1283 tb_1284 tb_97 tb_1285) hd_X12_in (c_X12_in l D cI cB cZ x1 0 1 z3 e3) ⟨rfl, rfl⟩ ⟨Nat.le_trans (by decide) hRf, Nat.le_trans (by decide) hRl⟩ ⟨hK, hN⟩ hP [] rfl rfl hl.1 rfl (Nat.le_of_ble_eq_true rfl) ⟨Nat.zero_le _, Nat.zero_le _⟩ dX12_edge_3 (fun hz_3 => ?_)
  refine lv_if_ne (tgt := 11) hx hb dX12_edge_6 (by decide) (fun hc_6 => ?_) (fun hc_6 => ?_)
  · have hf := it_neg hc_6 hf
    refine lv_iconst (v := 0) hx hb dX12_edge_11 (by decide) ?_
    refine lv_istore_n (lv' := [(2, .int 0), (0, .ref a_t), (1, .int x1)]) hx hb dX12_edge_12 rfl hl (by decide) rfl (fun ls hl => ?_)
    refine lv_iconst (v := 0) hx hb dX12_edge_13 (by decide) ?_
    refine lv_istore_n (lv' := [(3, .int 0), (2, .int 0), (0, .ref a_t), (1, .int x1)]) hx hb dX12_edge_14 rfl hl (by decide) rfl (fun ls hl => ?_)
    refine lv_iconst (v := 0) hx hb dX12_edge_15 (by decide) ?_
    have J_18 : ∀ (n_18 : Nat) (x1 : Int32) (x2 : Int32) (x3 : Int32) (x4 : Int32) (ls : Array Slot), f_X12_edge_18 t_now n_18 x1 x2 x3 x4 = some res → lv_has ls 8 [(0, .ref a_t), (1, .int x1), (2, .int x2), (3, .int x3), (4, .int x4)] → W p l e R s m args below meth c s.heap [] 0 0 Q (F0 m 18 ls []) := by
      intro n_18
      induction n_18 with
      | zero =>
        intro x1 x2 x3 x4 ls hf hl
        cases hf
      | succ n_18 ih_18 =>
        intro x1 x2 x3 x4 ls hf hl
        unfold f_X12_edge_18 at hf
        refine lv_iload hx hb dX12_edge_18 (lv_at hl 4 rfl) ?_
        refine lv_bipush (v := 16) hx hb dX12_edge_20 (by decide) ?_
        refine lv_icmp_ge (tgt := 126) hx hb dX12_edge_22 (by decide) (fun hc_22 => ?_) (fun hc_22 => ?_)
        · have hf := it_pos hc_22 hf
          refine lv_iload_n hx hb dX12_edge_126 rfl (lv_at hl 1 rfl) ?_
          refine lv_if_ne (tgt := 134) hx hb dX12_edge_127 (by decide) (fun hc_127 => ?_) (fun hc_127 => ?_)
          · have hf := it_neg hc_127 hf
            refine lv_iload_n hx hb dX12_edge_134 rfl (lv_at hl 3 rfl) ?_
            obtain rfl := Option.some.inj hf
            exact hQ 135 ls trivial dX12_edge_135
          · have hf := it_pos hc_127 hf
            refine lv_iload_n hx hb dX12_edge_130 rfl (lv_at hl 2 rfl) ?_
            refine lv_goto (tgt := 135) hx hb dX12_edge_131 (by decide) ?_
            obtain rfl := Option.some.inj hf
            exact hQ 135 ls trivial dX12_edge_135
        · have hf := it_neg hc_22 hf
          refine lv_iconst (v := 0) hx hb dX12_edge_25 (by decide) ?_
          refine lv_istore (lv' := [(5, .int 0), (0, .ref a_t), (1, .int x1), (2, .int x2), (3, .int x3), (4, .int x4)]) hx hb dX12_edge_26 hl (by decide) rfl (fun ls hl => ?_)
          refine lv_bipush (v := 9) hx hb dX12_edge_28 (by decide) ?_
          refine lv_iload hx hb dX12_edge_30 (lv_at hl 5 rfl) ?_
          refine lv_imul hx hb dX12_edge_32 ?_
          have J_35 : ∀ (n_35 : Nat) (x1 : Int32) (x2 : Int32) (x3 : Int32) (x4 : Int32) (x5 : Int32) (x6 : Int32) (ls : Array Slot), f_X12_edge_35 t_now (f_X12_edge_18 t_now n_18) n_35 x1 x2 x3 x4 x5 x6 = some res → lv_has ls 8 [(0, .ref a_t), (1, .int x1), (2, .int x2), (3, .int x3), (4, .int x4), (5, .int x5), (6, .int x6)] → W p l e R s m args below meth c s.heap [] 0 0 Q (F0 m 35 ls []) := by
            intro n_35
            induction n_35 with
            | zero =>
              intro x1 x2 x3 x4 x5 x6 ls hf hl
              cases hf
            | succ n_35 ih_35 =>
              intro x1 x2 x3 x4 x5 x6 ls hf hl
              unfold f_X12_edge_35 at hf
              refine lv_iload hx hb dX12_edge_35 (lv_at hl 6 rfl) ?_
              refine lv_bipush (v := 9) hx hb dX12_edge_37 (by decide) ?_
              refine lv_iload hx hb dX12_edge_39 (lv_at hl 4 rfl) ?_
              refine lv_imul hx hb dX12_edge_41 ?_
              refine lv_bipush (v := 9) hx hb dX12_edge_42 (by decide) ?_
              refine lv_iadd hx hb dX12_edge_44 ?_
              refine lv_icmp_ge (tgt := 120) hx hb dX12_edge_45 (by decide) (fun hc_45 => ?_) (fun hc_45 => ?_)
              · have hf := it_pos hc_45 hf
                refine lv_iinc (v := x4 + 1) (lv' := [(4, .int (x4 + 1)), (0, .ref a_t), (1, .int x1), (2, .int x2), (3, .int x3), (5, .int x5), (6, .int x6)]) hx hb dX12_edge_120 hl (k := 4) rfl (congrArg (_ + ·) (by decide : Int32.ofInt 1 = 1)) (by decide) rfl (fun ls hl => ?_)
                refine lv_goto (tgt := 18) hx hb dX12_edge_123 (by decide) ?_
                exact ih_18 _ _ _ _ _ hf (lv_sub hl [1, 2, 3, 4, 0] rfl)
              · have hf := it_neg hc_45 hf
                refine lv_aload_n hx hb dX12_edge_48 rfl (lv_at hl 0 rfl) ?_
                refine lv_iload hx hb dX12_edge_49 (lv_at hl 6 rfl) ?_
                obtain ⟨z51, e51, hf⟩ := bd_some hf
                refine rV_RO (As := [.int x6]) (rest := []) ⟨hx, hb, hml, hown, hT⟩ (gdV tb_1404 tb_1406 tb_56 tb_97 tb_1407) hd_X12_isTaken (c_X12_isTaken l D cI cB cZ a_t a_t_now a_t_aside a_t_kept a_t_tape a_t_said a_t_waitsAt a_t_saidLetter a_t_saidFrom a_t_saidHalf a_t_saidTo a_t_codes a_t_clauseOf a_t_codeFrom a_t_codeHalf a_t_codeTo a_t_stack a_t_facts a_t_newLine a_t_canSit a_t_canNext a_t_singersIn a_t_freeAt a_t_beginsAt a_t_leastBy a_t_mostBy a_t_mostNext a_t_risesTo t_taped t_place0 t_length0 t_fault t_number0 t_open t_codeMany t_waiting t_saidMany t_clauses t_newMany t_lines t_stoodNow t_lastSeat t_climbedNow t_isKept t_now x6 z51 e51) ⟨rfl, rfl⟩ ⟨Nat.le_trans (by decide) hRf, Nat.le_trans (by decide) hRl⟩ ⟨hK, hN⟩ hP [0, 1] rfl 0 rfl rfl rfl hl.1 rfl (Nat.le_of_ble_eq_true rfl) ⟨Nat.zero_le _, Nat.zero_le _⟩ dX12_edge_51 (fun hz_51 => ?_)
                refine lv_if_ne (tgt := 60) hx hb dX12_edge_54 (by decide) (fun hc_54 => ?_) (fun hc_54 => ?_)
                · have hf := it_neg hc_54 hf
                  refine lv_aload_n hx hb dX12_edge_60 rfl (lv_at hl 0 rfl) ?_
                  refine va_get (D := D) (ci := 11) (v := .ref a_t_now) (C := RX12) (T := TX12) (N := 43) hx hb hT inX12 hown hK hP 0 rfl rfl 0 (by decide) (hT _ tb_1148) (fun _ h9 => h9) rfl dX12_edge_61 ?_
                  refine lv_iconst (v := 0) hx hb dX12_edge_64 (by decide) ?_
                  refine lv_iload hx hb dX12_edge_65 (lv_at hl 6 rfl) ?_
                  refine lv_iadd hx hb dX12_edge_67 ?_
                  obtain ⟨hi_68, hf⟩ := ix_some hf
                  refine va_iald hx hb hK hP 1 0 rfl rfl hi_68 dX12_edge_68 ?_
                  obtain ⟨z69, e69, hf⟩ := bd_some hf
                  refine rS_RO (As := [.int (t_now (0 + x6).toNatClampNeg)]) (rest := []) ⟨hx, hb, hml, hown, hT⟩ (gdS tb_1437 tb_1438 tb_97 tb_1439) hd_X12_childOf (c_X12_childOf l D cI cB cZ (t_now (0 + x6).toNatClampNeg) z69 e69) ⟨rfl, rfl⟩ ⟨Nat.le_trans (by decide) hRf, Nat.le_trans (by decide) hRl⟩ ⟨hK, hN⟩ hP [] rfl rfl hl.1 rfl (Nat.le_of_ble_eq_true rfl) ⟨Nat.zero_le _, Nat.zero_le _⟩ dX12_edge_69 (fun _ => ?_)
                  refine lv_iconst (v := 1) hx hb dX12_edge_72 (by decide) ?_
                  have J_81 : ∀ (x1 : Int32) (x2 : Int32) (x3 : Int32) (x4 : Int32) (x5 : Int32) (x6 : Int32) (y0 : Int32) (ls : Array Slot), f_X12_edge_81 t_now (f_X12_edge_18 t_now n_18) (f_X12_edge_35 t_now (f_X12_edge_18 t_now n_18) n_35) x1 x2 x3 x4 x5 x6 y0 = some res → lv_has ls 8 [(0, .ref a_t), (1, .int x1), (2, .int x2), (3, .int x3), (4, .int x4), (5, .int x5), (6, .int x6)] → W p l e R s m args below meth c s.heap [] 0 0 Q (F0 m 81 ls [.int y0]) := by
                    intro x1 x2 x3 x4 x5 x6 y0 ls hf hl
                    unfold f_X12_edge_81 at hf
                    refine lv_istore (lv' := [(7, .int y0), (0, .ref a_t), (1, .int x1), (2, .int x2), (3, .int x3), (4, .int x4), (5, .int x5), (6, .int x6)]) hx hb dX12_edge_81 hl (by decide) rfl (fun ls hl => ?_)
                    refine lv_iload hx hb dX12_edge_83 (lv_at hl 0 rfl) ?_
                    have J_97 : ∀ (x1 : Int32) (x2 : Int32) (x3 : Int32) (x4 : Int32) (x5 : Int32) (x6 : Int32) (x7 : Int32) (ls : Array Slot), f_X12_edge_97 t_now (f_X12_edge_18 t_now n_18) (f_X12_edge_35 t_now (f_X12_edge_18 t_now n_18) n_35) x1 x2 x3 x4 x5 x6 x7 = some res → lv_has ls 8 [(0, .ref a_t), (1, .int x1), (2, .int x2), (3, .int x3), (4, .int x4), (5, .int x5), (6, .int x6), (7, .int x7)] → W p l e R s m args below meth c s.heap [] 0 0 Q (F0 m 97 ls []) := by
                      intro x1 x2 x3 x4 x5 x6 x7 ls hf hl
                      unfold f_X12_edge_97 at hf
                      refine lv_iload hx hb dX12_edge_97 (lv_at hl 7 rfl) ?_
                      refine lv_if_eq (tgt := 111) hx hb dX12_edge_99 (by decide) (fun hc_99 => ?_) (fun hc_99 => ?_)
                      · have hf := it_pos hc_99 hf
                        refine lv_iconst (v := 1) hx hb dX12_edge_111 (by decide) ?_
                        refine lv_istore (lv' := [(5, .int 1), (0, .ref a_t), (1, .int x1), (2, .int x2), (3, .int x3), (4, .int x4), (6, .int x6), (7, .int x7)]) hx hb dX12_edge_112 hl (by decide) rfl (fun ls hl => ?_)
                        refine lv_iinc (v := x6 + 1) (lv' := [(6, .int (x6 + 1)), (5, .int 1), (0, .ref a_t), (1, .int x1), (2, .int x2), (3, .int x3), (4, .int x4), (7, .int x7)]) hx hb dX12_edge_114 hl (k := 6) rfl (congrArg (_ + ·) (by decide : Int32.ofInt 1 = 1)) (by decide) rfl (fun ls hl => ?_)
                        refine lv_goto (tgt := 35) hx hb dX12_edge_117 (by decide) ?_
                        exact ih_35 _ _ _ _ _ _ _ hf (lv_sub hl [2, 3, 4, 5, 6, 1, 0] rfl)
                      · have hf := it_neg hc_99 hf
                        refine lv_iload hx hb dX12_edge_102 (lv_at hl 5 rfl) ?_
                        refine lv_if_ne (tgt := 111) hx hb dX12_edge_104 (by decide) (fun hc_104 => ?_) (fun hc_104 => ?_)
                        · have hf := it_neg hc_104 hf
                          refine lv_iconst (v := 1) hx hb dX12_edge_111 (by decide) ?_
                          refine lv_istore (lv' := [(5, .int 1), (0, .ref a_t), (1, .int x1), (2, .int x2), (3, .int x3), (4, .int x4), (6, .int x6), (7, .int x7)]) hx hb dX12_edge_112 hl (by decide) rfl (fun ls hl => ?_)
                          refine lv_iinc (v := x6 + 1) (lv' := [(6, .int (x6 + 1)), (5, .int 1), (0, .ref a_t), (1, .int x1), (2, .int x2), (3, .int x3), (4, .int x4), (7, .int x7)]) hx hb dX12_edge_114 hl (k := 6) rfl (congrArg (_ + ·) (by decide : Int32.ofInt 1 = 1)) (by decide) rfl (fun ls hl => ?_)
                          refine lv_goto (tgt := 35) hx hb dX12_edge_117 (by decide) ?_
                          exact ih_35 _ _ _ _ _ _ _ hf (lv_sub hl [2, 3, 4, 5, 6, 1, 0] rfl)
                        · have hf := it_pos hc_104 hf
                          refine lv_iload_n hx hb dX12_edge_107 rfl (lv_at hl 2 rfl) ?_
                          refine lv_iconst (v := 1) hx hb dX12_edge_108 (by decide) ?_
                          refine lv_iadd hx hb dX12_edge_109 ?_
                          refine lv_istore_n (lv' := [(2, .int (x2 + 1)), (0, .ref a_t), (1, .int x1), (3, .int x3), (4, .int x4), (5, .int x5), (6, .int x6), (7, .int x7)]) hx hb dX12_edge_110 rfl hl (by decide) rfl (fun ls hl => ?_)
                          refine lv_iconst (v := 1) hx hb dX12_edge_111 (by decide) ?_
                          refine lv_istore (lv' := [(5, .int 1), (2, .int (x2 + 1)), (0, .ref a_t), (1, .int x1), (3, .int x3), (4, .int x4), (6, .int x6), (7, .int x7)]) hx hb dX12_edge_112 hl (by decide) rfl (fun ls hl => ?_)
                          refine lv_iinc (v := x6 + 1) (lv' := [(6, .int (x6 + 1)), (5, .int 1), (2, .int (x2 + 1)), (0, .ref a_t), (1, .int x1), (3, .int x3), (4, .int x4), (7, .int x7)]) hx hb dX12_edge_114 hl (k := 6) rfl (congrArg (_ + ·) (by decide : Int32.ofInt 1 = 1)) (by decide) rfl (fun ls hl => ?_)
                          refine lv_goto (tgt := 35) hx hb dX12_edge_117 (by decide) ?_
                          exact ih_35 _ _ _ _ _ _ _ hf (lv_sub hl [3, 4, 2, 5, 6, 1, 0] rfl)
                    refine lv_if_eq (tgt := 97) hx hb dX12_edge_85 (by decide) (fun hc_85 => ?_) (fun hc_85 => ?_)
                    · have hf := it_pos hc_85 hf
                      exact J_97 _ _ _ _ _ _ _ _ hf (lv_sub hl [1, 2, 3, 4, 5, 6, 7, 0] rfl)
                    · have hf := it_neg hc_85 hf
                      refine lv_iload hx hb dX12_edge_88 (lv_at hl 6 rfl) ?_
                      refine lv_if_eq (tgt := 97) hx hb dX12_edge_90 (by decide) (fun hc_90 => ?_) (fun hc_90 => ?_)
                      · have hf := it_pos hc_90 hf
                        exact J_97 _ _ _ _ _ _ _ _ hf (lv_sub hl [1, 2, 3, 4, 5, 6, 7, 0] rfl)
                      · have hf := it_neg hc_90 hf
                        refine lv_iload_n hx hb dX12_edge_93 rfl (lv_at hl 4 rfl) ?_
                        refine lv_iconst (v := 1) hx hb dX12_edge_94 (by decide) ?_
                        refine lv_iadd hx hb dX12_edge_95 ?_
                        refine lv_istore_n (lv' := [(3, .int (x3 + 1)), (7, .int y0), (0, .ref a_t), (1, .int x1), (2, .int x2), (4, .int x4), (5, .int x5), (6, .int x6)]) hx hb dX12_edge_96 rfl hl (by decide) rfl (fun ls hl => ?_)
                        exact J_97 _ _ _ _ _ _ _ _ hf (lv_sub hl [2, 3, 4, 0, 5, 6, 7, 1] rfl)
                  refine lv_icmp_ne (tgt := 80) hx hb dX12_edge_73 (by decide) (fun hc_73 => ?_) (fun hc_73 => ?_)
                  · have hf := it_neg hc_73 hf
                    refine lv_iconst (v := 0) hx hb dX12_edge_80 (by decide) ?_
                    exact J_81 _ _ _ _ _ _ _ _ hf (lv_sub hl [0, 1, 2, 3, 4, 5, 6] rfl)
                  · have hf := it_pos hc_73 hf
                    refine lv_iconst (v := 1) hx hb dX12_edge_76 (by decide) ?_
                    refine lv_goto (tgt := 81) hx hb dX12_edge_77 (by decide) ?_
                    exact J_81 _ _ _ _ _ _ _ _ hf (lv_sub hl [0, 1, 2, 3, 4, 5, 6] rfl)
                · have hf := it_pos hc_54 hf
                  refine lv_goto (tgt := 114) hx hb dX12_edge_57 (by decide) ?_
                  refine lv_iinc (v := x6 + 1) (lv' := [(6, .int (x6 + 1)), (0, .ref a_t), (1, .int x1), (2, .int x2), (3, .int x3), (4, .int x4), (5, .int x5)]) hx hb dX12_edge_114 hl (k := 6) rfl (congrArg (_ + ·) (by decide : Int32.ofInt 1 = 1)) (by decide) rfl (fun ls hl => ?_)
                  refine lv_goto (tgt := 35) hx hb dX12_edge_117 (by decide) ?_
                  exact ih_35 _ _ _ _ _ _ _ hf (lv_sub hl [1, 2, 3, 4, 5, 6, 0] rfl)
          refine lv_istore (lv' := [(6, .int (9 * x4)), (5, .int 0), (0, .ref a_t), (1, .int x1), (2, .int x2), (3, .int x3), (4, .int x4)]) hx hb dX12_edge_33 hl (by decide) rfl (fun ls hl => ?_)
          exact J_35 _ _ _ _ _ _ _ _ hf (lv_sub hl [2, 3, 4, 5, 6, 1, 0] rfl)
    refine lv_istore (lv' := [(4, .int 0), (3, .int 0), (2, .int 0), (0, .ref a_t), (1, .int x1)]) hx hb dX12_edge_16 hl (by decide) rfl (fun ls hl => ?_)
    exact J_18 _ _ _ _ _ _ hf (lv_sub hl [3, 4, 2, 1, 0] rfl)
  · have hf := it_pos hc_6 hf
    refine lv_iconst (v := (-1)) hx hb dX12_edge_9 (by decide) ?_
    obtain rfl := Option.some.inj hf
    exact hQ 10 ls trivial dX12_edge_10
theorem hd_X12_edge : (yX12_edge).cls = RX12 ∧ (yX12_edge).cls ≠ "java/lang/invoke/MethodHandle" ∧ (yX12_edge).cls ≠ "java/lang/invoke/VarHandle" ∧ (parseMethodDescriptor (yX12_edge).desc).map (fun d => d.parameters.length) = some 1 := by decide +kernel
theorem c_X12_edge (l : Launch) (D : va_G) (cI cB cZ : ClassId) (a_t : Nat) (a_t_now : Nat) (a_t_aside : Nat) (a_t_kept : Nat) (a_t_tape : Nat) (a_t_said : Nat) (a_t_waitsAt : Nat) (a_t_saidLetter : Nat) (a_t_saidFrom : Nat) (a_t_saidHalf : Nat) (a_t_saidTo : Nat) (a_t_codes : Nat) (a_t_clauseOf : Nat) (a_t_codeFrom : Nat) (a_t_codeHalf : Nat) (a_t_codeTo : Nat) (a_t_stack : Nat) (a_t_facts : Nat) (a_t_newLine : Nat) (a_t_canSit : Nat) (a_t_canNext : Nat) (a_t_singersIn : Nat) (a_t_freeAt : Nat) (a_t_beginsAt : Nat) (a_t_leastBy : Nat) (a_t_mostBy : Nat) (a_t_mostNext : Nat) (a_t_risesTo : Nat) (t_taped : Int32) (t_place0 : Int32) (t_length0 : Int32) (t_fault : Int32) (t_number0 : Int32) (t_open : Int32) (t_codeMany : Int32) (t_waiting : Int32) (t_saidMany : Int32) (t_clauses : Int32) (t_newMany : Int32) (t_lines : Int32) (t_stoodNow : Int32) (t_lastSeat : Int32) (t_climbedNow : Int32) (t_isKept : Int32) (t_now : (Nat → Int32)) (x1 : Int32) (res : Int32) (hf : f_X12_edge t_now x1 = some res) : Met l yX12_edge (.code yX12_edge cX12_edge 8 (some .int) :: TB) (rmk (1) (22)) (pRO [.ref a_t, .int x1] D cI cB cZ (w_X12_edge cI cB cZ a_t a_t_now a_t_aside a_t_kept a_t_tape a_t_said a_t_waitsAt a_t_saidLetter a_t_saidFrom a_t_saidHalf a_t_saidTo a_t_codes a_t_clauseOf a_t_codeFrom a_t_codeHalf a_t_codeTo a_t_stack a_t_facts a_t_newLine a_t_canSit a_t_canNext a_t_singersIn a_t_freeAt a_t_beginsAt a_t_leastBy a_t_mostBy a_t_mostNext a_t_risesTo t_taped t_place0 t_length0 t_fault t_number0 t_open t_codeMany t_waiting t_saidMany t_clauses t_newMany t_lines t_stoodNow t_lastSeat t_climbedNow t_isKept t_now)) (qRO (some (.int res)) True) 0 0 (fun _ => False) :=
  mkRO (by decide +kernel) (Nat.le_of_ble_eq_true rfl) (fun p e s m below meth c ls S hr hlk hK hP hl => b_X12_edge S.1 S.2.1 S.2.2.1 S.2.2.2.1 S.2.2.2.2 (Nat.le_refl _) (Nat.le_refl _) hK.1 hK.2 a_t a_t_now a_t_aside a_t_kept a_t_tape a_t_said a_t_waitsAt a_t_saidLetter a_t_saidFrom a_t_saidHalf a_t_saidTo a_t_codes a_t_clauseOf a_t_codeFrom a_t_codeHalf a_t_codeTo a_t_stack a_t_facts a_t_newLine a_t_canSit a_t_canNext a_t_singersIn a_t_freeAt a_t_beginsAt a_t_leastBy a_t_mostBy a_t_mostNext a_t_risesTo t_taped t_place0 t_length0 t_fault t_number0 t_open t_codeMany t_waiting t_saidMany t_clauses t_newMany t_lines t_stoodNow t_lastSeat t_climbedNow t_isKept t_now x1 res hf hP (fun pc ls hE hd => eRO_i S.1 S.2.1 hr rfl hlk hE hd) ls hl)
def f_X12_ushers_94 (t_tape : (Nat → Int32)) (k82 : Int32 → Int32 → Int32 → Int32 → Int32 → Int32 → (Nat → Int32) → (Nat → Int32) → Option (Int32 × Int32 × (Nat → Int32) × (Nat → Int32))) : Nat → Int32 → Int32 → Int32 → Int32 → Int32 → Int32 → Int32 → Int32 → (Nat → Int32) → (Nat → Int32) → Option (Int32 × Int32 × (Nat → Int32) × (Nat → Int32))
  | 0, _, _, _, _, _, _, _, _, _, _ => none
  | n + 1, x1, x2, x3, x4, x5, x6, x7, t_taped, t_freeAt, t_beginsAt => (if x2 ≤ x7 then ix 8 x6 (ix 20 x5 (ix 8 x6 ((f_X12_octet t_tape x5).bind (fun z157 => ix 8 x6 (ix 8 x6 ((f_X12_max x4 ((upd t_freeAt x6.toNatClampNeg ((t_freeAt x6.toNatClampNeg) + z157)) x6.toNatClampNeg)).bind (fun z171 => k82 x1 x2 x3 z171 (x5 + 1) t_taped (upd t_freeAt x6.toNatClampNeg ((t_freeAt x6.toNatClampNeg) + z157)) (upd t_beginsAt x5.toNatClampNeg (t_freeAt x6.toNatClampNeg))))))))) else ix 8 x7 (ix 8 x6 ((if (t_freeAt x6.toNatClampNeg) ≤ (t_freeAt x7.toNatClampNeg) then (f_X12_ushers_94 t_tape k82 n) x1 x2 x3 x4 x5 x6 (x7 + 1) t_taped t_freeAt t_beginsAt else (f_X12_ushers_94 t_tape k82 n) x1 x2 x3 x4 x5 x7 (x7 + 1) t_taped t_freeAt t_beginsAt))))
def f_X12_ushers_82 (t_tape : (Nat → Int32)) : Nat → Int32 → Int32 → Int32 → Int32 → Int32 → Int32 → (Nat → Int32) → (Nat → Int32) → Option (Int32 × Int32 × (Nat → Int32) × (Nat → Int32))
  | 0, _, _, _, _, _, _, _, _ => none
  | n + 1, x1, x2, x3, x4, x5, t_taped, t_freeAt, t_beginsAt => (if x1 ≤ x5 then (if x3 = 100 then some (x4, t_taped, t_freeAt, t_beginsAt) else ix 20 x3 (some (t_beginsAt x3.toNatClampNeg, t_taped, t_freeAt, t_beginsAt))) else f_X12_ushers_94 t_tape (f_X12_ushers_82 t_tape n) FU x1 x2 x3 x4 x5 0 1 t_taped t_freeAt t_beginsAt)
def f_X12_ushers_55 (t_tape : (Nat → Int32)) : Nat → Int32 → Int32 → Int32 → Int32 → Int32 → (Nat → Int32) → (Nat → Int32) → Option (Int32 × Int32 × (Nat → Int32) × (Nat → Int32))
  | 0, _, _, _, _, _, _, _ => none
  | n + 1, x1, x2, x3, x4, t_taped, t_freeAt, t_beginsAt => (if 8 ≤ x4 then f_X12_ushers_82 t_tape FU x1 x2 x3 0 0 t_taped t_freeAt t_beginsAt else ix 8 x4 ((f_X12_ushers_55 t_tape n) x1 x2 x3 (x4 + 1) t_taped (upd t_freeAt x4.toNatClampNeg 0) t_beginsAt))
def f_X12_ushers_37 (t_tape : (Nat → Int32)) (x1 : Int32) (x2 : Int32) (x3 : Int32) (t_taped : Int32) (t_freeAt : (Nat → Int32)) (t_beginsAt : (Nat → Int32)) : Option (Int32 × Int32 × (Nat → Int32) × (Nat → Int32)) := (if x1 ≤ t_taped then f_X12_ushers_55 t_tape FU x1 x2 x3 0 0 t_freeAt t_beginsAt else some ((-1), t_taped, t_freeAt, t_beginsAt))
def f_X12_ushers (t_taped : Int32) (t_tape : (Nat → Int32)) (t_freeAt : (Nat → Int32)) (t_beginsAt : (Nat → Int32)) (x1 : Int32) (x2 : Int32) (x3 : Int32) : Option (Int32 × Int32 × (Nat → Int32) × (Nat → Int32)) := (f_X12_in x1 1 20).bind (fun z4 => (if z4 = 0 then some ((-1), t_taped, t_freeAt, t_beginsAt) else (f_X12_in x2 1 8).bind (fun z14 => (if z14 = 0 then some ((-1), t_taped, t_freeAt, t_beginsAt) else (if x3 = 100 then f_X12_ushers_37 t_tape x1 x2 x3 t_taped t_freeAt t_beginsAt else (f_X12_in x3 0 (x1 - 1)).bind (fun z31 => (if z31 = 0 then some ((-1), t_taped, t_freeAt, t_beginsAt) else f_X12_ushers_37 t_tape x1 x2 x3 t_taped t_freeAt t_beginsAt)))))))
def w_X12_ushers (cI cB cZ : ClassId) (a_t : Nat) (a_t_tape : Nat) (a_t_freeAt : Nat) (a_t_beginsAt : Nat) (a_t_now : Nat) (a_t_aside : Nat) (a_t_kept : Nat) (a_t_said : Nat) (a_t_waitsAt : Nat) (a_t_saidLetter : Nat) (a_t_saidFrom : Nat) (a_t_saidHalf : Nat) (a_t_saidTo : Nat) (a_t_codes : Nat) (a_t_clauseOf : Nat) (a_t_codeFrom : Nat) (a_t_codeHalf : Nat) (a_t_codeTo : Nat) (a_t_stack : Nat) (a_t_facts : Nat) (a_t_newLine : Nat) (a_t_canSit : Nat) (a_t_canNext : Nat) (a_t_singersIn : Nat) (a_t_leastBy : Nat) (a_t_mostBy : Nat) (a_t_mostNext : Nat) (a_t_risesTo : Nat) (t_taped : Int32) (t_place0 : Int32) (t_length0 : Int32) (t_fault : Int32) (t_number0 : Int32) (t_open : Int32) (t_codeMany : Int32) (t_waiting : Int32) (t_saidMany : Int32) (t_clauses : Int32) (t_newMany : Int32) (t_lines : Int32) (t_stoodNow : Int32) (t_lastSeat : Int32) (t_climbedNow : Int32) (t_isKept : Int32) (t_tape : (Nat → Int32)) (t_freeAt : (Nat → Int32)) (t_beginsAt : (Nat → Int32)) : va_W := [(a_t, .inr (11, [.ref a_t_now, .ref a_t_aside, .ref a_t_kept, .ref a_t_tape, .int t_taped, .int t_place0, .int t_length0, .int t_fault, .int t_number0, .int t_open, .int t_codeMany, .int t_waiting, .int t_saidMany, .int t_clauses, .ref a_t_said, .ref a_t_waitsAt, .ref a_t_saidLetter, .ref a_t_saidFrom, .ref a_t_saidHalf, .ref a_t_saidTo, .ref a_t_codes, .ref a_t_clauseOf, .ref a_t_codeFrom, .ref a_t_codeHalf, .ref a_t_codeTo, .ref a_t_stack, .ref a_t_facts, .ref a_t_newLine, .int t_newMany, .int t_lines, .int t_stoodNow, .int t_lastSeat, .int t_climbedNow, .ref a_t_canSit, .ref a_t_canNext, .ref a_t_singersIn, .ref a_t_freeAt, .ref a_t_beginsAt, .ref a_t_leastBy, .ref a_t_mostBy, .ref a_t_mostNext, .ref a_t_risesTo, .int t_isKept])), (a_t_tape, .inl (cB, 260, .inl t_tape)), (a_t_freeAt, .inl (cI, 8, .inl t_freeAt)), (a_t_beginsAt, .inl (cI, 20, .inl t_beginsAt))]
set_option maxHeartbeats 4000000 in
set_option maxRecDepth 100000 in
theorem b_X12_ushers {p : Program} {l : Launch} {e : Env} {R : Room} {s : State} {m : MethodId} {args : Array Value} {below : List Frame} {meth : Method} {c : Code} {Q : State → Prop} {D : va_G} {cI cB cZ : ClassId} (hx : p.tables.exec = Jvm.exec) (hb : c.code = cX12_ushers) (hml : c.maxLocals = 8) (hown : s.vm.findClass RX12 = some m.cls) (hT : ∀ w ∈ TB, w.before args s = true) (hRf : (1) ≤ R.frames) (hRl : (22) ≤ R.locals) (hK : va_K D vwCl (tyL cI cB cZ) s) (hN : NW s) {A : Nat → Prop} (hA : ∀ q : Nat, s.heap.size ≤ q → A q) (H : Heap) (locs : List Loc)  (a_t : Nat) (a_t_tape : Nat) (a_t_freeAt : Nat) (a_t_beginsAt : Nat) (a_t_now : Nat) (a_t_aside : Nat) (a_t_kept : Nat) (a_t_said : Nat) (a_t_waitsAt : Nat) (a_t_saidLetter : Nat) (a_t_saidFrom : Nat) (a_t_saidHalf : Nat) (a_t_saidTo : Nat) (a_t_codes : Nat) (a_t_clauseOf : Nat) (a_t_codeFrom : Nat) (a_t_codeHalf : Nat) (a_t_codeTo : Nat) (a_t_stack : Nat) (a_t_facts : Nat) (a_t_newLine : Nat) (a_t_canSit : Nat) (a_t_canNext : Nat) (a_t_singersIn : Nat) (a_t_leastBy : Nat) (a_t_mostBy : Nat) (a_t_mostNext : Nat) (a_t_risesTo : Nat) (t_taped : Int32) (t_place0 : Int32) (t_length0 : Int32) (t_fault : Int32) (t_number0 : Int32) (t_open : Int32) (t_codeMany : Int32) (t_waiting : Int32) (t_saidMany : Int32) (t_clauses : Int32) (t_newMany : Int32) (t_lines : Int32) (t_stoodNow : Int32) (t_lastSeat : Int32) (t_climbedNow : Int32) (t_isKept : Int32) (t_tape : (Nat → Int32)) (t_freeAt : (Nat → Int32)) (t_beginsAt : (Nat → Int32)) (x1 : Int32) (x2 : Int32) (x3 : Int32) (res : Int32 × Int32 × (Nat → Int32) × (Nat → Int32)) (hf : f_X12_ushers t_taped t_tape t_freeAt t_beginsAt x1 x2 x3 = some res) (hP : va_P D vwCl (w_X12_ushers cI cB cZ a_t a_t_tape a_t_freeAt a_t_beginsAt a_t_now a_t_aside a_t_kept a_t_said a_t_waitsAt a_t_saidLetter a_t_saidFrom a_t_saidHalf a_t_saidTo a_t_codes a_t_clauseOf a_t_codeFrom a_t_codeHalf a_t_codeTo a_t_stack a_t_facts a_t_newLine a_t_canSit a_t_canNext a_t_singersIn a_t_leastBy a_t_mostBy a_t_mostNext a_t_risesTo t_taped t_place0 t_length0 t_fault t_number0 t_open t_codeMany t_waiting t_saidMany t_clauses t_newMany t_lines t_stoodNow t_lastSeat t_climbedNow t_isKept t_tape t_freeAt t_beginsAt) H) (hD : va_D A (w_X12_ushers cI cB cZ a_t a_t_tape a_t_freeAt a_t_beginsAt a_t_now a_t_aside a_t_kept a_t_said a_t_waitsAt a_t_saidLetter a_t_saidFrom a_t_saidHalf a_t_saidTo a_t_codes a_t_clauseOf a_t_codeFrom a_t_codeHalf a_t_codeTo a_t_stack a_t_facts a_t_newLine a_t_canSit a_t_canNext a_t_singersIn a_t_leastBy a_t_mostBy a_t_mostNext a_t_risesTo t_taped t_place0 t_length0 t_fault t_number0 t_open t_codeMany t_waiting t_saidMany t_clauses t_newMany t_lines t_stoodNow t_lastSeat t_climbedNow t_isKept t_tape t_freeAt t_beginsAt)) (hS : va_S A s.heap H locs) (hQ : ∀ (H : Heap) (locs : List Loc) (pc : Nat) (ls : Array Slot), va_P D vwCl (w_X12_ushers cI cB cZ a_t a_t_tape a_t_freeAt a_t_beginsAt a_t_now a_t_aside a_t_kept a_t_said a_t_waitsAt a_t_saidLetter a_t_saidFrom a_t_saidHalf a_t_saidTo a_t_codes a_t_clauseOf a_t_codeFrom a_t_codeHalf a_t_codeTo a_t_stack a_t_facts a_t_newLine a_t_canSit a_t_canNext a_t_singersIn a_t_leastBy a_t_mostBy a_t_mostNext a_t_risesTo res.2.1 t_place0 t_length0 t_fault t_number0 t_open t_codeMany t_waiting t_saidMany t_clauses t_newMany t_lines t_stoodNow t_lastSeat t_climbedNow t_isKept t_tape res.2.2.1 res.2.2.2) H → va_D A (w_X12_ushers cI cB cZ a_t a_t_tape a_t_freeAt a_t_beginsAt a_t_now a_t_aside a_t_kept a_t_said a_t_waitsAt a_t_saidLetter a_t_saidFrom a_t_saidHalf a_t_saidTo a_t_codes a_t_clauseOf a_t_codeFrom a_t_codeHalf a_t_codeTo a_t_stack a_t_facts a_t_newLine a_t_canSit a_t_canNext a_t_singersIn a_t_leastBy a_t_mostBy a_t_mostNext a_t_risesTo res.2.1 t_place0 t_length0 t_fault t_number0 t_open t_codeMany t_waiting t_saidMany t_clauses t_newMany t_lines t_stoodNow t_lastSeat t_climbedNow t_isKept t_tape res.2.2.1 res.2.2.2) → va_S A s.heap H locs → True → decode cX12_ushers pc = .ok (.ireturn, 1) → W p l e R s m args below meth c H locs 0 0 Q (F0 m pc ls [.int res.1])) (ls : Array Slot) (hl : lv_has ls 8 [(0, .ref a_t), (1, .int x1), (2, .int x2), (3, .int x3)]) : W p l e R s m args below meth c H locs 0 0 Q (F0 m 0 ls []) := by
  unfold f_X12_ushers at hf
  refine lv_iload_n hx hb dX12_ushers_0 rfl (lv_at hl 1 rfl) ?_
  refine lv_iconst (v := 1) hx hb dX12_ushers_1 (by decide) ?_
  refine lv_bipush (v := 20) hx hb dX12_ushers_2 (by decide) ?_
  obtain ⟨z4, e4, hf⟩ := bd_some hf
  refine rS_RO (As := [.int x1, .int 1, .int 20]) (rest := []) ⟨hx, hb, hml, hown, hT⟩ (gdS tb_1283 tb_1284 tb_97 tb_1285) hd_X12_in (c_X12_in l D cI cB cZ x1 1 20 z4 e4) ⟨rfl, rfl⟩ ⟨Nat.le_trans (by decide) hRf, Nat.le_trans (by decide) hRl⟩ ⟨hK, hN⟩ hP [] rfl rfl hl.1 rfl (Nat.le_of_ble_eq_true rfl) ⟨Nat.zero_le _, Nat.zero_le _⟩ dX12_ushers_4 (fun hz_4 => ?_)
  refine lv_if_eq (tgt := 45) hx hb dX12_ushers_7 (by decide) (fun hc_7 => ?_) (fun hc_7 => ?_)
  · have hf := it_pos hc_7 hf
    refine lv_iconst (v := (-1)) hx hb dX12_ushers_45 (by decide) ?_
    obtain rfl := Option.some.inj hf
    exact hQ H locs 46 ls hP hD hS trivial dX12_ushers_46
  · have hf := it_neg hc_7 hf
    refine lv_iload_n hx hb dX12_ushers_10 rfl (lv_at hl 2 rfl) ?_
    refine lv_iconst (v := 1) hx hb dX12_ushers_11 (by decide) ?_
    refine lv_bipush (v := 8) hx hb dX12_ushers_12 (by decide) ?_
    obtain ⟨z14, e14, hf⟩ := bd_some hf
    refine rS_RO (As := [.int x2, .int 1, .int 8]) (rest := []) ⟨hx, hb, hml, hown, hT⟩ (gdS tb_1283 tb_1284 tb_97 tb_1285) hd_X12_in (c_X12_in l D cI cB cZ x2 1 8 z14 e14) ⟨rfl, rfl⟩ ⟨Nat.le_trans (by decide) hRf, Nat.le_trans (by decide) hRl⟩ ⟨hK, hN⟩ hP [] rfl rfl hl.1 rfl (Nat.le_of_ble_eq_true rfl) ⟨Nat.zero_le _, Nat.zero_le _⟩ dX12_ushers_14 (fun hz_14 => ?_)
    refine lv_if_eq (tgt := 45) hx hb dX12_ushers_17 (by decide) (fun hc_17 => ?_) (fun hc_17 => ?_)
    · have hf := it_pos hc_17 hf
      refine lv_iconst (v := (-1)) hx hb dX12_ushers_45 (by decide) ?_
      obtain rfl := Option.some.inj hf
      exact hQ H locs 46 ls hP hD hS trivial dX12_ushers_46
    · have hf := it_neg hc_17 hf
      refine lv_iload_n hx hb dX12_ushers_20 rfl (lv_at hl 3 rfl) ?_
      refine lv_bipush (v := 100) hx hb dX12_ushers_21 (by decide) ?_
      have J_37 : ∀ (x1 : Int32) (x2 : Int32) (x3 : Int32) (t_taped : Int32) (t_freeAt : (Nat → Int32)) (t_beginsAt : (Nat → Int32)) (H : Heap) (locs : List Loc) (ls : Array Slot), f_X12_ushers_37 t_tape x1 x2 x3 t_taped t_freeAt t_beginsAt = some res → va_P D vwCl (w_X12_ushers cI cB cZ a_t a_t_tape a_t_freeAt a_t_beginsAt a_t_now a_t_aside a_t_kept a_t_said a_t_waitsAt a_t_saidLetter a_t_saidFrom a_t_saidHalf a_t_saidTo a_t_codes a_t_clauseOf a_t_codeFrom a_t_codeHalf a_t_codeTo a_t_stack a_t_facts a_t_newLine a_t_canSit a_t_canNext a_t_singersIn a_t_leastBy a_t_mostBy a_t_mostNext a_t_risesTo t_taped t_place0 t_length0 t_fault t_number0 t_open t_codeMany t_waiting t_saidMany t_clauses t_newMany t_lines t_stoodNow t_lastSeat t_climbedNow t_isKept t_tape t_freeAt t_beginsAt) H → va_D A (w_X12_ushers cI cB cZ a_t a_t_tape a_t_freeAt a_t_beginsAt a_t_now a_t_aside a_t_kept a_t_said a_t_waitsAt a_t_saidLetter a_t_saidFrom a_t_saidHalf a_t_saidTo a_t_codes a_t_clauseOf a_t_codeFrom a_t_codeHalf a_t_codeTo a_t_stack a_t_facts a_t_newLine a_t_canSit a_t_canNext a_t_singersIn a_t_leastBy a_t_mostBy a_t_mostNext a_t_risesTo t_taped t_place0 t_length0 t_fault t_number0 t_open t_codeMany t_waiting t_saidMany t_clauses t_newMany t_lines t_stoodNow t_lastSeat t_climbedNow t_isKept t_tape t_freeAt t_beginsAt) → va_S A s.heap H locs → lv_has ls 8 [(0, .ref a_t), (1, .int x1), (2, .int x2), (3, .int x3)] → W p l e R s m args below meth c H locs 0 0 Q (F0 m 37 ls []) := by
        intro x1 x2 x3 t_taped t_freeAt t_beginsAt H locs ls hf hP hD hS hl
        unfold f_X12_ushers_37 at hf
        refine lv_iload_n hx hb dX12_ushers_37 rfl (lv_at hl 1 rfl) ?_
        refine lv_aload_n hx hb dX12_ushers_38 rfl (lv_at hl 0 rfl) ?_
        refine va_get (D := D) (ci := 11) (v := .int t_taped) (C := RX12) (T := TX12) (N := 43) hx hb hT inX12 hown hK hP 0 rfl rfl 4 (by decide) (hT _ tb_1152) (fun _ h9 => h9) rfl dX12_ushers_39 ?_
        refine lv_icmp_le (tgt := 47) hx hb dX12_ushers_42 (by decide) (fun hc_42 => ?_) (fun hc_42 => ?_)
        · have hf := it_pos hc_42 hf
          refine lv_aload_n hx hb dX12_ushers_47 rfl (lv_at hl 0 rfl) ?_
          refine lv_iconst (v := 0) hx hb dX12_ushers_48 (by decide) ?_
          refine va_put (D := D) (ci := 11) (v := .int 0) (ty := (.int)) (C := RX12) (T := TX12) (N := 43) hx hb hT inX12 tyX12 tyX12_ok nmX12 hown hK hP hD hS 0 rfl rfl 4 (by decide) (hT _ tb_1152) (fun _ h9 => h9) rfl (by decide +kernel) rfl rfl (Nat.le_of_ble_eq_true rfl) dX12_ushers_49 (fun H locs hP hD hS => ?_)
          have hP : va_P D vwCl (w_X12_ushers cI cB cZ a_t a_t_tape a_t_freeAt a_t_beginsAt a_t_now a_t_aside a_t_kept a_t_said a_t_waitsAt a_t_saidLetter a_t_saidFrom a_t_saidHalf a_t_saidTo a_t_codes a_t_clauseOf a_t_codeFrom a_t_codeHalf a_t_codeTo a_t_stack a_t_facts a_t_newLine a_t_canSit a_t_canNext a_t_singersIn a_t_leastBy a_t_mostBy a_t_mostNext a_t_risesTo 0 t_place0 t_length0 t_fault t_number0 t_open t_codeMany t_waiting t_saidMany t_clauses t_newMany t_lines t_stoodNow t_lastSeat t_climbedNow t_isKept t_tape t_freeAt t_beginsAt) H := hP
          have hD : va_D A (w_X12_ushers cI cB cZ a_t a_t_tape a_t_freeAt a_t_beginsAt a_t_now a_t_aside a_t_kept a_t_said a_t_waitsAt a_t_saidLetter a_t_saidFrom a_t_saidHalf a_t_saidTo a_t_codes a_t_clauseOf a_t_codeFrom a_t_codeHalf a_t_codeTo a_t_stack a_t_facts a_t_newLine a_t_canSit a_t_canNext a_t_singersIn a_t_leastBy a_t_mostBy a_t_mostNext a_t_risesTo 0 t_place0 t_length0 t_fault t_number0 t_open t_codeMany t_waiting t_saidMany t_clauses t_newMany t_lines t_stoodNow t_lastSeat t_climbedNow t_isKept t_tape t_freeAt t_beginsAt) := hD
          refine lv_iconst (v := 0) hx hb dX12_ushers_52 (by decide) ?_
          have J_55 : ∀ (n_55 : Nat) (x1 : Int32) (x2 : Int32) (x3 : Int32) (x4 : Int32) (t_taped : Int32) (t_freeAt : (Nat → Int32)) (t_beginsAt : (Nat → Int32)) (H : Heap) (locs : List Loc) (ls : Array Slot), f_X12_ushers_55 t_tape n_55 x1 x2 x3 x4 t_taped t_freeAt t_beginsAt = some res → va_P D vwCl (w_X12_ushers cI cB cZ a_t a_t_tape a_t_freeAt a_t_beginsAt a_t_now a_t_aside a_t_kept a_t_said a_t_waitsAt a_t_saidLetter a_t_saidFrom a_t_saidHalf a_t_saidTo a_t_codes a_t_clauseOf a_t_codeFrom a_t_codeHalf a_t_codeTo a_t_stack a_t_facts a_t_newLine a_t_canSit a_t_canNext a_t_singersIn a_t_leastBy a_t_mostBy a_t_mostNext a_t_risesTo t_taped t_place0 t_length0 t_fault t_number0 t_open t_codeMany t_waiting t_saidMany t_clauses t_newMany t_lines t_stoodNow t_lastSeat t_climbedNow t_isKept t_tape t_freeAt t_beginsAt) H → va_D A (w_X12_ushers cI cB cZ a_t a_t_tape a_t_freeAt a_t_beginsAt a_t_now a_t_aside a_t_kept a_t_said a_t_waitsAt a_t_saidLetter a_t_saidFrom a_t_saidHalf a_t_saidTo a_t_codes a_t_clauseOf a_t_codeFrom a_t_codeHalf a_t_codeTo a_t_stack a_t_facts a_t_newLine a_t_canSit a_t_canNext a_t_singersIn a_t_leastBy a_t_mostBy a_t_mostNext a_t_risesTo t_taped t_place0 t_length0 t_fault t_number0 t_open t_codeMany t_waiting t_saidMany t_clauses t_newMany t_lines t_stoodNow t_lastSeat t_climbedNow t_isKept t_tape t_freeAt t_beginsAt) → va_S A s.heap H locs → lv_has ls 8 [(0, .ref a_t), (1, .int x1), (2, .int x2), (3, .int x3), (4, .int x4)] → W p l e R s m args below meth c H locs 0 0 Q (F0 m 55 ls []) := by
            intro n_55
            induction n_55 with
            | zero =>
              intro x1 x2 x3 x4 t_taped t_freeAt t_beginsAt H locs ls hf hP hD hS hl
              cases hf
            | succ n_55 ih_55 =>
              intro x1 x2 x3 x4 t_taped t_freeAt t_beginsAt H locs ls hf hP hD hS hl
              unfold f_X12_ushers_55 at hf
              refine lv_iload hx hb dX12_ushers_55 (lv_at hl 4 rfl) ?_
              refine lv_bipush (v := 8) hx hb dX12_ushers_57 (by decide) ?_
              refine lv_icmp_ge (tgt := 76) hx hb dX12_ushers_59 (by decide) (fun hc_59 => ?_) (fun hc_59 => ?_)
              · have hf := it_pos hc_59 hf
                refine lv_iconst (v := 0) hx hb dX12_ushers_76 (by decide) ?_
                refine lv_istore (lv' := [(4, .int 0), (0, .ref a_t), (1, .int x1), (2, .int x2), (3, .int x3)]) hx hb dX12_ushers_77 hl (by decide) rfl (fun ls hl => ?_)
                refine lv_iconst (v := 0) hx hb dX12_ushers_79 (by decide) ?_
                have J_82 : ∀ (n_82 : Nat) (x1 : Int32) (x2 : Int32) (x3 : Int32) (x4 : Int32) (x5 : Int32) (t_taped : Int32) (t_freeAt : (Nat → Int32)) (t_beginsAt : (Nat → Int32)) (H : Heap) (locs : List Loc) (ls : Array Slot), f_X12_ushers_82 t_tape n_82 x1 x2 x3 x4 x5 t_taped t_freeAt t_beginsAt = some res → va_P D vwCl (w_X12_ushers cI cB cZ a_t a_t_tape a_t_freeAt a_t_beginsAt a_t_now a_t_aside a_t_kept a_t_said a_t_waitsAt a_t_saidLetter a_t_saidFrom a_t_saidHalf a_t_saidTo a_t_codes a_t_clauseOf a_t_codeFrom a_t_codeHalf a_t_codeTo a_t_stack a_t_facts a_t_newLine a_t_canSit a_t_canNext a_t_singersIn a_t_leastBy a_t_mostBy a_t_mostNext a_t_risesTo t_taped t_place0 t_length0 t_fault t_number0 t_open t_codeMany t_waiting t_saidMany t_clauses t_newMany t_lines t_stoodNow t_lastSeat t_climbedNow t_isKept t_tape t_freeAt t_beginsAt) H → va_D A (w_X12_ushers cI cB cZ a_t a_t_tape a_t_freeAt a_t_beginsAt a_t_now a_t_aside a_t_kept a_t_said a_t_waitsAt a_t_saidLetter a_t_saidFrom a_t_saidHalf a_t_saidTo a_t_codes a_t_clauseOf a_t_codeFrom a_t_codeHalf a_t_codeTo a_t_stack a_t_facts a_t_newLine a_t_canSit a_t_canNext a_t_singersIn a_t_leastBy a_t_mostBy a_t_mostNext a_t_risesTo t_taped t_place0 t_length0 t_fault t_number0 t_open t_codeMany t_waiting t_saidMany t_clauses t_newMany t_lines t_stoodNow t_lastSeat t_climbedNow t_isKept t_tape t_freeAt t_beginsAt) → va_S A s.heap H locs → lv_has ls 8 [(0, .ref a_t), (1, .int x1), (2, .int x2), (3, .int x3), (4, .int x4), (5, .int x5)] → W p l e R s m args below meth c H locs 0 0 Q (F0 m 82 ls []) := by
                  intro n_82
                  induction n_82 with
                  | zero =>
                    intro x1 x2 x3 x4 x5 t_taped t_freeAt t_beginsAt H locs ls hf hP hD hS hl
                    cases hf
                  | succ n_82 ih_82 =>
                    intro x1 x2 x3 x4 x5 t_taped t_freeAt t_beginsAt H locs ls hf hP hD hS hl
                    unfold f_X12_ushers_82 at hf
                    refine lv_iload hx hb dX12_ushers_82 (lv_at hl 5 rfl) ?_
                    refine lv_iload_n hx hb dX12_ushers_84 rfl (lv_at hl 1 rfl) ?_
                    refine lv_icmp_ge (tgt := 182) hx hb dX12_ushers_85 (by decide) (fun hc_85 => ?_) (fun hc_85 => ?_)
                    · have hf := it_pos hc_85 hf
                      refine lv_iload_n hx hb dX12_ushers_182 rfl (lv_at hl 3 rfl) ?_
                      refine lv_bipush (v := 100) hx hb dX12_ushers_183 (by decide) ?_
                      refine lv_icmp_ne (tgt := 193) hx hb dX12_ushers_185 (by decide) (fun hc_185 => ?_) (fun hc_185 => ?_)
                      · have hf := it_neg hc_185 hf
                        refine lv_aload_n hx hb dX12_ushers_193 rfl (lv_at hl 0 rfl) ?_
                        refine va_get (D := D) (ci := 11) (v := .ref a_t_beginsAt) (C := RX12) (T := TX12) (N := 43) hx hb hT inX12 hown hK hP 0 rfl rfl 37 (by decide) (hT _ tb_1185) (fun _ h9 => h9) rfl dX12_ushers_194 ?_
                        refine lv_iload_n hx hb dX12_ushers_197 rfl (lv_at hl 3 rfl) ?_
                        obtain ⟨hi_198, hf⟩ := ix_some hf
                        refine va_iald hx hb hK hP 3 0 rfl rfl hi_198 dX12_ushers_198 ?_
                        obtain rfl := Option.some.inj hf
                        exact hQ H locs 199 ls hP hD hS trivial dX12_ushers_199
                      · have hf := it_pos hc_185 hf
                        refine lv_iload hx hb dX12_ushers_188 (lv_at hl 4 rfl) ?_
                        refine lv_goto (tgt := 199) hx hb dX12_ushers_190 (by decide) ?_
                        obtain rfl := Option.some.inj hf
                        exact hQ H locs 199 ls hP hD hS trivial dX12_ushers_199
                    · have hf := it_neg hc_85 hf
                      refine lv_iconst (v := 0) hx hb dX12_ushers_88 (by decide) ?_
                      refine lv_istore (lv' := [(6, .int 0), (0, .ref a_t), (1, .int x1), (2, .int x2), (3, .int x3), (4, .int x4), (5, .int x5)]) hx hb dX12_ushers_89 hl (by decide) rfl (fun ls hl => ?_)
                      refine lv_iconst (v := 1) hx hb dX12_ushers_91 (by decide) ?_
                      have J_94 : ∀ (n_94 : Nat) (x1 : Int32) (x2 : Int32) (x3 : Int32) (x4 : Int32) (x5 : Int32) (x6 : Int32) (x7 : Int32) (t_taped : Int32) (t_freeAt : (Nat → Int32)) (t_beginsAt : (Nat → Int32)) (H : Heap) (locs : List Loc) (ls : Array Slot), f_X12_ushers_94 t_tape (f_X12_ushers_82 t_tape n_82) n_94 x1 x2 x3 x4 x5 x6 x7 t_taped t_freeAt t_beginsAt = some res → va_P D vwCl (w_X12_ushers cI cB cZ a_t a_t_tape a_t_freeAt a_t_beginsAt a_t_now a_t_aside a_t_kept a_t_said a_t_waitsAt a_t_saidLetter a_t_saidFrom a_t_saidHalf a_t_saidTo a_t_codes a_t_clauseOf a_t_codeFrom a_t_codeHalf a_t_codeTo a_t_stack a_t_facts a_t_newLine a_t_canSit a_t_canNext a_t_singersIn a_t_leastBy a_t_mostBy a_t_mostNext a_t_risesTo t_taped t_place0 t_length0 t_fault t_number0 t_open t_codeMany t_waiting t_saidMany t_clauses t_newMany t_lines t_stoodNow t_lastSeat t_climbedNow t_isKept t_tape t_freeAt t_beginsAt) H → va_D A (w_X12_ushers cI cB cZ a_t a_t_tape a_t_freeAt a_t_beginsAt a_t_now a_t_aside a_t_kept a_t_said a_t_waitsAt a_t_saidLetter a_t_saidFrom a_t_saidHalf a_t_saidTo a_t_codes a_t_clauseOf a_t_codeFrom a_t_codeHalf a_t_codeTo a_t_stack a_t_facts a_t_newLine a_t_canSit a_t_canNext a_t_singersIn a_t_leastBy a_t_mostBy a_t_mostNext a_t_risesTo t_taped t_place0 t_length0 t_fault t_number0 t_open t_codeMany t_waiting t_saidMany t_clauses t_newMany t_lines t_stoodNow t_lastSeat t_climbedNow t_isKept t_tape t_freeAt t_beginsAt) → va_S A s.heap H locs → lv_has ls 8 [(0, .ref a_t), (1, .int x1), (2, .int x2), (3, .int x3), (4, .int x4), (5, .int x5), (6, .int x6), (7, .int x7)] → W p l e R s m args below meth c H locs 0 0 Q (F0 m 94 ls []) := by
                        intro n_94
                        induction n_94 with
                        | zero =>
                          intro x1 x2 x3 x4 x5 x6 x7 t_taped t_freeAt t_beginsAt H locs ls hf hP hD hS hl
                          cases hf
                        | succ n_94 ih_94 =>
                          intro x1 x2 x3 x4 x5 x6 x7 t_taped t_freeAt t_beginsAt H locs ls hf hP hD hS hl
                          unfold f_X12_ushers_94 at hf
                          refine lv_iload hx hb dX12_ushers_94 (lv_at hl 7 rfl) ?_
                          refine lv_iload_n hx hb dX12_ushers_96 rfl (lv_at hl 2 rfl) ?_
                          refine lv_icmp_ge (tgt := 127) hx hb dX12_ushers_97 (by decide) (fun hc_97 => ?_) (fun hc_97 => ?_)
                          · have hf := it_pos hc_97 hf
                            refine lv_aload_n hx hb dX12_ushers_127 rfl (lv_at hl 0 rfl) ?_
                            refine va_get (D := D) (ci := 11) (v := .ref a_t_beginsAt) (C := RX12) (T := TX12) (N := 43) hx hb hT inX12 hown hK hP 0 rfl rfl 37 (by decide) (hT _ tb_1185) (fun _ h9 => h9) rfl dX12_ushers_128 ?_
                            refine lv_iload hx hb dX12_ushers_131 (lv_at hl 5 rfl) ?_
                            refine lv_aload_n hx hb dX12_ushers_133 rfl (lv_at hl 0 rfl) ?_
                            refine va_get (D := D) (ci := 11) (v := .ref a_t_freeAt) (C := RX12) (T := TX12) (N := 43) hx hb hT inX12 hown hK hP 0 rfl rfl 36 (by decide) (hT _ tb_1184) (fun _ h9 => h9) rfl dX12_ushers_134 ?_
                            refine lv_iload hx hb dX12_ushers_137 (lv_at hl 6 rfl) ?_
                            obtain ⟨hi_139, hf⟩ := ix_some hf
                            refine va_iald hx hb hK hP 2 0 rfl rfl hi_139 dX12_ushers_139 ?_
                            obtain ⟨hi_140, hf⟩ := ix_some hf
                            refine va_iast hx hb hK hP hD hS 3 0 rfl rfl hi_140 dX12_ushers_140 (fun H locs hP hD hS => ?_)
                            have hP : va_P D vwCl (w_X12_ushers cI cB cZ a_t a_t_tape a_t_freeAt a_t_beginsAt a_t_now a_t_aside a_t_kept a_t_said a_t_waitsAt a_t_saidLetter a_t_saidFrom a_t_saidHalf a_t_saidTo a_t_codes a_t_clauseOf a_t_codeFrom a_t_codeHalf a_t_codeTo a_t_stack a_t_facts a_t_newLine a_t_canSit a_t_canNext a_t_singersIn a_t_leastBy a_t_mostBy a_t_mostNext a_t_risesTo t_taped t_place0 t_length0 t_fault t_number0 t_open t_codeMany t_waiting t_saidMany t_clauses t_newMany t_lines t_stoodNow t_lastSeat t_climbedNow t_isKept t_tape t_freeAt (upd t_beginsAt x5.toNatClampNeg (t_freeAt x6.toNatClampNeg))) H := hP
                            have hD : va_D A (w_X12_ushers cI cB cZ a_t a_t_tape a_t_freeAt a_t_beginsAt a_t_now a_t_aside a_t_kept a_t_said a_t_waitsAt a_t_saidLetter a_t_saidFrom a_t_saidHalf a_t_saidTo a_t_codes a_t_clauseOf a_t_codeFrom a_t_codeHalf a_t_codeTo a_t_stack a_t_facts a_t_newLine a_t_canSit a_t_canNext a_t_singersIn a_t_leastBy a_t_mostBy a_t_mostNext a_t_risesTo t_taped t_place0 t_length0 t_fault t_number0 t_open t_codeMany t_waiting t_saidMany t_clauses t_newMany t_lines t_stoodNow t_lastSeat t_climbedNow t_isKept t_tape t_freeAt (upd t_beginsAt x5.toNatClampNeg (t_freeAt x6.toNatClampNeg))) := hD
                            refine lv_aload_n hx hb dX12_ushers_141 rfl (lv_at hl 0 rfl) ?_
                            refine va_get (D := D) (ci := 11) (v := .ref a_t_freeAt) (C := RX12) (T := TX12) (N := 43) hx hb hT inX12 hown hK hP 0 rfl rfl 36 (by decide) (hT _ tb_1184) (fun _ h9 => h9) rfl dX12_ushers_142 ?_
                            refine lv_iload hx hb dX12_ushers_145 (lv_at hl 6 rfl) ?_
                            refine lv_aload_n hx hb dX12_ushers_147 rfl (lv_at hl 0 rfl) ?_
                            refine va_get (D := D) (ci := 11) (v := .ref a_t_freeAt) (C := RX12) (T := TX12) (N := 43) hx hb hT inX12 hown hK hP 0 rfl rfl 36 (by decide) (hT _ tb_1184) (fun _ h9 => h9) rfl dX12_ushers_148 ?_
                            refine lv_iload hx hb dX12_ushers_151 (lv_at hl 6 rfl) ?_
                            obtain ⟨hi_153, hf⟩ := ix_some hf
                            refine va_iald hx hb hK hP 2 0 rfl rfl hi_153 dX12_ushers_153 ?_
                            refine lv_aload_n hx hb dX12_ushers_154 rfl (lv_at hl 0 rfl) ?_
                            refine lv_iload hx hb dX12_ushers_155 (lv_at hl 5 rfl) ?_
                            obtain ⟨z157, e157, hf⟩ := bd_some hf
                            refine rV_RO (As := [.int x5]) (rest := [.int (t_freeAt x6.toNatClampNeg), .int x6, .ref a_t_freeAt]) ⟨hx, hb, hml, hown, hT⟩ (gdV tb_1566 tb_1568 tb_80 tb_97 tb_1569) hd_X12_octet (c_X12_octet l D cI cB cZ a_t a_t_tape a_t_now a_t_aside a_t_kept a_t_said a_t_waitsAt a_t_saidLetter a_t_saidFrom a_t_saidHalf a_t_saidTo a_t_codes a_t_clauseOf a_t_codeFrom a_t_codeHalf a_t_codeTo a_t_stack a_t_facts a_t_newLine a_t_canSit a_t_canNext a_t_singersIn a_t_freeAt a_t_beginsAt a_t_leastBy a_t_mostBy a_t_mostNext a_t_risesTo t_taped t_place0 t_length0 t_fault t_number0 t_open t_codeMany t_waiting t_saidMany t_clauses t_newMany t_lines t_stoodNow t_lastSeat t_climbedNow t_isKept t_tape x5 z157 e157) ⟨rfl, rfl⟩ ⟨Nat.le_trans (by decide) hRf, Nat.le_trans (by decide) hRl⟩ ⟨hK, hN⟩ hP [0, 1] rfl 0 rfl rfl rfl hl.1 rfl (Nat.le_of_ble_eq_true rfl) ⟨Nat.zero_le _, Nat.zero_le _⟩ dX12_ushers_157 (fun _ => ?_)
                            refine lv_iadd hx hb dX12_ushers_160 ?_
                            obtain ⟨hi_161, hf⟩ := ix_some hf
                            refine va_iast hx hb hK hP hD hS 2 0 rfl rfl hi_161 dX12_ushers_161 (fun H locs hP hD hS => ?_)
                            have hP : va_P D vwCl (w_X12_ushers cI cB cZ a_t a_t_tape a_t_freeAt a_t_beginsAt a_t_now a_t_aside a_t_kept a_t_said a_t_waitsAt a_t_saidLetter a_t_saidFrom a_t_saidHalf a_t_saidTo a_t_codes a_t_clauseOf a_t_codeFrom a_t_codeHalf a_t_codeTo a_t_stack a_t_facts a_t_newLine a_t_canSit a_t_canNext a_t_singersIn a_t_leastBy a_t_mostBy a_t_mostNext a_t_risesTo t_taped t_place0 t_length0 t_fault t_number0 t_open t_codeMany t_waiting t_saidMany t_clauses t_newMany t_lines t_stoodNow t_lastSeat t_climbedNow t_isKept t_tape (upd t_freeAt x6.toNatClampNeg ((t_freeAt x6.toNatClampNeg) + z157)) (upd t_beginsAt x5.toNatClampNeg (t_freeAt x6.toNatClampNeg))) H := hP
                            have hD : va_D A (w_X12_ushers cI cB cZ a_t a_t_tape a_t_freeAt a_t_beginsAt a_t_now a_t_aside a_t_kept a_t_said a_t_waitsAt a_t_saidLetter a_t_saidFrom a_t_saidHalf a_t_saidTo a_t_codes a_t_clauseOf a_t_codeFrom a_t_codeHalf a_t_codeTo a_t_stack a_t_facts a_t_newLine a_t_canSit a_t_canNext a_t_singersIn a_t_leastBy a_t_mostBy a_t_mostNext a_t_risesTo t_taped t_place0 t_length0 t_fault t_number0 t_open t_codeMany t_waiting t_saidMany t_clauses t_newMany t_lines t_stoodNow t_lastSeat t_climbedNow t_isKept t_tape (upd t_freeAt x6.toNatClampNeg ((t_freeAt x6.toNatClampNeg) + z157)) (upd t_beginsAt x5.toNatClampNeg (t_freeAt x6.toNatClampNeg))) := hD
                            refine lv_iload hx hb dX12_ushers_162 (lv_at hl 4 rfl) ?_
                            refine lv_aload_n hx hb dX12_ushers_164 rfl (lv_at hl 0 rfl) ?_
                            refine va_get (D := D) (ci := 11) (v := .ref a_t_freeAt) (C := RX12) (T := TX12) (N := 43) hx hb hT inX12 hown hK hP 0 rfl rfl 36 (by decide) (hT _ tb_1184) (fun _ h9 => h9) rfl dX12_ushers_165 ?_
                            refine lv_iload hx hb dX12_ushers_168 (lv_at hl 6 rfl) ?_
                            obtain ⟨hi_170, hf⟩ := ix_some hf
                            refine va_iald hx hb hK hP 2 0 rfl rfl hi_170 dX12_ushers_170 ?_
                            obtain ⟨z171, e171, hf⟩ := bd_some hf
                            refine rS_RO (As := [.int x4, .int ((upd t_freeAt x6.toNatClampNeg ((t_freeAt x6.toNatClampNeg) + z157)) x6.toNatClampNeg)]) (rest := []) ⟨hx, hb, hml, hown, hT⟩ (gdS tb_1534 tb_1535 tb_97 tb_1536) hd_X12_max (c_X12_max l D cI cB cZ x4 ((upd t_freeAt x6.toNatClampNeg ((t_freeAt x6.toNatClampNeg) + z157)) x6.toNatClampNeg) z171 e171) ⟨rfl, rfl⟩ ⟨Nat.le_trans (by decide) hRf, Nat.le_trans (by decide) hRl⟩ ⟨hK, hN⟩ hP [] rfl rfl hl.1 rfl (Nat.le_of_ble_eq_true rfl) ⟨Nat.zero_le _, Nat.zero_le _⟩ dX12_ushers_171 (fun _ => ?_)
                            refine lv_istore (lv' := [(4, .int z171), (0, .ref a_t), (1, .int x1), (2, .int x2), (3, .int x3), (5, .int x5), (6, .int x6), (7, .int x7)]) hx hb dX12_ushers_174 hl (by decide) rfl (fun ls hl => ?_)
                            refine lv_iinc (v := x5 + 1) (lv' := [(5, .int (x5 + 1)), (4, .int z171), (0, .ref a_t), (1, .int x1), (2, .int x2), (3, .int x3), (6, .int x6), (7, .int x7)]) hx hb dX12_ushers_176 hl (k := 5) rfl (congrArg (_ + ·) (by decide : Int32.ofInt 1 = 1)) (by decide) rfl (fun ls hl => ?_)
                            refine lv_goto (tgt := 82) hx hb dX12_ushers_179 (by decide) ?_
                            exact ih_82 _ _ _ _ _ _ _ _ _ _ _ hf hP hD hS (lv_sub hl [2, 3, 4, 5, 1, 0] rfl)
                          · have hf := it_neg hc_97 hf
                            refine lv_aload_n hx hb dX12_ushers_100 rfl (lv_at hl 0 rfl) ?_
                            refine va_get (D := D) (ci := 11) (v := .ref a_t_freeAt) (C := RX12) (T := TX12) (N := 43) hx hb hT inX12 hown hK hP 0 rfl rfl 36 (by decide) (hT _ tb_1184) (fun _ h9 => h9) rfl dX12_ushers_101 ?_
                            refine lv_iload hx hb dX12_ushers_104 (lv_at hl 7 rfl) ?_
                            obtain ⟨hi_106, hf⟩ := ix_some hf
                            refine va_iald hx hb hK hP 2 0 rfl rfl hi_106 dX12_ushers_106 ?_
                            refine lv_aload_n hx hb dX12_ushers_107 rfl (lv_at hl 0 rfl) ?_
                            refine va_get (D := D) (ci := 11) (v := .ref a_t_freeAt) (C := RX12) (T := TX12) (N := 43) hx hb hT inX12 hown hK hP 0 rfl rfl 36 (by decide) (hT _ tb_1184) (fun _ h9 => h9) rfl dX12_ushers_108 ?_
                            refine lv_iload hx hb dX12_ushers_111 (lv_at hl 6 rfl) ?_
                            obtain ⟨hi_113, hf⟩ := ix_some hf
                            refine va_iald hx hb hK hP 2 0 rfl rfl hi_113 dX12_ushers_113 ?_
                            refine lv_icmp_ge (tgt := 121) hx hb dX12_ushers_114 (by decide) (fun hc_114 => ?_) (fun hc_114 => ?_)
                            · have hf := it_pos hc_114 hf
                              refine lv_iinc (v := x7 + 1) (lv' := [(7, .int (x7 + 1)), (0, .ref a_t), (1, .int x1), (2, .int x2), (3, .int x3), (4, .int x4), (5, .int x5), (6, .int x6)]) hx hb dX12_ushers_121 hl (k := 7) rfl (congrArg (_ + ·) (by decide : Int32.ofInt 1 = 1)) (by decide) rfl (fun ls hl => ?_)
                              refine lv_goto (tgt := 94) hx hb dX12_ushers_124 (by decide) ?_
                              exact ih_94 _ _ _ _ _ _ _ _ _ _ _ _ _ hf hP hD hS (lv_sub hl [1, 2, 3, 4, 5, 6, 7, 0] rfl)
                            · have hf := it_neg hc_114 hf
                              refine lv_iload hx hb dX12_ushers_117 (lv_at hl 7 rfl) ?_
                              refine lv_istore (lv' := [(6, .int x7), (0, .ref a_t), (1, .int x1), (2, .int x2), (3, .int x3), (4, .int x4), (5, .int x5), (7, .int x7)]) hx hb dX12_ushers_119 hl (by decide) rfl (fun ls hl => ?_)
                              refine lv_iinc (v := x7 + 1) (lv' := [(7, .int (x7 + 1)), (6, .int x7), (0, .ref a_t), (1, .int x1), (2, .int x2), (3, .int x3), (4, .int x4), (5, .int x5)]) hx hb dX12_ushers_121 hl (k := 7) rfl (congrArg (_ + ·) (by decide : Int32.ofInt 1 = 1)) (by decide) rfl (fun ls hl => ?_)
                              refine lv_goto (tgt := 94) hx hb dX12_ushers_124 (by decide) ?_
                              exact ih_94 _ _ _ _ _ _ _ _ _ _ _ _ _ hf hP hD hS (lv_sub hl [2, 3, 4, 5, 6, 7, 1, 0] rfl)
                      refine lv_istore (lv' := [(7, .int 1), (6, .int 0), (0, .ref a_t), (1, .int x1), (2, .int x2), (3, .int x3), (4, .int x4), (5, .int x5)]) hx hb dX12_ushers_92 hl (by decide) rfl (fun ls hl => ?_)
                      exact J_94 _ _ _ _ _ _ _ _ _ _ _ _ _ _ hf hP hD hS (lv_sub hl [2, 3, 4, 5, 6, 7, 1, 0] rfl)
                refine lv_istore (lv' := [(5, .int 0), (4, .int 0), (0, .ref a_t), (1, .int x1), (2, .int x2), (3, .int x3)]) hx hb dX12_ushers_80 hl (by decide) rfl (fun ls hl => ?_)
                exact J_82 _ _ _ _ _ _ _ _ _ _ _ _ hf hP hD hS (lv_sub hl [2, 3, 4, 5, 1, 0] rfl)
              · have hf := it_neg hc_59 hf
                refine lv_aload_n hx hb dX12_ushers_62 rfl (lv_at hl 0 rfl) ?_
                refine va_get (D := D) (ci := 11) (v := .ref a_t_freeAt) (C := RX12) (T := TX12) (N := 43) hx hb hT inX12 hown hK hP 0 rfl rfl 36 (by decide) (hT _ tb_1184) (fun _ h9 => h9) rfl dX12_ushers_63 ?_
                refine lv_iload hx hb dX12_ushers_66 (lv_at hl 4 rfl) ?_
                refine lv_iconst (v := 0) hx hb dX12_ushers_68 (by decide) ?_
                obtain ⟨hi_69, hf⟩ := ix_some hf
                refine va_iast hx hb hK hP hD hS 2 0 rfl rfl hi_69 dX12_ushers_69 (fun H locs hP hD hS => ?_)
                have hP : va_P D vwCl (w_X12_ushers cI cB cZ a_t a_t_tape a_t_freeAt a_t_beginsAt a_t_now a_t_aside a_t_kept a_t_said a_t_waitsAt a_t_saidLetter a_t_saidFrom a_t_saidHalf a_t_saidTo a_t_codes a_t_clauseOf a_t_codeFrom a_t_codeHalf a_t_codeTo a_t_stack a_t_facts a_t_newLine a_t_canSit a_t_canNext a_t_singersIn a_t_leastBy a_t_mostBy a_t_mostNext a_t_risesTo t_taped t_place0 t_length0 t_fault t_number0 t_open t_codeMany t_waiting t_saidMany t_clauses t_newMany t_lines t_stoodNow t_lastSeat t_climbedNow t_isKept t_tape (upd t_freeAt x4.toNatClampNeg 0) t_beginsAt) H := hP
                have hD : va_D A (w_X12_ushers cI cB cZ a_t a_t_tape a_t_freeAt a_t_beginsAt a_t_now a_t_aside a_t_kept a_t_said a_t_waitsAt a_t_saidLetter a_t_saidFrom a_t_saidHalf a_t_saidTo a_t_codes a_t_clauseOf a_t_codeFrom a_t_codeHalf a_t_codeTo a_t_stack a_t_facts a_t_newLine a_t_canSit a_t_canNext a_t_singersIn a_t_leastBy a_t_mostBy a_t_mostNext a_t_risesTo t_taped t_place0 t_length0 t_fault t_number0 t_open t_codeMany t_waiting t_saidMany t_clauses t_newMany t_lines t_stoodNow t_lastSeat t_climbedNow t_isKept t_tape (upd t_freeAt x4.toNatClampNeg 0) t_beginsAt) := hD
                refine lv_iinc (v := x4 + 1) (lv' := [(4, .int (x4 + 1)), (0, .ref a_t), (1, .int x1), (2, .int x2), (3, .int x3)]) hx hb dX12_ushers_70 hl (k := 4) rfl (congrArg (_ + ·) (by decide : Int32.ofInt 1 = 1)) (by decide) rfl (fun ls hl => ?_)
                refine lv_goto (tgt := 55) hx hb dX12_ushers_73 (by decide) ?_
                exact ih_55 _ _ _ _ _ _ _ _ _ _ hf hP hD hS (lv_sub hl [1, 2, 3, 4, 0] rfl)
          refine lv_istore (lv' := [(4, .int 0), (0, .ref a_t), (1, .int x1), (2, .int x2), (3, .int x3)]) hx hb dX12_ushers_53 hl (by decide) rfl (fun ls hl => ?_)
          exact J_55 _ _ _ _ _ _ _ _ _ _ _ hf hP hD hS (lv_sub hl [1, 2, 3, 4, 0] rfl)
        · have hf := it_neg hc_42 hf
          refine lv_iconst (v := (-1)) hx hb dX12_ushers_45 (by decide) ?_
          obtain rfl := Option.some.inj hf
          exact hQ H locs 46 ls hP hD hS trivial dX12_ushers_46
      refine lv_icmp_eq (tgt := 37) hx hb dX12_ushers_23 (by decide) (fun hc_23 => ?_) (fun hc_23 => ?_)
      · have hf := it_pos hc_23 hf
        exact J_37 _ _ _ _ _ _ _ _ _ hf hP hD hS (lv_sub hl [0, 1, 2, 3] rfl)
      · have hf := it_neg hc_23 hf
        refine lv_iload_n hx hb dX12_ushers_26 rfl (lv_at hl 3 rfl) ?_
        refine lv_iconst (v := 0) hx hb dX12_ushers_27 (by decide) ?_
        refine lv_iload_n hx hb dX12_ushers_28 rfl (lv_at hl 1 rfl) ?_
        refine lv_iconst (v := 1) hx hb dX12_ushers_29 (by decide) ?_
        refine lv_isub hx hb dX12_ushers_30 ?_
        obtain ⟨z31, e31, hf⟩ := bd_some hf
        refine rS_RO (As := [.int x3, .int 0, .int (x1 - 1)]) (rest := []) ⟨hx, hb, hml, hown, hT⟩ (gdS tb_1283 tb_1284 tb_97 tb_1285) hd_X12_in (c_X12_in l D cI cB cZ x3 0 (x1 - 1) z31 e31) ⟨rfl, rfl⟩ ⟨Nat.le_trans (by decide) hRf, Nat.le_trans (by decide) hRl⟩ ⟨hK, hN⟩ hP [] rfl rfl hl.1 rfl (Nat.le_of_ble_eq_true rfl) ⟨Nat.zero_le _, Nat.zero_le _⟩ dX12_ushers_31 (fun hz_31 => ?_)
        refine lv_if_eq (tgt := 45) hx hb dX12_ushers_34 (by decide) (fun hc_34 => ?_) (fun hc_34 => ?_)
        · have hf := it_pos hc_34 hf
          refine lv_iconst (v := (-1)) hx hb dX12_ushers_45 (by decide) ?_
          obtain rfl := Option.some.inj hf
          exact hQ H locs 46 ls hP hD hS trivial dX12_ushers_46
        · have hf := it_neg hc_34 hf
          exact J_37 _ _ _ _ _ _ _ _ _ hf hP hD hS (lv_sub hl [0, 1, 2, 3] rfl)
theorem hd_X12_ushers : (yX12_ushers).cls = RX12 ∧ (yX12_ushers).cls ≠ "java/lang/invoke/MethodHandle" ∧ (yX12_ushers).cls ≠ "java/lang/invoke/VarHandle" ∧ (parseMethodDescriptor (yX12_ushers).desc).map (fun d => d.parameters.length) = some 3 := by decide +kernel
theorem c_X12_ushers (l : Launch) (D : va_G) (cI cB cZ : ClassId) (a_t : Nat) (a_t_tape : Nat) (a_t_freeAt : Nat) (a_t_beginsAt : Nat) (a_t_now : Nat) (a_t_aside : Nat) (a_t_kept : Nat) (a_t_said : Nat) (a_t_waitsAt : Nat) (a_t_saidLetter : Nat) (a_t_saidFrom : Nat) (a_t_saidHalf : Nat) (a_t_saidTo : Nat) (a_t_codes : Nat) (a_t_clauseOf : Nat) (a_t_codeFrom : Nat) (a_t_codeHalf : Nat) (a_t_codeTo : Nat) (a_t_stack : Nat) (a_t_facts : Nat) (a_t_newLine : Nat) (a_t_canSit : Nat) (a_t_canNext : Nat) (a_t_singersIn : Nat) (a_t_leastBy : Nat) (a_t_mostBy : Nat) (a_t_mostNext : Nat) (a_t_risesTo : Nat) (t_taped : Int32) (t_place0 : Int32) (t_length0 : Int32) (t_fault : Int32) (t_number0 : Int32) (t_open : Int32) (t_codeMany : Int32) (t_waiting : Int32) (t_saidMany : Int32) (t_clauses : Int32) (t_newMany : Int32) (t_lines : Int32) (t_stoodNow : Int32) (t_lastSeat : Int32) (t_climbedNow : Int32) (t_isKept : Int32) (t_tape : (Nat → Int32)) (t_freeAt : (Nat → Int32)) (t_beginsAt : (Nat → Int32)) (x1 : Int32) (x2 : Int32) (x3 : Int32) (sz : Nat) (res : Int32 × Int32 × (Nat → Int32) × (Nat → Int32)) (hf : f_X12_ushers t_taped t_tape t_freeAt t_beginsAt x1 x2 x3 = some res) : Met l yX12_ushers (.code yX12_ushers cX12_ushers 8 (some .int) :: TB) (rmk (1) (22)) (pRW [.ref a_t, .int x1, .int x2, .int x3] D cI cB cZ (w_X12_ushers cI cB cZ a_t a_t_tape a_t_freeAt a_t_beginsAt a_t_now a_t_aside a_t_kept a_t_said a_t_waitsAt a_t_saidLetter a_t_saidFrom a_t_saidHalf a_t_saidTo a_t_codes a_t_clauseOf a_t_codeFrom a_t_codeHalf a_t_codeTo a_t_stack a_t_facts a_t_newLine a_t_canSit a_t_canNext a_t_singersIn a_t_leastBy a_t_mostBy a_t_mostNext a_t_risesTo t_taped t_place0 t_length0 t_fault t_number0 t_open t_codeMany t_waiting t_saidMany t_clauses t_newMany t_lines t_stoodNow t_lastSeat t_climbedNow t_isKept t_tape t_freeAt t_beginsAt) sz) (qRW (some (.int res.1)) True D (w_X12_ushers cI cB cZ a_t a_t_tape a_t_freeAt a_t_beginsAt a_t_now a_t_aside a_t_kept a_t_said a_t_waitsAt a_t_saidLetter a_t_saidFrom a_t_saidHalf a_t_saidTo a_t_codes a_t_clauseOf a_t_codeFrom a_t_codeHalf a_t_codeTo a_t_stack a_t_facts a_t_newLine a_t_canSit a_t_canNext a_t_singersIn a_t_leastBy a_t_mostBy a_t_mostNext a_t_risesTo t_taped t_place0 t_length0 t_fault t_number0 t_open t_codeMany t_waiting t_saidMany t_clauses t_newMany t_lines t_stoodNow t_lastSeat t_climbedNow t_isKept t_tape t_freeAt t_beginsAt) sz (w_X12_ushers cI cB cZ a_t a_t_tape a_t_freeAt a_t_beginsAt a_t_now a_t_aside a_t_kept a_t_said a_t_waitsAt a_t_saidLetter a_t_saidFrom a_t_saidHalf a_t_saidTo a_t_codes a_t_clauseOf a_t_codeFrom a_t_codeHalf a_t_codeTo a_t_stack a_t_facts a_t_newLine a_t_canSit a_t_canNext a_t_singersIn a_t_leastBy a_t_mostBy a_t_mostNext a_t_risesTo res.2.1 t_place0 t_length0 t_fault t_number0 t_open t_codeMany t_waiting t_saidMany t_clauses t_newMany t_lines t_stoodNow t_lastSeat t_climbedNow t_isKept t_tape res.2.2.1 res.2.2.2)) 0 0 (va_A (w_X12_ushers cI cB cZ a_t a_t_tape a_t_freeAt a_t_beginsAt a_t_now a_t_aside a_t_kept a_t_said a_t_waitsAt a_t_saidLetter a_t_saidFrom a_t_saidHalf a_t_saidTo a_t_codes a_t_clauseOf a_t_codeFrom a_t_codeHalf a_t_codeTo a_t_stack a_t_facts a_t_newLine a_t_canSit a_t_canNext a_t_singersIn a_t_leastBy a_t_mostBy a_t_mostNext a_t_risesTo t_taped t_place0 t_length0 t_fault t_number0 t_open t_codeMany t_waiting t_saidMany t_clauses t_newMany t_lines t_stoodNow t_lastSeat t_climbedNow t_isKept t_tape t_freeAt t_beginsAt) sz) :=
  mkRW (by decide +kernel) (Nat.le_of_ble_eq_true rfl) (fun p e s m below meth c ls A hAe S hr hlk hK hA hP hD hS hl => b_X12_ushers S.1 S.2.1 S.2.2.1 S.2.2.2.1 S.2.2.2.2 (Nat.le_refl _) (Nat.le_refl _) hK.1 hK.2 hA s.heap [] a_t a_t_tape a_t_freeAt a_t_beginsAt a_t_now a_t_aside a_t_kept a_t_said a_t_waitsAt a_t_saidLetter a_t_saidFrom a_t_saidHalf a_t_saidTo a_t_codes a_t_clauseOf a_t_codeFrom a_t_codeHalf a_t_codeTo a_t_stack a_t_facts a_t_newLine a_t_canSit a_t_canNext a_t_singersIn a_t_leastBy a_t_mostBy a_t_mostNext a_t_risesTo t_taped t_place0 t_length0 t_fault t_number0 t_open t_codeMany t_waiting t_saidMany t_clauses t_newMany t_lines t_stoodNow t_lastSeat t_climbedNow t_isKept t_tape t_freeAt t_beginsAt x1 x2 x3 res hf hP hD hS (fun H locs pc ls hP hD hS hE hd => eRW_i S.1 S.2.1 hr rfl hlk hAe hP hD hS hE hd) ls hl)
def f_X12_leastTime_91 (t_tape : (Nat → Int32)) (k73 : Int32 → Int32 → Int32 → Int32 → Int32 → (Nat → Int32) → Option (Int32 × Int32 × (Nat → Int32))) (k82 : Int32 → Int32 → Int32 → Int32 → Int32 → Int32 → (Nat → Int32) → Option (Int32 × Int32 × (Nat → Int32))) : Nat → Int32 → Int32 → Int32 → Int32 → Int32 → Int32 → Int32 → (Nat → Int32) → Option (Int32 × Int32 × (Nat → Int32))
  | 0, _, _, _, _, _, _, _, _ => none
  | n + 1, x1, x2, x3, x4, x5, x6, t_taped, t_leastBy => (if x6 ≤ 0 then k82 x1 x2 x3 x4 (x5 + (-1)) t_taped t_leastBy else ix 1024 x5 ((f_X12_sumOf t_tape x6 x1).bind (fun z113 => ix 1024 (x5 &&& (x6 ^^^ (-1))) ((f_X12_max z113 (t_leastBy (x5 &&& (x6 ^^^ (-1))).toNatClampNeg)).bind (fun z128 => (f_X12_min (t_leastBy x5.toNatClampNeg) z128).bind (fun z131 => ix 1024 x5 ((f_X12_leastTime_91 t_tape k73 k82 n) x1 x2 x3 x4 x5 ((x6 - 1) &&& x5) t_taped (upd t_leastBy x5.toNatClampNeg z131))))))))
def f_X12_leastTime_82 (t_tape : (Nat → Int32)) (k73 : Int32 → Int32 → Int32 → Int32 → Int32 → (Nat → Int32) → Option (Int32 × Int32 × (Nat → Int32))) : Nat → Int32 → Int32 → Int32 → Int32 → Int32 → Int32 → (Nat → Int32) → Option (Int32 × Int32 × (Nat → Int32))
  | 0, _, _, _, _, _, _, _ => none
  | n + 1, x1, x2, x3, x4, x5, t_taped, t_leastBy => (if x5 ≤ 0 then k73 x1 x2 x3 (x4 + 1) t_taped t_leastBy else f_X12_leastTime_91 t_tape k73 (f_X12_leastTime_82 t_tape k73 n) FU x1 x2 x3 x4 x5 x5 t_taped t_leastBy)
def f_X12_leastTime_73 (t_tape : (Nat → Int32)) : Nat → Int32 → Int32 → Int32 → Int32 → Int32 → (Nat → Int32) → Option (Int32 × Int32 × (Nat → Int32))
  | 0, _, _, _, _, _, _ => none
  | n + 1, x1, x2, x3, x4, t_taped, t_leastBy => (if x2 ≤ x4 then ix 1024 x3 (some (t_leastBy x3.toNatClampNeg, t_taped, t_leastBy)) else f_X12_leastTime_82 t_tape (f_X12_leastTime_73 t_tape n) FU x1 x2 x3 x4 x3 t_taped t_leastBy)
def f_X12_leastTime_44 (t_tape : (Nat → Int32)) : Nat → Int32 → Int32 → Int32 → Int32 → Int32 → (Nat → Int32) → Option (Int32 × Int32 × (Nat → Int32))
  | 0, _, _, _, _, _, _ => none
  | n + 1, x1, x2, x3, x4, t_taped, t_leastBy => (if x3 < x4 then f_X12_leastTime_73 t_tape FU x1 x2 x3 1 t_taped t_leastBy else (f_X12_sumOf t_tape x4 x1).bind (fun z60 => ix 1024 x4 ((f_X12_leastTime_44 t_tape n) x1 x2 x3 (x4 + 1) t_taped (upd t_leastBy x4.toNatClampNeg z60))))
def f_X12_leastTime (t_taped : Int32) (t_tape : (Nat → Int32)) (t_leastBy : (Nat → Int32)) (x1 : Int32) (x2 : Int32) : Option (Int32 × Int32 × (Nat → Int32)) := (f_X12_in x1 1 10).bind (fun z4 => (if z4 = 0 then some ((-1), t_taped, t_leastBy) else (f_X12_in x2 1 8).bind (fun z14 => (if z14 = 0 then some ((-1), t_taped, t_leastBy) else (if x1 ≤ t_taped then f_X12_leastTime_44 t_tape FU x1 x2 ((1 <<< (x1 &&& 31)) - 1) 0 0 t_leastBy else some ((-1), t_taped, t_leastBy))))))
def w_X12_leastTime (cI cB cZ : ClassId) (a_t : Nat) (a_t_tape : Nat) (a_t_leastBy : Nat) (a_t_now : Nat) (a_t_aside : Nat) (a_t_kept : Nat) (a_t_said : Nat) (a_t_waitsAt : Nat) (a_t_saidLetter : Nat) (a_t_saidFrom : Nat) (a_t_saidHalf : Nat) (a_t_saidTo : Nat) (a_t_codes : Nat) (a_t_clauseOf : Nat) (a_t_codeFrom : Nat) (a_t_codeHalf : Nat) (a_t_codeTo : Nat) (a_t_stack : Nat) (a_t_facts : Nat) (a_t_newLine : Nat) (a_t_canSit : Nat) (a_t_canNext : Nat) (a_t_singersIn : Nat) (a_t_freeAt : Nat) (a_t_beginsAt : Nat) (a_t_mostBy : Nat) (a_t_mostNext : Nat) (a_t_risesTo : Nat) (t_taped : Int32) (t_place0 : Int32) (t_length0 : Int32) (t_fault : Int32) (t_number0 : Int32) (t_open : Int32) (t_codeMany : Int32) (t_waiting : Int32) (t_saidMany : Int32) (t_clauses : Int32) (t_newMany : Int32) (t_lines : Int32) (t_stoodNow : Int32) (t_lastSeat : Int32) (t_climbedNow : Int32) (t_isKept : Int32) (t_tape : (Nat → Int32)) (t_leastBy : (Nat → Int32)) : va_W := [(a_t, .inr (11, [.ref a_t_now, .ref a_t_aside, .ref a_t_kept, .ref a_t_tape, .int t_taped, .int t_place0, .int t_length0, .int t_fault, .int t_number0, .int t_open, .int t_codeMany, .int t_waiting, .int t_saidMany, .int t_clauses, .ref a_t_said, .ref a_t_waitsAt, .ref a_t_saidLetter, .ref a_t_saidFrom, .ref a_t_saidHalf, .ref a_t_saidTo, .ref a_t_codes, .ref a_t_clauseOf, .ref a_t_codeFrom, .ref a_t_codeHalf, .ref a_t_codeTo, .ref a_t_stack, .ref a_t_facts, .ref a_t_newLine, .int t_newMany, .int t_lines, .int t_stoodNow, .int t_lastSeat, .int t_climbedNow, .ref a_t_canSit, .ref a_t_canNext, .ref a_t_singersIn, .ref a_t_freeAt, .ref a_t_beginsAt, .ref a_t_leastBy, .ref a_t_mostBy, .ref a_t_mostNext, .ref a_t_risesTo, .int t_isKept])), (a_t_tape, .inl (cB, 260, .inl t_tape)), (a_t_leastBy, .inl (cI, 1024, .inl t_leastBy))]
set_option maxHeartbeats 4000000 in
set_option maxRecDepth 100000 in
theorem b_X12_leastTime {p : Program} {l : Launch} {e : Env} {R : Room} {s : State} {m : MethodId} {args : Array Value} {below : List Frame} {meth : Method} {c : Code} {Q : State → Prop} {D : va_G} {cI cB cZ : ClassId} (hx : p.tables.exec = Jvm.exec) (hb : c.code = cX12_leastTime) (hml : c.maxLocals = 7) (hown : s.vm.findClass RX12 = some m.cls) (hT : ∀ w ∈ TB, w.before args s = true) (hRf : (2) ≤ R.frames) (hRl : (45) ≤ R.locals) (hK : va_K D vwCl (tyL cI cB cZ) s) (hN : NW s) {A : Nat → Prop} (hA : ∀ q : Nat, s.heap.size ≤ q → A q) (H : Heap) (locs : List Loc)  (a_t : Nat) (a_t_tape : Nat) (a_t_leastBy : Nat) (a_t_now : Nat) (a_t_aside : Nat) (a_t_kept : Nat) (a_t_said : Nat) (a_t_waitsAt : Nat) (a_t_saidLetter : Nat) (a_t_saidFrom : Nat) (a_t_saidHalf : Nat) (a_t_saidTo : Nat) (a_t_codes : Nat) (a_t_clauseOf : Nat) (a_t_codeFrom : Nat) (a_t_codeHalf : Nat) (a_t_codeTo : Nat) (a_t_stack : Nat) (a_t_facts : Nat) (a_t_newLine : Nat) (a_t_canSit : Nat) (a_t_canNext : Nat) (a_t_singersIn : Nat) (a_t_freeAt : Nat) (a_t_beginsAt : Nat) (a_t_mostBy : Nat) (a_t_mostNext : Nat) (a_t_risesTo : Nat) (t_taped : Int32) (t_place0 : Int32) (t_length0 : Int32) (t_fault : Int32) (t_number0 : Int32) (t_open : Int32) (t_codeMany : Int32) (t_waiting : Int32) (t_saidMany : Int32) (t_clauses : Int32) (t_newMany : Int32) (t_lines : Int32) (t_stoodNow : Int32) (t_lastSeat : Int32) (t_climbedNow : Int32) (t_isKept : Int32) (t_tape : (Nat → Int32)) (t_leastBy : (Nat → Int32)) (x1 : Int32) (x2 : Int32) (res : Int32 × Int32 × (Nat → Int32)) (hf : f_X12_leastTime t_taped t_tape t_leastBy x1 x2 = some res) (hP : va_P D vwCl (w_X12_leastTime cI cB cZ a_t a_t_tape a_t_leastBy a_t_now a_t_aside a_t_kept a_t_said a_t_waitsAt a_t_saidLetter a_t_saidFrom a_t_saidHalf a_t_saidTo a_t_codes a_t_clauseOf a_t_codeFrom a_t_codeHalf a_t_codeTo a_t_stack a_t_facts a_t_newLine a_t_canSit a_t_canNext a_t_singersIn a_t_freeAt a_t_beginsAt a_t_mostBy a_t_mostNext a_t_risesTo t_taped t_place0 t_length0 t_fault t_number0 t_open t_codeMany t_waiting t_saidMany t_clauses t_newMany t_lines t_stoodNow t_lastSeat t_climbedNow t_isKept t_tape t_leastBy) H) (hD : va_D A (w_X12_leastTime cI cB cZ a_t a_t_tape a_t_leastBy a_t_now a_t_aside a_t_kept a_t_said a_t_waitsAt a_t_saidLetter a_t_saidFrom a_t_saidHalf a_t_saidTo a_t_codes a_t_clauseOf a_t_codeFrom a_t_codeHalf a_t_codeTo a_t_stack a_t_facts a_t_newLine a_t_canSit a_t_canNext a_t_singersIn a_t_freeAt a_t_beginsAt a_t_mostBy a_t_mostNext a_t_risesTo t_taped t_place0 t_length0 t_fault t_number0 t_open t_codeMany t_waiting t_saidMany t_clauses t_newMany t_lines t_stoodNow t_lastSeat t_climbedNow t_isKept t_tape t_leastBy)) (hS : va_S A s.heap H locs) (hQ : ∀ (H : Heap) (locs : List Loc) (pc : Nat) (ls : Array Slot), va_P D vwCl (w_X12_leastTime cI cB cZ a_t a_t_tape a_t_leastBy a_t_now a_t_aside a_t_kept a_t_said a_t_waitsAt a_t_saidLetter a_t_saidFrom a_t_saidHalf a_t_saidTo a_t_codes a_t_clauseOf a_t_codeFrom a_t_codeHalf a_t_codeTo a_t_stack a_t_facts a_t_newLine a_t_canSit a_t_canNext a_t_singersIn a_t_freeAt a_t_beginsAt a_t_mostBy a_t_mostNext a_t_risesTo res.2.1 t_place0 t_length0 t_fault t_number0 t_open t_codeMany t_waiting t_saidMany t_clauses t_newMany t_lines t_stoodNow t_lastSeat t_climbedNow t_isKept t_tape res.2.2) H → va_D A (w_X12_leastTime cI cB cZ a_t a_t_tape a_t_leastBy a_t_now a_t_aside a_t_kept a_t_said a_t_waitsAt a_t_saidLetter a_t_saidFrom a_t_saidHalf a_t_saidTo a_t_codes a_t_clauseOf a_t_codeFrom a_t_codeHalf a_t_codeTo a_t_stack a_t_facts a_t_newLine a_t_canSit a_t_canNext a_t_singersIn a_t_freeAt a_t_beginsAt a_t_mostBy a_t_mostNext a_t_risesTo res.2.1 t_place0 t_length0 t_fault t_number0 t_open t_codeMany t_waiting t_saidMany t_clauses t_newMany t_lines t_stoodNow t_lastSeat t_climbedNow t_isKept t_tape res.2.2) → va_S A s.heap H locs → True → decode cX12_leastTime pc = .ok (.ireturn, 1) → W p l e R s m args below meth c H locs 0 0 Q (F0 m pc ls [.int res.1])) (ls : Array Slot) (hl : lv_has ls 7 [(0, .ref a_t), (1, .int x1), (2, .int x2)]) : W p l e R s m args below meth c H locs 0 0 Q (F0 m 0 ls []) := by
  unfold f_X12_leastTime at hf
  refine lv_iload_n hx hb dX12_leastTime_0 rfl (lv_at hl 1 rfl) ?_
  refine lv_iconst (v := 1) hx hb dX12_leastTime_1 (by decide) ?_
  refine lv_bipush (v := 10) hx hb dX12_leastTime_2 (by decide) ?_
  obtain ⟨z4, e4, hf⟩ := bd_some hf
  refine rS_RO (As := [.int x1, .int 1, .int 10]) (rest := []) ⟨hx, hb, hml, hown, hT⟩ (gdS tb_1283 tb_1284 tb_97 tb_1285) hd_X12_in (c_X12_in l D cI cB cZ x1 1 10 z4 e4) ⟨rfl, rfl⟩ ⟨Nat.le_trans (by decide) hRf, Nat.le_trans (by decide) hRl⟩ ⟨hK, hN⟩ hP [] rfl rfl hl.1 rfl (Nat.le_of_ble_eq_true rfl) ⟨Nat.zero_le _, Nat.zero_le _⟩ dX12_leastTime_4 (fun hz_4 => ?_)
  refine lv_if_eq (tgt := 28) hx hb dX12_leastTime_7 (by decide) (fun hc_7 => ?_) (fun hc_7 => ?_)
  · have hf := it_pos hc_7 hf
    refine lv_iconst (v := (-1)) hx hb dX12_leastTime_28 (by decide) ?_
    obtain rfl := Option.some.inj hf
    exact hQ H locs 29 ls hP hD hS trivial dX12_leastTime_29
  · have hf := it_neg hc_7 hf
    refine lv_iload_n hx hb dX12_leastTime_10 rfl (lv_at hl 2 rfl) ?_
    refine lv_iconst (v := 1) hx hb dX12_leastTime_11 (by decide) ?_
    refine lv_bipush (v := 8) hx hb dX12_leastTime_12 (by decide) ?_
    obtain ⟨z14, e14, hf⟩ := bd_some hf
    refine rS_RO (As := [.int x2, .int 1, .int 8]) (rest := []) ⟨hx, hb, hml, hown, hT⟩ (gdS tb_1283 tb_1284 tb_97 tb_1285) hd_X12_in (c_X12_in l D cI cB cZ x2 1 8 z14 e14) ⟨rfl, rfl⟩ ⟨Nat.le_trans (by decide) hRf, Nat.le_trans (by decide) hRl⟩ ⟨hK, hN⟩ hP [] rfl rfl hl.1 rfl (Nat.le_of_ble_eq_true rfl) ⟨Nat.zero_le _, Nat.zero_le _⟩ dX12_leastTime_14 (fun hz_14 => ?_)
    refine lv_if_eq (tgt := 28) hx hb dX12_leastTime_17 (by decide) (fun hc_17 => ?_) (fun hc_17 => ?_)
    · have hf := it_pos hc_17 hf
      refine lv_iconst (v := (-1)) hx hb dX12_leastTime_28 (by decide) ?_
      obtain rfl := Option.some.inj hf
      exact hQ H locs 29 ls hP hD hS trivial dX12_leastTime_29
    · have hf := it_neg hc_17 hf
      refine lv_iload_n hx hb dX12_leastTime_20 rfl (lv_at hl 1 rfl) ?_
      refine lv_aload_n hx hb dX12_leastTime_21 rfl (lv_at hl 0 rfl) ?_
      refine va_get (D := D) (ci := 11) (v := .int t_taped) (C := RX12) (T := TX12) (N := 43) hx hb hT inX12 hown hK hP 0 rfl rfl 4 (by decide) (hT _ tb_1152) (fun _ h9 => h9) rfl dX12_leastTime_22 ?_
      refine lv_icmp_le (tgt := 30) hx hb dX12_leastTime_25 (by decide) (fun hc_25 => ?_) (fun hc_25 => ?_)
      · have hf := it_pos hc_25 hf
        refine lv_aload_n hx hb dX12_leastTime_30 rfl (lv_at hl 0 rfl) ?_
        refine lv_iconst (v := 0) hx hb dX12_leastTime_31 (by decide) ?_
        refine va_put (D := D) (ci := 11) (v := .int 0) (ty := (.int)) (C := RX12) (T := TX12) (N := 43) hx hb hT inX12 tyX12 tyX12_ok nmX12 hown hK hP hD hS 0 rfl rfl 4 (by decide) (hT _ tb_1152) (fun _ h9 => h9) rfl (by decide +kernel) rfl rfl (Nat.le_of_ble_eq_true rfl) dX12_leastTime_32 (fun H locs hP hD hS => ?_)
        have hP : va_P D vwCl (w_X12_leastTime cI cB cZ a_t a_t_tape a_t_leastBy a_t_now a_t_aside a_t_kept a_t_said a_t_waitsAt a_t_saidLetter a_t_saidFrom a_t_saidHalf a_t_saidTo a_t_codes a_t_clauseOf a_t_codeFrom a_t_codeHalf a_t_codeTo a_t_stack a_t_facts a_t_newLine a_t_canSit a_t_canNext a_t_singersIn a_t_freeAt a_t_beginsAt a_t_mostBy a_t_mostNext a_t_risesTo 0 t_place0 t_length0 t_fault t_number0 t_open t_codeMany t_waiting t_saidMany t_clauses t_newMany t_lines t_stoodNow t_lastSeat t_climbedNow t_isKept t_tape t_leastBy) H := hP
        have hD : va_D A (w_X12_leastTime cI cB cZ a_t a_t_tape a_t_leastBy a_t_now a_t_aside a_t_kept a_t_said a_t_waitsAt a_t_saidLetter a_t_saidFrom a_t_saidHalf a_t_saidTo a_t_codes a_t_clauseOf a_t_codeFrom a_t_codeHalf a_t_codeTo a_t_stack a_t_facts a_t_newLine a_t_canSit a_t_canNext a_t_singersIn a_t_freeAt a_t_beginsAt a_t_mostBy a_t_mostNext a_t_risesTo 0 t_place0 t_length0 t_fault t_number0 t_open t_codeMany t_waiting t_saidMany t_clauses t_newMany t_lines t_stoodNow t_lastSeat t_climbedNow t_isKept t_tape t_leastBy) := hD
        refine lv_iconst (v := 1) hx hb dX12_leastTime_35 (by decide) ?_
        refine lv_iload_n hx hb dX12_leastTime_36 rfl (lv_at hl 1 rfl) ?_
        refine lv_ishl hx hb dX12_leastTime_37 ?_
        refine lv_iconst (v := 1) hx hb dX12_leastTime_38 (by decide) ?_
        refine lv_isub hx hb dX12_leastTime_39 ?_
        refine lv_istore_n (lv' := [(3, .int ((1 <<< (x1 &&& 31)) - 1)), (0, .ref a_t), (1, .int x1), (2, .int x2)]) hx hb dX12_leastTime_40 rfl hl (by decide) rfl (fun ls hl => ?_)
        refine lv_iconst (v := 0) hx hb dX12_leastTime_41 (by decide) ?_
        have J_44 : ∀ (n_44 : Nat) (x1 : Int32) (x2 : Int32) (x3 : Int32) (x4 : Int32) (t_taped : Int32) (t_leastBy : (Nat → Int32)) (H : Heap) (locs : List Loc) (ls : Array Slot), f_X12_leastTime_44 t_tape n_44 x1 x2 x3 x4 t_taped t_leastBy = some res → va_P D vwCl (w_X12_leastTime cI cB cZ a_t a_t_tape a_t_leastBy a_t_now a_t_aside a_t_kept a_t_said a_t_waitsAt a_t_saidLetter a_t_saidFrom a_t_saidHalf a_t_saidTo a_t_codes a_t_clauseOf a_t_codeFrom a_t_codeHalf a_t_codeTo a_t_stack a_t_facts a_t_newLine a_t_canSit a_t_canNext a_t_singersIn a_t_freeAt a_t_beginsAt a_t_mostBy a_t_mostNext a_t_risesTo t_taped t_place0 t_length0 t_fault t_number0 t_open t_codeMany t_waiting t_saidMany t_clauses t_newMany t_lines t_stoodNow t_lastSeat t_climbedNow t_isKept t_tape t_leastBy) H → va_D A (w_X12_leastTime cI cB cZ a_t a_t_tape a_t_leastBy a_t_now a_t_aside a_t_kept a_t_said a_t_waitsAt a_t_saidLetter a_t_saidFrom a_t_saidHalf a_t_saidTo a_t_codes a_t_clauseOf a_t_codeFrom a_t_codeHalf a_t_codeTo a_t_stack a_t_facts a_t_newLine a_t_canSit a_t_canNext a_t_singersIn a_t_freeAt a_t_beginsAt a_t_mostBy a_t_mostNext a_t_risesTo t_taped t_place0 t_length0 t_fault t_number0 t_open t_codeMany t_waiting t_saidMany t_clauses t_newMany t_lines t_stoodNow t_lastSeat t_climbedNow t_isKept t_tape t_leastBy) → va_S A s.heap H locs → lv_has ls 7 [(0, .ref a_t), (1, .int x1), (2, .int x2), (3, .int x3), (4, .int x4)] → W p l e R s m args below meth c H locs 0 0 Q (F0 m 44 ls []) := by
          intro n_44
          induction n_44 with
          | zero =>
            intro x1 x2 x3 x4 t_taped t_leastBy H locs ls hf hP hD hS hl
            cases hf
          | succ n_44 ih_44 =>
            intro x1 x2 x3 x4 t_taped t_leastBy H locs ls hf hP hD hS hl
            unfold f_X12_leastTime_44 at hf
            refine lv_iload hx hb dX12_leastTime_44 (lv_at hl 4 rfl) ?_
            refine lv_iload_n hx hb dX12_leastTime_46 rfl (lv_at hl 3 rfl) ?_
            refine lv_icmp_gt (tgt := 70) hx hb dX12_leastTime_47 (by decide) (fun hc_47 => ?_) (fun hc_47 => ?_)
            · have hf := it_pos hc_47 hf
              refine lv_iconst (v := 1) hx hb dX12_leastTime_70 (by decide) ?_
              have J_73 : ∀ (n_73 : Nat) (x1 : Int32) (x2 : Int32) (x3 : Int32) (x4 : Int32) (t_taped : Int32) (t_leastBy : (Nat → Int32)) (H : Heap) (locs : List Loc) (ls : Array Slot), f_X12_leastTime_73 t_tape n_73 x1 x2 x3 x4 t_taped t_leastBy = some res → va_P D vwCl (w_X12_leastTime cI cB cZ a_t a_t_tape a_t_leastBy a_t_now a_t_aside a_t_kept a_t_said a_t_waitsAt a_t_saidLetter a_t_saidFrom a_t_saidHalf a_t_saidTo a_t_codes a_t_clauseOf a_t_codeFrom a_t_codeHalf a_t_codeTo a_t_stack a_t_facts a_t_newLine a_t_canSit a_t_canNext a_t_singersIn a_t_freeAt a_t_beginsAt a_t_mostBy a_t_mostNext a_t_risesTo t_taped t_place0 t_length0 t_fault t_number0 t_open t_codeMany t_waiting t_saidMany t_clauses t_newMany t_lines t_stoodNow t_lastSeat t_climbedNow t_isKept t_tape t_leastBy) H → va_D A (w_X12_leastTime cI cB cZ a_t a_t_tape a_t_leastBy a_t_now a_t_aside a_t_kept a_t_said a_t_waitsAt a_t_saidLetter a_t_saidFrom a_t_saidHalf a_t_saidTo a_t_codes a_t_clauseOf a_t_codeFrom a_t_codeHalf a_t_codeTo a_t_stack a_t_facts a_t_newLine a_t_canSit a_t_canNext a_t_singersIn a_t_freeAt a_t_beginsAt a_t_mostBy a_t_mostNext a_t_risesTo t_taped t_place0 t_length0 t_fault t_number0 t_open t_codeMany t_waiting t_saidMany t_clauses t_newMany t_lines t_stoodNow t_lastSeat t_climbedNow t_isKept t_tape t_leastBy) → va_S A s.heap H locs → lv_has ls 7 [(0, .ref a_t), (1, .int x1), (2, .int x2), (3, .int x3), (4, .int x4)] → W p l e R s m args below meth c H locs 0 0 Q (F0 m 73 ls []) := by
                intro n_73
                induction n_73 with
                | zero =>
                  intro x1 x2 x3 x4 t_taped t_leastBy H locs ls hf hP hD hS hl
                  cases hf
                | succ n_73 ih_73 =>
                  intro x1 x2 x3 x4 t_taped t_leastBy H locs ls hf hP hD hS hl
                  unfold f_X12_leastTime_73 at hf
                  refine lv_iload hx hb dX12_leastTime_73 (lv_at hl 4 rfl) ?_
                  refine lv_iload_n hx hb dX12_leastTime_75 rfl (lv_at hl 2 rfl) ?_
                  refine lv_icmp_ge (tgt := 159) hx hb dX12_leastTime_76 (by decide) (fun hc_76 => ?_) (fun hc_76 => ?_)
                  · have hf := it_pos hc_76 hf
                    refine lv_aload_n hx hb dX12_leastTime_159 rfl (lv_at hl 0 rfl) ?_
                    refine va_get (D := D) (ci := 11) (v := .ref a_t_leastBy) (C := RX12) (T := TX12) (N := 43) hx hb hT inX12 hown hK hP 0 rfl rfl 38 (by decide) (hT _ tb_1186) (fun _ h9 => h9) rfl dX12_leastTime_160 ?_
                    refine lv_iload_n hx hb dX12_leastTime_163 rfl (lv_at hl 3 rfl) ?_
                    obtain ⟨hi_164, hf⟩ := ix_some hf
                    refine va_iald hx hb hK hP 2 0 rfl rfl hi_164 dX12_leastTime_164 ?_
                    obtain rfl := Option.some.inj hf
                    exact hQ H locs 165 ls hP hD hS trivial dX12_leastTime_165
                  · have hf := it_neg hc_76 hf
                    refine lv_iload_n hx hb dX12_leastTime_79 rfl (lv_at hl 3 rfl) ?_
                    have J_82 : ∀ (n_82 : Nat) (x1 : Int32) (x2 : Int32) (x3 : Int32) (x4 : Int32) (x5 : Int32) (t_taped : Int32) (t_leastBy : (Nat → Int32)) (H : Heap) (locs : List Loc) (ls : Array Slot), f_X12_leastTime_82 t_tape (f_X12_leastTime_73 t_tape n_73) n_82 x1 x2 x3 x4 x5 t_taped t_leastBy = some res → va_P D vwCl (w_X12_leastTime cI cB cZ a_t a_t_tape a_t_leastBy a_t_now a_t_aside a_t_kept a_t_said a_t_waitsAt a_t_saidLetter a_t_saidFrom a_t_saidHalf a_t_saidTo a_t_codes a_t_clauseOf a_t_codeFrom a_t_codeHalf a_t_codeTo a_t_stack a_t_facts a_t_newLine a_t_canSit a_t_canNext a_t_singersIn a_t_freeAt a_t_beginsAt a_t_mostBy a_t_mostNext a_t_risesTo t_taped t_place0 t_length0 t_fault t_number0 t_open t_codeMany t_waiting t_saidMany t_clauses t_newMany t_lines t_stoodNow t_lastSeat t_climbedNow t_isKept t_tape t_leastBy) H → va_D A (w_X12_leastTime cI cB cZ a_t a_t_tape a_t_leastBy a_t_now a_t_aside a_t_kept a_t_said a_t_waitsAt a_t_saidLetter a_t_saidFrom a_t_saidHalf a_t_saidTo a_t_codes a_t_clauseOf a_t_codeFrom a_t_codeHalf a_t_codeTo a_t_stack a_t_facts a_t_newLine a_t_canSit a_t_canNext a_t_singersIn a_t_freeAt a_t_beginsAt a_t_mostBy a_t_mostNext a_t_risesTo t_taped t_place0 t_length0 t_fault t_number0 t_open t_codeMany t_waiting t_saidMany t_clauses t_newMany t_lines t_stoodNow t_lastSeat t_climbedNow t_isKept t_tape t_leastBy) → va_S A s.heap H locs → lv_has ls 7 [(0, .ref a_t), (1, .int x1), (2, .int x2), (3, .int x3), (4, .int x4), (5, .int x5)] → W p l e R s m args below meth c H locs 0 0 Q (F0 m 82 ls []) := by
                      intro n_82
                      induction n_82 with
                      | zero =>
                        intro x1 x2 x3 x4 x5 t_taped t_leastBy H locs ls hf hP hD hS hl
                        cases hf
                      | succ n_82 ih_82 =>
                        intro x1 x2 x3 x4 x5 t_taped t_leastBy H locs ls hf hP hD hS hl
                        unfold f_X12_leastTime_82 at hf
                        refine lv_iload hx hb dX12_leastTime_82 (lv_at hl 5 rfl) ?_
                        refine lv_if_le (tgt := 153) hx hb dX12_leastTime_84 (by decide) (fun hc_84 => ?_) (fun hc_84 => ?_)
                        · have hf := it_pos hc_84 hf
                          refine lv_iinc (v := x4 + 1) (lv' := [(4, .int (x4 + 1)), (0, .ref a_t), (1, .int x1), (2, .int x2), (3, .int x3), (5, .int x5)]) hx hb dX12_leastTime_153 hl (k := 4) rfl (congrArg (_ + ·) (by decide : Int32.ofInt 1 = 1)) (by decide) rfl (fun ls hl => ?_)
                          refine lv_goto (tgt := 73) hx hb dX12_leastTime_156 (by decide) ?_
                          exact ih_73 _ _ _ _ _ _ _ _ _ hf hP hD hS (lv_sub hl [1, 2, 3, 4, 0] rfl)
                        · have hf := it_neg hc_84 hf
                          refine lv_iload hx hb dX12_leastTime_87 (lv_at hl 5 rfl) ?_
                          have J_91 : ∀ (n_91 : Nat) (x1 : Int32) (x2 : Int32) (x3 : Int32) (x4 : Int32) (x5 : Int32) (x6 : Int32) (t_taped : Int32) (t_leastBy : (Nat → Int32)) (H : Heap) (locs : List Loc) (ls : Array Slot), f_X12_leastTime_91 t_tape (f_X12_leastTime_73 t_tape n_73) (f_X12_leastTime_82 t_tape (f_X12_leastTime_73 t_tape n_73) n_82) n_91 x1 x2 x3 x4 x5 x6 t_taped t_leastBy = some res → va_P D vwCl (w_X12_leastTime cI cB cZ a_t a_t_tape a_t_leastBy a_t_now a_t_aside a_t_kept a_t_said a_t_waitsAt a_t_saidLetter a_t_saidFrom a_t_saidHalf a_t_saidTo a_t_codes a_t_clauseOf a_t_codeFrom a_t_codeHalf a_t_codeTo a_t_stack a_t_facts a_t_newLine a_t_canSit a_t_canNext a_t_singersIn a_t_freeAt a_t_beginsAt a_t_mostBy a_t_mostNext a_t_risesTo t_taped t_place0 t_length0 t_fault t_number0 t_open t_codeMany t_waiting t_saidMany t_clauses t_newMany t_lines t_stoodNow t_lastSeat t_climbedNow t_isKept t_tape t_leastBy) H → va_D A (w_X12_leastTime cI cB cZ a_t a_t_tape a_t_leastBy a_t_now a_t_aside a_t_kept a_t_said a_t_waitsAt a_t_saidLetter a_t_saidFrom a_t_saidHalf a_t_saidTo a_t_codes a_t_clauseOf a_t_codeFrom a_t_codeHalf a_t_codeTo a_t_stack a_t_facts a_t_newLine a_t_canSit a_t_canNext a_t_singersIn a_t_freeAt a_t_beginsAt a_t_mostBy a_t_mostNext a_t_risesTo t_taped t_place0 t_length0 t_fault t_number0 t_open t_codeMany t_waiting t_saidMany t_clauses t_newMany t_lines t_stoodNow t_lastSeat t_climbedNow t_isKept t_tape t_leastBy) → va_S A s.heap H locs → lv_has ls 7 [(0, .ref a_t), (1, .int x1), (2, .int x2), (3, .int x3), (4, .int x4), (5, .int x5), (6, .int x6)] → W p l e R s m args below meth c H locs 0 0 Q (F0 m 91 ls []) := by
                            intro n_91
                            induction n_91 with
                            | zero =>
                              intro x1 x2 x3 x4 x5 x6 t_taped t_leastBy H locs ls hf hP hD hS hl
                              cases hf
                            | succ n_91 ih_91 =>
                              intro x1 x2 x3 x4 x5 x6 t_taped t_leastBy H locs ls hf hP hD hS hl
                              unfold f_X12_leastTime_91 at hf
                              refine lv_iload hx hb dX12_leastTime_91 (lv_at hl 6 rfl) ?_
                              refine lv_if_le (tgt := 147) hx hb dX12_leastTime_93 (by decide) (fun hc_93 => ?_) (fun hc_93 => ?_)
                              · have hf := it_pos hc_93 hf
                                refine lv_iinc (v := x5 + (-1)) (lv' := [(5, .int (x5 + (-1))), (0, .ref a_t), (1, .int x1), (2, .int x2), (3, .int x3), (4, .int x4), (6, .int x6)]) hx hb dX12_leastTime_147 hl (k := 5) rfl (congrArg (_ + ·) (by decide : Int32.ofInt (-1) = (-1))) (by decide) rfl (fun ls hl => ?_)
                                refine lv_goto (tgt := 82) hx hb dX12_leastTime_150 (by decide) ?_
                                exact ih_82 _ _ _ _ _ _ _ _ _ _ hf hP hD hS (lv_sub hl [1, 2, 3, 4, 5, 0] rfl)
                              · have hf := it_neg hc_93 hf
                                refine lv_aload_n hx hb dX12_leastTime_96 rfl (lv_at hl 0 rfl) ?_
                                refine va_get (D := D) (ci := 11) (v := .ref a_t_leastBy) (C := RX12) (T := TX12) (N := 43) hx hb hT inX12 hown hK hP 0 rfl rfl 38 (by decide) (hT _ tb_1186) (fun _ h9 => h9) rfl dX12_leastTime_97 ?_
                                refine lv_iload hx hb dX12_leastTime_100 (lv_at hl 5 rfl) ?_
                                refine lv_aload_n hx hb dX12_leastTime_102 rfl (lv_at hl 0 rfl) ?_
                                refine va_get (D := D) (ci := 11) (v := .ref a_t_leastBy) (C := RX12) (T := TX12) (N := 43) hx hb hT inX12 hown hK hP 0 rfl rfl 38 (by decide) (hT _ tb_1186) (fun _ h9 => h9) rfl dX12_leastTime_103 ?_
                                refine lv_iload hx hb dX12_leastTime_106 (lv_at hl 5 rfl) ?_
                                obtain ⟨hi_108, hf⟩ := ix_some hf
                                refine va_iald hx hb hK hP 2 0 rfl rfl hi_108 dX12_leastTime_108 ?_
                                refine lv_aload_n hx hb dX12_leastTime_109 rfl (lv_at hl 0 rfl) ?_
                                refine lv_iload hx hb dX12_leastTime_110 (lv_at hl 6 rfl) ?_
                                refine lv_iload_n hx hb dX12_leastTime_112 rfl (lv_at hl 1 rfl) ?_
                                obtain ⟨z113, e113, hf⟩ := bd_some hf
                                refine rV_RO (As := [.int x6, .int x1]) (rest := [.int (t_leastBy x5.toNatClampNeg), .int x5, .ref a_t_leastBy]) ⟨hx, hb, hml, hown, hT⟩ (gdV tb_1581 tb_1583 tb_81 tb_97 tb_1584) hd_X12_sumOf (c_X12_sumOf l D cI cB cZ a_t a_t_tape a_t_now a_t_aside a_t_kept a_t_said a_t_waitsAt a_t_saidLetter a_t_saidFrom a_t_saidHalf a_t_saidTo a_t_codes a_t_clauseOf a_t_codeFrom a_t_codeHalf a_t_codeTo a_t_stack a_t_facts a_t_newLine a_t_canSit a_t_canNext a_t_singersIn a_t_freeAt a_t_beginsAt a_t_leastBy a_t_mostBy a_t_mostNext a_t_risesTo t_taped t_place0 t_length0 t_fault t_number0 t_open t_codeMany t_waiting t_saidMany t_clauses t_newMany t_lines t_stoodNow t_lastSeat t_climbedNow t_isKept t_tape x6 x1 z113 e113) ⟨rfl, rfl⟩ ⟨Nat.le_trans (by decide) hRf, Nat.le_trans (by decide) hRl⟩ ⟨hK, hN⟩ hP [0, 1] rfl 0 rfl rfl rfl hl.1 rfl (Nat.le_of_ble_eq_true rfl) ⟨Nat.zero_le _, Nat.zero_le _⟩ dX12_leastTime_113 (fun _ => ?_)
                                refine lv_aload_n hx hb dX12_leastTime_116 rfl (lv_at hl 0 rfl) ?_
                                refine va_get (D := D) (ci := 11) (v := .ref a_t_leastBy) (C := RX12) (T := TX12) (N := 43) hx hb hT inX12 hown hK hP 0 rfl rfl 38 (by decide) (hT _ tb_1186) (fun _ h9 => h9) rfl dX12_leastTime_117 ?_
                                refine lv_iload hx hb dX12_leastTime_120 (lv_at hl 5 rfl) ?_
                                refine lv_iload hx hb dX12_leastTime_122 (lv_at hl 6 rfl) ?_
                                refine lv_iconst (v := (-1)) hx hb dX12_leastTime_124 (by decide) ?_
                                refine lv_ixor hx hb dX12_leastTime_125 ?_
                                refine lv_iand hx hb dX12_leastTime_126 ?_
                                obtain ⟨hi_127, hf⟩ := ix_some hf
                                refine va_iald hx hb hK hP 2 0 rfl rfl hi_127 dX12_leastTime_127 ?_
                                obtain ⟨z128, e128, hf⟩ := bd_some hf
                                refine rS_RO (As := [.int z113, .int (t_leastBy (x5 &&& (x6 ^^^ (-1))).toNatClampNeg)]) (rest := [.int (t_leastBy x5.toNatClampNeg), .int x5, .ref a_t_leastBy]) ⟨hx, hb, hml, hown, hT⟩ (gdS tb_1534 tb_1535 tb_97 tb_1536) hd_X12_max (c_X12_max l D cI cB cZ z113 (t_leastBy (x5 &&& (x6 ^^^ (-1))).toNatClampNeg) z128 e128) ⟨rfl, rfl⟩ ⟨Nat.le_trans (by decide) hRf, Nat.le_trans (by decide) hRl⟩ ⟨hK, hN⟩ hP [] rfl rfl hl.1 rfl (Nat.le_of_ble_eq_true rfl) ⟨Nat.zero_le _, Nat.zero_le _⟩ dX12_leastTime_128 (fun _ => ?_)
                                obtain ⟨z131, e131, hf⟩ := bd_some hf
                                refine rS_RO (As := [.int (t_leastBy x5.toNatClampNeg), .int z128]) (rest := [.int x5, .ref a_t_leastBy]) ⟨hx, hb, hml, hown, hT⟩ (gdS tb_1620 tb_1621 tb_97 tb_1622) hd_X12_min (c_X12_min l D cI cB cZ (t_leastBy x5.toNatClampNeg) z128 z131 e131) ⟨rfl, rfl⟩ ⟨Nat.le_trans (by decide) hRf, Nat.le_trans (by decide) hRl⟩ ⟨hK, hN⟩ hP [] rfl rfl hl.1 rfl (Nat.le_of_ble_eq_true rfl) ⟨Nat.zero_le _, Nat.zero_le _⟩ dX12_leastTime_131 (fun _ => ?_)
                                obtain ⟨hi_134, hf⟩ := ix_some hf
                                refine va_iast hx hb hK hP hD hS 2 0 rfl rfl hi_134 dX12_leastTime_134 (fun H locs hP hD hS => ?_)
                                have hP : va_P D vwCl (w_X12_leastTime cI cB cZ a_t a_t_tape a_t_leastBy a_t_now a_t_aside a_t_kept a_t_said a_t_waitsAt a_t_saidLetter a_t_saidFrom a_t_saidHalf a_t_saidTo a_t_codes a_t_clauseOf a_t_codeFrom a_t_codeHalf a_t_codeTo a_t_stack a_t_facts a_t_newLine a_t_canSit a_t_canNext a_t_singersIn a_t_freeAt a_t_beginsAt a_t_mostBy a_t_mostNext a_t_risesTo t_taped t_place0 t_length0 t_fault t_number0 t_open t_codeMany t_waiting t_saidMany t_clauses t_newMany t_lines t_stoodNow t_lastSeat t_climbedNow t_isKept t_tape (upd t_leastBy x5.toNatClampNeg z131)) H := hP
                                have hD : va_D A (w_X12_leastTime cI cB cZ a_t a_t_tape a_t_leastBy a_t_now a_t_aside a_t_kept a_t_said a_t_waitsAt a_t_saidLetter a_t_saidFrom a_t_saidHalf a_t_saidTo a_t_codes a_t_clauseOf a_t_codeFrom a_t_codeHalf a_t_codeTo a_t_stack a_t_facts a_t_newLine a_t_canSit a_t_canNext a_t_singersIn a_t_freeAt a_t_beginsAt a_t_mostBy a_t_mostNext a_t_risesTo t_taped t_place0 t_length0 t_fault t_number0 t_open t_codeMany t_waiting t_saidMany t_clauses t_newMany t_lines t_stoodNow t_lastSeat t_climbedNow t_isKept t_tape (upd t_leastBy x5.toNatClampNeg z131)) := hD
                                refine lv_iload hx hb dX12_leastTime_135 (lv_at hl 6 rfl) ?_
                                refine lv_iconst (v := 1) hx hb dX12_leastTime_137 (by decide) ?_
                                refine lv_isub hx hb dX12_leastTime_138 ?_
                                refine lv_iload hx hb dX12_leastTime_139 (lv_at hl 5 rfl) ?_
                                refine lv_iand hx hb dX12_leastTime_141 ?_
                                refine lv_istore (lv' := [(6, .int ((x6 - 1) &&& x5)), (0, .ref a_t), (1, .int x1), (2, .int x2), (3, .int x3), (4, .int x4), (5, .int x5)]) hx hb dX12_leastTime_142 hl (by decide) rfl (fun ls hl => ?_)
                                refine lv_goto (tgt := 91) hx hb dX12_leastTime_144 (by decide) ?_
                                exact ih_91 _ _ _ _ _ _ _ _ _ _ _ hf hP hD hS (lv_sub hl [1, 2, 3, 4, 5, 6, 0] rfl)
                          refine lv_istore (lv' := [(6, .int x5), (0, .ref a_t), (1, .int x1), (2, .int x2), (3, .int x3), (4, .int x4), (5, .int x5)]) hx hb dX12_leastTime_89 hl (by decide) rfl (fun ls hl => ?_)
                          exact J_91 _ _ _ _ _ _ _ _ _ _ _ _ hf hP hD hS (lv_sub hl [1, 2, 3, 4, 5, 6, 0] rfl)
                    refine lv_istore (lv' := [(5, .int x3), (0, .ref a_t), (1, .int x1), (2, .int x2), (3, .int x3), (4, .int x4)]) hx hb dX12_leastTime_80 hl (by decide) rfl (fun ls hl => ?_)
                    exact J_82 _ _ _ _ _ _ _ _ _ _ _ hf hP hD hS (lv_sub hl [1, 2, 3, 4, 5, 0] rfl)
              refine lv_istore (lv' := [(4, .int 1), (0, .ref a_t), (1, .int x1), (2, .int x2), (3, .int x3)]) hx hb dX12_leastTime_71 hl (by decide) rfl (fun ls hl => ?_)
              exact J_73 _ _ _ _ _ _ _ _ _ _ hf hP hD hS (lv_sub hl [1, 2, 3, 4, 0] rfl)
            · have hf := it_neg hc_47 hf
              refine lv_aload_n hx hb dX12_leastTime_50 rfl (lv_at hl 0 rfl) ?_
              refine va_get (D := D) (ci := 11) (v := .ref a_t_leastBy) (C := RX12) (T := TX12) (N := 43) hx hb hT inX12 hown hK hP 0 rfl rfl 38 (by decide) (hT _ tb_1186) (fun _ h9 => h9) rfl dX12_leastTime_51 ?_
              refine lv_iload hx hb dX12_leastTime_54 (lv_at hl 4 rfl) ?_
              refine lv_aload_n hx hb dX12_leastTime_56 rfl (lv_at hl 0 rfl) ?_
              refine lv_iload hx hb dX12_leastTime_57 (lv_at hl 4 rfl) ?_
              refine lv_iload_n hx hb dX12_leastTime_59 rfl (lv_at hl 1 rfl) ?_
              obtain ⟨z60, e60, hf⟩ := bd_some hf
              refine rV_RO (As := [.int x4, .int x1]) (rest := [.int x4, .ref a_t_leastBy]) ⟨hx, hb, hml, hown, hT⟩ (gdV tb_1581 tb_1583 tb_81 tb_97 tb_1584) hd_X12_sumOf (c_X12_sumOf l D cI cB cZ a_t a_t_tape a_t_now a_t_aside a_t_kept a_t_said a_t_waitsAt a_t_saidLetter a_t_saidFrom a_t_saidHalf a_t_saidTo a_t_codes a_t_clauseOf a_t_codeFrom a_t_codeHalf a_t_codeTo a_t_stack a_t_facts a_t_newLine a_t_canSit a_t_canNext a_t_singersIn a_t_freeAt a_t_beginsAt a_t_leastBy a_t_mostBy a_t_mostNext a_t_risesTo t_taped t_place0 t_length0 t_fault t_number0 t_open t_codeMany t_waiting t_saidMany t_clauses t_newMany t_lines t_stoodNow t_lastSeat t_climbedNow t_isKept t_tape x4 x1 z60 e60) ⟨rfl, rfl⟩ ⟨Nat.le_trans (by decide) hRf, Nat.le_trans (by decide) hRl⟩ ⟨hK, hN⟩ hP [0, 1] rfl 0 rfl rfl rfl hl.1 rfl (Nat.le_of_ble_eq_true rfl) ⟨Nat.zero_le _, Nat.zero_le _⟩ dX12_leastTime_60 (fun _ => ?_)
              obtain ⟨hi_63, hf⟩ := ix_some hf
              refine va_iast hx hb hK hP hD hS 2 0 rfl rfl hi_63 dX12_leastTime_63 (fun H locs hP hD hS => ?_)
              have hP : va_P D vwCl (w_X12_leastTime cI cB cZ a_t a_t_tape a_t_leastBy a_t_now a_t_aside a_t_kept a_t_said a_t_waitsAt a_t_saidLetter a_t_saidFrom a_t_saidHalf a_t_saidTo a_t_codes a_t_clauseOf a_t_codeFrom a_t_codeHalf a_t_codeTo a_t_stack a_t_facts a_t_newLine a_t_canSit a_t_canNext a_t_singersIn a_t_freeAt a_t_beginsAt a_t_mostBy a_t_mostNext a_t_risesTo t_taped t_place0 t_length0 t_fault t_number0 t_open t_codeMany t_waiting t_saidMany t_clauses t_newMany t_lines t_stoodNow t_lastSeat t_climbedNow t_isKept t_tape (upd t_leastBy x4.toNatClampNeg z60)) H := hP
              have hD : va_D A (w_X12_leastTime cI cB cZ a_t a_t_tape a_t_leastBy a_t_now a_t_aside a_t_kept a_t_said a_t_waitsAt a_t_saidLetter a_t_saidFrom a_t_saidHalf a_t_saidTo a_t_codes a_t_clauseOf a_t_codeFrom a_t_codeHalf a_t_codeTo a_t_stack a_t_facts a_t_newLine a_t_canSit a_t_canNext a_t_singersIn a_t_freeAt a_t_beginsAt a_t_mostBy a_t_mostNext a_t_risesTo t_taped t_place0 t_length0 t_fault t_number0 t_open t_codeMany t_waiting t_saidMany t_clauses t_newMany t_lines t_stoodNow t_lastSeat t_climbedNow t_isKept t_tape (upd t_leastBy x4.toNatClampNeg z60)) := hD
              refine lv_iinc (v := x4 + 1) (lv' := [(4, .int (x4 + 1)), (0, .ref a_t), (1, .int x1), (2, .int x2), (3, .int x3)]) hx hb dX12_leastTime_64 hl (k := 4) rfl (congrArg (_ + ·) (by decide : Int32.ofInt 1 = 1)) (by decide) rfl (fun ls hl => ?_)
              refine lv_goto (tgt := 44) hx hb dX12_leastTime_67 (by decide) ?_
              exact ih_44 _ _ _ _ _ _ _ _ _ hf hP hD hS (lv_sub hl [1, 2, 3, 4, 0] rfl)
        refine lv_istore (lv' := [(4, .int 0), (3, .int ((1 <<< (x1 &&& 31)) - 1)), (0, .ref a_t), (1, .int x1), (2, .int x2)]) hx hb dX12_leastTime_42 hl (by decide) rfl (fun ls hl => ?_)
        exact J_44 _ _ _ _ _ _ _ _ _ _ hf hP hD hS (lv_sub hl [2, 3, 4, 1, 0] rfl)
      · have hf := it_neg hc_25 hf
        refine lv_iconst (v := (-1)) hx hb dX12_leastTime_28 (by decide) ?_
        obtain rfl := Option.some.inj hf
        exact hQ H locs 29 ls hP hD hS trivial dX12_leastTime_29
theorem hd_X12_leastTime : (yX12_leastTime).cls = RX12 ∧ (yX12_leastTime).cls ≠ "java/lang/invoke/MethodHandle" ∧ (yX12_leastTime).cls ≠ "java/lang/invoke/VarHandle" ∧ (parseMethodDescriptor (yX12_leastTime).desc).map (fun d => d.parameters.length) = some 2 := by decide +kernel
theorem c_X12_leastTime (l : Launch) (D : va_G) (cI cB cZ : ClassId) (a_t : Nat) (a_t_tape : Nat) (a_t_leastBy : Nat) (a_t_now : Nat) (a_t_aside : Nat) (a_t_kept : Nat) (a_t_said : Nat) (a_t_waitsAt : Nat) (a_t_saidLetter : Nat) (a_t_saidFrom : Nat) (a_t_saidHalf : Nat) (a_t_saidTo : Nat) (a_t_codes : Nat) (a_t_clauseOf : Nat) (a_t_codeFrom : Nat) (a_t_codeHalf : Nat) (a_t_codeTo : Nat) (a_t_stack : Nat) (a_t_facts : Nat) (a_t_newLine : Nat) (a_t_canSit : Nat) (a_t_canNext : Nat) (a_t_singersIn : Nat) (a_t_freeAt : Nat) (a_t_beginsAt : Nat) (a_t_mostBy : Nat) (a_t_mostNext : Nat) (a_t_risesTo : Nat) (t_taped : Int32) (t_place0 : Int32) (t_length0 : Int32) (t_fault : Int32) (t_number0 : Int32) (t_open : Int32) (t_codeMany : Int32) (t_waiting : Int32) (t_saidMany : Int32) (t_clauses : Int32) (t_newMany : Int32) (t_lines : Int32) (t_stoodNow : Int32) (t_lastSeat : Int32) (t_climbedNow : Int32) (t_isKept : Int32) (t_tape : (Nat → Int32)) (t_leastBy : (Nat → Int32)) (x1 : Int32) (x2 : Int32) (sz : Nat) (res : Int32 × Int32 × (Nat → Int32)) (hf : f_X12_leastTime t_taped t_tape t_leastBy x1 x2 = some res) : Met l yX12_leastTime (.code yX12_leastTime cX12_leastTime 7 (some .int) :: TB) (rmk (2) (45)) (pRW [.ref a_t, .int x1, .int x2] D cI cB cZ (w_X12_leastTime cI cB cZ a_t a_t_tape a_t_leastBy a_t_now a_t_aside a_t_kept a_t_said a_t_waitsAt a_t_saidLetter a_t_saidFrom a_t_saidHalf a_t_saidTo a_t_codes a_t_clauseOf a_t_codeFrom a_t_codeHalf a_t_codeTo a_t_stack a_t_facts a_t_newLine a_t_canSit a_t_canNext a_t_singersIn a_t_freeAt a_t_beginsAt a_t_mostBy a_t_mostNext a_t_risesTo t_taped t_place0 t_length0 t_fault t_number0 t_open t_codeMany t_waiting t_saidMany t_clauses t_newMany t_lines t_stoodNow t_lastSeat t_climbedNow t_isKept t_tape t_leastBy) sz) (qRW (some (.int res.1)) True D (w_X12_leastTime cI cB cZ a_t a_t_tape a_t_leastBy a_t_now a_t_aside a_t_kept a_t_said a_t_waitsAt a_t_saidLetter a_t_saidFrom a_t_saidHalf a_t_saidTo a_t_codes a_t_clauseOf a_t_codeFrom a_t_codeHalf a_t_codeTo a_t_stack a_t_facts a_t_newLine a_t_canSit a_t_canNext a_t_singersIn a_t_freeAt a_t_beginsAt a_t_mostBy a_t_mostNext a_t_risesTo t_taped t_place0 t_length0 t_fault t_number0 t_open t_codeMany t_waiting t_saidMany t_clauses t_newMany t_lines t_stoodNow t_lastSeat t_climbedNow t_isKept t_tape t_leastBy) sz (w_X12_leastTime cI cB cZ a_t a_t_tape a_t_leastBy a_t_now a_t_aside a_t_kept a_t_said a_t_waitsAt a_t_saidLetter a_t_saidFrom a_t_saidHalf a_t_saidTo a_t_codes a_t_clauseOf a_t_codeFrom a_t_codeHalf a_t_codeTo a_t_stack a_t_facts a_t_newLine a_t_canSit a_t_canNext a_t_singersIn a_t_freeAt a_t_beginsAt a_t_mostBy a_t_mostNext a_t_risesTo res.2.1 t_place0 t_length0 t_fault t_number0 t_open t_codeMany t_waiting t_saidMany t_clauses t_newMany t_lines t_stoodNow t_lastSeat t_climbedNow t_isKept t_tape res.2.2)) 0 0 (va_A (w_X12_leastTime cI cB cZ a_t a_t_tape a_t_leastBy a_t_now a_t_aside a_t_kept a_t_said a_t_waitsAt a_t_saidLetter a_t_saidFrom a_t_saidHalf a_t_saidTo a_t_codes a_t_clauseOf a_t_codeFrom a_t_codeHalf a_t_codeTo a_t_stack a_t_facts a_t_newLine a_t_canSit a_t_canNext a_t_singersIn a_t_freeAt a_t_beginsAt a_t_mostBy a_t_mostNext a_t_risesTo t_taped t_place0 t_length0 t_fault t_number0 t_open t_codeMany t_waiting t_saidMany t_clauses t_newMany t_lines t_stoodNow t_lastSeat t_climbedNow t_isKept t_tape t_leastBy) sz) :=
  mkRW (by decide +kernel) (Nat.le_of_ble_eq_true rfl) (fun p e s m below meth c ls A hAe S hr hlk hK hA hP hD hS hl => b_X12_leastTime S.1 S.2.1 S.2.2.1 S.2.2.2.1 S.2.2.2.2 (Nat.le_refl _) (Nat.le_refl _) hK.1 hK.2 hA s.heap [] a_t a_t_tape a_t_leastBy a_t_now a_t_aside a_t_kept a_t_said a_t_waitsAt a_t_saidLetter a_t_saidFrom a_t_saidHalf a_t_saidTo a_t_codes a_t_clauseOf a_t_codeFrom a_t_codeHalf a_t_codeTo a_t_stack a_t_facts a_t_newLine a_t_canSit a_t_canNext a_t_singersIn a_t_freeAt a_t_beginsAt a_t_mostBy a_t_mostNext a_t_risesTo t_taped t_place0 t_length0 t_fault t_number0 t_open t_codeMany t_waiting t_saidMany t_clauses t_newMany t_lines t_stoodNow t_lastSeat t_climbedNow t_isKept t_tape t_leastBy x1 x2 res hf hP hD hS (fun H locs pc ls hP hD hS hE hd => eRW_i S.1 S.2.1 hr rfl hlk hAe hP hD hS hE hd) ls hl)
def f_X12_takenIn_4 (t_now : (Nat → Int32)) : Nat → Int32 → Int32 → Int32 → Option (Int32)
  | 0, _, _, _ => none
  | n + 1, x1, x2, x3 => (if 9 ≤ x3 then some (x2) else (f_X12_isTaken t_now ((9 * x1) + x3)).bind (fun z17 => (if z17 = 0 then (f_X12_takenIn_4 t_now n) x1 x2 (x3 + 1) else (f_X12_takenIn_4 t_now n) x1 (x2 ||| (1 <<< (x3 &&& 31))) (x3 + 1))))
def f_X12_takenIn (t_now : (Nat → Int32)) (x1 : Int32) : Option (Int32) := f_X12_takenIn_4 t_now FU x1 0 0
def w_X12_takenIn (cI cB cZ : ClassId) (a_t : Nat) (a_t_now : Nat) (a_t_aside : Nat) (a_t_kept : Nat) (a_t_tape : Nat) (a_t_said : Nat) (a_t_waitsAt : Nat) (a_t_saidLetter : Nat) (a_t_saidFrom : Nat) (a_t_saidHalf : Nat) (a_t_saidTo : Nat) (a_t_codes : Nat) (a_t_clauseOf : Nat) (a_t_codeFrom : Nat) (a_t_codeHalf : Nat) (a_t_codeTo : Nat) (a_t_stack : Nat) (a_t_facts : Nat) (a_t_newLine : Nat) (a_t_canSit : Nat) (a_t_canNext : Nat) (a_t_singersIn : Nat) (a_t_freeAt : Nat) (a_t_beginsAt : Nat) (a_t_leastBy : Nat) (a_t_mostBy : Nat) (a_t_mostNext : Nat) (a_t_risesTo : Nat) (t_taped : Int32) (t_place0 : Int32) (t_length0 : Int32) (t_fault : Int32) (t_number0 : Int32) (t_open : Int32) (t_codeMany : Int32) (t_waiting : Int32) (t_saidMany : Int32) (t_clauses : Int32) (t_newMany : Int32) (t_lines : Int32) (t_stoodNow : Int32) (t_lastSeat : Int32) (t_climbedNow : Int32) (t_isKept : Int32) (t_now : (Nat → Int32)) : va_W := [(a_t, .inr (11, [.ref a_t_now, .ref a_t_aside, .ref a_t_kept, .ref a_t_tape, .int t_taped, .int t_place0, .int t_length0, .int t_fault, .int t_number0, .int t_open, .int t_codeMany, .int t_waiting, .int t_saidMany, .int t_clauses, .ref a_t_said, .ref a_t_waitsAt, .ref a_t_saidLetter, .ref a_t_saidFrom, .ref a_t_saidHalf, .ref a_t_saidTo, .ref a_t_codes, .ref a_t_clauseOf, .ref a_t_codeFrom, .ref a_t_codeHalf, .ref a_t_codeTo, .ref a_t_stack, .ref a_t_facts, .ref a_t_newLine, .int t_newMany, .int t_lines, .int t_stoodNow, .int t_lastSeat, .int t_climbedNow, .ref a_t_canSit, .ref a_t_canNext, .ref a_t_singersIn, .ref a_t_freeAt, .ref a_t_beginsAt, .ref a_t_leastBy, .ref a_t_mostBy, .ref a_t_mostNext, .ref a_t_risesTo, .int t_isKept])), (a_t_now, .inl (cI, 637, .inl t_now))]
set_option maxHeartbeats 4000000 in
set_option maxRecDepth 100000 in
theorem b_X12_takenIn {p : Program} {l : Launch} {e : Env} {R : Room} {s : State} {m : MethodId} {args : Array Value} {below : List Frame} {meth : Method} {c : Code} {Q : State → Prop} {D : va_G} {cI cB cZ : ClassId} (hx : p.tables.exec = Jvm.exec) (hb : c.code = cX12_takenIn) (hml : c.maxLocals = 4) (hown : s.vm.findClass RX12 = some m.cls) (hT : ∀ w ∈ TB, w.before args s = true) (hRf : (1) ≤ R.frames) (hRl : (21) ≤ R.locals) (hK : va_K D vwCl (tyL cI cB cZ) s) (hN : NW s)  (a_t : Nat) (a_t_now : Nat) (a_t_aside : Nat) (a_t_kept : Nat) (a_t_tape : Nat) (a_t_said : Nat) (a_t_waitsAt : Nat) (a_t_saidLetter : Nat) (a_t_saidFrom : Nat) (a_t_saidHalf : Nat) (a_t_saidTo : Nat) (a_t_codes : Nat) (a_t_clauseOf : Nat) (a_t_codeFrom : Nat) (a_t_codeHalf : Nat) (a_t_codeTo : Nat) (a_t_stack : Nat) (a_t_facts : Nat) (a_t_newLine : Nat) (a_t_canSit : Nat) (a_t_canNext : Nat) (a_t_singersIn : Nat) (a_t_freeAt : Nat) (a_t_beginsAt : Nat) (a_t_leastBy : Nat) (a_t_mostBy : Nat) (a_t_mostNext : Nat) (a_t_risesTo : Nat) (t_taped : Int32) (t_place0 : Int32) (t_length0 : Int32) (t_fault : Int32) (t_number0 : Int32) (t_open : Int32) (t_codeMany : Int32) (t_waiting : Int32) (t_saidMany : Int32) (t_clauses : Int32) (t_newMany : Int32) (t_lines : Int32) (t_stoodNow : Int32) (t_lastSeat : Int32) (t_climbedNow : Int32) (t_isKept : Int32) (t_now : (Nat → Int32)) (x1 : Int32) (res : Int32) (hf : f_X12_takenIn t_now x1 = some res) (hP : va_P D vwCl (w_X12_takenIn cI cB cZ a_t a_t_now a_t_aside a_t_kept a_t_tape a_t_said a_t_waitsAt a_t_saidLetter a_t_saidFrom a_t_saidHalf a_t_saidTo a_t_codes a_t_clauseOf a_t_codeFrom a_t_codeHalf a_t_codeTo a_t_stack a_t_facts a_t_newLine a_t_canSit a_t_canNext a_t_singersIn a_t_freeAt a_t_beginsAt a_t_leastBy a_t_mostBy a_t_mostNext a_t_risesTo t_taped t_place0 t_length0 t_fault t_number0 t_open t_codeMany t_waiting t_saidMany t_clauses t_newMany t_lines t_stoodNow t_lastSeat t_climbedNow t_isKept t_now) s.heap) (hQ : ∀ (pc : Nat) (ls : Array Slot), True → decode cX12_takenIn pc = .ok (.ireturn, 1) → W p l e R s m args below meth c s.heap [] 0 0 Q (F0 m pc ls [.int res])) (ls : Array Slot) (hl : lv_has ls 4 [(0, .ref a_t), (1, .int x1)]) : W p l e R s m args below meth c s.heap [] 0 0 Q (F0 m 0 ls []) := by
  unfold f_X12_takenIn at hf
  refine lv_iconst (v := 0) hx hb dX12_takenIn_0 (by decide) ?_
  refine lv_istore_n (lv' := [(2, .int 0), (0, .ref a_t), (1, .int x1)]) hx hb dX12_takenIn_1 rfl hl (by decide) rfl (fun ls hl => ?_)
  refine lv_iconst (v := 0) hx hb dX12_takenIn_2 (by decide) ?_
  have J_4 : ∀ (n_4 : Nat) (x1 : Int32) (x2 : Int32) (x3 : Int32) (ls : Array Slot), f_X12_takenIn_4 t_now n_4 x1 x2 x3 = some res → lv_has ls 4 [(0, .ref a_t), (1, .int x1), (2, .int x2), (3, .int x3)] → W p l e R s m args below meth c s.heap [] 0 0 Q (F0 m 4 ls []) := by
    intro n_4
    induction n_4 with
    | zero =>
      intro x1 x2 x3 ls hf hl
      cases hf
    | succ n_4 ih_4 =>
      intro x1 x2 x3 ls hf hl
      unfold f_X12_takenIn_4 at hf
      refine lv_iload_n hx hb dX12_takenIn_4 rfl (lv_at hl 3 rfl) ?_
      refine lv_bipush (v := 9) hx hb dX12_takenIn_5 (by decide) ?_
      refine lv_icmp_ge (tgt := 35) hx hb dX12_takenIn_7 (by decide) (fun hc_7 => ?_) (fun hc_7 => ?_)
      · have hf := it_pos hc_7 hf
        refine lv_iload_n hx hb dX12_takenIn_35 rfl (lv_at hl 2 rfl) ?_
        obtain rfl := Option.some.inj hf
        exact hQ 36 ls trivial dX12_takenIn_36
      · have hf := it_neg hc_7 hf
        refine lv_aload_n hx hb dX12_takenIn_10 rfl (lv_at hl 0 rfl) ?_
        refine lv_bipush (v := 9) hx hb dX12_takenIn_11 (by decide) ?_
        refine lv_iload_n hx hb dX12_takenIn_13 rfl (lv_at hl 1 rfl) ?_
        refine lv_imul hx hb dX12_takenIn_14 ?_
        refine lv_iload_n hx hb dX12_takenIn_15 rfl (lv_at hl 3 rfl) ?_
        refine lv_iadd hx hb dX12_takenIn_16 ?_
        obtain ⟨z17, e17, hf⟩ := bd_some hf
        refine rV_RO (As := [.int ((9 * x1) + x3)]) (rest := []) ⟨hx, hb, hml, hown, hT⟩ (gdV tb_1404 tb_1406 tb_56 tb_97 tb_1407) hd_X12_isTaken (c_X12_isTaken l D cI cB cZ a_t a_t_now a_t_aside a_t_kept a_t_tape a_t_said a_t_waitsAt a_t_saidLetter a_t_saidFrom a_t_saidHalf a_t_saidTo a_t_codes a_t_clauseOf a_t_codeFrom a_t_codeHalf a_t_codeTo a_t_stack a_t_facts a_t_newLine a_t_canSit a_t_canNext a_t_singersIn a_t_freeAt a_t_beginsAt a_t_leastBy a_t_mostBy a_t_mostNext a_t_risesTo t_taped t_place0 t_length0 t_fault t_number0 t_open t_codeMany t_waiting t_saidMany t_clauses t_newMany t_lines t_stoodNow t_lastSeat t_climbedNow t_isKept t_now ((9 * x1) + x3) z17 e17) ⟨rfl, rfl⟩ ⟨Nat.le_trans (by decide) hRf, Nat.le_trans (by decide) hRl⟩ ⟨hK, hN⟩ hP [0, 1] rfl 0 rfl rfl rfl hl.1 rfl (Nat.le_of_ble_eq_true rfl) ⟨Nat.zero_le _, Nat.zero_le _⟩ dX12_takenIn_17 (fun hz_17 => ?_)
        refine lv_if_eq (tgt := 29) hx hb dX12_takenIn_20 (by decide) (fun hc_20 => ?_) (fun hc_20 => ?_)
        · have hf := it_pos hc_20 hf
          refine lv_iinc (v := x3 + 1) (lv' := [(3, .int (x3 + 1)), (0, .ref a_t), (1, .int x1), (2, .int x2)]) hx hb dX12_takenIn_29 hl (k := 3) rfl (congrArg (_ + ·) (by decide : Int32.ofInt 1 = 1)) (by decide) rfl (fun ls hl => ?_)
          refine lv_goto (tgt := 4) hx hb dX12_takenIn_32 (by decide) ?_
          exact ih_4 _ _ _ _ hf (lv_sub hl [1, 2, 3, 0] rfl)
        · have hf := it_neg hc_20 hf
          refine lv_iload_n hx hb dX12_takenIn_23 rfl (lv_at hl 2 rfl) ?_
          refine lv_iconst (v := 1) hx hb dX12_takenIn_24 (by decide) ?_
          refine lv_iload_n hx hb dX12_takenIn_25 rfl (lv_at hl 3 rfl) ?_
          refine lv_ishl hx hb dX12_takenIn_26 ?_
          refine lv_ior hx hb dX12_takenIn_27 ?_
          refine lv_istore_n (lv' := [(2, .int (x2 ||| (1 <<< (x3 &&& 31)))), (0, .ref a_t), (1, .int x1), (3, .int x3)]) hx hb dX12_takenIn_28 rfl hl (by decide) rfl (fun ls hl => ?_)
          refine lv_iinc (v := x3 + 1) (lv' := [(3, .int (x3 + 1)), (2, .int (x2 ||| (1 <<< (x3 &&& 31)))), (0, .ref a_t), (1, .int x1)]) hx hb dX12_takenIn_29 hl (k := 3) rfl (congrArg (_ + ·) (by decide : Int32.ofInt 1 = 1)) (by decide) rfl (fun ls hl => ?_)
          refine lv_goto (tgt := 4) hx hb dX12_takenIn_32 (by decide) ?_
          exact ih_4 _ _ _ _ hf (lv_sub hl [2, 3, 1, 0] rfl)
  refine lv_istore_n (lv' := [(3, .int 0), (2, .int 0), (0, .ref a_t), (1, .int x1)]) hx hb dX12_takenIn_3 rfl hl (by decide) rfl (fun ls hl => ?_)
  exact J_4 _ _ _ _ _ hf (lv_sub hl [2, 3, 1, 0] rfl)
theorem hd_X12_takenIn : (yX12_takenIn).cls = RX12 ∧ (yX12_takenIn).cls ≠ "java/lang/invoke/MethodHandle" ∧ (yX12_takenIn).cls ≠ "java/lang/invoke/VarHandle" ∧ (parseMethodDescriptor (yX12_takenIn).desc).map (fun d => d.parameters.length) = some 1 := by decide +kernel
theorem c_X12_takenIn (l : Launch) (D : va_G) (cI cB cZ : ClassId) (a_t : Nat) (a_t_now : Nat) (a_t_aside : Nat) (a_t_kept : Nat) (a_t_tape : Nat) (a_t_said : Nat) (a_t_waitsAt : Nat) (a_t_saidLetter : Nat) (a_t_saidFrom : Nat) (a_t_saidHalf : Nat) (a_t_saidTo : Nat) (a_t_codes : Nat) (a_t_clauseOf : Nat) (a_t_codeFrom : Nat) (a_t_codeHalf : Nat) (a_t_codeTo : Nat) (a_t_stack : Nat) (a_t_facts : Nat) (a_t_newLine : Nat) (a_t_canSit : Nat) (a_t_canNext : Nat) (a_t_singersIn : Nat) (a_t_freeAt : Nat) (a_t_beginsAt : Nat) (a_t_leastBy : Nat) (a_t_mostBy : Nat) (a_t_mostNext : Nat) (a_t_risesTo : Nat) (t_taped : Int32) (t_place0 : Int32) (t_length0 : Int32) (t_fault : Int32) (t_number0 : Int32) (t_open : Int32) (t_codeMany : Int32) (t_waiting : Int32) (t_saidMany : Int32) (t_clauses : Int32) (t_newMany : Int32) (t_lines : Int32) (t_stoodNow : Int32) (t_lastSeat : Int32) (t_climbedNow : Int32) (t_isKept : Int32) (t_now : (Nat → Int32)) (x1 : Int32) (res : Int32) (hf : f_X12_takenIn t_now x1 = some res) : Met l yX12_takenIn (.code yX12_takenIn cX12_takenIn 4 (some .int) :: TB) (rmk (1) (21)) (pRO [.ref a_t, .int x1] D cI cB cZ (w_X12_takenIn cI cB cZ a_t a_t_now a_t_aside a_t_kept a_t_tape a_t_said a_t_waitsAt a_t_saidLetter a_t_saidFrom a_t_saidHalf a_t_saidTo a_t_codes a_t_clauseOf a_t_codeFrom a_t_codeHalf a_t_codeTo a_t_stack a_t_facts a_t_newLine a_t_canSit a_t_canNext a_t_singersIn a_t_freeAt a_t_beginsAt a_t_leastBy a_t_mostBy a_t_mostNext a_t_risesTo t_taped t_place0 t_length0 t_fault t_number0 t_open t_codeMany t_waiting t_saidMany t_clauses t_newMany t_lines t_stoodNow t_lastSeat t_climbedNow t_isKept t_now)) (qRO (some (.int res)) True) 0 0 (fun _ => False) :=
  mkRO (by decide +kernel) (Nat.le_of_ble_eq_true rfl) (fun p e s m below meth c ls S hr hlk hK hP hl => b_X12_takenIn S.1 S.2.1 S.2.2.1 S.2.2.2.1 S.2.2.2.2 (Nat.le_refl _) (Nat.le_refl _) hK.1 hK.2 a_t a_t_now a_t_aside a_t_kept a_t_tape a_t_said a_t_waitsAt a_t_saidLetter a_t_saidFrom a_t_saidHalf a_t_saidTo a_t_codes a_t_clauseOf a_t_codeFrom a_t_codeHalf a_t_codeTo a_t_stack a_t_facts a_t_newLine a_t_canSit a_t_canNext a_t_singersIn a_t_freeAt a_t_beginsAt a_t_leastBy a_t_mostBy a_t_mostNext a_t_risesTo t_taped t_place0 t_length0 t_fault t_number0 t_open t_codeMany t_waiting t_saidMany t_clauses t_newMany t_lines t_stoodNow t_lastSeat t_climbedNow t_isKept t_now x1 res hf hP (fun pc ls hE hd => eRO_i S.1 S.2.1 hr rfl hlk hE hd) ls hl)
def f_X12_photo_36 (t_now : (Nat → Int32)) (k15 : Int32 → Int32 → Int32 → (Nat → Int32) → (Nat → Int32) → Option (Int32 × (Nat → Int32) × (Nat → Int32))) (x1 : Int32) (x2 : Int32) (x3 : Int32) (y0 : Int32) (y1 : Int32) (t_mostBy : (Nat → Int32)) (t_mostNext : (Nat → Int32)) : Option (Int32 × (Nat → Int32) × (Nat → Int32)) := ix 512 y0 (k15 x1 x2 (x3 + 1) (upd t_mostBy y0.toNatClampNeg y1) t_mostNext)
def f_X12_photo_108 (t_now : (Nat → Int32)) (k45 : Int32 → Int32 → Int32 → (Nat → Int32) → (Nat → Int32) → Option (Int32 × (Nat → Int32) × (Nat → Int32))) (k66 : Int32 → Int32 → Int32 → Int32 → Int32 → (Nat → Int32) → (Nat → Int32) → Option (Int32 × (Nat → Int32) × (Nat → Int32))) : Nat → Int32 → Int32 → Int32 → Int32 → Int32 → Int32 → (Nat → Int32) → (Nat → Int32) → Option (Int32 × (Nat → Int32) × (Nat → Int32))
  | 0, _, _, _, _, _, _, _, _ => none
  | n + 1, x1, x2, x3, x4, x5, x6, t_mostBy, t_mostNext => (if 512 ≤ x6 then ix 512 x5 ((f_X12_max x2 (t_mostNext x5.toNatClampNeg)).bind (fun z179 => k66 x1 z179 x3 x4 (x5 + 1) t_mostBy t_mostNext)) else ix 512 x6 ((if (t_mostBy x6.toNatClampNeg) = (-1) then (f_X12_photo_108 t_now k45 k66 n) x1 x2 x3 x4 x5 (x6 + 1) t_mostBy t_mostNext else (if (x6 &&& x5) = 0 then ix 512 x5 (ix 512 x6 ((f_X12_bits x5).bind (fun z157 => (f_X12_max (t_mostNext x5.toNatClampNeg) ((t_mostBy x6.toNatClampNeg) + z157)).bind (fun z161 => ix 512 x5 ((f_X12_photo_108 t_now k45 k66 n) x1 x2 x3 x4 x5 (x6 + 1) t_mostBy (upd t_mostNext x5.toNatClampNeg z161)))))) else (f_X12_photo_108 t_now k45 k66 n) x1 x2 x3 x4 x5 (x6 + 1) t_mostBy t_mostNext))))
def f_X12_photo_192 (t_now : (Nat → Int32)) (k45 : Int32 → Int32 → Int32 → (Nat → Int32) → (Nat → Int32) → Option (Int32 × (Nat → Int32) × (Nat → Int32))) : Nat → Int32 → Int32 → Int32 → Int32 → (Nat → Int32) → (Nat → Int32) → Option (Int32 × (Nat → Int32) × (Nat → Int32))
  | 0, _, _, _, _, _, _ => none
  | n + 1, x1, x2, x3, x5, t_mostBy, t_mostNext => (if 512 ≤ x5 then k45 x1 x2 (x3 + 1) t_mostBy t_mostNext else ix 512 x5 (ix 512 x5 ((f_X12_photo_192 t_now k45 n) x1 x2 x3 (x5 + 1) (upd t_mostBy x5.toNatClampNeg (t_mostNext x5.toNatClampNeg)) t_mostNext)))
def f_X12_photo_66 (t_now : (Nat → Int32)) (k45 : Int32 → Int32 → Int32 → (Nat → Int32) → (Nat → Int32) → Option (Int32 × (Nat → Int32) × (Nat → Int32))) : Nat → Int32 → Int32 → Int32 → Int32 → Int32 → (Nat → Int32) → (Nat → Int32) → Option (Int32 × (Nat → Int32) × (Nat → Int32))
  | 0, _, _, _, _, _, _, _ => none
  | n + 1, x1, x2, x3, x4, x5, t_mostBy, t_mostNext => (if 512 ≤ x5 then f_X12_photo_192 t_now k45 FU x1 x2 x3 0 t_mostBy t_mostNext else ix 512 x5 ((if (x5 &&& (x4 ^^^ (-1))) = 0 then (if (x5 &&& (x5 >>> (1 &&& 31))) = 0 then f_X12_photo_108 t_now k45 (f_X12_photo_66 t_now k45 n) FU x1 x2 x3 x4 x5 0 t_mostBy (upd t_mostNext x5.toNatClampNeg (-1)) else (f_X12_photo_66 t_now k45 n) x1 x2 x3 x4 (x5 + 1) t_mostBy (upd t_mostNext x5.toNatClampNeg (-1))) else (f_X12_photo_66 t_now k45 n) x1 x2 x3 x4 (x5 + 1) t_mostBy (upd t_mostNext x5.toNatClampNeg (-1)))))
def f_X12_photo_45 (t_now : (Nat → Int32)) : Nat → Int32 → Int32 → Int32 → (Nat → Int32) → (Nat → Int32) → Option (Int32 × (Nat → Int32) × (Nat → Int32))
  | 0, _, _, _, _, _ => none
  | n + 1, x1, x2, x3, t_mostBy, t_mostNext => (if 8 ≤ x3 then some (x2, t_mostBy, t_mostNext) else (f_X12_takenIn t_now ((8 * x1) + x3)).bind (fun z58 => f_X12_photo_66 t_now (f_X12_photo_45 t_now n) FU x1 x2 x3 z58 0 t_mostBy t_mostNext))
def f_X12_photo_15 (t_now : (Nat → Int32)) : Nat → Int32 → Int32 → Int32 → (Nat → Int32) → (Nat → Int32) → Option (Int32 × (Nat → Int32) × (Nat → Int32))
  | 0, _, _, _, _, _ => none
  | n + 1, x1, x2, x3, t_mostBy, t_mostNext => (if 512 ≤ x3 then f_X12_photo_45 t_now FU x1 x2 0 t_mostBy t_mostNext else (if x3 = 0 then f_X12_photo_36 t_now (f_X12_photo_15 t_now n) x1 x2 x3 x3 0 t_mostBy t_mostNext else f_X12_photo_36 t_now (f_X12_photo_15 t_now n) x1 x2 x3 x3 (-1) t_mostBy t_mostNext))
def f_X12_photo (t_now : (Nat → Int32)) (t_mostBy : (Nat → Int32)) (t_mostNext : (Nat → Int32)) (x1 : Int32) : Option (Int32 × (Nat → Int32) × (Nat → Int32)) := (f_X12_in x1 0 1).bind (fun z3 => (if z3 = 0 then some ((-1), t_mostBy, t_mostNext) else f_X12_photo_15 t_now FU x1 0 0 t_mostBy t_mostNext))
def w_X12_photo (cI cB cZ : ClassId) (a_t : Nat) (a_t_now : Nat) (a_t_mostBy : Nat) (a_t_mostNext : Nat) (a_t_aside : Nat) (a_t_kept : Nat) (a_t_tape : Nat) (a_t_said : Nat) (a_t_waitsAt : Nat) (a_t_saidLetter : Nat) (a_t_saidFrom : Nat) (a_t_saidHalf : Nat) (a_t_saidTo : Nat) (a_t_codes : Nat) (a_t_clauseOf : Nat) (a_t_codeFrom : Nat) (a_t_codeHalf : Nat) (a_t_codeTo : Nat) (a_t_stack : Nat) (a_t_facts : Nat) (a_t_newLine : Nat) (a_t_canSit : Nat) (a_t_canNext : Nat) (a_t_singersIn : Nat) (a_t_freeAt : Nat) (a_t_beginsAt : Nat) (a_t_leastBy : Nat) (a_t_risesTo : Nat) (t_taped : Int32) (t_place0 : Int32) (t_length0 : Int32) (t_fault : Int32) (t_number0 : Int32) (t_open : Int32) (t_codeMany : Int32) (t_waiting : Int32) (t_saidMany : Int32) (t_clauses : Int32) (t_newMany : Int32) (t_lines : Int32) (t_stoodNow : Int32) (t_lastSeat : Int32) (t_climbedNow : Int32) (t_isKept : Int32) (t_now : (Nat → Int32)) (t_mostBy : (Nat → Int32)) (t_mostNext : (Nat → Int32)) : va_W := [(a_t, .inr (11, [.ref a_t_now, .ref a_t_aside, .ref a_t_kept, .ref a_t_tape, .int t_taped, .int t_place0, .int t_length0, .int t_fault, .int t_number0, .int t_open, .int t_codeMany, .int t_waiting, .int t_saidMany, .int t_clauses, .ref a_t_said, .ref a_t_waitsAt, .ref a_t_saidLetter, .ref a_t_saidFrom, .ref a_t_saidHalf, .ref a_t_saidTo, .ref a_t_codes, .ref a_t_clauseOf, .ref a_t_codeFrom, .ref a_t_codeHalf, .ref a_t_codeTo, .ref a_t_stack, .ref a_t_facts, .ref a_t_newLine, .int t_newMany, .int t_lines, .int t_stoodNow, .int t_lastSeat, .int t_climbedNow, .ref a_t_canSit, .ref a_t_canNext, .ref a_t_singersIn, .ref a_t_freeAt, .ref a_t_beginsAt, .ref a_t_leastBy, .ref a_t_mostBy, .ref a_t_mostNext, .ref a_t_risesTo, .int t_isKept])), (a_t_now, .inl (cI, 637, .inl t_now)), (a_t_mostBy, .inl (cI, 512, .inl t_mostBy)), (a_t_mostNext, .inl (cI, 512, .inl t_mostNext))]
set_option maxHeartbeats 4000000 in
set_option maxRecDepth 100000 in
theorem b_X12_photo {p : Program} {l : Launch} {e : Env} {R : Room} {s : State} {m : MethodId} {args : Array Value} {below : List Frame} {meth : Method} {c : Code} {Q : State → Prop} {D : va_G} {cI cB cZ : ClassId} (hx : p.tables.exec = Jvm.exec) (hb : c.code = cX12_photo) (hml : c.maxLocals = 7) (hown : s.vm.findClass RX12 = some m.cls) (hT : ∀ w ∈ TB, w.before args s = true) (hRf : (2) ≤ R.frames) (hRl : (44) ≤ R.locals) (hK : va_K D vwCl (tyL cI cB cZ) s) (hN : NW s) {A : Nat → Prop} (hA : ∀ q : Nat, s.heap.size ≤ q → A q) (H : Heap) (locs : List Loc)  (a_t : Nat) (a_t_now : Nat) (a_t_mostBy : Nat) (a_t_mostNext : Nat) (a_t_aside : Nat) (a_t_kept : Nat) (a_t_tape : Nat) (a_t_said : Nat) (a_t_waitsAt : Nat) (a_t_saidLetter : Nat) (a_t_saidFrom : Nat) (a_t_saidHalf : Nat) (a_t_saidTo : Nat) (a_t_codes : Nat) (a_t_clauseOf : Nat) (a_t_codeFrom : Nat) (a_t_codeHalf : Nat) (a_t_codeTo : Nat) (a_t_stack : Nat) (a_t_facts : Nat) (a_t_newLine : Nat) (a_t_canSit : Nat) (a_t_canNext : Nat) (a_t_singersIn : Nat) (a_t_freeAt : Nat) (a_t_beginsAt : Nat) (a_t_leastBy : Nat) (a_t_risesTo : Nat) (t_taped : Int32) (t_place0 : Int32) (t_length0 : Int32) (t_fault : Int32) (t_number0 : Int32) (t_open : Int32) (t_codeMany : Int32) (t_waiting : Int32) (t_saidMany : Int32) (t_clauses : Int32) (t_newMany : Int32) (t_lines : Int32) (t_stoodNow : Int32) (t_lastSeat : Int32) (t_climbedNow : Int32) (t_isKept : Int32) (t_now : (Nat → Int32)) (t_mostBy : (Nat → Int32)) (t_mostNext : (Nat → Int32)) (x1 : Int32) (res : Int32 × (Nat → Int32) × (Nat → Int32)) (hf : f_X12_photo t_now t_mostBy t_mostNext x1 = some res) (hP : va_P D vwCl (w_X12_photo cI cB cZ a_t a_t_now a_t_mostBy a_t_mostNext a_t_aside a_t_kept a_t_tape a_t_said a_t_waitsAt a_t_saidLetter a_t_saidFrom a_t_saidHalf a_t_saidTo a_t_codes a_t_clauseOf a_t_codeFrom a_t_codeHalf a_t_codeTo a_t_stack a_t_facts a_t_newLine a_t_canSit a_t_canNext a_t_singersIn a_t_freeAt a_t_beginsAt a_t_leastBy a_t_risesTo t_taped t_place0 t_length0 t_fault t_number0 t_open t_codeMany t_waiting t_saidMany t_clauses t_newMany t_lines t_stoodNow t_lastSeat t_climbedNow t_isKept t_now t_mostBy t_mostNext) H) (hD : va_D A (w_X12_photo cI cB cZ a_t a_t_now a_t_mostBy a_t_mostNext a_t_aside a_t_kept a_t_tape a_t_said a_t_waitsAt a_t_saidLetter a_t_saidFrom a_t_saidHalf a_t_saidTo a_t_codes a_t_clauseOf a_t_codeFrom a_t_codeHalf a_t_codeTo a_t_stack a_t_facts a_t_newLine a_t_canSit a_t_canNext a_t_singersIn a_t_freeAt a_t_beginsAt a_t_leastBy a_t_risesTo t_taped t_place0 t_length0 t_fault t_number0 t_open t_codeMany t_waiting t_saidMany t_clauses t_newMany t_lines t_stoodNow t_lastSeat t_climbedNow t_isKept t_now t_mostBy t_mostNext)) (hS : va_S A s.heap H locs) (hQ : ∀ (H : Heap) (locs : List Loc) (pc : Nat) (ls : Array Slot), va_P D vwCl (w_X12_photo cI cB cZ a_t a_t_now a_t_mostBy a_t_mostNext a_t_aside a_t_kept a_t_tape a_t_said a_t_waitsAt a_t_saidLetter a_t_saidFrom a_t_saidHalf a_t_saidTo a_t_codes a_t_clauseOf a_t_codeFrom a_t_codeHalf a_t_codeTo a_t_stack a_t_facts a_t_newLine a_t_canSit a_t_canNext a_t_singersIn a_t_freeAt a_t_beginsAt a_t_leastBy a_t_risesTo t_taped t_place0 t_length0 t_fault t_number0 t_open t_codeMany t_waiting t_saidMany t_clauses t_newMany t_lines t_stoodNow t_lastSeat t_climbedNow t_isKept t_now res.2.1 res.2.2) H → va_D A (w_X12_photo cI cB cZ a_t a_t_now a_t_mostBy a_t_mostNext a_t_aside a_t_kept a_t_tape a_t_said a_t_waitsAt a_t_saidLetter a_t_saidFrom a_t_saidHalf a_t_saidTo a_t_codes a_t_clauseOf a_t_codeFrom a_t_codeHalf a_t_codeTo a_t_stack a_t_facts a_t_newLine a_t_canSit a_t_canNext a_t_singersIn a_t_freeAt a_t_beginsAt a_t_leastBy a_t_risesTo t_taped t_place0 t_length0 t_fault t_number0 t_open t_codeMany t_waiting t_saidMany t_clauses t_newMany t_lines t_stoodNow t_lastSeat t_climbedNow t_isKept t_now res.2.1 res.2.2) → va_S A s.heap H locs → True → decode cX12_photo pc = .ok (.ireturn, 1) → W p l e R s m args below meth c H locs 0 0 Q (F0 m pc ls [.int res.1])) (ls : Array Slot) (hl : lv_has ls 7 [(0, .ref a_t), (1, .int x1)]) : W p l e R s m args below meth c H locs 0 0 Q (F0 m 0 ls []) := by
  unfold f_X12_photo at hf
  refine lv_iload_n hx hb dX12_photo_0 rfl (lv_at hl 1 rfl) ?_
  refine lv_iconst (v := 0) hx hb dX12_photo_1 (by decide) ?_
  refine lv_iconst (v := 1) hx hb dX12_photo_2 (by decide) ?_
  obtain ⟨z3, e3, hf⟩ := bd_some hf
  refine rS_RO (As := [.int x1, .int 0, .int 1]) (rest := []) ⟨hx, hb, hml, hown, hT⟩ (gdS tb_1283 tb_1284 tb_97 tb_1285) hd_X12_in (c_X12_in l D cI cB cZ x1 0 1 z3 e3) ⟨rfl, rfl⟩ ⟨Nat.le_trans (by decide) hRf, Nat.le_trans (by decide) hRl⟩ ⟨hK, hN⟩ hP [] rfl rfl hl.1 rfl (Nat.le_of_ble_eq_true rfl) ⟨Nat.zero_le _, Nat.zero_le _⟩ dX12_photo_3 (fun hz_3 => ?_)
  refine lv_if_ne (tgt := 11) hx hb dX12_photo_6 (by decide) (fun hc_6 => ?_) (fun hc_6 => ?_)
  · have hf := it_neg hc_6 hf
    refine lv_iconst (v := 0) hx hb dX12_photo_11 (by decide) ?_
    refine lv_istore_n (lv' := [(2, .int 0), (0, .ref a_t), (1, .int x1)]) hx hb dX12_photo_12 rfl hl (by decide) rfl (fun ls hl => ?_)
    refine lv_iconst (v := 0) hx hb dX12_photo_13 (by decide) ?_
    have J_15 : ∀ (n_15 : Nat) (x1 : Int32) (x2 : Int32) (x3 : Int32) (t_mostBy : (Nat → Int32)) (t_mostNext : (Nat → Int32)) (H : Heap) (locs : List Loc) (ls : Array Slot), f_X12_photo_15 t_now n_15 x1 x2 x3 t_mostBy t_mostNext = some res → va_P D vwCl (w_X12_photo cI cB cZ a_t a_t_now a_t_mostBy a_t_mostNext a_t_aside a_t_kept a_t_tape a_t_said a_t_waitsAt a_t_saidLetter a_t_saidFrom a_t_saidHalf a_t_saidTo a_t_codes a_t_clauseOf a_t_codeFrom a_t_codeHalf a_t_codeTo a_t_stack a_t_facts a_t_newLine a_t_canSit a_t_canNext a_t_singersIn a_t_freeAt a_t_beginsAt a_t_leastBy a_t_risesTo t_taped t_place0 t_length0 t_fault t_number0 t_open t_codeMany t_waiting t_saidMany t_clauses t_newMany t_lines t_stoodNow t_lastSeat t_climbedNow t_isKept t_now t_mostBy t_mostNext) H → va_D A (w_X12_photo cI cB cZ a_t a_t_now a_t_mostBy a_t_mostNext a_t_aside a_t_kept a_t_tape a_t_said a_t_waitsAt a_t_saidLetter a_t_saidFrom a_t_saidHalf a_t_saidTo a_t_codes a_t_clauseOf a_t_codeFrom a_t_codeHalf a_t_codeTo a_t_stack a_t_facts a_t_newLine a_t_canSit a_t_canNext a_t_singersIn a_t_freeAt a_t_beginsAt a_t_leastBy a_t_risesTo t_taped t_place0 t_length0 t_fault t_number0 t_open t_codeMany t_waiting t_saidMany t_clauses t_newMany t_lines t_stoodNow t_lastSeat t_climbedNow t_isKept t_now t_mostBy t_mostNext) → va_S A s.heap H locs → lv_has ls 7 [(0, .ref a_t), (1, .int x1), (2, .int x2), (3, .int x3)] → W p l e R s m args below meth c H locs 0 0 Q (F0 m 15 ls []) := by
      intro n_15
      induction n_15 with
      | zero =>
        intro x1 x2 x3 t_mostBy t_mostNext H locs ls hf hP hD hS hl
        cases hf
      | succ n_15 ih_15 =>
        intro x1 x2 x3 t_mostBy t_mostNext H locs ls hf hP hD hS hl
        unfold f_X12_photo_15 at hf
        refine lv_iload_n hx hb dX12_photo_15 rfl (lv_at hl 3 rfl) ?_
        refine lv_sipush (v := 512) hx hb dX12_photo_16 (by decide) ?_
        refine lv_icmp_ge (tgt := 43) hx hb dX12_photo_19 (by decide) (fun hc_19 => ?_) (fun hc_19 => ?_)
        · have hf := it_pos hc_19 hf
          refine lv_iconst (v := 0) hx hb dX12_photo_43 (by decide) ?_
          have J_45 : ∀ (n_45 : Nat) (x1 : Int32) (x2 : Int32) (x3 : Int32) (t_mostBy : (Nat → Int32)) (t_mostNext : (Nat → Int32)) (H : Heap) (locs : List Loc) (ls : Array Slot), f_X12_photo_45 t_now n_45 x1 x2 x3 t_mostBy t_mostNext = some res → va_P D vwCl (w_X12_photo cI cB cZ a_t a_t_now a_t_mostBy a_t_mostNext a_t_aside a_t_kept a_t_tape a_t_said a_t_waitsAt a_t_saidLetter a_t_saidFrom a_t_saidHalf a_t_saidTo a_t_codes a_t_clauseOf a_t_codeFrom a_t_codeHalf a_t_codeTo a_t_stack a_t_facts a_t_newLine a_t_canSit a_t_canNext a_t_singersIn a_t_freeAt a_t_beginsAt a_t_leastBy a_t_risesTo t_taped t_place0 t_length0 t_fault t_number0 t_open t_codeMany t_waiting t_saidMany t_clauses t_newMany t_lines t_stoodNow t_lastSeat t_climbedNow t_isKept t_now t_mostBy t_mostNext) H → va_D A (w_X12_photo cI cB cZ a_t a_t_now a_t_mostBy a_t_mostNext a_t_aside a_t_kept a_t_tape a_t_said a_t_waitsAt a_t_saidLetter a_t_saidFrom a_t_saidHalf a_t_saidTo a_t_codes a_t_clauseOf a_t_codeFrom a_t_codeHalf a_t_codeTo a_t_stack a_t_facts a_t_newLine a_t_canSit a_t_canNext a_t_singersIn a_t_freeAt a_t_beginsAt a_t_leastBy a_t_risesTo t_taped t_place0 t_length0 t_fault t_number0 t_open t_codeMany t_waiting t_saidMany t_clauses t_newMany t_lines t_stoodNow t_lastSeat t_climbedNow t_isKept t_now t_mostBy t_mostNext) → va_S A s.heap H locs → lv_has ls 7 [(0, .ref a_t), (1, .int x1), (2, .int x2), (3, .int x3)] → W p l e R s m args below meth c H locs 0 0 Q (F0 m 45 ls []) := by
            intro n_45
            induction n_45 with
            | zero =>
              intro x1 x2 x3 t_mostBy t_mostNext H locs ls hf hP hD hS hl
              cases hf
            | succ n_45 ih_45 =>
              intro x1 x2 x3 t_mostBy t_mostNext H locs ls hf hP hD hS hl
              unfold f_X12_photo_45 at hf
              refine lv_iload_n hx hb dX12_photo_45 rfl (lv_at hl 3 rfl) ?_
              refine lv_bipush (v := 8) hx hb dX12_photo_46 (by decide) ?_
              refine lv_icmp_ge (tgt := 226) hx hb dX12_photo_48 (by decide) (fun hc_48 => ?_) (fun hc_48 => ?_)
              · have hf := it_pos hc_48 hf
                refine lv_iload_n hx hb dX12_photo_226 rfl (lv_at hl 2 rfl) ?_
                obtain rfl := Option.some.inj hf
                exact hQ H locs 227 ls hP hD hS trivial dX12_photo_227
              · have hf := it_neg hc_48 hf
                refine lv_aload_n hx hb dX12_photo_51 rfl (lv_at hl 0 rfl) ?_
                refine lv_bipush (v := 8) hx hb dX12_photo_52 (by decide) ?_
                refine lv_iload_n hx hb dX12_photo_54 rfl (lv_at hl 1 rfl) ?_
                refine lv_imul hx hb dX12_photo_55 ?_
                refine lv_iload_n hx hb dX12_photo_56 rfl (lv_at hl 3 rfl) ?_
                refine lv_iadd hx hb dX12_photo_57 ?_
                obtain ⟨z58, e58, hf⟩ := bd_some hf
                refine rV_RO (As := [.int ((8 * x1) + x3)]) (rest := []) ⟨hx, hb, hml, hown, hT⟩ (gdV tb_1627 tb_1629 tb_83 tb_97 tb_1630) hd_X12_takenIn (c_X12_takenIn l D cI cB cZ a_t a_t_now a_t_aside a_t_kept a_t_tape a_t_said a_t_waitsAt a_t_saidLetter a_t_saidFrom a_t_saidHalf a_t_saidTo a_t_codes a_t_clauseOf a_t_codeFrom a_t_codeHalf a_t_codeTo a_t_stack a_t_facts a_t_newLine a_t_canSit a_t_canNext a_t_singersIn a_t_freeAt a_t_beginsAt a_t_leastBy a_t_mostBy a_t_mostNext a_t_risesTo t_taped t_place0 t_length0 t_fault t_number0 t_open t_codeMany t_waiting t_saidMany t_clauses t_newMany t_lines t_stoodNow t_lastSeat t_climbedNow t_isKept t_now ((8 * x1) + x3) z58 e58) ⟨rfl, rfl⟩ ⟨Nat.le_trans (by decide) hRf, Nat.le_trans (by decide) hRl⟩ ⟨hK, hN⟩ hP [0, 1] rfl 0 rfl rfl rfl hl.1 rfl (Nat.le_of_ble_eq_true rfl) ⟨Nat.zero_le _, Nat.zero_le _⟩ dX12_photo_58 (fun _ => ?_)
                refine lv_istore (lv' := [(4, .int z58), (0, .ref a_t), (1, .int x1), (2, .int x2), (3, .int x3)]) hx hb dX12_photo_61 hl (by decide) rfl (fun ls hl => ?_)
                refine lv_iconst (v := 0) hx hb dX12_photo_63 (by decide) ?_
                have J_66 : ∀ (n_66 : Nat) (x1 : Int32) (x2 : Int32) (x3 : Int32) (x4 : Int32) (x5 : Int32) (t_mostBy : (Nat → Int32)) (t_mostNext : (Nat → Int32)) (H : Heap) (locs : List Loc) (ls : Array Slot), f_X12_photo_66 t_now (f_X12_photo_45 t_now n_45) n_66 x1 x2 x3 x4 x5 t_mostBy t_mostNext = some res → va_P D vwCl (w_X12_photo cI cB cZ a_t a_t_now a_t_mostBy a_t_mostNext a_t_aside a_t_kept a_t_tape a_t_said a_t_waitsAt a_t_saidLetter a_t_saidFrom a_t_saidHalf a_t_saidTo a_t_codes a_t_clauseOf a_t_codeFrom a_t_codeHalf a_t_codeTo a_t_stack a_t_facts a_t_newLine a_t_canSit a_t_canNext a_t_singersIn a_t_freeAt a_t_beginsAt a_t_leastBy a_t_risesTo t_taped t_place0 t_length0 t_fault t_number0 t_open t_codeMany t_waiting t_saidMany t_clauses t_newMany t_lines t_stoodNow t_lastSeat t_climbedNow t_isKept t_now t_mostBy t_mostNext) H → va_D A (w_X12_photo cI cB cZ a_t a_t_now a_t_mostBy a_t_mostNext a_t_aside a_t_kept a_t_tape a_t_said a_t_waitsAt a_t_saidLetter a_t_saidFrom a_t_saidHalf a_t_saidTo a_t_codes a_t_clauseOf a_t_codeFrom a_t_codeHalf a_t_codeTo a_t_stack a_t_facts a_t_newLine a_t_canSit a_t_canNext a_t_singersIn a_t_freeAt a_t_beginsAt a_t_leastBy a_t_risesTo t_taped t_place0 t_length0 t_fault t_number0 t_open t_codeMany t_waiting t_saidMany t_clauses t_newMany t_lines t_stoodNow t_lastSeat t_climbedNow t_isKept t_now t_mostBy t_mostNext) → va_S A s.heap H locs → lv_has ls 7 [(0, .ref a_t), (1, .int x1), (2, .int x2), (3, .int x3), (4, .int x4), (5, .int x5)] → W p l e R s m args below meth c H locs 0 0 Q (F0 m 66 ls []) := by
                  intro n_66
                  induction n_66 with
                  | zero =>
                    intro x1 x2 x3 x4 x5 t_mostBy t_mostNext H locs ls hf hP hD hS hl
                    cases hf
                  | succ n_66 ih_66 =>
                    intro x1 x2 x3 x4 x5 t_mostBy t_mostNext H locs ls hf hP hD hS hl
                    unfold f_X12_photo_66 at hf
                    refine lv_iload hx hb dX12_photo_66 (lv_at hl 5 rfl) ?_
                    refine lv_sipush (v := 512) hx hb dX12_photo_68 (by decide) ?_
                    refine lv_icmp_ge (tgt := 189) hx hb dX12_photo_71 (by decide) (fun hc_71 => ?_) (fun hc_71 => ?_)
                    · have hf := it_pos hc_71 hf
                      refine lv_iconst (v := 0) hx hb dX12_photo_189 (by decide) ?_
                      have J_192 : ∀ (n_192 : Nat) (x1 : Int32) (x2 : Int32) (x3 : Int32) (x5 : Int32) (t_mostBy : (Nat → Int32)) (t_mostNext : (Nat → Int32)) (H : Heap) (locs : List Loc) (ls : Array Slot), f_X12_photo_192 t_now (f_X12_photo_45 t_now n_45) n_192 x1 x2 x3 x5 t_mostBy t_mostNext = some res → va_P D vwCl (w_X12_photo cI cB cZ a_t a_t_now a_t_mostBy a_t_mostNext a_t_aside a_t_kept a_t_tape a_t_said a_t_waitsAt a_t_saidLetter a_t_saidFrom a_t_saidHalf a_t_saidTo a_t_codes a_t_clauseOf a_t_codeFrom a_t_codeHalf a_t_codeTo a_t_stack a_t_facts a_t_newLine a_t_canSit a_t_canNext a_t_singersIn a_t_freeAt a_t_beginsAt a_t_leastBy a_t_risesTo t_taped t_place0 t_length0 t_fault t_number0 t_open t_codeMany t_waiting t_saidMany t_clauses t_newMany t_lines t_stoodNow t_lastSeat t_climbedNow t_isKept t_now t_mostBy t_mostNext) H → va_D A (w_X12_photo cI cB cZ a_t a_t_now a_t_mostBy a_t_mostNext a_t_aside a_t_kept a_t_tape a_t_said a_t_waitsAt a_t_saidLetter a_t_saidFrom a_t_saidHalf a_t_saidTo a_t_codes a_t_clauseOf a_t_codeFrom a_t_codeHalf a_t_codeTo a_t_stack a_t_facts a_t_newLine a_t_canSit a_t_canNext a_t_singersIn a_t_freeAt a_t_beginsAt a_t_leastBy a_t_risesTo t_taped t_place0 t_length0 t_fault t_number0 t_open t_codeMany t_waiting t_saidMany t_clauses t_newMany t_lines t_stoodNow t_lastSeat t_climbedNow t_isKept t_now t_mostBy t_mostNext) → va_S A s.heap H locs → lv_has ls 7 [(0, .ref a_t), (1, .int x1), (2, .int x2), (3, .int x3), (5, .int x5)] → W p l e R s m args below meth c H locs 0 0 Q (F0 m 192 ls []) := by
                        intro n_192
                        induction n_192 with
                        | zero =>
                          intro x1 x2 x3 x5 t_mostBy t_mostNext H locs ls hf hP hD hS hl
                          cases hf
                        | succ n_192 ih_192 =>
                          intro x1 x2 x3 x5 t_mostBy t_mostNext H locs ls hf hP hD hS hl
                          unfold f_X12_photo_192 at hf
                          refine lv_iload hx hb dX12_photo_192 (lv_at hl 4 rfl) ?_
                          refine lv_sipush (v := 512) hx hb dX12_photo_194 (by decide) ?_
                          refine lv_icmp_ge (tgt := 220) hx hb dX12_photo_197 (by decide) (fun hc_197 => ?_) (fun hc_197 => ?_)
                          · have hf := it_pos hc_197 hf
                            refine lv_iinc (v := x3 + 1) (lv' := [(3, .int (x3 + 1)), (0, .ref a_t), (1, .int x1), (2, .int x2), (5, .int x5)]) hx hb dX12_photo_220 hl (k := 3) rfl (congrArg (_ + ·) (by decide : Int32.ofInt 1 = 1)) (by decide) rfl (fun ls hl => ?_)
                            refine lv_goto (tgt := 45) hx hb dX12_photo_223 (by decide) ?_
                            exact ih_45 _ _ _ _ _ _ _ _ hf hP hD hS (lv_sub hl [1, 2, 3, 0] rfl)
                          · have hf := it_neg hc_197 hf
                            refine lv_aload_n hx hb dX12_photo_200 rfl (lv_at hl 0 rfl) ?_
                            refine va_get (D := D) (ci := 11) (v := .ref a_t_mostBy) (C := RX12) (T := TX12) (N := 43) hx hb hT inX12 hown hK hP 0 rfl rfl 39 (by decide) (hT _ tb_1187) (fun _ h9 => h9) rfl dX12_photo_201 ?_
                            refine lv_iload hx hb dX12_photo_204 (lv_at hl 4 rfl) ?_
                            refine lv_aload_n hx hb dX12_photo_206 rfl (lv_at hl 0 rfl) ?_
                            refine va_get (D := D) (ci := 11) (v := .ref a_t_mostNext) (C := RX12) (T := TX12) (N := 43) hx hb hT inX12 hown hK hP 0 rfl rfl 40 (by decide) (hT _ tb_1188) (fun _ h9 => h9) rfl dX12_photo_207 ?_
                            refine lv_iload hx hb dX12_photo_210 (lv_at hl 4 rfl) ?_
                            obtain ⟨hi_212, hf⟩ := ix_some hf
                            refine va_iald hx hb hK hP 3 0 rfl rfl hi_212 dX12_photo_212 ?_
                            obtain ⟨hi_213, hf⟩ := ix_some hf
                            refine va_iast hx hb hK hP hD hS 2 0 rfl rfl hi_213 dX12_photo_213 (fun H locs hP hD hS => ?_)
                            have hP : va_P D vwCl (w_X12_photo cI cB cZ a_t a_t_now a_t_mostBy a_t_mostNext a_t_aside a_t_kept a_t_tape a_t_said a_t_waitsAt a_t_saidLetter a_t_saidFrom a_t_saidHalf a_t_saidTo a_t_codes a_t_clauseOf a_t_codeFrom a_t_codeHalf a_t_codeTo a_t_stack a_t_facts a_t_newLine a_t_canSit a_t_canNext a_t_singersIn a_t_freeAt a_t_beginsAt a_t_leastBy a_t_risesTo t_taped t_place0 t_length0 t_fault t_number0 t_open t_codeMany t_waiting t_saidMany t_clauses t_newMany t_lines t_stoodNow t_lastSeat t_climbedNow t_isKept t_now (upd t_mostBy x5.toNatClampNeg (t_mostNext x5.toNatClampNeg)) t_mostNext) H := hP
                            have hD : va_D A (w_X12_photo cI cB cZ a_t a_t_now a_t_mostBy a_t_mostNext a_t_aside a_t_kept a_t_tape a_t_said a_t_waitsAt a_t_saidLetter a_t_saidFrom a_t_saidHalf a_t_saidTo a_t_codes a_t_clauseOf a_t_codeFrom a_t_codeHalf a_t_codeTo a_t_stack a_t_facts a_t_newLine a_t_canSit a_t_canNext a_t_singersIn a_t_freeAt a_t_beginsAt a_t_leastBy a_t_risesTo t_taped t_place0 t_length0 t_fault t_number0 t_open t_codeMany t_waiting t_saidMany t_clauses t_newMany t_lines t_stoodNow t_lastSeat t_climbedNow t_isKept t_now (upd t_mostBy x5.toNatClampNeg (t_mostNext x5.toNatClampNeg)) t_mostNext) := hD
                            refine lv_iinc (v := x5 + 1) (lv' := [(5, .int (x5 + 1)), (0, .ref a_t), (1, .int x1), (2, .int x2), (3, .int x3)]) hx hb dX12_photo_214 hl (k := 4) rfl (congrArg (_ + ·) (by decide : Int32.ofInt 1 = 1)) (by decide) rfl (fun ls hl => ?_)
                            refine lv_goto (tgt := 192) hx hb dX12_photo_217 (by decide) ?_
                            exact ih_192 _ _ _ _ _ _ _ _ _ hf hP hD hS (lv_sub hl [1, 2, 3, 4, 0] rfl)
                      refine lv_istore (lv' := [(5, .int 0), (0, .ref a_t), (1, .int x1), (2, .int x2), (3, .int x3), (4, .int x4)]) hx hb dX12_photo_190 hl (by decide) rfl (fun ls hl => ?_)
                      exact J_192 _ _ _ _ _ _ _ _ _ _ hf hP hD hS (lv_sub hl [1, 2, 3, 4, 0] rfl)
                    · have hf := it_neg hc_71 hf
                      refine lv_aload_n hx hb dX12_photo_74 rfl (lv_at hl 0 rfl) ?_
                      refine va_get (D := D) (ci := 11) (v := .ref a_t_mostNext) (C := RX12) (T := TX12) (N := 43) hx hb hT inX12 hown hK hP 0 rfl rfl 40 (by decide) (hT _ tb_1188) (fun _ h9 => h9) rfl dX12_photo_75 ?_
                      refine lv_iload hx hb dX12_photo_78 (lv_at hl 5 rfl) ?_
                      refine lv_iconst (v := (-1)) hx hb dX12_photo_80 (by decide) ?_
                      obtain ⟨hi_81, hf⟩ := ix_some hf
                      refine va_iast hx hb hK hP hD hS 3 0 rfl rfl hi_81 dX12_photo_81 (fun H locs hP hD hS => ?_)
                      have hP : va_P D vwCl (w_X12_photo cI cB cZ a_t a_t_now a_t_mostBy a_t_mostNext a_t_aside a_t_kept a_t_tape a_t_said a_t_waitsAt a_t_saidLetter a_t_saidFrom a_t_saidHalf a_t_saidTo a_t_codes a_t_clauseOf a_t_codeFrom a_t_codeHalf a_t_codeTo a_t_stack a_t_facts a_t_newLine a_t_canSit a_t_canNext a_t_singersIn a_t_freeAt a_t_beginsAt a_t_leastBy a_t_risesTo t_taped t_place0 t_length0 t_fault t_number0 t_open t_codeMany t_waiting t_saidMany t_clauses t_newMany t_lines t_stoodNow t_lastSeat t_climbedNow t_isKept t_now t_mostBy (upd t_mostNext x5.toNatClampNeg (-1))) H := hP
                      have hD : va_D A (w_X12_photo cI cB cZ a_t a_t_now a_t_mostBy a_t_mostNext a_t_aside a_t_kept a_t_tape a_t_said a_t_waitsAt a_t_saidLetter a_t_saidFrom a_t_saidHalf a_t_saidTo a_t_codes a_t_clauseOf a_t_codeFrom a_t_codeHalf a_t_codeTo a_t_stack a_t_facts a_t_newLine a_t_canSit a_t_canNext a_t_singersIn a_t_freeAt a_t_beginsAt a_t_leastBy a_t_risesTo t_taped t_place0 t_length0 t_fault t_number0 t_open t_codeMany t_waiting t_saidMany t_clauses t_newMany t_lines t_stoodNow t_lastSeat t_climbedNow t_isKept t_now t_mostBy (upd t_mostNext x5.toNatClampNeg (-1))) := hD
                      refine lv_iload hx hb dX12_photo_82 (lv_at hl 5 rfl) ?_
                      refine lv_iload hx hb dX12_photo_84 (lv_at hl 4 rfl) ?_
                      refine lv_iconst (v := (-1)) hx hb dX12_photo_86 (by decide) ?_
                      refine lv_ixor hx hb dX12_photo_87 ?_
                      refine lv_iand hx hb dX12_photo_88 ?_
                      refine lv_if_ne (tgt := 183) hx hb dX12_photo_89 (by decide) (fun hc_89 => ?_) (fun hc_89 => ?_)
                      · have hf := it_neg hc_89 hf
                        refine lv_iinc (v := x5 + 1) (lv' := [(5, .int (x5 + 1)), (0, .ref a_t), (1, .int x1), (2, .int x2), (3, .int x3), (4, .int x4)]) hx hb dX12_photo_183 hl (k := 5) rfl (congrArg (_ + ·) (by decide : Int32.ofInt 1 = 1)) (by decide) rfl (fun ls hl => ?_)
                        refine lv_goto (tgt := 66) hx hb dX12_photo_186 (by decide) ?_
                        exact ih_66 _ _ _ _ _ _ _ _ _ _ hf hP hD hS (lv_sub hl [1, 2, 3, 4, 5, 0] rfl)
                      · have hf := it_pos hc_89 hf
                        refine lv_iload hx hb dX12_photo_92 (lv_at hl 5 rfl) ?_
                        refine lv_iload hx hb dX12_photo_94 (lv_at hl 5 rfl) ?_
                        refine lv_iconst (v := 1) hx hb dX12_photo_96 (by decide) ?_
                        refine lv_ishr hx hb dX12_photo_97 ?_
                        refine lv_iand hx hb dX12_photo_98 ?_
                        refine lv_if_eq (tgt := 105) hx hb dX12_photo_99 (by decide) (fun hc_99 => ?_) (fun hc_99 => ?_)
                        · have hf := it_pos hc_99 hf
                          refine lv_iconst (v := 0) hx hb dX12_photo_105 (by decide) ?_
                          have J_108 : ∀ (n_108 : Nat) (x1 : Int32) (x2 : Int32) (x3 : Int32) (x4 : Int32) (x5 : Int32) (x6 : Int32) (t_mostBy : (Nat → Int32)) (t_mostNext : (Nat → Int32)) (H : Heap) (locs : List Loc) (ls : Array Slot), f_X12_photo_108 t_now (f_X12_photo_45 t_now n_45) (f_X12_photo_66 t_now (f_X12_photo_45 t_now n_45) n_66) n_108 x1 x2 x3 x4 x5 x6 t_mostBy t_mostNext = some res → va_P D vwCl (w_X12_photo cI cB cZ a_t a_t_now a_t_mostBy a_t_mostNext a_t_aside a_t_kept a_t_tape a_t_said a_t_waitsAt a_t_saidLetter a_t_saidFrom a_t_saidHalf a_t_saidTo a_t_codes a_t_clauseOf a_t_codeFrom a_t_codeHalf a_t_codeTo a_t_stack a_t_facts a_t_newLine a_t_canSit a_t_canNext a_t_singersIn a_t_freeAt a_t_beginsAt a_t_leastBy a_t_risesTo t_taped t_place0 t_length0 t_fault t_number0 t_open t_codeMany t_waiting t_saidMany t_clauses t_newMany t_lines t_stoodNow t_lastSeat t_climbedNow t_isKept t_now t_mostBy t_mostNext) H → va_D A (w_X12_photo cI cB cZ a_t a_t_now a_t_mostBy a_t_mostNext a_t_aside a_t_kept a_t_tape a_t_said a_t_waitsAt a_t_saidLetter a_t_saidFrom a_t_saidHalf a_t_saidTo a_t_codes a_t_clauseOf a_t_codeFrom a_t_codeHalf a_t_codeTo a_t_stack a_t_facts a_t_newLine a_t_canSit a_t_canNext a_t_singersIn a_t_freeAt a_t_beginsAt a_t_leastBy a_t_risesTo t_taped t_place0 t_length0 t_fault t_number0 t_open t_codeMany t_waiting t_saidMany t_clauses t_newMany t_lines t_stoodNow t_lastSeat t_climbedNow t_isKept t_now t_mostBy t_mostNext) → va_S A s.heap H locs → lv_has ls 7 [(0, .ref a_t), (1, .int x1), (2, .int x2), (3, .int x3), (4, .int x4), (5, .int x5), (6, .int x6)] → W p l e R s m args below meth c H locs 0 0 Q (F0 m 108 ls []) := by
                            intro n_108
                            induction n_108 with
                            | zero =>
                              intro x1 x2 x3 x4 x5 x6 t_mostBy t_mostNext H locs ls hf hP hD hS hl
                              cases hf
                            | succ n_108 ih_108 =>
                              intro x1 x2 x3 x4 x5 x6 t_mostBy t_mostNext H locs ls hf hP hD hS hl
                              unfold f_X12_photo_108 at hf
                              refine lv_iload hx hb dX12_photo_108 (lv_at hl 6 rfl) ?_
                              refine lv_sipush (v := 512) hx hb dX12_photo_110 (by decide) ?_
                              refine lv_icmp_ge (tgt := 171) hx hb dX12_photo_113 (by decide) (fun hc_113 => ?_) (fun hc_113 => ?_)
                              · have hf := it_pos hc_113 hf
                                refine lv_iload_n hx hb dX12_photo_171 rfl (lv_at hl 2 rfl) ?_
                                refine lv_aload_n hx hb dX12_photo_172 rfl (lv_at hl 0 rfl) ?_
                                refine va_get (D := D) (ci := 11) (v := .ref a_t_mostNext) (C := RX12) (T := TX12) (N := 43) hx hb hT inX12 hown hK hP 0 rfl rfl 40 (by decide) (hT _ tb_1188) (fun _ h9 => h9) rfl dX12_photo_173 ?_
                                refine lv_iload hx hb dX12_photo_176 (lv_at hl 5 rfl) ?_
                                obtain ⟨hi_178, hf⟩ := ix_some hf
                                refine va_iald hx hb hK hP 3 0 rfl rfl hi_178 dX12_photo_178 ?_
                                obtain ⟨z179, e179, hf⟩ := bd_some hf
                                refine rS_RO (As := [.int x2, .int (t_mostNext x5.toNatClampNeg)]) (rest := []) ⟨hx, hb, hml, hown, hT⟩ (gdS tb_1534 tb_1535 tb_97 tb_1536) hd_X12_max (c_X12_max l D cI cB cZ x2 (t_mostNext x5.toNatClampNeg) z179 e179) ⟨rfl, rfl⟩ ⟨Nat.le_trans (by decide) hRf, Nat.le_trans (by decide) hRl⟩ ⟨hK, hN⟩ hP [] rfl rfl hl.1 rfl (Nat.le_of_ble_eq_true rfl) ⟨Nat.zero_le _, Nat.zero_le _⟩ dX12_photo_179 (fun _ => ?_)
                                refine lv_istore_n (lv' := [(2, .int z179), (0, .ref a_t), (1, .int x1), (3, .int x3), (4, .int x4), (5, .int x5), (6, .int x6)]) hx hb dX12_photo_182 rfl hl (by decide) rfl (fun ls hl => ?_)
                                refine lv_iinc (v := x5 + 1) (lv' := [(5, .int (x5 + 1)), (2, .int z179), (0, .ref a_t), (1, .int x1), (3, .int x3), (4, .int x4), (6, .int x6)]) hx hb dX12_photo_183 hl (k := 5) rfl (congrArg (_ + ·) (by decide : Int32.ofInt 1 = 1)) (by decide) rfl (fun ls hl => ?_)
                                refine lv_goto (tgt := 66) hx hb dX12_photo_186 (by decide) ?_
                                exact ih_66 _ _ _ _ _ _ _ _ _ _ hf hP hD hS (lv_sub hl [2, 3, 1, 4, 5, 0] rfl)
                              · have hf := it_neg hc_113 hf
                                refine lv_aload_n hx hb dX12_photo_116 rfl (lv_at hl 0 rfl) ?_
                                refine va_get (D := D) (ci := 11) (v := .ref a_t_mostBy) (C := RX12) (T := TX12) (N := 43) hx hb hT inX12 hown hK hP 0 rfl rfl 39 (by decide) (hT _ tb_1187) (fun _ h9 => h9) rfl dX12_photo_117 ?_
                                refine lv_iload hx hb dX12_photo_120 (lv_at hl 6 rfl) ?_
                                obtain ⟨hi_122, hf⟩ := ix_some hf
                                refine va_iald hx hb hK hP 2 0 rfl rfl hi_122 dX12_photo_122 ?_
                                refine lv_iconst (v := (-1)) hx hb dX12_photo_123 (by decide) ?_
                                refine lv_icmp_eq (tgt := 165) hx hb dX12_photo_124 (by decide) (fun hc_124 => ?_) (fun hc_124 => ?_)
                                · have hf := it_pos hc_124 hf
                                  refine lv_iinc (v := x6 + 1) (lv' := [(6, .int (x6 + 1)), (0, .ref a_t), (1, .int x1), (2, .int x2), (3, .int x3), (4, .int x4), (5, .int x5)]) hx hb dX12_photo_165 hl (k := 6) rfl (congrArg (_ + ·) (by decide : Int32.ofInt 1 = 1)) (by decide) rfl (fun ls hl => ?_)
                                  refine lv_goto (tgt := 108) hx hb dX12_photo_168 (by decide) ?_
                                  exact ih_108 _ _ _ _ _ _ _ _ _ _ _ hf hP hD hS (lv_sub hl [1, 2, 3, 4, 5, 6, 0] rfl)
                                · have hf := it_neg hc_124 hf
                                  refine lv_iload hx hb dX12_photo_127 (lv_at hl 6 rfl) ?_
                                  refine lv_iload hx hb dX12_photo_129 (lv_at hl 5 rfl) ?_
                                  refine lv_iand hx hb dX12_photo_131 ?_
                                  refine lv_if_ne (tgt := 165) hx hb dX12_photo_132 (by decide) (fun hc_132 => ?_) (fun hc_132 => ?_)
                                  · have hf := it_neg hc_132 hf
                                    refine lv_iinc (v := x6 + 1) (lv' := [(6, .int (x6 + 1)), (0, .ref a_t), (1, .int x1), (2, .int x2), (3, .int x3), (4, .int x4), (5, .int x5)]) hx hb dX12_photo_165 hl (k := 6) rfl (congrArg (_ + ·) (by decide : Int32.ofInt 1 = 1)) (by decide) rfl (fun ls hl => ?_)
                                    refine lv_goto (tgt := 108) hx hb dX12_photo_168 (by decide) ?_
                                    exact ih_108 _ _ _ _ _ _ _ _ _ _ _ hf hP hD hS (lv_sub hl [1, 2, 3, 4, 5, 6, 0] rfl)
                                  · have hf := it_pos hc_132 hf
                                    refine lv_aload_n hx hb dX12_photo_135 rfl (lv_at hl 0 rfl) ?_
                                    refine va_get (D := D) (ci := 11) (v := .ref a_t_mostNext) (C := RX12) (T := TX12) (N := 43) hx hb hT inX12 hown hK hP 0 rfl rfl 40 (by decide) (hT _ tb_1188) (fun _ h9 => h9) rfl dX12_photo_136 ?_
                                    refine lv_iload hx hb dX12_photo_139 (lv_at hl 5 rfl) ?_
                                    refine lv_aload_n hx hb dX12_photo_141 rfl (lv_at hl 0 rfl) ?_
                                    refine va_get (D := D) (ci := 11) (v := .ref a_t_mostNext) (C := RX12) (T := TX12) (N := 43) hx hb hT inX12 hown hK hP 0 rfl rfl 40 (by decide) (hT _ tb_1188) (fun _ h9 => h9) rfl dX12_photo_142 ?_
                                    refine lv_iload hx hb dX12_photo_145 (lv_at hl 5 rfl) ?_
                                    obtain ⟨hi_147, hf⟩ := ix_some hf
                                    refine va_iald hx hb hK hP 3 0 rfl rfl hi_147 dX12_photo_147 ?_
                                    refine lv_aload_n hx hb dX12_photo_148 rfl (lv_at hl 0 rfl) ?_
                                    refine va_get (D := D) (ci := 11) (v := .ref a_t_mostBy) (C := RX12) (T := TX12) (N := 43) hx hb hT inX12 hown hK hP 0 rfl rfl 39 (by decide) (hT _ tb_1187) (fun _ h9 => h9) rfl dX12_photo_149 ?_
                                    refine lv_iload hx hb dX12_photo_152 (lv_at hl 6 rfl) ?_
                                    obtain ⟨hi_154, hf⟩ := ix_some hf
                                    refine va_iald hx hb hK hP 2 0 rfl rfl hi_154 dX12_photo_154 ?_
                                    refine lv_iload hx hb dX12_photo_155 (lv_at hl 5 rfl) ?_
                                    obtain ⟨z157, e157, hf⟩ := bd_some hf
                                    refine rS_RO (As := [.int x5]) (rest := [.int (t_mostBy x6.toNatClampNeg), .int (t_mostNext x5.toNatClampNeg), .int x5, .ref a_t_mostNext]) ⟨hx, hb, hml, hown, hT⟩ (gdS tb_1585 tb_1586 tb_97 tb_1587) hd_X12_bits (c_X12_bits l D cI cB cZ x5 z157 e157) ⟨rfl, rfl⟩ ⟨Nat.le_trans (by decide) hRf, Nat.le_trans (by decide) hRl⟩ ⟨hK, hN⟩ hP [] rfl rfl hl.1 rfl (Nat.le_of_ble_eq_true rfl) ⟨Nat.zero_le _, Nat.zero_le _⟩ dX12_photo_157 (fun _ => ?_)
                                    refine lv_iadd hx hb dX12_photo_160 ?_
                                    obtain ⟨z161, e161, hf⟩ := bd_some hf
                                    refine rS_RO (As := [.int (t_mostNext x5.toNatClampNeg), .int ((t_mostBy x6.toNatClampNeg) + z157)]) (rest := [.int x5, .ref a_t_mostNext]) ⟨hx, hb, hml, hown, hT⟩ (gdS tb_1534 tb_1535 tb_97 tb_1536) hd_X12_max (c_X12_max l D cI cB cZ (t_mostNext x5.toNatClampNeg) ((t_mostBy x6.toNatClampNeg) + z157) z161 e161) ⟨rfl, rfl⟩ ⟨Nat.le_trans (by decide) hRf, Nat.le_trans (by decide) hRl⟩ ⟨hK, hN⟩ hP [] rfl rfl hl.1 rfl (Nat.le_of_ble_eq_true rfl) ⟨Nat.zero_le _, Nat.zero_le _⟩ dX12_photo_161 (fun _ => ?_)
                                    obtain ⟨hi_164, hf⟩ := ix_some hf
                                    refine va_iast hx hb hK hP hD hS 3 0 rfl rfl hi_164 dX12_photo_164 (fun H locs hP hD hS => ?_)
                                    have hP : va_P D vwCl (w_X12_photo cI cB cZ a_t a_t_now a_t_mostBy a_t_mostNext a_t_aside a_t_kept a_t_tape a_t_said a_t_waitsAt a_t_saidLetter a_t_saidFrom a_t_saidHalf a_t_saidTo a_t_codes a_t_clauseOf a_t_codeFrom a_t_codeHalf a_t_codeTo a_t_stack a_t_facts a_t_newLine a_t_canSit a_t_canNext a_t_singersIn a_t_freeAt a_t_beginsAt a_t_leastBy a_t_risesTo t_taped t_place0 t_length0 t_fault t_number0 t_open t_codeMany t_waiting t_saidMany t_clauses t_newMany t_lines t_stoodNow t_lastSeat t_climbedNow t_isKept t_now t_mostBy (upd t_mostNext x5.toNatClampNeg z161)) H := hP
                                    have hD : va_D A (w_X12_photo cI cB cZ a_t a_t_now a_t_mostBy a_t_mostNext a_t_aside a_t_kept a_t_tape a_t_said a_t_waitsAt a_t_saidLetter a_t_saidFrom a_t_saidHalf a_t_saidTo a_t_codes a_t_clauseOf a_t_codeFrom a_t_codeHalf a_t_codeTo a_t_stack a_t_facts a_t_newLine a_t_canSit a_t_canNext a_t_singersIn a_t_freeAt a_t_beginsAt a_t_leastBy a_t_risesTo t_taped t_place0 t_length0 t_fault t_number0 t_open t_codeMany t_waiting t_saidMany t_clauses t_newMany t_lines t_stoodNow t_lastSeat t_climbedNow t_isKept t_now t_mostBy (upd t_mostNext x5.toNatClampNeg z161)) := hD
                                    refine lv_iinc (v := x6 + 1) (lv' := [(6, .int (x6 + 1)), (0, .ref a_t), (1, .int x1), (2, .int x2), (3, .int x3), (4, .int x4), (5, .int x5)]) hx hb dX12_photo_165 hl (k := 6) rfl (congrArg (_ + ·) (by decide : Int32.ofInt 1 = 1)) (by decide) rfl (fun ls hl => ?_)
                                    refine lv_goto (tgt := 108) hx hb dX12_photo_168 (by decide) ?_
                                    exact ih_108 _ _ _ _ _ _ _ _ _ _ _ hf hP hD hS (lv_sub hl [1, 2, 3, 4, 5, 6, 0] rfl)
                          refine lv_istore (lv' := [(6, .int 0), (0, .ref a_t), (1, .int x1), (2, .int x2), (3, .int x3), (4, .int x4), (5, .int x5)]) hx hb dX12_photo_106 hl (by decide) rfl (fun ls hl => ?_)
                          exact J_108 _ _ _ _ _ _ _ _ _ _ _ _ hf hP hD hS (lv_sub hl [1, 2, 3, 4, 5, 6, 0] rfl)
                        · have hf := it_neg hc_99 hf
                          refine lv_goto (tgt := 183) hx hb dX12_photo_102 (by decide) ?_
                          refine lv_iinc (v := x5 + 1) (lv' := [(5, .int (x5 + 1)), (0, .ref a_t), (1, .int x1), (2, .int x2), (3, .int x3), (4, .int x4)]) hx hb dX12_photo_183 hl (k := 5) rfl (congrArg (_ + ·) (by decide : Int32.ofInt 1 = 1)) (by decide) rfl (fun ls hl => ?_)
                          refine lv_goto (tgt := 66) hx hb dX12_photo_186 (by decide) ?_
                          exact ih_66 _ _ _ _ _ _ _ _ _ _ hf hP hD hS (lv_sub hl [1, 2, 3, 4, 5, 0] rfl)
                refine lv_istore (lv' := [(5, .int 0), (4, .int z58), (0, .ref a_t), (1, .int x1), (2, .int x2), (3, .int x3)]) hx hb dX12_photo_64 hl (by decide) rfl (fun ls hl => ?_)
                exact J_66 _ _ _ _ _ _ _ _ _ _ _ hf hP hD hS (lv_sub hl [2, 3, 4, 5, 1, 0] rfl)
          refine lv_istore_n (lv' := [(3, .int 0), (0, .ref a_t), (1, .int x1), (2, .int x2)]) hx hb dX12_photo_44 rfl hl (by decide) rfl (fun ls hl => ?_)
          exact J_45 _ _ _ _ _ _ _ _ _ hf hP hD hS (lv_sub hl [1, 2, 3, 0] rfl)
        · have hf := it_neg hc_19 hf
          refine lv_aload_n hx hb dX12_photo_22 rfl (lv_at hl 0 rfl) ?_
          refine va_get (D := D) (ci := 11) (v := .ref a_t_mostBy) (C := RX12) (T := TX12) (N := 43) hx hb hT inX12 hown hK hP 0 rfl rfl 39 (by decide) (hT _ tb_1187) (fun _ h9 => h9) rfl dX12_photo_23 ?_
          refine lv_iload_n hx hb dX12_photo_26 rfl (lv_at hl 3 rfl) ?_
          refine lv_iload_n hx hb dX12_photo_27 rfl (lv_at hl 3 rfl) ?_
          have J_36 : ∀ (x1 : Int32) (x2 : Int32) (x3 : Int32) (y0 : Int32) (y1 : Int32) (t_mostBy : (Nat → Int32)) (t_mostNext : (Nat → Int32)) (H : Heap) (locs : List Loc) (ls : Array Slot), f_X12_photo_36 t_now (f_X12_photo_15 t_now n_15) x1 x2 x3 y0 y1 t_mostBy t_mostNext = some res → va_P D vwCl (w_X12_photo cI cB cZ a_t a_t_now a_t_mostBy a_t_mostNext a_t_aside a_t_kept a_t_tape a_t_said a_t_waitsAt a_t_saidLetter a_t_saidFrom a_t_saidHalf a_t_saidTo a_t_codes a_t_clauseOf a_t_codeFrom a_t_codeHalf a_t_codeTo a_t_stack a_t_facts a_t_newLine a_t_canSit a_t_canNext a_t_singersIn a_t_freeAt a_t_beginsAt a_t_leastBy a_t_risesTo t_taped t_place0 t_length0 t_fault t_number0 t_open t_codeMany t_waiting t_saidMany t_clauses t_newMany t_lines t_stoodNow t_lastSeat t_climbedNow t_isKept t_now t_mostBy t_mostNext) H → va_D A (w_X12_photo cI cB cZ a_t a_t_now a_t_mostBy a_t_mostNext a_t_aside a_t_kept a_t_tape a_t_said a_t_waitsAt a_t_saidLetter a_t_saidFrom a_t_saidHalf a_t_saidTo a_t_codes a_t_clauseOf a_t_codeFrom a_t_codeHalf a_t_codeTo a_t_stack a_t_facts a_t_newLine a_t_canSit a_t_canNext a_t_singersIn a_t_freeAt a_t_beginsAt a_t_leastBy a_t_risesTo t_taped t_place0 t_length0 t_fault t_number0 t_open t_codeMany t_waiting t_saidMany t_clauses t_newMany t_lines t_stoodNow t_lastSeat t_climbedNow t_isKept t_now t_mostBy t_mostNext) → va_S A s.heap H locs → lv_has ls 7 [(0, .ref a_t), (1, .int x1), (2, .int x2), (3, .int x3)] → W p l e R s m args below meth c H locs 0 0 Q (F0 m 36 ls [.int y1, .int y0, .ref a_t_mostBy]) := by
            intro x1 x2 x3 y0 y1 t_mostBy t_mostNext H locs ls hf hP hD hS hl
            unfold f_X12_photo_36 at hf
            obtain ⟨hi_36, hf⟩ := ix_some hf
            refine va_iast hx hb hK hP hD hS 2 0 rfl rfl hi_36 dX12_photo_36 (fun H locs hP hD hS => ?_)
            have hP : va_P D vwCl (w_X12_photo cI cB cZ a_t a_t_now a_t_mostBy a_t_mostNext a_t_aside a_t_kept a_t_tape a_t_said a_t_waitsAt a_t_saidLetter a_t_saidFrom a_t_saidHalf a_t_saidTo a_t_codes a_t_clauseOf a_t_codeFrom a_t_codeHalf a_t_codeTo a_t_stack a_t_facts a_t_newLine a_t_canSit a_t_canNext a_t_singersIn a_t_freeAt a_t_beginsAt a_t_leastBy a_t_risesTo t_taped t_place0 t_length0 t_fault t_number0 t_open t_codeMany t_waiting t_saidMany t_clauses t_newMany t_lines t_stoodNow t_lastSeat t_climbedNow t_isKept t_now (upd t_mostBy y0.toNatClampNeg y1) t_mostNext) H := hP
            have hD : va_D A (w_X12_photo cI cB cZ a_t a_t_now a_t_mostBy a_t_mostNext a_t_aside a_t_kept a_t_tape a_t_said a_t_waitsAt a_t_saidLetter a_t_saidFrom a_t_saidHalf a_t_saidTo a_t_codes a_t_clauseOf a_t_codeFrom a_t_codeHalf a_t_codeTo a_t_stack a_t_facts a_t_newLine a_t_canSit a_t_canNext a_t_singersIn a_t_freeAt a_t_beginsAt a_t_leastBy a_t_risesTo t_taped t_place0 t_length0 t_fault t_number0 t_open t_codeMany t_waiting t_saidMany t_clauses t_newMany t_lines t_stoodNow t_lastSeat t_climbedNow t_isKept t_now (upd t_mostBy y0.toNatClampNeg y1) t_mostNext) := hD
            refine lv_iinc (v := x3 + 1) (lv' := [(3, .int (x3 + 1)), (0, .ref a_t), (1, .int x1), (2, .int x2)]) hx hb dX12_photo_37 hl (k := 3) rfl (congrArg (_ + ·) (by decide : Int32.ofInt 1 = 1)) (by decide) rfl (fun ls hl => ?_)
            refine lv_goto (tgt := 15) hx hb dX12_photo_40 (by decide) ?_
            exact ih_15 _ _ _ _ _ _ _ _ hf hP hD hS (lv_sub hl [1, 2, 3, 0] rfl)
          refine lv_if_ne (tgt := 35) hx hb dX12_photo_28 (by decide) (fun hc_28 => ?_) (fun hc_28 => ?_)
          · have hf := it_neg hc_28 hf
            refine lv_iconst (v := (-1)) hx hb dX12_photo_35 (by decide) ?_
            exact J_36 _ _ _ _ _ _ _ _ _ _ hf hP hD hS (lv_sub hl [0, 1, 2, 3] rfl)
          · have hf := it_pos hc_28 hf
            refine lv_iconst (v := 0) hx hb dX12_photo_31 (by decide) ?_
            refine lv_goto (tgt := 36) hx hb dX12_photo_32 (by decide) ?_
            exact J_36 _ _ _ _ _ _ _ _ _ _ hf hP hD hS (lv_sub hl [0, 1, 2, 3] rfl)
    refine lv_istore_n (lv' := [(3, .int 0), (2, .int 0), (0, .ref a_t), (1, .int x1)]) hx hb dX12_photo_14 rfl hl (by decide) rfl (fun ls hl => ?_)
    exact J_15 _ _ _ _ _ _ _ _ _ hf hP hD hS (lv_sub hl [2, 3, 1, 0] rfl)
  · have hf := it_pos hc_6 hf
    refine lv_iconst (v := (-1)) hx hb dX12_photo_9 (by decide) ?_
    obtain rfl := Option.some.inj hf
    exact hQ H locs 10 ls hP hD hS trivial dX12_photo_10
theorem hd_X12_photo : (yX12_photo).cls = RX12 ∧ (yX12_photo).cls ≠ "java/lang/invoke/MethodHandle" ∧ (yX12_photo).cls ≠ "java/lang/invoke/VarHandle" ∧ (parseMethodDescriptor (yX12_photo).desc).map (fun d => d.parameters.length) = some 1 := by decide +kernel
theorem c_X12_photo (l : Launch) (D : va_G) (cI cB cZ : ClassId) (a_t : Nat) (a_t_now : Nat) (a_t_mostBy : Nat) (a_t_mostNext : Nat) (a_t_aside : Nat) (a_t_kept : Nat) (a_t_tape : Nat) (a_t_said : Nat) (a_t_waitsAt : Nat) (a_t_saidLetter : Nat) (a_t_saidFrom : Nat) (a_t_saidHalf : Nat) (a_t_saidTo : Nat) (a_t_codes : Nat) (a_t_clauseOf : Nat) (a_t_codeFrom : Nat) (a_t_codeHalf : Nat) (a_t_codeTo : Nat) (a_t_stack : Nat) (a_t_facts : Nat) (a_t_newLine : Nat) (a_t_canSit : Nat) (a_t_canNext : Nat) (a_t_singersIn : Nat) (a_t_freeAt : Nat) (a_t_beginsAt : Nat) (a_t_leastBy : Nat) (a_t_risesTo : Nat) (t_taped : Int32) (t_place0 : Int32) (t_length0 : Int32) (t_fault : Int32) (t_number0 : Int32) (t_open : Int32) (t_codeMany : Int32) (t_waiting : Int32) (t_saidMany : Int32) (t_clauses : Int32) (t_newMany : Int32) (t_lines : Int32) (t_stoodNow : Int32) (t_lastSeat : Int32) (t_climbedNow : Int32) (t_isKept : Int32) (t_now : (Nat → Int32)) (t_mostBy : (Nat → Int32)) (t_mostNext : (Nat → Int32)) (x1 : Int32) (sz : Nat) (res : Int32 × (Nat → Int32) × (Nat → Int32)) (hf : f_X12_photo t_now t_mostBy t_mostNext x1 = some res) : Met l yX12_photo (.code yX12_photo cX12_photo 7 (some .int) :: TB) (rmk (2) (44)) (pRW [.ref a_t, .int x1] D cI cB cZ (w_X12_photo cI cB cZ a_t a_t_now a_t_mostBy a_t_mostNext a_t_aside a_t_kept a_t_tape a_t_said a_t_waitsAt a_t_saidLetter a_t_saidFrom a_t_saidHalf a_t_saidTo a_t_codes a_t_clauseOf a_t_codeFrom a_t_codeHalf a_t_codeTo a_t_stack a_t_facts a_t_newLine a_t_canSit a_t_canNext a_t_singersIn a_t_freeAt a_t_beginsAt a_t_leastBy a_t_risesTo t_taped t_place0 t_length0 t_fault t_number0 t_open t_codeMany t_waiting t_saidMany t_clauses t_newMany t_lines t_stoodNow t_lastSeat t_climbedNow t_isKept t_now t_mostBy t_mostNext) sz) (qRW (some (.int res.1)) True D (w_X12_photo cI cB cZ a_t a_t_now a_t_mostBy a_t_mostNext a_t_aside a_t_kept a_t_tape a_t_said a_t_waitsAt a_t_saidLetter a_t_saidFrom a_t_saidHalf a_t_saidTo a_t_codes a_t_clauseOf a_t_codeFrom a_t_codeHalf a_t_codeTo a_t_stack a_t_facts a_t_newLine a_t_canSit a_t_canNext a_t_singersIn a_t_freeAt a_t_beginsAt a_t_leastBy a_t_risesTo t_taped t_place0 t_length0 t_fault t_number0 t_open t_codeMany t_waiting t_saidMany t_clauses t_newMany t_lines t_stoodNow t_lastSeat t_climbedNow t_isKept t_now t_mostBy t_mostNext) sz (w_X12_photo cI cB cZ a_t a_t_now a_t_mostBy a_t_mostNext a_t_aside a_t_kept a_t_tape a_t_said a_t_waitsAt a_t_saidLetter a_t_saidFrom a_t_saidHalf a_t_saidTo a_t_codes a_t_clauseOf a_t_codeFrom a_t_codeHalf a_t_codeTo a_t_stack a_t_facts a_t_newLine a_t_canSit a_t_canNext a_t_singersIn a_t_freeAt a_t_beginsAt a_t_leastBy a_t_risesTo t_taped t_place0 t_length0 t_fault t_number0 t_open t_codeMany t_waiting t_saidMany t_clauses t_newMany t_lines t_stoodNow t_lastSeat t_climbedNow t_isKept t_now res.2.1 res.2.2)) 0 0 (va_A (w_X12_photo cI cB cZ a_t a_t_now a_t_mostBy a_t_mostNext a_t_aside a_t_kept a_t_tape a_t_said a_t_waitsAt a_t_saidLetter a_t_saidFrom a_t_saidHalf a_t_saidTo a_t_codes a_t_clauseOf a_t_codeFrom a_t_codeHalf a_t_codeTo a_t_stack a_t_facts a_t_newLine a_t_canSit a_t_canNext a_t_singersIn a_t_freeAt a_t_beginsAt a_t_leastBy a_t_risesTo t_taped t_place0 t_length0 t_fault t_number0 t_open t_codeMany t_waiting t_saidMany t_clauses t_newMany t_lines t_stoodNow t_lastSeat t_climbedNow t_isKept t_now t_mostBy t_mostNext) sz) :=
  mkRW (by decide +kernel) (Nat.le_of_ble_eq_true rfl) (fun p e s m below meth c ls A hAe S hr hlk hK hA hP hD hS hl => b_X12_photo S.1 S.2.1 S.2.2.1 S.2.2.2.1 S.2.2.2.2 (Nat.le_refl _) (Nat.le_refl _) hK.1 hK.2 hA s.heap [] a_t a_t_now a_t_mostBy a_t_mostNext a_t_aside a_t_kept a_t_tape a_t_said a_t_waitsAt a_t_saidLetter a_t_saidFrom a_t_saidHalf a_t_saidTo a_t_codes a_t_clauseOf a_t_codeFrom a_t_codeHalf a_t_codeTo a_t_stack a_t_facts a_t_newLine a_t_canSit a_t_canNext a_t_singersIn a_t_freeAt a_t_beginsAt a_t_leastBy a_t_risesTo t_taped t_place0 t_length0 t_fault t_number0 t_open t_codeMany t_waiting t_saidMany t_clauses t_newMany t_lines t_stoodNow t_lastSeat t_climbedNow t_isKept t_now t_mostBy t_mostNext x1 res hf hP hD hS (fun H locs pc ls hP hD hS hE hd => eRW_i S.1 S.2.1 hr rfl hlk hAe hP hD hS hE hd) ls hl)
def f_X12_hats_93 (t_tape : (Nat → Int32)) (k48 : Int32 → Int32 → Int32 → Int32 → Int32 → Int32 → Int32 → Int32 → (Nat → Int32) → Option (Int32 × Int32 × (Nat → Int32))) (k65 : Int32 → Int32 → Int32 → Int32 → Int32 → Int32 → Int32 → Int32 → Int32 → (Nat → Int32) → Option (Int32 × Int32 × (Nat → Int32))) (x1 : Int32) (x2 : Int32) (x3 : Int32) (x4 : Int32) (x5 : Int32) (x6 : Int32) (x7 : Int32) (x8 : Int32) (t_taped : Int32) (t_risesTo : (Nat → Int32)) : Option (Int32 × Int32 × (Nat → Int32)) := (f_X12_octet t_tape x8).bind (fun z96 => (f_X12_octet t_tape x7).bind (fun z102 => (if z102 ≤ z96 then k65 x1 x2 x3 x4 x5 x6 x7 (x8 + 1) t_taped t_risesTo else ix 12 x7 (ix 12 x8 ((f_X12_max (t_risesTo x7.toNatClampNeg) ((t_risesTo x8.toNatClampNeg) + 1)).bind (fun z130 => ix 12 x7 (k65 x1 x2 x3 x4 x5 x6 x7 (x8 + 1) t_taped (upd t_risesTo x7.toNatClampNeg z130))))))))
def f_X12_hats_169 (t_tape : (Nat → Int32)) (k48 : Int32 → Int32 → Int32 → Int32 → Int32 → Int32 → Int32 → Int32 → (Nat → Int32) → Option (Int32 × Int32 × (Nat → Int32))) (x1 : Int32) (x2 : Int32) (x3 : Int32) (x4 : Int32) (x5 : Int32) (x6 : Int32) (x7 : Int32) (t_taped : Int32) (t_risesTo : (Nat → Int32)) : Option (Int32 × Int32 × (Nat → Int32)) := (f_X12_octet t_tape x7).bind (fun z174 => (f_X12_max x4 z174).bind (fun z177 => k48 x1 x2 x3 z177 x5 x6 (x7 + 1) t_taped t_risesTo))
def f_X12_hats_65 (t_tape : (Nat → Int32)) (k48 : Int32 → Int32 → Int32 → Int32 → Int32 → Int32 → Int32 → Int32 → (Nat → Int32) → Option (Int32 × Int32 × (Nat → Int32))) : Nat → Int32 → Int32 → Int32 → Int32 → Int32 → Int32 → Int32 → Int32 → Int32 → (Nat → Int32) → Option (Int32 × Int32 × (Nat → Int32))
  | 0, _, _, _, _, _, _, _, _, _, _ => none
  | n + 1, x1, x2, x3, x4, x5, x6, x7, x8, t_taped, t_risesTo => (if x7 ≤ x8 then ix 12 x7 ((f_X12_max x6 (t_risesTo x7.toNatClampNeg)).bind (fun z149 => (f_X12_octet t_tape x7).bind (fun z157 => (if z157 ≤ x4 then f_X12_hats_169 t_tape k48 x1 x2 x3 x4 x5 z149 x7 t_taped t_risesTo else f_X12_hats_169 t_tape k48 x1 x2 (x3 + 1) x4 x5 z149 x7 t_taped t_risesTo)))) else (f_X12_octet t_tape x8).bind (fun z75 => (f_X12_octet t_tape x7).bind (fun z81 => (if z75 ≤ z81 then f_X12_hats_93 t_tape k48 (f_X12_hats_65 t_tape k48 n) x1 x2 x3 x4 x5 x6 x7 x8 t_taped t_risesTo else f_X12_hats_93 t_tape k48 (f_X12_hats_65 t_tape k48 n) x1 x2 x3 x4 (x5 + 1) x6 x7 x8 t_taped t_risesTo))))
def f_X12_hats_48 (t_tape : (Nat → Int32)) : Nat → Int32 → Int32 → Int32 → Int32 → Int32 → Int32 → Int32 → Int32 → (Nat → Int32) → Option (Int32 × Int32 × (Nat → Int32))
  | 0, _, _, _, _, _, _, _, _, _ => none
  | n + 1, x1, x2, x3, x4, x5, x6, x7, t_taped, t_risesTo => (if x1 ≤ x7 then (if x2 = 0 then some (x3, t_taped, t_risesTo) else (if x2 = 1 then some (x5, t_taped, t_risesTo) else some (x1 - x6, t_taped, t_risesTo))) else ix 12 x7 (f_X12_hats_65 t_tape (f_X12_hats_48 t_tape n) FU x1 x2 x3 x4 x5 x6 x7 0 t_taped (upd t_risesTo x7.toNatClampNeg 1)))
def f_X12_hats (t_taped : Int32) (t_tape : (Nat → Int32)) (t_risesTo : (Nat → Int32)) (x1 : Int32) (x2 : Int32) : Option (Int32 × Int32 × (Nat → Int32)) := (f_X12_in x1 1 12).bind (fun z4 => (if z4 = 0 then some ((-1), t_taped, t_risesTo) else (f_X12_in x2 0 2).bind (fun z13 => (if z13 = 0 then some ((-1), t_taped, t_risesTo) else (if x1 ≤ t_taped then f_X12_hats_48 t_tape FU x1 x2 0 (-1) 0 0 0 0 t_risesTo else some ((-1), t_taped, t_risesTo))))))
def w_X12_hats (cI cB cZ : ClassId) (a_t : Nat) (a_t_tape : Nat) (a_t_risesTo : Nat) (a_t_now : Nat) (a_t_aside : Nat) (a_t_kept : Nat) (a_t_said : Nat) (a_t_waitsAt : Nat) (a_t_saidLetter : Nat) (a_t_saidFrom : Nat) (a_t_saidHalf : Nat) (a_t_saidTo : Nat) (a_t_codes : Nat) (a_t_clauseOf : Nat) (a_t_codeFrom : Nat) (a_t_codeHalf : Nat) (a_t_codeTo : Nat) (a_t_stack : Nat) (a_t_facts : Nat) (a_t_newLine : Nat) (a_t_canSit : Nat) (a_t_canNext : Nat) (a_t_singersIn : Nat) (a_t_freeAt : Nat) (a_t_beginsAt : Nat) (a_t_leastBy : Nat) (a_t_mostBy : Nat) (a_t_mostNext : Nat) (t_taped : Int32) (t_place0 : Int32) (t_length0 : Int32) (t_fault : Int32) (t_number0 : Int32) (t_open : Int32) (t_codeMany : Int32) (t_waiting : Int32) (t_saidMany : Int32) (t_clauses : Int32) (t_newMany : Int32) (t_lines : Int32) (t_stoodNow : Int32) (t_lastSeat : Int32) (t_climbedNow : Int32) (t_isKept : Int32) (t_tape : (Nat → Int32)) (t_risesTo : (Nat → Int32)) : va_W := [(a_t, .inr (11, [.ref a_t_now, .ref a_t_aside, .ref a_t_kept, .ref a_t_tape, .int t_taped, .int t_place0, .int t_length0, .int t_fault, .int t_number0, .int t_open, .int t_codeMany, .int t_waiting, .int t_saidMany, .int t_clauses, .ref a_t_said, .ref a_t_waitsAt, .ref a_t_saidLetter, .ref a_t_saidFrom, .ref a_t_saidHalf, .ref a_t_saidTo, .ref a_t_codes, .ref a_t_clauseOf, .ref a_t_codeFrom, .ref a_t_codeHalf, .ref a_t_codeTo, .ref a_t_stack, .ref a_t_facts, .ref a_t_newLine, .int t_newMany, .int t_lines, .int t_stoodNow, .int t_lastSeat, .int t_climbedNow, .ref a_t_canSit, .ref a_t_canNext, .ref a_t_singersIn, .ref a_t_freeAt, .ref a_t_beginsAt, .ref a_t_leastBy, .ref a_t_mostBy, .ref a_t_mostNext, .ref a_t_risesTo, .int t_isKept])), (a_t_tape, .inl (cB, 260, .inl t_tape)), (a_t_risesTo, .inl (cI, 12, .inl t_risesTo))]
set_option maxHeartbeats 4000000 in
set_option maxRecDepth 100000 in
theorem b_X12_hats {p : Program} {l : Launch} {e : Env} {R : Room} {s : State} {m : MethodId} {args : Array Value} {below : List Frame} {meth : Method} {c : Code} {Q : State → Prop} {D : va_G} {cI cB cZ : ClassId} (hx : p.tables.exec = Jvm.exec) (hb : c.code = cX12_hats) (hml : c.maxLocals = 9) (hown : s.vm.findClass RX12 = some m.cls) (hT : ∀ w ∈ TB, w.before args s = true) (hRf : (1) ≤ R.frames) (hRl : (22) ≤ R.locals) (hK : va_K D vwCl (tyL cI cB cZ) s) (hN : NW s) {A : Nat → Prop} (hA : ∀ q : Nat, s.heap.size ≤ q → A q) (H : Heap) (locs : List Loc)  (a_t : Nat) (a_t_tape : Nat) (a_t_risesTo : Nat) (a_t_now : Nat) (a_t_aside : Nat) (a_t_kept : Nat) (a_t_said : Nat) (a_t_waitsAt : Nat) (a_t_saidLetter : Nat) (a_t_saidFrom : Nat) (a_t_saidHalf : Nat) (a_t_saidTo : Nat) (a_t_codes : Nat) (a_t_clauseOf : Nat) (a_t_codeFrom : Nat) (a_t_codeHalf : Nat) (a_t_codeTo : Nat) (a_t_stack : Nat) (a_t_facts : Nat) (a_t_newLine : Nat) (a_t_canSit : Nat) (a_t_canNext : Nat) (a_t_singersIn : Nat) (a_t_freeAt : Nat) (a_t_beginsAt : Nat) (a_t_leastBy : Nat) (a_t_mostBy : Nat) (a_t_mostNext : Nat) (t_taped : Int32) (t_place0 : Int32) (t_length0 : Int32) (t_fault : Int32) (t_number0 : Int32) (t_open : Int32) (t_codeMany : Int32) (t_waiting : Int32) (t_saidMany : Int32) (t_clauses : Int32) (t_newMany : Int32) (t_lines : Int32) (t_stoodNow : Int32) (t_lastSeat : Int32) (t_climbedNow : Int32) (t_isKept : Int32) (t_tape : (Nat → Int32)) (t_risesTo : (Nat → Int32)) (x1 : Int32) (x2 : Int32) (res : Int32 × Int32 × (Nat → Int32)) (hf : f_X12_hats t_taped t_tape t_risesTo x1 x2 = some res) (hP : va_P D vwCl (w_X12_hats cI cB cZ a_t a_t_tape a_t_risesTo a_t_now a_t_aside a_t_kept a_t_said a_t_waitsAt a_t_saidLetter a_t_saidFrom a_t_saidHalf a_t_saidTo a_t_codes a_t_clauseOf a_t_codeFrom a_t_codeHalf a_t_codeTo a_t_stack a_t_facts a_t_newLine a_t_canSit a_t_canNext a_t_singersIn a_t_freeAt a_t_beginsAt a_t_leastBy a_t_mostBy a_t_mostNext t_taped t_place0 t_length0 t_fault t_number0 t_open t_codeMany t_waiting t_saidMany t_clauses t_newMany t_lines t_stoodNow t_lastSeat t_climbedNow t_isKept t_tape t_risesTo) H) (hD : va_D A (w_X12_hats cI cB cZ a_t a_t_tape a_t_risesTo a_t_now a_t_aside a_t_kept a_t_said a_t_waitsAt a_t_saidLetter a_t_saidFrom a_t_saidHalf a_t_saidTo a_t_codes a_t_clauseOf a_t_codeFrom a_t_codeHalf a_t_codeTo a_t_stack a_t_facts a_t_newLine a_t_canSit a_t_canNext a_t_singersIn a_t_freeAt a_t_beginsAt a_t_leastBy a_t_mostBy a_t_mostNext t_taped t_place0 t_length0 t_fault t_number0 t_open t_codeMany t_waiting t_saidMany t_clauses t_newMany t_lines t_stoodNow t_lastSeat t_climbedNow t_isKept t_tape t_risesTo)) (hS : va_S A s.heap H locs) (hQ : ∀ (H : Heap) (locs : List Loc) (pc : Nat) (ls : Array Slot), va_P D vwCl (w_X12_hats cI cB cZ a_t a_t_tape a_t_risesTo a_t_now a_t_aside a_t_kept a_t_said a_t_waitsAt a_t_saidLetter a_t_saidFrom a_t_saidHalf a_t_saidTo a_t_codes a_t_clauseOf a_t_codeFrom a_t_codeHalf a_t_codeTo a_t_stack a_t_facts a_t_newLine a_t_canSit a_t_canNext a_t_singersIn a_t_freeAt a_t_beginsAt a_t_leastBy a_t_mostBy a_t_mostNext res.2.1 t_place0 t_length0 t_fault t_number0 t_open t_codeMany t_waiting t_saidMany t_clauses t_newMany t_lines t_stoodNow t_lastSeat t_climbedNow t_isKept t_tape res.2.2) H → va_D A (w_X12_hats cI cB cZ a_t a_t_tape a_t_risesTo a_t_now a_t_aside a_t_kept a_t_said a_t_waitsAt a_t_saidLetter a_t_saidFrom a_t_saidHalf a_t_saidTo a_t_codes a_t_clauseOf a_t_codeFrom a_t_codeHalf a_t_codeTo a_t_stack a_t_facts a_t_newLine a_t_canSit a_t_canNext a_t_singersIn a_t_freeAt a_t_beginsAt a_t_leastBy a_t_mostBy a_t_mostNext res.2.1 t_place0 t_length0 t_fault t_number0 t_open t_codeMany t_waiting t_saidMany t_clauses t_newMany t_lines t_stoodNow t_lastSeat t_climbedNow t_isKept t_tape res.2.2) → va_S A s.heap H locs → True → decode cX12_hats pc = .ok (.ireturn, 1) → W p l e R s m args below meth c H locs 0 0 Q (F0 m pc ls [.int res.1])) (ls : Array Slot) (hl : lv_has ls 9 [(0, .ref a_t), (1, .int x1), (2, .int x2)]) : W p l e R s m args below meth c H locs 0 0 Q (F0 m 0 ls []) := by
  unfold f_X12_hats at hf
  refine lv_iload_n hx hb dX12_hats_0 rfl (lv_at hl 1 rfl) ?_
  refine lv_iconst (v := 1) hx hb dX12_hats_1 (by decide) ?_
  refine lv_bipush (v := 12) hx hb dX12_hats_2 (by decide) ?_
  obtain ⟨z4, e4, hf⟩ := bd_some hf
  refine rS_RO (As := [.int x1, .int 1, .int 12]) (rest := []) ⟨hx, hb, hml, hown, hT⟩ (gdS tb_1283 tb_1284 tb_97 tb_1285) hd_X12_in (c_X12_in l D cI cB cZ x1 1 12 z4 e4) ⟨rfl, rfl⟩ ⟨Nat.le_trans (by decide) hRf, Nat.le_trans (by decide) hRl⟩ ⟨hK, hN⟩ hP [] rfl rfl hl.1 rfl (Nat.le_of_ble_eq_true rfl) ⟨Nat.zero_le _, Nat.zero_le _⟩ dX12_hats_4 (fun hz_4 => ?_)
  refine lv_if_eq (tgt := 27) hx hb dX12_hats_7 (by decide) (fun hc_7 => ?_) (fun hc_7 => ?_)
  · have hf := it_pos hc_7 hf
    refine lv_iconst (v := (-1)) hx hb dX12_hats_27 (by decide) ?_
    obtain rfl := Option.some.inj hf
    exact hQ H locs 28 ls hP hD hS trivial dX12_hats_28
  · have hf := it_neg hc_7 hf
    refine lv_iload_n hx hb dX12_hats_10 rfl (lv_at hl 2 rfl) ?_
    refine lv_iconst (v := 0) hx hb dX12_hats_11 (by decide) ?_
    refine lv_iconst (v := 2) hx hb dX12_hats_12 (by decide) ?_
    obtain ⟨z13, e13, hf⟩ := bd_some hf
    refine rS_RO (As := [.int x2, .int 0, .int 2]) (rest := []) ⟨hx, hb, hml, hown, hT⟩ (gdS tb_1283 tb_1284 tb_97 tb_1285) hd_X12_in (c_X12_in l D cI cB cZ x2 0 2 z13 e13) ⟨rfl, rfl⟩ ⟨Nat.le_trans (by decide) hRf, Nat.le_trans (by decide) hRl⟩ ⟨hK, hN⟩ hP [] rfl rfl hl.1 rfl (Nat.le_of_ble_eq_true rfl) ⟨Nat.zero_le _, Nat.zero_le _⟩ dX12_hats_13 (fun hz_13 => ?_)
    refine lv_if_eq (tgt := 27) hx hb dX12_hats_16 (by decide) (fun hc_16 => ?_) (fun hc_16 => ?_)
    · have hf := it_pos hc_16 hf
      refine lv_iconst (v := (-1)) hx hb dX12_hats_27 (by decide) ?_
      obtain rfl := Option.some.inj hf
      exact hQ H locs 28 ls hP hD hS trivial dX12_hats_28
    · have hf := it_neg hc_16 hf
      refine lv_iload_n hx hb dX12_hats_19 rfl (lv_at hl 1 rfl) ?_
      refine lv_aload_n hx hb dX12_hats_20 rfl (lv_at hl 0 rfl) ?_
      refine va_get (D := D) (ci := 11) (v := .int t_taped) (C := RX12) (T := TX12) (N := 43) hx hb hT inX12 hown hK hP 0 rfl rfl 4 (by decide) (hT _ tb_1152) (fun _ h9 => h9) rfl dX12_hats_21 ?_
      refine lv_icmp_le (tgt := 29) hx hb dX12_hats_24 (by decide) (fun hc_24 => ?_) (fun hc_24 => ?_)
      · have hf := it_pos hc_24 hf
        refine lv_aload_n hx hb dX12_hats_29 rfl (lv_at hl 0 rfl) ?_
        refine lv_iconst (v := 0) hx hb dX12_hats_30 (by decide) ?_
        refine va_put (D := D) (ci := 11) (v := .int 0) (ty := (.int)) (C := RX12) (T := TX12) (N := 43) hx hb hT inX12 tyX12 tyX12_ok nmX12 hown hK hP hD hS 0 rfl rfl 4 (by decide) (hT _ tb_1152) (fun _ h9 => h9) rfl (by decide +kernel) rfl rfl (Nat.le_of_ble_eq_true rfl) dX12_hats_31 (fun H locs hP hD hS => ?_)
        have hP : va_P D vwCl (w_X12_hats cI cB cZ a_t a_t_tape a_t_risesTo a_t_now a_t_aside a_t_kept a_t_said a_t_waitsAt a_t_saidLetter a_t_saidFrom a_t_saidHalf a_t_saidTo a_t_codes a_t_clauseOf a_t_codeFrom a_t_codeHalf a_t_codeTo a_t_stack a_t_facts a_t_newLine a_t_canSit a_t_canNext a_t_singersIn a_t_freeAt a_t_beginsAt a_t_leastBy a_t_mostBy a_t_mostNext 0 t_place0 t_length0 t_fault t_number0 t_open t_codeMany t_waiting t_saidMany t_clauses t_newMany t_lines t_stoodNow t_lastSeat t_climbedNow t_isKept t_tape t_risesTo) H := hP
        have hD : va_D A (w_X12_hats cI cB cZ a_t a_t_tape a_t_risesTo a_t_now a_t_aside a_t_kept a_t_said a_t_waitsAt a_t_saidLetter a_t_saidFrom a_t_saidHalf a_t_saidTo a_t_codes a_t_clauseOf a_t_codeFrom a_t_codeHalf a_t_codeTo a_t_stack a_t_facts a_t_newLine a_t_canSit a_t_canNext a_t_singersIn a_t_freeAt a_t_beginsAt a_t_leastBy a_t_mostBy a_t_mostNext 0 t_place0 t_length0 t_fault t_number0 t_open t_codeMany t_waiting t_saidMany t_clauses t_newMany t_lines t_stoodNow t_lastSeat t_climbedNow t_isKept t_tape t_risesTo) := hD
        refine lv_iconst (v := 0) hx hb dX12_hats_34 (by decide) ?_
        refine lv_istore_n (lv' := [(3, .int 0), (0, .ref a_t), (1, .int x1), (2, .int x2)]) hx hb dX12_hats_35 rfl hl (by decide) rfl (fun ls hl => ?_)
        refine lv_iconst (v := (-1)) hx hb dX12_hats_36 (by decide) ?_
        refine lv_istore (lv' := [(4, .int (-1)), (3, .int 0), (0, .ref a_t), (1, .int x1), (2, .int x2)]) hx hb dX12_hats_37 hl (by decide) rfl (fun ls hl => ?_)
        refine lv_iconst (v := 0) hx hb dX12_hats_39 (by decide) ?_
        refine lv_istore (lv' := [(5, .int 0), (4, .int (-1)), (3, .int 0), (0, .ref a_t), (1, .int x1), (2, .int x2)]) hx hb dX12_hats_40 hl (by decide) rfl (fun ls hl => ?_)
        refine lv_iconst (v := 0) hx hb dX12_hats_42 (by decide) ?_
        refine lv_istore (lv' := [(6, .int 0), (5, .int 0), (4, .int (-1)), (3, .int 0), (0, .ref a_t), (1, .int x1), (2, .int x2)]) hx hb dX12_hats_43 hl (by decide) rfl (fun ls hl => ?_)
        refine lv_iconst (v := 0) hx hb dX12_hats_45 (by decide) ?_
        have J_48 : ∀ (n_48 : Nat) (x1 : Int32) (x2 : Int32) (x3 : Int32) (x4 : Int32) (x5 : Int32) (x6 : Int32) (x7 : Int32) (t_taped : Int32) (t_risesTo : (Nat → Int32)) (H : Heap) (locs : List Loc) (ls : Array Slot), f_X12_hats_48 t_tape n_48 x1 x2 x3 x4 x5 x6 x7 t_taped t_risesTo = some res → va_P D vwCl (w_X12_hats cI cB cZ a_t a_t_tape a_t_risesTo a_t_now a_t_aside a_t_kept a_t_said a_t_waitsAt a_t_saidLetter a_t_saidFrom a_t_saidHalf a_t_saidTo a_t_codes a_t_clauseOf a_t_codeFrom a_t_codeHalf a_t_codeTo a_t_stack a_t_facts a_t_newLine a_t_canSit a_t_canNext a_t_singersIn a_t_freeAt a_t_beginsAt a_t_leastBy a_t_mostBy a_t_mostNext t_taped t_place0 t_length0 t_fault t_number0 t_open t_codeMany t_waiting t_saidMany t_clauses t_newMany t_lines t_stoodNow t_lastSeat t_climbedNow t_isKept t_tape t_risesTo) H → va_D A (w_X12_hats cI cB cZ a_t a_t_tape a_t_risesTo a_t_now a_t_aside a_t_kept a_t_said a_t_waitsAt a_t_saidLetter a_t_saidFrom a_t_saidHalf a_t_saidTo a_t_codes a_t_clauseOf a_t_codeFrom a_t_codeHalf a_t_codeTo a_t_stack a_t_facts a_t_newLine a_t_canSit a_t_canNext a_t_singersIn a_t_freeAt a_t_beginsAt a_t_leastBy a_t_mostBy a_t_mostNext t_taped t_place0 t_length0 t_fault t_number0 t_open t_codeMany t_waiting t_saidMany t_clauses t_newMany t_lines t_stoodNow t_lastSeat t_climbedNow t_isKept t_tape t_risesTo) → va_S A s.heap H locs → lv_has ls 9 [(0, .ref a_t), (1, .int x1), (2, .int x2), (3, .int x3), (4, .int x4), (5, .int x5), (6, .int x6), (7, .int x7)] → W p l e R s m args below meth c H locs 0 0 Q (F0 m 48 ls []) := by
          intro n_48
          induction n_48 with
          | zero =>
            intro x1 x2 x3 x4 x5 x6 x7 t_taped t_risesTo H locs ls hf hP hD hS hl
            cases hf
          | succ n_48 ih_48 =>
            intro x1 x2 x3 x4 x5 x6 x7 t_taped t_risesTo H locs ls hf hP hD hS hl
            unfold f_X12_hats_48 at hf
            refine lv_iload hx hb dX12_hats_48 (lv_at hl 7 rfl) ?_
            refine lv_iload_n hx hb dX12_hats_50 rfl (lv_at hl 1 rfl) ?_
            refine lv_icmp_ge (tgt := 188) hx hb dX12_hats_51 (by decide) (fun hc_51 => ?_) (fun hc_51 => ?_)
            · have hf := it_pos hc_51 hf
              refine lv_iload_n hx hb dX12_hats_188 rfl (lv_at hl 2 rfl) ?_
              refine lv_if_ne (tgt := 196) hx hb dX12_hats_189 (by decide) (fun hc_189 => ?_) (fun hc_189 => ?_)
              · have hf := it_neg hc_189 hf
                refine lv_iload_n hx hb dX12_hats_196 rfl (lv_at hl 2 rfl) ?_
                refine lv_iconst (v := 1) hx hb dX12_hats_197 (by decide) ?_
                refine lv_icmp_ne (tgt := 206) hx hb dX12_hats_198 (by decide) (fun hc_198 => ?_) (fun hc_198 => ?_)
                · have hf := it_neg hc_198 hf
                  refine lv_iload_n hx hb dX12_hats_206 rfl (lv_at hl 1 rfl) ?_
                  refine lv_iload hx hb dX12_hats_207 (lv_at hl 6 rfl) ?_
                  refine lv_isub hx hb dX12_hats_209 ?_
                  obtain rfl := Option.some.inj hf
                  exact hQ H locs 210 ls hP hD hS trivial dX12_hats_210
                · have hf := it_pos hc_198 hf
                  refine lv_iload hx hb dX12_hats_201 (lv_at hl 5 rfl) ?_
                  refine lv_goto (tgt := 210) hx hb dX12_hats_203 (by decide) ?_
                  obtain rfl := Option.some.inj hf
                  exact hQ H locs 210 ls hP hD hS trivial dX12_hats_210
              · have hf := it_pos hc_189 hf
                refine lv_iload_n hx hb dX12_hats_192 rfl (lv_at hl 3 rfl) ?_
                refine lv_goto (tgt := 210) hx hb dX12_hats_193 (by decide) ?_
                obtain rfl := Option.some.inj hf
                exact hQ H locs 210 ls hP hD hS trivial dX12_hats_210
            · have hf := it_neg hc_51 hf
              refine lv_aload_n hx hb dX12_hats_54 rfl (lv_at hl 0 rfl) ?_
              refine va_get (D := D) (ci := 11) (v := .ref a_t_risesTo) (C := RX12) (T := TX12) (N := 43) hx hb hT inX12 hown hK hP 0 rfl rfl 41 (by decide) (hT _ tb_1189) (fun _ h9 => h9) rfl dX12_hats_55 ?_
              refine lv_iload hx hb dX12_hats_58 (lv_at hl 7 rfl) ?_
              refine lv_iconst (v := 1) hx hb dX12_hats_60 (by decide) ?_
              obtain ⟨hi_61, hf⟩ := ix_some hf
              refine va_iast hx hb hK hP hD hS 2 0 rfl rfl hi_61 dX12_hats_61 (fun H locs hP hD hS => ?_)
              have hP : va_P D vwCl (w_X12_hats cI cB cZ a_t a_t_tape a_t_risesTo a_t_now a_t_aside a_t_kept a_t_said a_t_waitsAt a_t_saidLetter a_t_saidFrom a_t_saidHalf a_t_saidTo a_t_codes a_t_clauseOf a_t_codeFrom a_t_codeHalf a_t_codeTo a_t_stack a_t_facts a_t_newLine a_t_canSit a_t_canNext a_t_singersIn a_t_freeAt a_t_beginsAt a_t_leastBy a_t_mostBy a_t_mostNext t_taped t_place0 t_length0 t_fault t_number0 t_open t_codeMany t_waiting t_saidMany t_clauses t_newMany t_lines t_stoodNow t_lastSeat t_climbedNow t_isKept t_tape (upd t_risesTo x7.toNatClampNeg 1)) H := hP
              have hD : va_D A (w_X12_hats cI cB cZ a_t a_t_tape a_t_risesTo a_t_now a_t_aside a_t_kept a_t_said a_t_waitsAt a_t_saidLetter a_t_saidFrom a_t_saidHalf a_t_saidTo a_t_codes a_t_clauseOf a_t_codeFrom a_t_codeHalf a_t_codeTo a_t_stack a_t_facts a_t_newLine a_t_canSit a_t_canNext a_t_singersIn a_t_freeAt a_t_beginsAt a_t_leastBy a_t_mostBy a_t_mostNext t_taped t_place0 t_length0 t_fault t_number0 t_open t_codeMany t_waiting t_saidMany t_clauses t_newMany t_lines t_stoodNow t_lastSeat t_climbedNow t_isKept t_tape (upd t_risesTo x7.toNatClampNeg 1)) := hD
              refine lv_iconst (v := 0) hx hb dX12_hats_62 (by decide) ?_
              have J_65 : ∀ (n_65 : Nat) (x1 : Int32) (x2 : Int32) (x3 : Int32) (x4 : Int32) (x5 : Int32) (x6 : Int32) (x7 : Int32) (x8 : Int32) (t_taped : Int32) (t_risesTo : (Nat → Int32)) (H : Heap) (locs : List Loc) (ls : Array Slot), f_X12_hats_65 t_tape (f_X12_hats_48 t_tape n_48) n_65 x1 x2 x3 x4 x5 x6 x7 x8 t_taped t_risesTo = some res → va_P D vwCl (w_X12_hats cI cB cZ a_t a_t_tape a_t_risesTo a_t_now a_t_aside a_t_kept a_t_said a_t_waitsAt a_t_saidLetter a_t_saidFrom a_t_saidHalf a_t_saidTo a_t_codes a_t_clauseOf a_t_codeFrom a_t_codeHalf a_t_codeTo a_t_stack a_t_facts a_t_newLine a_t_canSit a_t_canNext a_t_singersIn a_t_freeAt a_t_beginsAt a_t_leastBy a_t_mostBy a_t_mostNext t_taped t_place0 t_length0 t_fault t_number0 t_open t_codeMany t_waiting t_saidMany t_clauses t_newMany t_lines t_stoodNow t_lastSeat t_climbedNow t_isKept t_tape t_risesTo) H → va_D A (w_X12_hats cI cB cZ a_t a_t_tape a_t_risesTo a_t_now a_t_aside a_t_kept a_t_said a_t_waitsAt a_t_saidLetter a_t_saidFrom a_t_saidHalf a_t_saidTo a_t_codes a_t_clauseOf a_t_codeFrom a_t_codeHalf a_t_codeTo a_t_stack a_t_facts a_t_newLine a_t_canSit a_t_canNext a_t_singersIn a_t_freeAt a_t_beginsAt a_t_leastBy a_t_mostBy a_t_mostNext t_taped t_place0 t_length0 t_fault t_number0 t_open t_codeMany t_waiting t_saidMany t_clauses t_newMany t_lines t_stoodNow t_lastSeat t_climbedNow t_isKept t_tape t_risesTo) → va_S A s.heap H locs → lv_has ls 9 [(0, .ref a_t), (1, .int x1), (2, .int x2), (3, .int x3), (4, .int x4), (5, .int x5), (6, .int x6), (7, .int x7), (8, .int x8)] → W p l e R s m args below meth c H locs 0 0 Q (F0 m 65 ls []) := by
                intro n_65
                induction n_65 with
                | zero =>
                  intro x1 x2 x3 x4 x5 x6 x7 x8 t_taped t_risesTo H locs ls hf hP hD hS hl
                  cases hf
                | succ n_65 ih_65 =>
                  intro x1 x2 x3 x4 x5 x6 x7 x8 t_taped t_risesTo H locs ls hf hP hD hS hl
                  unfold f_X12_hats_65 at hf
                  refine lv_iload hx hb dX12_hats_65 (lv_at hl 8 rfl) ?_
                  refine lv_iload hx hb dX12_hats_67 (lv_at hl 7 rfl) ?_
                  refine lv_icmp_ge (tgt := 140) hx hb dX12_hats_69 (by decide) (fun hc_69 => ?_) (fun hc_69 => ?_)
                  · have hf := it_pos hc_69 hf
                    refine lv_iload hx hb dX12_hats_140 (lv_at hl 6 rfl) ?_
                    refine lv_aload_n hx hb dX12_hats_142 rfl (lv_at hl 0 rfl) ?_
                    refine va_get (D := D) (ci := 11) (v := .ref a_t_risesTo) (C := RX12) (T := TX12) (N := 43) hx hb hT inX12 hown hK hP 0 rfl rfl 41 (by decide) (hT _ tb_1189) (fun _ h9 => h9) rfl dX12_hats_143 ?_
                    refine lv_iload hx hb dX12_hats_146 (lv_at hl 7 rfl) ?_
                    obtain ⟨hi_148, hf⟩ := ix_some hf
                    refine va_iald hx hb hK hP 2 0 rfl rfl hi_148 dX12_hats_148 ?_
                    obtain ⟨z149, e149, hf⟩ := bd_some hf
                    refine rS_RO (As := [.int x6, .int (t_risesTo x7.toNatClampNeg)]) (rest := []) ⟨hx, hb, hml, hown, hT⟩ (gdS tb_1534 tb_1535 tb_97 tb_1536) hd_X12_max (c_X12_max l D cI cB cZ x6 (t_risesTo x7.toNatClampNeg) z149 e149) ⟨rfl, rfl⟩ ⟨Nat.le_trans (by decide) hRf, Nat.le_trans (by decide) hRl⟩ ⟨hK, hN⟩ hP [] rfl rfl hl.1 rfl (Nat.le_of_ble_eq_true rfl) ⟨Nat.zero_le _, Nat.zero_le _⟩ dX12_hats_149 (fun _ => ?_)
                    refine lv_istore (lv' := [(6, .int z149), (0, .ref a_t), (1, .int x1), (2, .int x2), (3, .int x3), (4, .int x4), (5, .int x5), (7, .int x7), (8, .int x8)]) hx hb dX12_hats_152 hl (by decide) rfl (fun ls hl => ?_)
                    refine lv_aload_n hx hb dX12_hats_154 rfl (lv_at hl 1 rfl) ?_
                    refine lv_iload hx hb dX12_hats_155 (lv_at hl 7 rfl) ?_
                    obtain ⟨z157, e157, hf⟩ := bd_some hf
                    refine rV_RO (As := [.int x7]) (rest := []) ⟨hx, hb, hml, hown, hT⟩ (gdV tb_1566 tb_1568 tb_80 tb_97 tb_1569) hd_X12_octet (c_X12_octet l D cI cB cZ a_t a_t_tape a_t_now a_t_aside a_t_kept a_t_said a_t_waitsAt a_t_saidLetter a_t_saidFrom a_t_saidHalf a_t_saidTo a_t_codes a_t_clauseOf a_t_codeFrom a_t_codeHalf a_t_codeTo a_t_stack a_t_facts a_t_newLine a_t_canSit a_t_canNext a_t_singersIn a_t_freeAt a_t_beginsAt a_t_leastBy a_t_mostBy a_t_mostNext a_t_risesTo t_taped t_place0 t_length0 t_fault t_number0 t_open t_codeMany t_waiting t_saidMany t_clauses t_newMany t_lines t_stoodNow t_lastSeat t_climbedNow t_isKept t_tape x7 z157 e157) ⟨rfl, rfl⟩ ⟨Nat.le_trans (by decide) hRf, Nat.le_trans (by decide) hRl⟩ ⟨hK, hN⟩ hP [0, 1] rfl 0 rfl rfl rfl hl.1 rfl (Nat.le_of_ble_eq_true rfl) ⟨Nat.zero_le _, Nat.zero_le _⟩ dX12_hats_157 (fun _ => ?_)
                    refine lv_iload hx hb dX12_hats_160 (lv_at hl 5 rfl) ?_
                    have J_169 : ∀ (x1 : Int32) (x2 : Int32) (x3 : Int32) (x4 : Int32) (x5 : Int32) (x6 : Int32) (x7 : Int32) (t_taped : Int32) (t_risesTo : (Nat → Int32)) (H : Heap) (locs : List Loc) (ls : Array Slot), f_X12_hats_169 t_tape (f_X12_hats_48 t_tape n_48) x1 x2 x3 x4 x5 x6 x7 t_taped t_risesTo = some res → va_P D vwCl (w_X12_hats cI cB cZ a_t a_t_tape a_t_risesTo a_t_now a_t_aside a_t_kept a_t_said a_t_waitsAt a_t_saidLetter a_t_saidFrom a_t_saidHalf a_t_saidTo a_t_codes a_t_clauseOf a_t_codeFrom a_t_codeHalf a_t_codeTo a_t_stack a_t_facts a_t_newLine a_t_canSit a_t_canNext a_t_singersIn a_t_freeAt a_t_beginsAt a_t_leastBy a_t_mostBy a_t_mostNext t_taped t_place0 t_length0 t_fault t_number0 t_open t_codeMany t_waiting t_saidMany t_clauses t_newMany t_lines t_stoodNow t_lastSeat t_climbedNow t_isKept t_tape t_risesTo) H → va_D A (w_X12_hats cI cB cZ a_t a_t_tape a_t_risesTo a_t_now a_t_aside a_t_kept a_t_said a_t_waitsAt a_t_saidLetter a_t_saidFrom a_t_saidHalf a_t_saidTo a_t_codes a_t_clauseOf a_t_codeFrom a_t_codeHalf a_t_codeTo a_t_stack a_t_facts a_t_newLine a_t_canSit a_t_canNext a_t_singersIn a_t_freeAt a_t_beginsAt a_t_leastBy a_t_mostBy a_t_mostNext t_taped t_place0 t_length0 t_fault t_number0 t_open t_codeMany t_waiting t_saidMany t_clauses t_newMany t_lines t_stoodNow t_lastSeat t_climbedNow t_isKept t_tape t_risesTo) → va_S A s.heap H locs → lv_has ls 9 [(0, .ref a_t), (1, .int x1), (2, .int x2), (3, .int x3), (4, .int x4), (5, .int x5), (6, .int x6), (7, .int x7)] → W p l e R s m args below meth c H locs 0 0 Q (F0 m 169 ls []) := by
                      intro x1 x2 x3 x4 x5 x6 x7 t_taped t_risesTo H locs ls hf hP hD hS hl
                      unfold f_X12_hats_169 at hf
                      refine lv_iload hx hb dX12_hats_169 (lv_at hl 4 rfl) ?_
                      refine lv_aload_n hx hb dX12_hats_171 rfl (lv_at hl 0 rfl) ?_
                      refine lv_iload hx hb dX12_hats_172 (lv_at hl 7 rfl) ?_
                      obtain ⟨z174, e174, hf⟩ := bd_some hf
                      refine rV_RO (As := [.int x7]) (rest := [.int x4]) ⟨hx, hb, hml, hown, hT⟩ (gdV tb_1566 tb_1568 tb_80 tb_97 tb_1569) hd_X12_octet (c_X12_octet l D cI cB cZ a_t a_t_tape a_t_now a_t_aside a_t_kept a_t_said a_t_waitsAt a_t_saidLetter a_t_saidFrom a_t_saidHalf a_t_saidTo a_t_codes a_t_clauseOf a_t_codeFrom a_t_codeHalf a_t_codeTo a_t_stack a_t_facts a_t_newLine a_t_canSit a_t_canNext a_t_singersIn a_t_freeAt a_t_beginsAt a_t_leastBy a_t_mostBy a_t_mostNext a_t_risesTo t_taped t_place0 t_length0 t_fault t_number0 t_open t_codeMany t_waiting t_saidMany t_clauses t_newMany t_lines t_stoodNow t_lastSeat t_climbedNow t_isKept t_tape x7 z174 e174) ⟨rfl, rfl⟩ ⟨Nat.le_trans (by decide) hRf, Nat.le_trans (by decide) hRl⟩ ⟨hK, hN⟩ hP [0, 1] rfl 0 rfl rfl rfl hl.1 rfl (Nat.le_of_ble_eq_true rfl) ⟨Nat.zero_le _, Nat.zero_le _⟩ dX12_hats_174 (fun _ => ?_)
                      obtain ⟨z177, e177, hf⟩ := bd_some hf
                      refine rS_RO (As := [.int x4, .int z174]) (rest := []) ⟨hx, hb, hml, hown, hT⟩ (gdS tb_1534 tb_1535 tb_97 tb_1536) hd_X12_max (c_X12_max l D cI cB cZ x4 z174 z177 e177) ⟨rfl, rfl⟩ ⟨Nat.le_trans (by decide) hRf, Nat.le_trans (by decide) hRl⟩ ⟨hK, hN⟩ hP [] rfl rfl hl.1 rfl (Nat.le_of_ble_eq_true rfl) ⟨Nat.zero_le _, Nat.zero_le _⟩ dX12_hats_177 (fun _ => ?_)
                      refine lv_istore (lv' := [(4, .int z177), (0, .ref a_t), (1, .int x1), (2, .int x2), (3, .int x3), (5, .int x5), (6, .int x6), (7, .int x7)]) hx hb dX12_hats_180 hl (by decide) rfl (fun ls hl => ?_)
                      refine lv_iinc (v := x7 + 1) (lv' := [(7, .int (x7 + 1)), (4, .int z177), (0, .ref a_t), (1, .int x1), (2, .int x2), (3, .int x3), (5, .int x5), (6, .int x6)]) hx hb dX12_hats_182 hl (k := 7) rfl (congrArg (_ + ·) (by decide : Int32.ofInt 1 = 1)) (by decide) rfl (fun ls hl => ?_)
                      refine lv_goto (tgt := 48) hx hb dX12_hats_185 (by decide) ?_
                      exact ih_48 _ _ _ _ _ _ _ _ _ _ _ _ hf hP hD hS (lv_sub hl [2, 3, 4, 5, 1, 6, 7, 0] rfl)
                    refine lv_icmp_le (tgt := 169) hx hb dX12_hats_162 (by decide) (fun hc_162 => ?_) (fun hc_162 => ?_)
                    · have hf := it_pos hc_162 hf
                      exact J_169 _ _ _ _ _ _ _ _ _ _ _ _ hf hP hD hS (lv_sub hl [1, 2, 3, 4, 5, 6, 0, 7] rfl)
                    · have hf := it_neg hc_162 hf
                      refine lv_iload_n hx hb dX12_hats_165 rfl (lv_at hl 4 rfl) ?_
                      refine lv_iconst (v := 1) hx hb dX12_hats_166 (by decide) ?_
                      refine lv_iadd hx hb dX12_hats_167 ?_
                      refine lv_istore_n (lv' := [(3, .int (x3 + 1)), (6, .int z149), (0, .ref a_t), (1, .int x1), (2, .int x2), (4, .int x4), (5, .int x5), (7, .int x7), (8, .int x8)]) hx hb dX12_hats_168 rfl hl (by decide) rfl (fun ls hl => ?_)
                      exact J_169 _ _ _ _ _ _ _ _ _ _ _ _ hf hP hD hS (lv_sub hl [2, 3, 4, 0, 5, 6, 1, 7] rfl)
                  · have hf := it_neg hc_69 hf
                    refine lv_aload_n hx hb dX12_hats_72 rfl (lv_at hl 0 rfl) ?_
                    refine lv_iload hx hb dX12_hats_73 (lv_at hl 8 rfl) ?_
                    obtain ⟨z75, e75, hf⟩ := bd_some hf
                    refine rV_RO (As := [.int x8]) (rest := []) ⟨hx, hb, hml, hown, hT⟩ (gdV tb_1566 tb_1568 tb_80 tb_97 tb_1569) hd_X12_octet (c_X12_octet l D cI cB cZ a_t a_t_tape a_t_now a_t_aside a_t_kept a_t_said a_t_waitsAt a_t_saidLetter a_t_saidFrom a_t_saidHalf a_t_saidTo a_t_codes a_t_clauseOf a_t_codeFrom a_t_codeHalf a_t_codeTo a_t_stack a_t_facts a_t_newLine a_t_canSit a_t_canNext a_t_singersIn a_t_freeAt a_t_beginsAt a_t_leastBy a_t_mostBy a_t_mostNext a_t_risesTo t_taped t_place0 t_length0 t_fault t_number0 t_open t_codeMany t_waiting t_saidMany t_clauses t_newMany t_lines t_stoodNow t_lastSeat t_climbedNow t_isKept t_tape x8 z75 e75) ⟨rfl, rfl⟩ ⟨Nat.le_trans (by decide) hRf, Nat.le_trans (by decide) hRl⟩ ⟨hK, hN⟩ hP [0, 1] rfl 0 rfl rfl rfl hl.1 rfl (Nat.le_of_ble_eq_true rfl) ⟨Nat.zero_le _, Nat.zero_le _⟩ dX12_hats_75 (fun _ => ?_)
                    refine lv_aload_n hx hb dX12_hats_78 rfl (lv_at hl 0 rfl) ?_
                    refine lv_iload hx hb dX12_hats_79 (lv_at hl 7 rfl) ?_
                    obtain ⟨z81, e81, hf⟩ := bd_some hf
                    refine rV_RO (As := [.int x7]) (rest := [.int z75]) ⟨hx, hb, hml, hown, hT⟩ (gdV tb_1566 tb_1568 tb_80 tb_97 tb_1569) hd_X12_octet (c_X12_octet l D cI cB cZ a_t a_t_tape a_t_now a_t_aside a_t_kept a_t_said a_t_waitsAt a_t_saidLetter a_t_saidFrom a_t_saidHalf a_t_saidTo a_t_codes a_t_clauseOf a_t_codeFrom a_t_codeHalf a_t_codeTo a_t_stack a_t_facts a_t_newLine a_t_canSit a_t_canNext a_t_singersIn a_t_freeAt a_t_beginsAt a_t_leastBy a_t_mostBy a_t_mostNext a_t_risesTo t_taped t_place0 t_length0 t_fault t_number0 t_open t_codeMany t_waiting t_saidMany t_clauses t_newMany t_lines t_stoodNow t_lastSeat t_climbedNow t_isKept t_tape x7 z81 e81) ⟨rfl, rfl⟩ ⟨Nat.le_trans (by decide) hRf, Nat.le_trans (by decide) hRl⟩ ⟨hK, hN⟩ hP [0, 1] rfl 0 rfl rfl rfl hl.1 rfl (Nat.le_of_ble_eq_true rfl) ⟨Nat.zero_le _, Nat.zero_le _⟩ dX12_hats_81 (fun _ => ?_)
                    have J_93 : ∀ (x1 : Int32) (x2 : Int32) (x3 : Int32) (x4 : Int32) (x5 : Int32) (x6 : Int32) (x7 : Int32) (x8 : Int32) (t_taped : Int32) (t_risesTo : (Nat → Int32)) (H : Heap) (locs : List Loc) (ls : Array Slot), f_X12_hats_93 t_tape (f_X12_hats_48 t_tape n_48) (f_X12_hats_65 t_tape (f_X12_hats_48 t_tape n_48) n_65) x1 x2 x3 x4 x5 x6 x7 x8 t_taped t_risesTo = some res → va_P D vwCl (w_X12_hats cI cB cZ a_t a_t_tape a_t_risesTo a_t_now a_t_aside a_t_kept a_t_said a_t_waitsAt a_t_saidLetter a_t_saidFrom a_t_saidHalf a_t_saidTo a_t_codes a_t_clauseOf a_t_codeFrom a_t_codeHalf a_t_codeTo a_t_stack a_t_facts a_t_newLine a_t_canSit a_t_canNext a_t_singersIn a_t_freeAt a_t_beginsAt a_t_leastBy a_t_mostBy a_t_mostNext t_taped t_place0 t_length0 t_fault t_number0 t_open t_codeMany t_waiting t_saidMany t_clauses t_newMany t_lines t_stoodNow t_lastSeat t_climbedNow t_isKept t_tape t_risesTo) H → va_D A (w_X12_hats cI cB cZ a_t a_t_tape a_t_risesTo a_t_now a_t_aside a_t_kept a_t_said a_t_waitsAt a_t_saidLetter a_t_saidFrom a_t_saidHalf a_t_saidTo a_t_codes a_t_clauseOf a_t_codeFrom a_t_codeHalf a_t_codeTo a_t_stack a_t_facts a_t_newLine a_t_canSit a_t_canNext a_t_singersIn a_t_freeAt a_t_beginsAt a_t_leastBy a_t_mostBy a_t_mostNext t_taped t_place0 t_length0 t_fault t_number0 t_open t_codeMany t_waiting t_saidMany t_clauses t_newMany t_lines t_stoodNow t_lastSeat t_climbedNow t_isKept t_tape t_risesTo) → va_S A s.heap H locs → lv_has ls 9 [(0, .ref a_t), (1, .int x1), (2, .int x2), (3, .int x3), (4, .int x4), (5, .int x5), (6, .int x6), (7, .int x7), (8, .int x8)] → W p l e R s m args below meth c H locs 0 0 Q (F0 m 93 ls []) := by
                      intro x1 x2 x3 x4 x5 x6 x7 x8 t_taped t_risesTo H locs ls hf hP hD hS hl
                      unfold f_X12_hats_93 at hf
                      refine lv_aload_n hx hb dX12_hats_93 rfl (lv_at hl 0 rfl) ?_
                      refine lv_iload hx hb dX12_hats_94 (lv_at hl 8 rfl) ?_
                      obtain ⟨z96, e96, hf⟩ := bd_some hf
                      refine rV_RO (As := [.int x8]) (rest := []) ⟨hx, hb, hml, hown, hT⟩ (gdV tb_1566 tb_1568 tb_80 tb_97 tb_1569) hd_X12_octet (c_X12_octet l D cI cB cZ a_t a_t_tape a_t_now a_t_aside a_t_kept a_t_said a_t_waitsAt a_t_saidLetter a_t_saidFrom a_t_saidHalf a_t_saidTo a_t_codes a_t_clauseOf a_t_codeFrom a_t_codeHalf a_t_codeTo a_t_stack a_t_facts a_t_newLine a_t_canSit a_t_canNext a_t_singersIn a_t_freeAt a_t_beginsAt a_t_leastBy a_t_mostBy a_t_mostNext a_t_risesTo t_taped t_place0 t_length0 t_fault t_number0 t_open t_codeMany t_waiting t_saidMany t_clauses t_newMany t_lines t_stoodNow t_lastSeat t_climbedNow t_isKept t_tape x8 z96 e96) ⟨rfl, rfl⟩ ⟨Nat.le_trans (by decide) hRf, Nat.le_trans (by decide) hRl⟩ ⟨hK, hN⟩ hP [0, 1] rfl 0 rfl rfl rfl hl.1 rfl (Nat.le_of_ble_eq_true rfl) ⟨Nat.zero_le _, Nat.zero_le _⟩ dX12_hats_96 (fun _ => ?_)
                      refine lv_aload_n hx hb dX12_hats_99 rfl (lv_at hl 0 rfl) ?_
                      refine lv_iload hx hb dX12_hats_100 (lv_at hl 7 rfl) ?_
                      obtain ⟨z102, e102, hf⟩ := bd_some hf
                      refine rV_RO (As := [.int x7]) (rest := [.int z96]) ⟨hx, hb, hml, hown, hT⟩ (gdV tb_1566 tb_1568 tb_80 tb_97 tb_1569) hd_X12_octet (c_X12_octet l D cI cB cZ a_t a_t_tape a_t_now a_t_aside a_t_kept a_t_said a_t_waitsAt a_t_saidLetter a_t_saidFrom a_t_saidHalf a_t_saidTo a_t_codes a_t_clauseOf a_t_codeFrom a_t_codeHalf a_t_codeTo a_t_stack a_t_facts a_t_newLine a_t_canSit a_t_canNext a_t_singersIn a_t_freeAt a_t_beginsAt a_t_leastBy a_t_mostBy a_t_mostNext a_t_risesTo t_taped t_place0 t_length0 t_fault t_number0 t_open t_codeMany t_waiting t_saidMany t_clauses t_newMany t_lines t_stoodNow t_lastSeat t_climbedNow t_isKept t_tape x7 z102 e102) ⟨rfl, rfl⟩ ⟨Nat.le_trans (by decide) hRf, Nat.le_trans (by decide) hRl⟩ ⟨hK, hN⟩ hP [0, 1] rfl 0 rfl rfl rfl hl.1 rfl (Nat.le_of_ble_eq_true rfl) ⟨Nat.zero_le _, Nat.zero_le _⟩ dX12_hats_102 (fun _ => ?_)
                      refine lv_icmp_ge (tgt := 134) hx hb dX12_hats_105 (by decide) (fun hc_105 => ?_) (fun hc_105 => ?_)
                      · have hf := it_pos hc_105 hf
                        refine lv_iinc (v := x8 + 1) (lv' := [(8, .int (x8 + 1)), (0, .ref a_t), (1, .int x1), (2, .int x2), (3, .int x3), (4, .int x4), (5, .int x5), (6, .int x6), (7, .int x7)]) hx hb dX12_hats_134 hl (k := 8) rfl (congrArg (_ + ·) (by decide : Int32.ofInt 1 = 1)) (by decide) rfl (fun ls hl => ?_)
                        refine lv_goto (tgt := 65) hx hb dX12_hats_137 (by decide) ?_
                        exact ih_65 _ _ _ _ _ _ _ _ _ _ _ _ _ hf hP hD hS (lv_sub hl [1, 2, 3, 4, 5, 6, 7, 8, 0] rfl)
                      · have hf := it_neg hc_105 hf
                        refine lv_aload_n hx hb dX12_hats_108 rfl (lv_at hl 0 rfl) ?_
                        refine va_get (D := D) (ci := 11) (v := .ref a_t_risesTo) (C := RX12) (T := TX12) (N := 43) hx hb hT inX12 hown hK hP 0 rfl rfl 41 (by decide) (hT _ tb_1189) (fun _ h9 => h9) rfl dX12_hats_109 ?_
                        refine lv_iload hx hb dX12_hats_112 (lv_at hl 7 rfl) ?_
                        refine lv_aload_n hx hb dX12_hats_114 rfl (lv_at hl 0 rfl) ?_
                        refine va_get (D := D) (ci := 11) (v := .ref a_t_risesTo) (C := RX12) (T := TX12) (N := 43) hx hb hT inX12 hown hK hP 0 rfl rfl 41 (by decide) (hT _ tb_1189) (fun _ h9 => h9) rfl dX12_hats_115 ?_
                        refine lv_iload hx hb dX12_hats_118 (lv_at hl 7 rfl) ?_
                        obtain ⟨hi_120, hf⟩ := ix_some hf
                        refine va_iald hx hb hK hP 2 0 rfl rfl hi_120 dX12_hats_120 ?_
                        refine lv_aload_n hx hb dX12_hats_121 rfl (lv_at hl 0 rfl) ?_
                        refine va_get (D := D) (ci := 11) (v := .ref a_t_risesTo) (C := RX12) (T := TX12) (N := 43) hx hb hT inX12 hown hK hP 0 rfl rfl 41 (by decide) (hT _ tb_1189) (fun _ h9 => h9) rfl dX12_hats_122 ?_
                        refine lv_iload hx hb dX12_hats_125 (lv_at hl 8 rfl) ?_
                        obtain ⟨hi_127, hf⟩ := ix_some hf
                        refine va_iald hx hb hK hP 2 0 rfl rfl hi_127 dX12_hats_127 ?_
                        refine lv_iconst (v := 1) hx hb dX12_hats_128 (by decide) ?_
                        refine lv_iadd hx hb dX12_hats_129 ?_
                        obtain ⟨z130, e130, hf⟩ := bd_some hf
                        refine rS_RO (As := [.int (t_risesTo x7.toNatClampNeg), .int ((t_risesTo x8.toNatClampNeg) + 1)]) (rest := [.int x7, .ref a_t_risesTo]) ⟨hx, hb, hml, hown, hT⟩ (gdS tb_1534 tb_1535 tb_97 tb_1536) hd_X12_max (c_X12_max l D cI cB cZ (t_risesTo x7.toNatClampNeg) ((t_risesTo x8.toNatClampNeg) + 1) z130 e130) ⟨rfl, rfl⟩ ⟨Nat.le_trans (by decide) hRf, Nat.le_trans (by decide) hRl⟩ ⟨hK, hN⟩ hP [] rfl rfl hl.1 rfl (Nat.le_of_ble_eq_true rfl) ⟨Nat.zero_le _, Nat.zero_le _⟩ dX12_hats_130 (fun _ => ?_)
                        obtain ⟨hi_133, hf⟩ := ix_some hf
                        refine va_iast hx hb hK hP hD hS 2 0 rfl rfl hi_133 dX12_hats_133 (fun H locs hP hD hS => ?_)
                        have hP : va_P D vwCl (w_X12_hats cI cB cZ a_t a_t_tape a_t_risesTo a_t_now a_t_aside a_t_kept a_t_said a_t_waitsAt a_t_saidLetter a_t_saidFrom a_t_saidHalf a_t_saidTo a_t_codes a_t_clauseOf a_t_codeFrom a_t_codeHalf a_t_codeTo a_t_stack a_t_facts a_t_newLine a_t_canSit a_t_canNext a_t_singersIn a_t_freeAt a_t_beginsAt a_t_leastBy a_t_mostBy a_t_mostNext t_taped t_place0 t_length0 t_fault t_number0 t_open t_codeMany t_waiting t_saidMany t_clauses t_newMany t_lines t_stoodNow t_lastSeat t_climbedNow t_isKept t_tape (upd t_risesTo x7.toNatClampNeg z130)) H := hP
                        have hD : va_D A (w_X12_hats cI cB cZ a_t a_t_tape a_t_risesTo a_t_now a_t_aside a_t_kept a_t_said a_t_waitsAt a_t_saidLetter a_t_saidFrom a_t_saidHalf a_t_saidTo a_t_codes a_t_clauseOf a_t_codeFrom a_t_codeHalf a_t_codeTo a_t_stack a_t_facts a_t_newLine a_t_canSit a_t_canNext a_t_singersIn a_t_freeAt a_t_beginsAt a_t_leastBy a_t_mostBy a_t_mostNext t_taped t_place0 t_length0 t_fault t_number0 t_open t_codeMany t_waiting t_saidMany t_clauses t_newMany t_lines t_stoodNow t_lastSeat t_climbedNow t_isKept t_tape (upd t_risesTo x7.toNatClampNeg z130)) := hD
                        refine lv_iinc (v := x8 + 1) (lv' := [(8, .int (x8 + 1)), (0, .ref a_t), (1, .int x1), (2, .int x2), (3, .int x3), (4, .int x4), (5, .int x5), (6, .int x6), (7, .int x7)]) hx hb dX12_hats_134 hl (k := 8) rfl (congrArg (_ + ·) (by decide : Int32.ofInt 1 = 1)) (by decide) rfl (fun ls hl => ?_)
                        refine lv_goto (tgt := 65) hx hb dX12_hats_137 (by decide) ?_
                        exact ih_65 _ _ _ _ _ _ _ _ _ _ _ _ _ hf hP hD hS (lv_sub hl [1, 2, 3, 4, 5, 6, 7, 8, 0] rfl)
                    refine lv_icmp_le (tgt := 93) hx hb dX12_hats_84 (by decide) (fun hc_84 => ?_) (fun hc_84 => ?_)
                    · have hf := it_pos hc_84 hf
                      exact J_93 _ _ _ _ _ _ _ _ _ _ _ _ _ hf hP hD hS (lv_sub hl [0, 1, 2, 3, 4, 5, 6, 7, 8] rfl)
                    · have hf := it_neg hc_84 hf
                      refine lv_iload hx hb dX12_hats_87 (lv_at hl 5 rfl) ?_
                      refine lv_iconst (v := 1) hx hb dX12_hats_89 (by decide) ?_
                      refine lv_iadd hx hb dX12_hats_90 ?_
                      refine lv_istore (lv' := [(5, .int (x5 + 1)), (0, .ref a_t), (1, .int x1), (2, .int x2), (3, .int x3), (4, .int x4), (6, .int x6), (7, .int x7), (8, .int x8)]) hx hb dX12_hats_91 hl (by decide) rfl (fun ls hl => ?_)
                      exact J_93 _ _ _ _ _ _ _ _ _ _ _ _ _ hf hP hD hS (lv_sub hl [1, 2, 3, 4, 5, 0, 6, 7, 8] rfl)
              refine lv_istore (lv' := [(8, .int 0), (0, .ref a_t), (1, .int x1), (2, .int x2), (3, .int x3), (4, .int x4), (5, .int x5), (6, .int x6), (7, .int x7)]) hx hb dX12_hats_63 hl (by decide) rfl (fun ls hl => ?_)
              exact J_65 _ _ _ _ _ _ _ _ _ _ _ _ _ _ hf hP hD hS (lv_sub hl [1, 2, 3, 4, 5, 6, 7, 8, 0] rfl)
        refine lv_istore (lv' := [(7, .int 0), (6, .int 0), (5, .int 0), (4, .int (-1)), (3, .int 0), (0, .ref a_t), (1, .int x1), (2, .int x2)]) hx hb dX12_hats_46 hl (by decide) rfl (fun ls hl => ?_)
        exact J_48 _ _ _ _ _ _ _ _ _ _ _ _ _ hf hP hD hS (lv_sub hl [5, 6, 7, 4, 3, 2, 1, 0] rfl)
      · have hf := it_neg hc_24 hf
        refine lv_iconst (v := (-1)) hx hb dX12_hats_27 (by decide) ?_
        obtain rfl := Option.some.inj hf
        exact hQ H locs 28 ls hP hD hS trivial dX12_hats_28
theorem hd_X12_hats : (yX12_hats).cls = RX12 ∧ (yX12_hats).cls ≠ "java/lang/invoke/MethodHandle" ∧ (yX12_hats).cls ≠ "java/lang/invoke/VarHandle" ∧ (parseMethodDescriptor (yX12_hats).desc).map (fun d => d.parameters.length) = some 2 := by decide +kernel
theorem c_X12_hats (l : Launch) (D : va_G) (cI cB cZ : ClassId) (a_t : Nat) (a_t_tape : Nat) (a_t_risesTo : Nat) (a_t_now : Nat) (a_t_aside : Nat) (a_t_kept : Nat) (a_t_said : Nat) (a_t_waitsAt : Nat) (a_t_saidLetter : Nat) (a_t_saidFrom : Nat) (a_t_saidHalf : Nat) (a_t_saidTo : Nat) (a_t_codes : Nat) (a_t_clauseOf : Nat) (a_t_codeFrom : Nat) (a_t_codeHalf : Nat) (a_t_codeTo : Nat) (a_t_stack : Nat) (a_t_facts : Nat) (a_t_newLine : Nat) (a_t_canSit : Nat) (a_t_canNext : Nat) (a_t_singersIn : Nat) (a_t_freeAt : Nat) (a_t_beginsAt : Nat) (a_t_leastBy : Nat) (a_t_mostBy : Nat) (a_t_mostNext : Nat) (t_taped : Int32) (t_place0 : Int32) (t_length0 : Int32) (t_fault : Int32) (t_number0 : Int32) (t_open : Int32) (t_codeMany : Int32) (t_waiting : Int32) (t_saidMany : Int32) (t_clauses : Int32) (t_newMany : Int32) (t_lines : Int32) (t_stoodNow : Int32) (t_lastSeat : Int32) (t_climbedNow : Int32) (t_isKept : Int32) (t_tape : (Nat → Int32)) (t_risesTo : (Nat → Int32)) (x1 : Int32) (x2 : Int32) (sz : Nat) (res : Int32 × Int32 × (Nat → Int32)) (hf : f_X12_hats t_taped t_tape t_risesTo x1 x2 = some res) : Met l yX12_hats (.code yX12_hats cX12_hats 9 (some .int) :: TB) (rmk (1) (22)) (pRW [.ref a_t, .int x1, .int x2] D cI cB cZ (w_X12_hats cI cB cZ a_t a_t_tape a_t_risesTo a_t_now a_t_aside a_t_kept a_t_said a_t_waitsAt a_t_saidLetter a_t_saidFrom a_t_saidHalf a_t_saidTo a_t_codes a_t_clauseOf a_t_codeFrom a_t_codeHalf a_t_codeTo a_t_stack a_t_facts a_t_newLine a_t_canSit a_t_canNext a_t_singersIn a_t_freeAt a_t_beginsAt a_t_leastBy a_t_mostBy a_t_mostNext t_taped t_place0 t_length0 t_fault t_number0 t_open t_codeMany t_waiting t_saidMany t_clauses t_newMany t_lines t_stoodNow t_lastSeat t_climbedNow t_isKept t_tape t_risesTo) sz) (qRW (some (.int res.1)) True D (w_X12_hats cI cB cZ a_t a_t_tape a_t_risesTo a_t_now a_t_aside a_t_kept a_t_said a_t_waitsAt a_t_saidLetter a_t_saidFrom a_t_saidHalf a_t_saidTo a_t_codes a_t_clauseOf a_t_codeFrom a_t_codeHalf a_t_codeTo a_t_stack a_t_facts a_t_newLine a_t_canSit a_t_canNext a_t_singersIn a_t_freeAt a_t_beginsAt a_t_leastBy a_t_mostBy a_t_mostNext t_taped t_place0 t_length0 t_fault t_number0 t_open t_codeMany t_waiting t_saidMany t_clauses t_newMany t_lines t_stoodNow t_lastSeat t_climbedNow t_isKept t_tape t_risesTo) sz (w_X12_hats cI cB cZ a_t a_t_tape a_t_risesTo a_t_now a_t_aside a_t_kept a_t_said a_t_waitsAt a_t_saidLetter a_t_saidFrom a_t_saidHalf a_t_saidTo a_t_codes a_t_clauseOf a_t_codeFrom a_t_codeHalf a_t_codeTo a_t_stack a_t_facts a_t_newLine a_t_canSit a_t_canNext a_t_singersIn a_t_freeAt a_t_beginsAt a_t_leastBy a_t_mostBy a_t_mostNext res.2.1 t_place0 t_length0 t_fault t_number0 t_open t_codeMany t_waiting t_saidMany t_clauses t_newMany t_lines t_stoodNow t_lastSeat t_climbedNow t_isKept t_tape res.2.2)) 0 0 (va_A (w_X12_hats cI cB cZ a_t a_t_tape a_t_risesTo a_t_now a_t_aside a_t_kept a_t_said a_t_waitsAt a_t_saidLetter a_t_saidFrom a_t_saidHalf a_t_saidTo a_t_codes a_t_clauseOf a_t_codeFrom a_t_codeHalf a_t_codeTo a_t_stack a_t_facts a_t_newLine a_t_canSit a_t_canNext a_t_singersIn a_t_freeAt a_t_beginsAt a_t_leastBy a_t_mostBy a_t_mostNext t_taped t_place0 t_length0 t_fault t_number0 t_open t_codeMany t_waiting t_saidMany t_clauses t_newMany t_lines t_stoodNow t_lastSeat t_climbedNow t_isKept t_tape t_risesTo) sz) :=
  mkRW (by decide +kernel) (Nat.le_of_ble_eq_true rfl) (fun p e s m below meth c ls A hAe S hr hlk hK hA hP hD hS hl => b_X12_hats S.1 S.2.1 S.2.2.1 S.2.2.2.1 S.2.2.2.2 (Nat.le_refl _) (Nat.le_refl _) hK.1 hK.2 hA s.heap [] a_t a_t_tape a_t_risesTo a_t_now a_t_aside a_t_kept a_t_said a_t_waitsAt a_t_saidLetter a_t_saidFrom a_t_saidHalf a_t_saidTo a_t_codes a_t_clauseOf a_t_codeFrom a_t_codeHalf a_t_codeTo a_t_stack a_t_facts a_t_newLine a_t_canSit a_t_canNext a_t_singersIn a_t_freeAt a_t_beginsAt a_t_leastBy a_t_mostBy a_t_mostNext t_taped t_place0 t_length0 t_fault t_number0 t_open t_codeMany t_waiting t_saidMany t_clauses t_newMany t_lines t_stoodNow t_lastSeat t_climbedNow t_isKept t_tape t_risesTo x1 x2 res hf hP hD hS (fun H locs pc ls hP hD hS hE hd => eRW_i S.1 S.2.1 hr rfl hlk hAe hP hD hS hE hd) ls hl)
def f_X12_seed (t_now : (Nat → Int32)) (x1 : Int32) : Option (Int32 × (Nat → Int32)) := (f_X12_in x1 0 65535).bind (fun z5 => (if z5 = 0 then some (0, t_now) else ix 637 636 (some (1, upd t_now (636 : Int32).toNatClampNeg x1))))
def w_X12_seed (cI cB cZ : ClassId) (a_t : Nat) (a_t_now : Nat) (a_t_aside : Nat) (a_t_kept : Nat) (a_t_tape : Nat) (a_t_said : Nat) (a_t_waitsAt : Nat) (a_t_saidLetter : Nat) (a_t_saidFrom : Nat) (a_t_saidHalf : Nat) (a_t_saidTo : Nat) (a_t_codes : Nat) (a_t_clauseOf : Nat) (a_t_codeFrom : Nat) (a_t_codeHalf : Nat) (a_t_codeTo : Nat) (a_t_stack : Nat) (a_t_facts : Nat) (a_t_newLine : Nat) (a_t_canSit : Nat) (a_t_canNext : Nat) (a_t_singersIn : Nat) (a_t_freeAt : Nat) (a_t_beginsAt : Nat) (a_t_leastBy : Nat) (a_t_mostBy : Nat) (a_t_mostNext : Nat) (a_t_risesTo : Nat) (t_taped : Int32) (t_place0 : Int32) (t_length0 : Int32) (t_fault : Int32) (t_number0 : Int32) (t_open : Int32) (t_codeMany : Int32) (t_waiting : Int32) (t_saidMany : Int32) (t_clauses : Int32) (t_newMany : Int32) (t_lines : Int32) (t_stoodNow : Int32) (t_lastSeat : Int32) (t_climbedNow : Int32) (t_isKept : Int32) (t_now : (Nat → Int32)) : va_W := [(a_t, .inr (11, [.ref a_t_now, .ref a_t_aside, .ref a_t_kept, .ref a_t_tape, .int t_taped, .int t_place0, .int t_length0, .int t_fault, .int t_number0, .int t_open, .int t_codeMany, .int t_waiting, .int t_saidMany, .int t_clauses, .ref a_t_said, .ref a_t_waitsAt, .ref a_t_saidLetter, .ref a_t_saidFrom, .ref a_t_saidHalf, .ref a_t_saidTo, .ref a_t_codes, .ref a_t_clauseOf, .ref a_t_codeFrom, .ref a_t_codeHalf, .ref a_t_codeTo, .ref a_t_stack, .ref a_t_facts, .ref a_t_newLine, .int t_newMany, .int t_lines, .int t_stoodNow, .int t_lastSeat, .int t_climbedNow, .ref a_t_canSit, .ref a_t_canNext, .ref a_t_singersIn, .ref a_t_freeAt, .ref a_t_beginsAt, .ref a_t_leastBy, .ref a_t_mostBy, .ref a_t_mostNext, .ref a_t_risesTo, .int t_isKept])), (a_t_now, .inl (cI, 637, .inl t_now))]
set_option maxHeartbeats 4000000 in
set_option maxRecDepth 100000 in
theorem b_X12_seed {p : Program} {l : Launch} {e : Env} {R : Room} {s : State} {m : MethodId} {args : Array Value} {below : List Frame} {meth : Method} {c : Code} {Q : State → Prop} {D : va_G} {cI cB cZ : ClassId} (hx : p.tables.exec = Jvm.exec) (hb : c.code = cX12_seed) (hml : c.maxLocals = 2) (hown : s.vm.findClass RX12 = some m.cls) (hT : ∀ w ∈ TB, w.before args s = true) (hRf : (1) ≤ R.frames) (hRl : (22) ≤ R.locals) (hK : va_K D vwCl (tyL cI cB cZ) s) (hN : NW s) {A : Nat → Prop} (hA : ∀ q : Nat, s.heap.size ≤ q → A q) (H : Heap) (locs : List Loc)  (a_t : Nat) (a_t_now : Nat) (a_t_aside : Nat) (a_t_kept : Nat) (a_t_tape : Nat) (a_t_said : Nat) (a_t_waitsAt : Nat) (a_t_saidLetter : Nat) (a_t_saidFrom : Nat) (a_t_saidHalf : Nat) (a_t_saidTo : Nat) (a_t_codes : Nat) (a_t_clauseOf : Nat) (a_t_codeFrom : Nat) (a_t_codeHalf : Nat) (a_t_codeTo : Nat) (a_t_stack : Nat) (a_t_facts : Nat) (a_t_newLine : Nat) (a_t_canSit : Nat) (a_t_canNext : Nat) (a_t_singersIn : Nat) (a_t_freeAt : Nat) (a_t_beginsAt : Nat) (a_t_leastBy : Nat) (a_t_mostBy : Nat) (a_t_mostNext : Nat) (a_t_risesTo : Nat) (t_taped : Int32) (t_place0 : Int32) (t_length0 : Int32) (t_fault : Int32) (t_number0 : Int32) (t_open : Int32) (t_codeMany : Int32) (t_waiting : Int32) (t_saidMany : Int32) (t_clauses : Int32) (t_newMany : Int32) (t_lines : Int32) (t_stoodNow : Int32) (t_lastSeat : Int32) (t_climbedNow : Int32) (t_isKept : Int32) (t_now : (Nat → Int32)) (x1 : Int32) (res : Int32 × (Nat → Int32)) (hf : f_X12_seed t_now x1 = some res) (hP : va_P D vwCl (w_X12_seed cI cB cZ a_t a_t_now a_t_aside a_t_kept a_t_tape a_t_said a_t_waitsAt a_t_saidLetter a_t_saidFrom a_t_saidHalf a_t_saidTo a_t_codes a_t_clauseOf a_t_codeFrom a_t_codeHalf a_t_codeTo a_t_stack a_t_facts a_t_newLine a_t_canSit a_t_canNext a_t_singersIn a_t_freeAt a_t_beginsAt a_t_leastBy a_t_mostBy a_t_mostNext a_t_risesTo t_taped t_place0 t_length0 t_fault t_number0 t_open t_codeMany t_waiting t_saidMany t_clauses t_newMany t_lines t_stoodNow t_lastSeat t_climbedNow t_isKept t_now) H) (hD : va_D A (w_X12_seed cI cB cZ a_t a_t_now a_t_aside a_t_kept a_t_tape a_t_said a_t_waitsAt a_t_saidLetter a_t_saidFrom a_t_saidHalf a_t_saidTo a_t_codes a_t_clauseOf a_t_codeFrom a_t_codeHalf a_t_codeTo a_t_stack a_t_facts a_t_newLine a_t_canSit a_t_canNext a_t_singersIn a_t_freeAt a_t_beginsAt a_t_leastBy a_t_mostBy a_t_mostNext a_t_risesTo t_taped t_place0 t_length0 t_fault t_number0 t_open t_codeMany t_waiting t_saidMany t_clauses t_newMany t_lines t_stoodNow t_lastSeat t_climbedNow t_isKept t_now)) (hS : va_S A s.heap H locs) (hQ : ∀ (H : Heap) (locs : List Loc) (pc : Nat) (ls : Array Slot), va_P D vwCl (w_X12_seed cI cB cZ a_t a_t_now a_t_aside a_t_kept a_t_tape a_t_said a_t_waitsAt a_t_saidLetter a_t_saidFrom a_t_saidHalf a_t_saidTo a_t_codes a_t_clauseOf a_t_codeFrom a_t_codeHalf a_t_codeTo a_t_stack a_t_facts a_t_newLine a_t_canSit a_t_canNext a_t_singersIn a_t_freeAt a_t_beginsAt a_t_leastBy a_t_mostBy a_t_mostNext a_t_risesTo t_taped t_place0 t_length0 t_fault t_number0 t_open t_codeMany t_waiting t_saidMany t_clauses t_newMany t_lines t_stoodNow t_lastSeat t_climbedNow t_isKept res.2) H → va_D A (w_X12_seed cI cB cZ a_t a_t_now a_t_aside a_t_kept a_t_tape a_t_said a_t_waitsAt a_t_saidLetter a_t_saidFrom a_t_saidHalf a_t_saidTo a_t_codes a_t_clauseOf a_t_codeFrom a_t_codeHalf a_t_codeTo a_t_stack a_t_facts a_t_newLine a_t_canSit a_t_canNext a_t_singersIn a_t_freeAt a_t_beginsAt a_t_leastBy a_t_mostBy a_t_mostNext a_t_risesTo t_taped t_place0 t_length0 t_fault t_number0 t_open t_codeMany t_waiting t_saidMany t_clauses t_newMany t_lines t_stoodNow t_lastSeat t_climbedNow t_isKept res.2) → va_S A s.heap H locs → (res.1 = 0 ∨ res.1 = 1) → decode cX12_seed pc = .ok (.ireturn, 1) → W p l e R s m args below meth c H locs 0 0 Q (F0 m pc ls [.int res.1])) (ls : Array Slot) (hl : lv_has ls 2 [(0, .ref a_t), (1, .int x1)]) : W p l e R s m args below meth c H locs 0 0 Q (F0 m 0 ls []) := by
  unfold f_X12_seed at hf
  refine lv_iload_n hx hb dX12_seed_0 rfl (lv_at hl 1 rfl) ?_
  refine lv_iconst (v := 0) hx hb dX12_seed_1 (by decide) ?_
  refine lv_ldcw (v := 65535) hx hb hown (hT _ tb_1639) dX12_seed_2 ?_
  obtain ⟨z5, e5, hf⟩ := bd_some hf
  refine rS_RO (As := [.int x1, .int 0, .int 65535]) (rest := []) ⟨hx, hb, hml, hown, hT⟩ (gdS tb_1283 tb_1284 tb_97 tb_1285) hd_X12_in (c_X12_in l D cI cB cZ x1 0 65535 z5 e5) ⟨rfl, rfl⟩ ⟨Nat.le_trans (by decide) hRf, Nat.le_trans (by decide) hRl⟩ ⟨hK, hN⟩ hP [] rfl rfl hl.1 rfl (Nat.le_of_ble_eq_true rfl) ⟨Nat.zero_le _, Nat.zero_le _⟩ dX12_seed_5 (fun hz_5 => ?_)
  refine lv_if_ne (tgt := 13) hx hb dX12_seed_8 (by decide) (fun hc_8 => ?_) (fun hc_8 => ?_)
  · have hf := it_neg hc_8 hf
    refine lv_aload_n hx hb dX12_seed_13 rfl (lv_at hl 0 rfl) ?_
    refine va_get (D := D) (ci := 11) (v := .ref a_t_now) (C := RX12) (T := TX12) (N := 43) hx hb hT inX12 hown hK hP 0 rfl rfl 0 (by decide) (hT _ tb_1148) (fun _ h9 => h9) rfl dX12_seed_14 ?_
    refine lv_sipush (v := 636) hx hb dX12_seed_17 (by decide) ?_
    refine lv_iload_n hx hb dX12_seed_20 rfl (lv_at hl 1 rfl) ?_
    obtain ⟨hi_21, hf⟩ := ix_some hf
    refine va_iast hx hb hK hP hD hS 1 0 rfl rfl hi_21 dX12_seed_21 (fun H locs hP hD hS => ?_)
    have hP : va_P D vwCl (w_X12_seed cI cB cZ a_t a_t_now a_t_aside a_t_kept a_t_tape a_t_said a_t_waitsAt a_t_saidLetter a_t_saidFrom a_t_saidHalf a_t_saidTo a_t_codes a_t_clauseOf a_t_codeFrom a_t_codeHalf a_t_codeTo a_t_stack a_t_facts a_t_newLine a_t_canSit a_t_canNext a_t_singersIn a_t_freeAt a_t_beginsAt a_t_leastBy a_t_mostBy a_t_mostNext a_t_risesTo t_taped t_place0 t_length0 t_fault t_number0 t_open t_codeMany t_waiting t_saidMany t_clauses t_newMany t_lines t_stoodNow t_lastSeat t_climbedNow t_isKept (upd t_now (636 : Int32).toNatClampNeg x1)) H := hP
    have hD : va_D A (w_X12_seed cI cB cZ a_t a_t_now a_t_aside a_t_kept a_t_tape a_t_said a_t_waitsAt a_t_saidLetter a_t_saidFrom a_t_saidHalf a_t_saidTo a_t_codes a_t_clauseOf a_t_codeFrom a_t_codeHalf a_t_codeTo a_t_stack a_t_facts a_t_newLine a_t_canSit a_t_canNext a_t_singersIn a_t_freeAt a_t_beginsAt a_t_leastBy a_t_mostBy a_t_mostNext a_t_risesTo t_taped t_place0 t_length0 t_fault t_number0 t_open t_codeMany t_waiting t_saidMany t_clauses t_newMany t_lines t_stoodNow t_lastSeat t_climbedNow t_isKept (upd t_now (636 : Int32).toNatClampNeg x1)) := hD
    refine lv_iconst (v := 1) hx hb dX12_seed_22 (by decide) ?_
    obtain rfl := Option.some.inj hf
    exact hQ H locs 23 ls hP hD hS (Or.inr rfl) dX12_seed_23
  · have hf := it_pos hc_8 hf
    refine lv_iconst (v := 0) hx hb dX12_seed_11 (by decide) ?_
    obtain rfl := Option.some.inj hf
    exact hQ H locs 12 ls hP hD hS (Or.inl rfl) dX12_seed_12
theorem hd_X12_seed : (yX12_seed).cls = RX12 ∧ (yX12_seed).cls ≠ "java/lang/invoke/MethodHandle" ∧ (yX12_seed).cls ≠ "java/lang/invoke/VarHandle" ∧ (parseMethodDescriptor (yX12_seed).desc).map (fun d => d.parameters.length) = some 1 := by decide +kernel
theorem c_X12_seed (l : Launch) (D : va_G) (cI cB cZ : ClassId) (a_t : Nat) (a_t_now : Nat) (a_t_aside : Nat) (a_t_kept : Nat) (a_t_tape : Nat) (a_t_said : Nat) (a_t_waitsAt : Nat) (a_t_saidLetter : Nat) (a_t_saidFrom : Nat) (a_t_saidHalf : Nat) (a_t_saidTo : Nat) (a_t_codes : Nat) (a_t_clauseOf : Nat) (a_t_codeFrom : Nat) (a_t_codeHalf : Nat) (a_t_codeTo : Nat) (a_t_stack : Nat) (a_t_facts : Nat) (a_t_newLine : Nat) (a_t_canSit : Nat) (a_t_canNext : Nat) (a_t_singersIn : Nat) (a_t_freeAt : Nat) (a_t_beginsAt : Nat) (a_t_leastBy : Nat) (a_t_mostBy : Nat) (a_t_mostNext : Nat) (a_t_risesTo : Nat) (t_taped : Int32) (t_place0 : Int32) (t_length0 : Int32) (t_fault : Int32) (t_number0 : Int32) (t_open : Int32) (t_codeMany : Int32) (t_waiting : Int32) (t_saidMany : Int32) (t_clauses : Int32) (t_newMany : Int32) (t_lines : Int32) (t_stoodNow : Int32) (t_lastSeat : Int32) (t_climbedNow : Int32) (t_isKept : Int32) (t_now : (Nat → Int32)) (x1 : Int32) (sz : Nat) (res : Int32 × (Nat → Int32)) (hf : f_X12_seed t_now x1 = some res) : Met l yX12_seed (.code yX12_seed cX12_seed 2 (some .boolean) :: TB) (rmk (1) (22)) (pRW [.ref a_t, .int x1] D cI cB cZ (w_X12_seed cI cB cZ a_t a_t_now a_t_aside a_t_kept a_t_tape a_t_said a_t_waitsAt a_t_saidLetter a_t_saidFrom a_t_saidHalf a_t_saidTo a_t_codes a_t_clauseOf a_t_codeFrom a_t_codeHalf a_t_codeTo a_t_stack a_t_facts a_t_newLine a_t_canSit a_t_canNext a_t_singersIn a_t_freeAt a_t_beginsAt a_t_leastBy a_t_mostBy a_t_mostNext a_t_risesTo t_taped t_place0 t_length0 t_fault t_number0 t_open t_codeMany t_waiting t_saidMany t_clauses t_newMany t_lines t_stoodNow t_lastSeat t_climbedNow t_isKept t_now) sz) (qRW (some (.int res.1)) (res.1 = 0 ∨ res.1 = 1) D (w_X12_seed cI cB cZ a_t a_t_now a_t_aside a_t_kept a_t_tape a_t_said a_t_waitsAt a_t_saidLetter a_t_saidFrom a_t_saidHalf a_t_saidTo a_t_codes a_t_clauseOf a_t_codeFrom a_t_codeHalf a_t_codeTo a_t_stack a_t_facts a_t_newLine a_t_canSit a_t_canNext a_t_singersIn a_t_freeAt a_t_beginsAt a_t_leastBy a_t_mostBy a_t_mostNext a_t_risesTo t_taped t_place0 t_length0 t_fault t_number0 t_open t_codeMany t_waiting t_saidMany t_clauses t_newMany t_lines t_stoodNow t_lastSeat t_climbedNow t_isKept t_now) sz (w_X12_seed cI cB cZ a_t a_t_now a_t_aside a_t_kept a_t_tape a_t_said a_t_waitsAt a_t_saidLetter a_t_saidFrom a_t_saidHalf a_t_saidTo a_t_codes a_t_clauseOf a_t_codeFrom a_t_codeHalf a_t_codeTo a_t_stack a_t_facts a_t_newLine a_t_canSit a_t_canNext a_t_singersIn a_t_freeAt a_t_beginsAt a_t_leastBy a_t_mostBy a_t_mostNext a_t_risesTo t_taped t_place0 t_length0 t_fault t_number0 t_open t_codeMany t_waiting t_saidMany t_clauses t_newMany t_lines t_stoodNow t_lastSeat t_climbedNow t_isKept res.2)) 0 0 (va_A (w_X12_seed cI cB cZ a_t a_t_now a_t_aside a_t_kept a_t_tape a_t_said a_t_waitsAt a_t_saidLetter a_t_saidFrom a_t_saidHalf a_t_saidTo a_t_codes a_t_clauseOf a_t_codeFrom a_t_codeHalf a_t_codeTo a_t_stack a_t_facts a_t_newLine a_t_canSit a_t_canNext a_t_singersIn a_t_freeAt a_t_beginsAt a_t_leastBy a_t_mostBy a_t_mostNext a_t_risesTo t_taped t_place0 t_length0 t_fault t_number0 t_open t_codeMany t_waiting t_saidMany t_clauses t_newMany t_lines t_stoodNow t_lastSeat t_climbedNow t_isKept t_now) sz) :=
  mkRW (by decide +kernel) (Nat.le_of_ble_eq_true rfl) (fun p e s m below meth c ls A hAe S hr hlk hK hA hP hD hS hl => b_X12_seed S.1 S.2.1 S.2.2.1 S.2.2.2.1 S.2.2.2.2 (Nat.le_refl _) (Nat.le_refl _) hK.1 hK.2 hA s.heap [] a_t a_t_now a_t_aside a_t_kept a_t_tape a_t_said a_t_waitsAt a_t_saidLetter a_t_saidFrom a_t_saidHalf a_t_saidTo a_t_codes a_t_clauseOf a_t_codeFrom a_t_codeHalf a_t_codeTo a_t_stack a_t_facts a_t_newLine a_t_canSit a_t_canNext a_t_singersIn a_t_freeAt a_t_beginsAt a_t_leastBy a_t_mostBy a_t_mostNext a_t_risesTo t_taped t_place0 t_length0 t_fault t_number0 t_open t_codeMany t_waiting t_saidMany t_clauses t_newMany t_lines t_stoodNow t_lastSeat t_climbedNow t_isKept t_now x1 res hf hP hD hS (fun H locs pc ls hP hD hS hE hd => eRW_i S.1 S.2.1 hr (nz_ok hE) hlk hAe hP hD hS hE hd) ls hl)
def f_X12_keep (t_isKept : Int32) (t_now : (Nat → Int32)) (t_kept : (Nat → Int32)) : Option (Int32 × Int32 × (Nat → Int32)) := (f_X12_copies t_now t_kept).bind (fun z13 => ix 637 633 (some (t_now (633 : Int32).toNatClampNeg, 1, z13)))
def w_X12_keep (cI cB cZ : ClassId) (a_t : Nat) (a_t_now : Nat) (a_t_kept : Nat) (a_t_aside : Nat) (a_t_tape : Nat) (a_t_said : Nat) (a_t_waitsAt : Nat) (a_t_saidLetter : Nat) (a_t_saidFrom : Nat) (a_t_saidHalf : Nat) (a_t_saidTo : Nat) (a_t_codes : Nat) (a_t_clauseOf : Nat) (a_t_codeFrom : Nat) (a_t_codeHalf : Nat) (a_t_codeTo : Nat) (a_t_stack : Nat) (a_t_facts : Nat) (a_t_newLine : Nat) (a_t_canSit : Nat) (a_t_canNext : Nat) (a_t_singersIn : Nat) (a_t_freeAt : Nat) (a_t_beginsAt : Nat) (a_t_leastBy : Nat) (a_t_mostBy : Nat) (a_t_mostNext : Nat) (a_t_risesTo : Nat) (t_taped : Int32) (t_place0 : Int32) (t_length0 : Int32) (t_fault : Int32) (t_number0 : Int32) (t_open : Int32) (t_codeMany : Int32) (t_waiting : Int32) (t_saidMany : Int32) (t_clauses : Int32) (t_newMany : Int32) (t_lines : Int32) (t_stoodNow : Int32) (t_lastSeat : Int32) (t_climbedNow : Int32) (t_isKept : Int32) (t_now : (Nat → Int32)) (t_kept : (Nat → Int32)) : va_W := [(a_t, .inr (11, [.ref a_t_now, .ref a_t_aside, .ref a_t_kept, .ref a_t_tape, .int t_taped, .int t_place0, .int t_length0, .int t_fault, .int t_number0, .int t_open, .int t_codeMany, .int t_waiting, .int t_saidMany, .int t_clauses, .ref a_t_said, .ref a_t_waitsAt, .ref a_t_saidLetter, .ref a_t_saidFrom, .ref a_t_saidHalf, .ref a_t_saidTo, .ref a_t_codes, .ref a_t_clauseOf, .ref a_t_codeFrom, .ref a_t_codeHalf, .ref a_t_codeTo, .ref a_t_stack, .ref a_t_facts, .ref a_t_newLine, .int t_newMany, .int t_lines, .int t_stoodNow, .int t_lastSeat, .int t_climbedNow, .ref a_t_canSit, .ref a_t_canNext, .ref a_t_singersIn, .ref a_t_freeAt, .ref a_t_beginsAt, .ref a_t_leastBy, .ref a_t_mostBy, .ref a_t_mostNext, .ref a_t_risesTo, .int t_isKept])), (a_t_now, .inl (cI, 637, .inl t_now)), (a_t_kept, .inl (cI, 637, .inl t_kept))]
set_option maxHeartbeats 4000000 in
set_option maxRecDepth 100000 in
theorem b_X12_keep {p : Program} {l : Launch} {e : Env} {R : Room} {s : State} {m : MethodId} {args : Array Value} {below : List Frame} {meth : Method} {c : Code} {Q : State → Prop} {D : va_G} {cI cB cZ : ClassId} (hx : p.tables.exec = Jvm.exec) (hb : c.code = cX12_keep) (hml : c.maxLocals = 1) (hown : s.vm.findClass RX12 = some m.cls) (hT : ∀ w ∈ TB, w.before args s = true) (hRf : (1) ≤ R.frames) (hRl : (22) ≤ R.locals) (hK : va_K D vwCl (tyL cI cB cZ) s) (hN : NW s) {A : Nat → Prop} (hA : ∀ q : Nat, s.heap.size ≤ q → A q) (H : Heap) (locs : List Loc)  (a_t : Nat) (a_t_now : Nat) (a_t_kept : Nat) (a_t_aside : Nat) (a_t_tape : Nat) (a_t_said : Nat) (a_t_waitsAt : Nat) (a_t_saidLetter : Nat) (a_t_saidFrom : Nat) (a_t_saidHalf : Nat) (a_t_saidTo : Nat) (a_t_codes : Nat) (a_t_clauseOf : Nat) (a_t_codeFrom : Nat) (a_t_codeHalf : Nat) (a_t_codeTo : Nat) (a_t_stack : Nat) (a_t_facts : Nat) (a_t_newLine : Nat) (a_t_canSit : Nat) (a_t_canNext : Nat) (a_t_singersIn : Nat) (a_t_freeAt : Nat) (a_t_beginsAt : Nat) (a_t_leastBy : Nat) (a_t_mostBy : Nat) (a_t_mostNext : Nat) (a_t_risesTo : Nat) (t_taped : Int32) (t_place0 : Int32) (t_length0 : Int32) (t_fault : Int32) (t_number0 : Int32) (t_open : Int32) (t_codeMany : Int32) (t_waiting : Int32) (t_saidMany : Int32) (t_clauses : Int32) (t_newMany : Int32) (t_lines : Int32) (t_stoodNow : Int32) (t_lastSeat : Int32) (t_climbedNow : Int32) (t_isKept : Int32) (t_now : (Nat → Int32)) (t_kept : (Nat → Int32)) (res : Int32 × Int32 × (Nat → Int32)) (hf : f_X12_keep t_isKept t_now t_kept = some res) (hP : va_P D vwCl (w_X12_keep cI cB cZ a_t a_t_now a_t_kept a_t_aside a_t_tape a_t_said a_t_waitsAt a_t_saidLetter a_t_saidFrom a_t_saidHalf a_t_saidTo a_t_codes a_t_clauseOf a_t_codeFrom a_t_codeHalf a_t_codeTo a_t_stack a_t_facts a_t_newLine a_t_canSit a_t_canNext a_t_singersIn a_t_freeAt a_t_beginsAt a_t_leastBy a_t_mostBy a_t_mostNext a_t_risesTo t_taped t_place0 t_length0 t_fault t_number0 t_open t_codeMany t_waiting t_saidMany t_clauses t_newMany t_lines t_stoodNow t_lastSeat t_climbedNow t_isKept t_now t_kept) H) (hD : va_D A (w_X12_keep cI cB cZ a_t a_t_now a_t_kept a_t_aside a_t_tape a_t_said a_t_waitsAt a_t_saidLetter a_t_saidFrom a_t_saidHalf a_t_saidTo a_t_codes a_t_clauseOf a_t_codeFrom a_t_codeHalf a_t_codeTo a_t_stack a_t_facts a_t_newLine a_t_canSit a_t_canNext a_t_singersIn a_t_freeAt a_t_beginsAt a_t_leastBy a_t_mostBy a_t_mostNext a_t_risesTo t_taped t_place0 t_length0 t_fault t_number0 t_open t_codeMany t_waiting t_saidMany t_clauses t_newMany t_lines t_stoodNow t_lastSeat t_climbedNow t_isKept t_now t_kept)) (hS : va_S A s.heap H locs) (hQ : ∀ (H : Heap) (locs : List Loc) (pc : Nat) (ls : Array Slot), va_P D vwCl (w_X12_keep cI cB cZ a_t a_t_now a_t_kept a_t_aside a_t_tape a_t_said a_t_waitsAt a_t_saidLetter a_t_saidFrom a_t_saidHalf a_t_saidTo a_t_codes a_t_clauseOf a_t_codeFrom a_t_codeHalf a_t_codeTo a_t_stack a_t_facts a_t_newLine a_t_canSit a_t_canNext a_t_singersIn a_t_freeAt a_t_beginsAt a_t_leastBy a_t_mostBy a_t_mostNext a_t_risesTo t_taped t_place0 t_length0 t_fault t_number0 t_open t_codeMany t_waiting t_saidMany t_clauses t_newMany t_lines t_stoodNow t_lastSeat t_climbedNow res.2.1 t_now res.2.2) H → va_D A (w_X12_keep cI cB cZ a_t a_t_now a_t_kept a_t_aside a_t_tape a_t_said a_t_waitsAt a_t_saidLetter a_t_saidFrom a_t_saidHalf a_t_saidTo a_t_codes a_t_clauseOf a_t_codeFrom a_t_codeHalf a_t_codeTo a_t_stack a_t_facts a_t_newLine a_t_canSit a_t_canNext a_t_singersIn a_t_freeAt a_t_beginsAt a_t_leastBy a_t_mostBy a_t_mostNext a_t_risesTo t_taped t_place0 t_length0 t_fault t_number0 t_open t_codeMany t_waiting t_saidMany t_clauses t_newMany t_lines t_stoodNow t_lastSeat t_climbedNow res.2.1 t_now res.2.2) → va_S A s.heap H locs → True → decode cX12_keep pc = .ok (.ireturn, 1) → W p l e R s m args below meth c H locs 0 0 Q (F0 m pc ls [.int res.1])) (ls : Array Slot) (hl : lv_has ls 1 [(0, .ref a_t)]) : W p l e R s m args below meth c H locs 0 0 Q (F0 m 0 ls []) := by
  unfold f_X12_keep at hf
  refine lv_aload_n hx hb dX12_keep_0 rfl (lv_at hl 0 rfl) ?_
  refine lv_iconst (v := 1) hx hb dX12_keep_1 (by decide) ?_
  refine va_put (D := D) (ci := 11) (v := .int 1) (ty := (.boolean)) (C := RX12) (T := TX12) (N := 43) hx hb hT inX12 tyX12 tyX12_ok nmX12 hown hK hP hD hS 0 rfl rfl 42 (by decide) (hT _ tb_1190) (fun _ h9 => h9) rfl (by decide +kernel) rfl rfl (Nat.le_of_ble_eq_true rfl) dX12_keep_2 (fun H locs hP hD hS => ?_)
  have hP : va_P D vwCl (w_X12_keep cI cB cZ a_t a_t_now a_t_kept a_t_aside a_t_tape a_t_said a_t_waitsAt a_t_saidLetter a_t_saidFrom a_t_saidHalf a_t_saidTo a_t_codes a_t_clauseOf a_t_codeFrom a_t_codeHalf a_t_codeTo a_t_stack a_t_facts a_t_newLine a_t_canSit a_t_canNext a_t_singersIn a_t_freeAt a_t_beginsAt a_t_leastBy a_t_mostBy a_t_mostNext a_t_risesTo t_taped t_place0 t_length0 t_fault t_number0 t_open t_codeMany t_waiting t_saidMany t_clauses t_newMany t_lines t_stoodNow t_lastSeat t_climbedNow 1 t_now t_kept) H := hP
  have hD : va_D A (w_X12_keep cI cB cZ a_t a_t_now a_t_kept a_t_aside a_t_tape a_t_said a_t_waitsAt a_t_saidLetter a_t_saidFrom a_t_saidHalf a_t_saidTo a_t_codes a_t_clauseOf a_t_codeFrom a_t_codeHalf a_t_codeTo a_t_stack a_t_facts a_t_newLine a_t_canSit a_t_canNext a_t_singersIn a_t_freeAt a_t_beginsAt a_t_leastBy a_t_mostBy a_t_mostNext a_t_risesTo t_taped t_place0 t_length0 t_fault t_number0 t_open t_codeMany t_waiting t_saidMany t_clauses t_newMany t_lines t_stoodNow t_lastSeat t_climbedNow 1 t_now t_kept) := hD
  refine lv_aload_n hx hb dX12_keep_5 rfl (lv_at hl 0 rfl) ?_
  refine va_get (D := D) (ci := 11) (v := .ref a_t_now) (C := RX12) (T := TX12) (N := 43) hx hb hT inX12 hown hK hP 0 rfl rfl 0 (by decide) (hT _ tb_1148) (fun _ h9 => h9) rfl dX12_keep_6 ?_
  refine lv_aload_n hx hb dX12_keep_9 rfl (lv_at hl 0 rfl) ?_
  refine va_get (D := D) (ci := 11) (v := .ref a_t_kept) (C := RX12) (T := TX12) (N := 43) hx hb hT inX12 hown hK hP 0 rfl rfl 2 (by decide) (hT _ tb_1150) (fun _ h9 => h9) rfl dX12_keep_10 ?_
  obtain ⟨z13, e13, hf⟩ := bd_some hf
  refine rS_RW (As := [.ref a_t_now, .ref a_t_kept]) (rest := []) (w2 := (w_X12_keep cI cB cZ a_t a_t_now a_t_kept a_t_aside a_t_tape a_t_said a_t_waitsAt a_t_saidLetter a_t_saidFrom a_t_saidHalf a_t_saidTo a_t_codes a_t_clauseOf a_t_codeFrom a_t_codeHalf a_t_codeTo a_t_stack a_t_facts a_t_newLine a_t_canSit a_t_canNext a_t_singersIn a_t_freeAt a_t_beginsAt a_t_leastBy a_t_mostBy a_t_mostNext a_t_risesTo t_taped t_place0 t_length0 t_fault t_number0 t_open t_codeMany t_waiting t_saidMany t_clauses t_newMany t_lines t_stoodNow t_lastSeat t_climbedNow 1 t_now z13)) ⟨hx, hb, hml, hown, hT⟩ (gdS tb_1393 tb_1394 tb_97 tb_1395) hd_X12_copies (c_X12_copies l D cI cB cZ a_t_now a_t_kept t_now t_kept H.size z13 e13) ⟨rfl, rfl⟩ ⟨Nat.le_trans (by decide) hRf, Nat.le_trans (by decide) hRl⟩ ⟨hK, hN⟩ hA hP hD hS [1, 2] [0] rfl (by decide) (wr := [_]) rfl (by decide) (by decide) [0, 1, 2] rfl (by decide) rfl hl.1 rfl (Nat.le_of_ble_eq_true rfl) ⟨Nat.zero_le _, Nat.zero_le _⟩ dX12_keep_13 (fun H locs hP hD hS _ => ?_)
  refine lv_aload_n hx hb dX12_keep_16 rfl (lv_at hl 0 rfl) ?_
  refine va_get (D := D) (ci := 11) (v := .ref a_t_now) (C := RX12) (T := TX12) (N := 43) hx hb hT inX12 hown hK hP 0 rfl rfl 0 (by decide) (hT _ tb_1148) (fun _ h9 => h9) rfl dX12_keep_17 ?_
  refine lv_sipush (v := 633) hx hb dX12_keep_20 (by decide) ?_
  obtain ⟨hi_23, hf⟩ := ix_some hf
  refine va_iald hx hb hK hP 1 0 rfl rfl hi_23 dX12_keep_23 ?_
  obtain rfl := Option.some.inj hf
  exact hQ H locs 24 ls hP hD hS trivial dX12_keep_24
theorem hd_X12_keep : (yX12_keep).cls = RX12 ∧ (yX12_keep).cls ≠ "java/lang/invoke/MethodHandle" ∧ (yX12_keep).cls ≠ "java/lang/invoke/VarHandle" ∧ (parseMethodDescriptor (yX12_keep).desc).map (fun d => d.parameters.length) = some 0 := by decide +kernel
theorem c_X12_keep (l : Launch) (D : va_G) (cI cB cZ : ClassId) (a_t : Nat) (a_t_now : Nat) (a_t_kept : Nat) (a_t_aside : Nat) (a_t_tape : Nat) (a_t_said : Nat) (a_t_waitsAt : Nat) (a_t_saidLetter : Nat) (a_t_saidFrom : Nat) (a_t_saidHalf : Nat) (a_t_saidTo : Nat) (a_t_codes : Nat) (a_t_clauseOf : Nat) (a_t_codeFrom : Nat) (a_t_codeHalf : Nat) (a_t_codeTo : Nat) (a_t_stack : Nat) (a_t_facts : Nat) (a_t_newLine : Nat) (a_t_canSit : Nat) (a_t_canNext : Nat) (a_t_singersIn : Nat) (a_t_freeAt : Nat) (a_t_beginsAt : Nat) (a_t_leastBy : Nat) (a_t_mostBy : Nat) (a_t_mostNext : Nat) (a_t_risesTo : Nat) (t_taped : Int32) (t_place0 : Int32) (t_length0 : Int32) (t_fault : Int32) (t_number0 : Int32) (t_open : Int32) (t_codeMany : Int32) (t_waiting : Int32) (t_saidMany : Int32) (t_clauses : Int32) (t_newMany : Int32) (t_lines : Int32) (t_stoodNow : Int32) (t_lastSeat : Int32) (t_climbedNow : Int32) (t_isKept : Int32) (t_now : (Nat → Int32)) (t_kept : (Nat → Int32)) (sz : Nat) (res : Int32 × Int32 × (Nat → Int32)) (hf : f_X12_keep t_isKept t_now t_kept = some res) : Met l yX12_keep (.code yX12_keep cX12_keep 1 (some .int) :: TB) (rmk (1) (22)) (pRW [.ref a_t] D cI cB cZ (w_X12_keep cI cB cZ a_t a_t_now a_t_kept a_t_aside a_t_tape a_t_said a_t_waitsAt a_t_saidLetter a_t_saidFrom a_t_saidHalf a_t_saidTo a_t_codes a_t_clauseOf a_t_codeFrom a_t_codeHalf a_t_codeTo a_t_stack a_t_facts a_t_newLine a_t_canSit a_t_canNext a_t_singersIn a_t_freeAt a_t_beginsAt a_t_leastBy a_t_mostBy a_t_mostNext a_t_risesTo t_taped t_place0 t_length0 t_fault t_number0 t_open t_codeMany t_waiting t_saidMany t_clauses t_newMany t_lines t_stoodNow t_lastSeat t_climbedNow t_isKept t_now t_kept) sz) (qRW (some (.int res.1)) True D (w_X12_keep cI cB cZ a_t a_t_now a_t_kept a_t_aside a_t_tape a_t_said a_t_waitsAt a_t_saidLetter a_t_saidFrom a_t_saidHalf a_t_saidTo a_t_codes a_t_clauseOf a_t_codeFrom a_t_codeHalf a_t_codeTo a_t_stack a_t_facts a_t_newLine a_t_canSit a_t_canNext a_t_singersIn a_t_freeAt a_t_beginsAt a_t_leastBy a_t_mostBy a_t_mostNext a_t_risesTo t_taped t_place0 t_length0 t_fault t_number0 t_open t_codeMany t_waiting t_saidMany t_clauses t_newMany t_lines t_stoodNow t_lastSeat t_climbedNow t_isKept t_now t_kept) sz (w_X12_keep cI cB cZ a_t a_t_now a_t_kept a_t_aside a_t_tape a_t_said a_t_waitsAt a_t_saidLetter a_t_saidFrom a_t_saidHalf a_t_saidTo a_t_codes a_t_clauseOf a_t_codeFrom a_t_codeHalf a_t_codeTo a_t_stack a_t_facts a_t_newLine a_t_canSit a_t_canNext a_t_singersIn a_t_freeAt a_t_beginsAt a_t_leastBy a_t_mostBy a_t_mostNext a_t_risesTo t_taped t_place0 t_length0 t_fault t_number0 t_open t_codeMany t_waiting t_saidMany t_clauses t_newMany t_lines t_stoodNow t_lastSeat t_climbedNow res.2.1 t_now res.2.2)) 0 0 (va_A (w_X12_keep cI cB cZ a_t a_t_now a_t_kept a_t_aside a_t_tape a_t_said a_t_waitsAt a_t_saidLetter a_t_saidFrom a_t_saidHalf a_t_saidTo a_t_codes a_t_clauseOf a_t_codeFrom a_t_codeHalf a_t_codeTo a_t_stack a_t_facts a_t_newLine a_t_canSit a_t_canNext a_t_singersIn a_t_freeAt a_t_beginsAt a_t_leastBy a_t_mostBy a_t_mostNext a_t_risesTo t_taped t_place0 t_length0 t_fault t_number0 t_open t_codeMany t_waiting t_saidMany t_clauses t_newMany t_lines t_stoodNow t_lastSeat t_climbedNow t_isKept t_now t_kept) sz) :=
  mkRW (by decide +kernel) (Nat.le_of_ble_eq_true rfl) (fun p e s m below meth c ls A hAe S hr hlk hK hA hP hD hS hl => b_X12_keep S.1 S.2.1 S.2.2.1 S.2.2.2.1 S.2.2.2.2 (Nat.le_refl _) (Nat.le_refl _) hK.1 hK.2 hA s.heap [] a_t a_t_now a_t_kept a_t_aside a_t_tape a_t_said a_t_waitsAt a_t_saidLetter a_t_saidFrom a_t_saidHalf a_t_saidTo a_t_codes a_t_clauseOf a_t_codeFrom a_t_codeHalf a_t_codeTo a_t_stack a_t_facts a_t_newLine a_t_canSit a_t_canNext a_t_singersIn a_t_freeAt a_t_beginsAt a_t_leastBy a_t_mostBy a_t_mostNext a_t_risesTo t_taped t_place0 t_length0 t_fault t_number0 t_open t_codeMany t_waiting t_saidMany t_clauses t_newMany t_lines t_stoodNow t_lastSeat t_climbedNow t_isKept t_now t_kept res hf hP hD hS (fun H locs pc ls hP hD hS hE hd => eRW_i S.1 S.2.1 hr rfl hlk hAe hP hD hS hE hd) ls hl)
def f_X12_undo (t_isKept : Int32) (t_now : (Nat → Int32)) (t_kept : (Nat → Int32)) : Option (Int32 × (Nat → Int32)) := (if t_isKept = 0 then some (0, t_now) else (f_X12_copies t_kept t_now).bind (fun z17 => some (1, z17)))
def w_X12_undo (cI cB cZ : ClassId) (a_t : Nat) (a_t_now : Nat) (a_t_kept : Nat) (a_t_aside : Nat) (a_t_tape : Nat) (a_t_said : Nat) (a_t_waitsAt : Nat) (a_t_saidLetter : Nat) (a_t_saidFrom : Nat) (a_t_saidHalf : Nat) (a_t_saidTo : Nat) (a_t_codes : Nat) (a_t_clauseOf : Nat) (a_t_codeFrom : Nat) (a_t_codeHalf : Nat) (a_t_codeTo : Nat) (a_t_stack : Nat) (a_t_facts : Nat) (a_t_newLine : Nat) (a_t_canSit : Nat) (a_t_canNext : Nat) (a_t_singersIn : Nat) (a_t_freeAt : Nat) (a_t_beginsAt : Nat) (a_t_leastBy : Nat) (a_t_mostBy : Nat) (a_t_mostNext : Nat) (a_t_risesTo : Nat) (t_taped : Int32) (t_place0 : Int32) (t_length0 : Int32) (t_fault : Int32) (t_number0 : Int32) (t_open : Int32) (t_codeMany : Int32) (t_waiting : Int32) (t_saidMany : Int32) (t_clauses : Int32) (t_newMany : Int32) (t_lines : Int32) (t_stoodNow : Int32) (t_lastSeat : Int32) (t_climbedNow : Int32) (t_isKept : Int32) (t_now : (Nat → Int32)) (t_kept : (Nat → Int32)) : va_W := [(a_t, .inr (11, [.ref a_t_now, .ref a_t_aside, .ref a_t_kept, .ref a_t_tape, .int t_taped, .int t_place0, .int t_length0, .int t_fault, .int t_number0, .int t_open, .int t_codeMany, .int t_waiting, .int t_saidMany, .int t_clauses, .ref a_t_said, .ref a_t_waitsAt, .ref a_t_saidLetter, .ref a_t_saidFrom, .ref a_t_saidHalf, .ref a_t_saidTo, .ref a_t_codes, .ref a_t_clauseOf, .ref a_t_codeFrom, .ref a_t_codeHalf, .ref a_t_codeTo, .ref a_t_stack, .ref a_t_facts, .ref a_t_newLine, .int t_newMany, .int t_lines, .int t_stoodNow, .int t_lastSeat, .int t_climbedNow, .ref a_t_canSit, .ref a_t_canNext, .ref a_t_singersIn, .ref a_t_freeAt, .ref a_t_beginsAt, .ref a_t_leastBy, .ref a_t_mostBy, .ref a_t_mostNext, .ref a_t_risesTo, .int t_isKept])), (a_t_now, .inl (cI, 637, .inl t_now)), (a_t_kept, .inl (cI, 637, .inl t_kept))]
set_option maxHeartbeats 4000000 in
set_option maxRecDepth 100000 in
theorem b_X12_undo {p : Program} {l : Launch} {e : Env} {R : Room} {s : State} {m : MethodId} {args : Array Value} {below : List Frame} {meth : Method} {c : Code} {Q : State → Prop} {D : va_G} {cI cB cZ : ClassId} (hx : p.tables.exec = Jvm.exec) (hb : c.code = cX12_undo) (hml : c.maxLocals = 1) (hown : s.vm.findClass RX12 = some m.cls) (hT : ∀ w ∈ TB, w.before args s = true) (hRf : (1) ≤ R.frames) (hRl : (22) ≤ R.locals) (hK : va_K D vwCl (tyL cI cB cZ) s) (hN : NW s) {A : Nat → Prop} (hA : ∀ q : Nat, s.heap.size ≤ q → A q) (H : Heap) (locs : List Loc)  (a_t : Nat) (a_t_now : Nat) (a_t_kept : Nat) (a_t_aside : Nat) (a_t_tape : Nat) (a_t_said : Nat) (a_t_waitsAt : Nat) (a_t_saidLetter : Nat) (a_t_saidFrom : Nat) (a_t_saidHalf : Nat) (a_t_saidTo : Nat) (a_t_codes : Nat) (a_t_clauseOf : Nat) (a_t_codeFrom : Nat) (a_t_codeHalf : Nat) (a_t_codeTo : Nat) (a_t_stack : Nat) (a_t_facts : Nat) (a_t_newLine : Nat) (a_t_canSit : Nat) (a_t_canNext : Nat) (a_t_singersIn : Nat) (a_t_freeAt : Nat) (a_t_beginsAt : Nat) (a_t_leastBy : Nat) (a_t_mostBy : Nat) (a_t_mostNext : Nat) (a_t_risesTo : Nat) (t_taped : Int32) (t_place0 : Int32) (t_length0 : Int32) (t_fault : Int32) (t_number0 : Int32) (t_open : Int32) (t_codeMany : Int32) (t_waiting : Int32) (t_saidMany : Int32) (t_clauses : Int32) (t_newMany : Int32) (t_lines : Int32) (t_stoodNow : Int32) (t_lastSeat : Int32) (t_climbedNow : Int32) (t_isKept : Int32) (t_now : (Nat → Int32)) (t_kept : (Nat → Int32)) (res : Int32 × (Nat → Int32)) (hf : f_X12_undo t_isKept t_now t_kept = some res) (hP : va_P D vwCl (w_X12_undo cI cB cZ a_t a_t_now a_t_kept a_t_aside a_t_tape a_t_said a_t_waitsAt a_t_saidLetter a_t_saidFrom a_t_saidHalf a_t_saidTo a_t_codes a_t_clauseOf a_t_codeFrom a_t_codeHalf a_t_codeTo a_t_stack a_t_facts a_t_newLine a_t_canSit a_t_canNext a_t_singersIn a_t_freeAt a_t_beginsAt a_t_leastBy a_t_mostBy a_t_mostNext a_t_risesTo t_taped t_place0 t_length0 t_fault t_number0 t_open t_codeMany t_waiting t_saidMany t_clauses t_newMany t_lines t_stoodNow t_lastSeat t_climbedNow t_isKept t_now t_kept) H) (hD : va_D A (w_X12_undo cI cB cZ a_t a_t_now a_t_kept a_t_aside a_t_tape a_t_said a_t_waitsAt a_t_saidLetter a_t_saidFrom a_t_saidHalf a_t_saidTo a_t_codes a_t_clauseOf a_t_codeFrom a_t_codeHalf a_t_codeTo a_t_stack a_t_facts a_t_newLine a_t_canSit a_t_canNext a_t_singersIn a_t_freeAt a_t_beginsAt a_t_leastBy a_t_mostBy a_t_mostNext a_t_risesTo t_taped t_place0 t_length0 t_fault t_number0 t_open t_codeMany t_waiting t_saidMany t_clauses t_newMany t_lines t_stoodNow t_lastSeat t_climbedNow t_isKept t_now t_kept)) (hS : va_S A s.heap H locs) (hQ : ∀ (H : Heap) (locs : List Loc) (pc : Nat) (ls : Array Slot), va_P D vwCl (w_X12_undo cI cB cZ a_t a_t_now a_t_kept a_t_aside a_t_tape a_t_said a_t_waitsAt a_t_saidLetter a_t_saidFrom a_t_saidHalf a_t_saidTo a_t_codes a_t_clauseOf a_t_codeFrom a_t_codeHalf a_t_codeTo a_t_stack a_t_facts a_t_newLine a_t_canSit a_t_canNext a_t_singersIn a_t_freeAt a_t_beginsAt a_t_leastBy a_t_mostBy a_t_mostNext a_t_risesTo t_taped t_place0 t_length0 t_fault t_number0 t_open t_codeMany t_waiting t_saidMany t_clauses t_newMany t_lines t_stoodNow t_lastSeat t_climbedNow t_isKept res.2 t_kept) H → va_D A (w_X12_undo cI cB cZ a_t a_t_now a_t_kept a_t_aside a_t_tape a_t_said a_t_waitsAt a_t_saidLetter a_t_saidFrom a_t_saidHalf a_t_saidTo a_t_codes a_t_clauseOf a_t_codeFrom a_t_codeHalf a_t_codeTo a_t_stack a_t_facts a_t_newLine a_t_canSit a_t_canNext a_t_singersIn a_t_freeAt a_t_beginsAt a_t_leastBy a_t_mostBy a_t_mostNext a_t_risesTo t_taped t_place0 t_length0 t_fault t_number0 t_open t_codeMany t_waiting t_saidMany t_clauses t_newMany t_lines t_stoodNow t_lastSeat t_climbedNow t_isKept res.2 t_kept) → va_S A s.heap H locs → (res.1 = 0 ∨ res.1 = 1) → decode cX12_undo pc = .ok (.ireturn, 1) → W p l e R s m args below meth c H locs 0 0 Q (F0 m pc ls [.int res.1])) (ls : Array Slot) (hl : lv_has ls 1 [(0, .ref a_t)]) : W p l e R s m args below meth c H locs 0 0 Q (F0 m 0 ls []) := by
  unfold f_X12_undo at hf
  refine lv_aload_n hx hb dX12_undo_0 rfl (lv_at hl 0 rfl) ?_
  refine va_get (D := D) (ci := 11) (v := .int t_isKept) (C := RX12) (T := TX12) (N := 43) hx hb hT inX12 hown hK hP 0 rfl rfl 42 (by decide) (hT _ tb_1190) (fun _ h9 => h9) rfl dX12_undo_1 ?_
  refine lv_if_ne (tgt := 9) hx hb dX12_undo_4 (by decide) (fun hc_4 => ?_) (fun hc_4 => ?_)
  · have hf := it_neg hc_4 hf
    refine lv_aload_n hx hb dX12_undo_9 rfl (lv_at hl 0 rfl) ?_
    refine va_get (D := D) (ci := 11) (v := .ref a_t_kept) (C := RX12) (T := TX12) (N := 43) hx hb hT inX12 hown hK hP 0 rfl rfl 2 (by decide) (hT _ tb_1150) (fun _ h9 => h9) rfl dX12_undo_10 ?_
    refine lv_aload_n hx hb dX12_undo_13 rfl (lv_at hl 0 rfl) ?_
    refine va_get (D := D) (ci := 11) (v := .ref a_t_now) (C := RX12) (T := TX12) (N := 43) hx hb hT inX12 hown hK hP 0 rfl rfl 0 (by decide) (hT _ tb_1148) (fun _ h9 => h9) rfl dX12_undo_14 ?_
    obtain ⟨z17, e17, hf⟩ := bd_some hf
    refine rS_RW (As := [.ref a_t_kept, .ref a_t_now]) (rest := []) (w2 := (w_X12_undo cI cB cZ a_t a_t_now a_t_kept a_t_aside a_t_tape a_t_said a_t_waitsAt a_t_saidLetter a_t_saidFrom a_t_saidHalf a_t_saidTo a_t_codes a_t_clauseOf a_t_codeFrom a_t_codeHalf a_t_codeTo a_t_stack a_t_facts a_t_newLine a_t_canSit a_t_canNext a_t_singersIn a_t_freeAt a_t_beginsAt a_t_leastBy a_t_mostBy a_t_mostNext a_t_risesTo t_taped t_place0 t_length0 t_fault t_number0 t_open t_codeMany t_waiting t_saidMany t_clauses t_newMany t_lines t_stoodNow t_lastSeat t_climbedNow t_isKept z17 t_kept)) ⟨hx, hb, hml, hown, hT⟩ (gdS tb_1393 tb_1394 tb_97 tb_1395) hd_X12_copies (c_X12_copies l D cI cB cZ a_t_kept a_t_now t_kept t_now H.size z17 e17) ⟨rfl, rfl⟩ ⟨Nat.le_trans (by decide) hRf, Nat.le_trans (by decide) hRl⟩ ⟨hK, hN⟩ hA hP hD hS [2, 1] [0] rfl (by decide) (wr := [_]) rfl (by decide) (by decide) [0, 2, 1] rfl (by decide) rfl hl.1 rfl (Nat.le_of_ble_eq_true rfl) ⟨Nat.zero_le _, Nat.zero_le _⟩ dX12_undo_17 (fun H locs hP hD hS _ => ?_)
    refine lv_iconst (v := 1) hx hb dX12_undo_20 (by decide) ?_
    obtain rfl := Option.some.inj hf
    exact hQ H locs 21 ls hP hD hS (Or.inr rfl) dX12_undo_21
  · have hf := it_pos hc_4 hf
    refine lv_iconst (v := 0) hx hb dX12_undo_7 (by decide) ?_
    obtain rfl := Option.some.inj hf
    exact hQ H locs 8 ls hP hD hS (Or.inl rfl) dX12_undo_8
theorem hd_X12_undo : (yX12_undo).cls = RX12 ∧ (yX12_undo).cls ≠ "java/lang/invoke/MethodHandle" ∧ (yX12_undo).cls ≠ "java/lang/invoke/VarHandle" ∧ (parseMethodDescriptor (yX12_undo).desc).map (fun d => d.parameters.length) = some 0 := by decide +kernel
theorem c_X12_undo (l : Launch) (D : va_G) (cI cB cZ : ClassId) (a_t : Nat) (a_t_now : Nat) (a_t_kept : Nat) (a_t_aside : Nat) (a_t_tape : Nat) (a_t_said : Nat) (a_t_waitsAt : Nat) (a_t_saidLetter : Nat) (a_t_saidFrom : Nat) (a_t_saidHalf : Nat) (a_t_saidTo : Nat) (a_t_codes : Nat) (a_t_clauseOf : Nat) (a_t_codeFrom : Nat) (a_t_codeHalf : Nat) (a_t_codeTo : Nat) (a_t_stack : Nat) (a_t_facts : Nat) (a_t_newLine : Nat) (a_t_canSit : Nat) (a_t_canNext : Nat) (a_t_singersIn : Nat) (a_t_freeAt : Nat) (a_t_beginsAt : Nat) (a_t_leastBy : Nat) (a_t_mostBy : Nat) (a_t_mostNext : Nat) (a_t_risesTo : Nat) (t_taped : Int32) (t_place0 : Int32) (t_length0 : Int32) (t_fault : Int32) (t_number0 : Int32) (t_open : Int32) (t_codeMany : Int32) (t_waiting : Int32) (t_saidMany : Int32) (t_clauses : Int32) (t_newMany : Int32) (t_lines : Int32) (t_stoodNow : Int32) (t_lastSeat : Int32) (t_climbedNow : Int32) (t_isKept : Int32) (t_now : (Nat → Int32)) (t_kept : (Nat → Int32)) (sz : Nat) (res : Int32 × (Nat → Int32)) (hf : f_X12_undo t_isKept t_now t_kept = some res) : Met l yX12_undo (.code yX12_undo cX12_undo 1 (some .boolean) :: TB) (rmk (1) (22)) (pRW [.ref a_t] D cI cB cZ (w_X12_undo cI cB cZ a_t a_t_now a_t_kept a_t_aside a_t_tape a_t_said a_t_waitsAt a_t_saidLetter a_t_saidFrom a_t_saidHalf a_t_saidTo a_t_codes a_t_clauseOf a_t_codeFrom a_t_codeHalf a_t_codeTo a_t_stack a_t_facts a_t_newLine a_t_canSit a_t_canNext a_t_singersIn a_t_freeAt a_t_beginsAt a_t_leastBy a_t_mostBy a_t_mostNext a_t_risesTo t_taped t_place0 t_length0 t_fault t_number0 t_open t_codeMany t_waiting t_saidMany t_clauses t_newMany t_lines t_stoodNow t_lastSeat t_climbedNow t_isKept t_now t_kept) sz) (qRW (some (.int res.1)) (res.1 = 0 ∨ res.1 = 1) D (w_X12_undo cI cB cZ a_t a_t_now a_t_kept a_t_aside a_t_tape a_t_said a_t_waitsAt a_t_saidLetter a_t_saidFrom a_t_saidHalf a_t_saidTo a_t_codes a_t_clauseOf a_t_codeFrom a_t_codeHalf a_t_codeTo a_t_stack a_t_facts a_t_newLine a_t_canSit a_t_canNext a_t_singersIn a_t_freeAt a_t_beginsAt a_t_leastBy a_t_mostBy a_t_mostNext a_t_risesTo t_taped t_place0 t_length0 t_fault t_number0 t_open t_codeMany t_waiting t_saidMany t_clauses t_newMany t_lines t_stoodNow t_lastSeat t_climbedNow t_isKept t_now t_kept) sz (w_X12_undo cI cB cZ a_t a_t_now a_t_kept a_t_aside a_t_tape a_t_said a_t_waitsAt a_t_saidLetter a_t_saidFrom a_t_saidHalf a_t_saidTo a_t_codes a_t_clauseOf a_t_codeFrom a_t_codeHalf a_t_codeTo a_t_stack a_t_facts a_t_newLine a_t_canSit a_t_canNext a_t_singersIn a_t_freeAt a_t_beginsAt a_t_leastBy a_t_mostBy a_t_mostNext a_t_risesTo t_taped t_place0 t_length0 t_fault t_number0 t_open t_codeMany t_waiting t_saidMany t_clauses t_newMany t_lines t_stoodNow t_lastSeat t_climbedNow t_isKept res.2 t_kept)) 0 0 (va_A (w_X12_undo cI cB cZ a_t a_t_now a_t_kept a_t_aside a_t_tape a_t_said a_t_waitsAt a_t_saidLetter a_t_saidFrom a_t_saidHalf a_t_saidTo a_t_codes a_t_clauseOf a_t_codeFrom a_t_codeHalf a_t_codeTo a_t_stack a_t_facts a_t_newLine a_t_canSit a_t_canNext a_t_singersIn a_t_freeAt a_t_beginsAt a_t_leastBy a_t_mostBy a_t_mostNext a_t_risesTo t_taped t_place0 t_length0 t_fault t_number0 t_open t_codeMany t_waiting t_saidMany t_clauses t_newMany t_lines t_stoodNow t_lastSeat t_climbedNow t_isKept t_now t_kept) sz) :=
  mkRW (by decide +kernel) (Nat.le_of_ble_eq_true rfl) (fun p e s m below meth c ls A hAe S hr hlk hK hA hP hD hS hl => b_X12_undo S.1 S.2.1 S.2.2.1 S.2.2.2.1 S.2.2.2.2 (Nat.le_refl _) (Nat.le_refl _) hK.1 hK.2 hA s.heap [] a_t a_t_now a_t_kept a_t_aside a_t_tape a_t_said a_t_waitsAt a_t_saidLetter a_t_saidFrom a_t_saidHalf a_t_saidTo a_t_codes a_t_clauseOf a_t_codeFrom a_t_codeHalf a_t_codeTo a_t_stack a_t_facts a_t_newLine a_t_canSit a_t_canNext a_t_singersIn a_t_freeAt a_t_beginsAt a_t_leastBy a_t_mostBy a_t_mostNext a_t_risesTo t_taped t_place0 t_length0 t_fault t_number0 t_open t_codeMany t_waiting t_saidMany t_clauses t_newMany t_lines t_stoodNow t_lastSeat t_climbedNow t_isKept t_now t_kept res hf hP hD hS (fun H locs pc ls hP hD hS hE hd => eRW_i S.1 S.2.1 hr (nz_ok hE) hlk hAe hP hD hS hE hd) ls hl)
def f_X12_check_37 (t_now : (Nat → Int32)) (t_tape : (Nat → Int32)) : Nat → Int32 → Int32 → Int32 → Int32 → Option (Int32 × Int32)
  | 0, _, _, _, _ => none
  | n + 1, x1, x2, x3, t_taped => (if x2 ≤ x3 then some ((-1), t_taped) else (f_X12_octet t_tape x3).bind (fun z44 => (f_X12_sittersIn t_now ((8 * x1) + x3)).bind (fun z54 => (if z44 = z54 then (f_X12_check_37 t_now t_tape n) x1 x2 (x3 + 1) t_taped else some (x3, t_taped)))))
def f_X12_check (t_taped : Int32) (t_now : (Nat → Int32)) (t_tape : (Nat → Int32)) (x1 : Int32) (x2 : Int32) : Option (Int32 × Int32) := (f_X12_in x1 0 1).bind (fun z3 => (if z3 = 0 then some ((-2), t_taped) else (f_X12_in x2 0 8).bind (fun z13 => (if z13 = 0 then some ((-2), t_taped) else (if x2 ≤ t_taped then f_X12_check_37 t_now t_tape FU x1 x2 0 0 else some ((-2), t_taped))))))
def w_X12_check (cI cB cZ : ClassId) (a_t : Nat) (a_t_now : Nat) (a_t_tape : Nat) (a_t_aside : Nat) (a_t_kept : Nat) (a_t_said : Nat) (a_t_waitsAt : Nat) (a_t_saidLetter : Nat) (a_t_saidFrom : Nat) (a_t_saidHalf : Nat) (a_t_saidTo : Nat) (a_t_codes : Nat) (a_t_clauseOf : Nat) (a_t_codeFrom : Nat) (a_t_codeHalf : Nat) (a_t_codeTo : Nat) (a_t_stack : Nat) (a_t_facts : Nat) (a_t_newLine : Nat) (a_t_canSit : Nat) (a_t_canNext : Nat) (a_t_singersIn : Nat) (a_t_freeAt : Nat) (a_t_beginsAt : Nat) (a_t_leastBy : Nat) (a_t_mostBy : Nat) (a_t_mostNext : Nat) (a_t_risesTo : Nat) (t_taped : Int32) (t_place0 : Int32) (t_length0 : Int32) (t_fault : Int32) (t_number0 : Int32) (t_open : Int32) (t_codeMany : Int32) (t_waiting : Int32) (t_saidMany : Int32) (t_clauses : Int32) (t_newMany : Int32) (t_lines : Int32) (t_stoodNow : Int32) (t_lastSeat : Int32) (t_climbedNow : Int32) (t_isKept : Int32) (t_now : (Nat → Int32)) (t_tape : (Nat → Int32)) : va_W := [(a_t, .inr (11, [.ref a_t_now, .ref a_t_aside, .ref a_t_kept, .ref a_t_tape, .int t_taped, .int t_place0, .int t_length0, .int t_fault, .int t_number0, .int t_open, .int t_codeMany, .int t_waiting, .int t_saidMany, .int t_clauses, .ref a_t_said, .ref a_t_waitsAt, .ref a_t_saidLetter, .ref a_t_saidFrom, .ref a_t_saidHalf, .ref a_t_saidTo, .ref a_t_codes, .ref a_t_clauseOf, .ref a_t_codeFrom, .ref a_t_codeHalf, .ref a_t_codeTo, .ref a_t_stack, .ref a_t_facts, .ref a_t_newLine, .int t_newMany, .int t_lines, .int t_stoodNow, .int t_lastSeat, .int t_climbedNow, .ref a_t_canSit, .ref a_t_canNext, .ref a_t_singersIn, .ref a_t_freeAt, .ref a_t_beginsAt, .ref a_t_leastBy, .ref a_t_mostBy, .ref a_t_mostNext, .ref a_t_risesTo, .int t_isKept])), (a_t_now, .inl (cI, 637, .inl t_now)), (a_t_tape, .inl (cB, 260, .inl t_tape))]
set_option maxHeartbeats 4000000 in
set_option maxRecDepth 100000 in
theorem b_X12_check {p : Program} {l : Launch} {e : Env} {R : Room} {s : State} {m : MethodId} {args : Array Value} {below : List Frame} {meth : Method} {c : Code} {Q : State → Prop} {D : va_G} {cI cB cZ : ClassId} (hx : p.tables.exec = Jvm.exec) (hb : c.code = cX12_check) (hml : c.maxLocals = 4) (hown : s.vm.findClass RX12 = some m.cls) (hT : ∀ w ∈ TB, w.before args s = true) (hRf : (2) ≤ R.frames) (hRl : (44) ≤ R.locals) (hK : va_K D vwCl (tyL cI cB cZ) s) (hN : NW s) {A : Nat → Prop} (hA : ∀ q : Nat, s.heap.size ≤ q → A q) (H : Heap) (locs : List Loc)  (a_t : Nat) (a_t_now : Nat) (a_t_tape : Nat) (a_t_aside : Nat) (a_t_kept : Nat) (a_t_said : Nat) (a_t_waitsAt : Nat) (a_t_saidLetter : Nat) (a_t_saidFrom : Nat) (a_t_saidHalf : Nat) (a_t_saidTo : Nat) (a_t_codes : Nat) (a_t_clauseOf : Nat) (a_t_codeFrom : Nat) (a_t_codeHalf : Nat) (a_t_codeTo : Nat) (a_t_stack : Nat) (a_t_facts : Nat) (a_t_newLine : Nat) (a_t_canSit : Nat) (a_t_canNext : Nat) (a_t_singersIn : Nat) (a_t_freeAt : Nat) (a_t_beginsAt : Nat) (a_t_leastBy : Nat) (a_t_mostBy : Nat) (a_t_mostNext : Nat) (a_t_risesTo : Nat) (t_taped : Int32) (t_place0 : Int32) (t_length0 : Int32) (t_fault : Int32) (t_number0 : Int32) (t_open : Int32) (t_codeMany : Int32) (t_waiting : Int32) (t_saidMany : Int32) (t_clauses : Int32) (t_newMany : Int32) (t_lines : Int32) (t_stoodNow : Int32) (t_lastSeat : Int32) (t_climbedNow : Int32) (t_isKept : Int32) (t_now : (Nat → Int32)) (t_tape : (Nat → Int32)) (x1 : Int32) (x2 : Int32) (res : Int32 × Int32) (hf : f_X12_check t_taped t_now t_tape x1 x2 = some res) (hP : va_P D vwCl (w_X12_check cI cB cZ a_t a_t_now a_t_tape a_t_aside a_t_kept a_t_said a_t_waitsAt a_t_saidLetter a_t_saidFrom a_t_saidHalf a_t_saidTo a_t_codes a_t_clauseOf a_t_codeFrom a_t_codeHalf a_t_codeTo a_t_stack a_t_facts a_t_newLine a_t_canSit a_t_canNext a_t_singersIn a_t_freeAt a_t_beginsAt a_t_leastBy a_t_mostBy a_t_mostNext a_t_risesTo t_taped t_place0 t_length0 t_fault t_number0 t_open t_codeMany t_waiting t_saidMany t_clauses t_newMany t_lines t_stoodNow t_lastSeat t_climbedNow t_isKept t_now t_tape) H) (hD : va_D A (w_X12_check cI cB cZ a_t a_t_now a_t_tape a_t_aside a_t_kept a_t_said a_t_waitsAt a_t_saidLetter a_t_saidFrom a_t_saidHalf a_t_saidTo a_t_codes a_t_clauseOf a_t_codeFrom a_t_codeHalf a_t_codeTo a_t_stack a_t_facts a_t_newLine a_t_canSit a_t_canNext a_t_singersIn a_t_freeAt a_t_beginsAt a_t_leastBy a_t_mostBy a_t_mostNext a_t_risesTo t_taped t_place0 t_length0 t_fault t_number0 t_open t_codeMany t_waiting t_saidMany t_clauses t_newMany t_lines t_stoodNow t_lastSeat t_climbedNow t_isKept t_now t_tape)) (hS : va_S A s.heap H locs) (hQ : ∀ (H : Heap) (locs : List Loc) (pc : Nat) (ls : Array Slot), va_P D vwCl (w_X12_check cI cB cZ a_t a_t_now a_t_tape a_t_aside a_t_kept a_t_said a_t_waitsAt a_t_saidLetter a_t_saidFrom a_t_saidHalf a_t_saidTo a_t_codes a_t_clauseOf a_t_codeFrom a_t_codeHalf a_t_codeTo a_t_stack a_t_facts a_t_newLine a_t_canSit a_t_canNext a_t_singersIn a_t_freeAt a_t_beginsAt a_t_leastBy a_t_mostBy a_t_mostNext a_t_risesTo res.2 t_place0 t_length0 t_fault t_number0 t_open t_codeMany t_waiting t_saidMany t_clauses t_newMany t_lines t_stoodNow t_lastSeat t_climbedNow t_isKept t_now t_tape) H → va_D A (w_X12_check cI cB cZ a_t a_t_now a_t_tape a_t_aside a_t_kept a_t_said a_t_waitsAt a_t_saidLetter a_t_saidFrom a_t_saidHalf a_t_saidTo a_t_codes a_t_clauseOf a_t_codeFrom a_t_codeHalf a_t_codeTo a_t_stack a_t_facts a_t_newLine a_t_canSit a_t_canNext a_t_singersIn a_t_freeAt a_t_beginsAt a_t_leastBy a_t_mostBy a_t_mostNext a_t_risesTo res.2 t_place0 t_length0 t_fault t_number0 t_open t_codeMany t_waiting t_saidMany t_clauses t_newMany t_lines t_stoodNow t_lastSeat t_climbedNow t_isKept t_now t_tape) → va_S A s.heap H locs → True → decode cX12_check pc = .ok (.ireturn, 1) → W p l e R s m args below meth c H locs 0 0 Q (F0 m pc ls [.int res.1])) (ls : Array Slot) (hl : lv_has ls 4 [(0, .ref a_t), (1, .int x1), (2, .int x2)]) : W p l e R s m args below meth c H locs 0 0 Q (F0 m 0 ls []) := by
  unfold f_X12_check at hf
  refine lv_iload_n hx hb dX12_check_0 rfl (lv_at hl 1 rfl) ?_
  refine lv_iconst (v := 0) hx hb dX12_check_1 (by decide) ?_
  refine lv_iconst (v := 1) hx hb dX12_check_2 (by decide) ?_
  obtain ⟨z3, e3, hf⟩ := bd_some hf
  refine rS_RO (As := [.int x1, .int 0, .int 1]) (rest := []) ⟨hx, hb, hml, hown, hT⟩ (gdS tb_1283 tb_1284 tb_97 tb_1285) hd_X12_in (c_X12_in l D cI cB cZ x1 0 1 z3 e3) ⟨rfl, rfl⟩ ⟨Nat.le_trans (by decide) hRf, Nat.le_trans (by decide) hRl⟩ ⟨hK, hN⟩ hP [] rfl rfl hl.1 rfl (Nat.le_of_ble_eq_true rfl) ⟨Nat.zero_le _, Nat.zero_le _⟩ dX12_check_3 (fun hz_3 => ?_)
  refine lv_if_eq (tgt := 27) hx hb dX12_check_6 (by decide) (fun hc_6 => ?_) (fun hc_6 => ?_)
  · have hf := it_pos hc_6 hf
    refine lv_bipush (v := (-2)) hx hb dX12_check_27 (by decide) ?_
    obtain rfl := Option.some.inj hf
    exact hQ H locs 29 ls hP hD hS trivial dX12_check_29
  · have hf := it_neg hc_6 hf
    refine lv_iload_n hx hb dX12_check_9 rfl (lv_at hl 2 rfl) ?_
    refine lv_iconst (v := 0) hx hb dX12_check_10 (by decide) ?_
    refine lv_bipush (v := 8) hx hb dX12_check_11 (by decide) ?_
    obtain ⟨z13, e13, hf⟩ := bd_some hf
    refine rS_RO (As := [.int x2, .int 0, .int 8]) (rest := []) ⟨hx, hb, hml, hown, hT⟩ (gdS tb_1283 tb_1284 tb_97 tb_1285) hd_X12_in (c_X12_in l D cI cB cZ x2 0 8 z13 e13) ⟨rfl, rfl⟩ ⟨Nat.le_trans (by decide) hRf, Nat.le_trans (by decide) hRl⟩ ⟨hK, hN⟩ hP [] rfl rfl hl.1 rfl (Nat.le_of_ble_eq_true rfl) ⟨Nat.zero_le _, Nat.zero_le _⟩ dX12_check_13 (fun hz_13 => ?_)
    refine lv_if_eq (tgt := 27) hx hb dX12_check_16 (by decide) (fun hc_16 => ?_) (fun hc_16 => ?_)
    · have hf := it_pos hc_16 hf
      refine lv_bipush (v := (-2)) hx hb dX12_check_27 (by decide) ?_
      obtain rfl := Option.some.inj hf
      exact hQ H locs 29 ls hP hD hS trivial dX12_check_29
    · have hf := it_neg hc_16 hf
      refine lv_iload_n hx hb dX12_check_19 rfl (lv_at hl 2 rfl) ?_
      refine lv_aload_n hx hb dX12_check_20 rfl (lv_at hl 0 rfl) ?_
      refine va_get (D := D) (ci := 11) (v := .int t_taped) (C := RX12) (T := TX12) (N := 43) hx hb hT inX12 hown hK hP 0 rfl rfl 4 (by decide) (hT _ tb_1152) (fun _ h9 => h9) rfl dX12_check_21 ?_
      refine lv_icmp_le (tgt := 30) hx hb dX12_check_24 (by decide) (fun hc_24 => ?_) (fun hc_24 => ?_)
      · have hf := it_pos hc_24 hf
        refine lv_aload_n hx hb dX12_check_30 rfl (lv_at hl 0 rfl) ?_
        refine lv_iconst (v := 0) hx hb dX12_check_31 (by decide) ?_
        refine va_put (D := D) (ci := 11) (v := .int 0) (ty := (.int)) (C := RX12) (T := TX12) (N := 43) hx hb hT inX12 tyX12 tyX12_ok nmX12 hown hK hP hD hS 0 rfl rfl 4 (by decide) (hT _ tb_1152) (fun _ h9 => h9) rfl (by decide +kernel) rfl rfl (Nat.le_of_ble_eq_true rfl) dX12_check_32 (fun H locs hP hD hS => ?_)
        have hP : va_P D vwCl (w_X12_check cI cB cZ a_t a_t_now a_t_tape a_t_aside a_t_kept a_t_said a_t_waitsAt a_t_saidLetter a_t_saidFrom a_t_saidHalf a_t_saidTo a_t_codes a_t_clauseOf a_t_codeFrom a_t_codeHalf a_t_codeTo a_t_stack a_t_facts a_t_newLine a_t_canSit a_t_canNext a_t_singersIn a_t_freeAt a_t_beginsAt a_t_leastBy a_t_mostBy a_t_mostNext a_t_risesTo 0 t_place0 t_length0 t_fault t_number0 t_open t_codeMany t_waiting t_saidMany t_clauses t_newMany t_lines t_stoodNow t_lastSeat t_climbedNow t_isKept t_now t_tape) H := hP
        have hD : va_D A (w_X12_check cI cB cZ a_t a_t_now a_t_tape a_t_aside a_t_kept a_t_said a_t_waitsAt a_t_saidLetter a_t_saidFrom a_t_saidHalf a_t_saidTo a_t_codes a_t_clauseOf a_t_codeFrom a_t_codeHalf a_t_codeTo a_t_stack a_t_facts a_t_newLine a_t_canSit a_t_canNext a_t_singersIn a_t_freeAt a_t_beginsAt a_t_leastBy a_t_mostBy a_t_mostNext a_t_risesTo 0 t_place0 t_length0 t_fault t_number0 t_open t_codeMany t_waiting t_saidMany t_clauses t_newMany t_lines t_stoodNow t_lastSeat t_climbedNow t_isKept t_now t_tape) := hD
        refine lv_iconst (v := 0) hx hb dX12_check_35 (by decide) ?_
        have J_37 : ∀ (n_37 : Nat) (x1 : Int32) (x2 : Int32) (x3 : Int32) (t_taped : Int32) (H : Heap) (locs : List Loc) (ls : Array Slot), f_X12_check_37 t_now t_tape n_37 x1 x2 x3 t_taped = some res → va_P D vwCl (w_X12_check cI cB cZ a_t a_t_now a_t_tape a_t_aside a_t_kept a_t_said a_t_waitsAt a_t_saidLetter a_t_saidFrom a_t_saidHalf a_t_saidTo a_t_codes a_t_clauseOf a_t_codeFrom a_t_codeHalf a_t_codeTo a_t_stack a_t_facts a_t_newLine a_t_canSit a_t_canNext a_t_singersIn a_t_freeAt a_t_beginsAt a_t_leastBy a_t_mostBy a_t_mostNext a_t_risesTo t_taped t_place0 t_length0 t_fault t_number0 t_open t_codeMany t_waiting t_saidMany t_clauses t_newMany t_lines t_stoodNow t_lastSeat t_climbedNow t_isKept t_now t_tape) H → va_D A (w_X12_check cI cB cZ a_t a_t_now a_t_tape a_t_aside a_t_kept a_t_said a_t_waitsAt a_t_saidLetter a_t_saidFrom a_t_saidHalf a_t_saidTo a_t_codes a_t_clauseOf a_t_codeFrom a_t_codeHalf a_t_codeTo a_t_stack a_t_facts a_t_newLine a_t_canSit a_t_canNext a_t_singersIn a_t_freeAt a_t_beginsAt a_t_leastBy a_t_mostBy a_t_mostNext a_t_risesTo t_taped t_place0 t_length0 t_fault t_number0 t_open t_codeMany t_waiting t_saidMany t_clauses t_newMany t_lines t_stoodNow t_lastSeat t_climbedNow t_isKept t_now t_tape) → va_S A s.heap H locs → lv_has ls 4 [(0, .ref a_t), (1, .int x1), (2, .int x2), (3, .int x3)] → W p l e R s m args below meth c H locs 0 0 Q (F0 m 37 ls []) := by
          intro n_37
          induction n_37 with
          | zero =>
            intro x1 x2 x3 t_taped H locs ls hf hP hD hS hl
            cases hf
          | succ n_37 ih_37 =>
            intro x1 x2 x3 t_taped H locs ls hf hP hD hS hl
            unfold f_X12_check_37 at hf
            refine lv_iload_n hx hb dX12_check_37 rfl (lv_at hl 3 rfl) ?_
            refine lv_iload_n hx hb dX12_check_38 rfl (lv_at hl 2 rfl) ?_
            refine lv_icmp_ge (tgt := 68) hx hb dX12_check_39 (by decide) (fun hc_39 => ?_) (fun hc_39 => ?_)
            · have hf := it_pos hc_39 hf
              refine lv_iconst (v := (-1)) hx hb dX12_check_68 (by decide) ?_
              obtain rfl := Option.some.inj hf
              exact hQ H locs 69 ls hP hD hS trivial dX12_check_69
            · have hf := it_neg hc_39 hf
              refine lv_aload_n hx hb dX12_check_42 rfl (lv_at hl 0 rfl) ?_
              refine lv_iload_n hx hb dX12_check_43 rfl (lv_at hl 3 rfl) ?_
              obtain ⟨z44, e44, hf⟩ := bd_some hf
              refine rV_RO (As := [.int x3]) (rest := []) ⟨hx, hb, hml, hown, hT⟩ (gdV tb_1566 tb_1568 tb_80 tb_97 tb_1569) hd_X12_octet (c_X12_octet l D cI cB cZ a_t a_t_tape a_t_now a_t_aside a_t_kept a_t_said a_t_waitsAt a_t_saidLetter a_t_saidFrom a_t_saidHalf a_t_saidTo a_t_codes a_t_clauseOf a_t_codeFrom a_t_codeHalf a_t_codeTo a_t_stack a_t_facts a_t_newLine a_t_canSit a_t_canNext a_t_singersIn a_t_freeAt a_t_beginsAt a_t_leastBy a_t_mostBy a_t_mostNext a_t_risesTo t_taped t_place0 t_length0 t_fault t_number0 t_open t_codeMany t_waiting t_saidMany t_clauses t_newMany t_lines t_stoodNow t_lastSeat t_climbedNow t_isKept t_tape x3 z44 e44) ⟨rfl, rfl⟩ ⟨Nat.le_trans (by decide) hRf, Nat.le_trans (by decide) hRl⟩ ⟨hK, hN⟩ hP [0, 2] rfl 0 rfl rfl rfl hl.1 rfl (Nat.le_of_ble_eq_true rfl) ⟨Nat.zero_le _, Nat.zero_le _⟩ dX12_check_44 (fun _ => ?_)
              refine lv_aload_n hx hb dX12_check_47 rfl (lv_at hl 0 rfl) ?_
              refine lv_bipush (v := 8) hx hb dX12_check_48 (by decide) ?_
              refine lv_iload_n hx hb dX12_check_50 rfl (lv_at hl 1 rfl) ?_
              refine lv_imul hx hb dX12_check_51 ?_
              refine lv_iload_n hx hb dX12_check_52 rfl (lv_at hl 3 rfl) ?_
              refine lv_iadd hx hb dX12_check_53 ?_
              obtain ⟨z54, e54, hf⟩ := bd_some hf
              refine rV_RO (As := [.int ((8 * x1) + x3)]) (rest := [.int z44]) ⟨hx, hb, hml, hown, hT⟩ (gdV tb_1447 tb_1449 tb_62 tb_97 tb_1450) hd_X12_sittersIn (c_X12_sittersIn l D cI cB cZ a_t a_t_now a_t_aside a_t_kept a_t_tape a_t_said a_t_waitsAt a_t_saidLetter a_t_saidFrom a_t_saidHalf a_t_saidTo a_t_codes a_t_clauseOf a_t_codeFrom a_t_codeHalf a_t_codeTo a_t_stack a_t_facts a_t_newLine a_t_canSit a_t_canNext a_t_singersIn a_t_freeAt a_t_beginsAt a_t_leastBy a_t_mostBy a_t_mostNext a_t_risesTo t_taped t_place0 t_length0 t_fault t_number0 t_open t_codeMany t_waiting t_saidMany t_clauses t_newMany t_lines t_stoodNow t_lastSeat t_climbedNow t_isKept t_now ((8 * x1) + x3) z54 e54) ⟨rfl, rfl⟩ ⟨Nat.le_trans (by decide) hRf, Nat.le_trans (by decide) hRl⟩ ⟨hK, hN⟩ hP [0, 1] rfl 0 rfl rfl rfl hl.1 rfl (Nat.le_of_ble_eq_true rfl) ⟨Nat.zero_le _, Nat.zero_le _⟩ dX12_check_54 (fun _ => ?_)
              refine lv_icmp_eq (tgt := 62) hx hb dX12_check_57 (by decide) (fun hc_57 => ?_) (fun hc_57 => ?_)
              · have hf := it_pos hc_57 hf
                refine lv_iinc (v := x3 + 1) (lv' := [(3, .int (x3 + 1)), (0, .ref a_t), (1, .int x1), (2, .int x2)]) hx hb dX12_check_62 hl (k := 3) rfl (congrArg (_ + ·) (by decide : Int32.ofInt 1 = 1)) (by decide) rfl (fun ls hl => ?_)
                refine lv_goto (tgt := 37) hx hb dX12_check_65 (by decide) ?_
                exact ih_37 _ _ _ _ _ _ _ hf hP hD hS (lv_sub hl [1, 2, 3, 0] rfl)
              · have hf := it_neg hc_57 hf
                refine lv_iload_n hx hb dX12_check_60 rfl (lv_at hl 3 rfl) ?_
                obtain rfl := Option.some.inj hf
                exact hQ H locs 61 ls hP hD hS trivial dX12_check_61
        refine lv_istore_n (lv' := [(3, .int 0), (0, .ref a_t), (1, .int x1), (2, .int x2)]) hx hb dX12_check_36 rfl hl (by decide) rfl (fun ls hl => ?_)
        exact J_37 _ _ _ _ _ _ _ _ hf hP hD hS (lv_sub hl [1, 2, 3, 0] rfl)
      · have hf := it_neg hc_24 hf
        refine lv_bipush (v := (-2)) hx hb dX12_check_27 (by decide) ?_
        obtain rfl := Option.some.inj hf
        exact hQ H locs 29 ls hP hD hS trivial dX12_check_29
theorem hd_X12_check : (yX12_check).cls = RX12 ∧ (yX12_check).cls ≠ "java/lang/invoke/MethodHandle" ∧ (yX12_check).cls ≠ "java/lang/invoke/VarHandle" ∧ (parseMethodDescriptor (yX12_check).desc).map (fun d => d.parameters.length) = some 2 := by decide +kernel
theorem c_X12_check (l : Launch) (D : va_G) (cI cB cZ : ClassId) (a_t : Nat) (a_t_now : Nat) (a_t_tape : Nat) (a_t_aside : Nat) (a_t_kept : Nat) (a_t_said : Nat) (a_t_waitsAt : Nat) (a_t_saidLetter : Nat) (a_t_saidFrom : Nat) (a_t_saidHalf : Nat) (a_t_saidTo : Nat) (a_t_codes : Nat) (a_t_clauseOf : Nat) (a_t_codeFrom : Nat) (a_t_codeHalf : Nat) (a_t_codeTo : Nat) (a_t_stack : Nat) (a_t_facts : Nat) (a_t_newLine : Nat) (a_t_canSit : Nat) (a_t_canNext : Nat) (a_t_singersIn : Nat) (a_t_freeAt : Nat) (a_t_beginsAt : Nat) (a_t_leastBy : Nat) (a_t_mostBy : Nat) (a_t_mostNext : Nat) (a_t_risesTo : Nat) (t_taped : Int32) (t_place0 : Int32) (t_length0 : Int32) (t_fault : Int32) (t_number0 : Int32) (t_open : Int32) (t_codeMany : Int32) (t_waiting : Int32) (t_saidMany : Int32) (t_clauses : Int32) (t_newMany : Int32) (t_lines : Int32) (t_stoodNow : Int32) (t_lastSeat : Int32) (t_climbedNow : Int32) (t_isKept : Int32) (t_now : (Nat → Int32)) (t_tape : (Nat → Int32)) (x1 : Int32) (x2 : Int32) (sz : Nat) (res : Int32 × Int32) (hf : f_X12_check t_taped t_now t_tape x1 x2 = some res) : Met l yX12_check (.code yX12_check cX12_check 4 (some .int) :: TB) (rmk (2) (44)) (pRW [.ref a_t, .int x1, .int x2] D cI cB cZ (w_X12_check cI cB cZ a_t a_t_now a_t_tape a_t_aside a_t_kept a_t_said a_t_waitsAt a_t_saidLetter a_t_saidFrom a_t_saidHalf a_t_saidTo a_t_codes a_t_clauseOf a_t_codeFrom a_t_codeHalf a_t_codeTo a_t_stack a_t_facts a_t_newLine a_t_canSit a_t_canNext a_t_singersIn a_t_freeAt a_t_beginsAt a_t_leastBy a_t_mostBy a_t_mostNext a_t_risesTo t_taped t_place0 t_length0 t_fault t_number0 t_open t_codeMany t_waiting t_saidMany t_clauses t_newMany t_lines t_stoodNow t_lastSeat t_climbedNow t_isKept t_now t_tape) sz) (qRW (some (.int res.1)) True D (w_X12_check cI cB cZ a_t a_t_now a_t_tape a_t_aside a_t_kept a_t_said a_t_waitsAt a_t_saidLetter a_t_saidFrom a_t_saidHalf a_t_saidTo a_t_codes a_t_clauseOf a_t_codeFrom a_t_codeHalf a_t_codeTo a_t_stack a_t_facts a_t_newLine a_t_canSit a_t_canNext a_t_singersIn a_t_freeAt a_t_beginsAt a_t_leastBy a_t_mostBy a_t_mostNext a_t_risesTo t_taped t_place0 t_length0 t_fault t_number0 t_open t_codeMany t_waiting t_saidMany t_clauses t_newMany t_lines t_stoodNow t_lastSeat t_climbedNow t_isKept t_now t_tape) sz (w_X12_check cI cB cZ a_t a_t_now a_t_tape a_t_aside a_t_kept a_t_said a_t_waitsAt a_t_saidLetter a_t_saidFrom a_t_saidHalf a_t_saidTo a_t_codes a_t_clauseOf a_t_codeFrom a_t_codeHalf a_t_codeTo a_t_stack a_t_facts a_t_newLine a_t_canSit a_t_canNext a_t_singersIn a_t_freeAt a_t_beginsAt a_t_leastBy a_t_mostBy a_t_mostNext a_t_risesTo res.2 t_place0 t_length0 t_fault t_number0 t_open t_codeMany t_waiting t_saidMany t_clauses t_newMany t_lines t_stoodNow t_lastSeat t_climbedNow t_isKept t_now t_tape)) 0 0 (va_A (w_X12_check cI cB cZ a_t a_t_now a_t_tape a_t_aside a_t_kept a_t_said a_t_waitsAt a_t_saidLetter a_t_saidFrom a_t_saidHalf a_t_saidTo a_t_codes a_t_clauseOf a_t_codeFrom a_t_codeHalf a_t_codeTo a_t_stack a_t_facts a_t_newLine a_t_canSit a_t_canNext a_t_singersIn a_t_freeAt a_t_beginsAt a_t_leastBy a_t_mostBy a_t_mostNext a_t_risesTo t_taped t_place0 t_length0 t_fault t_number0 t_open t_codeMany t_waiting t_saidMany t_clauses t_newMany t_lines t_stoodNow t_lastSeat t_climbedNow t_isKept t_now t_tape) sz) :=
  mkRW (by decide +kernel) (Nat.le_of_ble_eq_true rfl) (fun p e s m below meth c ls A hAe S hr hlk hK hA hP hD hS hl => b_X12_check S.1 S.2.1 S.2.2.1 S.2.2.2.1 S.2.2.2.2 (Nat.le_refl _) (Nat.le_refl _) hK.1 hK.2 hA s.heap [] a_t a_t_now a_t_tape a_t_aside a_t_kept a_t_said a_t_waitsAt a_t_saidLetter a_t_saidFrom a_t_saidHalf a_t_saidTo a_t_codes a_t_clauseOf a_t_codeFrom a_t_codeHalf a_t_codeTo a_t_stack a_t_facts a_t_newLine a_t_canSit a_t_canNext a_t_singersIn a_t_freeAt a_t_beginsAt a_t_leastBy a_t_mostBy a_t_mostNext a_t_risesTo t_taped t_place0 t_length0 t_fault t_number0 t_open t_codeMany t_waiting t_saidMany t_clauses t_newMany t_lines t_stoodNow t_lastSeat t_climbedNow t_isKept t_now t_tape x1 x2 res hf hP hD hS (fun H locs pc ls hP hD hS hE hd => eRW_i S.1 S.2.1 hr rfl hlk hAe hP hD hS hE hd) ls hl)
def f_X12_count (t_taped : Int32) (t_clauses : Int32) (t_now : (Nat → Int32)) (x1 : Int32) : Option (Int32) := (if x1 = 0 then ix 637 633 (some (t_now (633 : Int32).toNatClampNeg)) else (if x1 = 1 then ix 637 632 (some (t_now (632 : Int32).toNatClampNeg)) else (if x1 = 2 then ix 637 634 (some (t_now (634 : Int32).toNatClampNeg)) else (if x1 = 3 then (f_X12_sittersOn t_now 0).bind (fun z85 => (f_X12_sittersOn t_now 1).bind (fun z90 => some (z85 + z90))) else (if x1 = 4 then ix 637 635 (some (t_now (635 : Int32).toNatClampNeg)) else (if x1 = 5 then (f_X12_sittersOn t_now 0).bind (fun z106 => some (z106)) else (if x1 = 6 then (f_X12_sittersOn t_now 1).bind (fun z112 => some (z112)) else (if x1 = 7 then some (t_clauses) else (if x1 = 8 then some (t_taped) else (if x1 = 9 then ix 637 636 (some (t_now (636 : Int32).toNatClampNeg)) else (f_X12_in x1 10 25).bind (fun z140 => (if z140 = 0 then ix 637 632 ((f_X12_in x1 30 (29 + (t_now (632 : Int32).toNatClampNeg))).bind (fun z169 => (if z169 = 0 then some ((-1)) else ix 637 ((432 + x1) - 30) ((f_X12_familyOf (t_now ((432 + x1) - 30).toNatClampNeg)).bind (fun z188 => some (z188)))))) else (f_X12_familyAll t_now (x1 - 10)).bind (fun z151 => some (z151))))))))))))))
def w_X12_count (cI cB cZ : ClassId) (a_t : Nat) (a_t_now : Nat) (a_t_aside : Nat) (a_t_kept : Nat) (a_t_tape : Nat) (a_t_said : Nat) (a_t_waitsAt : Nat) (a_t_saidLetter : Nat) (a_t_saidFrom : Nat) (a_t_saidHalf : Nat) (a_t_saidTo : Nat) (a_t_codes : Nat) (a_t_clauseOf : Nat) (a_t_codeFrom : Nat) (a_t_codeHalf : Nat) (a_t_codeTo : Nat) (a_t_stack : Nat) (a_t_facts : Nat) (a_t_newLine : Nat) (a_t_canSit : Nat) (a_t_canNext : Nat) (a_t_singersIn : Nat) (a_t_freeAt : Nat) (a_t_beginsAt : Nat) (a_t_leastBy : Nat) (a_t_mostBy : Nat) (a_t_mostNext : Nat) (a_t_risesTo : Nat) (t_taped : Int32) (t_place0 : Int32) (t_length0 : Int32) (t_fault : Int32) (t_number0 : Int32) (t_open : Int32) (t_codeMany : Int32) (t_waiting : Int32) (t_saidMany : Int32) (t_clauses : Int32) (t_newMany : Int32) (t_lines : Int32) (t_stoodNow : Int32) (t_lastSeat : Int32) (t_climbedNow : Int32) (t_isKept : Int32) (t_now : (Nat → Int32)) : va_W := [(a_t, .inr (11, [.ref a_t_now, .ref a_t_aside, .ref a_t_kept, .ref a_t_tape, .int t_taped, .int t_place0, .int t_length0, .int t_fault, .int t_number0, .int t_open, .int t_codeMany, .int t_waiting, .int t_saidMany, .int t_clauses, .ref a_t_said, .ref a_t_waitsAt, .ref a_t_saidLetter, .ref a_t_saidFrom, .ref a_t_saidHalf, .ref a_t_saidTo, .ref a_t_codes, .ref a_t_clauseOf, .ref a_t_codeFrom, .ref a_t_codeHalf, .ref a_t_codeTo, .ref a_t_stack, .ref a_t_facts, .ref a_t_newLine, .int t_newMany, .int t_lines, .int t_stoodNow, .int t_lastSeat, .int t_climbedNow, .ref a_t_canSit, .ref a_t_canNext, .ref a_t_singersIn, .ref a_t_freeAt, .ref a_t_beginsAt, .ref a_t_leastBy, .ref a_t_mostBy, .ref a_t_mostNext, .ref a_t_risesTo, .int t_isKept])), (a_t_now, .inl (cI, 637, .inl t_now))]
set_option maxHeartbeats 4000000 in
set_option maxRecDepth 100000 in
theorem b_X12_count {p : Program} {l : Launch} {e : Env} {R : Room} {s : State} {m : MethodId} {args : Array Value} {below : List Frame} {meth : Method} {c : Code} {Q : State → Prop} {D : va_G} {cI cB cZ : ClassId} (hx : p.tables.exec = Jvm.exec) (hb : c.code = cX12_count) (hml : c.maxLocals = 2) (hown : s.vm.findClass RX12 = some m.cls) (hT : ∀ w ∈ TB, w.before args s = true) (hRf : (3) ≤ R.frames) (hRl : (68) ≤ R.locals) (hK : va_K D vwCl (tyL cI cB cZ) s) (hN : NW s)  (a_t : Nat) (a_t_now : Nat) (a_t_aside : Nat) (a_t_kept : Nat) (a_t_tape : Nat) (a_t_said : Nat) (a_t_waitsAt : Nat) (a_t_saidLetter : Nat) (a_t_saidFrom : Nat) (a_t_saidHalf : Nat) (a_t_saidTo : Nat) (a_t_codes : Nat) (a_t_clauseOf : Nat) (a_t_codeFrom : Nat) (a_t_codeHalf : Nat) (a_t_codeTo : Nat) (a_t_stack : Nat) (a_t_facts : Nat) (a_t_newLine : Nat) (a_t_canSit : Nat) (a_t_canNext : Nat) (a_t_singersIn : Nat) (a_t_freeAt : Nat) (a_t_beginsAt : Nat) (a_t_leastBy : Nat) (a_t_mostBy : Nat) (a_t_mostNext : Nat) (a_t_risesTo : Nat) (t_taped : Int32) (t_place0 : Int32) (t_length0 : Int32) (t_fault : Int32) (t_number0 : Int32) (t_open : Int32) (t_codeMany : Int32) (t_waiting : Int32) (t_saidMany : Int32) (t_clauses : Int32) (t_newMany : Int32) (t_lines : Int32) (t_stoodNow : Int32) (t_lastSeat : Int32) (t_climbedNow : Int32) (t_isKept : Int32) (t_now : (Nat → Int32)) (x1 : Int32) (res : Int32) (hf : f_X12_count t_taped t_clauses t_now x1 = some res) (hP : va_P D vwCl (w_X12_count cI cB cZ a_t a_t_now a_t_aside a_t_kept a_t_tape a_t_said a_t_waitsAt a_t_saidLetter a_t_saidFrom a_t_saidHalf a_t_saidTo a_t_codes a_t_clauseOf a_t_codeFrom a_t_codeHalf a_t_codeTo a_t_stack a_t_facts a_t_newLine a_t_canSit a_t_canNext a_t_singersIn a_t_freeAt a_t_beginsAt a_t_leastBy a_t_mostBy a_t_mostNext a_t_risesTo t_taped t_place0 t_length0 t_fault t_number0 t_open t_codeMany t_waiting t_saidMany t_clauses t_newMany t_lines t_stoodNow t_lastSeat t_climbedNow t_isKept t_now) s.heap) (hQ : ∀ (pc : Nat) (ls : Array Slot), True → decode cX12_count pc = .ok (.ireturn, 1) → W p l e R s m args below meth c s.heap [] 0 0 Q (F0 m pc ls [.int res])) (ls : Array Slot) (hl : lv_has ls 2 [(0, .ref a_t), (1, .int x1)]) : W p l e R s m args below meth c s.heap [] 0 0 Q (F0 m 0 ls []) := by
  unfold f_X12_count at hf
  refine lv_iload_n hx hb dX12_count_0 rfl (lv_at hl 1 rfl) ?_
  by_cases hs_1_0 : x1 = 0
  · have hf := it_pos hs_1_0 hf
    refine lv_tableIn (off := 55) (tgt := 56) hx hb dX12_count_1 (by rw [hs_1_0]; decide) (by rw [hs_1_0]; decide) (by rw [hs_1_0]; rfl) (by decide) ?_
    refine lv_aload_n hx hb dX12_count_56 rfl (lv_at hl 0 rfl) ?_
    refine va_get (D := D) (ci := 11) (v := .ref a_t_now) (C := RX12) (T := TX12) (N := 43) hx hb hT inX12 hown hK hP 0 rfl rfl 0 (by decide) (hT _ tb_1148) (fun _ h9 => h9) rfl dX12_count_57 ?_
    refine lv_sipush (v := 633) hx hb dX12_count_60 (by decide) ?_
    obtain ⟨hi_63, hf⟩ := ix_some hf
    refine va_iald hx hb hK hP 1 0 rfl rfl hi_63 dX12_count_63 ?_
    obtain rfl := Option.some.inj hf
    exact hQ 64 ls trivial dX12_count_64
  have hf := it_neg hs_1_0 hf
  by_cases hs_1_1 : x1 = 1
  · have hf := it_pos hs_1_1 hf
    refine lv_tableIn (off := 64) (tgt := 65) hx hb dX12_count_1 (by rw [hs_1_1]; decide) (by rw [hs_1_1]; decide) (by rw [hs_1_1]; rfl) (by decide) ?_
    refine lv_aload_n hx hb dX12_count_65 rfl (lv_at hl 0 rfl) ?_
    refine va_get (D := D) (ci := 11) (v := .ref a_t_now) (C := RX12) (T := TX12) (N := 43) hx hb hT inX12 hown hK hP 0 rfl rfl 0 (by decide) (hT _ tb_1148) (fun _ h9 => h9) rfl dX12_count_66 ?_
    refine lv_sipush (v := 632) hx hb dX12_count_69 (by decide) ?_
    obtain ⟨hi_72, hf⟩ := ix_some hf
    refine va_iald hx hb hK hP 1 0 rfl rfl hi_72 dX12_count_72 ?_
    obtain rfl := Option.some.inj hf
    exact hQ 73 ls trivial dX12_count_73
  have hf := it_neg hs_1_1 hf
  by_cases hs_1_2 : x1 = 2
  · have hf := it_pos hs_1_2 hf
    refine lv_tableIn (off := 73) (tgt := 74) hx hb dX12_count_1 (by rw [hs_1_2]; decide) (by rw [hs_1_2]; decide) (by rw [hs_1_2]; rfl) (by decide) ?_
    refine lv_aload_n hx hb dX12_count_74 rfl (lv_at hl 0 rfl) ?_
    refine va_get (D := D) (ci := 11) (v := .ref a_t_now) (C := RX12) (T := TX12) (N := 43) hx hb hT inX12 hown hK hP 0 rfl rfl 0 (by decide) (hT _ tb_1148) (fun _ h9 => h9) rfl dX12_count_75 ?_
    refine lv_sipush (v := 634) hx hb dX12_count_78 (by decide) ?_
    obtain ⟨hi_81, hf⟩ := ix_some hf
    refine va_iald hx hb hK hP 1 0 rfl rfl hi_81 dX12_count_81 ?_
    obtain rfl := Option.some.inj hf
    exact hQ 82 ls trivial dX12_count_82
  have hf := it_neg hs_1_2 hf
  by_cases hs_1_3 : x1 = 3
  · have hf := it_pos hs_1_3 hf
    refine lv_tableIn (off := 82) (tgt := 83) hx hb dX12_count_1 (by rw [hs_1_3]; decide) (by rw [hs_1_3]; decide) (by rw [hs_1_3]; rfl) (by decide) ?_
    refine lv_aload_n hx hb dX12_count_83 rfl (lv_at hl 0 rfl) ?_
    refine lv_iconst (v := 0) hx hb dX12_count_84 (by decide) ?_
    obtain ⟨z85, e85, hf⟩ := bd_some hf
    refine rV_RO (As := [.int 0]) (rest := []) ⟨hx, hb, hml, hown, hT⟩ (gdV tb_1443 tb_1445 tb_61 tb_97 tb_1446) hd_X12_sittersOn (c_X12_sittersOn l D cI cB cZ a_t a_t_now a_t_aside a_t_kept a_t_tape a_t_said a_t_waitsAt a_t_saidLetter a_t_saidFrom a_t_saidHalf a_t_saidTo a_t_codes a_t_clauseOf a_t_codeFrom a_t_codeHalf a_t_codeTo a_t_stack a_t_facts a_t_newLine a_t_canSit a_t_canNext a_t_singersIn a_t_freeAt a_t_beginsAt a_t_leastBy a_t_mostBy a_t_mostNext a_t_risesTo t_taped t_place0 t_length0 t_fault t_number0 t_open t_codeMany t_waiting t_saidMany t_clauses t_newMany t_lines t_stoodNow t_lastSeat t_climbedNow t_isKept t_now 0 z85 e85) ⟨rfl, rfl⟩ ⟨Nat.le_trans (by decide) hRf, Nat.le_trans (by decide) hRl⟩ ⟨hK, hN⟩ hP [0, 1] rfl 0 rfl rfl rfl hl.1 rfl (Nat.le_of_ble_eq_true rfl) ⟨Nat.zero_le _, Nat.zero_le _⟩ dX12_count_85 (fun _ => ?_)
    refine lv_aload_n hx hb dX12_count_88 rfl (lv_at hl 0 rfl) ?_
    refine lv_iconst (v := 1) hx hb dX12_count_89 (by decide) ?_
    obtain ⟨z90, e90, hf⟩ := bd_some hf
    refine rV_RO (As := [.int 1]) (rest := [.int z85]) ⟨hx, hb, hml, hown, hT⟩ (gdV tb_1443 tb_1445 tb_61 tb_97 tb_1446) hd_X12_sittersOn (c_X12_sittersOn l D cI cB cZ a_t a_t_now a_t_aside a_t_kept a_t_tape a_t_said a_t_waitsAt a_t_saidLetter a_t_saidFrom a_t_saidHalf a_t_saidTo a_t_codes a_t_clauseOf a_t_codeFrom a_t_codeHalf a_t_codeTo a_t_stack a_t_facts a_t_newLine a_t_canSit a_t_canNext a_t_singersIn a_t_freeAt a_t_beginsAt a_t_leastBy a_t_mostBy a_t_mostNext a_t_risesTo t_taped t_place0 t_length0 t_fault t_number0 t_open t_codeMany t_waiting t_saidMany t_clauses t_newMany t_lines t_stoodNow t_lastSeat t_climbedNow t_isKept t_now 1 z90 e90) ⟨rfl, rfl⟩ ⟨Nat.le_trans (by decide) hRf, Nat.le_trans (by decide) hRl⟩ ⟨hK, hN⟩ hP [0, 1] rfl 0 rfl rfl rfl hl.1 rfl (Nat.le_of_ble_eq_true rfl) ⟨Nat.zero_le _, Nat.zero_le _⟩ dX12_count_90 (fun _ => ?_)
    refine lv_iadd hx hb dX12_count_93 ?_
    obtain rfl := Option.some.inj hf
    exact hQ 94 ls trivial dX12_count_94
  have hf := it_neg hs_1_3 hf
  by_cases hs_1_4 : x1 = 4
  · have hf := it_pos hs_1_4 hf
    refine lv_tableIn (off := 94) (tgt := 95) hx hb dX12_count_1 (by rw [hs_1_4]; decide) (by rw [hs_1_4]; decide) (by rw [hs_1_4]; rfl) (by decide) ?_
    refine lv_aload_n hx hb dX12_count_95 rfl (lv_at hl 0 rfl) ?_
    refine va_get (D := D) (ci := 11) (v := .ref a_t_now) (C := RX12) (T := TX12) (N := 43) hx hb hT inX12 hown hK hP 0 rfl rfl 0 (by decide) (hT _ tb_1148) (fun _ h9 => h9) rfl dX12_count_96 ?_
    refine lv_sipush (v := 635) hx hb dX12_count_99 (by decide) ?_
    obtain ⟨hi_102, hf⟩ := ix_some hf
    refine va_iald hx hb hK hP 1 0 rfl rfl hi_102 dX12_count_102 ?_
    obtain rfl := Option.some.inj hf
    exact hQ 103 ls trivial dX12_count_103
  have hf := it_neg hs_1_4 hf
  by_cases hs_1_5 : x1 = 5
  · have hf := it_pos hs_1_5 hf
    refine lv_tableIn (off := 103) (tgt := 104) hx hb dX12_count_1 (by rw [hs_1_5]; decide) (by rw [hs_1_5]; decide) (by rw [hs_1_5]; rfl) (by decide) ?_
    refine lv_aload_n hx hb dX12_count_104 rfl (lv_at hl 0 rfl) ?_
    refine lv_iconst (v := 0) hx hb dX12_count_105 (by decide) ?_
    obtain ⟨z106, e106, hf⟩ := bd_some hf
    refine rV_RO (As := [.int 0]) (rest := []) ⟨hx, hb, hml, hown, hT⟩ (gdV tb_1443 tb_1445 tb_61 tb_97 tb_1446) hd_X12_sittersOn (c_X12_sittersOn l D cI cB cZ a_t a_t_now a_t_aside a_t_kept a_t_tape a_t_said a_t_waitsAt a_t_saidLetter a_t_saidFrom a_t_saidHalf a_t_saidTo a_t_codes a_t_clauseOf a_t_codeFrom a_t_codeHalf a_t_codeTo a_t_stack a_t_facts a_t_newLine a_t_canSit a_t_canNext a_t_singersIn a_t_freeAt a_t_beginsAt a_t_leastBy a_t_mostBy a_t_mostNext a_t_risesTo t_taped t_place0 t_length0 t_fault t_number0 t_open t_codeMany t_waiting t_saidMany t_clauses t_newMany t_lines t_stoodNow t_lastSeat t_climbedNow t_isKept t_now 0 z106 e106) ⟨rfl, rfl⟩ ⟨Nat.le_trans (by decide) hRf, Nat.le_trans (by decide) hRl⟩ ⟨hK, hN⟩ hP [0, 1] rfl 0 rfl rfl rfl hl.1 rfl (Nat.le_of_ble_eq_true rfl) ⟨Nat.zero_le _, Nat.zero_le _⟩ dX12_count_106 (fun _ => ?_)
    obtain rfl := Option.some.inj hf
    exact hQ 109 ls trivial dX12_count_109
  have hf := it_neg hs_1_5 hf
  by_cases hs_1_6 : x1 = 6
  · have hf := it_pos hs_1_6 hf
    refine lv_tableIn (off := 109) (tgt := 110) hx hb dX12_count_1 (by rw [hs_1_6]; decide) (by rw [hs_1_6]; decide) (by rw [hs_1_6]; rfl) (by decide) ?_
    refine lv_aload_n hx hb dX12_count_110 rfl (lv_at hl 0 rfl) ?_
    refine lv_iconst (v := 1) hx hb dX12_count_111 (by decide) ?_
    obtain ⟨z112, e112, hf⟩ := bd_some hf
    refine rV_RO (As := [.int 1]) (rest := []) ⟨hx, hb, hml, hown, hT⟩ (gdV tb_1443 tb_1445 tb_61 tb_97 tb_1446) hd_X12_sittersOn (c_X12_sittersOn l D cI cB cZ a_t a_t_now a_t_aside a_t_kept a_t_tape a_t_said a_t_waitsAt a_t_saidLetter a_t_saidFrom a_t_saidHalf a_t_saidTo a_t_codes a_t_clauseOf a_t_codeFrom a_t_codeHalf a_t_codeTo a_t_stack a_t_facts a_t_newLine a_t_canSit a_t_canNext a_t_singersIn a_t_freeAt a_t_beginsAt a_t_leastBy a_t_mostBy a_t_mostNext a_t_risesTo t_taped t_place0 t_length0 t_fault t_number0 t_open t_codeMany t_waiting t_saidMany t_clauses t_newMany t_lines t_stoodNow t_lastSeat t_climbedNow t_isKept t_now 1 z112 e112) ⟨rfl, rfl⟩ ⟨Nat.le_trans (by decide) hRf, Nat.le_trans (by decide) hRl⟩ ⟨hK, hN⟩ hP [0, 1] rfl 0 rfl rfl rfl hl.1 rfl (Nat.le_of_ble_eq_true rfl) ⟨Nat.zero_le _, Nat.zero_le _⟩ dX12_count_112 (fun _ => ?_)
    obtain rfl := Option.some.inj hf
    exact hQ 115 ls trivial dX12_count_115
  have hf := it_neg hs_1_6 hf
  by_cases hs_1_7 : x1 = 7
  · have hf := it_pos hs_1_7 hf
    refine lv_tableIn (off := 115) (tgt := 116) hx hb dX12_count_1 (by rw [hs_1_7]; decide) (by rw [hs_1_7]; decide) (by rw [hs_1_7]; rfl) (by decide) ?_
    refine lv_aload_n hx hb dX12_count_116 rfl (lv_at hl 0 rfl) ?_
    refine va_get (D := D) (ci := 11) (v := .int t_clauses) (C := RX12) (T := TX12) (N := 43) hx hb hT inX12 hown hK hP 0 rfl rfl 13 (by decide) (hT _ tb_1161) (fun _ h9 => h9) rfl dX12_count_117 ?_
    obtain rfl := Option.some.inj hf
    exact hQ 120 ls trivial dX12_count_120
  have hf := it_neg hs_1_7 hf
  by_cases hs_1_8 : x1 = 8
  · have hf := it_pos hs_1_8 hf
    refine lv_tableIn (off := 120) (tgt := 121) hx hb dX12_count_1 (by rw [hs_1_8]; decide) (by rw [hs_1_8]; decide) (by rw [hs_1_8]; rfl) (by decide) ?_
    refine lv_aload_n hx hb dX12_count_121 rfl (lv_at hl 0 rfl) ?_
    refine va_get (D := D) (ci := 11) (v := .int t_taped) (C := RX12) (T := TX12) (N := 43) hx hb hT inX12 hown hK hP 0 rfl rfl 4 (by decide) (hT _ tb_1152) (fun _ h9 => h9) rfl dX12_count_122 ?_
    obtain rfl := Option.some.inj hf
    exact hQ 125 ls trivial dX12_count_125
  have hf := it_neg hs_1_8 hf
  by_cases hs_1_9 : x1 = 9
  · have hf := it_pos hs_1_9 hf
    refine lv_tableIn (off := 125) (tgt := 126) hx hb dX12_count_1 (by rw [hs_1_9]; decide) (by rw [hs_1_9]; decide) (by rw [hs_1_9]; rfl) (by decide) ?_
    refine lv_aload_n hx hb dX12_count_126 rfl (lv_at hl 0 rfl) ?_
    refine va_get (D := D) (ci := 11) (v := .ref a_t_now) (C := RX12) (T := TX12) (N := 43) hx hb hT inX12 hown hK hP 0 rfl rfl 0 (by decide) (hT _ tb_1148) (fun _ h9 => h9) rfl dX12_count_127 ?_
    refine lv_sipush (v := 636) hx hb dX12_count_130 (by decide) ?_
    obtain ⟨hi_133, hf⟩ := ix_some hf
    refine va_iald hx hb hK hP 1 0 rfl rfl hi_133 dX12_count_133 ?_
    obtain rfl := Option.some.inj hf
    exact hQ 134 ls trivial dX12_count_134
  have hf := it_neg hs_1_9 hf
  refine lv_tableOut (tgt := 135) hx hb dX12_count_1 (ts_out 0 10 (by decide) (by decide) (fun k hk => match k, hk with | 0, _ => hs_1_0 | 1, _ => hs_1_1 | 2, _ => hs_1_2 | 3, _ => hs_1_3 | 4, _ => hs_1_4 | 5, _ => hs_1_5 | 6, _ => hs_1_6 | 7, _ => hs_1_7 | 8, _ => hs_1_8 | 9, _ => hs_1_9)) (by decide) ?_
  refine lv_iload_n hx hb dX12_count_135 rfl (lv_at hl 1 rfl) ?_
  refine lv_bipush (v := 10) hx hb dX12_count_136 (by decide) ?_
  refine lv_bipush (v := 25) hx hb dX12_count_138 (by decide) ?_
  obtain ⟨z140, e140, hf⟩ := bd_some hf
  refine rS_RO (As := [.int x1, .int 10, .int 25]) (rest := []) ⟨hx, hb, hml, hown, hT⟩ (gdS tb_1283 tb_1284 tb_97 tb_1285) hd_X12_in (c_X12_in l D cI cB cZ x1 10 25 z140 e140) ⟨rfl, rfl⟩ ⟨Nat.le_trans (by decide) hRf, Nat.le_trans (by decide) hRl⟩ ⟨hK, hN⟩ hP [] rfl rfl hl.1 rfl (Nat.le_of_ble_eq_true rfl) ⟨Nat.zero_le _, Nat.zero_le _⟩ dX12_count_140 (fun hz_140 => ?_)
  refine lv_if_eq (tgt := 155) hx hb dX12_count_143 (by decide) (fun hc_143 => ?_) (fun hc_143 => ?_)
  · have hf := it_pos hc_143 hf
    refine lv_iload_n hx hb dX12_count_155 rfl (lv_at hl 1 rfl) ?_
    refine lv_bipush (v := 30) hx hb dX12_count_156 (by decide) ?_
    refine lv_bipush (v := 29) hx hb dX12_count_158 (by decide) ?_
    refine lv_aload_n hx hb dX12_count_160 rfl (lv_at hl 0 rfl) ?_
    refine va_get (D := D) (ci := 11) (v := .ref a_t_now) (C := RX12) (T := TX12) (N := 43) hx hb hT inX12 hown hK hP 0 rfl rfl 0 (by decide) (hT _ tb_1148) (fun _ h9 => h9) rfl dX12_count_161 ?_
    refine lv_sipush (v := 632) hx hb dX12_count_164 (by decide) ?_
    obtain ⟨hi_167, hf⟩ := ix_some hf
    refine va_iald hx hb hK hP 1 0 rfl rfl hi_167 dX12_count_167 ?_
    refine lv_iadd hx hb dX12_count_168 ?_
    obtain ⟨z169, e169, hf⟩ := bd_some hf
    refine rS_RO (As := [.int x1, .int 30, .int (29 + (t_now (632 : Int32).toNatClampNeg))]) (rest := []) ⟨hx, hb, hml, hown, hT⟩ (gdS tb_1283 tb_1284 tb_97 tb_1285) hd_X12_in (c_X12_in l D cI cB cZ x1 30 (29 + (t_now (632 : Int32).toNatClampNeg)) z169 e169) ⟨rfl, rfl⟩ ⟨Nat.le_trans (by decide) hRf, Nat.le_trans (by decide) hRl⟩ ⟨hK, hN⟩ hP [] rfl rfl hl.1 rfl (Nat.le_of_ble_eq_true rfl) ⟨Nat.zero_le _, Nat.zero_le _⟩ dX12_count_169 (fun hz_169 => ?_)
    refine lv_if_eq (tgt := 194) hx hb dX12_count_172 (by decide) (fun hc_172 => ?_) (fun hc_172 => ?_)
    · have hf := it_pos hc_172 hf
      refine lv_iconst (v := (-1)) hx hb dX12_count_194 (by decide) ?_
      obtain rfl := Option.some.inj hf
      exact hQ 195 ls trivial dX12_count_195
    · have hf := it_neg hc_172 hf
      refine lv_aload_n hx hb dX12_count_175 rfl (lv_at hl 0 rfl) ?_
      refine va_get (D := D) (ci := 11) (v := .ref a_t_now) (C := RX12) (T := TX12) (N := 43) hx hb hT inX12 hown hK hP 0 rfl rfl 0 (by decide) (hT _ tb_1148) (fun _ h9 => h9) rfl dX12_count_176 ?_
      refine lv_sipush (v := 432) hx hb dX12_count_179 (by decide) ?_
      refine lv_iload_n hx hb dX12_count_182 rfl (lv_at hl 1 rfl) ?_
      refine lv_iadd hx hb dX12_count_183 ?_
      refine lv_bipush (v := 30) hx hb dX12_count_184 (by decide) ?_
      refine lv_isub hx hb dX12_count_186 ?_
      obtain ⟨hi_187, hf⟩ := ix_some hf
      refine va_iald hx hb hK hP 1 0 rfl rfl hi_187 dX12_count_187 ?_
      obtain ⟨z188, e188, hf⟩ := bd_some hf
      refine rS_RO (As := [.int (t_now ((432 + x1) - 30).toNatClampNeg)]) (rest := []) ⟨hx, hb, hml, hown, hT⟩ (gdS tb_1431 tb_1432 tb_97 tb_1433) hd_X12_familyOf (c_X12_familyOf l D cI cB cZ (t_now ((432 + x1) - 30).toNatClampNeg) z188 e188) ⟨rfl, rfl⟩ ⟨Nat.le_trans (by decide) hRf, Nat.le_trans (by decide) hRl⟩ ⟨hK, hN⟩ hP [] rfl rfl hl.1 rfl (Nat.le_of_ble_eq_true rfl) ⟨Nat.zero_le _, Nat.zero_le _⟩ dX12_count_188 (fun _ => ?_)
      refine lv_goto (tgt := 195) hx hb dX12_count_191 (by decide) ?_
      obtain rfl := Option.some.inj hf
      exact hQ 195 ls trivial dX12_count_195
  · have hf := it_neg hc_143 hf
    refine lv_aload_n hx hb dX12_count_146 rfl (lv_at hl 0 rfl) ?_
    refine lv_iload_n hx hb dX12_count_147 rfl (lv_at hl 1 rfl) ?_
    refine lv_bipush (v := 10) hx hb dX12_count_148 (by decide) ?_
    refine lv_isub hx hb dX12_count_150 ?_
    obtain ⟨z151, e151, hf⟩ := bd_some hf
    refine rV_RO (As := [.int (x1 - 10)]) (rest := []) ⟨hx, hb, hml, hown, hT⟩ (gdV tb_1546 tb_1548 tb_78 tb_97 tb_1549) hd_X12_familyAll (c_X12_familyAll l D cI cB cZ a_t a_t_now a_t_aside a_t_kept a_t_tape a_t_said a_t_waitsAt a_t_saidLetter a_t_saidFrom a_t_saidHalf a_t_saidTo a_t_codes a_t_clauseOf a_t_codeFrom a_t_codeHalf a_t_codeTo a_t_stack a_t_facts a_t_newLine a_t_canSit a_t_canNext a_t_singersIn a_t_freeAt a_t_beginsAt a_t_leastBy a_t_mostBy a_t_mostNext a_t_risesTo t_taped t_place0 t_length0 t_fault t_number0 t_open t_codeMany t_waiting t_saidMany t_clauses t_newMany t_lines t_stoodNow t_lastSeat t_climbedNow t_isKept t_now (x1 - 10) z151 e151) ⟨rfl, rfl⟩ ⟨Nat.le_trans (by decide) hRf, Nat.le_trans (by decide) hRl⟩ ⟨hK, hN⟩ hP [0, 1] rfl 0 rfl rfl rfl hl.1 rfl (Nat.le_of_ble_eq_true rfl) ⟨Nat.zero_le _, Nat.zero_le _⟩ dX12_count_151 (fun _ => ?_)
    obtain rfl := Option.some.inj hf
    exact hQ 154 ls trivial dX12_count_154
theorem hd_X12_count : (yX12_count).cls = RX12 ∧ (yX12_count).cls ≠ "java/lang/invoke/MethodHandle" ∧ (yX12_count).cls ≠ "java/lang/invoke/VarHandle" ∧ (parseMethodDescriptor (yX12_count).desc).map (fun d => d.parameters.length) = some 1 := by decide +kernel
theorem c_X12_count (l : Launch) (D : va_G) (cI cB cZ : ClassId) (a_t : Nat) (a_t_now : Nat) (a_t_aside : Nat) (a_t_kept : Nat) (a_t_tape : Nat) (a_t_said : Nat) (a_t_waitsAt : Nat) (a_t_saidLetter : Nat) (a_t_saidFrom : Nat) (a_t_saidHalf : Nat) (a_t_saidTo : Nat) (a_t_codes : Nat) (a_t_clauseOf : Nat) (a_t_codeFrom : Nat) (a_t_codeHalf : Nat) (a_t_codeTo : Nat) (a_t_stack : Nat) (a_t_facts : Nat) (a_t_newLine : Nat) (a_t_canSit : Nat) (a_t_canNext : Nat) (a_t_singersIn : Nat) (a_t_freeAt : Nat) (a_t_beginsAt : Nat) (a_t_leastBy : Nat) (a_t_mostBy : Nat) (a_t_mostNext : Nat) (a_t_risesTo : Nat) (t_taped : Int32) (t_place0 : Int32) (t_length0 : Int32) (t_fault : Int32) (t_number0 : Int32) (t_open : Int32) (t_codeMany : Int32) (t_waiting : Int32) (t_saidMany : Int32) (t_clauses : Int32) (t_newMany : Int32) (t_lines : Int32) (t_stoodNow : Int32) (t_lastSeat : Int32) (t_climbedNow : Int32) (t_isKept : Int32) (t_now : (Nat → Int32)) (x1 : Int32) (res : Int32) (hf : f_X12_count t_taped t_clauses t_now x1 = some res) : Met l yX12_count (.code yX12_count cX12_count 2 (some .int) :: TB) (rmk (3) (68)) (pRO [.ref a_t, .int x1] D cI cB cZ (w_X12_count cI cB cZ a_t a_t_now a_t_aside a_t_kept a_t_tape a_t_said a_t_waitsAt a_t_saidLetter a_t_saidFrom a_t_saidHalf a_t_saidTo a_t_codes a_t_clauseOf a_t_codeFrom a_t_codeHalf a_t_codeTo a_t_stack a_t_facts a_t_newLine a_t_canSit a_t_canNext a_t_singersIn a_t_freeAt a_t_beginsAt a_t_leastBy a_t_mostBy a_t_mostNext a_t_risesTo t_taped t_place0 t_length0 t_fault t_number0 t_open t_codeMany t_waiting t_saidMany t_clauses t_newMany t_lines t_stoodNow t_lastSeat t_climbedNow t_isKept t_now)) (qRO (some (.int res)) True) 0 0 (fun _ => False) :=
  mkRO (by decide +kernel) (Nat.le_of_ble_eq_true rfl) (fun p e s m below meth c ls S hr hlk hK hP hl => b_X12_count S.1 S.2.1 S.2.2.1 S.2.2.2.1 S.2.2.2.2 (Nat.le_refl _) (Nat.le_refl _) hK.1 hK.2 a_t a_t_now a_t_aside a_t_kept a_t_tape a_t_said a_t_waitsAt a_t_saidLetter a_t_saidFrom a_t_saidHalf a_t_saidTo a_t_codes a_t_clauseOf a_t_codeFrom a_t_codeHalf a_t_codeTo a_t_stack a_t_facts a_t_newLine a_t_canSit a_t_canNext a_t_singersIn a_t_freeAt a_t_beginsAt a_t_leastBy a_t_mostBy a_t_mostNext a_t_risesTo t_taped t_place0 t_length0 t_fault t_number0 t_open t_codeMany t_waiting t_saidMany t_clauses t_newMany t_lines t_stoodNow t_lastSeat t_climbedNow t_isKept t_now x1 res hf hP (fun pc ls hE hd => eRO_i S.1 S.2.1 hr rfl hlk hE hd) ls hl)
