def f_X5_view_21 (p1_guests : (Nat → Int32)) : Nat → Int32 → Int32 → Int32 → Int32 → Option (Int32)
  | 0, _, _, _, _ => none
  | n + 1, x2, x3, x4, x5 => (if x4 < x5 then some (0) else (f_X0_isTaken p1_guests (x2 - (x5 * 9))).bind (fun z40 => (if z40 = 0 then (f_X5_view_21 p1_guests n) x2 x3 x4 (x5 + 1) else (f_X0_guestOn p1_guests (x2 - (x5 * 9))).bind (fun z49 => (f_X1_heightOf z49).bind (fun z52 => (if z52 < x3 then (f_X5_view_21 p1_guests n) x2 x3 x4 (x5 + 1) else some (x5)))))))
def f_X5_view (p1_guests : (Nat → Int32)) (x2 : Int32) : Option (Int32) := (f_X0_guestOn p1_guests x2).bind (fun z2 => (f_X1_heightOf z2).bind (fun z5 => f_X5_view_21 p1_guests FU x2 z5 (jrem (x2 / 9) 8) 1))
def w_X5_view (cI cB cZ : ClassId) (a_p1 : Nat) (a_p1_guests : Nat) (a_p1_numbers : Nat) (a_p1_coats : Nat) (a_p1_line : Nat) (a_t : Nat) (p1_waiting : Int32) (p1_arrived : Int32) (p1_standing : Int32) (p1_climbed : Int32) (p1_drawn : Int32) (p1_guests : (Nat → Int32)) : va_W := [(a_p1, .inr (0, [.ref a_p1_guests, .ref a_p1_numbers, .ref a_p1_coats, .ref a_p1_line, .int p1_waiting, .int p1_arrived, .int p1_standing, .int p1_climbed, .int p1_drawn])), (a_p1_guests, .inl (cI, 144, .inl p1_guests))]
set_option maxHeartbeats 4000000 in
set_option maxRecDepth 100000 in
theorem b_X5_view {p : Program} {l : Launch} {e : Env} {R : Room} {s : State} {m : MethodId} {args : Array Value} {below : List Frame} {meth : Method} {c : Code} {Q : State → Prop} {D : va_G} {cI cB cZ : ClassId} (hx : p.tables.exec = Jvm.exec) (hb : c.code = cX5_view) (hml : c.maxLocals = 7) (hown : s.vm.findClass RX5 = some m.cls) (hT : ∀ w ∈ TB, w.before args s = true) (hRf : (2) ≤ R.frames) (hRl : (42) ≤ R.locals) (hK : va_K D vwCl (tyL cI cB cZ) s) (hN : NW s)  (a_p1 : Nat) (a_p1_guests : Nat) (a_p1_numbers : Nat) (a_p1_coats : Nat) (a_p1_line : Nat) (a_t : Nat) (p1_waiting : Int32) (p1_arrived : Int32) (p1_standing : Int32) (p1_climbed : Int32) (p1_drawn : Int32) (p1_guests : (Nat → Int32)) (x2 : Int32) (res : Int32) (hf : f_X5_view p1_guests x2 = some res) (hP : va_P D vwCl (w_X5_view cI cB cZ a_p1 a_p1_guests a_p1_numbers a_p1_coats a_p1_line a_t p1_waiting p1_arrived p1_standing p1_climbed p1_drawn p1_guests) s.heap) (hQ : ∀ (pc : Nat) (ls : Array Slot), True → decode cX5_view pc = .ok (.ireturn, 1) → W p l e R s m args below meth c s.heap [] 0 0 Q (F0 m pc ls [.int res])) (ls : Array Slot) (hl : lv_has ls 7 [(0, .ref a_t), (1, .ref a_p1), (2, .int x2)]) : W p l e R s m args below meth c s.heap [] 0 0 Q (F0 m 0 ls []) := by
  unfold f_X5_view at hf
  refine lv_aload_n hx hb dX5_view_0 rfl (lv_at hl 1 rfl) ?_
  refine lv_iload_n hx hb dX5_view_1 rfl (lv_at hl 2 rfl) ?_
  obtain ⟨z2, e2, hf⟩ := bd_some hf
  refine rV_RO (As := [.int x2]) (rest := []) ⟨hx, hb, hml, hown, hT⟩ (gdV tb_847 tb_689 tb_690 tb_88 tb_691) hd_X0_guestOn (c_X0_guestOn l D cI cB cZ a_p1 a_p1_guests a_p1_numbers a_p1_coats a_p1_line p1_waiting p1_arrived p1_standing p1_climbed p1_drawn p1_guests x2 z2 e2) ⟨rfl, rfl⟩ ⟨Nat.le_trans (by decide) hRf, Nat.le_trans (by decide) hRl⟩ ⟨hK, hN⟩ hP [0, 1] rfl 0 rfl rfl rfl hl.1 rfl (Nat.le_of_ble_eq_true rfl) ⟨Nat.zero_le _, Nat.zero_le _⟩ dX5_view_2 (fun _ => ?_)
  obtain ⟨z5, e5, hf⟩ := bd_some hf
  refine rS_RO (As := [.int z2]) (rest := []) ⟨hx, hb, hml, hown, hT⟩ (gdS tb_862 tb_729 tb_104 tb_730) hd_X1_heightOf (c_X1_heightOf l D cI cB cZ z2 z5 e5) ⟨rfl, rfl⟩ ⟨Nat.le_trans (by decide) hRf, Nat.le_trans (by decide) hRl⟩ ⟨hK, hN⟩ hP [] rfl rfl hl.1 rfl (Nat.le_of_ble_eq_true rfl) ⟨Nat.zero_le _, Nat.zero_le _⟩ dX5_view_5 (fun _ => ?_)
  refine lv_istore_n (lv' := [(3, .int z5), (0, .ref a_t), (1, .ref a_p1), (2, .int x2)]) hx hb dX5_view_8 rfl hl (by decide) rfl (fun ls hl => ?_)
  refine lv_iload_n hx hb dX5_view_9 rfl (lv_at hl 3 rfl) ?_
  refine lv_bipush (v := 9) hx hb dX5_view_10 (by decide) ?_
  refine lv_idiv hx hb dX5_view_12 (by decide) ?_
  refine lv_bipush (v := 8) hx hb dX5_view_13 (by decide) ?_
  refine lv_irem hx hb dX5_view_15 (by decide) ?_
  refine lv_istore (lv' := [(4, .int (jrem (x2 / 9) 8)), (3, .int z5), (0, .ref a_t), (1, .ref a_p1), (2, .int x2)]) hx hb dX5_view_16 hl (by decide) rfl (fun ls hl => ?_)
  refine lv_iconst (v := 1) hx hb dX5_view_18 (by decide) ?_
  have J_21 : ∀ (n_21 : Nat) (x2 : Int32) (x3 : Int32) (x4 : Int32) (x5 : Int32) (ls : Array Slot), f_X5_view_21 p1_guests n_21 x2 x3 x4 x5 = some res → lv_has ls 7 [(1, .ref a_p1), (2, .int x2), (3, .int x3), (4, .int x4), (5, .int x5)] → W p l e R s m args below meth c s.heap [] 0 0 Q (F0 m 21 ls []) := by
    intro n_21
    induction n_21 with
    | zero =>
      intro x2 x3 x4 x5 ls hf hl
      cases hf
    | succ n_21 ih_21 =>
      intro x2 x3 x4 x5 ls hf hl
      unfold f_X5_view_21 at hf
      refine lv_iload hx hb dX5_view_21 (lv_at hl 4 rfl) ?_
      refine lv_iload hx hb dX5_view_23 (lv_at hl 3 rfl) ?_
      refine lv_icmp_gt (tgt := 68) hx hb dX5_view_25 (by decide) (fun hc_25 => ?_) (fun hc_25 => ?_)
      · have hf := it_pos hc_25 hf
        refine lv_iconst (v := 0) hx hb dX5_view_68 (by decide) ?_
        obtain rfl := Option.some.inj hf
        exact hQ 69 ls trivial dX5_view_69
      · have hf := it_neg hc_25 hf
        refine lv_iload_n hx hb dX5_view_28 rfl (lv_at hl 1 rfl) ?_
        refine lv_iload hx hb dX5_view_29 (lv_at hl 4 rfl) ?_
        refine lv_bipush (v := 9) hx hb dX5_view_31 (by decide) ?_
        refine lv_imul hx hb dX5_view_33 ?_
        refine lv_isub hx hb dX5_view_34 ?_
        refine lv_istore (lv' := [(6, .int (x2 - (x5 * 9))), (1, .ref a_p1), (2, .int x2), (3, .int x3), (4, .int x4), (5, .int x5)]) hx hb dX5_view_35 hl (by decide) rfl (fun ls hl => ?_)
        refine lv_aload_n hx hb dX5_view_37 rfl (lv_at hl 1 rfl) ?_
        refine lv_iload hx hb dX5_view_38 (lv_at hl 0 rfl) ?_
        obtain ⟨z40, e40, hf⟩ := bd_some hf
        refine rV_RO (As := [.int (x2 - (x5 * 9))]) (rest := []) ⟨hx, hb, hml, hown, hT⟩ (gdV tb_863 tb_685 tb_686 tb_88 tb_687) hd_X0_isTaken (c_X0_isTaken l D cI cB cZ a_p1 a_p1_guests a_p1_numbers a_p1_coats a_p1_line p1_waiting p1_arrived p1_standing p1_climbed p1_drawn p1_guests (x2 - (x5 * 9)) z40 e40) ⟨rfl, rfl⟩ ⟨Nat.le_trans (by decide) hRf, Nat.le_trans (by decide) hRl⟩ ⟨hK, hN⟩ hP [0, 1] rfl 0 rfl rfl rfl hl.1 rfl (Nat.le_of_ble_eq_true rfl) ⟨Nat.zero_le _, Nat.zero_le _⟩ dX5_view_40 (fun hz_40 => ?_)
        refine lv_if_eq (tgt := 62) hx hb dX5_view_43 (by decide) (fun hc_43 => ?_) (fun hc_43 => ?_)
        · have hf := it_pos hc_43 hf
          refine lv_iinc (v := x5 + 1) (lv' := [(5, .int (x5 + 1)), (6, .int (x2 - (x5 * 9))), (1, .ref a_p1), (2, .int x2), (3, .int x3), (4, .int x4)]) hx hb dX5_view_62 hl (k := 5) rfl (congrArg (_ + ·) (by decide : Int32.ofInt 1 = 1)) (by decide) rfl (fun ls hl => ?_)
          refine lv_goto (tgt := 21) hx hb dX5_view_65 (by decide) ?_
          exact ih_21 _ _ _ _ _ hf (lv_sub hl [2, 3, 4, 5, 0] rfl)
        · have hf := it_neg hc_43 hf
          refine lv_aload_n hx hb dX5_view_46 rfl (lv_at hl 1 rfl) ?_
          refine lv_iload hx hb dX5_view_47 (lv_at hl 0 rfl) ?_
          obtain ⟨z49, e49, hf⟩ := bd_some hf
          refine rV_RO (As := [.int (x2 - (x5 * 9))]) (rest := []) ⟨hx, hb, hml, hown, hT⟩ (gdV tb_847 tb_689 tb_690 tb_88 tb_691) hd_X0_guestOn (c_X0_guestOn l D cI cB cZ a_p1 a_p1_guests a_p1_numbers a_p1_coats a_p1_line p1_waiting p1_arrived p1_standing p1_climbed p1_drawn p1_guests (x2 - (x5 * 9)) z49 e49) ⟨rfl, rfl⟩ ⟨Nat.le_trans (by decide) hRf, Nat.le_trans (by decide) hRl⟩ ⟨hK, hN⟩ hP [0, 1] rfl 0 rfl rfl rfl hl.1 rfl (Nat.le_of_ble_eq_true rfl) ⟨Nat.zero_le _, Nat.zero_le _⟩ dX5_view_49 (fun _ => ?_)
          obtain ⟨z52, e52, hf⟩ := bd_some hf
          refine rS_RO (As := [.int z49]) (rest := []) ⟨hx, hb, hml, hown, hT⟩ (gdS tb_862 tb_729 tb_104 tb_730) hd_X1_heightOf (c_X1_heightOf l D cI cB cZ z49 z52 e52) ⟨rfl, rfl⟩ ⟨Nat.le_trans (by decide) hRf, Nat.le_trans (by decide) hRl⟩ ⟨hK, hN⟩ hP [] rfl rfl hl.1 rfl (Nat.le_of_ble_eq_true rfl) ⟨Nat.zero_le _, Nat.zero_le _⟩ dX5_view_52 (fun _ => ?_)
          refine lv_iload_n hx hb dX5_view_55 rfl (lv_at hl 3 rfl) ?_
          refine lv_icmp_lt (tgt := 62) hx hb dX5_view_56 (by decide) (fun hc_56 => ?_) (fun hc_56 => ?_)
          · have hf := it_pos hc_56 hf
            refine lv_iinc (v := x5 + 1) (lv' := [(5, .int (x5 + 1)), (6, .int (x2 - (x5 * 9))), (1, .ref a_p1), (2, .int x2), (3, .int x3), (4, .int x4)]) hx hb dX5_view_62 hl (k := 5) rfl (congrArg (_ + ·) (by decide : Int32.ofInt 1 = 1)) (by decide) rfl (fun ls hl => ?_)
            refine lv_goto (tgt := 21) hx hb dX5_view_65 (by decide) ?_
            exact ih_21 _ _ _ _ _ hf (lv_sub hl [2, 3, 4, 5, 0] rfl)
          · have hf := it_neg hc_56 hf
            refine lv_iload hx hb dX5_view_59 (lv_at hl 5 rfl) ?_
            obtain rfl := Option.some.inj hf
            exact hQ 61 ls trivial dX5_view_61
  refine lv_istore (lv' := [(5, .int 1), (4, .int (jrem (x2 / 9) 8)), (3, .int z5), (0, .ref a_t), (1, .ref a_p1), (2, .int x2)]) hx hb dX5_view_19 hl (by decide) rfl (fun ls hl => ?_)
  exact J_21 _ _ _ _ _ _ hf (lv_sub hl [4, 5, 2, 1, 0] rfl)
theorem hd_X5_view : (yX5_view).cls = RX5 ∧ (yX5_view).cls ≠ "java/lang/invoke/MethodHandle" ∧ (yX5_view).cls ≠ "java/lang/invoke/VarHandle" ∧ (parseMethodDescriptor (yX5_view).desc).map (fun d => d.parameters.length) = some 2 := by decide +kernel
theorem c_X5_view (l : Launch) (D : va_G) (cI cB cZ : ClassId) (a_p1 : Nat) (a_p1_guests : Nat) (a_p1_numbers : Nat) (a_p1_coats : Nat) (a_p1_line : Nat) (a_t : Nat) (p1_waiting : Int32) (p1_arrived : Int32) (p1_standing : Int32) (p1_climbed : Int32) (p1_drawn : Int32) (p1_guests : (Nat → Int32)) (x2 : Int32) (res : Int32) (hf : f_X5_view p1_guests x2 = some res) : Met l yX5_view (.code yX5_view cX5_view 7 (some .int) :: TB) (rmk (2) (42)) (pRO [.ref a_t, .ref a_p1, .int x2] D cI cB cZ (w_X5_view cI cB cZ a_p1 a_p1_guests a_p1_numbers a_p1_coats a_p1_line a_t p1_waiting p1_arrived p1_standing p1_climbed p1_drawn p1_guests)) (qRO (some (.int res)) True) 0 0 (fun _ => False) :=
  mkRO (by decide +kernel) (Nat.le_of_ble_eq_true rfl) (fun p e s m below meth c ls S hr hlk hK hP hl => b_X5_view S.1 S.2.1 S.2.2.1 S.2.2.2.1 S.2.2.2.2 (Nat.le_refl _) (Nat.le_refl _) hK.1 hK.2 a_p1 a_p1_guests a_p1_numbers a_p1_coats a_p1_line a_t p1_waiting p1_arrived p1_standing p1_climbed p1_drawn p1_guests x2 res hf hP (fun pc ls hE hd => eRO_i S.1 S.2.1 hr rfl hlk hE hd) ls hl)
def f_X5_familiesIn_5 (p1_guests : (Nat → Int32)) : Nat → Int32 → Int32 → Int32 → Option (Int32)
  | 0, _, _, _ => none
  | n + 1, x2, x3, x4 => (if 9 ≤ x4 then some (x3) else (f_X0_guestOn p1_guests ((x2 * 9) + x4)).bind (fun z20 => (if z20 = (-1) then (f_X5_familiesIn_5 p1_guests n) x2 x3 (x4 + 1) else (f_X1_familyOf z20).bind (fun z35 => (f_X5_familiesIn_5 p1_guests n) x2 (x3 ||| (1 <<< (z35 &&& 31))) (x4 + 1)))))
def f_X5_familiesIn (p1_guests : (Nat → Int32)) (x2 : Int32) : Option (Int32) := f_X5_familiesIn_5 p1_guests FU x2 0 0
def w_X5_familiesIn (cI cB cZ : ClassId) (a_p1 : Nat) (a_p1_guests : Nat) (a_p1_numbers : Nat) (a_p1_coats : Nat) (a_p1_line : Nat) (a_t : Nat) (p1_waiting : Int32) (p1_arrived : Int32) (p1_standing : Int32) (p1_climbed : Int32) (p1_drawn : Int32) (p1_guests : (Nat → Int32)) : va_W := [(a_p1, .inr (0, [.ref a_p1_guests, .ref a_p1_numbers, .ref a_p1_coats, .ref a_p1_line, .int p1_waiting, .int p1_arrived, .int p1_standing, .int p1_climbed, .int p1_drawn])), (a_p1_guests, .inl (cI, 144, .inl p1_guests))]
set_option maxHeartbeats 4000000 in
set_option maxRecDepth 100000 in
theorem b_X5_familiesIn {p : Program} {l : Launch} {e : Env} {R : Room} {s : State} {m : MethodId} {args : Array Value} {below : List Frame} {meth : Method} {c : Code} {Q : State → Prop} {D : va_G} {cI cB cZ : ClassId} (hx : p.tables.exec = Jvm.exec) (hb : c.code = cX5_familiesIn) (hml : c.maxLocals = 6) (hown : s.vm.findClass RX5 = some m.cls) (hT : ∀ w ∈ TB, w.before args s = true) (hRf : (1) ≤ R.frames) (hRl : (21) ≤ R.locals) (hK : va_K D vwCl (tyL cI cB cZ) s) (hN : NW s)  (a_p1 : Nat) (a_p1_guests : Nat) (a_p1_numbers : Nat) (a_p1_coats : Nat) (a_p1_line : Nat) (a_t : Nat) (p1_waiting : Int32) (p1_arrived : Int32) (p1_standing : Int32) (p1_climbed : Int32) (p1_drawn : Int32) (p1_guests : (Nat → Int32)) (x2 : Int32) (res : Int32) (hf : f_X5_familiesIn p1_guests x2 = some res) (hP : va_P D vwCl (w_X5_familiesIn cI cB cZ a_p1 a_p1_guests a_p1_numbers a_p1_coats a_p1_line a_t p1_waiting p1_arrived p1_standing p1_climbed p1_drawn p1_guests) s.heap) (hQ : ∀ (pc : Nat) (ls : Array Slot), True → decode cX5_familiesIn pc = .ok (.ireturn, 1) → W p l e R s m args below meth c s.heap [] 0 0 Q (F0 m pc ls [.int res])) (ls : Array Slot) (hl : lv_has ls 6 [(0, .ref a_t), (1, .ref a_p1), (2, .int x2)]) : W p l e R s m args below meth c s.heap [] 0 0 Q (F0 m 0 ls []) := by
  unfold f_X5_familiesIn at hf
  refine lv_iconst (v := 0) hx hb dX5_familiesIn_0 (by decide) ?_
  refine lv_istore_n (lv' := [(3, .int 0), (0, .ref a_t), (1, .ref a_p1), (2, .int x2)]) hx hb dX5_familiesIn_1 rfl hl (by decide) rfl (fun ls hl => ?_)
  refine lv_iconst (v := 0) hx hb dX5_familiesIn_2 (by decide) ?_
  have J_5 : ∀ (n_5 : Nat) (x2 : Int32) (x3 : Int32) (x4 : Int32) (ls : Array Slot), f_X5_familiesIn_5 p1_guests n_5 x2 x3 x4 = some res → lv_has ls 6 [(1, .ref a_p1), (2, .int x2), (3, .int x3), (4, .int x4)] → W p l e R s m args below meth c s.heap [] 0 0 Q (F0 m 5 ls []) := by
    intro n_5
    induction n_5 with
    | zero =>
      intro x2 x3 x4 ls hf hl
      cases hf
    | succ n_5 ih_5 =>
      intro x2 x3 x4 ls hf hl
      unfold f_X5_familiesIn_5 at hf
      refine lv_iload hx hb dX5_familiesIn_5 (lv_at hl 3 rfl) ?_
      refine lv_bipush (v := 9) hx hb dX5_familiesIn_7 (by decide) ?_
      refine lv_icmp_ge (tgt := 47) hx hb dX5_familiesIn_9 (by decide) (fun hc_9 => ?_) (fun hc_9 => ?_)
      · have hf := it_pos hc_9 hf
        refine lv_iload_n hx hb dX5_familiesIn_47 rfl (lv_at hl 2 rfl) ?_
        obtain rfl := Option.some.inj hf
        exact hQ 48 ls trivial dX5_familiesIn_48
      · have hf := it_neg hc_9 hf
        refine lv_aload_n hx hb dX5_familiesIn_12 rfl (lv_at hl 0 rfl) ?_
        refine lv_iload_n hx hb dX5_familiesIn_13 rfl (lv_at hl 1 rfl) ?_
        refine lv_bipush (v := 9) hx hb dX5_familiesIn_14 (by decide) ?_
        refine lv_imul hx hb dX5_familiesIn_16 ?_
        refine lv_iload hx hb dX5_familiesIn_17 (lv_at hl 3 rfl) ?_
        refine lv_iadd hx hb dX5_familiesIn_19 ?_
        obtain ⟨z20, e20, hf⟩ := bd_some hf
        refine rV_RO (As := [.int ((x2 * 9) + x4)]) (rest := []) ⟨hx, hb, hml, hown, hT⟩ (gdV tb_847 tb_689 tb_690 tb_88 tb_691) hd_X0_guestOn (c_X0_guestOn l D cI cB cZ a_p1 a_p1_guests a_p1_numbers a_p1_coats a_p1_line p1_waiting p1_arrived p1_standing p1_climbed p1_drawn p1_guests ((x2 * 9) + x4) z20 e20) ⟨rfl, rfl⟩ ⟨Nat.le_trans (by decide) hRf, Nat.le_trans (by decide) hRl⟩ ⟨hK, hN⟩ hP [0, 1] rfl 0 rfl rfl rfl hl.1 rfl (Nat.le_of_ble_eq_true rfl) ⟨Nat.zero_le _, Nat.zero_le _⟩ dX5_familiesIn_20 (fun _ => ?_)
        refine lv_istore (lv' := [(5, .int z20), (1, .ref a_p1), (2, .int x2), (3, .int x3), (4, .int x4)]) hx hb dX5_familiesIn_23 hl (by decide) rfl (fun ls hl => ?_)
        refine lv_iload hx hb dX5_familiesIn_25 (lv_at hl 0 rfl) ?_
        refine lv_iconst (v := (-1)) hx hb dX5_familiesIn_27 (by decide) ?_
        refine lv_icmp_eq (tgt := 41) hx hb dX5_familiesIn_28 (by decide) (fun hc_28 => ?_) (fun hc_28 => ?_)
        · have hf := it_pos hc_28 hf
          refine lv_iinc (v := x4 + 1) (lv' := [(4, .int (x4 + 1)), (5, .int z20), (1, .ref a_p1), (2, .int x2), (3, .int x3)]) hx hb dX5_familiesIn_41 hl (k := 4) rfl (congrArg (_ + ·) (by decide : Int32.ofInt 1 = 1)) (by decide) rfl (fun ls hl => ?_)
          refine lv_goto (tgt := 5) hx hb dX5_familiesIn_44 (by decide) ?_
          exact ih_5 _ _ _ _ hf (lv_sub hl [2, 3, 4, 0] rfl)
        · have hf := it_neg hc_28 hf
          refine lv_iload_n hx hb dX5_familiesIn_31 rfl (lv_at hl 3 rfl) ?_
          refine lv_iconst (v := 1) hx hb dX5_familiesIn_32 (by decide) ?_
          refine lv_iload hx hb dX5_familiesIn_33 (lv_at hl 0 rfl) ?_
          obtain ⟨z35, e35, hf⟩ := bd_some hf
          refine rS_RO (As := [.int z20]) (rest := [.int 1, .int x3]) ⟨hx, hb, hml, hown, hT⟩ (gdS tb_848 tb_719 tb_104 tb_720) hd_X1_familyOf (c_X1_familyOf l D cI cB cZ z20 z35 e35) ⟨rfl, rfl⟩ ⟨Nat.le_trans (by decide) hRf, Nat.le_trans (by decide) hRl⟩ ⟨hK, hN⟩ hP [] rfl rfl hl.1 rfl (Nat.le_of_ble_eq_true rfl) ⟨Nat.zero_le _, Nat.zero_le _⟩ dX5_familiesIn_35 (fun _ => ?_)
          refine lv_ishl hx hb dX5_familiesIn_38 ?_
          refine lv_ior hx hb dX5_familiesIn_39 ?_
          refine lv_istore_n (lv' := [(3, .int (x3 ||| (1 <<< (z35 &&& 31)))), (5, .int z20), (1, .ref a_p1), (2, .int x2), (4, .int x4)]) hx hb dX5_familiesIn_40 rfl hl (by decide) rfl (fun ls hl => ?_)
          refine lv_iinc (v := x4 + 1) (lv' := [(4, .int (x4 + 1)), (3, .int (x3 ||| (1 <<< (z35 &&& 31)))), (5, .int z20), (1, .ref a_p1), (2, .int x2)]) hx hb dX5_familiesIn_41 hl (k := 4) rfl (congrArg (_ + ·) (by decide : Int32.ofInt 1 = 1)) (by decide) rfl (fun ls hl => ?_)
          refine lv_goto (tgt := 5) hx hb dX5_familiesIn_44 (by decide) ?_
          exact ih_5 _ _ _ _ hf (lv_sub hl [3, 4, 1, 0] rfl)
  refine lv_istore (lv' := [(4, .int 0), (3, .int 0), (0, .ref a_t), (1, .ref a_p1), (2, .int x2)]) hx hb dX5_familiesIn_3 hl (by decide) rfl (fun ls hl => ?_)
  exact J_5 _ _ _ _ _ hf (lv_sub hl [3, 4, 1, 0] rfl)
theorem hd_X5_familiesIn : (yX5_familiesIn).cls = RX5 ∧ (yX5_familiesIn).cls ≠ "java/lang/invoke/MethodHandle" ∧ (yX5_familiesIn).cls ≠ "java/lang/invoke/VarHandle" ∧ (parseMethodDescriptor (yX5_familiesIn).desc).map (fun d => d.parameters.length) = some 2 := by decide +kernel
theorem c_X5_familiesIn (l : Launch) (D : va_G) (cI cB cZ : ClassId) (a_p1 : Nat) (a_p1_guests : Nat) (a_p1_numbers : Nat) (a_p1_coats : Nat) (a_p1_line : Nat) (a_t : Nat) (p1_waiting : Int32) (p1_arrived : Int32) (p1_standing : Int32) (p1_climbed : Int32) (p1_drawn : Int32) (p1_guests : (Nat → Int32)) (x2 : Int32) (res : Int32) (hf : f_X5_familiesIn p1_guests x2 = some res) : Met l yX5_familiesIn (.code yX5_familiesIn cX5_familiesIn 6 (some .int) :: TB) (rmk (1) (21)) (pRO [.ref a_t, .ref a_p1, .int x2] D cI cB cZ (w_X5_familiesIn cI cB cZ a_p1 a_p1_guests a_p1_numbers a_p1_coats a_p1_line a_t p1_waiting p1_arrived p1_standing p1_climbed p1_drawn p1_guests)) (qRO (some (.int res)) True) 0 0 (fun _ => False) :=
  mkRO (by decide +kernel) (Nat.le_of_ble_eq_true rfl) (fun p e s m below meth c ls S hr hlk hK hP hl => b_X5_familiesIn S.1 S.2.1 S.2.2.1 S.2.2.2.1 S.2.2.2.2 (Nat.le_refl _) (Nat.le_refl _) hK.1 hK.2 a_p1 a_p1_guests a_p1_numbers a_p1_coats a_p1_line a_t p1_waiting p1_arrived p1_standing p1_climbed p1_drawn p1_guests x2 res hf hP (fun pc ls hE hd => eRO_i S.1 S.2.1 hr rfl hlk hE hd) ls hl)
def f_X5_longestTaken_37 (p1_guests : (Nat → Int32)) (k8 : Int32 → Int32 → Int32 → Int32 → Option (Int32)) (x2 : Int32) (x3 : Int32) (x5 : Int32) (y0 : Int32) : Option (Int32) := k8 x2 (if x3 < y0 then y0 else x3) y0 (x5 + 1)
def f_X5_longestTaken_8 (p1_guests : (Nat → Int32)) : Nat → Int32 → Int32 → Int32 → Int32 → Option (Int32)
  | 0, _, _, _, _ => none
  | n + 1, x2, x3, x4, x5 => (if 9 ≤ x5 then some (x3) else (f_X0_isTaken p1_guests ((x2 * 9) + x5)).bind (fun z23 => (if z23 = 0 then f_X5_longestTaken_37 p1_guests (f_X5_longestTaken_8 p1_guests n) x2 x3 x5 0 else f_X5_longestTaken_37 p1_guests (f_X5_longestTaken_8 p1_guests n) x2 x3 x5 (x4 + 1))))
def f_X5_longestTaken (p1_guests : (Nat → Int32)) (x2 : Int32) : Option (Int32) := f_X5_longestTaken_8 p1_guests FU x2 0 0 0
def w_X5_longestTaken (cI cB cZ : ClassId) (a_p1 : Nat) (a_p1_guests : Nat) (a_p1_numbers : Nat) (a_p1_coats : Nat) (a_p1_line : Nat) (a_t : Nat) (p1_waiting : Int32) (p1_arrived : Int32) (p1_standing : Int32) (p1_climbed : Int32) (p1_drawn : Int32) (p1_guests : (Nat → Int32)) : va_W := [(a_p1, .inr (0, [.ref a_p1_guests, .ref a_p1_numbers, .ref a_p1_coats, .ref a_p1_line, .int p1_waiting, .int p1_arrived, .int p1_standing, .int p1_climbed, .int p1_drawn])), (a_p1_guests, .inl (cI, 144, .inl p1_guests))]
set_option maxHeartbeats 4000000 in
set_option maxRecDepth 100000 in
theorem b_X5_longestTaken {p : Program} {l : Launch} {e : Env} {R : Room} {s : State} {m : MethodId} {args : Array Value} {below : List Frame} {meth : Method} {c : Code} {Q : State → Prop} {D : va_G} {cI cB cZ : ClassId} (hx : p.tables.exec = Jvm.exec) (hb : c.code = cX5_longestTaken) (hml : c.maxLocals = 6) (hown : s.vm.findClass RX5 = some m.cls) (hT : ∀ w ∈ TB, w.before args s = true) (hRf : (2) ≤ R.frames) (hRl : (42) ≤ R.locals) (hK : va_K D vwCl (tyL cI cB cZ) s) (hN : NW s)  (a_p1 : Nat) (a_p1_guests : Nat) (a_p1_numbers : Nat) (a_p1_coats : Nat) (a_p1_line : Nat) (a_t : Nat) (p1_waiting : Int32) (p1_arrived : Int32) (p1_standing : Int32) (p1_climbed : Int32) (p1_drawn : Int32) (p1_guests : (Nat → Int32)) (x2 : Int32) (res : Int32) (hf : f_X5_longestTaken p1_guests x2 = some res) (hP : va_P D vwCl (w_X5_longestTaken cI cB cZ a_p1 a_p1_guests a_p1_numbers a_p1_coats a_p1_line a_t p1_waiting p1_arrived p1_standing p1_climbed p1_drawn p1_guests) s.heap) (hQ : ∀ (pc : Nat) (ls : Array Slot), True → decode cX5_longestTaken pc = .ok (.ireturn, 1) → W p l e R s m args below meth c s.heap [] 0 0 Q (F0 m pc ls [.int res])) (ls : Array Slot) (hl : lv_has ls 6 [(0, .ref a_t), (1, .ref a_p1), (2, .int x2)]) : W p l e R s m args below meth c s.heap [] 0 0 Q (F0 m 0 ls []) := by
  unfold f_X5_longestTaken at hf
  refine lv_iconst (v := 0) hx hb dX5_longestTaken_0 (by decide) ?_
  refine lv_istore_n (lv' := [(3, .int 0), (0, .ref a_t), (1, .ref a_p1), (2, .int x2)]) hx hb dX5_longestTaken_1 rfl hl (by decide) rfl (fun ls hl => ?_)
  refine lv_iconst (v := 0) hx hb dX5_longestTaken_2 (by decide) ?_
  refine lv_istore (lv' := [(4, .int 0), (3, .int 0), (0, .ref a_t), (1, .ref a_p1), (2, .int x2)]) hx hb dX5_longestTaken_3 hl (by decide) rfl (fun ls hl => ?_)
  refine lv_iconst (v := 0) hx hb dX5_longestTaken_5 (by decide) ?_
  have J_8 : ∀ (n_8 : Nat) (x2 : Int32) (x3 : Int32) (x4 : Int32) (x5 : Int32) (ls : Array Slot), f_X5_longestTaken_8 p1_guests n_8 x2 x3 x4 x5 = some res → lv_has ls 6 [(1, .ref a_p1), (2, .int x2), (3, .int x3), (4, .int x4), (5, .int x5)] → W p l e R s m args below meth c s.heap [] 0 0 Q (F0 m 8 ls []) := by
    intro n_8
    induction n_8 with
    | zero =>
      intro x2 x3 x4 x5 ls hf hl
      cases hf
    | succ n_8 ih_8 =>
      intro x2 x3 x4 x5 ls hf hl
      unfold f_X5_longestTaken_8 at hf
      refine lv_iload hx hb dX5_longestTaken_8 (lv_at hl 4 rfl) ?_
      refine lv_bipush (v := 9) hx hb dX5_longestTaken_10 (by decide) ?_
      refine lv_icmp_ge (tgt := 52) hx hb dX5_longestTaken_12 (by decide) (fun hc_12 => ?_) (fun hc_12 => ?_)
      · have hf := it_pos hc_12 hf
        refine lv_iload_n hx hb dX5_longestTaken_52 rfl (lv_at hl 2 rfl) ?_
        obtain rfl := Option.some.inj hf
        exact hQ 53 ls trivial dX5_longestTaken_53
      · have hf := it_neg hc_12 hf
        refine lv_aload_n hx hb dX5_longestTaken_15 rfl (lv_at hl 0 rfl) ?_
        refine lv_iload_n hx hb dX5_longestTaken_16 rfl (lv_at hl 1 rfl) ?_
        refine lv_bipush (v := 9) hx hb dX5_longestTaken_17 (by decide) ?_
        refine lv_imul hx hb dX5_longestTaken_19 ?_
        refine lv_iload hx hb dX5_longestTaken_20 (lv_at hl 4 rfl) ?_
        refine lv_iadd hx hb dX5_longestTaken_22 ?_
        obtain ⟨z23, e23, hf⟩ := bd_some hf
        refine rV_RO (As := [.int ((x2 * 9) + x5)]) (rest := []) ⟨hx, hb, hml, hown, hT⟩ (gdV tb_863 tb_685 tb_686 tb_88 tb_687) hd_X0_isTaken (c_X0_isTaken l D cI cB cZ a_p1 a_p1_guests a_p1_numbers a_p1_coats a_p1_line p1_waiting p1_arrived p1_standing p1_climbed p1_drawn p1_guests ((x2 * 9) + x5) z23 e23) ⟨rfl, rfl⟩ ⟨Nat.le_trans (by decide) hRf, Nat.le_trans (by decide) hRl⟩ ⟨hK, hN⟩ hP [0, 1] rfl 0 rfl rfl rfl hl.1 rfl (Nat.le_of_ble_eq_true rfl) ⟨Nat.zero_le _, Nat.zero_le _⟩ dX5_longestTaken_23 (fun hz_23 => ?_)
        have J_37 : ∀ (x2 : Int32) (x3 : Int32) (x5 : Int32) (y0 : Int32) (ls : Array Slot), f_X5_longestTaken_37 p1_guests (f_X5_longestTaken_8 p1_guests n_8) x2 x3 x5 y0 = some res → lv_has ls 6 [(1, .ref a_p1), (2, .int x2), (3, .int x3), (5, .int x5)] → W p l e R s m args below meth c s.heap [] 0 0 Q (F0 m 37 ls [.int y0]) := by
          intro x2 x3 x5 y0 ls hf hl
          unfold f_X5_longestTaken_37 at hf
          refine lv_istore (lv' := [(4, .int y0), (1, .ref a_p1), (2, .int x2), (3, .int x3), (5, .int x5)]) hx hb dX5_longestTaken_37 hl (by decide) rfl (fun ls hl => ?_)
          refine lv_iload_n hx hb dX5_longestTaken_39 rfl (lv_at hl 3 rfl) ?_
          refine lv_iload hx hb dX5_longestTaken_40 (lv_at hl 0 rfl) ?_
          refine va_mmax hx hb (hml.trans hl.1.symm) hown (hT _ tb_887) (hT _ tb_477) (hT _ tb_98) (hT _ tb_478) (Nat.le_trans (by decide) hRf) (Nat.le_trans (Nat.le_of_ble_eq_true rfl) hRl) (Nat.zero_le _) (Nat.zero_le _) dX5_longestTaken_42 ?_
          refine lv_istore_n (lv' := [(3, .int (if x3 < y0 then y0 else x3)), (4, .int y0), (1, .ref a_p1), (2, .int x2), (5, .int x5)]) hx hb dX5_longestTaken_45 rfl hl (by decide) rfl (fun ls hl => ?_)
          refine lv_iinc (v := x5 + 1) (lv' := [(5, .int (x5 + 1)), (3, .int (if x3 < y0 then y0 else x3)), (4, .int y0), (1, .ref a_p1), (2, .int x2)]) hx hb dX5_longestTaken_46 hl (k := 4) rfl (congrArg (_ + ·) (by decide : Int32.ofInt 1 = 1)) (by decide) rfl (fun ls hl => ?_)
          refine lv_goto (tgt := 8) hx hb dX5_longestTaken_49 (by decide) ?_
          exact ih_8 _ _ _ _ _ hf (lv_sub hl [3, 4, 1, 2, 0] rfl)
        refine lv_if_eq (tgt := 36) hx hb dX5_longestTaken_26 (by decide) (fun hc_26 => ?_) (fun hc_26 => ?_)
        · have hf := it_pos hc_26 hf
          refine lv_iconst (v := 0) hx hb dX5_longestTaken_36 (by decide) ?_
          exact J_37 _ _ _ _ _ hf (lv_sub hl [0, 1, 2, 4] rfl)
        · have hf := it_neg hc_26 hf
          refine lv_iload hx hb dX5_longestTaken_29 (lv_at hl 3 rfl) ?_
          refine lv_iconst (v := 1) hx hb dX5_longestTaken_31 (by decide) ?_
          refine lv_iadd hx hb dX5_longestTaken_32 ?_
          refine lv_goto (tgt := 37) hx hb dX5_longestTaken_33 (by decide) ?_
          exact J_37 _ _ _ _ _ hf (lv_sub hl [0, 1, 2, 4] rfl)
  refine lv_istore (lv' := [(5, .int 0), (4, .int 0), (3, .int 0), (0, .ref a_t), (1, .ref a_p1), (2, .int x2)]) hx hb dX5_longestTaken_6 hl (by decide) rfl (fun ls hl => ?_)
  exact J_8 _ _ _ _ _ _ hf (lv_sub hl [4, 5, 2, 1, 0] rfl)
theorem hd_X5_longestTaken : (yX5_longestTaken).cls = RX5 ∧ (yX5_longestTaken).cls ≠ "java/lang/invoke/MethodHandle" ∧ (yX5_longestTaken).cls ≠ "java/lang/invoke/VarHandle" ∧ (parseMethodDescriptor (yX5_longestTaken).desc).map (fun d => d.parameters.length) = some 2 := by decide +kernel
theorem c_X5_longestTaken (l : Launch) (D : va_G) (cI cB cZ : ClassId) (a_p1 : Nat) (a_p1_guests : Nat) (a_p1_numbers : Nat) (a_p1_coats : Nat) (a_p1_line : Nat) (a_t : Nat) (p1_waiting : Int32) (p1_arrived : Int32) (p1_standing : Int32) (p1_climbed : Int32) (p1_drawn : Int32) (p1_guests : (Nat → Int32)) (x2 : Int32) (res : Int32) (hf : f_X5_longestTaken p1_guests x2 = some res) : Met l yX5_longestTaken (.code yX5_longestTaken cX5_longestTaken 6 (some .int) :: TB) (rmk (2) (42)) (pRO [.ref a_t, .ref a_p1, .int x2] D cI cB cZ (w_X5_longestTaken cI cB cZ a_p1 a_p1_guests a_p1_numbers a_p1_coats a_p1_line a_t p1_waiting p1_arrived p1_standing p1_climbed p1_drawn p1_guests)) (qRO (some (.int res)) True) 0 0 (fun _ => False) :=
  mkRO (by decide +kernel) (Nat.le_of_ble_eq_true rfl) (fun p e s m below meth c ls S hr hlk hK hP hl => b_X5_longestTaken S.1 S.2.1 S.2.2.1 S.2.2.2.1 S.2.2.2.2 (Nat.le_refl _) (Nat.le_refl _) hK.1 hK.2 a_p1 a_p1_guests a_p1_numbers a_p1_coats a_p1_line a_t p1_waiting p1_arrived p1_standing p1_climbed p1_drawn p1_guests x2 res hf hP (fun pc ls hE hd => eRO_i S.1 S.2.1 hr rfl hlk hE hd) ls hl)
def f_X5_longestOfOneFamily_49 (p1_guests : (Nat → Int32)) (k5 : Int32 → Int32 → Int32 → Option (Int32)) (k18 : Int32 → Int32 → Int32 → Int32 → Int32 → Option (Int32)) (x2 : Int32) (x3 : Int32) (x4 : Int32) (x6 : Int32) (y0 : Int32) : Option (Int32) := k18 x2 (if x3 < y0 then y0 else x3) x4 y0 (x6 + 1)
def f_X5_longestOfOneFamily_18 (p1_guests : (Nat → Int32)) (k5 : Int32 → Int32 → Int32 → Option (Int32)) : Nat → Int32 → Int32 → Int32 → Int32 → Int32 → Option (Int32)
  | 0, _, _, _, _, _ => none
  | n + 1, x2, x3, x4, x5, x6 => (if 9 ≤ x6 then k5 x2 x3 (x4 + 1) else (f_X0_isTakenBy p1_guests ((x2 * 9) + x6) x4).bind (fun z35 => (if z35 = 0 then f_X5_longestOfOneFamily_49 p1_guests k5 (f_X5_longestOfOneFamily_18 p1_guests k5 n) x2 x3 x4 x6 0 else f_X5_longestOfOneFamily_49 p1_guests k5 (f_X5_longestOfOneFamily_18 p1_guests k5 n) x2 x3 x4 x6 (x5 + 1))))
def f_X5_longestOfOneFamily_5 (p1_guests : (Nat → Int32)) : Nat → Int32 → Int32 → Int32 → Option (Int32)
  | 0, _, _, _ => none
  | n + 1, x2, x3, x4 => (if 16 ≤ x4 then some (x3) else f_X5_longestOfOneFamily_18 p1_guests (f_X5_longestOfOneFamily_5 p1_guests n) FU x2 x3 x4 0 0)
def f_X5_longestOfOneFamily (p1_guests : (Nat → Int32)) (x2 : Int32) : Option (Int32) := f_X5_longestOfOneFamily_5 p1_guests FU x2 0 0
def w_X5_longestOfOneFamily (cI cB cZ : ClassId) (a_p1 : Nat) (a_p1_guests : Nat) (a_p1_numbers : Nat) (a_p1_coats : Nat) (a_p1_line : Nat) (a_t : Nat) (p1_waiting : Int32) (p1_arrived : Int32) (p1_standing : Int32) (p1_climbed : Int32) (p1_drawn : Int32) (p1_guests : (Nat → Int32)) : va_W := [(a_p1, .inr (0, [.ref a_p1_guests, .ref a_p1_numbers, .ref a_p1_coats, .ref a_p1_line, .int p1_waiting, .int p1_arrived, .int p1_standing, .int p1_climbed, .int p1_drawn])), (a_p1_guests, .inl (cI, 144, .inl p1_guests))]
set_option maxHeartbeats 4000000 in
set_option maxRecDepth 100000 in
theorem b_X5_longestOfOneFamily {p : Program} {l : Launch} {e : Env} {R : Room} {s : State} {m : MethodId} {args : Array Value} {below : List Frame} {meth : Method} {c : Code} {Q : State → Prop} {D : va_G} {cI cB cZ : ClassId} (hx : p.tables.exec = Jvm.exec) (hb : c.code = cX5_longestOfOneFamily) (hml : c.maxLocals = 7) (hown : s.vm.findClass RX5 = some m.cls) (hT : ∀ w ∈ TB, w.before args s = true) (hRf : (2) ≤ R.frames) (hRl : (44) ≤ R.locals) (hK : va_K D vwCl (tyL cI cB cZ) s) (hN : NW s)  (a_p1 : Nat) (a_p1_guests : Nat) (a_p1_numbers : Nat) (a_p1_coats : Nat) (a_p1_line : Nat) (a_t : Nat) (p1_waiting : Int32) (p1_arrived : Int32) (p1_standing : Int32) (p1_climbed : Int32) (p1_drawn : Int32) (p1_guests : (Nat → Int32)) (x2 : Int32) (res : Int32) (hf : f_X5_longestOfOneFamily p1_guests x2 = some res) (hP : va_P D vwCl (w_X5_longestOfOneFamily cI cB cZ a_p1 a_p1_guests a_p1_numbers a_p1_coats a_p1_line a_t p1_waiting p1_arrived p1_standing p1_climbed p1_drawn p1_guests) s.heap) (hQ : ∀ (pc : Nat) (ls : Array Slot), True → decode cX5_longestOfOneFamily pc = .ok (.ireturn, 1) → W p l e R s m args below meth c s.heap [] 0 0 Q (F0 m pc ls [.int res])) (ls : Array Slot) (hl : lv_has ls 7 [(0, .ref a_t), (1, .ref a_p1), (2, .int x2)]) : W p l e R s m args below meth c s.heap [] 0 0 Q (F0 m 0 ls []) := by
  unfold f_X5_longestOfOneFamily at hf
  refine lv_iconst (v := 0) hx hb dX5_longestOfOneFamily_0 (by decide) ?_
  refine lv_istore_n (lv' := [(3, .int 0), (0, .ref a_t), (1, .ref a_p1), (2, .int x2)]) hx hb dX5_longestOfOneFamily_1 rfl hl (by decide) rfl (fun ls hl => ?_)
  refine lv_iconst (v := 0) hx hb dX5_longestOfOneFamily_2 (by decide) ?_
  have J_5 : ∀ (n_5 : Nat) (x2 : Int32) (x3 : Int32) (x4 : Int32) (ls : Array Slot), f_X5_longestOfOneFamily_5 p1_guests n_5 x2 x3 x4 = some res → lv_has ls 7 [(1, .ref a_p1), (2, .int x2), (3, .int x3), (4, .int x4)] → W p l e R s m args below meth c s.heap [] 0 0 Q (F0 m 5 ls []) := by
    intro n_5
    induction n_5 with
    | zero =>
      intro x2 x3 x4 ls hf hl
      cases hf
    | succ n_5 ih_5 =>
      intro x2 x3 x4 ls hf hl
      unfold f_X5_longestOfOneFamily_5 at hf
      refine lv_iload hx hb dX5_longestOfOneFamily_5 (lv_at hl 3 rfl) ?_
      refine lv_bipush (v := 16) hx hb dX5_longestOfOneFamily_7 (by decide) ?_
      refine lv_icmp_ge (tgt := 70) hx hb dX5_longestOfOneFamily_9 (by decide) (fun hc_9 => ?_) (fun hc_9 => ?_)
      · have hf := it_pos hc_9 hf
        refine lv_iload_n hx hb dX5_longestOfOneFamily_70 rfl (lv_at hl 2 rfl) ?_
        obtain rfl := Option.some.inj hf
        exact hQ 71 ls trivial dX5_longestOfOneFamily_71
      · have hf := it_neg hc_9 hf
        refine lv_iconst (v := 0) hx hb dX5_longestOfOneFamily_12 (by decide) ?_
        refine lv_istore (lv' := [(5, .int 0), (1, .ref a_p1), (2, .int x2), (3, .int x3), (4, .int x4)]) hx hb dX5_longestOfOneFamily_13 hl (by decide) rfl (fun ls hl => ?_)
        refine lv_iconst (v := 0) hx hb dX5_longestOfOneFamily_15 (by decide) ?_
        have J_18 : ∀ (n_18 : Nat) (x2 : Int32) (x3 : Int32) (x4 : Int32) (x5 : Int32) (x6 : Int32) (ls : Array Slot), f_X5_longestOfOneFamily_18 p1_guests (f_X5_longestOfOneFamily_5 p1_guests n_5) n_18 x2 x3 x4 x5 x6 = some res → lv_has ls 7 [(1, .ref a_p1), (2, .int x2), (3, .int x3), (4, .int x4), (5, .int x5), (6, .int x6)] → W p l e R s m args below meth c s.heap [] 0 0 Q (F0 m 18 ls []) := by
          intro n_18
          induction n_18 with
          | zero =>
            intro x2 x3 x4 x5 x6 ls hf hl
            cases hf
          | succ n_18 ih_18 =>
            intro x2 x3 x4 x5 x6 ls hf hl
            unfold f_X5_longestOfOneFamily_18 at hf
            refine lv_iload hx hb dX5_longestOfOneFamily_18 (lv_at hl 5 rfl) ?_
            refine lv_bipush (v := 9) hx hb dX5_longestOfOneFamily_20 (by decide) ?_
            refine lv_icmp_ge (tgt := 64) hx hb dX5_longestOfOneFamily_22 (by decide) (fun hc_22 => ?_) (fun hc_22 => ?_)
            · have hf := it_pos hc_22 hf
              refine lv_iinc (v := x4 + 1) (lv' := [(4, .int (x4 + 1)), (1, .ref a_p1), (2, .int x2), (3, .int x3), (5, .int x5), (6, .int x6)]) hx hb dX5_longestOfOneFamily_64 hl (k := 3) rfl (congrArg (_ + ·) (by decide : Int32.ofInt 1 = 1)) (by decide) rfl (fun ls hl => ?_)
              refine lv_goto (tgt := 5) hx hb dX5_longestOfOneFamily_67 (by decide) ?_
              exact ih_5 _ _ _ _ hf (lv_sub hl [1, 2, 3, 0] rfl)
            · have hf := it_neg hc_22 hf
              refine lv_aload_n hx hb dX5_longestOfOneFamily_25 rfl (lv_at hl 0 rfl) ?_
              refine lv_iload_n hx hb dX5_longestOfOneFamily_26 rfl (lv_at hl 1 rfl) ?_
              refine lv_bipush (v := 9) hx hb dX5_longestOfOneFamily_27 (by decide) ?_
              refine lv_imul hx hb dX5_longestOfOneFamily_29 ?_
              refine lv_iload hx hb dX5_longestOfOneFamily_30 (lv_at hl 5 rfl) ?_
              refine lv_iadd hx hb dX5_longestOfOneFamily_32 ?_
              refine lv_iload hx hb dX5_longestOfOneFamily_33 (lv_at hl 3 rfl) ?_
              obtain ⟨z35, e35, hf⟩ := bd_some hf
              refine rV_RO (As := [.int ((x2 * 9) + x6), .int x4]) (rest := []) ⟨hx, hb, hml, hown, hT⟩ (gdV tb_892 tb_802 tb_803 tb_88 tb_804) hd_X0_isTakenBy (c_X0_isTakenBy l D cI cB cZ a_p1 a_p1_guests a_p1_numbers a_p1_coats a_p1_line p1_waiting p1_arrived p1_standing p1_climbed p1_drawn p1_guests ((x2 * 9) + x6) x4 z35 e35) ⟨rfl, rfl⟩ ⟨Nat.le_trans (by decide) hRf, Nat.le_trans (by decide) hRl⟩ ⟨hK, hN⟩ hP [0, 1] rfl 0 rfl rfl rfl hl.1 rfl (Nat.le_of_ble_eq_true rfl) ⟨Nat.zero_le _, Nat.zero_le _⟩ dX5_longestOfOneFamily_35 (fun hz_35 => ?_)
              have J_49 : ∀ (x2 : Int32) (x3 : Int32) (x4 : Int32) (x6 : Int32) (y0 : Int32) (ls : Array Slot), f_X5_longestOfOneFamily_49 p1_guests (f_X5_longestOfOneFamily_5 p1_guests n_5) (f_X5_longestOfOneFamily_18 p1_guests (f_X5_longestOfOneFamily_5 p1_guests n_5) n_18) x2 x3 x4 x6 y0 = some res → lv_has ls 7 [(1, .ref a_p1), (2, .int x2), (3, .int x3), (4, .int x4), (6, .int x6)] → W p l e R s m args below meth c s.heap [] 0 0 Q (F0 m 49 ls [.int y0]) := by
                intro x2 x3 x4 x6 y0 ls hf hl
                unfold f_X5_longestOfOneFamily_49 at hf
                refine lv_istore (lv' := [(5, .int y0), (1, .ref a_p1), (2, .int x2), (3, .int x3), (4, .int x4), (6, .int x6)]) hx hb dX5_longestOfOneFamily_49 hl (by decide) rfl (fun ls hl => ?_)
                refine lv_iload_n hx hb dX5_longestOfOneFamily_51 rfl (lv_at hl 3 rfl) ?_
                refine lv_iload hx hb dX5_longestOfOneFamily_52 (lv_at hl 0 rfl) ?_
                refine va_mmax hx hb (hml.trans hl.1.symm) hown (hT _ tb_887) (hT _ tb_477) (hT _ tb_98) (hT _ tb_478) (Nat.le_trans (by decide) hRf) (Nat.le_trans (Nat.le_of_ble_eq_true rfl) hRl) (Nat.zero_le _) (Nat.zero_le _) dX5_longestOfOneFamily_54 ?_
                refine lv_istore_n (lv' := [(3, .int (if x3 < y0 then y0 else x3)), (5, .int y0), (1, .ref a_p1), (2, .int x2), (4, .int x4), (6, .int x6)]) hx hb dX5_longestOfOneFamily_57 rfl hl (by decide) rfl (fun ls hl => ?_)
                refine lv_iinc (v := x6 + 1) (lv' := [(6, .int (x6 + 1)), (3, .int (if x3 < y0 then y0 else x3)), (5, .int y0), (1, .ref a_p1), (2, .int x2), (4, .int x4)]) hx hb dX5_longestOfOneFamily_58 hl (k := 5) rfl (congrArg (_ + ·) (by decide : Int32.ofInt 1 = 1)) (by decide) rfl (fun ls hl => ?_)
                refine lv_goto (tgt := 18) hx hb dX5_longestOfOneFamily_61 (by decide) ?_
                exact ih_18 _ _ _ _ _ _ hf (lv_sub hl [3, 4, 1, 5, 2, 0] rfl)
              refine lv_if_eq (tgt := 48) hx hb dX5_longestOfOneFamily_38 (by decide) (fun hc_38 => ?_) (fun hc_38 => ?_)
              · have hf := it_pos hc_38 hf
                refine lv_iconst (v := 0) hx hb dX5_longestOfOneFamily_48 (by decide) ?_
                exact J_49 _ _ _ _ _ _ hf (lv_sub hl [0, 1, 2, 3, 5] rfl)
              · have hf := it_neg hc_38 hf
                refine lv_iload hx hb dX5_longestOfOneFamily_41 (lv_at hl 4 rfl) ?_
                refine lv_iconst (v := 1) hx hb dX5_longestOfOneFamily_43 (by decide) ?_
                refine lv_iadd hx hb dX5_longestOfOneFamily_44 ?_
                refine lv_goto (tgt := 49) hx hb dX5_longestOfOneFamily_45 (by decide) ?_
                exact J_49 _ _ _ _ _ _ hf (lv_sub hl [0, 1, 2, 3, 5] rfl)
        refine lv_istore (lv' := [(6, .int 0), (5, .int 0), (1, .ref a_p1), (2, .int x2), (3, .int x3), (4, .int x4)]) hx hb dX5_longestOfOneFamily_16 hl (by decide) rfl (fun ls hl => ?_)
        exact J_18 _ _ _ _ _ _ _ hf (lv_sub hl [2, 3, 4, 5, 1, 0] rfl)
  refine lv_istore (lv' := [(4, .int 0), (3, .int 0), (0, .ref a_t), (1, .ref a_p1), (2, .int x2)]) hx hb dX5_longestOfOneFamily_3 hl (by decide) rfl (fun ls hl => ?_)
  exact J_5 _ _ _ _ _ hf (lv_sub hl [3, 4, 1, 0] rfl)
theorem hd_X5_longestOfOneFamily : (yX5_longestOfOneFamily).cls = RX5 ∧ (yX5_longestOfOneFamily).cls ≠ "java/lang/invoke/MethodHandle" ∧ (yX5_longestOfOneFamily).cls ≠ "java/lang/invoke/VarHandle" ∧ (parseMethodDescriptor (yX5_longestOfOneFamily).desc).map (fun d => d.parameters.length) = some 2 := by decide +kernel
theorem c_X5_longestOfOneFamily (l : Launch) (D : va_G) (cI cB cZ : ClassId) (a_p1 : Nat) (a_p1_guests : Nat) (a_p1_numbers : Nat) (a_p1_coats : Nat) (a_p1_line : Nat) (a_t : Nat) (p1_waiting : Int32) (p1_arrived : Int32) (p1_standing : Int32) (p1_climbed : Int32) (p1_drawn : Int32) (p1_guests : (Nat → Int32)) (x2 : Int32) (res : Int32) (hf : f_X5_longestOfOneFamily p1_guests x2 = some res) : Met l yX5_longestOfOneFamily (.code yX5_longestOfOneFamily cX5_longestOfOneFamily 7 (some .int) :: TB) (rmk (2) (44)) (pRO [.ref a_t, .ref a_p1, .int x2] D cI cB cZ (w_X5_longestOfOneFamily cI cB cZ a_p1 a_p1_guests a_p1_numbers a_p1_coats a_p1_line a_t p1_waiting p1_arrived p1_standing p1_climbed p1_drawn p1_guests)) (qRO (some (.int res)) True) 0 0 (fun _ => False) :=
  mkRO (by decide +kernel) (Nat.le_of_ble_eq_true rfl) (fun p e s m below meth c ls S hr hlk hK hP hl => b_X5_longestOfOneFamily S.1 S.2.1 S.2.2.1 S.2.2.2.1 S.2.2.2.2 (Nat.le_refl _) (Nat.le_refl _) hK.1 hK.2 a_p1 a_p1_guests a_p1_numbers a_p1_coats a_p1_line a_t p1_waiting p1_arrived p1_standing p1_climbed p1_drawn p1_guests x2 res hf hP (fun pc ls hE hd => eRO_i S.1 S.2.1 hr rfl hlk hE hd) ls hl)
def f_X5_coatsLeftIn_5 (p1_guests : (Nat → Int32)) (p1_coats : (Nat → Int32)) : Nat → Int32 → Int32 → Int32 → Option (Int32)
  | 0, _, _, _ => none
  | n + 1, x2, x3, x4 => (if 9 ≤ x4 then some (x3) else (f_X0_isTaken p1_guests ((x2 * 9) + x4)).bind (fun z24 => (if z24 = 0 then (f_X0_coatOn p1_coats ((x2 * 9) + x4)).bind (fun z33 => (if z33 = (-1) then (f_X5_coatsLeftIn_5 p1_guests p1_coats n) x2 x3 (x4 + 1) else (f_X5_coatsLeftIn_5 p1_guests p1_coats n) x2 (x3 + 1) (x4 + 1))) else (f_X5_coatsLeftIn_5 p1_guests p1_coats n) x2 x3 (x4 + 1))))
def f_X5_coatsLeftIn (p1_guests : (Nat → Int32)) (p1_coats : (Nat → Int32)) (x2 : Int32) : Option (Int32) := f_X5_coatsLeftIn_5 p1_guests p1_coats FU x2 0 0
def w_X5_coatsLeftIn (cI cB cZ : ClassId) (a_p1 : Nat) (a_p1_guests : Nat) (a_p1_coats : Nat) (a_p1_numbers : Nat) (a_p1_line : Nat) (a_t : Nat) (p1_waiting : Int32) (p1_arrived : Int32) (p1_standing : Int32) (p1_climbed : Int32) (p1_drawn : Int32) (p1_guests : (Nat → Int32)) (p1_coats : (Nat → Int32)) : va_W := [(a_p1, .inr (0, [.ref a_p1_guests, .ref a_p1_numbers, .ref a_p1_coats, .ref a_p1_line, .int p1_waiting, .int p1_arrived, .int p1_standing, .int p1_climbed, .int p1_drawn])), (a_p1_guests, .inl (cI, 144, .inl p1_guests)), (a_p1_coats, .inl (cI, 144, .inl p1_coats))]
set_option maxHeartbeats 4000000 in
set_option maxRecDepth 100000 in
theorem b_X5_coatsLeftIn {p : Program} {l : Launch} {e : Env} {R : Room} {s : State} {m : MethodId} {args : Array Value} {below : List Frame} {meth : Method} {c : Code} {Q : State → Prop} {D : va_G} {cI cB cZ : ClassId} (hx : p.tables.exec = Jvm.exec) (hb : c.code = cX5_coatsLeftIn) (hml : c.maxLocals = 6) (hown : s.vm.findClass RX5 = some m.cls) (hT : ∀ w ∈ TB, w.before args s = true) (hRf : (2) ≤ R.frames) (hRl : (42) ≤ R.locals) (hK : va_K D vwCl (tyL cI cB cZ) s) (hN : NW s)  (a_p1 : Nat) (a_p1_guests : Nat) (a_p1_coats : Nat) (a_p1_numbers : Nat) (a_p1_line : Nat) (a_t : Nat) (p1_waiting : Int32) (p1_arrived : Int32) (p1_standing : Int32) (p1_climbed : Int32) (p1_drawn : Int32) (p1_guests : (Nat → Int32)) (p1_coats : (Nat → Int32)) (x2 : Int32) (res : Int32) (hf : f_X5_coatsLeftIn p1_guests p1_coats x2 = some res) (hP : va_P D vwCl (w_X5_coatsLeftIn cI cB cZ a_p1 a_p1_guests a_p1_coats a_p1_numbers a_p1_line a_t p1_waiting p1_arrived p1_standing p1_climbed p1_drawn p1_guests p1_coats) s.heap) (hQ : ∀ (pc : Nat) (ls : Array Slot), True → decode cX5_coatsLeftIn pc = .ok (.ireturn, 1) → W p l e R s m args below meth c s.heap [] 0 0 Q (F0 m pc ls [.int res])) (ls : Array Slot) (hl : lv_has ls 6 [(0, .ref a_t), (1, .ref a_p1), (2, .int x2)]) : W p l e R s m args below meth c s.heap [] 0 0 Q (F0 m 0 ls []) := by
  unfold f_X5_coatsLeftIn at hf
  refine lv_iconst (v := 0) hx hb dX5_coatsLeftIn_0 (by decide) ?_
  refine lv_istore_n (lv' := [(3, .int 0), (0, .ref a_t), (1, .ref a_p1), (2, .int x2)]) hx hb dX5_coatsLeftIn_1 rfl hl (by decide) rfl (fun ls hl => ?_)
  refine lv_iconst (v := 0) hx hb dX5_coatsLeftIn_2 (by decide) ?_
  have J_5 : ∀ (n_5 : Nat) (x2 : Int32) (x3 : Int32) (x4 : Int32) (ls : Array Slot), f_X5_coatsLeftIn_5 p1_guests p1_coats n_5 x2 x3 x4 = some res → lv_has ls 6 [(1, .ref a_p1), (2, .int x2), (3, .int x3), (4, .int x4)] → W p l e R s m args below meth c s.heap [] 0 0 Q (F0 m 5 ls []) := by
    intro n_5
    induction n_5 with
    | zero =>
      intro x2 x3 x4 ls hf hl
      cases hf
    | succ n_5 ih_5 =>
      intro x2 x3 x4 ls hf hl
      unfold f_X5_coatsLeftIn_5 at hf
      refine lv_iload hx hb dX5_coatsLeftIn_5 (lv_at hl 3 rfl) ?_
      refine lv_bipush (v := 9) hx hb dX5_coatsLeftIn_7 (by decide) ?_
      refine lv_icmp_ge (tgt := 49) hx hb dX5_coatsLeftIn_9 (by decide) (fun hc_9 => ?_) (fun hc_9 => ?_)
      · have hf := it_pos hc_9 hf
        refine lv_iload_n hx hb dX5_coatsLeftIn_49 rfl (lv_at hl 2 rfl) ?_
        obtain rfl := Option.some.inj hf
        exact hQ 50 ls trivial dX5_coatsLeftIn_50
      · have hf := it_neg hc_9 hf
        refine lv_iload_n hx hb dX5_coatsLeftIn_12 rfl (lv_at hl 1 rfl) ?_
        refine lv_bipush (v := 9) hx hb dX5_coatsLeftIn_13 (by decide) ?_
        refine lv_imul hx hb dX5_coatsLeftIn_15 ?_
        refine lv_iload hx hb dX5_coatsLeftIn_16 (lv_at hl 3 rfl) ?_
        refine lv_iadd hx hb dX5_coatsLeftIn_18 ?_
        refine lv_istore (lv' := [(5, .int ((x2 * 9) + x4)), (1, .ref a_p1), (2, .int x2), (3, .int x3), (4, .int x4)]) hx hb dX5_coatsLeftIn_19 hl (by decide) rfl (fun ls hl => ?_)
        refine lv_aload_n hx hb dX5_coatsLeftIn_21 rfl (lv_at hl 1 rfl) ?_
        refine lv_iload hx hb dX5_coatsLeftIn_22 (lv_at hl 0 rfl) ?_
        obtain ⟨z24, e24, hf⟩ := bd_some hf
        refine rV_RO (As := [.int ((x2 * 9) + x4)]) (rest := []) ⟨hx, hb, hml, hown, hT⟩ (gdV tb_863 tb_685 tb_686 tb_88 tb_687) hd_X0_isTaken (c_X0_isTaken l D cI cB cZ a_p1 a_p1_guests a_p1_numbers a_p1_coats a_p1_line p1_waiting p1_arrived p1_standing p1_climbed p1_drawn p1_guests ((x2 * 9) + x4) z24 e24) ⟨rfl, rfl⟩ ⟨Nat.le_trans (by decide) hRf, Nat.le_trans (by decide) hRl⟩ ⟨hK, hN⟩ hP [0, 1] rfl 0 rfl rfl rfl hl.1 rfl (Nat.le_of_ble_eq_true rfl) ⟨Nat.zero_le _, Nat.zero_le _⟩ dX5_coatsLeftIn_24 (fun hz_24 => ?_)
        refine lv_if_ne (tgt := 43) hx hb dX5_coatsLeftIn_27 (by decide) (fun hc_27 => ?_) (fun hc_27 => ?_)
        · have hf := it_neg hc_27 hf
          refine lv_iinc (v := x4 + 1) (lv' := [(4, .int (x4 + 1)), (5, .int ((x2 * 9) + x4)), (1, .ref a_p1), (2, .int x2), (3, .int x3)]) hx hb dX5_coatsLeftIn_43 hl (k := 4) rfl (congrArg (_ + ·) (by decide : Int32.ofInt 1 = 1)) (by decide) rfl (fun ls hl => ?_)
          refine lv_goto (tgt := 5) hx hb dX5_coatsLeftIn_46 (by decide) ?_
          exact ih_5 _ _ _ _ hf (lv_sub hl [2, 3, 4, 0] rfl)
        · have hf := it_pos hc_27 hf
          refine lv_aload_n hx hb dX5_coatsLeftIn_30 rfl (lv_at hl 1 rfl) ?_
          refine lv_iload hx hb dX5_coatsLeftIn_31 (lv_at hl 0 rfl) ?_
          obtain ⟨z33, e33, hf⟩ := bd_some hf
          refine rV_RO (As := [.int ((x2 * 9) + x4)]) (rest := []) ⟨hx, hb, hml, hown, hT⟩ (gdV tb_897 tb_786 tb_787 tb_88 tb_788) hd_X0_coatOn (c_X0_coatOn l D cI cB cZ a_p1 a_p1_coats a_p1_guests a_p1_numbers a_p1_line p1_waiting p1_arrived p1_standing p1_climbed p1_drawn p1_coats ((x2 * 9) + x4) z33 e33) ⟨rfl, rfl⟩ ⟨Nat.le_trans (by decide) hRf, Nat.le_trans (by decide) hRl⟩ ⟨hK, hN⟩ hP [0, 2] rfl 0 rfl rfl rfl hl.1 rfl (Nat.le_of_ble_eq_true rfl) ⟨Nat.zero_le _, Nat.zero_le _⟩ dX5_coatsLeftIn_33 (fun _ => ?_)
          refine lv_iconst (v := (-1)) hx hb dX5_coatsLeftIn_36 (by decide) ?_
          refine lv_icmp_eq (tgt := 43) hx hb dX5_coatsLeftIn_37 (by decide) (fun hc_37 => ?_) (fun hc_37 => ?_)
          · have hf := it_pos hc_37 hf
            refine lv_iinc (v := x4 + 1) (lv' := [(4, .int (x4 + 1)), (5, .int ((x2 * 9) + x4)), (1, .ref a_p1), (2, .int x2), (3, .int x3)]) hx hb dX5_coatsLeftIn_43 hl (k := 4) rfl (congrArg (_ + ·) (by decide : Int32.ofInt 1 = 1)) (by decide) rfl (fun ls hl => ?_)
            refine lv_goto (tgt := 5) hx hb dX5_coatsLeftIn_46 (by decide) ?_
            exact ih_5 _ _ _ _ hf (lv_sub hl [2, 3, 4, 0] rfl)
          · have hf := it_neg hc_37 hf
            refine lv_iinc (v := x3 + 1) (lv' := [(3, .int (x3 + 1)), (5, .int ((x2 * 9) + x4)), (1, .ref a_p1), (2, .int x2), (4, .int x4)]) hx hb dX5_coatsLeftIn_40 hl (k := 3) rfl (congrArg (_ + ·) (by decide : Int32.ofInt 1 = 1)) (by decide) rfl (fun ls hl => ?_)
            refine lv_iinc (v := x4 + 1) (lv' := [(4, .int (x4 + 1)), (3, .int (x3 + 1)), (5, .int ((x2 * 9) + x4)), (1, .ref a_p1), (2, .int x2)]) hx hb dX5_coatsLeftIn_43 hl (k := 4) rfl (congrArg (_ + ·) (by decide : Int32.ofInt 1 = 1)) (by decide) rfl (fun ls hl => ?_)
            refine lv_goto (tgt := 5) hx hb dX5_coatsLeftIn_46 (by decide) ?_
            exact ih_5 _ _ _ _ hf (lv_sub hl [3, 4, 1, 0] rfl)
  refine lv_istore (lv' := [(4, .int 0), (3, .int 0), (0, .ref a_t), (1, .ref a_p1), (2, .int x2)]) hx hb dX5_coatsLeftIn_3 hl (by decide) rfl (fun ls hl => ?_)
  exact J_5 _ _ _ _ _ hf (lv_sub hl [3, 4, 1, 0] rfl)
theorem hd_X5_coatsLeftIn : (yX5_coatsLeftIn).cls = RX5 ∧ (yX5_coatsLeftIn).cls ≠ "java/lang/invoke/MethodHandle" ∧ (yX5_coatsLeftIn).cls ≠ "java/lang/invoke/VarHandle" ∧ (parseMethodDescriptor (yX5_coatsLeftIn).desc).map (fun d => d.parameters.length) = some 2 := by decide +kernel
theorem c_X5_coatsLeftIn (l : Launch) (D : va_G) (cI cB cZ : ClassId) (a_p1 : Nat) (a_p1_guests : Nat) (a_p1_coats : Nat) (a_p1_numbers : Nat) (a_p1_line : Nat) (a_t : Nat) (p1_waiting : Int32) (p1_arrived : Int32) (p1_standing : Int32) (p1_climbed : Int32) (p1_drawn : Int32) (p1_guests : (Nat → Int32)) (p1_coats : (Nat → Int32)) (x2 : Int32) (res : Int32) (hf : f_X5_coatsLeftIn p1_guests p1_coats x2 = some res) : Met l yX5_coatsLeftIn (.code yX5_coatsLeftIn cX5_coatsLeftIn 6 (some .int) :: TB) (rmk (2) (42)) (pRO [.ref a_t, .ref a_p1, .int x2] D cI cB cZ (w_X5_coatsLeftIn cI cB cZ a_p1 a_p1_guests a_p1_coats a_p1_numbers a_p1_line a_t p1_waiting p1_arrived p1_standing p1_climbed p1_drawn p1_guests p1_coats)) (qRO (some (.int res)) True) 0 0 (fun _ => False) :=
  mkRO (by decide +kernel) (Nat.le_of_ble_eq_true rfl) (fun p e s m below meth c ls S hr hlk hK hP hl => b_X5_coatsLeftIn S.1 S.2.1 S.2.2.1 S.2.2.2.1 S.2.2.2.2 (Nat.le_refl _) (Nat.le_refl _) hK.1 hK.2 a_p1 a_p1_guests a_p1_coats a_p1_numbers a_p1_line a_t p1_waiting p1_arrived p1_standing p1_climbed p1_drawn p1_guests p1_coats x2 res hf hP (fun pc ls hE hd => eRO_i S.1 S.2.1 hr rfl hlk hE hd) ls hl)
def f_X5_tornFamilies_7 (p1_guests : (Nat → Int32)) : Nat → Int32 → Int32 → Int32 → Option (Int32)
  | 0, _, _, _ => none
  | n + 1, x2, x3, x4 => (if 16 ≤ x4 then some (x3) else (f_X5_familiesIn p1_guests x4).bind (fun z18 => (f_X5_tornFamilies_7 p1_guests n) (x2 ||| z18) (x3 ||| (x2 &&& z18)) (x4 + 1)))
def f_X5_tornFamilies (p1_guests : (Nat → Int32)) : Option (Int32) := f_X5_tornFamilies_7 p1_guests FU 0 0 0
def w_X5_tornFamilies (cI cB cZ : ClassId) (a_t : Nat) (a_p1 : Nat) (a_p1_guests : Nat) (a_t_singersByRow : Nat) (a_t_most : Nat) (a_t_mostBefore : Nat) (a_p1_numbers : Nat) (a_p1_coats : Nat) (a_p1_line : Nat) (p1_waiting : Int32) (p1_arrived : Int32) (p1_standing : Int32) (p1_climbed : Int32) (p1_drawn : Int32) (p1_guests : (Nat → Int32)) : va_W := [(a_t, .inr (4, [.ref a_t_singersByRow, .ref a_t_most, .ref a_t_mostBefore])), (a_p1, .inr (0, [.ref a_p1_guests, .ref a_p1_numbers, .ref a_p1_coats, .ref a_p1_line, .int p1_waiting, .int p1_arrived, .int p1_standing, .int p1_climbed, .int p1_drawn])), (a_p1_guests, .inl (cI, 144, .inl p1_guests))]
set_option maxHeartbeats 4000000 in
set_option maxRecDepth 100000 in
theorem b_X5_tornFamilies {p : Program} {l : Launch} {e : Env} {R : Room} {s : State} {m : MethodId} {args : Array Value} {below : List Frame} {meth : Method} {c : Code} {Q : State → Prop} {D : va_G} {cI cB cZ : ClassId} (hx : p.tables.exec = Jvm.exec) (hb : c.code = cX5_tornFamilies) (hml : c.maxLocals = 6) (hown : s.vm.findClass RX5 = some m.cls) (hT : ∀ w ∈ TB, w.before args s = true) (hRf : (2) ≤ R.frames) (hRl : (46) ≤ R.locals) (hK : va_K D vwCl (tyL cI cB cZ) s) (hN : NW s)  (a_t : Nat) (a_p1 : Nat) (a_p1_guests : Nat) (a_t_singersByRow : Nat) (a_t_most : Nat) (a_t_mostBefore : Nat) (a_p1_numbers : Nat) (a_p1_coats : Nat) (a_p1_line : Nat) (p1_waiting : Int32) (p1_arrived : Int32) (p1_standing : Int32) (p1_climbed : Int32) (p1_drawn : Int32) (p1_guests : (Nat → Int32)) (res : Int32) (hf : f_X5_tornFamilies p1_guests = some res) (hP : va_P D vwCl (w_X5_tornFamilies cI cB cZ a_t a_p1 a_p1_guests a_t_singersByRow a_t_most a_t_mostBefore a_p1_numbers a_p1_coats a_p1_line p1_waiting p1_arrived p1_standing p1_climbed p1_drawn p1_guests) s.heap) (hQ : ∀ (pc : Nat) (ls : Array Slot), True → decode cX5_tornFamilies pc = .ok (.ireturn, 1) → W p l e R s m args below meth c s.heap [] 0 0 Q (F0 m pc ls [.int res])) (ls : Array Slot) (hl : lv_has ls 6 [(0, .ref a_t), (1, .ref a_p1)]) : W p l e R s m args below meth c s.heap [] 0 0 Q (F0 m 0 ls []) := by
  unfold f_X5_tornFamilies at hf
  refine lv_iconst (v := 0) hx hb dX5_tornFamilies_0 (by decide) ?_
  refine lv_istore_n (lv' := [(2, .int 0), (0, .ref a_t), (1, .ref a_p1)]) hx hb dX5_tornFamilies_1 rfl hl (by decide) rfl (fun ls hl => ?_)
  refine lv_iconst (v := 0) hx hb dX5_tornFamilies_2 (by decide) ?_
  refine lv_istore_n (lv' := [(3, .int 0), (2, .int 0), (0, .ref a_t), (1, .ref a_p1)]) hx hb dX5_tornFamilies_3 rfl hl (by decide) rfl (fun ls hl => ?_)
  refine lv_iconst (v := 0) hx hb dX5_tornFamilies_4 (by decide) ?_
  have J_7 : ∀ (n_7 : Nat) (x2 : Int32) (x3 : Int32) (x4 : Int32) (ls : Array Slot), f_X5_tornFamilies_7 p1_guests n_7 x2 x3 x4 = some res → lv_has ls 6 [(0, .ref a_t), (1, .ref a_p1), (2, .int x2), (3, .int x3), (4, .int x4)] → W p l e R s m args below meth c s.heap [] 0 0 Q (F0 m 7 ls []) := by
    intro n_7
    induction n_7 with
    | zero =>
      intro x2 x3 x4 ls hf hl
      cases hf
    | succ n_7 ih_7 =>
      intro x2 x3 x4 ls hf hl
      unfold f_X5_tornFamilies_7 at hf
      refine lv_iload hx hb dX5_tornFamilies_7 (lv_at hl 4 rfl) ?_
      refine lv_bipush (v := 16) hx hb dX5_tornFamilies_9 (by decide) ?_
      refine lv_icmp_ge (tgt := 41) hx hb dX5_tornFamilies_11 (by decide) (fun hc_11 => ?_) (fun hc_11 => ?_)
      · have hf := it_pos hc_11 hf
        refine lv_iload_n hx hb dX5_tornFamilies_41 rfl (lv_at hl 3 rfl) ?_
        obtain rfl := Option.some.inj hf
        exact hQ 42 ls trivial dX5_tornFamilies_42
      · have hf := it_neg hc_11 hf
        refine lv_aload_n hx hb dX5_tornFamilies_14 rfl (lv_at hl 0 rfl) ?_
        refine lv_aload_n hx hb dX5_tornFamilies_15 rfl (lv_at hl 1 rfl) ?_
        refine lv_iload hx hb dX5_tornFamilies_16 (lv_at hl 4 rfl) ?_
        obtain ⟨z18, e18, hf⟩ := bd_some hf
        refine rV_RO (As := [.ref a_p1, .int x4]) (rest := []) ⟨hx, hb, hml, hown, hT⟩ (gdV tb_843 tb_844 tb_845 tb_94 tb_846) hd_X5_familiesIn (c_X5_familiesIn l D cI cB cZ a_p1 a_p1_guests a_p1_numbers a_p1_coats a_p1_line a_t p1_waiting p1_arrived p1_standing p1_climbed p1_drawn p1_guests x4 z18 e18) ⟨rfl, rfl⟩ ⟨Nat.le_trans (by decide) hRf, Nat.le_trans (by decide) hRl⟩ ⟨hK, hN⟩ hP [1, 2] rfl 0 rfl rfl rfl hl.1 rfl (Nat.le_of_ble_eq_true rfl) ⟨Nat.zero_le _, Nat.zero_le _⟩ dX5_tornFamilies_18 (fun _ => ?_)
        refine lv_istore (lv' := [(5, .int z18), (0, .ref a_t), (1, .ref a_p1), (2, .int x2), (3, .int x3), (4, .int x4)]) hx hb dX5_tornFamilies_21 hl (by decide) rfl (fun ls hl => ?_)
        refine lv_iload_n hx hb dX5_tornFamilies_23 rfl (lv_at hl 4 rfl) ?_
        refine lv_iload_n hx hb dX5_tornFamilies_24 rfl (lv_at hl 3 rfl) ?_
        refine lv_iload hx hb dX5_tornFamilies_25 (lv_at hl 0 rfl) ?_
        refine lv_iand hx hb dX5_tornFamilies_27 ?_
        refine lv_ior hx hb dX5_tornFamilies_28 ?_
        refine lv_istore_n (lv' := [(3, .int (x3 ||| (x2 &&& z18))), (5, .int z18), (0, .ref a_t), (1, .ref a_p1), (2, .int x2), (4, .int x4)]) hx hb dX5_tornFamilies_29 rfl hl (by decide) rfl (fun ls hl => ?_)
        refine lv_iload_n hx hb dX5_tornFamilies_30 rfl (lv_at hl 4 rfl) ?_
        refine lv_iload hx hb dX5_tornFamilies_31 (lv_at hl 1 rfl) ?_
        refine lv_ior hx hb dX5_tornFamilies_33 ?_
        refine lv_istore_n (lv' := [(2, .int (x2 ||| z18)), (3, .int (x3 ||| (x2 &&& z18))), (5, .int z18), (0, .ref a_t), (1, .ref a_p1), (4, .int x4)]) hx hb dX5_tornFamilies_34 rfl hl (by decide) rfl (fun ls hl => ?_)
        refine lv_iinc (v := x4 + 1) (lv' := [(4, .int (x4 + 1)), (2, .int (x2 ||| z18)), (3, .int (x3 ||| (x2 &&& z18))), (5, .int z18), (0, .ref a_t), (1, .ref a_p1)]) hx hb dX5_tornFamilies_35 hl (k := 5) rfl (congrArg (_ + ·) (by decide : Int32.ofInt 1 = 1)) (by decide) rfl (fun ls hl => ?_)
        refine lv_goto (tgt := 7) hx hb dX5_tornFamilies_38 (by decide) ?_
        exact ih_7 _ _ _ _ hf (lv_sub hl [4, 5, 1, 2, 0] rfl)
  refine lv_istore (lv' := [(4, .int 0), (3, .int 0), (2, .int 0), (0, .ref a_t), (1, .ref a_p1)]) hx hb dX5_tornFamilies_5 hl (by decide) rfl (fun ls hl => ?_)
  exact J_7 _ _ _ _ _ hf (lv_sub hl [3, 4, 2, 1, 0] rfl)
theorem hd_X5_tornFamilies : (yX5_tornFamilies).cls = RX5 ∧ (yX5_tornFamilies).cls ≠ "java/lang/invoke/MethodHandle" ∧ (yX5_tornFamilies).cls ≠ "java/lang/invoke/VarHandle" ∧ (parseMethodDescriptor (yX5_tornFamilies).desc).map (fun d => d.parameters.length) = some 1 := by decide +kernel
theorem c_X5_tornFamilies (l : Launch) (D : va_G) (cI cB cZ : ClassId) (a_t : Nat) (a_p1 : Nat) (a_p1_guests : Nat) (a_t_singersByRow : Nat) (a_t_most : Nat) (a_t_mostBefore : Nat) (a_p1_numbers : Nat) (a_p1_coats : Nat) (a_p1_line : Nat) (p1_waiting : Int32) (p1_arrived : Int32) (p1_standing : Int32) (p1_climbed : Int32) (p1_drawn : Int32) (p1_guests : (Nat → Int32)) (res : Int32) (hf : f_X5_tornFamilies p1_guests = some res) : Met l yX5_tornFamilies (.code yX5_tornFamilies cX5_tornFamilies 6 (some .int) :: TB) (rmk (2) (46)) (pRO [.ref a_t, .ref a_p1] D cI cB cZ (w_X5_tornFamilies cI cB cZ a_t a_p1 a_p1_guests a_t_singersByRow a_t_most a_t_mostBefore a_p1_numbers a_p1_coats a_p1_line p1_waiting p1_arrived p1_standing p1_climbed p1_drawn p1_guests)) (qRO (some (.int res)) True) 0 0 (fun _ => False) :=
  mkRO (by decide +kernel) (Nat.le_of_ble_eq_true rfl) (fun p e s m below meth c ls S hr hlk hK hP hl => b_X5_tornFamilies S.1 S.2.1 S.2.2.1 S.2.2.2.1 S.2.2.2.2 (Nat.le_refl _) (Nat.le_refl _) hK.1 hK.2 a_t a_p1 a_p1_guests a_t_singersByRow a_t_most a_t_mostBefore a_p1_numbers a_p1_coats a_p1_line p1_waiting p1_arrived p1_standing p1_climbed p1_drawn p1_guests res hf hP (fun pc ls hE hd => eRO_i S.1 S.2.1 hr rfl hlk hE hd) ls hl)
def f_X5_gather_28 (p1_guests : (Nat → Int32)) : Nat → Int32 → Int32 → Int32 → Int32 → Int32 → Int32 → Option (Int32)
  | 0, _, _, _, _, _, _ => none
  | n + 1, x2, x3, x4, x5, x6, x7 => (if 16 ≤ x7 then (if x6 = (-2) then some (x6) else (if x3 = 1 then some (x6) else some (x5))) else (f_X0_sittingOfIn p1_guests x2 x7).bind (fun z41 => (f_X0_sittingIn p1_guests x7).bind (fun z54 => (if (9 - z54) < (x4 - z41) then (f_X5_gather_28 p1_guests n) x2 x3 x4 x5 x6 (x7 + 1) else (if x5 ≤ (x4 - z41) then (f_X5_gather_28 p1_guests n) x2 x3 x4 x5 x6 (x7 + 1) else (f_X5_gather_28 p1_guests n) x2 x3 x4 (x4 - z41) x7 (x7 + 1))))))
def f_X5_gather (p1_guests : (Nat → Int32)) (x2 : Int32) (x3 : Int32) : Option (Int32) := (f_X0_sittingOf p1_guests x2).bind (fun z2 => (if z2 = 0 then some ((-3)) else f_X5_gather_28 p1_guests FU x2 x3 z2 (z2 + 1) (-2) 0))
def w_X5_gather (cI cB cZ : ClassId) (a_p1 : Nat) (a_p1_guests : Nat) (a_p1_numbers : Nat) (a_p1_coats : Nat) (a_p1_line : Nat) (a_t : Nat) (p1_waiting : Int32) (p1_arrived : Int32) (p1_standing : Int32) (p1_climbed : Int32) (p1_drawn : Int32) (p1_guests : (Nat → Int32)) : va_W := [(a_p1, .inr (0, [.ref a_p1_guests, .ref a_p1_numbers, .ref a_p1_coats, .ref a_p1_line, .int p1_waiting, .int p1_arrived, .int p1_standing, .int p1_climbed, .int p1_drawn])), (a_p1_guests, .inl (cI, 144, .inl p1_guests))]
set_option maxHeartbeats 4000000 in
set_option maxRecDepth 100000 in
theorem b_X5_gather {p : Program} {l : Launch} {e : Env} {R : Room} {s : State} {m : MethodId} {args : Array Value} {below : List Frame} {meth : Method} {c : Code} {Q : State → Prop} {D : va_G} {cI cB cZ : ClassId} (hx : p.tables.exec = Jvm.exec) (hb : c.code = cX5_gather) (hml : c.maxLocals = 9) (hown : s.vm.findClass RX5 = some m.cls) (hT : ∀ w ∈ TB, w.before args s = true) (hRf : (4) ≤ R.frames) (hRl : (91) ≤ R.locals) (hK : va_K D vwCl (tyL cI cB cZ) s) (hN : NW s)  (a_p1 : Nat) (a_p1_guests : Nat) (a_p1_numbers : Nat) (a_p1_coats : Nat) (a_p1_line : Nat) (a_t : Nat) (p1_waiting : Int32) (p1_arrived : Int32) (p1_standing : Int32) (p1_climbed : Int32) (p1_drawn : Int32) (p1_guests : (Nat → Int32)) (x2 : Int32) (x3 : Int32) (res : Int32) (hf : f_X5_gather p1_guests x2 x3 = some res) (hP : va_P D vwCl (w_X5_gather cI cB cZ a_p1 a_p1_guests a_p1_numbers a_p1_coats a_p1_line a_t p1_waiting p1_arrived p1_standing p1_climbed p1_drawn p1_guests) s.heap) (hQ : ∀ (pc : Nat) (ls : Array Slot), True → decode cX5_gather pc = .ok (.ireturn, 1) → W p l e R s m args below meth c s.heap [] 0 0 Q (F0 m pc ls [.int res])) (ls : Array Slot) (hl : lv_has ls 9 [(0, .ref a_t), (1, .ref a_p1), (2, .int x2), (3, .int x3)]) : W p l e R s m args below meth c s.heap [] 0 0 Q (F0 m 0 ls []) := by
  unfold f_X5_gather at hf
  refine lv_aload_n hx hb dX5_gather_0 rfl (lv_at hl 1 rfl) ?_
  refine lv_iload_n hx hb dX5_gather_1 rfl (lv_at hl 2 rfl) ?_
  obtain ⟨z2, e2, hf⟩ := bd_some hf
  refine rV_RO (As := [.int x2]) (rest := []) ⟨hx, hb, hml, hown, hT⟩ (gdV tb_910 tb_911 tb_912 tb_88 tb_913) hd_X0_sittingOf (c_X0_sittingOf l D cI cB cZ a_p1 a_p1_guests a_p1_numbers a_p1_coats a_p1_line p1_waiting p1_arrived p1_standing p1_climbed p1_drawn p1_guests x2 z2 e2) ⟨rfl, rfl⟩ ⟨Nat.le_trans (by decide) hRf, Nat.le_trans (by decide) hRl⟩ ⟨hK, hN⟩ hP [0, 1] rfl 0 rfl rfl rfl hl.1 rfl (Nat.le_of_ble_eq_true rfl) ⟨Nat.zero_le _, Nat.zero_le _⟩ dX5_gather_2 (fun _ => ?_)
  refine lv_istore (lv' := [(4, .int z2), (0, .ref a_t), (1, .ref a_p1), (2, .int x2), (3, .int x3)]) hx hb dX5_gather_5 hl (by decide) rfl (fun ls hl => ?_)
  refine lv_iload hx hb dX5_gather_7 (lv_at hl 0 rfl) ?_
  refine lv_if_ne (tgt := 15) hx hb dX5_gather_9 (by decide) (fun hc_9 => ?_) (fun hc_9 => ?_)
  · have hf := it_neg hc_9 hf
    refine lv_iload hx hb dX5_gather_15 (lv_at hl 0 rfl) ?_
    refine lv_iconst (v := 1) hx hb dX5_gather_17 (by decide) ?_
    refine lv_iadd hx hb dX5_gather_18 ?_
    refine lv_istore (lv' := [(5, .int (z2 + 1)), (4, .int z2), (0, .ref a_t), (1, .ref a_p1), (2, .int x2), (3, .int x3)]) hx hb dX5_gather_19 hl (by decide) rfl (fun ls hl => ?_)
    refine lv_bipush (v := (-2)) hx hb dX5_gather_21 (by decide) ?_
    refine lv_istore (lv' := [(6, .int (-2)), (5, .int (z2 + 1)), (4, .int z2), (0, .ref a_t), (1, .ref a_p1), (2, .int x2), (3, .int x3)]) hx hb dX5_gather_23 hl (by decide) rfl (fun ls hl => ?_)
    refine lv_iconst (v := 0) hx hb dX5_gather_25 (by decide) ?_
    have J_28 : ∀ (n_28 : Nat) (x2 : Int32) (x3 : Int32) (x4 : Int32) (x5 : Int32) (x6 : Int32) (x7 : Int32) (ls : Array Slot), f_X5_gather_28 p1_guests n_28 x2 x3 x4 x5 x6 x7 = some res → lv_has ls 9 [(1, .ref a_p1), (2, .int x2), (3, .int x3), (4, .int x4), (5, .int x5), (6, .int x6), (7, .int x7)] → W p l e R s m args below meth c s.heap [] 0 0 Q (F0 m 28 ls []) := by
      intro n_28
      induction n_28 with
      | zero =>
        intro x2 x3 x4 x5 x6 x7 ls hf hl
        cases hf
      | succ n_28 ih_28 =>
        intro x2 x3 x4 x5 x6 x7 ls hf hl
        unfold f_X5_gather_28 at hf
        refine lv_iload hx hb dX5_gather_28 (lv_at hl 6 rfl) ?_
        refine lv_bipush (v := 16) hx hb dX5_gather_30 (by decide) ?_
        refine lv_icmp_ge (tgt := 82) hx hb dX5_gather_32 (by decide) (fun hc_32 => ?_) (fun hc_32 => ?_)
        · have hf := it_pos hc_32 hf
          refine lv_iload hx hb dX5_gather_82 (lv_at hl 5 rfl) ?_
          refine lv_bipush (v := (-2)) hx hb dX5_gather_84 (by decide) ?_
          refine lv_icmp_eq (tgt := 94) hx hb dX5_gather_86 (by decide) (fun hc_86 => ?_) (fun hc_86 => ?_)
          · have hf := it_pos hc_86 hf
            refine lv_iload hx hb dX5_gather_94 (lv_at hl 5 rfl) ?_
            refine lv_goto (tgt := 101) hx hb dX5_gather_96 (by decide) ?_
            obtain rfl := Option.some.inj hf
            exact hQ 101 ls trivial dX5_gather_101
          · have hf := it_neg hc_86 hf
            refine lv_iload_n hx hb dX5_gather_89 rfl (lv_at hl 2 rfl) ?_
            refine lv_iconst (v := 1) hx hb dX5_gather_90 (by decide) ?_
            refine lv_icmp_ne (tgt := 99) hx hb dX5_gather_91 (by decide) (fun hc_91 => ?_) (fun hc_91 => ?_)
            · have hf := it_neg hc_91 hf
              refine lv_iload hx hb dX5_gather_99 (lv_at hl 4 rfl) ?_
              obtain rfl := Option.some.inj hf
              exact hQ 101 ls trivial dX5_gather_101
            · have hf := it_pos hc_91 hf
              refine lv_iload hx hb dX5_gather_94 (lv_at hl 5 rfl) ?_
              refine lv_goto (tgt := 101) hx hb dX5_gather_96 (by decide) ?_
              obtain rfl := Option.some.inj hf
              exact hQ 101 ls trivial dX5_gather_101
        · have hf := it_neg hc_32 hf
          refine lv_iload hx hb dX5_gather_35 (lv_at hl 3 rfl) ?_
          refine lv_aload_n hx hb dX5_gather_37 rfl (lv_at hl 0 rfl) ?_
          refine lv_iload_n hx hb dX5_gather_38 rfl (lv_at hl 1 rfl) ?_
          refine lv_iload hx hb dX5_gather_39 (lv_at hl 6 rfl) ?_
          obtain ⟨z41, e41, hf⟩ := bd_some hf
          refine rV_RO (As := [.int x2, .int x7]) (rest := [.int x4]) ⟨hx, hb, hml, hown, hT⟩ (gdV tb_915 tb_798 tb_799 tb_88 tb_800) hd_X0_sittingOfIn (c_X0_sittingOfIn l D cI cB cZ a_p1 a_p1_guests a_p1_numbers a_p1_coats a_p1_line p1_waiting p1_arrived p1_standing p1_climbed p1_drawn p1_guests x2 x7 z41 e41) ⟨rfl, rfl⟩ ⟨Nat.le_trans (by decide) hRf, Nat.le_trans (by decide) hRl⟩ ⟨hK, hN⟩ hP [0, 1] rfl 0 rfl rfl rfl hl.1 rfl (Nat.le_of_ble_eq_true rfl) ⟨Nat.zero_le _, Nat.zero_le _⟩ dX5_gather_41 (fun _ => ?_)
          refine lv_isub hx hb dX5_gather_44 ?_
          refine lv_istore (lv' := [(8, .int (x4 - z41)), (1, .ref a_p1), (2, .int x2), (3, .int x3), (4, .int x4), (5, .int x5), (6, .int x6), (7, .int x7)]) hx hb dX5_gather_45 hl (by decide) rfl (fun ls hl => ?_)
          refine lv_iload hx hb dX5_gather_47 (lv_at hl 0 rfl) ?_
          refine lv_bipush (v := 9) hx hb dX5_gather_49 (by decide) ?_
          refine lv_aload_n hx hb dX5_gather_51 rfl (lv_at hl 1 rfl) ?_
          refine lv_iload hx hb dX5_gather_52 (lv_at hl 7 rfl) ?_
          obtain ⟨z54, e54, hf⟩ := bd_some hf
          refine rV_RO (As := [.int x7]) (rest := [.int 9, .int (x4 - z41)]) ⟨hx, hb, hml, hown, hT⟩ (gdV tb_916 tb_774 tb_775 tb_88 tb_776) hd_X0_sittingIn (c_X0_sittingIn l D cI cB cZ a_p1 a_p1_guests a_p1_numbers a_p1_coats a_p1_line p1_waiting p1_arrived p1_standing p1_climbed p1_drawn p1_guests x7 z54 e54) ⟨rfl, rfl⟩ ⟨Nat.le_trans (by decide) hRf, Nat.le_trans (by decide) hRl⟩ ⟨hK, hN⟩ hP [0, 1] rfl 0 rfl rfl rfl hl.1 rfl (Nat.le_of_ble_eq_true rfl) ⟨Nat.zero_le _, Nat.zero_le _⟩ dX5_gather_54 (fun _ => ?_)
          refine lv_isub hx hb dX5_gather_57 ?_
          refine lv_icmp_gt (tgt := 76) hx hb dX5_gather_58 (by decide) (fun hc_58 => ?_) (fun hc_58 => ?_)
          · have hf := it_pos hc_58 hf
            refine lv_iinc (v := x7 + 1) (lv' := [(7, .int (x7 + 1)), (8, .int (x4 - z41)), (1, .ref a_p1), (2, .int x2), (3, .int x3), (4, .int x4), (5, .int x5), (6, .int x6)]) hx hb dX5_gather_76 hl (k := 7) rfl (congrArg (_ + ·) (by decide : Int32.ofInt 1 = 1)) (by decide) rfl (fun ls hl => ?_)
            refine lv_goto (tgt := 28) hx hb dX5_gather_79 (by decide) ?_
            exact ih_28 _ _ _ _ _ _ _ hf (lv_sub hl [2, 3, 4, 5, 6, 7, 0] rfl)
          · have hf := it_neg hc_58 hf
            refine lv_iload hx hb dX5_gather_61 (lv_at hl 0 rfl) ?_
            refine lv_iload hx hb dX5_gather_63 (lv_at hl 5 rfl) ?_
            refine lv_icmp_ge (tgt := 76) hx hb dX5_gather_65 (by decide) (fun hc_65 => ?_) (fun hc_65 => ?_)
            · have hf := it_pos hc_65 hf
              refine lv_iinc (v := x7 + 1) (lv' := [(7, .int (x7 + 1)), (8, .int (x4 - z41)), (1, .ref a_p1), (2, .int x2), (3, .int x3), (4, .int x4), (5, .int x5), (6, .int x6)]) hx hb dX5_gather_76 hl (k := 7) rfl (congrArg (_ + ·) (by decide : Int32.ofInt 1 = 1)) (by decide) rfl (fun ls hl => ?_)
              refine lv_goto (tgt := 28) hx hb dX5_gather_79 (by decide) ?_
              exact ih_28 _ _ _ _ _ _ _ hf (lv_sub hl [2, 3, 4, 5, 6, 7, 0] rfl)
            · have hf := it_neg hc_65 hf
              refine lv_iload hx hb dX5_gather_68 (lv_at hl 0 rfl) ?_
              refine lv_istore (lv' := [(5, .int (x4 - z41)), (8, .int (x4 - z41)), (1, .ref a_p1), (2, .int x2), (3, .int x3), (4, .int x4), (6, .int x6), (7, .int x7)]) hx hb dX5_gather_70 hl (by decide) rfl (fun ls hl => ?_)
              refine lv_iload hx hb dX5_gather_72 (lv_at hl 7 rfl) ?_
              refine lv_istore (lv' := [(6, .int x7), (5, .int (x4 - z41)), (8, .int (x4 - z41)), (1, .ref a_p1), (2, .int x2), (3, .int x3), (4, .int x4), (7, .int x7)]) hx hb dX5_gather_74 hl (by decide) rfl (fun ls hl => ?_)
              refine lv_iinc (v := x7 + 1) (lv' := [(7, .int (x7 + 1)), (6, .int x7), (5, .int (x4 - z41)), (8, .int (x4 - z41)), (1, .ref a_p1), (2, .int x2), (3, .int x3), (4, .int x4)]) hx hb dX5_gather_76 hl (k := 7) rfl (congrArg (_ + ·) (by decide : Int32.ofInt 1 = 1)) (by decide) rfl (fun ls hl => ?_)
              refine lv_goto (tgt := 28) hx hb dX5_gather_79 (by decide) ?_
              exact ih_28 _ _ _ _ _ _ _ hf (lv_sub hl [4, 5, 6, 7, 2, 1, 0] rfl)
    refine lv_istore (lv' := [(7, .int 0), (6, .int (-2)), (5, .int (z2 + 1)), (4, .int z2), (0, .ref a_t), (1, .ref a_p1), (2, .int x2), (3, .int x3)]) hx hb dX5_gather_26 hl (by decide) rfl (fun ls hl => ?_)
    exact J_28 _ _ _ _ _ _ _ _ hf (lv_sub hl [5, 6, 7, 3, 2, 1, 0] rfl)
  · have hf := it_pos hc_9 hf
    refine lv_bipush (v := (-3)) hx hb dX5_gather_12 (by decide) ?_
    obtain rfl := Option.some.inj hf
    exact hQ 14 ls trivial dX5_gather_14
theorem hd_X5_gather : (yX5_gather).cls = RX5 ∧ (yX5_gather).cls ≠ "java/lang/invoke/MethodHandle" ∧ (yX5_gather).cls ≠ "java/lang/invoke/VarHandle" ∧ (parseMethodDescriptor (yX5_gather).desc).map (fun d => d.parameters.length) = some 3 := by decide +kernel
theorem c_X5_gather (l : Launch) (D : va_G) (cI cB cZ : ClassId) (a_p1 : Nat) (a_p1_guests : Nat) (a_p1_numbers : Nat) (a_p1_coats : Nat) (a_p1_line : Nat) (a_t : Nat) (p1_waiting : Int32) (p1_arrived : Int32) (p1_standing : Int32) (p1_climbed : Int32) (p1_drawn : Int32) (p1_guests : (Nat → Int32)) (x2 : Int32) (x3 : Int32) (res : Int32) (hf : f_X5_gather p1_guests x2 x3 = some res) : Met l yX5_gather (.code yX5_gather cX5_gather 9 (some .int) :: TB) (rmk (4) (91)) (pRO [.ref a_t, .ref a_p1, .int x2, .int x3] D cI cB cZ (w_X5_gather cI cB cZ a_p1 a_p1_guests a_p1_numbers a_p1_coats a_p1_line a_t p1_waiting p1_arrived p1_standing p1_climbed p1_drawn p1_guests)) (qRO (some (.int res)) True) 0 0 (fun _ => False) :=
  mkRO (by decide +kernel) (Nat.le_of_ble_eq_true rfl) (fun p e s m below meth c ls S hr hlk hK hP hl => b_X5_gather S.1 S.2.1 S.2.2.1 S.2.2.2.1 S.2.2.2.2 (Nat.le_refl _) (Nat.le_refl _) hK.1 hK.2 a_p1 a_p1_guests a_p1_numbers a_p1_coats a_p1_line a_t p1_waiting p1_arrived p1_standing p1_climbed p1_drawn p1_guests x2 x3 res hf hP (fun pc ls hE hd => eRO_i S.1 S.2.1 hr rfl hlk hE hd) ls hl)
def f_X5_isBlind (p1_guests : (Nat → Int32)) (x2 : Int32) : Option (Int32) := (if (jrem x2 72) < 9 then some (0) else (f_X0_isTaken p1_guests x2).bind (fun z16 => (if z16 = 0 then some (0) else (f_X0_isTaken p1_guests (x2 - 9)).bind (fun z24 => (if z24 = 0 then some (0) else (f_X0_guestOn p1_guests (x2 - 9)).bind (fun z32 => (f_X1_heightOf z32).bind (fun z35 => (f_X0_guestOn p1_guests x2).bind (fun z40 => (f_X1_heightOf z40).bind (fun z43 => (if z35 ≤ z43 then some (0) else some (1)))))))))))
def w_X5_isBlind (cI cB cZ : ClassId) (a_p1 : Nat) (a_p1_guests : Nat) (a_p1_numbers : Nat) (a_p1_coats : Nat) (a_p1_line : Nat) (a_t : Nat) (p1_waiting : Int32) (p1_arrived : Int32) (p1_standing : Int32) (p1_climbed : Int32) (p1_drawn : Int32) (p1_guests : (Nat → Int32)) : va_W := [(a_p1, .inr (0, [.ref a_p1_guests, .ref a_p1_numbers, .ref a_p1_coats, .ref a_p1_line, .int p1_waiting, .int p1_arrived, .int p1_standing, .int p1_climbed, .int p1_drawn])), (a_p1_guests, .inl (cI, 144, .inl p1_guests))]
set_option maxHeartbeats 4000000 in
set_option maxRecDepth 100000 in
theorem b_X5_isBlind {p : Program} {l : Launch} {e : Env} {R : Room} {s : State} {m : MethodId} {args : Array Value} {below : List Frame} {meth : Method} {c : Code} {Q : State → Prop} {D : va_G} {cI cB cZ : ClassId} (hx : p.tables.exec = Jvm.exec) (hb : c.code = cX5_isBlind) (hml : c.maxLocals = 4) (hown : s.vm.findClass RX5 = some m.cls) (hT : ∀ w ∈ TB, w.before args s = true) (hRf : (2) ≤ R.frames) (hRl : (42) ≤ R.locals) (hK : va_K D vwCl (tyL cI cB cZ) s) (hN : NW s)  (a_p1 : Nat) (a_p1_guests : Nat) (a_p1_numbers : Nat) (a_p1_coats : Nat) (a_p1_line : Nat) (a_t : Nat) (p1_waiting : Int32) (p1_arrived : Int32) (p1_standing : Int32) (p1_climbed : Int32) (p1_drawn : Int32) (p1_guests : (Nat → Int32)) (x2 : Int32) (res : Int32) (hf : f_X5_isBlind p1_guests x2 = some res) (hP : va_P D vwCl (w_X5_isBlind cI cB cZ a_p1 a_p1_guests a_p1_numbers a_p1_coats a_p1_line a_t p1_waiting p1_arrived p1_standing p1_climbed p1_drawn p1_guests) s.heap) (hQ : ∀ (pc : Nat) (ls : Array Slot), (res = 0 ∨ res = 1) → decode cX5_isBlind pc = .ok (.ireturn, 1) → W p l e R s m args below meth c s.heap [] 0 0 Q (F0 m pc ls [.int res])) (ls : Array Slot) (hl : lv_has ls 4 [(0, .ref a_t), (1, .ref a_p1), (2, .int x2)]) : W p l e R s m args below meth c s.heap [] 0 0 Q (F0 m 0 ls []) := by
  unfold f_X5_isBlind at hf
  refine lv_iload_n hx hb dX5_isBlind_0 rfl (lv_at hl 2 rfl) ?_
  refine lv_bipush (v := 9) hx hb dX5_isBlind_1 (by decide) ?_
  refine lv_isub hx hb dX5_isBlind_3 ?_
  refine lv_istore_n (lv' := [(3, .int (x2 - 9)), (0, .ref a_t), (1, .ref a_p1), (2, .int x2)]) hx hb dX5_isBlind_4 rfl hl (by decide) rfl (fun ls hl => ?_)
  refine lv_iload_n hx hb dX5_isBlind_5 rfl (lv_at hl 3 rfl) ?_
  refine lv_bipush (v := 72) hx hb dX5_isBlind_6 (by decide) ?_
  refine lv_irem hx hb dX5_isBlind_8 (by decide) ?_
  refine lv_bipush (v := 9) hx hb dX5_isBlind_9 (by decide) ?_
  refine lv_icmp_lt (tgt := 53) hx hb dX5_isBlind_11 (by decide) (fun hc_11 => ?_) (fun hc_11 => ?_)
  · have hf := it_pos hc_11 hf
    refine lv_iconst (v := 0) hx hb dX5_isBlind_53 (by decide) ?_
    obtain rfl := Option.some.inj hf
    exact hQ 54 ls (Or.inl rfl) dX5_isBlind_54
  · have hf := it_neg hc_11 hf
    refine lv_aload_n hx hb dX5_isBlind_14 rfl (lv_at hl 2 rfl) ?_
    refine lv_iload_n hx hb dX5_isBlind_15 rfl (lv_at hl 3 rfl) ?_
    obtain ⟨z16, e16, hf⟩ := bd_some hf
    refine rV_RO (As := [.int x2]) (rest := []) ⟨hx, hb, hml, hown, hT⟩ (gdV tb_863 tb_685 tb_686 tb_88 tb_687) hd_X0_isTaken (c_X0_isTaken l D cI cB cZ a_p1 a_p1_guests a_p1_numbers a_p1_coats a_p1_line p1_waiting p1_arrived p1_standing p1_climbed p1_drawn p1_guests x2 z16 e16) ⟨rfl, rfl⟩ ⟨Nat.le_trans (by decide) hRf, Nat.le_trans (by decide) hRl⟩ ⟨hK, hN⟩ hP [0, 1] rfl 0 rfl rfl rfl hl.1 rfl (Nat.le_of_ble_eq_true rfl) ⟨Nat.zero_le _, Nat.zero_le _⟩ dX5_isBlind_16 (fun hz_16 => ?_)
    refine lv_if_eq (tgt := 53) hx hb dX5_isBlind_19 (by decide) (fun hc_19 => ?_) (fun hc_19 => ?_)
    · have hf := it_pos hc_19 hf
      refine lv_iconst (v := 0) hx hb dX5_isBlind_53 (by decide) ?_
      obtain rfl := Option.some.inj hf
      exact hQ 54 ls (Or.inl rfl) dX5_isBlind_54
    · have hf := it_neg hc_19 hf
      refine lv_aload_n hx hb dX5_isBlind_22 rfl (lv_at hl 2 rfl) ?_
      refine lv_iload_n hx hb dX5_isBlind_23 rfl (lv_at hl 0 rfl) ?_
      obtain ⟨z24, e24, hf⟩ := bd_some hf
      refine rV_RO (As := [.int (x2 - 9)]) (rest := []) ⟨hx, hb, hml, hown, hT⟩ (gdV tb_863 tb_685 tb_686 tb_88 tb_687) hd_X0_isTaken (c_X0_isTaken l D cI cB cZ a_p1 a_p1_guests a_p1_numbers a_p1_coats a_p1_line p1_waiting p1_arrived p1_standing p1_climbed p1_drawn p1_guests (x2 - 9) z24 e24) ⟨rfl, rfl⟩ ⟨Nat.le_trans (by decide) hRf, Nat.le_trans (by decide) hRl⟩ ⟨hK, hN⟩ hP [0, 1] rfl 0 rfl rfl rfl hl.1 rfl (Nat.le_of_ble_eq_true rfl) ⟨Nat.zero_le _, Nat.zero_le _⟩ dX5_isBlind_24 (fun hz_24 => ?_)
      refine lv_if_eq (tgt := 53) hx hb dX5_isBlind_27 (by decide) (fun hc_27 => ?_) (fun hc_27 => ?_)
      · have hf := it_pos hc_27 hf
        refine lv_iconst (v := 0) hx hb dX5_isBlind_53 (by decide) ?_
        obtain rfl := Option.some.inj hf
        exact hQ 54 ls (Or.inl rfl) dX5_isBlind_54
      · have hf := it_neg hc_27 hf
        refine lv_aload_n hx hb dX5_isBlind_30 rfl (lv_at hl 2 rfl) ?_
        refine lv_iload_n hx hb dX5_isBlind_31 rfl (lv_at hl 0 rfl) ?_
        obtain ⟨z32, e32, hf⟩ := bd_some hf
        refine rV_RO (As := [.int (x2 - 9)]) (rest := []) ⟨hx, hb, hml, hown, hT⟩ (gdV tb_847 tb_689 tb_690 tb_88 tb_691) hd_X0_guestOn (c_X0_guestOn l D cI cB cZ a_p1 a_p1_guests a_p1_numbers a_p1_coats a_p1_line p1_waiting p1_arrived p1_standing p1_climbed p1_drawn p1_guests (x2 - 9) z32 e32) ⟨rfl, rfl⟩ ⟨Nat.le_trans (by decide) hRf, Nat.le_trans (by decide) hRl⟩ ⟨hK, hN⟩ hP [0, 1] rfl 0 rfl rfl rfl hl.1 rfl (Nat.le_of_ble_eq_true rfl) ⟨Nat.zero_le _, Nat.zero_le _⟩ dX5_isBlind_32 (fun _ => ?_)
        obtain ⟨z35, e35, hf⟩ := bd_some hf
        refine rS_RO (As := [.int z32]) (rest := []) ⟨hx, hb, hml, hown, hT⟩ (gdS tb_862 tb_729 tb_104 tb_730) hd_X1_heightOf (c_X1_heightOf l D cI cB cZ z32 z35 e35) ⟨rfl, rfl⟩ ⟨Nat.le_trans (by decide) hRf, Nat.le_trans (by decide) hRl⟩ ⟨hK, hN⟩ hP [] rfl rfl hl.1 rfl (Nat.le_of_ble_eq_true rfl) ⟨Nat.zero_le _, Nat.zero_le _⟩ dX5_isBlind_35 (fun _ => ?_)
        refine lv_aload_n hx hb dX5_isBlind_38 rfl (lv_at hl 2 rfl) ?_
        refine lv_iload_n hx hb dX5_isBlind_39 rfl (lv_at hl 3 rfl) ?_
        obtain ⟨z40, e40, hf⟩ := bd_some hf
        refine rV_RO (As := [.int x2]) (rest := [.int z35]) ⟨hx, hb, hml, hown, hT⟩ (gdV tb_847 tb_689 tb_690 tb_88 tb_691) hd_X0_guestOn (c_X0_guestOn l D cI cB cZ a_p1 a_p1_guests a_p1_numbers a_p1_coats a_p1_line p1_waiting p1_arrived p1_standing p1_climbed p1_drawn p1_guests x2 z40 e40) ⟨rfl, rfl⟩ ⟨Nat.le_trans (by decide) hRf, Nat.le_trans (by decide) hRl⟩ ⟨hK, hN⟩ hP [0, 1] rfl 0 rfl rfl rfl hl.1 rfl (Nat.le_of_ble_eq_true rfl) ⟨Nat.zero_le _, Nat.zero_le _⟩ dX5_isBlind_40 (fun _ => ?_)
        obtain ⟨z43, e43, hf⟩ := bd_some hf
        refine rS_RO (As := [.int z40]) (rest := [.int z35]) ⟨hx, hb, hml, hown, hT⟩ (gdS tb_862 tb_729 tb_104 tb_730) hd_X1_heightOf (c_X1_heightOf l D cI cB cZ z40 z43 e43) ⟨rfl, rfl⟩ ⟨Nat.le_trans (by decide) hRf, Nat.le_trans (by decide) hRl⟩ ⟨hK, hN⟩ hP [] rfl rfl hl.1 rfl (Nat.le_of_ble_eq_true rfl) ⟨Nat.zero_le _, Nat.zero_le _⟩ dX5_isBlind_43 (fun _ => ?_)
        refine lv_icmp_le (tgt := 53) hx hb dX5_isBlind_46 (by decide) (fun hc_46 => ?_) (fun hc_46 => ?_)
        · have hf := it_pos hc_46 hf
          refine lv_iconst (v := 0) hx hb dX5_isBlind_53 (by decide) ?_
          obtain rfl := Option.some.inj hf
          exact hQ 54 ls (Or.inl rfl) dX5_isBlind_54
        · have hf := it_neg hc_46 hf
          refine lv_iconst (v := 1) hx hb dX5_isBlind_49 (by decide) ?_
          refine lv_goto (tgt := 54) hx hb dX5_isBlind_50 (by decide) ?_
          obtain rfl := Option.some.inj hf
          exact hQ 54 ls (Or.inr rfl) dX5_isBlind_54
theorem hd_X5_isBlind : (yX5_isBlind).cls = RX5 ∧ (yX5_isBlind).cls ≠ "java/lang/invoke/MethodHandle" ∧ (yX5_isBlind).cls ≠ "java/lang/invoke/VarHandle" ∧ (parseMethodDescriptor (yX5_isBlind).desc).map (fun d => d.parameters.length) = some 2 := by decide +kernel
theorem c_X5_isBlind (l : Launch) (D : va_G) (cI cB cZ : ClassId) (a_p1 : Nat) (a_p1_guests : Nat) (a_p1_numbers : Nat) (a_p1_coats : Nat) (a_p1_line : Nat) (a_t : Nat) (p1_waiting : Int32) (p1_arrived : Int32) (p1_standing : Int32) (p1_climbed : Int32) (p1_drawn : Int32) (p1_guests : (Nat → Int32)) (x2 : Int32) (res : Int32) (hf : f_X5_isBlind p1_guests x2 = some res) : Met l yX5_isBlind (.code yX5_isBlind cX5_isBlind 4 (some .boolean) :: TB) (rmk (2) (42)) (pRO [.ref a_t, .ref a_p1, .int x2] D cI cB cZ (w_X5_isBlind cI cB cZ a_p1 a_p1_guests a_p1_numbers a_p1_coats a_p1_line a_t p1_waiting p1_arrived p1_standing p1_climbed p1_drawn p1_guests)) (qRO (some (.int res)) (res = 0 ∨ res = 1)) 0 0 (fun _ => False) :=
  mkRO (by decide +kernel) (Nat.le_of_ble_eq_true rfl) (fun p e s m below meth c ls S hr hlk hK hP hl => b_X5_isBlind S.1 S.2.1 S.2.2.1 S.2.2.2.1 S.2.2.2.2 (Nat.le_refl _) (Nat.le_refl _) hK.1 hK.2 a_p1 a_p1_guests a_p1_numbers a_p1_coats a_p1_line a_t p1_waiting p1_arrived p1_standing p1_climbed p1_drawn p1_guests x2 res hf hP (fun pc ls hE hd => eRO_i S.1 S.2.1 hr (nz_ok hE) hlk hE hd) ls hl)
def f_X5_blind_9 (p1_guests : (Nat → Int32)) : Nat → Int32 → Int32 → Int32 → Int32 → Option (Int32)
  | 0, _, _, _, _ => none
  | n + 1, x2, x3, x4, x5 => (if 144 ≤ x5 then (if x2 = 0 then some (x3) else some (x4)) else (f_X5_isBlind p1_guests x5).bind (fun z21 => (if z21 = 0 then (f_X5_blind_9 p1_guests n) x2 x3 x4 (x5 + 1) else (if x4 = (-2) then (f_X5_blind_9 p1_guests n) x2 (x3 + 1) x5 (x5 + 1) else (f_X5_blind_9 p1_guests n) x2 (x3 + 1) x4 (x5 + 1)))))
def f_X5_blind (p1_guests : (Nat → Int32)) (x2 : Int32) : Option (Int32) := f_X5_blind_9 p1_guests FU x2 0 (-2) 0
def w_X5_blind (cI cB cZ : ClassId) (a_t : Nat) (a_p1 : Nat) (a_p1_guests : Nat) (a_t_singersByRow : Nat) (a_t_most : Nat) (a_t_mostBefore : Nat) (a_p1_numbers : Nat) (a_p1_coats : Nat) (a_p1_line : Nat) (p1_waiting : Int32) (p1_arrived : Int32) (p1_standing : Int32) (p1_climbed : Int32) (p1_drawn : Int32) (p1_guests : (Nat → Int32)) : va_W := [(a_t, .inr (4, [.ref a_t_singersByRow, .ref a_t_most, .ref a_t_mostBefore])), (a_p1, .inr (0, [.ref a_p1_guests, .ref a_p1_numbers, .ref a_p1_coats, .ref a_p1_line, .int p1_waiting, .int p1_arrived, .int p1_standing, .int p1_climbed, .int p1_drawn])), (a_p1_guests, .inl (cI, 144, .inl p1_guests))]
set_option maxHeartbeats 4000000 in
set_option maxRecDepth 100000 in
theorem b_X5_blind {p : Program} {l : Launch} {e : Env} {R : Room} {s : State} {m : MethodId} {args : Array Value} {below : List Frame} {meth : Method} {c : Code} {Q : State → Prop} {D : va_G} {cI cB cZ : ClassId} (hx : p.tables.exec = Jvm.exec) (hb : c.code = cX5_blind) (hml : c.maxLocals = 6) (hown : s.vm.findClass RX5 = some m.cls) (hT : ∀ w ∈ TB, w.before args s = true) (hRf : (3) ≤ R.frames) (hRl : (65) ≤ R.locals) (hK : va_K D vwCl (tyL cI cB cZ) s) (hN : NW s)  (a_t : Nat) (a_p1 : Nat) (a_p1_guests : Nat) (a_t_singersByRow : Nat) (a_t_most : Nat) (a_t_mostBefore : Nat) (a_p1_numbers : Nat) (a_p1_coats : Nat) (a_p1_line : Nat) (p1_waiting : Int32) (p1_arrived : Int32) (p1_standing : Int32) (p1_climbed : Int32) (p1_drawn : Int32) (p1_guests : (Nat → Int32)) (x2 : Int32) (res : Int32) (hf : f_X5_blind p1_guests x2 = some res) (hP : va_P D vwCl (w_X5_blind cI cB cZ a_t a_p1 a_p1_guests a_t_singersByRow a_t_most a_t_mostBefore a_p1_numbers a_p1_coats a_p1_line p1_waiting p1_arrived p1_standing p1_climbed p1_drawn p1_guests) s.heap) (hQ : ∀ (pc : Nat) (ls : Array Slot), True → decode cX5_blind pc = .ok (.ireturn, 1) → W p l e R s m args below meth c s.heap [] 0 0 Q (F0 m pc ls [.int res])) (ls : Array Slot) (hl : lv_has ls 6 [(0, .ref a_t), (1, .ref a_p1), (2, .int x2)]) : W p l e R s m args below meth c s.heap [] 0 0 Q (F0 m 0 ls []) := by
  unfold f_X5_blind at hf
  refine lv_iconst (v := 0) hx hb dX5_blind_0 (by decide) ?_
  refine lv_istore_n (lv' := [(3, .int 0), (0, .ref a_t), (1, .ref a_p1), (2, .int x2)]) hx hb dX5_blind_1 rfl hl (by decide) rfl (fun ls hl => ?_)
  refine lv_bipush (v := (-2)) hx hb dX5_blind_2 (by decide) ?_
  refine lv_istore (lv' := [(4, .int (-2)), (3, .int 0), (0, .ref a_t), (1, .ref a_p1), (2, .int x2)]) hx hb dX5_blind_4 hl (by decide) rfl (fun ls hl => ?_)
  refine lv_iconst (v := 0) hx hb dX5_blind_6 (by decide) ?_
  have J_9 : ∀ (n_9 : Nat) (x2 : Int32) (x3 : Int32) (x4 : Int32) (x5 : Int32) (ls : Array Slot), f_X5_blind_9 p1_guests n_9 x2 x3 x4 x5 = some res → lv_has ls 6 [(0, .ref a_t), (1, .ref a_p1), (2, .int x2), (3, .int x3), (4, .int x4), (5, .int x5)] → W p l e R s m args below meth c s.heap [] 0 0 Q (F0 m 9 ls []) := by
    intro n_9
    induction n_9 with
    | zero =>
      intro x2 x3 x4 x5 ls hf hl
      cases hf
    | succ n_9 ih_9 =>
      intro x2 x3 x4 x5 ls hf hl
      unfold f_X5_blind_9 at hf
      refine lv_iload hx hb dX5_blind_9 (lv_at hl 5 rfl) ?_
      refine lv_sipush (v := 144) hx hb dX5_blind_11 (by decide) ?_
      refine lv_icmp_ge (tgt := 52) hx hb dX5_blind_14 (by decide) (fun hc_14 => ?_) (fun hc_14 => ?_)
      · have hf := it_pos hc_14 hf
        refine lv_iload_n hx hb dX5_blind_52 rfl (lv_at hl 2 rfl) ?_
        refine lv_if_ne (tgt := 60) hx hb dX5_blind_53 (by decide) (fun hc_53 => ?_) (fun hc_53 => ?_)
        · have hf := it_neg hc_53 hf
          refine lv_iload hx hb dX5_blind_60 (lv_at hl 4 rfl) ?_
          obtain rfl := Option.some.inj hf
          exact hQ 62 ls trivial dX5_blind_62
        · have hf := it_pos hc_53 hf
          refine lv_iload_n hx hb dX5_blind_56 rfl (lv_at hl 3 rfl) ?_
          refine lv_goto (tgt := 62) hx hb dX5_blind_57 (by decide) ?_
          obtain rfl := Option.some.inj hf
          exact hQ 62 ls trivial dX5_blind_62
      · have hf := it_neg hc_14 hf
        refine lv_aload_n hx hb dX5_blind_17 rfl (lv_at hl 0 rfl) ?_
        refine lv_aload_n hx hb dX5_blind_18 rfl (lv_at hl 1 rfl) ?_
        refine lv_iload hx hb dX5_blind_19 (lv_at hl 5 rfl) ?_
        obtain ⟨z21, e21, hf⟩ := bd_some hf
        refine rV_RO (As := [.ref a_p1, .int x5]) (rest := []) ⟨hx, hb, hml, hown, hT⟩ (gdV tb_925 tb_927 tb_19 tb_94 tb_928) hd_X5_isBlind (c_X5_isBlind l D cI cB cZ a_p1 a_p1_guests a_p1_numbers a_p1_coats a_p1_line a_t p1_waiting p1_arrived p1_standing p1_climbed p1_drawn p1_guests x5 z21 e21) ⟨rfl, rfl⟩ ⟨Nat.le_trans (by decide) hRf, Nat.le_trans (by decide) hRl⟩ ⟨hK, hN⟩ hP [1, 2] rfl 0 rfl rfl rfl hl.1 rfl (Nat.le_of_ble_eq_true rfl) ⟨Nat.zero_le _, Nat.zero_le _⟩ dX5_blind_21 (fun hz_21 => ?_)
        refine lv_if_eq (tgt := 46) hx hb dX5_blind_24 (by decide) (fun hc_24 => ?_) (fun hc_24 => ?_)
        · have hf := it_pos hc_24 hf
          refine lv_iinc (v := x5 + 1) (lv' := [(5, .int (x5 + 1)), (0, .ref a_t), (1, .ref a_p1), (2, .int x2), (3, .int x3), (4, .int x4)]) hx hb dX5_blind_46 hl (k := 5) rfl (congrArg (_ + ·) (by decide : Int32.ofInt 1 = 1)) (by decide) rfl (fun ls hl => ?_)
          refine lv_goto (tgt := 9) hx hb dX5_blind_49 (by decide) ?_
          exact ih_9 _ _ _ _ _ hf (lv_sub hl [1, 2, 3, 4, 5, 0] rfl)
        · have hf := it_neg hc_24 hf
          refine lv_iinc (v := x3 + 1) (lv' := [(3, .int (x3 + 1)), (0, .ref a_t), (1, .ref a_p1), (2, .int x2), (4, .int x4), (5, .int x5)]) hx hb dX5_blind_27 hl (k := 3) rfl (congrArg (_ + ·) (by decide : Int32.ofInt 1 = 1)) (by decide) rfl (fun ls hl => ?_)
          refine lv_iload hx hb dX5_blind_30 (lv_at hl 4 rfl) ?_
          refine lv_bipush (v := (-2)) hx hb dX5_blind_32 (by decide) ?_
          refine lv_icmp_ne (tgt := 42) hx hb dX5_blind_34 (by decide) (fun hc_34 => ?_) (fun hc_34 => ?_)
          · have hf := it_neg hc_34 hf
            refine lv_iload hx hb dX5_blind_42 (lv_at hl 4 rfl) ?_
            refine lv_istore (lv' := [(4, .int x4), (3, .int (x3 + 1)), (0, .ref a_t), (1, .ref a_p1), (2, .int x2), (5, .int x5)]) hx hb dX5_blind_44 hl (by decide) rfl (fun ls hl => ?_)
            refine lv_iinc (v := x5 + 1) (lv' := [(5, .int (x5 + 1)), (4, .int x4), (3, .int (x3 + 1)), (0, .ref a_t), (1, .ref a_p1), (2, .int x2)]) hx hb dX5_blind_46 hl (k := 5) rfl (congrArg (_ + ·) (by decide : Int32.ofInt 1 = 1)) (by decide) rfl (fun ls hl => ?_)
            refine lv_goto (tgt := 9) hx hb dX5_blind_49 (by decide) ?_
            exact ih_9 _ _ _ _ _ hf (lv_sub hl [3, 4, 5, 2, 1, 0] rfl)
          · have hf := it_pos hc_34 hf
            refine lv_iload hx hb dX5_blind_37 (lv_at hl 5 rfl) ?_
            refine lv_goto (tgt := 44) hx hb dX5_blind_39 (by decide) ?_
            refine lv_istore (lv' := [(4, .int x5), (3, .int (x3 + 1)), (0, .ref a_t), (1, .ref a_p1), (2, .int x2), (5, .int x5)]) hx hb dX5_blind_44 hl (by decide) rfl (fun ls hl => ?_)
            refine lv_iinc (v := x5 + 1) (lv' := [(5, .int (x5 + 1)), (4, .int x5), (3, .int (x3 + 1)), (0, .ref a_t), (1, .ref a_p1), (2, .int x2)]) hx hb dX5_blind_46 hl (k := 5) rfl (congrArg (_ + ·) (by decide : Int32.ofInt 1 = 1)) (by decide) rfl (fun ls hl => ?_)
            refine lv_goto (tgt := 9) hx hb dX5_blind_49 (by decide) ?_
            exact ih_9 _ _ _ _ _ hf (lv_sub hl [3, 4, 5, 2, 1, 0] rfl)
  refine lv_istore (lv' := [(5, .int 0), (4, .int (-2)), (3, .int 0), (0, .ref a_t), (1, .ref a_p1), (2, .int x2)]) hx hb dX5_blind_7 hl (by decide) rfl (fun ls hl => ?_)
  exact J_9 _ _ _ _ _ _ hf (lv_sub hl [3, 4, 5, 2, 1, 0] rfl)
theorem hd_X5_blind : (yX5_blind).cls = RX5 ∧ (yX5_blind).cls ≠ "java/lang/invoke/MethodHandle" ∧ (yX5_blind).cls ≠ "java/lang/invoke/VarHandle" ∧ (parseMethodDescriptor (yX5_blind).desc).map (fun d => d.parameters.length) = some 2 := by decide +kernel
theorem c_X5_blind (l : Launch) (D : va_G) (cI cB cZ : ClassId) (a_t : Nat) (a_p1 : Nat) (a_p1_guests : Nat) (a_t_singersByRow : Nat) (a_t_most : Nat) (a_t_mostBefore : Nat) (a_p1_numbers : Nat) (a_p1_coats : Nat) (a_p1_line : Nat) (p1_waiting : Int32) (p1_arrived : Int32) (p1_standing : Int32) (p1_climbed : Int32) (p1_drawn : Int32) (p1_guests : (Nat → Int32)) (x2 : Int32) (res : Int32) (hf : f_X5_blind p1_guests x2 = some res) : Met l yX5_blind (.code yX5_blind cX5_blind 6 (some .int) :: TB) (rmk (3) (65)) (pRO [.ref a_t, .ref a_p1, .int x2] D cI cB cZ (w_X5_blind cI cB cZ a_t a_p1 a_p1_guests a_t_singersByRow a_t_most a_t_mostBefore a_p1_numbers a_p1_coats a_p1_line p1_waiting p1_arrived p1_standing p1_climbed p1_drawn p1_guests)) (qRO (some (.int res)) True) 0 0 (fun _ => False) :=
  mkRO (by decide +kernel) (Nat.le_of_ble_eq_true rfl) (fun p e s m below meth c ls S hr hlk hK hP hl => b_X5_blind S.1 S.2.1 S.2.2.1 S.2.2.2.1 S.2.2.2.2 (Nat.le_refl _) (Nat.le_refl _) hK.1 hK.2 a_t a_p1 a_p1_guests a_t_singersByRow a_t_most a_t_mostBefore a_p1_numbers a_p1_coats a_p1_line p1_waiting p1_arrived p1_standing p1_climbed p1_drawn p1_guests x2 res hf hP (fun pc ls hE hd => eRO_i S.1 S.2.1 hr rfl hlk hE hd) ls hl)
def f_X5_climbsAnew_16 (p1_guests : (Nat → Int32)) (p1_numbers : (Nat → Int32)) (k6 : Int32 → Int32 → Int32 → Int32 → Option (Int32)) : Nat → Int32 → Int32 → Int32 → Int32 → Int32 → Option (Int32)
  | 0, _, _, _, _, _ => none
  | n + 1, x2, x3, x4, x5, x6 => (if x5 ≤ x6 then k6 x2 x3 x4 (x5 + 1) else (f_X0_isTaken p1_guests ((x2 * 9) + x5)).bind (fun z44 => (if z44 = 0 then (f_X5_climbsAnew_16 p1_guests p1_numbers k6 n) x2 x3 x4 x5 (x6 + 1) else (f_X0_isTaken p1_guests ((x2 * 9) + x6)).bind (fun z53 => (if z53 = 0 then (f_X5_climbsAnew_16 p1_guests p1_numbers k6 n) x2 x3 x4 x5 (x6 + 1) else (if x3 = 0 then (f_X5_climbsAnew_16 p1_guests p1_numbers k6 n) x2 x3 (x4 + 1) x5 (x6 + 1) else ix 144 ((x2 * 9) + x6) (ix 144 ((x2 * 9) + x5) ((if (p1_numbers ((x2 * 9) + x5).toNatClampNeg) ≤ (p1_numbers ((x2 * 9) + x6).toNatClampNeg) then (f_X5_climbsAnew_16 p1_guests p1_numbers k6 n) x2 x3 x4 x5 (x6 + 1) else (f_X5_climbsAnew_16 p1_guests p1_numbers k6 n) x2 x3 (x4 + 1) x5 (x6 + 1))))))))))
def f_X5_climbsAnew_6 (p1_guests : (Nat → Int32)) (p1_numbers : (Nat → Int32)) : Nat → Int32 → Int32 → Int32 → Int32 → Option (Int32)
  | 0, _, _, _, _ => none
  | n + 1, x2, x3, x4, x5 => (if 9 ≤ x5 then some (x4) else f_X5_climbsAnew_16 p1_guests p1_numbers (f_X5_climbsAnew_6 p1_guests p1_numbers n) FU x2 x3 x4 x5 0)
def f_X5_climbsAnew (p1_guests : (Nat → Int32)) (p1_numbers : (Nat → Int32)) (x2 : Int32) (x3 : Int32) : Option (Int32) := f_X5_climbsAnew_6 p1_guests p1_numbers FU x2 x3 0 0
def w_X5_climbsAnew (cI cB cZ : ClassId) (a_p1 : Nat) (a_p1_guests : Nat) (a_p1_numbers : Nat) (a_p1_coats : Nat) (a_p1_line : Nat) (a_t : Nat) (p1_waiting : Int32) (p1_arrived : Int32) (p1_standing : Int32) (p1_climbed : Int32) (p1_drawn : Int32) (p1_guests : (Nat → Int32)) (p1_numbers : (Nat → Int32)) : va_W := [(a_p1, .inr (0, [.ref a_p1_guests, .ref a_p1_numbers, .ref a_p1_coats, .ref a_p1_line, .int p1_waiting, .int p1_arrived, .int p1_standing, .int p1_climbed, .int p1_drawn])), (a_p1_guests, .inl (cI, 144, .inl p1_guests)), (a_p1_numbers, .inl (cI, 144, .inl p1_numbers))]
set_option maxHeartbeats 4000000 in
set_option maxRecDepth 100000 in
theorem b_X5_climbsAnew {p : Program} {l : Launch} {e : Env} {R : Room} {s : State} {m : MethodId} {args : Array Value} {below : List Frame} {meth : Method} {c : Code} {Q : State → Prop} {D : va_G} {cI cB cZ : ClassId} (hx : p.tables.exec = Jvm.exec) (hb : c.code = cX5_climbsAnew) (hml : c.maxLocals = 9) (hown : s.vm.findClass RX5 = some m.cls) (hT : ∀ w ∈ TB, w.before args s = true) (hRf : (2) ≤ R.frames) (hRl : (42) ≤ R.locals) (hK : va_K D vwCl (tyL cI cB cZ) s) (hN : NW s)  (a_p1 : Nat) (a_p1_guests : Nat) (a_p1_numbers : Nat) (a_p1_coats : Nat) (a_p1_line : Nat) (a_t : Nat) (p1_waiting : Int32) (p1_arrived : Int32) (p1_standing : Int32) (p1_climbed : Int32) (p1_drawn : Int32) (p1_guests : (Nat → Int32)) (p1_numbers : (Nat → Int32)) (x2 : Int32) (x3 : Int32) (res : Int32) (hf : f_X5_climbsAnew p1_guests p1_numbers x2 x3 = some res) (hP : va_P D vwCl (w_X5_climbsAnew cI cB cZ a_p1 a_p1_guests a_p1_numbers a_p1_coats a_p1_line a_t p1_waiting p1_arrived p1_standing p1_climbed p1_drawn p1_guests p1_numbers) s.heap) (hQ : ∀ (pc : Nat) (ls : Array Slot), True → decode cX5_climbsAnew pc = .ok (.ireturn, 1) → W p l e R s m args below meth c s.heap [] 0 0 Q (F0 m pc ls [.int res])) (ls : Array Slot) (hl : lv_has ls 9 [(0, .ref a_t), (1, .ref a_p1), (2, .int x2), (3, .int x3)]) : W p l e R s m args below meth c s.heap [] 0 0 Q (F0 m 0 ls []) := by
  unfold f_X5_climbsAnew at hf
  refine lv_iconst (v := 0) hx hb dX5_climbsAnew_0 (by decide) ?_
  refine lv_istore (lv' := [(4, .int 0), (0, .ref a_t), (1, .ref a_p1), (2, .int x2), (3, .int x3)]) hx hb dX5_climbsAnew_1 hl (by decide) rfl (fun ls hl => ?_)
  refine lv_iconst (v := 0) hx hb dX5_climbsAnew_3 (by decide) ?_
  have J_6 : ∀ (n_6 : Nat) (x2 : Int32) (x3 : Int32) (x4 : Int32) (x5 : Int32) (ls : Array Slot), f_X5_climbsAnew_6 p1_guests p1_numbers n_6 x2 x3 x4 x5 = some res → lv_has ls 9 [(1, .ref a_p1), (2, .int x2), (3, .int x3), (4, .int x4), (5, .int x5)] → W p l e R s m args below meth c s.heap [] 0 0 Q (F0 m 6 ls []) := by
    intro n_6
    induction n_6 with
    | zero =>
      intro x2 x3 x4 x5 ls hf hl
      cases hf
    | succ n_6 ih_6 =>
      intro x2 x3 x4 x5 ls hf hl
      unfold f_X5_climbsAnew_6 at hf
      refine lv_iload hx hb dX5_climbsAnew_6 (lv_at hl 4 rfl) ?_
      refine lv_bipush (v := 9) hx hb dX5_climbsAnew_8 (by decide) ?_
      refine lv_icmp_ge (tgt := 95) hx hb dX5_climbsAnew_10 (by decide) (fun hc_10 => ?_) (fun hc_10 => ?_)
      · have hf := it_pos hc_10 hf
        refine lv_iload hx hb dX5_climbsAnew_95 (lv_at hl 3 rfl) ?_
        obtain rfl := Option.some.inj hf
        exact hQ 97 ls trivial dX5_climbsAnew_97
      · have hf := it_neg hc_10 hf
        refine lv_iconst (v := 0) hx hb dX5_climbsAnew_13 (by decide) ?_
        have J_16 : ∀ (n_16 : Nat) (x2 : Int32) (x3 : Int32) (x4 : Int32) (x5 : Int32) (x6 : Int32) (ls : Array Slot), f_X5_climbsAnew_16 p1_guests p1_numbers (f_X5_climbsAnew_6 p1_guests p1_numbers n_6) n_16 x2 x3 x4 x5 x6 = some res → lv_has ls 9 [(1, .ref a_p1), (2, .int x2), (3, .int x3), (4, .int x4), (5, .int x5), (6, .int x6)] → W p l e R s m args below meth c s.heap [] 0 0 Q (F0 m 16 ls []) := by
          intro n_16
          induction n_16 with
          | zero =>
            intro x2 x3 x4 x5 x6 ls hf hl
            cases hf
          | succ n_16 ih_16 =>
            intro x2 x3 x4 x5 x6 ls hf hl
            unfold f_X5_climbsAnew_16 at hf
            refine lv_iload hx hb dX5_climbsAnew_16 (lv_at hl 5 rfl) ?_
            refine lv_iload hx hb dX5_climbsAnew_18 (lv_at hl 4 rfl) ?_
            refine lv_icmp_ge (tgt := 89) hx hb dX5_climbsAnew_20 (by decide) (fun hc_20 => ?_) (fun hc_20 => ?_)
            · have hf := it_pos hc_20 hf
              refine lv_iinc (v := x5 + 1) (lv' := [(5, .int (x5 + 1)), (1, .ref a_p1), (2, .int x2), (3, .int x3), (4, .int x4), (6, .int x6)]) hx hb dX5_climbsAnew_89 hl (k := 4) rfl (congrArg (_ + ·) (by decide : Int32.ofInt 1 = 1)) (by decide) rfl (fun ls hl => ?_)
              refine lv_goto (tgt := 6) hx hb dX5_climbsAnew_92 (by decide) ?_
              exact ih_6 _ _ _ _ _ hf (lv_sub hl [1, 2, 3, 4, 0] rfl)
            · have hf := it_neg hc_20 hf
              refine lv_iload_n hx hb dX5_climbsAnew_23 rfl (lv_at hl 1 rfl) ?_
              refine lv_bipush (v := 9) hx hb dX5_climbsAnew_24 (by decide) ?_
              refine lv_imul hx hb dX5_climbsAnew_26 ?_
              refine lv_iload hx hb dX5_climbsAnew_27 (lv_at hl 4 rfl) ?_
              refine lv_iadd hx hb dX5_climbsAnew_29 ?_
              refine lv_istore (lv' := [(7, .int ((x2 * 9) + x5)), (1, .ref a_p1), (2, .int x2), (3, .int x3), (4, .int x4), (5, .int x5), (6, .int x6)]) hx hb dX5_climbsAnew_30 hl (by decide) rfl (fun ls hl => ?_)
              refine lv_iload_n hx hb dX5_climbsAnew_32 rfl (lv_at hl 2 rfl) ?_
              refine lv_bipush (v := 9) hx hb dX5_climbsAnew_33 (by decide) ?_
              refine lv_imul hx hb dX5_climbsAnew_35 ?_
              refine lv_iload hx hb dX5_climbsAnew_36 (lv_at hl 6 rfl) ?_
              refine lv_iadd hx hb dX5_climbsAnew_38 ?_
              refine lv_istore (lv' := [(8, .int ((x2 * 9) + x6)), (7, .int ((x2 * 9) + x5)), (1, .ref a_p1), (2, .int x2), (3, .int x3), (4, .int x4), (5, .int x5), (6, .int x6)]) hx hb dX5_climbsAnew_39 hl (by decide) rfl (fun ls hl => ?_)
              refine lv_aload_n hx hb dX5_climbsAnew_41 rfl (lv_at hl 2 rfl) ?_
              refine lv_iload hx hb dX5_climbsAnew_42 (lv_at hl 1 rfl) ?_
              obtain ⟨z44, e44, hf⟩ := bd_some hf
              refine rV_RO (As := [.int ((x2 * 9) + x5)]) (rest := []) ⟨hx, hb, hml, hown, hT⟩ (gdV tb_863 tb_685 tb_686 tb_88 tb_687) hd_X0_isTaken (c_X0_isTaken l D cI cB cZ a_p1 a_p1_guests a_p1_numbers a_p1_coats a_p1_line p1_waiting p1_arrived p1_standing p1_climbed p1_drawn p1_guests ((x2 * 9) + x5) z44 e44) ⟨rfl, rfl⟩ ⟨Nat.le_trans (by decide) hRf, Nat.le_trans (by decide) hRl⟩ ⟨hK, hN⟩ hP [0, 1] rfl 0 rfl rfl rfl hl.1 rfl (Nat.le_of_ble_eq_true rfl) ⟨Nat.zero_le _, Nat.zero_le _⟩ dX5_climbsAnew_44 (fun hz_44 => ?_)
              refine lv_if_eq (tgt := 83) hx hb dX5_climbsAnew_47 (by decide) (fun hc_47 => ?_) (fun hc_47 => ?_)
              · have hf := it_pos hc_47 hf
                refine lv_iinc (v := x6 + 1) (lv' := [(6, .int (x6 + 1)), (8, .int ((x2 * 9) + x6)), (7, .int ((x2 * 9) + x5)), (1, .ref a_p1), (2, .int x2), (3, .int x3), (4, .int x4), (5, .int x5)]) hx hb dX5_climbsAnew_83 hl (k := 7) rfl (congrArg (_ + ·) (by decide : Int32.ofInt 1 = 1)) (by decide) rfl (fun ls hl => ?_)
                refine lv_goto (tgt := 16) hx hb dX5_climbsAnew_86 (by decide) ?_
                exact ih_16 _ _ _ _ _ _ hf (lv_sub hl [3, 4, 5, 6, 7, 0] rfl)
              · have hf := it_neg hc_47 hf
                refine lv_aload_n hx hb dX5_climbsAnew_50 rfl (lv_at hl 2 rfl) ?_
                refine lv_iload hx hb dX5_climbsAnew_51 (lv_at hl 0 rfl) ?_
                obtain ⟨z53, e53, hf⟩ := bd_some hf
                refine rV_RO (As := [.int ((x2 * 9) + x6)]) (rest := []) ⟨hx, hb, hml, hown, hT⟩ (gdV tb_863 tb_685 tb_686 tb_88 tb_687) hd_X0_isTaken (c_X0_isTaken l D cI cB cZ a_p1 a_p1_guests a_p1_numbers a_p1_coats a_p1_line p1_waiting p1_arrived p1_standing p1_climbed p1_drawn p1_guests ((x2 * 9) + x6) z53 e53) ⟨rfl, rfl⟩ ⟨Nat.le_trans (by decide) hRf, Nat.le_trans (by decide) hRl⟩ ⟨hK, hN⟩ hP [0, 1] rfl 0 rfl rfl rfl hl.1 rfl (Nat.le_of_ble_eq_true rfl) ⟨Nat.zero_le _, Nat.zero_le _⟩ dX5_climbsAnew_53 (fun hz_53 => ?_)
                refine lv_if_eq (tgt := 83) hx hb dX5_climbsAnew_56 (by decide) (fun hc_56 => ?_) (fun hc_56 => ?_)
                · have hf := it_pos hc_56 hf
                  refine lv_iinc (v := x6 + 1) (lv' := [(6, .int (x6 + 1)), (8, .int ((x2 * 9) + x6)), (7, .int ((x2 * 9) + x5)), (1, .ref a_p1), (2, .int x2), (3, .int x3), (4, .int x4), (5, .int x5)]) hx hb dX5_climbsAnew_83 hl (k := 7) rfl (congrArg (_ + ·) (by decide : Int32.ofInt 1 = 1)) (by decide) rfl (fun ls hl => ?_)
                  refine lv_goto (tgt := 16) hx hb dX5_climbsAnew_86 (by decide) ?_
                  exact ih_16 _ _ _ _ _ _ hf (lv_sub hl [3, 4, 5, 6, 7, 0] rfl)
                · have hf := it_neg hc_56 hf
                  refine lv_iload_n hx hb dX5_climbsAnew_59 rfl (lv_at hl 4 rfl) ?_
                  refine lv_if_eq (tgt := 80) hx hb dX5_climbsAnew_60 (by decide) (fun hc_60 => ?_) (fun hc_60 => ?_)
                  · have hf := it_pos hc_60 hf
                    refine lv_iinc (v := x4 + 1) (lv' := [(4, .int (x4 + 1)), (8, .int ((x2 * 9) + x6)), (7, .int ((x2 * 9) + x5)), (1, .ref a_p1), (2, .int x2), (3, .int x3), (5, .int x5), (6, .int x6)]) hx hb dX5_climbsAnew_80 hl (k := 5) rfl (congrArg (_ + ·) (by decide : Int32.ofInt 1 = 1)) (by decide) rfl (fun ls hl => ?_)
                    refine lv_iinc (v := x6 + 1) (lv' := [(6, .int (x6 + 1)), (4, .int (x4 + 1)), (8, .int ((x2 * 9) + x6)), (7, .int ((x2 * 9) + x5)), (1, .ref a_p1), (2, .int x2), (3, .int x3), (5, .int x5)]) hx hb dX5_climbsAnew_83 hl (k := 7) rfl (congrArg (_ + ·) (by decide : Int32.ofInt 1 = 1)) (by decide) rfl (fun ls hl => ?_)
                    refine lv_goto (tgt := 16) hx hb dX5_climbsAnew_86 (by decide) ?_
                    exact ih_16 _ _ _ _ _ _ hf (lv_sub hl [4, 5, 6, 1, 7, 0] rfl)
                  · have hf := it_neg hc_60 hf
                    refine lv_aload_n hx hb dX5_climbsAnew_63 rfl (lv_at hl 2 rfl) ?_
                    refine va_get (D := D) (ci := 0) (v := .ref a_p1_numbers) (C := RX0) (T := TX0) (N := 9) hx hb hT inX0 hown hK hP 0 rfl rfl 1 (by decide) (hT _ tb_173) (fun _ h9 => h9) rfl dX5_climbsAnew_64 ?_
                    refine lv_iload hx hb dX5_climbsAnew_67 (lv_at hl 0 rfl) ?_
                    obtain ⟨hi_69, hf⟩ := ix_some hf
                    refine va_iald hx hb hK hP 2 0 rfl rfl hi_69 dX5_climbsAnew_69 ?_
                    refine lv_aload_n hx hb dX5_climbsAnew_70 rfl (lv_at hl 2 rfl) ?_
                    refine va_get (D := D) (ci := 0) (v := .ref a_p1_numbers) (C := RX0) (T := TX0) (N := 9) hx hb hT inX0 hown hK hP 0 rfl rfl 1 (by decide) (hT _ tb_173) (fun _ h9 => h9) rfl dX5_climbsAnew_71 ?_
                    refine lv_iload hx hb dX5_climbsAnew_74 (lv_at hl 1 rfl) ?_
                    obtain ⟨hi_76, hf⟩ := ix_some hf
                    refine va_iald hx hb hK hP 2 0 rfl rfl hi_76 dX5_climbsAnew_76 ?_
                    refine lv_icmp_ge (tgt := 83) hx hb dX5_climbsAnew_77 (by decide) (fun hc_77 => ?_) (fun hc_77 => ?_)
                    · have hf := it_pos hc_77 hf
                      refine lv_iinc (v := x6 + 1) (lv' := [(6, .int (x6 + 1)), (8, .int ((x2 * 9) + x6)), (7, .int ((x2 * 9) + x5)), (1, .ref a_p1), (2, .int x2), (3, .int x3), (4, .int x4), (5, .int x5)]) hx hb dX5_climbsAnew_83 hl (k := 7) rfl (congrArg (_ + ·) (by decide : Int32.ofInt 1 = 1)) (by decide) rfl (fun ls hl => ?_)
                      refine lv_goto (tgt := 16) hx hb dX5_climbsAnew_86 (by decide) ?_
                      exact ih_16 _ _ _ _ _ _ hf (lv_sub hl [3, 4, 5, 6, 7, 0] rfl)
                    · have hf := it_neg hc_77 hf
                      refine lv_iinc (v := x4 + 1) (lv' := [(4, .int (x4 + 1)), (8, .int ((x2 * 9) + x6)), (7, .int ((x2 * 9) + x5)), (1, .ref a_p1), (2, .int x2), (3, .int x3), (5, .int x5), (6, .int x6)]) hx hb dX5_climbsAnew_80 hl (k := 5) rfl (congrArg (_ + ·) (by decide : Int32.ofInt 1 = 1)) (by decide) rfl (fun ls hl => ?_)
                      refine lv_iinc (v := x6 + 1) (lv' := [(6, .int (x6 + 1)), (4, .int (x4 + 1)), (8, .int ((x2 * 9) + x6)), (7, .int ((x2 * 9) + x5)), (1, .ref a_p1), (2, .int x2), (3, .int x3), (5, .int x5)]) hx hb dX5_climbsAnew_83 hl (k := 7) rfl (congrArg (_ + ·) (by decide : Int32.ofInt 1 = 1)) (by decide) rfl (fun ls hl => ?_)
                      refine lv_goto (tgt := 16) hx hb dX5_climbsAnew_86 (by decide) ?_
                      exact ih_16 _ _ _ _ _ _ hf (lv_sub hl [4, 5, 6, 1, 7, 0] rfl)
        refine lv_istore (lv' := [(6, .int 0), (1, .ref a_p1), (2, .int x2), (3, .int x3), (4, .int x4), (5, .int x5)]) hx hb dX5_climbsAnew_14 hl (by decide) rfl (fun ls hl => ?_)
        exact J_16 _ _ _ _ _ _ _ hf (lv_sub hl [1, 2, 3, 4, 5, 0] rfl)
  refine lv_istore (lv' := [(5, .int 0), (4, .int 0), (0, .ref a_t), (1, .ref a_p1), (2, .int x2), (3, .int x3)]) hx hb dX5_climbsAnew_4 hl (by decide) rfl (fun ls hl => ?_)
  exact J_6 _ _ _ _ _ _ hf (lv_sub hl [3, 4, 5, 1, 0] rfl)
theorem hd_X5_climbsAnew : (yX5_climbsAnew).cls = RX5 ∧ (yX5_climbsAnew).cls ≠ "java/lang/invoke/MethodHandle" ∧ (yX5_climbsAnew).cls ≠ "java/lang/invoke/VarHandle" ∧ (parseMethodDescriptor (yX5_climbsAnew).desc).map (fun d => d.parameters.length) = some 3 := by decide +kernel
theorem c_X5_climbsAnew (l : Launch) (D : va_G) (cI cB cZ : ClassId) (a_p1 : Nat) (a_p1_guests : Nat) (a_p1_numbers : Nat) (a_p1_coats : Nat) (a_p1_line : Nat) (a_t : Nat) (p1_waiting : Int32) (p1_arrived : Int32) (p1_standing : Int32) (p1_climbed : Int32) (p1_drawn : Int32) (p1_guests : (Nat → Int32)) (p1_numbers : (Nat → Int32)) (x2 : Int32) (x3 : Int32) (res : Int32) (hf : f_X5_climbsAnew p1_guests p1_numbers x2 x3 = some res) : Met l yX5_climbsAnew (.code yX5_climbsAnew cX5_climbsAnew 9 (some .int) :: TB) (rmk (2) (42)) (pRO [.ref a_t, .ref a_p1, .int x2, .int x3] D cI cB cZ (w_X5_climbsAnew cI cB cZ a_p1 a_p1_guests a_p1_numbers a_p1_coats a_p1_line a_t p1_waiting p1_arrived p1_standing p1_climbed p1_drawn p1_guests p1_numbers)) (qRO (some (.int res)) True) 0 0 (fun _ => False) :=
  mkRO (by decide +kernel) (Nat.le_of_ble_eq_true rfl) (fun p e s m below meth c ls S hr hlk hK hP hl => b_X5_climbsAnew S.1 S.2.1 S.2.2.1 S.2.2.2.1 S.2.2.2.2 (Nat.le_refl _) (Nat.le_refl _) hK.1 hK.2 a_p1 a_p1_guests a_p1_numbers a_p1_coats a_p1_line a_t p1_waiting p1_arrived p1_standing p1_climbed p1_drawn p1_guests p1_numbers x2 x3 res hf hP (fun pc ls hE hd => eRO_i S.1 S.2.1 hr rfl hlk hE hd) ls hl)
def f_X5_seatTwo_92 (p1_guests : (Nat → Int32)) (k27 : Int32 → Int32 → Int32 → Int32 → Int32 → Int32 → Int32 → Option (Int32)) (k40 : Int32 → Int32 → Int32 → Int32 → Int32 → Int32 → Int32 → Int32 → Option (Int32)) (x3 : Int32) (x4 : Int32) (x5 : Int32) (x7 : Int32) (x8 : Int32) (x9 : Int32) (x10 : Int32) (y0 : Int32) : Option (Int32) := (if x5 = 0 then k40 x3 x4 (x5 + 1) y0 x10 x8 x9 (x10 + 1) else k40 x3 x4 (x5 + 1) y0 x7 x8 x9 (x10 + 1))
def f_X5_seatTwo_40 (p1_guests : (Nat → Int32)) (k27 : Int32 → Int32 → Int32 → Int32 → Int32 → Int32 → Int32 → Option (Int32)) : Nat → Int32 → Int32 → Int32 → Int32 → Int32 → Int32 → Int32 → Int32 → Option (Int32)
  | 0, _, _, _, _, _, _, _, _ => none
  | n + 1, x3, x4, x5, x6, x7, x8, x9, x10 => (if x8 ≤ x10 then k27 x3 x4 x5 x6 x7 x8 (x9 + 1) else (f_X0_isTaken p1_guests x9).bind (fun z50 => (if z50 = 0 then (f_X0_isTaken p1_guests x10).bind (fun z59 => (if z59 = 0 then (if ((x10 / 9) - (x9 / 9)) < x3 then (f_X5_seatTwo_40 p1_guests k27 n) x3 x4 x5 x6 x7 x8 x9 (x10 + 1) else (if x5 = 0 then f_X5_seatTwo_92 p1_guests k27 (f_X5_seatTwo_40 p1_guests k27 n) x3 x4 x5 x7 x8 x9 x10 x9 else f_X5_seatTwo_92 p1_guests k27 (f_X5_seatTwo_40 p1_guests k27 n) x3 x4 x5 x7 x8 x9 x10 x6)) else (f_X5_seatTwo_40 p1_guests k27 n) x3 x4 x5 x6 x7 x8 x9 (x10 + 1))) else k27 x3 x4 x5 x6 x7 x8 (x9 + 1))))
def f_X5_seatTwo_27 (p1_guests : (Nat → Int32)) : Nat → Int32 → Int32 → Int32 → Int32 → Int32 → Int32 → Int32 → Option (Int32)
  | 0, _, _, _, _, _, _, _ => none
  | n + 1, x3, x4, x5, x6, x7, x8, x9 => (if x8 ≤ x9 then (if x4 = 0 then some (x5) else (if x4 = 1 then some (x6) else some (x7))) else f_X5_seatTwo_40 p1_guests (f_X5_seatTwo_27 p1_guests n) FU x3 x4 x5 x6 x7 x8 x9 (x9 + 1))
def f_X5_seatTwo (p1_guests : (Nat → Int32)) (x2 : Int32) (x3 : Int32) (x4 : Int32) : Option (Int32) := f_X5_seatTwo_27 p1_guests FU x3 x4 0 (-2) (-2) ((x2 * 72) + 72) (((x2 * 72) + 72) - 72)
def w_X5_seatTwo (cI cB cZ : ClassId) (a_p1 : Nat) (a_p1_guests : Nat) (a_p1_numbers : Nat) (a_p1_coats : Nat) (a_p1_line : Nat) (a_t : Nat) (p1_waiting : Int32) (p1_arrived : Int32) (p1_standing : Int32) (p1_climbed : Int32) (p1_drawn : Int32) (p1_guests : (Nat → Int32)) : va_W := [(a_p1, .inr (0, [.ref a_p1_guests, .ref a_p1_numbers, .ref a_p1_coats, .ref a_p1_line, .int p1_waiting, .int p1_arrived, .int p1_standing, .int p1_climbed, .int p1_drawn])), (a_p1_guests, .inl (cI, 144, .inl p1_guests))]
set_option maxHeartbeats 4000000 in
set_option maxRecDepth 100000 in
theorem b_X5_seatTwo {p : Program} {l : Launch} {e : Env} {R : Room} {s : State} {m : MethodId} {args : Array Value} {below : List Frame} {meth : Method} {c : Code} {Q : State → Prop} {D : va_G} {cI cB cZ : ClassId} (hx : p.tables.exec = Jvm.exec) (hb : c.code = cX5_seatTwo) (hml : c.maxLocals = 11) (hown : s.vm.findClass RX5 = some m.cls) (hT : ∀ w ∈ TB, w.before args s = true) (hRf : (2) ≤ R.frames) (hRl : (42) ≤ R.locals) (hK : va_K D vwCl (tyL cI cB cZ) s) (hN : NW s)  (a_p1 : Nat) (a_p1_guests : Nat) (a_p1_numbers : Nat) (a_p1_coats : Nat) (a_p1_line : Nat) (a_t : Nat) (p1_waiting : Int32) (p1_arrived : Int32) (p1_standing : Int32) (p1_climbed : Int32) (p1_drawn : Int32) (p1_guests : (Nat → Int32)) (x2 : Int32) (x3 : Int32) (x4 : Int32) (res : Int32) (hf : f_X5_seatTwo p1_guests x2 x3 x4 = some res) (hP : va_P D vwCl (w_X5_seatTwo cI cB cZ a_p1 a_p1_guests a_p1_numbers a_p1_coats a_p1_line a_t p1_waiting p1_arrived p1_standing p1_climbed p1_drawn p1_guests) s.heap) (hQ : ∀ (pc : Nat) (ls : Array Slot), True → decode cX5_seatTwo pc = .ok (.ireturn, 1) → W p l e R s m args below meth c s.heap [] 0 0 Q (F0 m pc ls [.int res])) (ls : Array Slot) (hl : lv_has ls 11 [(0, .ref a_t), (1, .ref a_p1), (2, .int x2), (3, .int x3), (4, .int x4)]) : W p l e R s m args below meth c s.heap [] 0 0 Q (F0 m 0 ls []) := by
  unfold f_X5_seatTwo at hf
  refine lv_iconst (v := 0) hx hb dX5_seatTwo_0 (by decide) ?_
  refine lv_istore (lv' := [(5, .int 0), (0, .ref a_t), (1, .ref a_p1), (2, .int x2), (3, .int x3), (4, .int x4)]) hx hb dX5_seatTwo_1 hl (by decide) rfl (fun ls hl => ?_)
  refine lv_bipush (v := (-2)) hx hb dX5_seatTwo_3 (by decide) ?_
  refine lv_istore (lv' := [(6, .int (-2)), (5, .int 0), (0, .ref a_t), (1, .ref a_p1), (2, .int x2), (3, .int x3), (4, .int x4)]) hx hb dX5_seatTwo_5 hl (by decide) rfl (fun ls hl => ?_)
  refine lv_bipush (v := (-2)) hx hb dX5_seatTwo_7 (by decide) ?_
  refine lv_istore (lv' := [(7, .int (-2)), (6, .int (-2)), (5, .int 0), (0, .ref a_t), (1, .ref a_p1), (2, .int x2), (3, .int x3), (4, .int x4)]) hx hb dX5_seatTwo_9 hl (by decide) rfl (fun ls hl => ?_)
  refine lv_iload_n hx hb dX5_seatTwo_11 rfl (lv_at hl 5 rfl) ?_
  refine lv_bipush (v := 72) hx hb dX5_seatTwo_12 (by decide) ?_
  refine lv_imul hx hb dX5_seatTwo_14 ?_
  refine lv_bipush (v := 72) hx hb dX5_seatTwo_15 (by decide) ?_
  refine lv_iadd hx hb dX5_seatTwo_17 ?_
  refine lv_istore (lv' := [(8, .int ((x2 * 72) + 72)), (7, .int (-2)), (6, .int (-2)), (5, .int 0), (0, .ref a_t), (1, .ref a_p1), (2, .int x2), (3, .int x3), (4, .int x4)]) hx hb dX5_seatTwo_18 hl (by decide) rfl (fun ls hl => ?_)
  refine lv_iload hx hb dX5_seatTwo_20 (lv_at hl 0 rfl) ?_
  refine lv_bipush (v := 72) hx hb dX5_seatTwo_22 (by decide) ?_
  refine lv_isub hx hb dX5_seatTwo_24 ?_
  have J_27 : ∀ (n_27 : Nat) (x3 : Int32) (x4 : Int32) (x5 : Int32) (x6 : Int32) (x7 : Int32) (x8 : Int32) (x9 : Int32) (ls : Array Slot), f_X5_seatTwo_27 p1_guests n_27 x3 x4 x5 x6 x7 x8 x9 = some res → lv_has ls 11 [(1, .ref a_p1), (3, .int x3), (4, .int x4), (5, .int x5), (6, .int x6), (7, .int x7), (8, .int x8), (9, .int x9)] → W p l e R s m args below meth c s.heap [] 0 0 Q (F0 m 27 ls []) := by
    intro n_27
    induction n_27 with
    | zero =>
      intro x3 x4 x5 x6 x7 x8 x9 ls hf hl
      cases hf
    | succ n_27 ih_27 =>
      intro x3 x4 x5 x6 x7 x8 x9 ls hf hl
      unfold f_X5_seatTwo_27 at hf
      refine lv_iload hx hb dX5_seatTwo_27 (lv_at hl 7 rfl) ?_
      refine lv_iload hx hb dX5_seatTwo_29 (lv_at hl 6 rfl) ?_
      refine lv_icmp_ge (tgt := 123) hx hb dX5_seatTwo_31 (by decide) (fun hc_31 => ?_) (fun hc_31 => ?_)
      · have hf := it_pos hc_31 hf
        refine lv_iload hx hb dX5_seatTwo_123 (lv_at hl 2 rfl) ?_
        refine lv_if_ne (tgt := 131) hx hb dX5_seatTwo_125 (by decide) (fun hc_125 => ?_) (fun hc_125 => ?_)
        · have hf := it_neg hc_125 hf
          refine lv_iload hx hb dX5_seatTwo_131 (lv_at hl 2 rfl) ?_
          refine lv_iconst (v := 1) hx hb dX5_seatTwo_133 (by decide) ?_
          refine lv_icmp_ne (tgt := 142) hx hb dX5_seatTwo_134 (by decide) (fun hc_134 => ?_) (fun hc_134 => ?_)
          · have hf := it_neg hc_134 hf
            refine lv_iload hx hb dX5_seatTwo_142 (lv_at hl 5 rfl) ?_
            obtain rfl := Option.some.inj hf
            exact hQ 144 ls trivial dX5_seatTwo_144
          · have hf := it_pos hc_134 hf
            refine lv_iload hx hb dX5_seatTwo_137 (lv_at hl 4 rfl) ?_
            refine lv_goto (tgt := 144) hx hb dX5_seatTwo_139 (by decide) ?_
            obtain rfl := Option.some.inj hf
            exact hQ 144 ls trivial dX5_seatTwo_144
        · have hf := it_pos hc_125 hf
          refine lv_iload hx hb dX5_seatTwo_128 (lv_at hl 3 rfl) ?_
          obtain rfl := Option.some.inj hf
          exact hQ 130 ls trivial dX5_seatTwo_130
      · have hf := it_neg hc_31 hf
        refine lv_iload hx hb dX5_seatTwo_34 (lv_at hl 7 rfl) ?_
        refine lv_iconst (v := 1) hx hb dX5_seatTwo_36 (by decide) ?_
        refine lv_iadd hx hb dX5_seatTwo_37 ?_
        have J_40 : ∀ (n_40 : Nat) (x3 : Int32) (x4 : Int32) (x5 : Int32) (x6 : Int32) (x7 : Int32) (x8 : Int32) (x9 : Int32) (x10 : Int32) (ls : Array Slot), f_X5_seatTwo_40 p1_guests (f_X5_seatTwo_27 p1_guests n_27) n_40 x3 x4 x5 x6 x7 x8 x9 x10 = some res → lv_has ls 11 [(1, .ref a_p1), (3, .int x3), (4, .int x4), (5, .int x5), (6, .int x6), (7, .int x7), (8, .int x8), (9, .int x9), (10, .int x10)] → W p l e R s m args below meth c s.heap [] 0 0 Q (F0 m 40 ls []) := by
          intro n_40
          induction n_40 with
          | zero =>
            intro x3 x4 x5 x6 x7 x8 x9 x10 ls hf hl
            cases hf
          | succ n_40 ih_40 =>
            intro x3 x4 x5 x6 x7 x8 x9 x10 ls hf hl
            unfold f_X5_seatTwo_40 at hf
            refine lv_iload hx hb dX5_seatTwo_40 (lv_at hl 8 rfl) ?_
            refine lv_iload hx hb dX5_seatTwo_42 (lv_at hl 6 rfl) ?_
            refine lv_icmp_ge (tgt := 117) hx hb dX5_seatTwo_44 (by decide) (fun hc_44 => ?_) (fun hc_44 => ?_)
            · have hf := it_pos hc_44 hf
              refine lv_iinc (v := x9 + 1) (lv' := [(9, .int (x9 + 1)), (1, .ref a_p1), (3, .int x3), (4, .int x4), (5, .int x5), (6, .int x6), (7, .int x7), (8, .int x8), (10, .int x10)]) hx hb dX5_seatTwo_117 hl (k := 7) rfl (congrArg (_ + ·) (by decide : Int32.ofInt 1 = 1)) (by decide) rfl (fun ls hl => ?_)
              refine lv_goto (tgt := 27) hx hb dX5_seatTwo_120 (by decide) ?_
              exact ih_27 _ _ _ _ _ _ _ _ hf (lv_sub hl [1, 2, 3, 4, 5, 6, 7, 0] rfl)
            · have hf := it_neg hc_44 hf
              refine lv_aload_n hx hb dX5_seatTwo_47 rfl (lv_at hl 0 rfl) ?_
              refine lv_iload hx hb dX5_seatTwo_48 (lv_at hl 7 rfl) ?_
              obtain ⟨z50, e50, hf⟩ := bd_some hf
              refine rV_RO (As := [.int x9]) (rest := []) ⟨hx, hb, hml, hown, hT⟩ (gdV tb_863 tb_685 tb_686 tb_88 tb_687) hd_X0_isTaken (c_X0_isTaken l D cI cB cZ a_p1 a_p1_guests a_p1_numbers a_p1_coats a_p1_line p1_waiting p1_arrived p1_standing p1_climbed p1_drawn p1_guests x9 z50 e50) ⟨rfl, rfl⟩ ⟨Nat.le_trans (by decide) hRf, Nat.le_trans (by decide) hRl⟩ ⟨hK, hN⟩ hP [0, 1] rfl 0 rfl rfl rfl hl.1 rfl (Nat.le_of_ble_eq_true rfl) ⟨Nat.zero_le _, Nat.zero_le _⟩ dX5_seatTwo_50 (fun hz_50 => ?_)
              refine lv_if_ne (tgt := 117) hx hb dX5_seatTwo_53 (by decide) (fun hc_53 => ?_) (fun hc_53 => ?_)
              · have hf := it_neg hc_53 hf
                refine lv_iinc (v := x9 + 1) (lv' := [(9, .int (x9 + 1)), (1, .ref a_p1), (3, .int x3), (4, .int x4), (5, .int x5), (6, .int x6), (7, .int x7), (8, .int x8), (10, .int x10)]) hx hb dX5_seatTwo_117 hl (k := 7) rfl (congrArg (_ + ·) (by decide : Int32.ofInt 1 = 1)) (by decide) rfl (fun ls hl => ?_)
                refine lv_goto (tgt := 27) hx hb dX5_seatTwo_120 (by decide) ?_
                exact ih_27 _ _ _ _ _ _ _ _ hf (lv_sub hl [1, 2, 3, 4, 5, 6, 7, 0] rfl)
              · have hf := it_pos hc_53 hf
                refine lv_aload_n hx hb dX5_seatTwo_56 rfl (lv_at hl 0 rfl) ?_
                refine lv_iload hx hb dX5_seatTwo_57 (lv_at hl 8 rfl) ?_
                obtain ⟨z59, e59, hf⟩ := bd_some hf
                refine rV_RO (As := [.int x10]) (rest := []) ⟨hx, hb, hml, hown, hT⟩ (gdV tb_863 tb_685 tb_686 tb_88 tb_687) hd_X0_isTaken (c_X0_isTaken l D cI cB cZ a_p1 a_p1_guests a_p1_numbers a_p1_coats a_p1_line p1_waiting p1_arrived p1_standing p1_climbed p1_drawn p1_guests x10 z59 e59) ⟨rfl, rfl⟩ ⟨Nat.le_trans (by decide) hRf, Nat.le_trans (by decide) hRl⟩ ⟨hK, hN⟩ hP [0, 1] rfl 0 rfl rfl rfl hl.1 rfl (Nat.le_of_ble_eq_true rfl) ⟨Nat.zero_le _, Nat.zero_le _⟩ dX5_seatTwo_59 (fun hz_59 => ?_)
                refine lv_if_ne (tgt := 111) hx hb dX5_seatTwo_62 (by decide) (fun hc_62 => ?_) (fun hc_62 => ?_)
                · have hf := it_neg hc_62 hf
                  refine lv_iinc (v := x10 + 1) (lv' := [(10, .int (x10 + 1)), (1, .ref a_p1), (3, .int x3), (4, .int x4), (5, .int x5), (6, .int x6), (7, .int x7), (8, .int x8), (9, .int x9)]) hx hb dX5_seatTwo_111 hl (k := 8) rfl (congrArg (_ + ·) (by decide : Int32.ofInt 1 = 1)) (by decide) rfl (fun ls hl => ?_)
                  refine lv_goto (tgt := 40) hx hb dX5_seatTwo_114 (by decide) ?_
                  exact ih_40 _ _ _ _ _ _ _ _ _ hf (lv_sub hl [1, 2, 3, 4, 5, 6, 7, 8, 0] rfl)
                · have hf := it_pos hc_62 hf
                  refine lv_iload hx hb dX5_seatTwo_65 (lv_at hl 8 rfl) ?_
                  refine lv_bipush (v := 9) hx hb dX5_seatTwo_67 (by decide) ?_
                  refine lv_idiv hx hb dX5_seatTwo_69 (by decide) ?_
                  refine lv_iload hx hb dX5_seatTwo_70 (lv_at hl 7 rfl) ?_
                  refine lv_bipush (v := 9) hx hb dX5_seatTwo_72 (by decide) ?_
                  refine lv_idiv hx hb dX5_seatTwo_74 (by decide) ?_
                  refine lv_isub hx hb dX5_seatTwo_75 ?_
                  refine lv_iload_n hx hb dX5_seatTwo_76 rfl (lv_at hl 1 rfl) ?_
                  refine lv_icmp_lt (tgt := 111) hx hb dX5_seatTwo_77 (by decide) (fun hc_77 => ?_) (fun hc_77 => ?_)
                  · have hf := it_pos hc_77 hf
                    refine lv_iinc (v := x10 + 1) (lv' := [(10, .int (x10 + 1)), (1, .ref a_p1), (3, .int x3), (4, .int x4), (5, .int x5), (6, .int x6), (7, .int x7), (8, .int x8), (9, .int x9)]) hx hb dX5_seatTwo_111 hl (k := 8) rfl (congrArg (_ + ·) (by decide : Int32.ofInt 1 = 1)) (by decide) rfl (fun ls hl => ?_)
                    refine lv_goto (tgt := 40) hx hb dX5_seatTwo_114 (by decide) ?_
                    exact ih_40 _ _ _ _ _ _ _ _ _ hf (lv_sub hl [1, 2, 3, 4, 5, 6, 7, 8, 0] rfl)
                  · have hf := it_neg hc_77 hf
                    refine lv_iload hx hb dX5_seatTwo_80 (lv_at hl 3 rfl) ?_
                    have J_92 : ∀ (x3 : Int32) (x4 : Int32) (x5 : Int32) (x7 : Int32) (x8 : Int32) (x9 : Int32) (x10 : Int32) (y0 : Int32) (ls : Array Slot), f_X5_seatTwo_92 p1_guests (f_X5_seatTwo_27 p1_guests n_27) (f_X5_seatTwo_40 p1_guests (f_X5_seatTwo_27 p1_guests n_27) n_40) x3 x4 x5 x7 x8 x9 x10 y0 = some res → lv_has ls 11 [(1, .ref a_p1), (3, .int x3), (4, .int x4), (5, .int x5), (7, .int x7), (8, .int x8), (9, .int x9), (10, .int x10)] → W p l e R s m args below meth c s.heap [] 0 0 Q (F0 m 92 ls [.int y0]) := by
                      intro x3 x4 x5 x7 x8 x9 x10 y0 ls hf hl
                      unfold f_X5_seatTwo_92 at hf
                      refine lv_istore (lv' := [(6, .int y0), (1, .ref a_p1), (3, .int x3), (4, .int x4), (5, .int x5), (7, .int x7), (8, .int x8), (9, .int x9), (10, .int x10)]) hx hb dX5_seatTwo_92 hl (by decide) rfl (fun ls hl => ?_)
                      refine lv_iload hx hb dX5_seatTwo_94 (lv_at hl 4 rfl) ?_
                      refine lv_if_ne (tgt := 104) hx hb dX5_seatTwo_96 (by decide) (fun hc_96 => ?_) (fun hc_96 => ?_)
                      · have hf := it_neg hc_96 hf
                        refine lv_iload hx hb dX5_seatTwo_104 (lv_at hl 5 rfl) ?_
                        refine lv_istore (lv' := [(7, .int x7), (6, .int y0), (1, .ref a_p1), (3, .int x3), (4, .int x4), (5, .int x5), (8, .int x8), (9, .int x9), (10, .int x10)]) hx hb dX5_seatTwo_106 hl (by decide) rfl (fun ls hl => ?_)
                        refine lv_iinc (v := x5 + 1) (lv' := [(5, .int (x5 + 1)), (7, .int x7), (6, .int y0), (1, .ref a_p1), (3, .int x3), (4, .int x4), (8, .int x8), (9, .int x9), (10, .int x10)]) hx hb dX5_seatTwo_108 hl (k := 5) rfl (congrArg (_ + ·) (by decide : Int32.ofInt 1 = 1)) (by decide) rfl (fun ls hl => ?_)
                        refine lv_iinc (v := x10 + 1) (lv' := [(10, .int (x10 + 1)), (5, .int (x5 + 1)), (7, .int x7), (6, .int y0), (1, .ref a_p1), (3, .int x3), (4, .int x4), (8, .int x8), (9, .int x9)]) hx hb dX5_seatTwo_111 hl (k := 8) rfl (congrArg (_ + ·) (by decide : Int32.ofInt 1 = 1)) (by decide) rfl (fun ls hl => ?_)
                        refine lv_goto (tgt := 40) hx hb dX5_seatTwo_114 (by decide) ?_
                        exact ih_40 _ _ _ _ _ _ _ _ _ hf (lv_sub hl [4, 5, 6, 1, 3, 2, 7, 8, 0] rfl)
                      · have hf := it_pos hc_96 hf
                        refine lv_iload hx hb dX5_seatTwo_99 (lv_at hl 8 rfl) ?_
                        refine lv_goto (tgt := 106) hx hb dX5_seatTwo_101 (by decide) ?_
                        refine lv_istore (lv' := [(7, .int x10), (6, .int y0), (1, .ref a_p1), (3, .int x3), (4, .int x4), (5, .int x5), (8, .int x8), (9, .int x9), (10, .int x10)]) hx hb dX5_seatTwo_106 hl (by decide) rfl (fun ls hl => ?_)
                        refine lv_iinc (v := x5 + 1) (lv' := [(5, .int (x5 + 1)), (7, .int x10), (6, .int y0), (1, .ref a_p1), (3, .int x3), (4, .int x4), (8, .int x8), (9, .int x9), (10, .int x10)]) hx hb dX5_seatTwo_108 hl (k := 5) rfl (congrArg (_ + ·) (by decide : Int32.ofInt 1 = 1)) (by decide) rfl (fun ls hl => ?_)
                        refine lv_iinc (v := x10 + 1) (lv' := [(10, .int (x10 + 1)), (5, .int (x5 + 1)), (7, .int x10), (6, .int y0), (1, .ref a_p1), (3, .int x3), (4, .int x4), (8, .int x8), (9, .int x9)]) hx hb dX5_seatTwo_111 hl (k := 8) rfl (congrArg (_ + ·) (by decide : Int32.ofInt 1 = 1)) (by decide) rfl (fun ls hl => ?_)
                        refine lv_goto (tgt := 40) hx hb dX5_seatTwo_114 (by decide) ?_
                        exact ih_40 _ _ _ _ _ _ _ _ _ hf (lv_sub hl [4, 5, 6, 1, 3, 2, 7, 8, 0] rfl)
                    refine lv_if_ne (tgt := 90) hx hb dX5_seatTwo_82 (by decide) (fun hc_82 => ?_) (fun hc_82 => ?_)
                    · have hf := it_neg hc_82 hf
                      refine lv_iload hx hb dX5_seatTwo_90 (lv_at hl 4 rfl) ?_
                      exact J_92 _ _ _ _ _ _ _ _ _ hf (lv_sub hl [0, 1, 2, 3, 5, 6, 7, 8] rfl)
                    · have hf := it_pos hc_82 hf
                      refine lv_iload hx hb dX5_seatTwo_85 (lv_at hl 7 rfl) ?_
                      refine lv_goto (tgt := 92) hx hb dX5_seatTwo_87 (by decide) ?_
                      exact J_92 _ _ _ _ _ _ _ _ _ hf (lv_sub hl [0, 1, 2, 3, 5, 6, 7, 8] rfl)
        refine lv_istore (lv' := [(10, .int (x9 + 1)), (1, .ref a_p1), (3, .int x3), (4, .int x4), (5, .int x5), (6, .int x6), (7, .int x7), (8, .int x8), (9, .int x9)]) hx hb dX5_seatTwo_38 hl (by decide) rfl (fun ls hl => ?_)
        exact J_40 _ _ _ _ _ _ _ _ _ _ hf (lv_sub hl [1, 2, 3, 4, 5, 6, 7, 8, 0] rfl)
  refine lv_istore (lv' := [(9, .int (((x2 * 72) + 72) - 72)), (8, .int ((x2 * 72) + 72)), (7, .int (-2)), (6, .int (-2)), (5, .int 0), (0, .ref a_t), (1, .ref a_p1), (2, .int x2), (3, .int x3), (4, .int x4)]) hx hb dX5_seatTwo_25 hl (by decide) rfl (fun ls hl => ?_)
  exact J_27 _ _ _ _ _ _ _ _ _ hf (lv_sub hl [6, 8, 9, 4, 3, 2, 1, 0] rfl)
theorem hd_X5_seatTwo : (yX5_seatTwo).cls = RX5 ∧ (yX5_seatTwo).cls ≠ "java/lang/invoke/MethodHandle" ∧ (yX5_seatTwo).cls ≠ "java/lang/invoke/VarHandle" ∧ (parseMethodDescriptor (yX5_seatTwo).desc).map (fun d => d.parameters.length) = some 4 := by decide +kernel
theorem c_X5_seatTwo (l : Launch) (D : va_G) (cI cB cZ : ClassId) (a_p1 : Nat) (a_p1_guests : Nat) (a_p1_numbers : Nat) (a_p1_coats : Nat) (a_p1_line : Nat) (a_t : Nat) (p1_waiting : Int32) (p1_arrived : Int32) (p1_standing : Int32) (p1_climbed : Int32) (p1_drawn : Int32) (p1_guests : (Nat → Int32)) (x2 : Int32) (x3 : Int32) (x4 : Int32) (res : Int32) (hf : f_X5_seatTwo p1_guests x2 x3 x4 = some res) : Met l yX5_seatTwo (.code yX5_seatTwo cX5_seatTwo 11 (some .int) :: TB) (rmk (2) (42)) (pRO [.ref a_t, .ref a_p1, .int x2, .int x3, .int x4] D cI cB cZ (w_X5_seatTwo cI cB cZ a_p1 a_p1_guests a_p1_numbers a_p1_coats a_p1_line a_t p1_waiting p1_arrived p1_standing p1_climbed p1_drawn p1_guests)) (qRO (some (.int res)) True) 0 0 (fun _ => False) :=
  mkRO (by decide +kernel) (Nat.le_of_ble_eq_true rfl) (fun p e s m below meth c ls S hr hlk hK hP hl => b_X5_seatTwo S.1 S.2.1 S.2.2.1 S.2.2.2.1 S.2.2.2.2 (Nat.le_refl _) (Nat.le_refl _) hK.1 hK.2 a_p1 a_p1_guests a_p1_numbers a_p1_coats a_p1_line a_t p1_waiting p1_arrived p1_standing p1_climbed p1_drawn p1_guests x2 x3 x4 res hf hP (fun pc ls hE hd => eRO_i S.1 S.2.1 hr rfl hlk hE hd) ls hl)
def f_X5_middleRow_4 (t_singersByRow : (Nat → Int32)) : Nat → Int32 → Int32 → Int32 → Option (Int32)
  | 0, _, _, _ => none
  | n + 1, x1, x2, x3 => (if 8 ≤ x3 then some (7) else ix 8 x3 ((if (2 * (x2 + (t_singersByRow x3.toNatClampNeg))) < x1 then (f_X5_middleRow_4 t_singersByRow n) x1 (x2 + (t_singersByRow x3.toNatClampNeg)) (x3 + 1) else some (x3))))
def f_X5_middleRow (t_singersByRow : (Nat → Int32)) (x1 : Int32) : Option (Int32) := f_X5_middleRow_4 t_singersByRow FU x1 0 0
def w_X5_middleRow (cI cB cZ : ClassId) (a_t : Nat) (a_t_singersByRow : Nat) (a_t_most : Nat) (a_t_mostBefore : Nat) (t_singersByRow : (Nat → Int32)) : va_W := [(a_t, .inr (4, [.ref a_t_singersByRow, .ref a_t_most, .ref a_t_mostBefore])), (a_t_singersByRow, .inl (cI, 8, .inl t_singersByRow))]
set_option maxHeartbeats 4000000 in
set_option maxRecDepth 100000 in
theorem b_X5_middleRow {p : Program} {l : Launch} {e : Env} {R : Room} {s : State} {m : MethodId} {args : Array Value} {below : List Frame} {meth : Method} {c : Code} {Q : State → Prop} {D : va_G} {cI cB cZ : ClassId} (hx : p.tables.exec = Jvm.exec) (hb : c.code = cX5_middleRow) (hml : c.maxLocals = 4) (hown : s.vm.findClass RX5 = some m.cls) (hT : ∀ w ∈ TB, w.before args s = true) (hRf : (0) ≤ R.frames) (hRl : (0) ≤ R.locals) (hK : va_K D vwCl (tyL cI cB cZ) s) (hN : NW s)  (a_t : Nat) (a_t_singersByRow : Nat) (a_t_most : Nat) (a_t_mostBefore : Nat) (t_singersByRow : (Nat → Int32)) (x1 : Int32) (res : Int32) (hf : f_X5_middleRow t_singersByRow x1 = some res) (hP : va_P D vwCl (w_X5_middleRow cI cB cZ a_t a_t_singersByRow a_t_most a_t_mostBefore t_singersByRow) s.heap) (hQ : ∀ (pc : Nat) (ls : Array Slot), True → decode cX5_middleRow pc = .ok (.ireturn, 1) → W p l e R s m args below meth c s.heap [] 0 0 Q (F0 m pc ls [.int res])) (ls : Array Slot) (hl : lv_has ls 4 [(0, .ref a_t), (1, .int x1)]) : W p l e R s m args below meth c s.heap [] 0 0 Q (F0 m 0 ls []) := by
  unfold f_X5_middleRow at hf
  refine lv_iconst (v := 0) hx hb dX5_middleRow_0 (by decide) ?_
  refine lv_istore_n (lv' := [(2, .int 0), (0, .ref a_t), (1, .int x1)]) hx hb dX5_middleRow_1 rfl hl (by decide) rfl (fun ls hl => ?_)
  refine lv_iconst (v := 0) hx hb dX5_middleRow_2 (by decide) ?_
  have J_4 : ∀ (n_4 : Nat) (x1 : Int32) (x2 : Int32) (x3 : Int32) (ls : Array Slot), f_X5_middleRow_4 t_singersByRow n_4 x1 x2 x3 = some res → lv_has ls 4 [(0, .ref a_t), (1, .int x1), (2, .int x2), (3, .int x3)] → W p l e R s m args below meth c s.heap [] 0 0 Q (F0 m 4 ls []) := by
    intro n_4
    induction n_4 with
    | zero =>
      intro x1 x2 x3 ls hf hl
      cases hf
    | succ n_4 ih_4 =>
      intro x1 x2 x3 ls hf hl
      unfold f_X5_middleRow_4 at hf
      refine lv_iload_n hx hb dX5_middleRow_4 rfl (lv_at hl 3 rfl) ?_
      refine lv_bipush (v := 8) hx hb dX5_middleRow_5 (by decide) ?_
      refine lv_icmp_ge (tgt := 34) hx hb dX5_middleRow_7 (by decide) (fun hc_7 => ?_) (fun hc_7 => ?_)
      · have hf := it_pos hc_7 hf
        refine lv_bipush (v := 7) hx hb dX5_middleRow_34 (by decide) ?_
        obtain rfl := Option.some.inj hf
        exact hQ 36 ls trivial dX5_middleRow_36
      · have hf := it_neg hc_7 hf
        refine lv_iload_n hx hb dX5_middleRow_10 rfl (lv_at hl 2 rfl) ?_
        refine lv_aload_n hx hb dX5_middleRow_11 rfl (lv_at hl 0 rfl) ?_
        refine va_get (D := D) (ci := 4) (v := .ref a_t_singersByRow) (C := RX5) (T := TX5) (N := 3) hx hb hT inX5 hown hK hP 0 rfl rfl 0 (by decide) (hT _ tb_272) (fun _ h9 => h9) rfl dX5_middleRow_12 ?_
        refine lv_iload_n hx hb dX5_middleRow_15 rfl (lv_at hl 3 rfl) ?_
        obtain ⟨hi_16, hf⟩ := ix_some hf
        refine va_iald hx hb hK hP 1 0 rfl rfl hi_16 dX5_middleRow_16 ?_
        refine lv_iadd hx hb dX5_middleRow_17 ?_
        refine lv_istore_n (lv' := [(2, .int (x2 + (t_singersByRow x3.toNatClampNeg))), (0, .ref a_t), (1, .int x1), (3, .int x3)]) hx hb dX5_middleRow_18 rfl hl (by decide) rfl (fun ls hl => ?_)
        refine lv_iconst (v := 2) hx hb dX5_middleRow_19 (by decide) ?_
        refine lv_iload_n hx hb dX5_middleRow_20 rfl (lv_at hl 0 rfl) ?_
        refine lv_imul hx hb dX5_middleRow_21 ?_
        refine lv_iload_n hx hb dX5_middleRow_22 rfl (lv_at hl 2 rfl) ?_
        refine lv_icmp_lt (tgt := 28) hx hb dX5_middleRow_23 (by decide) (fun hc_23 => ?_) (fun hc_23 => ?_)
        · have hf := it_pos hc_23 hf
          refine lv_iinc (v := x3 + 1) (lv' := [(3, .int (x3 + 1)), (2, .int (x2 + (t_singersByRow x3.toNatClampNeg))), (0, .ref a_t), (1, .int x1)]) hx hb dX5_middleRow_28 hl (k := 3) rfl (congrArg (_ + ·) (by decide : Int32.ofInt 1 = 1)) (by decide) rfl (fun ls hl => ?_)
          refine lv_goto (tgt := 4) hx hb dX5_middleRow_31 (by decide) ?_
          exact ih_4 _ _ _ _ hf (lv_sub hl [2, 3, 1, 0] rfl)
        · have hf := it_neg hc_23 hf
          refine lv_iload_n hx hb dX5_middleRow_26 rfl (lv_at hl 3 rfl) ?_
          obtain rfl := Option.some.inj hf
          exact hQ 27 ls trivial dX5_middleRow_27
  refine lv_istore_n (lv' := [(3, .int 0), (2, .int 0), (0, .ref a_t), (1, .int x1)]) hx hb dX5_middleRow_3 rfl hl (by decide) rfl (fun ls hl => ?_)
  exact J_4 _ _ _ _ _ hf (lv_sub hl [2, 3, 1, 0] rfl)
theorem hd_X5_middleRow : (yX5_middleRow).cls = RX5 ∧ (yX5_middleRow).cls ≠ "java/lang/invoke/MethodHandle" ∧ (yX5_middleRow).cls ≠ "java/lang/invoke/VarHandle" ∧ (parseMethodDescriptor (yX5_middleRow).desc).map (fun d => d.parameters.length) = some 1 := by decide +kernel
theorem c_X5_middleRow (l : Launch) (D : va_G) (cI cB cZ : ClassId) (a_t : Nat) (a_t_singersByRow : Nat) (a_t_most : Nat) (a_t_mostBefore : Nat) (t_singersByRow : (Nat → Int32)) (x1 : Int32) (res : Int32) (hf : f_X5_middleRow t_singersByRow x1 = some res) : Met l yX5_middleRow (.code yX5_middleRow cX5_middleRow 4 (some .int) :: TB) (rmk (0) (0)) (pRO [.ref a_t, .int x1] D cI cB cZ (w_X5_middleRow cI cB cZ a_t a_t_singersByRow a_t_most a_t_mostBefore t_singersByRow)) (qRO (some (.int res)) True) 0 0 (fun _ => False) :=
  mkRO (by decide +kernel) (Nat.le_of_ble_eq_true rfl) (fun p e s m below meth c ls S hr hlk hK hP hl => b_X5_middleRow S.1 S.2.1 S.2.2.1 S.2.2.2.1 S.2.2.2.2 (Nat.le_refl _) (Nat.le_refl _) hK.1 hK.2 a_t a_t_singersByRow a_t_most a_t_mostBefore t_singersByRow x1 res hf hP (fun pc ls hE hd => eRO_i S.1 S.2.1 hr rfl hlk hE hd) ls hl)
def f_X5_fillSingersByRow_12 (p1_guests : (Nat → Int32)) : Nat → Int32 → Int32 → (Nat → Int32) → Option (Int32 × (Nat → Int32))
  | 0, _, _, _ => none
  | n + 1, x2, x3, t_singersByRow => (if 144 ≤ x3 then some (x2, t_singersByRow) else (f_X0_isTaken p1_guests x3).bind (fun z21 => (if z21 = 0 then (f_X5_fillSingersByRow_12 p1_guests n) x2 (x3 + 1) t_singersByRow else (f_X0_guestOn p1_guests x3).bind (fun z29 => (f_X1_singerOf z29).bind (fun z32 => (if z32 = 1 then ix 8 (jrem (x3 / 9) 8) (ix 8 (jrem (x3 / 9) 8) ((f_X5_fillSingersByRow_12 p1_guests n) (x2 + 1) (x3 + 1) (upd t_singersByRow (jrem (x3 / 9) 8).toNatClampNeg ((t_singersByRow (jrem (x3 / 9) 8).toNatClampNeg) + 1)))) else (f_X5_fillSingersByRow_12 p1_guests n) x2 (x3 + 1) t_singersByRow))))))
def f_X5_fillSingersByRow (t_singersByRow : (Nat → Int32)) (p1_guests : (Nat → Int32)) : Option (Int32 × (Nat → Int32)) := (f_J7_fill_53178 8 t_singersByRow 0).bind (fun z7 => f_X5_fillSingersByRow_12 p1_guests FU 0 0 z7)
def w_X5_fillSingersByRow (cI cB cZ : ClassId) (a_t : Nat) (a_t_singersByRow : Nat) (a_p1 : Nat) (a_p1_guests : Nat) (a_t_most : Nat) (a_t_mostBefore : Nat) (a_p1_numbers : Nat) (a_p1_coats : Nat) (a_p1_line : Nat) (t_singersByRow : (Nat → Int32)) (p1_waiting : Int32) (p1_arrived : Int32) (p1_standing : Int32) (p1_climbed : Int32) (p1_drawn : Int32) (p1_guests : (Nat → Int32)) : va_W := [(a_t, .inr (4, [.ref a_t_singersByRow, .ref a_t_most, .ref a_t_mostBefore])), (a_t_singersByRow, .inl (cI, 8, .inl t_singersByRow)), (a_p1, .inr (0, [.ref a_p1_guests, .ref a_p1_numbers, .ref a_p1_coats, .ref a_p1_line, .int p1_waiting, .int p1_arrived, .int p1_standing, .int p1_climbed, .int p1_drawn])), (a_p1_guests, .inl (cI, 144, .inl p1_guests))]
set_option maxHeartbeats 4000000 in
set_option maxRecDepth 100000 in
theorem b_X5_fillSingersByRow {p : Program} {l : Launch} {e : Env} {R : Room} {s : State} {m : MethodId} {args : Array Value} {below : List Frame} {meth : Method} {c : Code} {Q : State → Prop} {D : va_G} {cI cB cZ : ClassId} (hx : p.tables.exec = Jvm.exec) (hb : c.code = cX5_fillSingersByRow) (hml : c.maxLocals = 4) (hown : s.vm.findClass RX5 = some m.cls) (hT : ∀ w ∈ TB, w.before args s = true) (hRf : (2) ≤ R.frames) (hRl : (42) ≤ R.locals) (hK : va_K D vwCl (tyL cI cB cZ) s) (hN : NW s) {A : Nat → Prop} (hA : ∀ q : Nat, s.heap.size ≤ q → A q) (H : Heap) (locs : List Loc)  (a_t : Nat) (a_t_singersByRow : Nat) (a_p1 : Nat) (a_p1_guests : Nat) (a_t_most : Nat) (a_t_mostBefore : Nat) (a_p1_numbers : Nat) (a_p1_coats : Nat) (a_p1_line : Nat) (t_singersByRow : (Nat → Int32)) (p1_waiting : Int32) (p1_arrived : Int32) (p1_standing : Int32) (p1_climbed : Int32) (p1_drawn : Int32) (p1_guests : (Nat → Int32)) (res : Int32 × (Nat → Int32)) (hf : f_X5_fillSingersByRow t_singersByRow p1_guests = some res) (hP : va_P D vwCl (w_X5_fillSingersByRow cI cB cZ a_t a_t_singersByRow a_p1 a_p1_guests a_t_most a_t_mostBefore a_p1_numbers a_p1_coats a_p1_line t_singersByRow p1_waiting p1_arrived p1_standing p1_climbed p1_drawn p1_guests) H) (hD : va_D A (w_X5_fillSingersByRow cI cB cZ a_t a_t_singersByRow a_p1 a_p1_guests a_t_most a_t_mostBefore a_p1_numbers a_p1_coats a_p1_line t_singersByRow p1_waiting p1_arrived p1_standing p1_climbed p1_drawn p1_guests)) (hS : va_S A s.heap H locs) (hQ : ∀ (H : Heap) (locs : List Loc) (pc : Nat) (ls : Array Slot), va_P D vwCl (w_X5_fillSingersByRow cI cB cZ a_t a_t_singersByRow a_p1 a_p1_guests a_t_most a_t_mostBefore a_p1_numbers a_p1_coats a_p1_line res.2 p1_waiting p1_arrived p1_standing p1_climbed p1_drawn p1_guests) H → va_D A (w_X5_fillSingersByRow cI cB cZ a_t a_t_singersByRow a_p1 a_p1_guests a_t_most a_t_mostBefore a_p1_numbers a_p1_coats a_p1_line res.2 p1_waiting p1_arrived p1_standing p1_climbed p1_drawn p1_guests) → va_S A s.heap H locs → True → decode cX5_fillSingersByRow pc = .ok (.ireturn, 1) → W p l e R s m args below meth c H locs 0 0 Q (F0 m pc ls [.int res.1])) (ls : Array Slot) (hl : lv_has ls 4 [(0, .ref a_t), (1, .ref a_p1)]) : W p l e R s m args below meth c H locs 0 0 Q (F0 m 0 ls []) := by
  unfold f_X5_fillSingersByRow at hf
  refine lv_iconst (v := 0) hx hb dX5_fillSingersByRow_0 (by decide) ?_
  refine lv_istore_n (lv' := [(2, .int 0), (0, .ref a_t), (1, .ref a_p1)]) hx hb dX5_fillSingersByRow_1 rfl hl (by decide) rfl (fun ls hl => ?_)
  refine lv_aload_n hx hb dX5_fillSingersByRow_2 rfl (lv_at hl 1 rfl) ?_
  refine va_get (D := D) (ci := 4) (v := .ref a_t_singersByRow) (C := RX5) (T := TX5) (N := 3) hx hb hT inX5 hown hK hP 0 rfl rfl 0 (by decide) (hT _ tb_272) (fun _ h9 => h9) rfl dX5_fillSingersByRow_3 ?_
  refine lv_iconst (v := 0) hx hb dX5_fillSingersByRow_6 (by decide) ?_
  obtain ⟨z7, e7, hf⟩ := bd_some hf
  refine rS_RW (As := [.ref a_t_singersByRow, .int 0]) (rest := []) (w2 := (w_X5_fillSingersByRow cI cB cZ a_t a_t_singersByRow a_p1 a_p1_guests a_t_most a_t_mostBefore a_p1_numbers a_p1_coats a_p1_line z7 p1_waiting p1_arrived p1_standing p1_climbed p1_drawn p1_guests)) ⟨hx, hb, hml, hown, hT⟩ (gdS tb_1002 tb_167 tb_89 tb_168) hd_J7_fill_53178 (c_J7_fill_53178 l D cI cB cZ 8 a_t_singersByRow t_singersByRow 0 H.size z7 e7) ⟨rfl, rfl⟩ ⟨Nat.le_trans (by decide) hRf, Nat.le_trans (by decide) hRl⟩ ⟨hK, hN⟩ hA hP hD hS [1] [0, 2, 3] rfl (by decide) (wr := [_, _, _]) rfl (by decide) (by decide) [0, 3, 1, 2] rfl (by decide) rfl hl.1 rfl (Nat.le_of_ble_eq_true rfl) ⟨Nat.zero_le _, Nat.zero_le _⟩ dX5_fillSingersByRow_7 (fun H locs hP hD hS _ => ?_)
  refine lv_iconst (v := 0) hx hb dX5_fillSingersByRow_10 (by decide) ?_
  have J_12 : ∀ (n_12 : Nat) (x2 : Int32) (x3 : Int32) (t_singersByRow : (Nat → Int32)) (H : Heap) (locs : List Loc) (ls : Array Slot), f_X5_fillSingersByRow_12 p1_guests n_12 x2 x3 t_singersByRow = some res → va_P D vwCl (w_X5_fillSingersByRow cI cB cZ a_t a_t_singersByRow a_p1 a_p1_guests a_t_most a_t_mostBefore a_p1_numbers a_p1_coats a_p1_line t_singersByRow p1_waiting p1_arrived p1_standing p1_climbed p1_drawn p1_guests) H → va_D A (w_X5_fillSingersByRow cI cB cZ a_t a_t_singersByRow a_p1 a_p1_guests a_t_most a_t_mostBefore a_p1_numbers a_p1_coats a_p1_line t_singersByRow p1_waiting p1_arrived p1_standing p1_climbed p1_drawn p1_guests) → va_S A s.heap H locs → lv_has ls 4 [(0, .ref a_t), (1, .ref a_p1), (2, .int x2), (3, .int x3)] → W p l e R s m args below meth c H locs 0 0 Q (F0 m 12 ls []) := by
    intro n_12
    induction n_12 with
    | zero =>
      intro x2 x3 t_singersByRow H locs ls hf hP hD hS hl
      cases hf
    | succ n_12 ih_12 =>
      intro x2 x3 t_singersByRow H locs ls hf hP hD hS hl
      unfold f_X5_fillSingersByRow_12 at hf
      refine lv_iload_n hx hb dX5_fillSingersByRow_12 rfl (lv_at hl 3 rfl) ?_
      refine lv_sipush (v := 144) hx hb dX5_fillSingersByRow_13 (by decide) ?_
      refine lv_icmp_ge (tgt := 64) hx hb dX5_fillSingersByRow_16 (by decide) (fun hc_16 => ?_) (fun hc_16 => ?_)
      · have hf := it_pos hc_16 hf
        refine lv_iload_n hx hb dX5_fillSingersByRow_64 rfl (lv_at hl 2 rfl) ?_
        obtain rfl := Option.some.inj hf
        exact hQ H locs 65 ls hP hD hS trivial dX5_fillSingersByRow_65
      · have hf := it_neg hc_16 hf
        refine lv_aload_n hx hb dX5_fillSingersByRow_19 rfl (lv_at hl 1 rfl) ?_
        refine lv_iload_n hx hb dX5_fillSingersByRow_20 rfl (lv_at hl 3 rfl) ?_
        obtain ⟨z21, e21, hf⟩ := bd_some hf
        refine rV_RO (As := [.int x3]) (rest := []) ⟨hx, hb, hml, hown, hT⟩ (gdV tb_863 tb_685 tb_686 tb_88 tb_687) hd_X0_isTaken (c_X0_isTaken l D cI cB cZ a_p1 a_p1_guests a_p1_numbers a_p1_coats a_p1_line p1_waiting p1_arrived p1_standing p1_climbed p1_drawn p1_guests x3 z21 e21) ⟨rfl, rfl⟩ ⟨Nat.le_trans (by decide) hRf, Nat.le_trans (by decide) hRl⟩ ⟨hK, hN⟩ hP [2, 3] rfl 2 rfl rfl rfl hl.1 rfl (Nat.le_of_ble_eq_true rfl) ⟨Nat.zero_le _, Nat.zero_le _⟩ dX5_fillSingersByRow_21 (fun hz_21 => ?_)
        refine lv_if_eq (tgt := 58) hx hb dX5_fillSingersByRow_24 (by decide) (fun hc_24 => ?_) (fun hc_24 => ?_)
        · have hf := it_pos hc_24 hf
          refine lv_iinc (v := x3 + 1) (lv' := [(3, .int (x3 + 1)), (0, .ref a_t), (1, .ref a_p1), (2, .int x2)]) hx hb dX5_fillSingersByRow_58 hl (k := 3) rfl (congrArg (_ + ·) (by decide : Int32.ofInt 1 = 1)) (by decide) rfl (fun ls hl => ?_)
          refine lv_goto (tgt := 12) hx hb dX5_fillSingersByRow_61 (by decide) ?_
          exact ih_12 _ _ _ _ _ _ hf hP hD hS (lv_sub hl [1, 2, 3, 0] rfl)
        · have hf := it_neg hc_24 hf
          refine lv_aload_n hx hb dX5_fillSingersByRow_27 rfl (lv_at hl 1 rfl) ?_
          refine lv_iload_n hx hb dX5_fillSingersByRow_28 rfl (lv_at hl 3 rfl) ?_
          obtain ⟨z29, e29, hf⟩ := bd_some hf
          refine rV_RO (As := [.int x3]) (rest := []) ⟨hx, hb, hml, hown, hT⟩ (gdV tb_847 tb_689 tb_690 tb_88 tb_691) hd_X0_guestOn (c_X0_guestOn l D cI cB cZ a_p1 a_p1_guests a_p1_numbers a_p1_coats a_p1_line p1_waiting p1_arrived p1_standing p1_climbed p1_drawn p1_guests x3 z29 e29) ⟨rfl, rfl⟩ ⟨Nat.le_trans (by decide) hRf, Nat.le_trans (by decide) hRl⟩ ⟨hK, hN⟩ hP [2, 3] rfl 2 rfl rfl rfl hl.1 rfl (Nat.le_of_ble_eq_true rfl) ⟨Nat.zero_le _, Nat.zero_le _⟩ dX5_fillSingersByRow_29 (fun _ => ?_)
          obtain ⟨z32, e32, hf⟩ := bd_some hf
          refine rS_RO (As := [.int z29]) (rest := []) ⟨hx, hb, hml, hown, hT⟩ (gdS tb_1003 tb_735 tb_104 tb_736) hd_X1_singerOf (c_X1_singerOf l D cI cB cZ z29 z32 e32) ⟨rfl, rfl⟩ ⟨Nat.le_trans (by decide) hRf, Nat.le_trans (by decide) hRl⟩ ⟨hK, hN⟩ hP [] rfl rfl hl.1 rfl (Nat.le_of_ble_eq_true rfl) ⟨Nat.zero_le _, Nat.zero_le _⟩ dX5_fillSingersByRow_32 (fun _ => ?_)
          refine lv_iconst (v := 1) hx hb dX5_fillSingersByRow_35 (by decide) ?_
          refine lv_icmp_ne (tgt := 58) hx hb dX5_fillSingersByRow_36 (by decide) (fun hc_36 => ?_) (fun hc_36 => ?_)
          · have hf := it_neg hc_36 hf
            refine lv_iinc (v := x3 + 1) (lv' := [(3, .int (x3 + 1)), (0, .ref a_t), (1, .ref a_p1), (2, .int x2)]) hx hb dX5_fillSingersByRow_58 hl (k := 3) rfl (congrArg (_ + ·) (by decide : Int32.ofInt 1 = 1)) (by decide) rfl (fun ls hl => ?_)
            refine lv_goto (tgt := 12) hx hb dX5_fillSingersByRow_61 (by decide) ?_
            exact ih_12 _ _ _ _ _ _ hf hP hD hS (lv_sub hl [1, 2, 3, 0] rfl)
          · have hf := it_pos hc_36 hf
            refine lv_aload_n hx hb dX5_fillSingersByRow_39 rfl (lv_at hl 0 rfl) ?_
            refine va_get (D := D) (ci := 4) (v := .ref a_t_singersByRow) (C := RX5) (T := TX5) (N := 3) hx hb hT inX5 hown hK hP 0 rfl rfl 0 (by decide) (hT _ tb_272) (fun _ h9 => h9) rfl dX5_fillSingersByRow_40 ?_
            refine lv_iload_n hx hb dX5_fillSingersByRow_43 rfl (lv_at hl 3 rfl) ?_
            refine lv_bipush (v := 9) hx hb dX5_fillSingersByRow_44 (by decide) ?_
            refine lv_idiv hx hb dX5_fillSingersByRow_46 (by decide) ?_
            refine lv_bipush (v := 8) hx hb dX5_fillSingersByRow_47 (by decide) ?_
            refine lv_irem hx hb dX5_fillSingersByRow_49 (by decide) ?_
            refine lv_dup2_11 hx hb dX5_fillSingersByRow_50 rfl rfl ?_
            obtain ⟨hi_51, hf⟩ := ix_some hf
            refine va_iald hx hb hK hP 1 0 rfl rfl hi_51 dX5_fillSingersByRow_51 ?_
            refine lv_iconst (v := 1) hx hb dX5_fillSingersByRow_52 (by decide) ?_
            refine lv_iadd hx hb dX5_fillSingersByRow_53 ?_
            obtain ⟨hi_54, hf⟩ := ix_some hf
            refine va_iast hx hb hK hP hD hS 1 0 rfl rfl hi_54 dX5_fillSingersByRow_54 (fun H locs hP hD hS => ?_)
            have hP : va_P D vwCl (w_X5_fillSingersByRow cI cB cZ a_t a_t_singersByRow a_p1 a_p1_guests a_t_most a_t_mostBefore a_p1_numbers a_p1_coats a_p1_line (upd t_singersByRow (jrem (x3 / 9) 8).toNatClampNeg ((t_singersByRow (jrem (x3 / 9) 8).toNatClampNeg) + 1)) p1_waiting p1_arrived p1_standing p1_climbed p1_drawn p1_guests) H := hP
            have hD : va_D A (w_X5_fillSingersByRow cI cB cZ a_t a_t_singersByRow a_p1 a_p1_guests a_t_most a_t_mostBefore a_p1_numbers a_p1_coats a_p1_line (upd t_singersByRow (jrem (x3 / 9) 8).toNatClampNeg ((t_singersByRow (jrem (x3 / 9) 8).toNatClampNeg) + 1)) p1_waiting p1_arrived p1_standing p1_climbed p1_drawn p1_guests) := hD
            refine lv_iinc (v := x2 + 1) (lv' := [(2, .int (x2 + 1)), (0, .ref a_t), (1, .ref a_p1), (3, .int x3)]) hx hb dX5_fillSingersByRow_55 hl (k := 2) rfl (congrArg (_ + ·) (by decide : Int32.ofInt 1 = 1)) (by decide) rfl (fun ls hl => ?_)
            refine lv_iinc (v := x3 + 1) (lv' := [(3, .int (x3 + 1)), (2, .int (x2 + 1)), (0, .ref a_t), (1, .ref a_p1)]) hx hb dX5_fillSingersByRow_58 hl (k := 3) rfl (congrArg (_ + ·) (by decide : Int32.ofInt 1 = 1)) (by decide) rfl (fun ls hl => ?_)
            refine lv_goto (tgt := 12) hx hb dX5_fillSingersByRow_61 (by decide) ?_
            exact ih_12 _ _ _ _ _ _ hf hP hD hS (lv_sub hl [2, 3, 1, 0] rfl)
  refine lv_istore_n (lv' := [(3, .int 0), (2, .int 0), (0, .ref a_t), (1, .ref a_p1)]) hx hb dX5_fillSingersByRow_11 rfl hl (by decide) rfl (fun ls hl => ?_)
  exact J_12 _ _ _ _ _ _ _ hf hP hD hS (lv_sub hl [2, 3, 1, 0] rfl)
theorem hd_X5_fillSingersByRow : (yX5_fillSingersByRow).cls = RX5 ∧ (yX5_fillSingersByRow).cls ≠ "java/lang/invoke/MethodHandle" ∧ (yX5_fillSingersByRow).cls ≠ "java/lang/invoke/VarHandle" ∧ (parseMethodDescriptor (yX5_fillSingersByRow).desc).map (fun d => d.parameters.length) = some 1 := by decide +kernel
theorem c_X5_fillSingersByRow (l : Launch) (D : va_G) (cI cB cZ : ClassId) (a_t : Nat) (a_t_singersByRow : Nat) (a_p1 : Nat) (a_p1_guests : Nat) (a_t_most : Nat) (a_t_mostBefore : Nat) (a_p1_numbers : Nat) (a_p1_coats : Nat) (a_p1_line : Nat) (t_singersByRow : (Nat → Int32)) (p1_waiting : Int32) (p1_arrived : Int32) (p1_standing : Int32) (p1_climbed : Int32) (p1_drawn : Int32) (p1_guests : (Nat → Int32)) (sz : Nat) (res : Int32 × (Nat → Int32)) (hf : f_X5_fillSingersByRow t_singersByRow p1_guests = some res) : Met l yX5_fillSingersByRow (.code yX5_fillSingersByRow cX5_fillSingersByRow 4 (some .int) :: TB) (rmk (2) (42)) (pRW [.ref a_t, .ref a_p1] D cI cB cZ (w_X5_fillSingersByRow cI cB cZ a_t a_t_singersByRow a_p1 a_p1_guests a_t_most a_t_mostBefore a_p1_numbers a_p1_coats a_p1_line t_singersByRow p1_waiting p1_arrived p1_standing p1_climbed p1_drawn p1_guests) sz) (qRW (some (.int res.1)) True D (w_X5_fillSingersByRow cI cB cZ a_t a_t_singersByRow a_p1 a_p1_guests a_t_most a_t_mostBefore a_p1_numbers a_p1_coats a_p1_line t_singersByRow p1_waiting p1_arrived p1_standing p1_climbed p1_drawn p1_guests) sz (w_X5_fillSingersByRow cI cB cZ a_t a_t_singersByRow a_p1 a_p1_guests a_t_most a_t_mostBefore a_p1_numbers a_p1_coats a_p1_line res.2 p1_waiting p1_arrived p1_standing p1_climbed p1_drawn p1_guests)) 0 0 (va_A (w_X5_fillSingersByRow cI cB cZ a_t a_t_singersByRow a_p1 a_p1_guests a_t_most a_t_mostBefore a_p1_numbers a_p1_coats a_p1_line t_singersByRow p1_waiting p1_arrived p1_standing p1_climbed p1_drawn p1_guests) sz) :=
  mkRW (by decide +kernel) (Nat.le_of_ble_eq_true rfl) (fun p e s m below meth c ls A hAe S hr hlk hK hA hP hD hS hl => b_X5_fillSingersByRow S.1 S.2.1 S.2.2.1 S.2.2.2.1 S.2.2.2.2 (Nat.le_refl _) (Nat.le_refl _) hK.1 hK.2 hA s.heap [] a_t a_t_singersByRow a_p1 a_p1_guests a_t_most a_t_mostBefore a_p1_numbers a_p1_coats a_p1_line t_singersByRow p1_waiting p1_arrived p1_standing p1_climbed p1_drawn p1_guests res hf hP hD hS (fun H locs pc ls hP hD hS hE hd => eRW_i S.1 S.2.1 hr rfl hlk hAe hP hD hS hE hd) ls hl)
def f_X5_choir_14 (p1_guests : (Nat → Int32)) (x2 : Int32) (x3 : Int32) (t_singersByRow : (Nat → Int32)) : Option (Int32 × (Nat → Int32)) := (if x2 = 0 then some (x3, t_singersByRow) else some ((-2), t_singersByRow))
def f_X5_choir_46 (p1_guests : (Nat → Int32)) : Nat → Int32 → Int32 → Int32 → (Nat → Int32) → Option (Int32 × (Nat → Int32))
  | 0, _, _, _, _ => none
  | n + 1, x4, x5, x6, t_singersByRow => (if 8 ≤ x6 then some (x5, t_singersByRow) else ix 8 x6 ((f_X5_choir_46 p1_guests n) x4 (x5 + ((t_singersByRow x6.toNatClampNeg) * (if 0 ≤ (x6 - x4) then (x6 - x4) else 0 - (x6 - x4)))) (x6 + 1) t_singersByRow))
def f_X5_choir (t_singersByRow : (Nat → Int32)) (p1_guests : (Nat → Int32)) (x2 : Int32) : Option (Int32 × (Nat → Int32)) := (f_X5_fillSingersByRow t_singersByRow p1_guests).bind (fun z2 => (if x2 = 0 then f_X5_choir_14 p1_guests x2 z2.1 z2.2 else (if z2.1 = 0 then f_X5_choir_14 p1_guests x2 z2.1 z2.2 else (f_X5_middleRow z2.2 z2.1).bind (fun z27 => (if x2 = 1 then some (z27, z2.2) else f_X5_choir_46 p1_guests FU z27 0 0 z2.2)))))
def w_X5_choir (cI cB cZ : ClassId) (a_t : Nat) (a_t_singersByRow : Nat) (a_p1 : Nat) (a_p1_guests : Nat) (a_t_most : Nat) (a_t_mostBefore : Nat) (a_p1_numbers : Nat) (a_p1_coats : Nat) (a_p1_line : Nat) (t_singersByRow : (Nat → Int32)) (p1_waiting : Int32) (p1_arrived : Int32) (p1_standing : Int32) (p1_climbed : Int32) (p1_drawn : Int32) (p1_guests : (Nat → Int32)) : va_W := [(a_t, .inr (4, [.ref a_t_singersByRow, .ref a_t_most, .ref a_t_mostBefore])), (a_t_singersByRow, .inl (cI, 8, .inl t_singersByRow)), (a_p1, .inr (0, [.ref a_p1_guests, .ref a_p1_numbers, .ref a_p1_coats, .ref a_p1_line, .int p1_waiting, .int p1_arrived, .int p1_standing, .int p1_climbed, .int p1_drawn])), (a_p1_guests, .inl (cI, 144, .inl p1_guests))]
set_option maxHeartbeats 4000000 in
set_option maxRecDepth 100000 in
theorem b_X5_choir {p : Program} {l : Launch} {e : Env} {R : Room} {s : State} {m : MethodId} {args : Array Value} {below : List Frame} {meth : Method} {c : Code} {Q : State → Prop} {D : va_G} {cI cB cZ : ClassId} (hx : p.tables.exec = Jvm.exec) (hb : c.code = cX5_choir) (hml : c.maxLocals = 7) (hown : s.vm.findClass RX5 = some m.cls) (hT : ∀ w ∈ TB, w.before args s = true) (hRf : (3) ≤ R.frames) (hRl : (65) ≤ R.locals) (hK : va_K D vwCl (tyL cI cB cZ) s) (hN : NW s) {A : Nat → Prop} (hA : ∀ q : Nat, s.heap.size ≤ q → A q) (H : Heap) (locs : List Loc)  (a_t : Nat) (a_t_singersByRow : Nat) (a_p1 : Nat) (a_p1_guests : Nat) (a_t_most : Nat) (a_t_mostBefore : Nat) (a_p1_numbers : Nat) (a_p1_coats : Nat) (a_p1_line : Nat) (t_singersByRow : (Nat → Int32)) (p1_waiting : Int32) (p1_arrived : Int32) (p1_standing : Int32) (p1_climbed : Int32) (p1_drawn : Int32) (p1_guests : (Nat → Int32)) (x2 : Int32) (res : Int32 × (Nat → Int32)) (hf : f_X5_choir t_singersByRow p1_guests x2 = some res) (hP : va_P D vwCl (w_X5_choir cI cB cZ a_t a_t_singersByRow a_p1 a_p1_guests a_t_most a_t_mostBefore a_p1_numbers a_p1_coats a_p1_line t_singersByRow p1_waiting p1_arrived p1_standing p1_climbed p1_drawn p1_guests) H) (hD : va_D A (w_X5_choir cI cB cZ a_t a_t_singersByRow a_p1 a_p1_guests a_t_most a_t_mostBefore a_p1_numbers a_p1_coats a_p1_line t_singersByRow p1_waiting p1_arrived p1_standing p1_climbed p1_drawn p1_guests)) (hS : va_S A s.heap H locs) (hQ : ∀ (H : Heap) (locs : List Loc) (pc : Nat) (ls : Array Slot), va_P D vwCl (w_X5_choir cI cB cZ a_t a_t_singersByRow a_p1 a_p1_guests a_t_most a_t_mostBefore a_p1_numbers a_p1_coats a_p1_line res.2 p1_waiting p1_arrived p1_standing p1_climbed p1_drawn p1_guests) H → va_D A (w_X5_choir cI cB cZ a_t a_t_singersByRow a_p1 a_p1_guests a_t_most a_t_mostBefore a_p1_numbers a_p1_coats a_p1_line res.2 p1_waiting p1_arrived p1_standing p1_climbed p1_drawn p1_guests) → va_S A s.heap H locs → True → decode cX5_choir pc = .ok (.ireturn, 1) → W p l e R s m args below meth c H locs 0 0 Q (F0 m pc ls [.int res.1])) (ls : Array Slot) (hl : lv_has ls 7 [(0, .ref a_t), (1, .ref a_p1), (2, .int x2)]) : W p l e R s m args below meth c H locs 0 0 Q (F0 m 0 ls []) := by
  unfold f_X5_choir at hf
  refine lv_aload_n hx hb dX5_choir_0 rfl (lv_at hl 0 rfl) ?_
  refine lv_aload_n hx hb dX5_choir_1 rfl (lv_at hl 1 rfl) ?_
  obtain ⟨z2, e2, hf⟩ := bd_some hf
  refine rV_RW (As := [.ref a_p1]) (rest := []) (w2 := (w_X5_choir cI cB cZ a_t a_t_singersByRow a_p1 a_p1_guests a_t_most a_t_mostBefore a_p1_numbers a_p1_coats a_p1_line z2.2 p1_waiting p1_arrived p1_standing p1_climbed p1_drawn p1_guests)) ⟨hx, hb, hml, hown, hT⟩ (gdV tb_998 tb_1000 tb_23 tb_94 tb_1001) hd_X5_fillSingersByRow (c_X5_fillSingersByRow l D cI cB cZ a_t a_t_singersByRow a_p1 a_p1_guests a_t_most a_t_mostBefore a_p1_numbers a_p1_coats a_p1_line t_singersByRow p1_waiting p1_arrived p1_standing p1_climbed p1_drawn p1_guests H.size z2 e2) ⟨rfl, rfl⟩ ⟨Nat.le_trans (by decide) hRf, Nat.le_trans (by decide) hRl⟩ ⟨hK, hN⟩ hA hP hD hS [0, 1, 2, 3] [] rfl (by decide) (wr := []) rfl (by decide) (by decide) [0, 1, 2, 3] rfl (by decide) 0 rfl rfl rfl hl.1 rfl (Nat.le_of_ble_eq_true rfl) ⟨Nat.zero_le _, Nat.zero_le _⟩ dX5_choir_2 (fun H locs hP hD hS _ => ?_)
  refine lv_istore_n (lv' := [(3, .int z2.1), (0, .ref a_t), (1, .ref a_p1), (2, .int x2)]) hx hb dX5_choir_5 rfl hl (by decide) rfl (fun ls hl => ?_)
  refine lv_iload_n hx hb dX5_choir_6 rfl (lv_at hl 3 rfl) ?_
  have J_14 : ∀ (x2 : Int32) (x3 : Int32) (t_singersByRow : (Nat → Int32)) (H : Heap) (locs : List Loc) (ls : Array Slot), f_X5_choir_14 p1_guests x2 x3 t_singersByRow = some res → va_P D vwCl (w_X5_choir cI cB cZ a_t a_t_singersByRow a_p1 a_p1_guests a_t_most a_t_mostBefore a_p1_numbers a_p1_coats a_p1_line t_singersByRow p1_waiting p1_arrived p1_standing p1_climbed p1_drawn p1_guests) H → va_D A (w_X5_choir cI cB cZ a_t a_t_singersByRow a_p1 a_p1_guests a_t_most a_t_mostBefore a_p1_numbers a_p1_coats a_p1_line t_singersByRow p1_waiting p1_arrived p1_standing p1_climbed p1_drawn p1_guests) → va_S A s.heap H locs → lv_has ls 7 [(2, .int x2), (3, .int x3)] → W p l e R s m args below meth c H locs 0 0 Q (F0 m 14 ls []) := by
    intro x2 x3 t_singersByRow H locs ls hf hP hD hS hl
    unfold f_X5_choir_14 at hf
    refine lv_iload_n hx hb dX5_choir_14 rfl (lv_at hl 0 rfl) ?_
    refine lv_if_ne (tgt := 22) hx hb dX5_choir_15 (by decide) (fun hc_15 => ?_) (fun hc_15 => ?_)
    · have hf := it_neg hc_15 hf
      refine lv_bipush (v := (-2)) hx hb dX5_choir_22 (by decide) ?_
      obtain rfl := Option.some.inj hf
      exact hQ H locs 24 ls hP hD hS trivial dX5_choir_24
    · have hf := it_pos hc_15 hf
      refine lv_iload_n hx hb dX5_choir_18 rfl (lv_at hl 1 rfl) ?_
      refine lv_goto (tgt := 24) hx hb dX5_choir_19 (by decide) ?_
      obtain rfl := Option.some.inj hf
      exact hQ H locs 24 ls hP hD hS trivial dX5_choir_24
  refine lv_if_eq (tgt := 14) hx hb dX5_choir_7 (by decide) (fun hc_7 => ?_) (fun hc_7 => ?_)
  · have hf := it_pos hc_7 hf
    exact J_14 _ _ _ _ _ _ hf hP hD hS (lv_sub hl [3, 0] rfl)
  · have hf := it_neg hc_7 hf
    refine lv_iload_n hx hb dX5_choir_10 rfl (lv_at hl 0 rfl) ?_
    refine lv_if_ne (tgt := 25) hx hb dX5_choir_11 (by decide) (fun hc_11 => ?_) (fun hc_11 => ?_)
    · have hf := it_neg hc_11 hf
      refine lv_aload_n hx hb dX5_choir_25 rfl (lv_at hl 1 rfl) ?_
      refine lv_iload_n hx hb dX5_choir_26 rfl (lv_at hl 0 rfl) ?_
      obtain ⟨z27, e27, hf⟩ := bd_some hf
      refine rV_RO (As := [.int z2.1]) (rest := []) ⟨hx, hb, hml, hown, hT⟩ (gdV tb_1004 tb_1006 tb_24 tb_94 tb_1007) hd_X5_middleRow (c_X5_middleRow l D cI cB cZ a_t a_t_singersByRow a_t_most a_t_mostBefore z2.2 z2.1 z27 e27) ⟨rfl, rfl⟩ ⟨Nat.le_trans (by decide) hRf, Nat.le_trans (by decide) hRl⟩ ⟨hK, hN⟩ hP [0, 1] rfl 0 rfl rfl rfl hl.1 rfl (Nat.le_of_ble_eq_true rfl) ⟨Nat.zero_le _, Nat.zero_le _⟩ dX5_choir_27 (fun _ => ?_)
      refine lv_istore (lv' := [(4, .int z27), (3, .int z2.1), (0, .ref a_t), (1, .ref a_p1), (2, .int x2)]) hx hb dX5_choir_30 hl (by decide) rfl (fun ls hl => ?_)
      refine lv_iload_n hx hb dX5_choir_32 rfl (lv_at hl 4 rfl) ?_
      refine lv_iconst (v := 1) hx hb dX5_choir_33 (by decide) ?_
      refine lv_icmp_ne (tgt := 40) hx hb dX5_choir_34 (by decide) (fun hc_34 => ?_) (fun hc_34 => ?_)
      · have hf := it_neg hc_34 hf
        refine lv_iconst (v := 0) hx hb dX5_choir_40 (by decide) ?_
        refine lv_istore (lv' := [(5, .int 0), (4, .int z27), (3, .int z2.1), (0, .ref a_t), (1, .ref a_p1), (2, .int x2)]) hx hb dX5_choir_41 hl (by decide) rfl (fun ls hl => ?_)
        refine lv_iconst (v := 0) hx hb dX5_choir_43 (by decide) ?_
        have J_46 : ∀ (n_46 : Nat) (x4 : Int32) (x5 : Int32) (x6 : Int32) (t_singersByRow : (Nat → Int32)) (H : Heap) (locs : List Loc) (ls : Array Slot), f_X5_choir_46 p1_guests n_46 x4 x5 x6 t_singersByRow = some res → va_P D vwCl (w_X5_choir cI cB cZ a_t a_t_singersByRow a_p1 a_p1_guests a_t_most a_t_mostBefore a_p1_numbers a_p1_coats a_p1_line t_singersByRow p1_waiting p1_arrived p1_standing p1_climbed p1_drawn p1_guests) H → va_D A (w_X5_choir cI cB cZ a_t a_t_singersByRow a_p1 a_p1_guests a_t_most a_t_mostBefore a_p1_numbers a_p1_coats a_p1_line t_singersByRow p1_waiting p1_arrived p1_standing p1_climbed p1_drawn p1_guests) → va_S A s.heap H locs → lv_has ls 7 [(0, .ref a_t), (4, .int x4), (5, .int x5), (6, .int x6)] → W p l e R s m args below meth c H locs 0 0 Q (F0 m 46 ls []) := by
          intro n_46
          induction n_46 with
          | zero =>
            intro x4 x5 x6 t_singersByRow H locs ls hf hP hD hS hl
            cases hf
          | succ n_46 ih_46 =>
            intro x4 x5 x6 t_singersByRow H locs ls hf hP hD hS hl
            unfold f_X5_choir_46 at hf
            refine lv_iload hx hb dX5_choir_46 (lv_at hl 3 rfl) ?_
            refine lv_bipush (v := 8) hx hb dX5_choir_48 (by decide) ?_
            refine lv_icmp_ge (tgt := 80) hx hb dX5_choir_50 (by decide) (fun hc_50 => ?_) (fun hc_50 => ?_)
            · have hf := it_pos hc_50 hf
              refine lv_iload hx hb dX5_choir_80 (lv_at hl 2 rfl) ?_
              obtain rfl := Option.some.inj hf
              exact hQ H locs 82 ls hP hD hS trivial dX5_choir_82
            · have hf := it_neg hc_50 hf
              refine lv_iload hx hb dX5_choir_53 (lv_at hl 2 rfl) ?_
              refine lv_aload_n hx hb dX5_choir_55 rfl (lv_at hl 0 rfl) ?_
              refine va_get (D := D) (ci := 4) (v := .ref a_t_singersByRow) (C := RX5) (T := TX5) (N := 3) hx hb hT inX5 hown hK hP 0 rfl rfl 0 (by decide) (hT _ tb_272) (fun _ h9 => h9) rfl dX5_choir_56 ?_
              refine lv_iload hx hb dX5_choir_59 (lv_at hl 3 rfl) ?_
              obtain ⟨hi_61, hf⟩ := ix_some hf
              refine va_iald hx hb hK hP 1 0 rfl rfl hi_61 dX5_choir_61 ?_
              refine lv_iload hx hb dX5_choir_62 (lv_at hl 3 rfl) ?_
              refine lv_iload hx hb dX5_choir_64 (lv_at hl 1 rfl) ?_
              refine lv_isub hx hb dX5_choir_66 ?_
              refine va_mabs hx hb (hml.trans hl.1.symm) hown (hT _ tb_1008) (hT _ tb_952) (hT _ tb_98) (hT _ tb_953) (Nat.le_trans (by decide) hRf) (Nat.le_trans (Nat.le_of_ble_eq_true rfl) hRl) (Nat.zero_le _) (Nat.zero_le _) dX5_choir_67 ?_
              refine lv_imul hx hb dX5_choir_70 ?_
              refine lv_iadd hx hb dX5_choir_71 ?_
              refine lv_istore (lv' := [(5, .int (x5 + ((t_singersByRow x6.toNatClampNeg) * (if 0 ≤ (x6 - x4) then (x6 - x4) else 0 - (x6 - x4))))), (0, .ref a_t), (4, .int x4), (6, .int x6)]) hx hb dX5_choir_72 hl (by decide) rfl (fun ls hl => ?_)
              refine lv_iinc (v := x6 + 1) (lv' := [(6, .int (x6 + 1)), (5, .int (x5 + ((t_singersByRow x6.toNatClampNeg) * (if 0 ≤ (x6 - x4) then (x6 - x4) else 0 - (x6 - x4))))), (0, .ref a_t), (4, .int x4)]) hx hb dX5_choir_74 hl (k := 3) rfl (congrArg (_ + ·) (by decide : Int32.ofInt 1 = 1)) (by decide) rfl (fun ls hl => ?_)
              refine lv_goto (tgt := 46) hx hb dX5_choir_77 (by decide) ?_
              exact ih_46 _ _ _ _ _ _ _ hf hP hD hS (lv_sub hl [2, 3, 1, 0] rfl)
        refine lv_istore (lv' := [(6, .int 0), (5, .int 0), (4, .int z27), (3, .int z2.1), (0, .ref a_t), (1, .ref a_p1), (2, .int x2)]) hx hb dX5_choir_44 hl (by decide) rfl (fun ls hl => ?_)
        exact J_46 _ _ _ _ _ _ _ _ hf hP hD hS (lv_sub hl [4, 2, 1, 0] rfl)
      · have hf := it_pos hc_34 hf
        refine lv_iload hx hb dX5_choir_37 (lv_at hl 0 rfl) ?_
        obtain rfl := Option.some.inj hf
        exact hQ H locs 39 ls hP hD hS trivial dX5_choir_39
    · have hf := it_pos hc_11 hf
      exact J_14 _ _ _ _ _ _ hf hP hD hS (lv_sub hl [3, 0] rfl)
theorem hd_X5_choir : (yX5_choir).cls = RX5 ∧ (yX5_choir).cls ≠ "java/lang/invoke/MethodHandle" ∧ (yX5_choir).cls ≠ "java/lang/invoke/VarHandle" ∧ (parseMethodDescriptor (yX5_choir).desc).map (fun d => d.parameters.length) = some 2 := by decide +kernel
theorem c_X5_choir (l : Launch) (D : va_G) (cI cB cZ : ClassId) (a_t : Nat) (a_t_singersByRow : Nat) (a_p1 : Nat) (a_p1_guests : Nat) (a_t_most : Nat) (a_t_mostBefore : Nat) (a_p1_numbers : Nat) (a_p1_coats : Nat) (a_p1_line : Nat) (t_singersByRow : (Nat → Int32)) (p1_waiting : Int32) (p1_arrived : Int32) (p1_standing : Int32) (p1_climbed : Int32) (p1_drawn : Int32) (p1_guests : (Nat → Int32)) (x2 : Int32) (sz : Nat) (res : Int32 × (Nat → Int32)) (hf : f_X5_choir t_singersByRow p1_guests x2 = some res) : Met l yX5_choir (.code yX5_choir cX5_choir 7 (some .int) :: TB) (rmk (3) (65)) (pRW [.ref a_t, .ref a_p1, .int x2] D cI cB cZ (w_X5_choir cI cB cZ a_t a_t_singersByRow a_p1 a_p1_guests a_t_most a_t_mostBefore a_p1_numbers a_p1_coats a_p1_line t_singersByRow p1_waiting p1_arrived p1_standing p1_climbed p1_drawn p1_guests) sz) (qRW (some (.int res.1)) True D (w_X5_choir cI cB cZ a_t a_t_singersByRow a_p1 a_p1_guests a_t_most a_t_mostBefore a_p1_numbers a_p1_coats a_p1_line t_singersByRow p1_waiting p1_arrived p1_standing p1_climbed p1_drawn p1_guests) sz (w_X5_choir cI cB cZ a_t a_t_singersByRow a_p1 a_p1_guests a_t_most a_t_mostBefore a_p1_numbers a_p1_coats a_p1_line res.2 p1_waiting p1_arrived p1_standing p1_climbed p1_drawn p1_guests)) 0 0 (va_A (w_X5_choir cI cB cZ a_t a_t_singersByRow a_p1 a_p1_guests a_t_most a_t_mostBefore a_p1_numbers a_p1_coats a_p1_line t_singersByRow p1_waiting p1_arrived p1_standing p1_climbed p1_drawn p1_guests) sz) :=
  mkRW (by decide +kernel) (Nat.le_of_ble_eq_true rfl) (fun p e s m below meth c ls A hAe S hr hlk hK hA hP hD hS hl => b_X5_choir S.1 S.2.1 S.2.2.1 S.2.2.2.1 S.2.2.2.2 (Nat.le_refl _) (Nat.le_refl _) hK.1 hK.2 hA s.heap [] a_t a_t_singersByRow a_p1 a_p1_guests a_t_most a_t_mostBefore a_p1_numbers a_p1_coats a_p1_line t_singersByRow p1_waiting p1_arrived p1_standing p1_climbed p1_drawn p1_guests x2 res hf hP hD hS (fun H locs pc ls hP hD hS hE hd => eRW_i S.1 S.2.1 hr rfl hlk hAe hP hD hS hE hd) ls hl)
def f_X5_isLonely_108 (p1_guests : (Nat → Int32)) (x6 : Int32) : Option (Int32) := (if x6 = 0 then some (1) else some (0))
def f_X5_isLonely_96 (p1_guests : (Nat → Int32)) (x4 : Int32) (x5 : Int32) (y0 : Int32) : Option (Int32) := (if x4 = 0 then (if x5 = 0 then some (0) else f_X5_isLonely_108 p1_guests y0) else f_X5_isLonely_108 p1_guests y0)
def f_X5_isLonely_95 (p1_guests : (Nat → Int32)) (x4 : Int32) (x5 : Int32) : Option (Int32) := f_X5_isLonely_96 p1_guests x4 x5 0
def f_X5_isLonely_75 (p1_guests : (Nat → Int32)) (x2 : Int32) (x3 : Int32) (x4 : Int32) (x5 : Int32) : Option (Int32) := (if x5 = 0 then f_X5_isLonely_95 p1_guests x4 x5 else (f_X0_isTakenBy p1_guests (x2 + 1) x3).bind (fun z85 => (if z85 = 0 then f_X5_isLonely_95 p1_guests x4 x5 else f_X5_isLonely_96 p1_guests x4 x5 1)))
def f_X5_isLonely_57 (p1_guests : (Nat → Int32)) (x2 : Int32) (x3 : Int32) (x4 : Int32) (y0 : Int32) : Option (Int32) := (if x4 = 0 then f_X5_isLonely_75 p1_guests x2 x3 x4 y0 else (f_X0_isTakenBy p1_guests (x2 - 1) x3).bind (fun z69 => (if z69 = 0 then f_X5_isLonely_75 p1_guests x2 x3 x4 y0 else f_X5_isLonely_96 p1_guests x4 y0 1)))
def f_X5_isLonely_56 (p1_guests : (Nat → Int32)) (x2 : Int32) (x3 : Int32) (x4 : Int32) : Option (Int32) := f_X5_isLonely_57 p1_guests x2 x3 x4 0
def f_X5_isLonely_31 (p1_guests : (Nat → Int32)) (x2 : Int32) (x3 : Int32) (y0 : Int32) : Option (Int32) := (if 8 ≤ (jrem x2 9) then f_X5_isLonely_56 p1_guests x2 x3 y0 else (f_X0_isTaken p1_guests (x2 + 1)).bind (fun z46 => (if z46 = 0 then f_X5_isLonely_56 p1_guests x2 x3 y0 else f_X5_isLonely_57 p1_guests x2 x3 y0 1)))
def f_X5_isLonely_30 (p1_guests : (Nat → Int32)) (x2 : Int32) (x3 : Int32) : Option (Int32) := f_X5_isLonely_31 p1_guests x2 x3 0
def f_X5_isLonely (p1_guests : (Nat → Int32)) (x2 : Int32) : Option (Int32) := (f_X0_guestOn p1_guests x2).bind (fun z2 => (f_X1_familyOf z2).bind (fun z5 => (if (jrem x2 9) ≤ 0 then f_X5_isLonely_30 p1_guests x2 z5 else (f_X0_isTaken p1_guests (x2 - 1)).bind (fun z20 => (if z20 = 0 then f_X5_isLonely_30 p1_guests x2 z5 else f_X5_isLonely_31 p1_guests x2 z5 1)))))
def w_X5_isLonely (cI cB cZ : ClassId) (a_p1 : Nat) (a_p1_guests : Nat) (a_p1_numbers : Nat) (a_p1_coats : Nat) (a_p1_line : Nat) (a_t : Nat) (p1_waiting : Int32) (p1_arrived : Int32) (p1_standing : Int32) (p1_climbed : Int32) (p1_drawn : Int32) (p1_guests : (Nat → Int32)) : va_W := [(a_p1, .inr (0, [.ref a_p1_guests, .ref a_p1_numbers, .ref a_p1_coats, .ref a_p1_line, .int p1_waiting, .int p1_arrived, .int p1_standing, .int p1_climbed, .int p1_drawn])), (a_p1_guests, .inl (cI, 144, .inl p1_guests))]
set_option maxHeartbeats 4000000 in
set_option maxRecDepth 100000 in
theorem b_X5_isLonely {p : Program} {l : Launch} {e : Env} {R : Room} {s : State} {m : MethodId} {args : Array Value} {below : List Frame} {meth : Method} {c : Code} {Q : State → Prop} {D : va_G} {cI cB cZ : ClassId} (hx : p.tables.exec = Jvm.exec) (hb : c.code = cX5_isLonely) (hml : c.maxLocals = 7) (hown : s.vm.findClass RX5 = some m.cls) (hT : ∀ w ∈ TB, w.before args s = true) (hRf : (2) ≤ R.frames) (hRl : (44) ≤ R.locals) (hK : va_K D vwCl (tyL cI cB cZ) s) (hN : NW s)  (a_p1 : Nat) (a_p1_guests : Nat) (a_p1_numbers : Nat) (a_p1_coats : Nat) (a_p1_line : Nat) (a_t : Nat) (p1_waiting : Int32) (p1_arrived : Int32) (p1_standing : Int32) (p1_climbed : Int32) (p1_drawn : Int32) (p1_guests : (Nat → Int32)) (x2 : Int32) (res : Int32) (hf : f_X5_isLonely p1_guests x2 = some res) (hP : va_P D vwCl (w_X5_isLonely cI cB cZ a_p1 a_p1_guests a_p1_numbers a_p1_coats a_p1_line a_t p1_waiting p1_arrived p1_standing p1_climbed p1_drawn p1_guests) s.heap) (hQ : ∀ (pc : Nat) (ls : Array Slot), (res = 0 ∨ res = 1) → decode cX5_isLonely pc = .ok (.ireturn, 1) → W p l e R s m args below meth c s.heap [] 0 0 Q (F0 m pc ls [.int res])) (ls : Array Slot) (hl : lv_has ls 7 [(0, .ref a_t), (1, .ref a_p1), (2, .int x2)]) : W p l e R s m args below meth c s.heap [] 0 0 Q (F0 m 0 ls []) := by
  unfold f_X5_isLonely at hf
  refine lv_aload_n hx hb dX5_isLonely_0 rfl (lv_at hl 1 rfl) ?_
  refine lv_iload_n hx hb dX5_isLonely_1 rfl (lv_at hl 2 rfl) ?_
  obtain ⟨z2, e2, hf⟩ := bd_some hf
  refine rV_RO (As := [.int x2]) (rest := []) ⟨hx, hb, hml, hown, hT⟩ (gdV tb_847 tb_689 tb_690 tb_88 tb_691) hd_X0_guestOn (c_X0_guestOn l D cI cB cZ a_p1 a_p1_guests a_p1_numbers a_p1_coats a_p1_line p1_waiting p1_arrived p1_standing p1_climbed p1_drawn p1_guests x2 z2 e2) ⟨rfl, rfl⟩ ⟨Nat.le_trans (by decide) hRf, Nat.le_trans (by decide) hRl⟩ ⟨hK, hN⟩ hP [0, 1] rfl 0 rfl rfl rfl hl.1 rfl (Nat.le_of_ble_eq_true rfl) ⟨Nat.zero_le _, Nat.zero_le _⟩ dX5_isLonely_2 (fun _ => ?_)
  obtain ⟨z5, e5, hf⟩ := bd_some hf
  refine rS_RO (As := [.int z2]) (rest := []) ⟨hx, hb, hml, hown, hT⟩ (gdS tb_848 tb_719 tb_104 tb_720) hd_X1_familyOf (c_X1_familyOf l D cI cB cZ z2 z5 e5) ⟨rfl, rfl⟩ ⟨Nat.le_trans (by decide) hRf, Nat.le_trans (by decide) hRl⟩ ⟨hK, hN⟩ hP [] rfl rfl hl.1 rfl (Nat.le_of_ble_eq_true rfl) ⟨Nat.zero_le _, Nat.zero_le _⟩ dX5_isLonely_5 (fun _ => ?_)
  refine lv_istore_n (lv' := [(3, .int z5), (0, .ref a_t), (1, .ref a_p1), (2, .int x2)]) hx hb dX5_isLonely_8 rfl hl (by decide) rfl (fun ls hl => ?_)
  refine lv_iload_n hx hb dX5_isLonely_9 rfl (lv_at hl 3 rfl) ?_
  refine lv_bipush (v := 9) hx hb dX5_isLonely_10 (by decide) ?_
  refine lv_irem hx hb dX5_isLonely_12 (by decide) ?_
  have J_31 : ∀ (x2 : Int32) (x3 : Int32) (y0 : Int32) (ls : Array Slot), f_X5_isLonely_31 p1_guests x2 x3 y0 = some res → lv_has ls 7 [(1, .ref a_p1), (2, .int x2), (3, .int x3)] → W p l e R s m args below meth c s.heap [] 0 0 Q (F0 m 31 ls [.int y0]) := by
    intro x2 x3 y0 ls hf hl
    unfold f_X5_isLonely_31 at hf
    refine lv_istore (lv' := [(4, .int y0), (1, .ref a_p1), (2, .int x2), (3, .int x3)]) hx hb dX5_isLonely_31 hl (by decide) rfl (fun ls hl => ?_)
    refine lv_iload_n hx hb dX5_isLonely_33 rfl (lv_at hl 2 rfl) ?_
    refine lv_bipush (v := 9) hx hb dX5_isLonely_34 (by decide) ?_
    refine lv_irem hx hb dX5_isLonely_36 (by decide) ?_
    refine lv_bipush (v := 8) hx hb dX5_isLonely_37 (by decide) ?_
    have J_57 : ∀ (x2 : Int32) (x3 : Int32) (x4 : Int32) (y0 : Int32) (ls : Array Slot), f_X5_isLonely_57 p1_guests x2 x3 x4 y0 = some res → lv_has ls 7 [(1, .ref a_p1), (2, .int x2), (3, .int x3), (4, .int x4)] → W p l e R s m args below meth c s.heap [] 0 0 Q (F0 m 57 ls [.int y0]) := by
      intro x2 x3 x4 y0 ls hf hl
      unfold f_X5_isLonely_57 at hf
      refine lv_istore (lv' := [(5, .int y0), (1, .ref a_p1), (2, .int x2), (3, .int x3), (4, .int x4)]) hx hb dX5_isLonely_57 hl (by decide) rfl (fun ls hl => ?_)
      refine lv_iload hx hb dX5_isLonely_59 (lv_at hl 4 rfl) ?_
      have J_96 : ∀ (x4 : Int32) (x5 : Int32) (y0 : Int32) (ls : Array Slot), f_X5_isLonely_96 p1_guests x4 x5 y0 = some res → lv_has ls 7 [(4, .int x4), (5, .int x5)] → W p l e R s m args below meth c s.heap [] 0 0 Q (F0 m 96 ls [.int y0]) := by
        intro x4 x5 y0 ls hf hl
        unfold f_X5_isLonely_96 at hf
        refine lv_istore (lv' := [(6, .int y0), (4, .int x4), (5, .int x5)]) hx hb dX5_isLonely_96 hl (by decide) rfl (fun ls hl => ?_)
        refine lv_iload hx hb dX5_isLonely_98 (lv_at hl 1 rfl) ?_
        have J_108 : ∀ (x6 : Int32) (ls : Array Slot), f_X5_isLonely_108 p1_guests x6 = some res → lv_has ls 7 [(6, .int x6)] → W p l e R s m args below meth c s.heap [] 0 0 Q (F0 m 108 ls []) := by
          intro x6 ls hf hl
          unfold f_X5_isLonely_108 at hf
          refine lv_iload hx hb dX5_isLonely_108 (lv_at hl 0 rfl) ?_
          refine lv_if_ne (tgt := 117) hx hb dX5_isLonely_110 (by decide) (fun hc_110 => ?_) (fun hc_110 => ?_)
          · have hf := it_neg hc_110 hf
            refine lv_iconst (v := 0) hx hb dX5_isLonely_117 (by decide) ?_
            obtain rfl := Option.some.inj hf
            exact hQ 118 ls (Or.inl rfl) dX5_isLonely_118
          · have hf := it_pos hc_110 hf
            refine lv_iconst (v := 1) hx hb dX5_isLonely_113 (by decide) ?_
            refine lv_goto (tgt := 118) hx hb dX5_isLonely_114 (by decide) ?_
            obtain rfl := Option.some.inj hf
            exact hQ 118 ls (Or.inr rfl) dX5_isLonely_118
        refine lv_if_ne (tgt := 108) hx hb dX5_isLonely_100 (by decide) (fun hc_100 => ?_) (fun hc_100 => ?_)
        · have hf := it_neg hc_100 hf
          exact J_108 _ _ hf (lv_sub hl [0] rfl)
        · have hf := it_pos hc_100 hf
          refine lv_iload hx hb dX5_isLonely_103 (lv_at hl 2 rfl) ?_
          refine lv_if_eq (tgt := 117) hx hb dX5_isLonely_105 (by decide) (fun hc_105 => ?_) (fun hc_105 => ?_)
          · have hf := it_pos hc_105 hf
            refine lv_iconst (v := 0) hx hb dX5_isLonely_117 (by decide) ?_
            obtain rfl := Option.some.inj hf
            exact hQ 118 ls (Or.inl rfl) dX5_isLonely_118
          · have hf := it_neg hc_105 hf
            exact J_108 _ _ hf (lv_sub hl [0] rfl)
      have J_75 : ∀ (x2 : Int32) (x3 : Int32) (x4 : Int32) (x5 : Int32) (ls : Array Slot), f_X5_isLonely_75 p1_guests x2 x3 x4 x5 = some res → lv_has ls 7 [(1, .ref a_p1), (2, .int x2), (3, .int x3), (4, .int x4), (5, .int x5)] → W p l e R s m args below meth c s.heap [] 0 0 Q (F0 m 75 ls []) := by
        intro x2 x3 x4 x5 ls hf hl
        unfold f_X5_isLonely_75 at hf
        refine lv_iload hx hb dX5_isLonely_75 (lv_at hl 4 rfl) ?_
        have J_95 : ∀ (x4 : Int32) (x5 : Int32) (ls : Array Slot), f_X5_isLonely_95 p1_guests x4 x5 = some res → lv_has ls 7 [(4, .int x4), (5, .int x5)] → W p l e R s m args below meth c s.heap [] 0 0 Q (F0 m 95 ls []) := by
          intro x4 x5 ls hf hl
          unfold f_X5_isLonely_95 at hf
          refine lv_iconst (v := 0) hx hb dX5_isLonely_95 (by decide) ?_
          exact J_96 _ _ _ _ hf (lv_sub hl [0, 1] rfl)
        refine lv_if_eq (tgt := 95) hx hb dX5_isLonely_77 (by decide) (fun hc_77 => ?_) (fun hc_77 => ?_)
        · have hf := it_pos hc_77 hf
          exact J_95 _ _ _ hf (lv_sub hl [3, 4] rfl)
        · have hf := it_neg hc_77 hf
          refine lv_aload_n hx hb dX5_isLonely_80 rfl (lv_at hl 0 rfl) ?_
          refine lv_iload_n hx hb dX5_isLonely_81 rfl (lv_at hl 1 rfl) ?_
          refine lv_iconst (v := 1) hx hb dX5_isLonely_82 (by decide) ?_
          refine lv_iadd hx hb dX5_isLonely_83 ?_
          refine lv_iload_n hx hb dX5_isLonely_84 rfl (lv_at hl 2 rfl) ?_
          obtain ⟨z85, e85, hf⟩ := bd_some hf
          refine rV_RO (As := [.int (x2 + 1), .int x3]) (rest := []) ⟨hx, hb, hml, hown, hT⟩ (gdV tb_892 tb_802 tb_803 tb_88 tb_804) hd_X0_isTakenBy (c_X0_isTakenBy l D cI cB cZ a_p1 a_p1_guests a_p1_numbers a_p1_coats a_p1_line p1_waiting p1_arrived p1_standing p1_climbed p1_drawn p1_guests (x2 + 1) x3 z85 e85) ⟨rfl, rfl⟩ ⟨Nat.le_trans (by decide) hRf, Nat.le_trans (by decide) hRl⟩ ⟨hK, hN⟩ hP [0, 1] rfl 0 rfl rfl rfl hl.1 rfl (Nat.le_of_ble_eq_true rfl) ⟨Nat.zero_le _, Nat.zero_le _⟩ dX5_isLonely_85 (fun hz_85 => ?_)
          refine lv_if_eq (tgt := 95) hx hb dX5_isLonely_88 (by decide) (fun hc_88 => ?_) (fun hc_88 => ?_)
          · have hf := it_pos hc_88 hf
            exact J_95 _ _ _ hf (lv_sub hl [3, 4] rfl)
          · have hf := it_neg hc_88 hf
            refine lv_iconst (v := 1) hx hb dX5_isLonely_91 (by decide) ?_
            refine lv_goto (tgt := 96) hx hb dX5_isLonely_92 (by decide) ?_
            exact J_96 _ _ _ _ hf (lv_sub hl [3, 4] rfl)
      refine lv_if_eq (tgt := 75) hx hb dX5_isLonely_61 (by decide) (fun hc_61 => ?_) (fun hc_61 => ?_)
      · have hf := it_pos hc_61 hf
        exact J_75 _ _ _ _ _ hf (lv_sub hl [1, 2, 3, 4, 0] rfl)
      · have hf := it_neg hc_61 hf
        refine lv_aload_n hx hb dX5_isLonely_64 rfl (lv_at hl 1 rfl) ?_
        refine lv_iload_n hx hb dX5_isLonely_65 rfl (lv_at hl 2 rfl) ?_
        refine lv_iconst (v := 1) hx hb dX5_isLonely_66 (by decide) ?_
        refine lv_isub hx hb dX5_isLonely_67 ?_
        refine lv_iload_n hx hb dX5_isLonely_68 rfl (lv_at hl 3 rfl) ?_
        obtain ⟨z69, e69, hf⟩ := bd_some hf
        refine rV_RO (As := [.int (x2 - 1), .int x3]) (rest := []) ⟨hx, hb, hml, hown, hT⟩ (gdV tb_892 tb_802 tb_803 tb_88 tb_804) hd_X0_isTakenBy (c_X0_isTakenBy l D cI cB cZ a_p1 a_p1_guests a_p1_numbers a_p1_coats a_p1_line p1_waiting p1_arrived p1_standing p1_climbed p1_drawn p1_guests (x2 - 1) x3 z69 e69) ⟨rfl, rfl⟩ ⟨Nat.le_trans (by decide) hRf, Nat.le_trans (by decide) hRl⟩ ⟨hK, hN⟩ hP [0, 1] rfl 0 rfl rfl rfl hl.1 rfl (Nat.le_of_ble_eq_true rfl) ⟨Nat.zero_le _, Nat.zero_le _⟩ dX5_isLonely_69 (fun hz_69 => ?_)
        refine lv_if_ne (tgt := 91) hx hb dX5_isLonely_72 (by decide) (fun hc_72 => ?_) (fun hc_72 => ?_)
        · have hf := it_neg hc_72 hf
          refine lv_iconst (v := 1) hx hb dX5_isLonely_91 (by decide) ?_
          refine lv_goto (tgt := 96) hx hb dX5_isLonely_92 (by decide) ?_
          exact J_96 _ _ _ _ hf (lv_sub hl [4, 0] rfl)
        · have hf := it_pos hc_72 hf
          exact J_75 _ _ _ _ _ hf (lv_sub hl [1, 2, 3, 4, 0] rfl)
    have J_56 : ∀ (x2 : Int32) (x3 : Int32) (x4 : Int32) (ls : Array Slot), f_X5_isLonely_56 p1_guests x2 x3 x4 = some res → lv_has ls 7 [(1, .ref a_p1), (2, .int x2), (3, .int x3), (4, .int x4)] → W p l e R s m args below meth c s.heap [] 0 0 Q (F0 m 56 ls []) := by
      intro x2 x3 x4 ls hf hl
      unfold f_X5_isLonely_56 at hf
      refine lv_iconst (v := 0) hx hb dX5_isLonely_56 (by decide) ?_
      exact J_57 _ _ _ _ _ hf (lv_sub hl [0, 1, 2, 3] rfl)
    refine lv_icmp_ge (tgt := 56) hx hb dX5_isLonely_39 (by decide) (fun hc_39 => ?_) (fun hc_39 => ?_)
    · have hf := it_pos hc_39 hf
      exact J_56 _ _ _ _ hf (lv_sub hl [1, 2, 3, 0] rfl)
    · have hf := it_neg hc_39 hf
      refine lv_aload_n hx hb dX5_isLonely_42 rfl (lv_at hl 1 rfl) ?_
      refine lv_iload_n hx hb dX5_isLonely_43 rfl (lv_at hl 2 rfl) ?_
      refine lv_iconst (v := 1) hx hb dX5_isLonely_44 (by decide) ?_
      refine lv_iadd hx hb dX5_isLonely_45 ?_
      obtain ⟨z46, e46, hf⟩ := bd_some hf
      refine rV_RO (As := [.int (x2 + 1)]) (rest := []) ⟨hx, hb, hml, hown, hT⟩ (gdV tb_863 tb_685 tb_686 tb_88 tb_687) hd_X0_isTaken (c_X0_isTaken l D cI cB cZ a_p1 a_p1_guests a_p1_numbers a_p1_coats a_p1_line p1_waiting p1_arrived p1_standing p1_climbed p1_drawn p1_guests (x2 + 1) z46 e46) ⟨rfl, rfl⟩ ⟨Nat.le_trans (by decide) hRf, Nat.le_trans (by decide) hRl⟩ ⟨hK, hN⟩ hP [0, 1] rfl 0 rfl rfl rfl hl.1 rfl (Nat.le_of_ble_eq_true rfl) ⟨Nat.zero_le _, Nat.zero_le _⟩ dX5_isLonely_46 (fun hz_46 => ?_)
      refine lv_if_eq (tgt := 56) hx hb dX5_isLonely_49 (by decide) (fun hc_49 => ?_) (fun hc_49 => ?_)
      · have hf := it_pos hc_49 hf
        exact J_56 _ _ _ _ hf (lv_sub hl [1, 2, 3, 0] rfl)
      · have hf := it_neg hc_49 hf
        refine lv_iconst (v := 1) hx hb dX5_isLonely_52 (by decide) ?_
        refine lv_goto (tgt := 57) hx hb dX5_isLonely_53 (by decide) ?_
        exact J_57 _ _ _ _ _ hf (lv_sub hl [1, 2, 3, 0] rfl)
  have J_30 : ∀ (x2 : Int32) (x3 : Int32) (ls : Array Slot), f_X5_isLonely_30 p1_guests x2 x3 = some res → lv_has ls 7 [(1, .ref a_p1), (2, .int x2), (3, .int x3)] → W p l e R s m args below meth c s.heap [] 0 0 Q (F0 m 30 ls []) := by
    intro x2 x3 ls hf hl
    unfold f_X5_isLonely_30 at hf
    refine lv_iconst (v := 0) hx hb dX5_isLonely_30 (by decide) ?_
    exact J_31 _ _ _ _ hf (lv_sub hl [0, 1, 2] rfl)
  refine lv_if_le (tgt := 30) hx hb dX5_isLonely_13 (by decide) (fun hc_13 => ?_) (fun hc_13 => ?_)
  · have hf := it_pos hc_13 hf
    exact J_30 _ _ _ hf (lv_sub hl [2, 3, 0] rfl)
  · have hf := it_neg hc_13 hf
    refine lv_aload_n hx hb dX5_isLonely_16 rfl (lv_at hl 2 rfl) ?_
    refine lv_iload_n hx hb dX5_isLonely_17 rfl (lv_at hl 3 rfl) ?_
    refine lv_iconst (v := 1) hx hb dX5_isLonely_18 (by decide) ?_
    refine lv_isub hx hb dX5_isLonely_19 ?_
    obtain ⟨z20, e20, hf⟩ := bd_some hf
    refine rV_RO (As := [.int (x2 - 1)]) (rest := []) ⟨hx, hb, hml, hown, hT⟩ (gdV tb_863 tb_685 tb_686 tb_88 tb_687) hd_X0_isTaken (c_X0_isTaken l D cI cB cZ a_p1 a_p1_guests a_p1_numbers a_p1_coats a_p1_line p1_waiting p1_arrived p1_standing p1_climbed p1_drawn p1_guests (x2 - 1) z20 e20) ⟨rfl, rfl⟩ ⟨Nat.le_trans (by decide) hRf, Nat.le_trans (by decide) hRl⟩ ⟨hK, hN⟩ hP [0, 1] rfl 0 rfl rfl rfl hl.1 rfl (Nat.le_of_ble_eq_true rfl) ⟨Nat.zero_le _, Nat.zero_le _⟩ dX5_isLonely_20 (fun hz_20 => ?_)
    refine lv_if_eq (tgt := 30) hx hb dX5_isLonely_23 (by decide) (fun hc_23 => ?_) (fun hc_23 => ?_)
    · have hf := it_pos hc_23 hf
      exact J_30 _ _ _ hf (lv_sub hl [2, 3, 0] rfl)
    · have hf := it_neg hc_23 hf
      refine lv_iconst (v := 1) hx hb dX5_isLonely_26 (by decide) ?_
      refine lv_goto (tgt := 31) hx hb dX5_isLonely_27 (by decide) ?_
      exact J_31 _ _ _ _ hf (lv_sub hl [2, 3, 0] rfl)
theorem hd_X5_isLonely : (yX5_isLonely).cls = RX5 ∧ (yX5_isLonely).cls ≠ "java/lang/invoke/MethodHandle" ∧ (yX5_isLonely).cls ≠ "java/lang/invoke/VarHandle" ∧ (parseMethodDescriptor (yX5_isLonely).desc).map (fun d => d.parameters.length) = some 2 := by decide +kernel
theorem c_X5_isLonely (l : Launch) (D : va_G) (cI cB cZ : ClassId) (a_p1 : Nat) (a_p1_guests : Nat) (a_p1_numbers : Nat) (a_p1_coats : Nat) (a_p1_line : Nat) (a_t : Nat) (p1_waiting : Int32) (p1_arrived : Int32) (p1_standing : Int32) (p1_climbed : Int32) (p1_drawn : Int32) (p1_guests : (Nat → Int32)) (x2 : Int32) (res : Int32) (hf : f_X5_isLonely p1_guests x2 = some res) : Met l yX5_isLonely (.code yX5_isLonely cX5_isLonely 7 (some .boolean) :: TB) (rmk (2) (44)) (pRO [.ref a_t, .ref a_p1, .int x2] D cI cB cZ (w_X5_isLonely cI cB cZ a_p1 a_p1_guests a_p1_numbers a_p1_coats a_p1_line a_t p1_waiting p1_arrived p1_standing p1_climbed p1_drawn p1_guests)) (qRO (some (.int res)) (res = 0 ∨ res = 1)) 0 0 (fun _ => False) :=
  mkRO (by decide +kernel) (Nat.le_of_ble_eq_true rfl) (fun p e s m below meth c ls S hr hlk hK hP hl => b_X5_isLonely S.1 S.2.1 S.2.2.1 S.2.2.2.1 S.2.2.2.2 (Nat.le_refl _) (Nat.le_refl _) hK.1 hK.2 a_p1 a_p1_guests a_p1_numbers a_p1_coats a_p1_line a_t p1_waiting p1_arrived p1_standing p1_climbed p1_drawn p1_guests x2 res hf hP (fun pc ls hE hd => eRO_i S.1 S.2.1 hr (nz_ok hE) hlk hE hd) ls hl)
def f_X5_lonely_9 (p1_guests : (Nat → Int32)) : Nat → Int32 → Int32 → Int32 → Int32 → Option (Int32)
  | 0, _, _, _, _ => none
  | n + 1, x2, x3, x4, x5 => (if 144 ≤ x5 then (if x2 = 0 then some (x3) else some (x4)) else (f_X0_isTaken p1_guests x5).bind (fun z20 => (if z20 = 0 then (f_X5_lonely_9 p1_guests n) x2 x3 x4 (x5 + 1) else (f_X5_isLonely p1_guests x5).bind (fun z30 => (if z30 = 0 then (f_X5_lonely_9 p1_guests n) x2 x3 x4 (x5 + 1) else (if x4 = (-2) then (f_X5_lonely_9 p1_guests n) x2 (x3 + 1) x5 (x5 + 1) else (f_X5_lonely_9 p1_guests n) x2 (x3 + 1) x4 (x5 + 1)))))))
def f_X5_lonely (p1_guests : (Nat → Int32)) (x2 : Int32) : Option (Int32) := f_X5_lonely_9 p1_guests FU x2 0 (-2) 0
def w_X5_lonely (cI cB cZ : ClassId) (a_t : Nat) (a_p1 : Nat) (a_p1_guests : Nat) (a_t_singersByRow : Nat) (a_t_most : Nat) (a_t_mostBefore : Nat) (a_p1_numbers : Nat) (a_p1_coats : Nat) (a_p1_line : Nat) (p1_waiting : Int32) (p1_arrived : Int32) (p1_standing : Int32) (p1_climbed : Int32) (p1_drawn : Int32) (p1_guests : (Nat → Int32)) : va_W := [(a_t, .inr (4, [.ref a_t_singersByRow, .ref a_t_most, .ref a_t_mostBefore])), (a_p1, .inr (0, [.ref a_p1_guests, .ref a_p1_numbers, .ref a_p1_coats, .ref a_p1_line, .int p1_waiting, .int p1_arrived, .int p1_standing, .int p1_climbed, .int p1_drawn])), (a_p1_guests, .inl (cI, 144, .inl p1_guests))]
set_option maxHeartbeats 4000000 in
set_option maxRecDepth 100000 in
theorem b_X5_lonely {p : Program} {l : Launch} {e : Env} {R : Room} {s : State} {m : MethodId} {args : Array Value} {below : List Frame} {meth : Method} {c : Code} {Q : State → Prop} {D : va_G} {cI cB cZ : ClassId} (hx : p.tables.exec = Jvm.exec) (hb : c.code = cX5_lonely) (hml : c.maxLocals = 6) (hown : s.vm.findClass RX5 = some m.cls) (hT : ∀ w ∈ TB, w.before args s = true) (hRf : (3) ≤ R.frames) (hRl : (70) ≤ R.locals) (hK : va_K D vwCl (tyL cI cB cZ) s) (hN : NW s)  (a_t : Nat) (a_p1 : Nat) (a_p1_guests : Nat) (a_t_singersByRow : Nat) (a_t_most : Nat) (a_t_mostBefore : Nat) (a_p1_numbers : Nat) (a_p1_coats : Nat) (a_p1_line : Nat) (p1_waiting : Int32) (p1_arrived : Int32) (p1_standing : Int32) (p1_climbed : Int32) (p1_drawn : Int32) (p1_guests : (Nat → Int32)) (x2 : Int32) (res : Int32) (hf : f_X5_lonely p1_guests x2 = some res) (hP : va_P D vwCl (w_X5_lonely cI cB cZ a_t a_p1 a_p1_guests a_t_singersByRow a_t_most a_t_mostBefore a_p1_numbers a_p1_coats a_p1_line p1_waiting p1_arrived p1_standing p1_climbed p1_drawn p1_guests) s.heap) (hQ : ∀ (pc : Nat) (ls : Array Slot), True → decode cX5_lonely pc = .ok (.ireturn, 1) → W p l e R s m args below meth c s.heap [] 0 0 Q (F0 m pc ls [.int res])) (ls : Array Slot) (hl : lv_has ls 6 [(0, .ref a_t), (1, .ref a_p1), (2, .int x2)]) : W p l e R s m args below meth c s.heap [] 0 0 Q (F0 m 0 ls []) := by
  unfold f_X5_lonely at hf
  refine lv_iconst (v := 0) hx hb dX5_lonely_0 (by decide) ?_
  refine lv_istore_n (lv' := [(3, .int 0), (0, .ref a_t), (1, .ref a_p1), (2, .int x2)]) hx hb dX5_lonely_1 rfl hl (by decide) rfl (fun ls hl => ?_)
  refine lv_bipush (v := (-2)) hx hb dX5_lonely_2 (by decide) ?_
  refine lv_istore (lv' := [(4, .int (-2)), (3, .int 0), (0, .ref a_t), (1, .ref a_p1), (2, .int x2)]) hx hb dX5_lonely_4 hl (by decide) rfl (fun ls hl => ?_)
  refine lv_iconst (v := 0) hx hb dX5_lonely_6 (by decide) ?_
  have J_9 : ∀ (n_9 : Nat) (x2 : Int32) (x3 : Int32) (x4 : Int32) (x5 : Int32) (ls : Array Slot), f_X5_lonely_9 p1_guests n_9 x2 x3 x4 x5 = some res → lv_has ls 6 [(0, .ref a_t), (1, .ref a_p1), (2, .int x2), (3, .int x3), (4, .int x4), (5, .int x5)] → W p l e R s m args below meth c s.heap [] 0 0 Q (F0 m 9 ls []) := by
    intro n_9
    induction n_9 with
    | zero =>
      intro x2 x3 x4 x5 ls hf hl
      cases hf
    | succ n_9 ih_9 =>
      intro x2 x3 x4 x5 ls hf hl
      unfold f_X5_lonely_9 at hf
      refine lv_iload hx hb dX5_lonely_9 (lv_at hl 5 rfl) ?_
      refine lv_sipush (v := 144) hx hb dX5_lonely_11 (by decide) ?_
      refine lv_icmp_ge (tgt := 61) hx hb dX5_lonely_14 (by decide) (fun hc_14 => ?_) (fun hc_14 => ?_)
      · have hf := it_pos hc_14 hf
        refine lv_iload_n hx hb dX5_lonely_61 rfl (lv_at hl 2 rfl) ?_
        refine lv_if_ne (tgt := 69) hx hb dX5_lonely_62 (by decide) (fun hc_62 => ?_) (fun hc_62 => ?_)
        · have hf := it_neg hc_62 hf
          refine lv_iload hx hb dX5_lonely_69 (lv_at hl 4 rfl) ?_
          obtain rfl := Option.some.inj hf
          exact hQ 71 ls trivial dX5_lonely_71
        · have hf := it_pos hc_62 hf
          refine lv_iload_n hx hb dX5_lonely_65 rfl (lv_at hl 3 rfl) ?_
          refine lv_goto (tgt := 71) hx hb dX5_lonely_66 (by decide) ?_
          obtain rfl := Option.some.inj hf
          exact hQ 71 ls trivial dX5_lonely_71
      · have hf := it_neg hc_14 hf
        refine lv_aload_n hx hb dX5_lonely_17 rfl (lv_at hl 1 rfl) ?_
        refine lv_iload hx hb dX5_lonely_18 (lv_at hl 5 rfl) ?_
        obtain ⟨z20, e20, hf⟩ := bd_some hf
        refine rV_RO (As := [.int x5]) (rest := []) ⟨hx, hb, hml, hown, hT⟩ (gdV tb_863 tb_685 tb_686 tb_88 tb_687) hd_X0_isTaken (c_X0_isTaken l D cI cB cZ a_p1 a_p1_guests a_p1_numbers a_p1_coats a_p1_line p1_waiting p1_arrived p1_standing p1_climbed p1_drawn p1_guests x5 z20 e20) ⟨rfl, rfl⟩ ⟨Nat.le_trans (by decide) hRf, Nat.le_trans (by decide) hRl⟩ ⟨hK, hN⟩ hP [1, 2] rfl 1 rfl rfl rfl hl.1 rfl (Nat.le_of_ble_eq_true rfl) ⟨Nat.zero_le _, Nat.zero_le _⟩ dX5_lonely_20 (fun hz_20 => ?_)
        refine lv_if_eq (tgt := 55) hx hb dX5_lonely_23 (by decide) (fun hc_23 => ?_) (fun hc_23 => ?_)
        · have hf := it_pos hc_23 hf
          refine lv_iinc (v := x5 + 1) (lv' := [(5, .int (x5 + 1)), (0, .ref a_t), (1, .ref a_p1), (2, .int x2), (3, .int x3), (4, .int x4)]) hx hb dX5_lonely_55 hl (k := 5) rfl (congrArg (_ + ·) (by decide : Int32.ofInt 1 = 1)) (by decide) rfl (fun ls hl => ?_)
          refine lv_goto (tgt := 9) hx hb dX5_lonely_58 (by decide) ?_
          exact ih_9 _ _ _ _ _ hf (lv_sub hl [1, 2, 3, 4, 5, 0] rfl)
        · have hf := it_neg hc_23 hf
          refine lv_aload_n hx hb dX5_lonely_26 rfl (lv_at hl 0 rfl) ?_
          refine lv_aload_n hx hb dX5_lonely_27 rfl (lv_at hl 1 rfl) ?_
          refine lv_iload hx hb dX5_lonely_28 (lv_at hl 5 rfl) ?_
          obtain ⟨z30, e30, hf⟩ := bd_some hf
          refine rV_RO (As := [.ref a_p1, .int x5]) (rest := []) ⟨hx, hb, hml, hown, hT⟩ (gdV tb_1017 tb_1019 tb_25 tb_94 tb_1020) hd_X5_isLonely (c_X5_isLonely l D cI cB cZ a_p1 a_p1_guests a_p1_numbers a_p1_coats a_p1_line a_t p1_waiting p1_arrived p1_standing p1_climbed p1_drawn p1_guests x5 z30 e30) ⟨rfl, rfl⟩ ⟨Nat.le_trans (by decide) hRf, Nat.le_trans (by decide) hRl⟩ ⟨hK, hN⟩ hP [1, 2] rfl 0 rfl rfl rfl hl.1 rfl (Nat.le_of_ble_eq_true rfl) ⟨Nat.zero_le _, Nat.zero_le _⟩ dX5_lonely_30 (fun hz_30 => ?_)
          refine lv_if_eq (tgt := 55) hx hb dX5_lonely_33 (by decide) (fun hc_33 => ?_) (fun hc_33 => ?_)
          · have hf := it_pos hc_33 hf
            refine lv_iinc (v := x5 + 1) (lv' := [(5, .int (x5 + 1)), (0, .ref a_t), (1, .ref a_p1), (2, .int x2), (3, .int x3), (4, .int x4)]) hx hb dX5_lonely_55 hl (k := 5) rfl (congrArg (_ + ·) (by decide : Int32.ofInt 1 = 1)) (by decide) rfl (fun ls hl => ?_)
            refine lv_goto (tgt := 9) hx hb dX5_lonely_58 (by decide) ?_
            exact ih_9 _ _ _ _ _ hf (lv_sub hl [1, 2, 3, 4, 5, 0] rfl)
          · have hf := it_neg hc_33 hf
            refine lv_iinc (v := x3 + 1) (lv' := [(3, .int (x3 + 1)), (0, .ref a_t), (1, .ref a_p1), (2, .int x2), (4, .int x4), (5, .int x5)]) hx hb dX5_lonely_36 hl (k := 3) rfl (congrArg (_ + ·) (by decide : Int32.ofInt 1 = 1)) (by decide) rfl (fun ls hl => ?_)
            refine lv_iload hx hb dX5_lonely_39 (lv_at hl 4 rfl) ?_
            refine lv_bipush (v := (-2)) hx hb dX5_lonely_41 (by decide) ?_
            refine lv_icmp_ne (tgt := 51) hx hb dX5_lonely_43 (by decide) (fun hc_43 => ?_) (fun hc_43 => ?_)
            · have hf := it_neg hc_43 hf
              refine lv_iload hx hb dX5_lonely_51 (lv_at hl 4 rfl) ?_
              refine lv_istore (lv' := [(4, .int x4), (3, .int (x3 + 1)), (0, .ref a_t), (1, .ref a_p1), (2, .int x2), (5, .int x5)]) hx hb dX5_lonely_53 hl (by decide) rfl (fun ls hl => ?_)
              refine lv_iinc (v := x5 + 1) (lv' := [(5, .int (x5 + 1)), (4, .int x4), (3, .int (x3 + 1)), (0, .ref a_t), (1, .ref a_p1), (2, .int x2)]) hx hb dX5_lonely_55 hl (k := 5) rfl (congrArg (_ + ·) (by decide : Int32.ofInt 1 = 1)) (by decide) rfl (fun ls hl => ?_)
              refine lv_goto (tgt := 9) hx hb dX5_lonely_58 (by decide) ?_
              exact ih_9 _ _ _ _ _ hf (lv_sub hl [3, 4, 5, 2, 1, 0] rfl)
            · have hf := it_pos hc_43 hf
              refine lv_iload hx hb dX5_lonely_46 (lv_at hl 5 rfl) ?_
              refine lv_goto (tgt := 53) hx hb dX5_lonely_48 (by decide) ?_
              refine lv_istore (lv' := [(4, .int x5), (3, .int (x3 + 1)), (0, .ref a_t), (1, .ref a_p1), (2, .int x2), (5, .int x5)]) hx hb dX5_lonely_53 hl (by decide) rfl (fun ls hl => ?_)
              refine lv_iinc (v := x5 + 1) (lv' := [(5, .int (x5 + 1)), (4, .int x5), (3, .int (x3 + 1)), (0, .ref a_t), (1, .ref a_p1), (2, .int x2)]) hx hb dX5_lonely_55 hl (k := 5) rfl (congrArg (_ + ·) (by decide : Int32.ofInt 1 = 1)) (by decide) rfl (fun ls hl => ?_)
              refine lv_goto (tgt := 9) hx hb dX5_lonely_58 (by decide) ?_
              exact ih_9 _ _ _ _ _ hf (lv_sub hl [3, 4, 5, 2, 1, 0] rfl)
  refine lv_istore (lv' := [(5, .int 0), (4, .int (-2)), (3, .int 0), (0, .ref a_t), (1, .ref a_p1), (2, .int x2)]) hx hb dX5_lonely_7 hl (by decide) rfl (fun ls hl => ?_)
  exact J_9 _ _ _ _ _ _ hf (lv_sub hl [3, 4, 5, 2, 1, 0] rfl)
theorem hd_X5_lonely : (yX5_lonely).cls = RX5 ∧ (yX5_lonely).cls ≠ "java/lang/invoke/MethodHandle" ∧ (yX5_lonely).cls ≠ "java/lang/invoke/VarHandle" ∧ (parseMethodDescriptor (yX5_lonely).desc).map (fun d => d.parameters.length) = some 2 := by decide +kernel
theorem c_X5_lonely (l : Launch) (D : va_G) (cI cB cZ : ClassId) (a_t : Nat) (a_p1 : Nat) (a_p1_guests : Nat) (a_t_singersByRow : Nat) (a_t_most : Nat) (a_t_mostBefore : Nat) (a_p1_numbers : Nat) (a_p1_coats : Nat) (a_p1_line : Nat) (p1_waiting : Int32) (p1_arrived : Int32) (p1_standing : Int32) (p1_climbed : Int32) (p1_drawn : Int32) (p1_guests : (Nat → Int32)) (x2 : Int32) (res : Int32) (hf : f_X5_lonely p1_guests x2 = some res) : Met l yX5_lonely (.code yX5_lonely cX5_lonely 6 (some .int) :: TB) (rmk (3) (70)) (pRO [.ref a_t, .ref a_p1, .int x2] D cI cB cZ (w_X5_lonely cI cB cZ a_t a_p1 a_p1_guests a_t_singersByRow a_t_most a_t_mostBefore a_p1_numbers a_p1_coats a_p1_line p1_waiting p1_arrived p1_standing p1_climbed p1_drawn p1_guests)) (qRO (some (.int res)) True) 0 0 (fun _ => False) :=
  mkRO (by decide +kernel) (Nat.le_of_ble_eq_true rfl) (fun p e s m below meth c ls S hr hlk hK hP hl => b_X5_lonely S.1 S.2.1 S.2.2.1 S.2.2.2.1 S.2.2.2.2 (Nat.le_refl _) (Nat.le_refl _) hK.1 hK.2 a_t a_p1 a_p1_guests a_t_singersByRow a_t_most a_t_mostBefore a_p1_numbers a_p1_coats a_p1_line p1_waiting p1_arrived p1_standing p1_climbed p1_drawn p1_guests x2 res hf hP (fun pc ls hE hd => eRO_i S.1 S.2.1 hr rfl hlk hE hd) ls hl)
def f_X5_familiesWaiting_4 (p1_waiting : Int32) (p1_line : (Nat → Int32)) : Nat → Int32 → Int32 → Option (Int32)
  | 0, _, _ => none
  | n + 1, x2, x3 => (if p1_waiting ≤ x3 then some (x2) else (if 200 ≤ x3 then some (x2) else ix 200 x3 ((f_X1_familyOf (p1_line x3.toNatClampNeg)).bind (fun z27 => (f_X5_familiesWaiting_4 p1_waiting p1_line n) (x2 ||| (1 <<< (z27 &&& 31))) (x3 + 1)))))
def f_X5_familiesWaiting (p1_waiting : Int32) (p1_line : (Nat → Int32)) : Option (Int32) := f_X5_familiesWaiting_4 p1_waiting p1_line FU 0 0
def w_X5_familiesWaiting (cI cB cZ : ClassId) (a_p1 : Nat) (a_p1_line : Nat) (a_p1_guests : Nat) (a_p1_numbers : Nat) (a_p1_coats : Nat) (a_t : Nat) (p1_waiting : Int32) (p1_arrived : Int32) (p1_standing : Int32) (p1_climbed : Int32) (p1_drawn : Int32) (p1_line : (Nat → Int32)) : va_W := [(a_p1, .inr (0, [.ref a_p1_guests, .ref a_p1_numbers, .ref a_p1_coats, .ref a_p1_line, .int p1_waiting, .int p1_arrived, .int p1_standing, .int p1_climbed, .int p1_drawn])), (a_p1_line, .inl (cI, 200, .inl p1_line))]
set_option maxHeartbeats 4000000 in
set_option maxRecDepth 100000 in
theorem b_X5_familiesWaiting {p : Program} {l : Launch} {e : Env} {R : Room} {s : State} {m : MethodId} {args : Array Value} {below : List Frame} {meth : Method} {c : Code} {Q : State → Prop} {D : va_G} {cI cB cZ : ClassId} (hx : p.tables.exec = Jvm.exec) (hb : c.code = cX5_familiesWaiting) (hml : c.maxLocals = 4) (hown : s.vm.findClass RX5 = some m.cls) (hT : ∀ w ∈ TB, w.before args s = true) (hRf : (1) ≤ R.frames) (hRl : (20) ≤ R.locals) (hK : va_K D vwCl (tyL cI cB cZ) s) (hN : NW s)  (a_p1 : Nat) (a_p1_line : Nat) (a_p1_guests : Nat) (a_p1_numbers : Nat) (a_p1_coats : Nat) (a_t : Nat) (p1_waiting : Int32) (p1_arrived : Int32) (p1_standing : Int32) (p1_climbed : Int32) (p1_drawn : Int32) (p1_line : (Nat → Int32)) (res : Int32) (hf : f_X5_familiesWaiting p1_waiting p1_line = some res) (hP : va_P D vwCl (w_X5_familiesWaiting cI cB cZ a_p1 a_p1_line a_p1_guests a_p1_numbers a_p1_coats a_t p1_waiting p1_arrived p1_standing p1_climbed p1_drawn p1_line) s.heap) (hQ : ∀ (pc : Nat) (ls : Array Slot), True → decode cX5_familiesWaiting pc = .ok (.ireturn, 1) → W p l e R s m args below meth c s.heap [] 0 0 Q (F0 m pc ls [.int res])) (ls : Array Slot) (hl : lv_has ls 4 [(0, .ref a_t), (1, .ref a_p1)]) : W p l e R s m args below meth c s.heap [] 0 0 Q (F0 m 0 ls []) := by
  unfold f_X5_familiesWaiting at hf
  refine lv_iconst (v := 0) hx hb dX5_familiesWaiting_0 (by decide) ?_
  refine lv_istore_n (lv' := [(2, .int 0), (0, .ref a_t), (1, .ref a_p1)]) hx hb dX5_familiesWaiting_1 rfl hl (by decide) rfl (fun ls hl => ?_)
  refine lv_iconst (v := 0) hx hb dX5_familiesWaiting_2 (by decide) ?_
  have J_4 : ∀ (n_4 : Nat) (x2 : Int32) (x3 : Int32) (ls : Array Slot), f_X5_familiesWaiting_4 p1_waiting p1_line n_4 x2 x3 = some res → lv_has ls 4 [(1, .ref a_p1), (2, .int x2), (3, .int x3)] → W p l e R s m args below meth c s.heap [] 0 0 Q (F0 m 4 ls []) := by
    intro n_4
    induction n_4 with
    | zero =>
      intro x2 x3 ls hf hl
      cases hf
    | succ n_4 ih_4 =>
      intro x2 x3 ls hf hl
      unfold f_X5_familiesWaiting_4 at hf
      refine lv_iload_n hx hb dX5_familiesWaiting_4 rfl (lv_at hl 2 rfl) ?_
      refine lv_aload_n hx hb dX5_familiesWaiting_5 rfl (lv_at hl 0 rfl) ?_
      refine va_get (D := D) (ci := 0) (v := .int p1_waiting) (C := RX0) (T := TX0) (N := 9) hx hb hT inX0 hown hK hP 0 rfl rfl 4 (by decide) (hT _ tb_185) (fun _ h9 => h9) rfl dX5_familiesWaiting_6 ?_
      refine lv_icmp_ge (tgt := 39) hx hb dX5_familiesWaiting_9 (by decide) (fun hc_9 => ?_) (fun hc_9 => ?_)
      · have hf := it_pos hc_9 hf
        refine lv_iload_n hx hb dX5_familiesWaiting_39 rfl (lv_at hl 1 rfl) ?_
        obtain rfl := Option.some.inj hf
        exact hQ 40 ls trivial dX5_familiesWaiting_40
      · have hf := it_neg hc_9 hf
        refine lv_iload_n hx hb dX5_familiesWaiting_12 rfl (lv_at hl 2 rfl) ?_
        refine lv_sipush (v := 200) hx hb dX5_familiesWaiting_13 (by decide) ?_
        refine lv_icmp_ge (tgt := 39) hx hb dX5_familiesWaiting_16 (by decide) (fun hc_16 => ?_) (fun hc_16 => ?_)
        · have hf := it_pos hc_16 hf
          refine lv_iload_n hx hb dX5_familiesWaiting_39 rfl (lv_at hl 1 rfl) ?_
          obtain rfl := Option.some.inj hf
          exact hQ 40 ls trivial dX5_familiesWaiting_40
        · have hf := it_neg hc_16 hf
          refine lv_iload_n hx hb dX5_familiesWaiting_19 rfl (lv_at hl 1 rfl) ?_
          refine lv_iconst (v := 1) hx hb dX5_familiesWaiting_20 (by decide) ?_
          refine lv_aload_n hx hb dX5_familiesWaiting_21 rfl (lv_at hl 0 rfl) ?_
          refine va_get (D := D) (ci := 0) (v := .ref a_p1_line) (C := RX0) (T := TX0) (N := 9) hx hb hT inX0 hown hK hP 0 rfl rfl 3 (by decide) (hT _ tb_179) (fun _ h9 => h9) rfl dX5_familiesWaiting_22 ?_
          refine lv_iload_n hx hb dX5_familiesWaiting_25 rfl (lv_at hl 2 rfl) ?_
          obtain ⟨hi_26, hf⟩ := ix_some hf
          refine va_iald hx hb hK hP 1 0 rfl rfl hi_26 dX5_familiesWaiting_26 ?_
          obtain ⟨z27, e27, hf⟩ := bd_some hf
          refine rS_RO (As := [.int (p1_line x3.toNatClampNeg)]) (rest := [.int 1, .int x2]) ⟨hx, hb, hml, hown, hT⟩ (gdS tb_848 tb_719 tb_104 tb_720) hd_X1_familyOf (c_X1_familyOf l D cI cB cZ (p1_line x3.toNatClampNeg) z27 e27) ⟨rfl, rfl⟩ ⟨Nat.le_trans (by decide) hRf, Nat.le_trans (by decide) hRl⟩ ⟨hK, hN⟩ hP [] rfl rfl hl.1 rfl (Nat.le_of_ble_eq_true rfl) ⟨Nat.zero_le _, Nat.zero_le _⟩ dX5_familiesWaiting_27 (fun _ => ?_)
          refine lv_ishl hx hb dX5_familiesWaiting_30 ?_
          refine lv_ior hx hb dX5_familiesWaiting_31 ?_
          refine lv_istore_n (lv' := [(2, .int (x2 ||| (1 <<< (z27 &&& 31)))), (1, .ref a_p1), (3, .int x3)]) hx hb dX5_familiesWaiting_32 rfl hl (by decide) rfl (fun ls hl => ?_)
          refine lv_iinc (v := x3 + 1) (lv' := [(3, .int (x3 + 1)), (2, .int (x2 ||| (1 <<< (z27 &&& 31)))), (1, .ref a_p1)]) hx hb dX5_familiesWaiting_33 hl (k := 2) rfl (congrArg (_ + ·) (by decide : Int32.ofInt 1 = 1)) (by decide) rfl (fun ls hl => ?_)
          refine lv_goto (tgt := 4) hx hb dX5_familiesWaiting_36 (by decide) ?_
          exact ih_4 _ _ _ hf (lv_sub hl [2, 1, 0] rfl)
  refine lv_istore_n (lv' := [(3, .int 0), (2, .int 0), (0, .ref a_t), (1, .ref a_p1)]) hx hb dX5_familiesWaiting_3 rfl hl (by decide) rfl (fun ls hl => ?_)
  exact J_4 _ _ _ _ hf (lv_sub hl [3, 1, 0] rfl)
theorem hd_X5_familiesWaiting : (yX5_familiesWaiting).cls = RX5 ∧ (yX5_familiesWaiting).cls ≠ "java/lang/invoke/MethodHandle" ∧ (yX5_familiesWaiting).cls ≠ "java/lang/invoke/VarHandle" ∧ (parseMethodDescriptor (yX5_familiesWaiting).desc).map (fun d => d.parameters.length) = some 1 := by decide +kernel
theorem c_X5_familiesWaiting (l : Launch) (D : va_G) (cI cB cZ : ClassId) (a_p1 : Nat) (a_p1_line : Nat) (a_p1_guests : Nat) (a_p1_numbers : Nat) (a_p1_coats : Nat) (a_t : Nat) (p1_waiting : Int32) (p1_arrived : Int32) (p1_standing : Int32) (p1_climbed : Int32) (p1_drawn : Int32) (p1_line : (Nat → Int32)) (res : Int32) (hf : f_X5_familiesWaiting p1_waiting p1_line = some res) : Met l yX5_familiesWaiting (.code yX5_familiesWaiting cX5_familiesWaiting 4 (some .int) :: TB) (rmk (1) (20)) (pRO [.ref a_t, .ref a_p1] D cI cB cZ (w_X5_familiesWaiting cI cB cZ a_p1 a_p1_line a_p1_guests a_p1_numbers a_p1_coats a_t p1_waiting p1_arrived p1_standing p1_climbed p1_drawn p1_line)) (qRO (some (.int res)) True) 0 0 (fun _ => False) :=
  mkRO (by decide +kernel) (Nat.le_of_ble_eq_true rfl) (fun p e s m below meth c ls S hr hlk hK hP hl => b_X5_familiesWaiting S.1 S.2.1 S.2.2.1 S.2.2.2.1 S.2.2.2.2 (Nat.le_refl _) (Nat.le_refl _) hK.1 hK.2 a_p1 a_p1_line a_p1_guests a_p1_numbers a_p1_coats a_t p1_waiting p1_arrived p1_standing p1_climbed p1_drawn p1_line res hf hP (fun pc ls hE hd => eRO_i S.1 S.2.1 hr rfl hlk hE hd) ls hl)
def f_X5_isLike (x0 : Int32) (x1 : Int32) : Option (Int32) := (if x1 = 3 then (f_X1_childOf x0).bind (fun z6 => (if z6 = 1 then some (1) else some (0))) else (if x1 = 4 then (f_X1_singerOf x0).bind (fun z25 => (if z25 = 1 then some (1) else some (0))) else (f_X1_sideOf x0).bind (fun z41 => (if z41 = x1 then some (1) else some (0)))))
def w_X5_isLike (cI cB cZ : ClassId) : va_W := []
set_option maxHeartbeats 4000000 in
set_option maxRecDepth 100000 in
theorem b_X5_isLike {p : Program} {l : Launch} {e : Env} {R : Room} {s : State} {m : MethodId} {args : Array Value} {below : List Frame} {meth : Method} {c : Code} {Q : State → Prop} {D : va_G} {cI cB cZ : ClassId} (hx : p.tables.exec = Jvm.exec) (hb : c.code = cX5_isLike) (hml : c.maxLocals = 2) (hown : s.vm.findClass RX5 = some m.cls) (hT : ∀ w ∈ TB, w.before args s = true) (hRf : (1) ≤ R.frames) (hRl : (20) ≤ R.locals) (hK : va_K D vwCl (tyL cI cB cZ) s) (hN : NW s)  (x0 : Int32) (x1 : Int32) (res : Int32) (hf : f_X5_isLike x0 x1 = some res) (hP : va_P D vwCl (w_X5_isLike cI cB cZ ) s.heap) (hQ : ∀ (pc : Nat) (ls : Array Slot), (res = 0 ∨ res = 1) → decode cX5_isLike pc = .ok (.ireturn, 1) → W p l e R s m args below meth c s.heap [] 0 0 Q (F0 m pc ls [.int res])) (ls : Array Slot) (hl : lv_has ls 2 [(0, .int x0), (1, .int x1)]) : W p l e R s m args below meth c s.heap [] 0 0 Q (F0 m 0 ls []) := by
  unfold f_X5_isLike at hf
  refine lv_iload_n hx hb dX5_isLike_0 rfl (lv_at hl 1 rfl) ?_
  refine lv_iconst (v := 3) hx hb dX5_isLike_1 (by decide) ?_
  refine lv_icmp_ne (tgt := 19) hx hb dX5_isLike_2 (by decide) (fun hc_2 => ?_) (fun hc_2 => ?_)
  · have hf := it_neg hc_2 hf
    refine lv_iload_n hx hb dX5_isLike_19 rfl (lv_at hl 1 rfl) ?_
    refine lv_iconst (v := 4) hx hb dX5_isLike_20 (by decide) ?_
    refine lv_icmp_ne (tgt := 40) hx hb dX5_isLike_21 (by decide) (fun hc_21 => ?_) (fun hc_21 => ?_)
    · have hf := it_neg hc_21 hf
      refine lv_iload_n hx hb dX5_isLike_40 rfl (lv_at hl 0 rfl) ?_
      obtain ⟨z41, e41, hf⟩ := bd_some hf
      refine rS_RO (As := [.int x0]) (rest := []) ⟨hx, hb, hml, hown, hT⟩ (gdS tb_1037 tb_726 tb_104 tb_727) hd_X1_sideOf (c_X1_sideOf l D cI cB cZ x0 z41 e41) ⟨rfl, rfl⟩ ⟨Nat.le_trans (by decide) hRf, Nat.le_trans (by decide) hRl⟩ ⟨hK, hN⟩ hP [] rfl rfl hl.1 rfl (Nat.le_of_ble_eq_true rfl) ⟨Nat.zero_le _, Nat.zero_le _⟩ dX5_isLike_41 (fun _ => ?_)
      refine lv_iload_n hx hb dX5_isLike_44 rfl (lv_at hl 1 rfl) ?_
      refine lv_icmp_ne (tgt := 52) hx hb dX5_isLike_45 (by decide) (fun hc_45 => ?_) (fun hc_45 => ?_)
      · have hf := it_neg hc_45 hf
        refine lv_iconst (v := 0) hx hb dX5_isLike_52 (by decide) ?_
        obtain rfl := Option.some.inj hf
        exact hQ 53 ls (Or.inl rfl) dX5_isLike_53
      · have hf := it_pos hc_45 hf
        refine lv_iconst (v := 1) hx hb dX5_isLike_48 (by decide) ?_
        refine lv_goto (tgt := 53) hx hb dX5_isLike_49 (by decide) ?_
        obtain rfl := Option.some.inj hf
        exact hQ 53 ls (Or.inr rfl) dX5_isLike_53
    · have hf := it_pos hc_21 hf
      refine lv_iload_n hx hb dX5_isLike_24 rfl (lv_at hl 0 rfl) ?_
      obtain ⟨z25, e25, hf⟩ := bd_some hf
      refine rS_RO (As := [.int x0]) (rest := []) ⟨hx, hb, hml, hown, hT⟩ (gdS tb_1003 tb_735 tb_104 tb_736) hd_X1_singerOf (c_X1_singerOf l D cI cB cZ x0 z25 e25) ⟨rfl, rfl⟩ ⟨Nat.le_trans (by decide) hRf, Nat.le_trans (by decide) hRl⟩ ⟨hK, hN⟩ hP [] rfl rfl hl.1 rfl (Nat.le_of_ble_eq_true rfl) ⟨Nat.zero_le _, Nat.zero_le _⟩ dX5_isLike_25 (fun _ => ?_)
      refine lv_iconst (v := 1) hx hb dX5_isLike_28 (by decide) ?_
      refine lv_icmp_ne (tgt := 36) hx hb dX5_isLike_29 (by decide) (fun hc_29 => ?_) (fun hc_29 => ?_)
      · have hf := it_neg hc_29 hf
        refine lv_iconst (v := 0) hx hb dX5_isLike_36 (by decide) ?_
        refine lv_goto (tgt := 53) hx hb dX5_isLike_37 (by decide) ?_
        obtain rfl := Option.some.inj hf
        exact hQ 53 ls (Or.inl rfl) dX5_isLike_53
      · have hf := it_pos hc_29 hf
        refine lv_iconst (v := 1) hx hb dX5_isLike_32 (by decide) ?_
        refine lv_goto (tgt := 53) hx hb dX5_isLike_33 (by decide) ?_
        obtain rfl := Option.some.inj hf
        exact hQ 53 ls (Or.inr rfl) dX5_isLike_53
  · have hf := it_pos hc_2 hf
    refine lv_iload_n hx hb dX5_isLike_5 rfl (lv_at hl 0 rfl) ?_
    obtain ⟨z6, e6, hf⟩ := bd_some hf
    refine rS_RO (As := [.int x0]) (rest := []) ⟨hx, hb, hml, hown, hT⟩ (gdS tb_1036 tb_732 tb_104 tb_733) hd_X1_childOf (c_X1_childOf l D cI cB cZ x0 z6 e6) ⟨rfl, rfl⟩ ⟨Nat.le_trans (by decide) hRf, Nat.le_trans (by decide) hRl⟩ ⟨hK, hN⟩ hP [] rfl rfl hl.1 rfl (Nat.le_of_ble_eq_true rfl) ⟨Nat.zero_le _, Nat.zero_le _⟩ dX5_isLike_6 (fun _ => ?_)
    refine lv_iconst (v := 1) hx hb dX5_isLike_9 (by decide) ?_
    refine lv_icmp_ne (tgt := 17) hx hb dX5_isLike_10 (by decide) (fun hc_10 => ?_) (fun hc_10 => ?_)
    · have hf := it_neg hc_10 hf
      refine lv_iconst (v := 0) hx hb dX5_isLike_17 (by decide) ?_
      obtain rfl := Option.some.inj hf
      exact hQ 18 ls (Or.inl rfl) dX5_isLike_18
    · have hf := it_pos hc_10 hf
      refine lv_iconst (v := 1) hx hb dX5_isLike_13 (by decide) ?_
      refine lv_goto (tgt := 18) hx hb dX5_isLike_14 (by decide) ?_
      obtain rfl := Option.some.inj hf
      exact hQ 18 ls (Or.inr rfl) dX5_isLike_18
theorem hd_X5_isLike : (yX5_isLike).cls ≠ "java/lang/invoke/MethodHandle" ∧ (yX5_isLike).cls ≠ "java/lang/invoke/VarHandle" ∧ (parseMethodDescriptor (yX5_isLike).desc).map (fun d => d.parameters.length) = some 2 := by decide +kernel
theorem c_X5_isLike (l : Launch) (D : va_G) (cI cB cZ : ClassId) (x0 : Int32) (x1 : Int32) (res : Int32) (hf : f_X5_isLike x0 x1 = some res) : Met l yX5_isLike (.code yX5_isLike cX5_isLike 2 (some .boolean) :: TB) (rmk (1) (20)) (pRO [.int x0, .int x1] D cI cB cZ (w_X5_isLike cI cB cZ )) (qRO (some (.int res)) (res = 0 ∨ res = 1)) 0 0 (fun _ => False) :=
  mkRO (by decide +kernel) (Nat.le_of_ble_eq_true rfl) (fun p e s m below meth c ls S hr hlk hK hP hl => b_X5_isLike S.1 S.2.1 S.2.2.1 S.2.2.2.1 S.2.2.2.2 (Nat.le_refl _) (Nat.le_refl _) hK.1 hK.2 x0 x1 res hf hP (fun pc ls hE hd => eRO_i S.1 S.2.1 hr (nz_ok hE) hlk hE hd) ls hl)
def f_X5_waitingLike_5 (p1_waiting : Int32) (p1_line : (Nat → Int32)) : Nat → Int32 → Int32 → Int32 → Option (Int32)
  | 0, _, _, _ => none
  | n + 1, x2, x3, x4 => (if p1_waiting ≤ x4 then some (x3) else (if 200 ≤ x4 then some (x3) else ix 200 x4 ((f_X5_isLike (p1_line x4.toNatClampNeg) x2).bind (fun z30 => (if z30 = 0 then (f_X5_waitingLike_5 p1_waiting p1_line n) x2 x3 (x4 + 1) else (f_X5_waitingLike_5 p1_waiting p1_line n) x2 (x3 + 1) (x4 + 1))))))
def f_X5_waitingLike (p1_waiting : Int32) (p1_line : (Nat → Int32)) (x2 : Int32) : Option (Int32) := f_X5_waitingLike_5 p1_waiting p1_line FU x2 0 0
def w_X5_waitingLike (cI cB cZ : ClassId) (a_p1 : Nat) (a_p1_line : Nat) (a_p1_guests : Nat) (a_p1_numbers : Nat) (a_p1_coats : Nat) (a_t : Nat) (p1_waiting : Int32) (p1_arrived : Int32) (p1_standing : Int32) (p1_climbed : Int32) (p1_drawn : Int32) (p1_line : (Nat → Int32)) : va_W := [(a_p1, .inr (0, [.ref a_p1_guests, .ref a_p1_numbers, .ref a_p1_coats, .ref a_p1_line, .int p1_waiting, .int p1_arrived, .int p1_standing, .int p1_climbed, .int p1_drawn])), (a_p1_line, .inl (cI, 200, .inl p1_line))]
set_option maxHeartbeats 4000000 in
set_option maxRecDepth 100000 in
theorem b_X5_waitingLike {p : Program} {l : Launch} {e : Env} {R : Room} {s : State} {m : MethodId} {args : Array Value} {below : List Frame} {meth : Method} {c : Code} {Q : State → Prop} {D : va_G} {cI cB cZ : ClassId} (hx : p.tables.exec = Jvm.exec) (hb : c.code = cX5_waitingLike) (hml : c.maxLocals = 5) (hown : s.vm.findClass RX5 = some m.cls) (hT : ∀ w ∈ TB, w.before args s = true) (hRf : (2) ≤ R.frames) (hRl : (41) ≤ R.locals) (hK : va_K D vwCl (tyL cI cB cZ) s) (hN : NW s)  (a_p1 : Nat) (a_p1_line : Nat) (a_p1_guests : Nat) (a_p1_numbers : Nat) (a_p1_coats : Nat) (a_t : Nat) (p1_waiting : Int32) (p1_arrived : Int32) (p1_standing : Int32) (p1_climbed : Int32) (p1_drawn : Int32) (p1_line : (Nat → Int32)) (x2 : Int32) (res : Int32) (hf : f_X5_waitingLike p1_waiting p1_line x2 = some res) (hP : va_P D vwCl (w_X5_waitingLike cI cB cZ a_p1 a_p1_line a_p1_guests a_p1_numbers a_p1_coats a_t p1_waiting p1_arrived p1_standing p1_climbed p1_drawn p1_line) s.heap) (hQ : ∀ (pc : Nat) (ls : Array Slot), True → decode cX5_waitingLike pc = .ok (.ireturn, 1) → W p l e R s m args below meth c s.heap [] 0 0 Q (F0 m pc ls [.int res])) (ls : Array Slot) (hl : lv_has ls 5 [(0, .ref a_t), (1, .ref a_p1), (2, .int x2)]) : W p l e R s m args below meth c s.heap [] 0 0 Q (F0 m 0 ls []) := by
  unfold f_X5_waitingLike at hf
  refine lv_iconst (v := 0) hx hb dX5_waitingLike_0 (by decide) ?_
  refine lv_istore_n (lv' := [(3, .int 0), (0, .ref a_t), (1, .ref a_p1), (2, .int x2)]) hx hb dX5_waitingLike_1 rfl hl (by decide) rfl (fun ls hl => ?_)
  refine lv_iconst (v := 0) hx hb dX5_waitingLike_2 (by decide) ?_
  have J_5 : ∀ (n_5 : Nat) (x2 : Int32) (x3 : Int32) (x4 : Int32) (ls : Array Slot), f_X5_waitingLike_5 p1_waiting p1_line n_5 x2 x3 x4 = some res → lv_has ls 5 [(1, .ref a_p1), (2, .int x2), (3, .int x3), (4, .int x4)] → W p l e R s m args below meth c s.heap [] 0 0 Q (F0 m 5 ls []) := by
    intro n_5
    induction n_5 with
    | zero =>
      intro x2 x3 x4 ls hf hl
      cases hf
    | succ n_5 ih_5 =>
      intro x2 x3 x4 ls hf hl
      unfold f_X5_waitingLike_5 at hf
      refine lv_iload hx hb dX5_waitingLike_5 (lv_at hl 3 rfl) ?_
      refine lv_aload_n hx hb dX5_waitingLike_7 rfl (lv_at hl 0 rfl) ?_
      refine va_get (D := D) (ci := 0) (v := .int p1_waiting) (C := RX0) (T := TX0) (N := 9) hx hb hT inX0 hown hK hP 0 rfl rfl 4 (by decide) (hT _ tb_185) (fun _ h9 => h9) rfl dX5_waitingLike_8 ?_
      refine lv_icmp_ge (tgt := 45) hx hb dX5_waitingLike_11 (by decide) (fun hc_11 => ?_) (fun hc_11 => ?_)
      · have hf := it_pos hc_11 hf
        refine lv_iload_n hx hb dX5_waitingLike_45 rfl (lv_at hl 2 rfl) ?_
        obtain rfl := Option.some.inj hf
        exact hQ 46 ls trivial dX5_waitingLike_46
      · have hf := it_neg hc_11 hf
        refine lv_iload hx hb dX5_waitingLike_14 (lv_at hl 3 rfl) ?_
        refine lv_sipush (v := 200) hx hb dX5_waitingLike_16 (by decide) ?_
        refine lv_icmp_ge (tgt := 45) hx hb dX5_waitingLike_19 (by decide) (fun hc_19 => ?_) (fun hc_19 => ?_)
        · have hf := it_pos hc_19 hf
          refine lv_iload_n hx hb dX5_waitingLike_45 rfl (lv_at hl 2 rfl) ?_
          obtain rfl := Option.some.inj hf
          exact hQ 46 ls trivial dX5_waitingLike_46
        · have hf := it_neg hc_19 hf
          refine lv_aload_n hx hb dX5_waitingLike_22 rfl (lv_at hl 0 rfl) ?_
          refine va_get (D := D) (ci := 0) (v := .ref a_p1_line) (C := RX0) (T := TX0) (N := 9) hx hb hT inX0 hown hK hP 0 rfl rfl 3 (by decide) (hT _ tb_179) (fun _ h9 => h9) rfl dX5_waitingLike_23 ?_
          refine lv_iload hx hb dX5_waitingLike_26 (lv_at hl 3 rfl) ?_
          obtain ⟨hi_28, hf⟩ := ix_some hf
          refine va_iald hx hb hK hP 1 0 rfl rfl hi_28 dX5_waitingLike_28 ?_
          refine lv_iload_n hx hb dX5_waitingLike_29 rfl (lv_at hl 1 rfl) ?_
          obtain ⟨z30, e30, hf⟩ := bd_some hf
          refine rS_RO (As := [.int (p1_line x4.toNatClampNeg), .int x2]) (rest := []) ⟨hx, hb, hml, hown, hT⟩ (gdS tb_1033 tb_1034 tb_94 tb_1035) hd_X5_isLike (c_X5_isLike l D cI cB cZ (p1_line x4.toNatClampNeg) x2 z30 e30) ⟨rfl, rfl⟩ ⟨Nat.le_trans (by decide) hRf, Nat.le_trans (by decide) hRl⟩ ⟨hK, hN⟩ hP [] rfl rfl hl.1 rfl (Nat.le_of_ble_eq_true rfl) ⟨Nat.zero_le _, Nat.zero_le _⟩ dX5_waitingLike_30 (fun hz_30 => ?_)
          refine lv_if_eq (tgt := 39) hx hb dX5_waitingLike_33 (by decide) (fun hc_33 => ?_) (fun hc_33 => ?_)
          · have hf := it_pos hc_33 hf
            refine lv_iinc (v := x4 + 1) (lv' := [(4, .int (x4 + 1)), (1, .ref a_p1), (2, .int x2), (3, .int x3)]) hx hb dX5_waitingLike_39 hl (k := 3) rfl (congrArg (_ + ·) (by decide : Int32.ofInt 1 = 1)) (by decide) rfl (fun ls hl => ?_)
            refine lv_goto (tgt := 5) hx hb dX5_waitingLike_42 (by decide) ?_
            exact ih_5 _ _ _ _ hf (lv_sub hl [1, 2, 3, 0] rfl)
          · have hf := it_neg hc_33 hf
            refine lv_iinc (v := x3 + 1) (lv' := [(3, .int (x3 + 1)), (1, .ref a_p1), (2, .int x2), (4, .int x4)]) hx hb dX5_waitingLike_36 hl (k := 2) rfl (congrArg (_ + ·) (by decide : Int32.ofInt 1 = 1)) (by decide) rfl (fun ls hl => ?_)
            refine lv_iinc (v := x4 + 1) (lv' := [(4, .int (x4 + 1)), (3, .int (x3 + 1)), (1, .ref a_p1), (2, .int x2)]) hx hb dX5_waitingLike_39 hl (k := 3) rfl (congrArg (_ + ·) (by decide : Int32.ofInt 1 = 1)) (by decide) rfl (fun ls hl => ?_)
            refine lv_goto (tgt := 5) hx hb dX5_waitingLike_42 (by decide) ?_
            exact ih_5 _ _ _ _ hf (lv_sub hl [2, 3, 1, 0] rfl)
  refine lv_istore (lv' := [(4, .int 0), (3, .int 0), (0, .ref a_t), (1, .ref a_p1), (2, .int x2)]) hx hb dX5_waitingLike_3 hl (by decide) rfl (fun ls hl => ?_)
  exact J_5 _ _ _ _ _ hf (lv_sub hl [3, 4, 1, 0] rfl)
theorem hd_X5_waitingLike : (yX5_waitingLike).cls = RX5 ∧ (yX5_waitingLike).cls ≠ "java/lang/invoke/MethodHandle" ∧ (yX5_waitingLike).cls ≠ "java/lang/invoke/VarHandle" ∧ (parseMethodDescriptor (yX5_waitingLike).desc).map (fun d => d.parameters.length) = some 2 := by decide +kernel
theorem c_X5_waitingLike (l : Launch) (D : va_G) (cI cB cZ : ClassId) (a_p1 : Nat) (a_p1_line : Nat) (a_p1_guests : Nat) (a_p1_numbers : Nat) (a_p1_coats : Nat) (a_t : Nat) (p1_waiting : Int32) (p1_arrived : Int32) (p1_standing : Int32) (p1_climbed : Int32) (p1_drawn : Int32) (p1_line : (Nat → Int32)) (x2 : Int32) (res : Int32) (hf : f_X5_waitingLike p1_waiting p1_line x2 = some res) : Met l yX5_waitingLike (.code yX5_waitingLike cX5_waitingLike 5 (some .int) :: TB) (rmk (2) (41)) (pRO [.ref a_t, .ref a_p1, .int x2] D cI cB cZ (w_X5_waitingLike cI cB cZ a_p1 a_p1_line a_p1_guests a_p1_numbers a_p1_coats a_t p1_waiting p1_arrived p1_standing p1_climbed p1_drawn p1_line)) (qRO (some (.int res)) True) 0 0 (fun _ => False) :=
  mkRO (by decide +kernel) (Nat.le_of_ble_eq_true rfl) (fun p e s m below meth c ls S hr hlk hK hP hl => b_X5_waitingLike S.1 S.2.1 S.2.2.1 S.2.2.2.1 S.2.2.2.2 (Nat.le_refl _) (Nat.le_refl _) hK.1 hK.2 a_p1 a_p1_line a_p1_guests a_p1_numbers a_p1_coats a_t p1_waiting p1_arrived p1_standing p1_climbed p1_drawn p1_line x2 res hf hP (fun pc ls hE hd => eRO_i S.1 S.2.1 hr rfl hlk hE hd) ls hl)
def f_X5_children_49 (p1_guests : (Nat → Int32)) (k5 : Int32 → Int32 → Int32 → Option (Int32)) (x2 : Int32) (x3 : Int32) (x4 : Int32) (y0 : Int32) : Option (Int32) := (if y0 = x2 then k5 x2 (x3 + 1) (x4 + 1) else k5 x2 x3 (x4 + 1))
def f_X5_children_5 (p1_guests : (Nat → Int32)) : Nat → Int32 → Int32 → Int32 → Option (Int32)
  | 0, _, _, _ => none
  | n + 1, x2, x3, x4 => (if 144 ≤ x4 then some (x3) else (f_X0_isTaken p1_guests x4).bind (fun z16 => (if z16 = 0 then (f_X5_children_5 p1_guests n) x2 x3 (x4 + 1) else (f_X0_guestOn p1_guests x4).bind (fun z25 => (f_X1_childOf z25).bind (fun z28 => (if z28 = 1 then (f_X0_sittingAisleward p1_guests x4).bind (fun z38 => (if z38 = 0 then f_X5_children_49 p1_guests (f_X5_children_5 p1_guests n) x2 x3 x4 1 else f_X5_children_49 p1_guests (f_X5_children_5 p1_guests n) x2 x3 x4 0)) else (f_X5_children_5 p1_guests n) x2 x3 (x4 + 1)))))))
def f_X5_children (p1_guests : (Nat → Int32)) (x2 : Int32) : Option (Int32) := f_X5_children_5 p1_guests FU x2 0 0
def w_X5_children (cI cB cZ : ClassId) (a_p1 : Nat) (a_p1_guests : Nat) (a_p1_numbers : Nat) (a_p1_coats : Nat) (a_p1_line : Nat) (a_t : Nat) (p1_waiting : Int32) (p1_arrived : Int32) (p1_standing : Int32) (p1_climbed : Int32) (p1_drawn : Int32) (p1_guests : (Nat → Int32)) : va_W := [(a_p1, .inr (0, [.ref a_p1_guests, .ref a_p1_numbers, .ref a_p1_coats, .ref a_p1_line, .int p1_waiting, .int p1_arrived, .int p1_standing, .int p1_climbed, .int p1_drawn])), (a_p1_guests, .inl (cI, 144, .inl p1_guests))]
set_option maxHeartbeats 4000000 in
set_option maxRecDepth 100000 in
theorem b_X5_children {p : Program} {l : Launch} {e : Env} {R : Room} {s : State} {m : MethodId} {args : Array Value} {below : List Frame} {meth : Method} {c : Code} {Q : State → Prop} {D : va_G} {cI cB cZ : ClassId} (hx : p.tables.exec = Jvm.exec) (hb : c.code = cX5_children) (hml : c.maxLocals = 5) (hown : s.vm.findClass RX5 = some m.cls) (hT : ∀ w ∈ TB, w.before args s = true) (hRf : (3) ≤ R.frames) (hRl : (85) ≤ R.locals) (hK : va_K D vwCl (tyL cI cB cZ) s) (hN : NW s)  (a_p1 : Nat) (a_p1_guests : Nat) (a_p1_numbers : Nat) (a_p1_coats : Nat) (a_p1_line : Nat) (a_t : Nat) (p1_waiting : Int32) (p1_arrived : Int32) (p1_standing : Int32) (p1_climbed : Int32) (p1_drawn : Int32) (p1_guests : (Nat → Int32)) (x2 : Int32) (res : Int32) (hf : f_X5_children p1_guests x2 = some res) (hP : va_P D vwCl (w_X5_children cI cB cZ a_p1 a_p1_guests a_p1_numbers a_p1_coats a_p1_line a_t p1_waiting p1_arrived p1_standing p1_climbed p1_drawn p1_guests) s.heap) (hQ : ∀ (pc : Nat) (ls : Array Slot), True → decode cX5_children pc = .ok (.ireturn, 1) → W p l e R s m args below meth c s.heap [] 0 0 Q (F0 m pc ls [.int res])) (ls : Array Slot) (hl : lv_has ls 5 [(0, .ref a_t), (1, .ref a_p1), (2, .int x2)]) : W p l e R s m args below meth c s.heap [] 0 0 Q (F0 m 0 ls []) := by
  unfold f_X5_children at hf
  refine lv_iconst (v := 0) hx hb dX5_children_0 (by decide) ?_
  refine lv_istore_n (lv' := [(3, .int 0), (0, .ref a_t), (1, .ref a_p1), (2, .int x2)]) hx hb dX5_children_1 rfl hl (by decide) rfl (fun ls hl => ?_)
  refine lv_iconst (v := 0) hx hb dX5_children_2 (by decide) ?_
  have J_5 : ∀ (n_5 : Nat) (x2 : Int32) (x3 : Int32) (x4 : Int32) (ls : Array Slot), f_X5_children_5 p1_guests n_5 x2 x3 x4 = some res → lv_has ls 5 [(1, .ref a_p1), (2, .int x2), (3, .int x3), (4, .int x4)] → W p l e R s m args below meth c s.heap [] 0 0 Q (F0 m 5 ls []) := by
    intro n_5
    induction n_5 with
    | zero =>
      intro x2 x3 x4 ls hf hl
      cases hf
    | succ n_5 ih_5 =>
      intro x2 x3 x4 ls hf hl
      unfold f_X5_children_5 at hf
      refine lv_iload hx hb dX5_children_5 (lv_at hl 3 rfl) ?_
      refine lv_sipush (v := 144) hx hb dX5_children_7 (by decide) ?_
      refine lv_icmp_ge (tgt := 62) hx hb dX5_children_10 (by decide) (fun hc_10 => ?_) (fun hc_10 => ?_)
      · have hf := it_pos hc_10 hf
        refine lv_iload_n hx hb dX5_children_62 rfl (lv_at hl 2 rfl) ?_
        obtain rfl := Option.some.inj hf
        exact hQ 63 ls trivial dX5_children_63
      · have hf := it_neg hc_10 hf
        refine lv_aload_n hx hb dX5_children_13 rfl (lv_at hl 0 rfl) ?_
        refine lv_iload hx hb dX5_children_14 (lv_at hl 3 rfl) ?_
        obtain ⟨z16, e16, hf⟩ := bd_some hf
        refine rV_RO (As := [.int x4]) (rest := []) ⟨hx, hb, hml, hown, hT⟩ (gdV tb_863 tb_685 tb_686 tb_88 tb_687) hd_X0_isTaken (c_X0_isTaken l D cI cB cZ a_p1 a_p1_guests a_p1_numbers a_p1_coats a_p1_line p1_waiting p1_arrived p1_standing p1_climbed p1_drawn p1_guests x4 z16 e16) ⟨rfl, rfl⟩ ⟨Nat.le_trans (by decide) hRf, Nat.le_trans (by decide) hRl⟩ ⟨hK, hN⟩ hP [0, 1] rfl 0 rfl rfl rfl hl.1 rfl (Nat.le_of_ble_eq_true rfl) ⟨Nat.zero_le _, Nat.zero_le _⟩ dX5_children_16 (fun hz_16 => ?_)
        refine lv_if_eq (tgt := 56) hx hb dX5_children_19 (by decide) (fun hc_19 => ?_) (fun hc_19 => ?_)
        · have hf := it_pos hc_19 hf
          refine lv_iinc (v := x4 + 1) (lv' := [(4, .int (x4 + 1)), (1, .ref a_p1), (2, .int x2), (3, .int x3)]) hx hb dX5_children_56 hl (k := 3) rfl (congrArg (_ + ·) (by decide : Int32.ofInt 1 = 1)) (by decide) rfl (fun ls hl => ?_)
          refine lv_goto (tgt := 5) hx hb dX5_children_59 (by decide) ?_
          exact ih_5 _ _ _ _ hf (lv_sub hl [1, 2, 3, 0] rfl)
        · have hf := it_neg hc_19 hf
          refine lv_aload_n hx hb dX5_children_22 rfl (lv_at hl 0 rfl) ?_
          refine lv_iload hx hb dX5_children_23 (lv_at hl 3 rfl) ?_
          obtain ⟨z25, e25, hf⟩ := bd_some hf
          refine rV_RO (As := [.int x4]) (rest := []) ⟨hx, hb, hml, hown, hT⟩ (gdV tb_847 tb_689 tb_690 tb_88 tb_691) hd_X0_guestOn (c_X0_guestOn l D cI cB cZ a_p1 a_p1_guests a_p1_numbers a_p1_coats a_p1_line p1_waiting p1_arrived p1_standing p1_climbed p1_drawn p1_guests x4 z25 e25) ⟨rfl, rfl⟩ ⟨Nat.le_trans (by decide) hRf, Nat.le_trans (by decide) hRl⟩ ⟨hK, hN⟩ hP [0, 1] rfl 0 rfl rfl rfl hl.1 rfl (Nat.le_of_ble_eq_true rfl) ⟨Nat.zero_le _, Nat.zero_le _⟩ dX5_children_25 (fun _ => ?_)
          obtain ⟨z28, e28, hf⟩ := bd_some hf
          refine rS_RO (As := [.int z25]) (rest := []) ⟨hx, hb, hml, hown, hT⟩ (gdS tb_1036 tb_732 tb_104 tb_733) hd_X1_childOf (c_X1_childOf l D cI cB cZ z25 z28 e28) ⟨rfl, rfl⟩ ⟨Nat.le_trans (by decide) hRf, Nat.le_trans (by decide) hRl⟩ ⟨hK, hN⟩ hP [] rfl rfl hl.1 rfl (Nat.le_of_ble_eq_true rfl) ⟨Nat.zero_le _, Nat.zero_le _⟩ dX5_children_28 (fun _ => ?_)
          refine lv_iconst (v := 1) hx hb dX5_children_31 (by decide) ?_
          refine lv_icmp_ne (tgt := 56) hx hb dX5_children_32 (by decide) (fun hc_32 => ?_) (fun hc_32 => ?_)
          · have hf := it_neg hc_32 hf
            refine lv_iinc (v := x4 + 1) (lv' := [(4, .int (x4 + 1)), (1, .ref a_p1), (2, .int x2), (3, .int x3)]) hx hb dX5_children_56 hl (k := 3) rfl (congrArg (_ + ·) (by decide : Int32.ofInt 1 = 1)) (by decide) rfl (fun ls hl => ?_)
            refine lv_goto (tgt := 5) hx hb dX5_children_59 (by decide) ?_
            exact ih_5 _ _ _ _ hf (lv_sub hl [1, 2, 3, 0] rfl)
          · have hf := it_pos hc_32 hf
            refine lv_aload_n hx hb dX5_children_35 rfl (lv_at hl 0 rfl) ?_
            refine lv_iload hx hb dX5_children_36 (lv_at hl 3 rfl) ?_
            obtain ⟨z38, e38, hf⟩ := bd_some hf
            refine rV_RO (As := [.int x4]) (rest := []) ⟨hx, hb, hml, hown, hT⟩ (gdV tb_1046 tb_827 tb_828 tb_88 tb_829) hd_X0_sittingAisleward (c_X0_sittingAisleward l D cI cB cZ a_p1 a_p1_guests a_p1_numbers a_p1_coats a_p1_line p1_waiting p1_arrived p1_standing p1_climbed p1_drawn p1_guests x4 z38 e38) ⟨rfl, rfl⟩ ⟨Nat.le_trans (by decide) hRf, Nat.le_trans (by decide) hRl⟩ ⟨hK, hN⟩ hP [0, 1] rfl 0 rfl rfl rfl hl.1 rfl (Nat.le_of_ble_eq_true rfl) ⟨Nat.zero_le _, Nat.zero_le _⟩ dX5_children_38 (fun _ => ?_)
            have J_49 : ∀ (x2 : Int32) (x3 : Int32) (x4 : Int32) (y0 : Int32) (ls : Array Slot), f_X5_children_49 p1_guests (f_X5_children_5 p1_guests n_5) x2 x3 x4 y0 = some res → lv_has ls 5 [(1, .ref a_p1), (2, .int x2), (3, .int x3), (4, .int x4)] → W p l e R s m args below meth c s.heap [] 0 0 Q (F0 m 49 ls [.int y0]) := by
              intro x2 x3 x4 y0 ls hf hl
              unfold f_X5_children_49 at hf
              refine lv_iload_n hx hb dX5_children_49 rfl (lv_at hl 1 rfl) ?_
              refine lv_icmp_ne (tgt := 56) hx hb dX5_children_50 (by decide) (fun hc_50 => ?_) (fun hc_50 => ?_)
              · have hf := it_neg hc_50 hf
                refine lv_iinc (v := x4 + 1) (lv' := [(4, .int (x4 + 1)), (1, .ref a_p1), (2, .int x2), (3, .int x3)]) hx hb dX5_children_56 hl (k := 3) rfl (congrArg (_ + ·) (by decide : Int32.ofInt 1 = 1)) (by decide) rfl (fun ls hl => ?_)
                refine lv_goto (tgt := 5) hx hb dX5_children_59 (by decide) ?_
                exact ih_5 _ _ _ _ hf (lv_sub hl [1, 2, 3, 0] rfl)
              · have hf := it_pos hc_50 hf
                refine lv_iinc (v := x3 + 1) (lv' := [(3, .int (x3 + 1)), (1, .ref a_p1), (2, .int x2), (4, .int x4)]) hx hb dX5_children_53 hl (k := 2) rfl (congrArg (_ + ·) (by decide : Int32.ofInt 1 = 1)) (by decide) rfl (fun ls hl => ?_)
                refine lv_iinc (v := x4 + 1) (lv' := [(4, .int (x4 + 1)), (3, .int (x3 + 1)), (1, .ref a_p1), (2, .int x2)]) hx hb dX5_children_56 hl (k := 3) rfl (congrArg (_ + ·) (by decide : Int32.ofInt 1 = 1)) (by decide) rfl (fun ls hl => ?_)
                refine lv_goto (tgt := 5) hx hb dX5_children_59 (by decide) ?_
                exact ih_5 _ _ _ _ hf (lv_sub hl [2, 3, 1, 0] rfl)
            refine lv_if_ne (tgt := 48) hx hb dX5_children_41 (by decide) (fun hc_41 => ?_) (fun hc_41 => ?_)
            · have hf := it_neg hc_41 hf
              refine lv_iconst (v := 0) hx hb dX5_children_48 (by decide) ?_
              exact J_49 _ _ _ _ _ hf (lv_sub hl [0, 1, 2, 3] rfl)
            · have hf := it_pos hc_41 hf
              refine lv_iconst (v := 1) hx hb dX5_children_44 (by decide) ?_
              refine lv_goto (tgt := 49) hx hb dX5_children_45 (by decide) ?_
              exact J_49 _ _ _ _ _ hf (lv_sub hl [0, 1, 2, 3] rfl)
  refine lv_istore (lv' := [(4, .int 0), (3, .int 0), (0, .ref a_t), (1, .ref a_p1), (2, .int x2)]) hx hb dX5_children_3 hl (by decide) rfl (fun ls hl => ?_)
  exact J_5 _ _ _ _ _ hf (lv_sub hl [3, 4, 1, 0] rfl)
theorem hd_X5_children : (yX5_children).cls = RX5 ∧ (yX5_children).cls ≠ "java/lang/invoke/MethodHandle" ∧ (yX5_children).cls ≠ "java/lang/invoke/VarHandle" ∧ (parseMethodDescriptor (yX5_children).desc).map (fun d => d.parameters.length) = some 2 := by decide +kernel
theorem c_X5_children (l : Launch) (D : va_G) (cI cB cZ : ClassId) (a_p1 : Nat) (a_p1_guests : Nat) (a_p1_numbers : Nat) (a_p1_coats : Nat) (a_p1_line : Nat) (a_t : Nat) (p1_waiting : Int32) (p1_arrived : Int32) (p1_standing : Int32) (p1_climbed : Int32) (p1_drawn : Int32) (p1_guests : (Nat → Int32)) (x2 : Int32) (res : Int32) (hf : f_X5_children p1_guests x2 = some res) : Met l yX5_children (.code yX5_children cX5_children 5 (some .int) :: TB) (rmk (3) (85)) (pRO [.ref a_t, .ref a_p1, .int x2] D cI cB cZ (w_X5_children cI cB cZ a_p1 a_p1_guests a_p1_numbers a_p1_coats a_p1_line a_t p1_waiting p1_arrived p1_standing p1_climbed p1_drawn p1_guests)) (qRO (some (.int res)) True) 0 0 (fun _ => False) :=
  mkRO (by decide +kernel) (Nat.le_of_ble_eq_true rfl) (fun p e s m below meth c ls S hr hlk hK hP hl => b_X5_children S.1 S.2.1 S.2.2.1 S.2.2.2.1 S.2.2.2.2 (Nat.le_refl _) (Nat.le_refl _) hK.1 hK.2 a_p1 a_p1_guests a_p1_numbers a_p1_coats a_p1_line a_t p1_waiting p1_arrived p1_standing p1_climbed p1_drawn p1_guests x2 res hf hP (fun pc ls hE hd => eRO_i S.1 S.2.1 hr rfl hlk hE hd) ls hl)
def f_X5_takenPlaces_4 (p0_guests : (Nat → Int32)) : Nat → Int32 → Int32 → Int32 → Option (Int32)
  | 0, _, _, _ => none
  | n + 1, x1, x2, x3 => (if 9 ≤ x3 then some (x2) else (f_X0_isTaken p0_guests ((x1 * 9) + x3)).bind (fun z17 => (if z17 = 0 then (f_X5_takenPlaces_4 p0_guests n) x1 x2 (x3 + 1) else (f_X5_takenPlaces_4 p0_guests n) x1 (x2 ||| (1 <<< (x3 &&& 31))) (x3 + 1))))
def f_X5_takenPlaces (p0_guests : (Nat → Int32)) (x1 : Int32) : Option (Int32) := f_X5_takenPlaces_4 p0_guests FU x1 0 0
def w_X5_takenPlaces (cI cB cZ : ClassId) (a_p0 : Nat) (a_p0_guests : Nat) (a_p0_numbers : Nat) (a_p0_coats : Nat) (a_p0_line : Nat) (p0_waiting : Int32) (p0_arrived : Int32) (p0_standing : Int32) (p0_climbed : Int32) (p0_drawn : Int32) (p0_guests : (Nat → Int32)) : va_W := [(a_p0, .inr (0, [.ref a_p0_guests, .ref a_p0_numbers, .ref a_p0_coats, .ref a_p0_line, .int p0_waiting, .int p0_arrived, .int p0_standing, .int p0_climbed, .int p0_drawn])), (a_p0_guests, .inl (cI, 144, .inl p0_guests))]
set_option maxHeartbeats 4000000 in
set_option maxRecDepth 100000 in
theorem b_X5_takenPlaces {p : Program} {l : Launch} {e : Env} {R : Room} {s : State} {m : MethodId} {args : Array Value} {below : List Frame} {meth : Method} {c : Code} {Q : State → Prop} {D : va_G} {cI cB cZ : ClassId} (hx : p.tables.exec = Jvm.exec) (hb : c.code = cX5_takenPlaces) (hml : c.maxLocals = 4) (hown : s.vm.findClass RX5 = some m.cls) (hT : ∀ w ∈ TB, w.before args s = true) (hRf : (2) ≤ R.frames) (hRl : (42) ≤ R.locals) (hK : va_K D vwCl (tyL cI cB cZ) s) (hN : NW s)  (a_p0 : Nat) (a_p0_guests : Nat) (a_p0_numbers : Nat) (a_p0_coats : Nat) (a_p0_line : Nat) (p0_waiting : Int32) (p0_arrived : Int32) (p0_standing : Int32) (p0_climbed : Int32) (p0_drawn : Int32) (p0_guests : (Nat → Int32)) (x1 : Int32) (res : Int32) (hf : f_X5_takenPlaces p0_guests x1 = some res) (hP : va_P D vwCl (w_X5_takenPlaces cI cB cZ a_p0 a_p0_guests a_p0_numbers a_p0_coats a_p0_line p0_waiting p0_arrived p0_standing p0_climbed p0_drawn p0_guests) s.heap) (hQ : ∀ (pc : Nat) (ls : Array Slot), True → decode cX5_takenPlaces pc = .ok (.ireturn, 1) → W p l e R s m args below meth c s.heap [] 0 0 Q (F0 m pc ls [.int res])) (ls : Array Slot) (hl : lv_has ls 4 [(0, .ref a_p0), (1, .int x1)]) : W p l e R s m args below meth c s.heap [] 0 0 Q (F0 m 0 ls []) := by
  unfold f_X5_takenPlaces at hf
  refine lv_iconst (v := 0) hx hb dX5_takenPlaces_0 (by decide) ?_
  refine lv_istore_n (lv' := [(2, .int 0), (0, .ref a_p0), (1, .int x1)]) hx hb dX5_takenPlaces_1 rfl hl (by decide) rfl (fun ls hl => ?_)
  refine lv_iconst (v := 0) hx hb dX5_takenPlaces_2 (by decide) ?_
  have J_4 : ∀ (n_4 : Nat) (x1 : Int32) (x2 : Int32) (x3 : Int32) (ls : Array Slot), f_X5_takenPlaces_4 p0_guests n_4 x1 x2 x3 = some res → lv_has ls 4 [(0, .ref a_p0), (1, .int x1), (2, .int x2), (3, .int x3)] → W p l e R s m args below meth c s.heap [] 0 0 Q (F0 m 4 ls []) := by
    intro n_4
    induction n_4 with
    | zero =>
      intro x1 x2 x3 ls hf hl
      cases hf
    | succ n_4 ih_4 =>
      intro x1 x2 x3 ls hf hl
      unfold f_X5_takenPlaces_4 at hf
      refine lv_iload_n hx hb dX5_takenPlaces_4 rfl (lv_at hl 3 rfl) ?_
      refine lv_bipush (v := 9) hx hb dX5_takenPlaces_5 (by decide) ?_
      refine lv_icmp_ge (tgt := 35) hx hb dX5_takenPlaces_7 (by decide) (fun hc_7 => ?_) (fun hc_7 => ?_)
      · have hf := it_pos hc_7 hf
        refine lv_iload_n hx hb dX5_takenPlaces_35 rfl (lv_at hl 2 rfl) ?_
        obtain rfl := Option.some.inj hf
        exact hQ 36 ls trivial dX5_takenPlaces_36
      · have hf := it_neg hc_7 hf
        refine lv_aload_n hx hb dX5_takenPlaces_10 rfl (lv_at hl 0 rfl) ?_
        refine lv_iload_n hx hb dX5_takenPlaces_11 rfl (lv_at hl 1 rfl) ?_
        refine lv_bipush (v := 9) hx hb dX5_takenPlaces_12 (by decide) ?_
        refine lv_imul hx hb dX5_takenPlaces_14 ?_
        refine lv_iload_n hx hb dX5_takenPlaces_15 rfl (lv_at hl 3 rfl) ?_
        refine lv_iadd hx hb dX5_takenPlaces_16 ?_
        obtain ⟨z17, e17, hf⟩ := bd_some hf
        refine rV_RO (As := [.int ((x1 * 9) + x3)]) (rest := []) ⟨hx, hb, hml, hown, hT⟩ (gdV tb_863 tb_685 tb_686 tb_88 tb_687) hd_X0_isTaken (c_X0_isTaken l D cI cB cZ a_p0 a_p0_guests a_p0_numbers a_p0_coats a_p0_line p0_waiting p0_arrived p0_standing p0_climbed p0_drawn p0_guests ((x1 * 9) + x3) z17 e17) ⟨rfl, rfl⟩ ⟨Nat.le_trans (by decide) hRf, Nat.le_trans (by decide) hRl⟩ ⟨hK, hN⟩ hP [0, 1] rfl 0 rfl rfl rfl hl.1 rfl (Nat.le_of_ble_eq_true rfl) ⟨Nat.zero_le _, Nat.zero_le _⟩ dX5_takenPlaces_17 (fun hz_17 => ?_)
        refine lv_if_eq (tgt := 29) hx hb dX5_takenPlaces_20 (by decide) (fun hc_20 => ?_) (fun hc_20 => ?_)
        · have hf := it_pos hc_20 hf
          refine lv_iinc (v := x3 + 1) (lv' := [(3, .int (x3 + 1)), (0, .ref a_p0), (1, .int x1), (2, .int x2)]) hx hb dX5_takenPlaces_29 hl (k := 3) rfl (congrArg (_ + ·) (by decide : Int32.ofInt 1 = 1)) (by decide) rfl (fun ls hl => ?_)
          refine lv_goto (tgt := 4) hx hb dX5_takenPlaces_32 (by decide) ?_
          exact ih_4 _ _ _ _ hf (lv_sub hl [1, 2, 3, 0] rfl)
        · have hf := it_neg hc_20 hf
          refine lv_iload_n hx hb dX5_takenPlaces_23 rfl (lv_at hl 2 rfl) ?_
          refine lv_iconst (v := 1) hx hb dX5_takenPlaces_24 (by decide) ?_
          refine lv_iload_n hx hb dX5_takenPlaces_25 rfl (lv_at hl 3 rfl) ?_
          refine lv_ishl hx hb dX5_takenPlaces_26 ?_
          refine lv_ior hx hb dX5_takenPlaces_27 ?_
          refine lv_istore_n (lv' := [(2, .int (x2 ||| (1 <<< (x3 &&& 31)))), (0, .ref a_p0), (1, .int x1), (3, .int x3)]) hx hb dX5_takenPlaces_28 rfl hl (by decide) rfl (fun ls hl => ?_)
          refine lv_iinc (v := x3 + 1) (lv' := [(3, .int (x3 + 1)), (2, .int (x2 ||| (1 <<< (x3 &&& 31)))), (0, .ref a_p0), (1, .int x1)]) hx hb dX5_takenPlaces_29 hl (k := 3) rfl (congrArg (_ + ·) (by decide : Int32.ofInt 1 = 1)) (by decide) rfl (fun ls hl => ?_)
          refine lv_goto (tgt := 4) hx hb dX5_takenPlaces_32 (by decide) ?_
          exact ih_4 _ _ _ _ hf (lv_sub hl [2, 3, 1, 0] rfl)
  refine lv_istore_n (lv' := [(3, .int 0), (2, .int 0), (0, .ref a_p0), (1, .int x1)]) hx hb dX5_takenPlaces_3 rfl hl (by decide) rfl (fun ls hl => ?_)
  exact J_4 _ _ _ _ _ hf (lv_sub hl [2, 3, 1, 0] rfl)
theorem hd_X5_takenPlaces : (yX5_takenPlaces).cls ≠ "java/lang/invoke/MethodHandle" ∧ (yX5_takenPlaces).cls ≠ "java/lang/invoke/VarHandle" ∧ (parseMethodDescriptor (yX5_takenPlaces).desc).map (fun d => d.parameters.length) = some 2 := by decide +kernel
theorem c_X5_takenPlaces (l : Launch) (D : va_G) (cI cB cZ : ClassId) (a_p0 : Nat) (a_p0_guests : Nat) (a_p0_numbers : Nat) (a_p0_coats : Nat) (a_p0_line : Nat) (p0_waiting : Int32) (p0_arrived : Int32) (p0_standing : Int32) (p0_climbed : Int32) (p0_drawn : Int32) (p0_guests : (Nat → Int32)) (x1 : Int32) (res : Int32) (hf : f_X5_takenPlaces p0_guests x1 = some res) : Met l yX5_takenPlaces (.code yX5_takenPlaces cX5_takenPlaces 4 (some .int) :: TB) (rmk (2) (42)) (pRO [.ref a_p0, .int x1] D cI cB cZ (w_X5_takenPlaces cI cB cZ a_p0 a_p0_guests a_p0_numbers a_p0_coats a_p0_line p0_waiting p0_arrived p0_standing p0_climbed p0_drawn p0_guests)) (qRO (some (.int res)) True) 0 0 (fun _ => False) :=
  mkRO (by decide +kernel) (Nat.le_of_ble_eq_true rfl) (fun p e s m below meth c ls S hr hlk hK hP hl => b_X5_takenPlaces S.1 S.2.1 S.2.2.1 S.2.2.2.1 S.2.2.2.2 (Nat.le_refl _) (Nat.le_refl _) hK.1 hK.2 a_p0 a_p0_guests a_p0_numbers a_p0_coats a_p0_line p0_waiting p0_arrived p0_standing p0_climbed p0_drawn p0_guests x1 res hf hP (fun pc ls hE hd => eRO_i S.1 S.2.1 hr rfl hlk hE hd) ls hl)
def f_X5_raiseToSubsets_11 (k2 : Int32 → (Nat → Int32) → Option ((Nat → Int32))) : Nat → Int32 → Int32 → (Nat → Int32) → Option ((Nat → Int32))
  | 0, _, _, _ => none
  | n + 1, x1, x2, t_most => (if 512 ≤ x2 then k2 (x1 <<< (1 &&& 31)) t_most else (if (x2 &&& x1) = 0 then (f_X5_raiseToSubsets_11 k2 n) x1 (x2 + 1) t_most else ix 512 x2 (ix 512 (x2 - x1) (ix 512 x2 ((f_X5_raiseToSubsets_11 k2 n) x1 (x2 + 1) (upd t_most x2.toNatClampNeg (if (t_most x2.toNatClampNeg) < (t_most (x2 - x1).toNatClampNeg) then (t_most (x2 - x1).toNatClampNeg) else (t_most x2.toNatClampNeg))))))))
def f_X5_raiseToSubsets_2 : Nat → Int32 → (Nat → Int32) → Option ((Nat → Int32))
  | 0, _, _ => none
  | n + 1, x1, t_most => (if 512 ≤ x1 then some (t_most) else f_X5_raiseToSubsets_11 (f_X5_raiseToSubsets_2 n) FU x1 0 t_most)
def f_X5_raiseToSubsets (t_most : (Nat → Int32)) : Option ((Nat → Int32)) := f_X5_raiseToSubsets_2 FU 1 t_most
def w_X5_raiseToSubsets (cI cB cZ : ClassId) (a_t : Nat) (a_t_most : Nat) (a_t_singersByRow : Nat) (a_t_mostBefore : Nat) (t_most : (Nat → Int32)) : va_W := [(a_t, .inr (4, [.ref a_t_singersByRow, .ref a_t_most, .ref a_t_mostBefore])), (a_t_most, .inl (cI, 512, .inl t_most))]
set_option maxHeartbeats 4000000 in
set_option maxRecDepth 100000 in
theorem b_X5_raiseToSubsets {p : Program} {l : Launch} {e : Env} {R : Room} {s : State} {m : MethodId} {args : Array Value} {below : List Frame} {meth : Method} {c : Code} {Q : State → Prop} {D : va_G} {cI cB cZ : ClassId} (hx : p.tables.exec = Jvm.exec) (hb : c.code = cX5_raiseToSubsets) (hml : c.maxLocals = 3) (hown : s.vm.findClass RX5 = some m.cls) (hT : ∀ w ∈ TB, w.before args s = true) (hRf : (1) ≤ R.frames) (hRl : (40) ≤ R.locals) (hK : va_K D vwCl (tyL cI cB cZ) s) (hN : NW s) {A : Nat → Prop} (hA : ∀ q : Nat, s.heap.size ≤ q → A q) (H : Heap) (locs : List Loc)  (a_t : Nat) (a_t_most : Nat) (a_t_singersByRow : Nat) (a_t_mostBefore : Nat) (t_most : (Nat → Int32)) (res : (Nat → Int32)) (hf : f_X5_raiseToSubsets t_most = some res) (hP : va_P D vwCl (w_X5_raiseToSubsets cI cB cZ a_t a_t_most a_t_singersByRow a_t_mostBefore t_most) H) (hD : va_D A (w_X5_raiseToSubsets cI cB cZ a_t a_t_most a_t_singersByRow a_t_mostBefore t_most)) (hS : va_S A s.heap H locs) (hQ : ∀ (H : Heap) (locs : List Loc) (pc : Nat) (ls : Array Slot), va_P D vwCl (w_X5_raiseToSubsets cI cB cZ a_t a_t_most a_t_singersByRow a_t_mostBefore res) H → va_D A (w_X5_raiseToSubsets cI cB cZ a_t a_t_most a_t_singersByRow a_t_mostBefore res) → va_S A s.heap H locs → True → decode cX5_raiseToSubsets pc = .ok (.return_, 1) → W p l e R s m args below meth c H locs 0 0 Q (F0 m pc ls [])) (ls : Array Slot) (hl : lv_has ls 3 [(0, .ref a_t)]) : W p l e R s m args below meth c H locs 0 0 Q (F0 m 0 ls []) := by
  unfold f_X5_raiseToSubsets at hf
  refine lv_iconst (v := 1) hx hb dX5_raiseToSubsets_0 (by decide) ?_
  have J_2 : ∀ (n_2 : Nat) (x1 : Int32) (t_most : (Nat → Int32)) (H : Heap) (locs : List Loc) (ls : Array Slot), f_X5_raiseToSubsets_2 n_2 x1 t_most = some res → va_P D vwCl (w_X5_raiseToSubsets cI cB cZ a_t a_t_most a_t_singersByRow a_t_mostBefore t_most) H → va_D A (w_X5_raiseToSubsets cI cB cZ a_t a_t_most a_t_singersByRow a_t_mostBefore t_most) → va_S A s.heap H locs → lv_has ls 3 [(0, .ref a_t), (1, .int x1)] → W p l e R s m args below meth c H locs 0 0 Q (F0 m 2 ls []) := by
    intro n_2
    induction n_2 with
    | zero =>
      intro x1 t_most H locs ls hf hP hD hS hl
      cases hf
    | succ n_2 ih_2 =>
      intro x1 t_most H locs ls hf hP hD hS hl
      unfold f_X5_raiseToSubsets_2 at hf
      refine lv_iload_n hx hb dX5_raiseToSubsets_2 rfl (lv_at hl 1 rfl) ?_
      refine lv_sipush (v := 512) hx hb dX5_raiseToSubsets_3 (by decide) ?_
      refine lv_icmp_ge (tgt := 60) hx hb dX5_raiseToSubsets_6 (by decide) (fun hc_6 => ?_) (fun hc_6 => ?_)
      · have hf := it_pos hc_6 hf
        obtain rfl := Option.some.inj hf
        exact hQ H locs 60 ls hP hD hS trivial dX5_raiseToSubsets_60
      · have hf := it_neg hc_6 hf
        refine lv_iconst (v := 0) hx hb dX5_raiseToSubsets_9 (by decide) ?_
        have J_11 : ∀ (n_11 : Nat) (x1 : Int32) (x2 : Int32) (t_most : (Nat → Int32)) (H : Heap) (locs : List Loc) (ls : Array Slot), f_X5_raiseToSubsets_11 (f_X5_raiseToSubsets_2 n_2) n_11 x1 x2 t_most = some res → va_P D vwCl (w_X5_raiseToSubsets cI cB cZ a_t a_t_most a_t_singersByRow a_t_mostBefore t_most) H → va_D A (w_X5_raiseToSubsets cI cB cZ a_t a_t_most a_t_singersByRow a_t_mostBefore t_most) → va_S A s.heap H locs → lv_has ls 3 [(0, .ref a_t), (1, .int x1), (2, .int x2)] → W p l e R s m args below meth c H locs 0 0 Q (F0 m 11 ls []) := by
          intro n_11
          induction n_11 with
          | zero =>
            intro x1 x2 t_most H locs ls hf hP hD hS hl
            cases hf
          | succ n_11 ih_11 =>
            intro x1 x2 t_most H locs ls hf hP hD hS hl
            unfold f_X5_raiseToSubsets_11 at hf
            refine lv_iload_n hx hb dX5_raiseToSubsets_11 rfl (lv_at hl 2 rfl) ?_
            refine lv_sipush (v := 512) hx hb dX5_raiseToSubsets_12 (by decide) ?_
            refine lv_icmp_ge (tgt := 53) hx hb dX5_raiseToSubsets_15 (by decide) (fun hc_15 => ?_) (fun hc_15 => ?_)
            · have hf := it_pos hc_15 hf
              refine lv_iload_n hx hb dX5_raiseToSubsets_53 rfl (lv_at hl 1 rfl) ?_
              refine lv_iconst (v := 1) hx hb dX5_raiseToSubsets_54 (by decide) ?_
              refine lv_ishl hx hb dX5_raiseToSubsets_55 ?_
              refine lv_istore_n (lv' := [(1, .int (x1 <<< (1 &&& 31))), (0, .ref a_t), (2, .int x2)]) hx hb dX5_raiseToSubsets_56 rfl hl (by decide) rfl (fun ls hl => ?_)
              refine lv_goto (tgt := 2) hx hb dX5_raiseToSubsets_57 (by decide) ?_
              exact ih_2 _ _ _ _ _ hf hP hD hS (lv_sub hl [1, 0] rfl)
            · have hf := it_neg hc_15 hf
              refine lv_iload_n hx hb dX5_raiseToSubsets_18 rfl (lv_at hl 2 rfl) ?_
              refine lv_iload_n hx hb dX5_raiseToSubsets_19 rfl (lv_at hl 1 rfl) ?_
              refine lv_iand hx hb dX5_raiseToSubsets_20 ?_
              refine lv_if_eq (tgt := 47) hx hb dX5_raiseToSubsets_21 (by decide) (fun hc_21 => ?_) (fun hc_21 => ?_)
              · have hf := it_pos hc_21 hf
                refine lv_iinc (v := x2 + 1) (lv' := [(2, .int (x2 + 1)), (0, .ref a_t), (1, .int x1)]) hx hb dX5_raiseToSubsets_47 hl (k := 2) rfl (congrArg (_ + ·) (by decide : Int32.ofInt 1 = 1)) (by decide) rfl (fun ls hl => ?_)
                refine lv_goto (tgt := 11) hx hb dX5_raiseToSubsets_50 (by decide) ?_
                exact ih_11 _ _ _ _ _ _ hf hP hD hS (lv_sub hl [1, 2, 0] rfl)
              · have hf := it_neg hc_21 hf
                refine lv_aload_n hx hb dX5_raiseToSubsets_24 rfl (lv_at hl 0 rfl) ?_
                refine va_get (D := D) (ci := 4) (v := .ref a_t_most) (C := RX5) (T := TX5) (N := 3) hx hb hT inX5 hown hK hP 0 rfl rfl 1 (by decide) (hT _ tb_273) (fun _ h9 => h9) rfl dX5_raiseToSubsets_25 ?_
                refine lv_iload_n hx hb dX5_raiseToSubsets_28 rfl (lv_at hl 2 rfl) ?_
                refine lv_aload_n hx hb dX5_raiseToSubsets_29 rfl (lv_at hl 0 rfl) ?_
                refine va_get (D := D) (ci := 4) (v := .ref a_t_most) (C := RX5) (T := TX5) (N := 3) hx hb hT inX5 hown hK hP 0 rfl rfl 1 (by decide) (hT _ tb_273) (fun _ h9 => h9) rfl dX5_raiseToSubsets_30 ?_
                refine lv_iload_n hx hb dX5_raiseToSubsets_33 rfl (lv_at hl 2 rfl) ?_
                obtain ⟨hi_34, hf⟩ := ix_some hf
                refine va_iald hx hb hK hP 1 0 rfl rfl hi_34 dX5_raiseToSubsets_34 ?_
                refine lv_aload_n hx hb dX5_raiseToSubsets_35 rfl (lv_at hl 0 rfl) ?_
                refine va_get (D := D) (ci := 4) (v := .ref a_t_most) (C := RX5) (T := TX5) (N := 3) hx hb hT inX5 hown hK hP 0 rfl rfl 1 (by decide) (hT _ tb_273) (fun _ h9 => h9) rfl dX5_raiseToSubsets_36 ?_
                refine lv_iload_n hx hb dX5_raiseToSubsets_39 rfl (lv_at hl 2 rfl) ?_
                refine lv_iload_n hx hb dX5_raiseToSubsets_40 rfl (lv_at hl 1 rfl) ?_
                refine lv_isub hx hb dX5_raiseToSubsets_41 ?_
                obtain ⟨hi_42, hf⟩ := ix_some hf
                refine va_iald hx hb hK hP 1 0 rfl rfl hi_42 dX5_raiseToSubsets_42 ?_
                refine va_mmax hx hb (hml.trans hl.1.symm) hown (hT _ tb_887) (hT _ tb_477) (hT _ tb_98) (hT _ tb_478) (Nat.le_trans (by decide) hRf) (Nat.le_trans (Nat.le_of_ble_eq_true rfl) hRl) (Nat.zero_le _) (Nat.zero_le _) dX5_raiseToSubsets_43 ?_
                obtain ⟨hi_46, hf⟩ := ix_some hf
                refine va_iast hx hb hK hP hD hS 1 0 rfl rfl hi_46 dX5_raiseToSubsets_46 (fun H locs hP hD hS => ?_)
                have hP : va_P D vwCl (w_X5_raiseToSubsets cI cB cZ a_t a_t_most a_t_singersByRow a_t_mostBefore (upd t_most x2.toNatClampNeg (if (t_most x2.toNatClampNeg) < (t_most (x2 - x1).toNatClampNeg) then (t_most (x2 - x1).toNatClampNeg) else (t_most x2.toNatClampNeg)))) H := hP
                have hD : va_D A (w_X5_raiseToSubsets cI cB cZ a_t a_t_most a_t_singersByRow a_t_mostBefore (upd t_most x2.toNatClampNeg (if (t_most x2.toNatClampNeg) < (t_most (x2 - x1).toNatClampNeg) then (t_most (x2 - x1).toNatClampNeg) else (t_most x2.toNatClampNeg)))) := hD
                refine lv_iinc (v := x2 + 1) (lv' := [(2, .int (x2 + 1)), (0, .ref a_t), (1, .int x1)]) hx hb dX5_raiseToSubsets_47 hl (k := 2) rfl (congrArg (_ + ·) (by decide : Int32.ofInt 1 = 1)) (by decide) rfl (fun ls hl => ?_)
                refine lv_goto (tgt := 11) hx hb dX5_raiseToSubsets_50 (by decide) ?_
                exact ih_11 _ _ _ _ _ _ hf hP hD hS (lv_sub hl [1, 2, 0] rfl)
        refine lv_istore_n (lv' := [(2, .int 0), (0, .ref a_t), (1, .int x1)]) hx hb dX5_raiseToSubsets_10 rfl hl (by decide) rfl (fun ls hl => ?_)
        exact J_11 _ _ _ _ _ _ _ hf hP hD hS (lv_sub hl [1, 2, 0] rfl)
  refine lv_istore_n (lv' := [(1, .int 1), (0, .ref a_t)]) hx hb dX5_raiseToSubsets_1 rfl hl (by decide) rfl (fun ls hl => ?_)
  exact J_2 _ _ _ _ _ _ hf hP hD hS (lv_sub hl [1, 0] rfl)
theorem hd_X5_raiseToSubsets : (yX5_raiseToSubsets).cls = RX5 ∧ (yX5_raiseToSubsets).cls ≠ "java/lang/invoke/MethodHandle" ∧ (yX5_raiseToSubsets).cls ≠ "java/lang/invoke/VarHandle" ∧ (parseMethodDescriptor (yX5_raiseToSubsets).desc).map (fun d => d.parameters.length) = some 0 := by decide +kernel
theorem c_X5_raiseToSubsets (l : Launch) (D : va_G) (cI cB cZ : ClassId) (a_t : Nat) (a_t_most : Nat) (a_t_singersByRow : Nat) (a_t_mostBefore : Nat) (t_most : (Nat → Int32)) (sz : Nat) (res : (Nat → Int32)) (hf : f_X5_raiseToSubsets t_most = some res) : Met l yX5_raiseToSubsets (.code yX5_raiseToSubsets cX5_raiseToSubsets 3 none :: TB) (rmk (1) (40)) (pRW [.ref a_t] D cI cB cZ (w_X5_raiseToSubsets cI cB cZ a_t a_t_most a_t_singersByRow a_t_mostBefore t_most) sz) (qRW none True D (w_X5_raiseToSubsets cI cB cZ a_t a_t_most a_t_singersByRow a_t_mostBefore t_most) sz (w_X5_raiseToSubsets cI cB cZ a_t a_t_most a_t_singersByRow a_t_mostBefore res)) 0 0 (va_A (w_X5_raiseToSubsets cI cB cZ a_t a_t_most a_t_singersByRow a_t_mostBefore t_most) sz) :=
  mkRW (by decide +kernel) (Nat.le_of_ble_eq_true rfl) (fun p e s m below meth c ls A hAe S hr hlk hK hA hP hD hS hl => b_X5_raiseToSubsets S.1 S.2.1 S.2.2.1 S.2.2.2.1 S.2.2.2.2 (Nat.le_refl _) (Nat.le_refl _) hK.1 hK.2 hA s.heap [] a_t a_t_most a_t_singersByRow a_t_mostBefore t_most res hf hP hD hS (fun H locs pc ls hP hD hS hE hd => eRW_v S.1 S.2.1 hr hlk hAe hP hD hS hE hd) ls hl)
def f_X5_mostApart_113 (p1_guests : (Nat → Int32)) (k10 : Int32 → Int32 → (Nat → Int32) → (Nat → Int32) → Option (Int32 × (Nat → Int32) × (Nat → Int32))) (k46 : Int32 → Int32 → Int32 → Int32 → (Nat → Int32) → (Nat → Int32) → Option (Int32 × (Nat → Int32) × (Nat → Int32))) (x2 : Int32) (x3 : Int32) (x4 : Int32) (x5 : Int32) (y0 : Int32) (y1 : Int32) (t_most : (Nat → Int32)) (t_mostBefore : (Nat → Int32)) : Option (Int32 × (Nat → Int32) × (Nat → Int32)) := ix 512 y0 (k46 x2 x3 x4 (x5 + 1) (upd t_most y0.toNatClampNeg y1) t_mostBefore)
def f_X5_mostApart_79 (p1_guests : (Nat → Int32)) (k10 : Int32 → Int32 → (Nat → Int32) → (Nat → Int32) → Option (Int32 × (Nat → Int32) × (Nat → Int32))) (k46 : Int32 → Int32 → Int32 → Int32 → (Nat → Int32) → (Nat → Int32) → Option (Int32 × (Nat → Int32) × (Nat → Int32))) (x2 : Int32) (x3 : Int32) (x4 : Int32) (x5 : Int32) (y0 : Int32) (t_most : (Nat → Int32)) (t_mostBefore : (Nat → Int32)) : Option (Int32 × (Nat → Int32) × (Nat → Int32)) := (if y0 = 0 then f_X5_mostApart_113 p1_guests k10 k46 x2 x3 x4 x5 x5 0 t_most t_mostBefore else (f_J6_bitCount_0f7a4 x5).bind (fun z94 => ix 512 (511 - x5) (f_X5_mostApart_113 p1_guests k10 k46 x2 x3 x4 x5 x5 (z94 + (t_mostBefore (511 - x5).toNatClampNeg)) t_most t_mostBefore)))
def f_X5_mostApart_78 (p1_guests : (Nat → Int32)) (k10 : Int32 → Int32 → (Nat → Int32) → (Nat → Int32) → Option (Int32 × (Nat → Int32) × (Nat → Int32))) (k46 : Int32 → Int32 → Int32 → Int32 → (Nat → Int32) → (Nat → Int32) → Option (Int32 × (Nat → Int32) × (Nat → Int32))) (x2 : Int32) (x3 : Int32) (x4 : Int32) (x5 : Int32) (t_most : (Nat → Int32)) (t_mostBefore : (Nat → Int32)) : Option (Int32 × (Nat → Int32) × (Nat → Int32)) := f_X5_mostApart_79 p1_guests k10 k46 x2 x3 x4 x5 0 t_most t_mostBefore
def f_X5_mostApart_46 (p1_guests : (Nat → Int32)) (k10 : Int32 → Int32 → (Nat → Int32) → (Nat → Int32) → Option (Int32 × (Nat → Int32) × (Nat → Int32))) : Nat → Int32 → Int32 → Int32 → Int32 → (Nat → Int32) → (Nat → Int32) → Option (Int32 × (Nat → Int32) × (Nat → Int32))
  | 0, _, _, _, _, _, _ => none
  | n + 1, x2, x3, x4, x5, t_most, t_mostBefore => (if 512 ≤ x5 then (f_X5_raiseToSubsets t_most).bind (fun z121 => k10 x2 (x3 + 1) z121 t_mostBefore) else (if (x5 &&& (x4 ^^^ (-1))) = 0 then (if (x5 &&& (x5 <<< (1 &&& 31))) = 0 then f_X5_mostApart_79 p1_guests k10 (f_X5_mostApart_46 p1_guests k10 n) x2 x3 x4 x5 1 t_most t_mostBefore else f_X5_mostApart_78 p1_guests k10 (f_X5_mostApart_46 p1_guests k10 n) x2 x3 x4 x5 t_most t_mostBefore) else f_X5_mostApart_78 p1_guests k10 (f_X5_mostApart_46 p1_guests k10 n) x2 x3 x4 x5 t_most t_mostBefore))
def f_X5_mostApart_10 (p1_guests : (Nat → Int32)) : Nat → Int32 → Int32 → (Nat → Int32) → (Nat → Int32) → Option (Int32 × (Nat → Int32) × (Nat → Int32))
  | 0, _, _, _, _ => none
  | n + 1, x2, x3, t_most, t_mostBefore => (if 8 ≤ x3 then ix 512 511 (some (t_most (511 : Int32).toNatClampNeg, t_most, t_mostBefore)) else cpk 512 512 0 0 512 ((f_X11_pewOf x2 x3).bind (fun z35 => (f_X5_takenPlaces p1_guests z35).bind (fun z38 => f_X5_mostApart_46 p1_guests (f_X5_mostApart_10 p1_guests n) FU x2 x3 z38 0 t_most (va_cpy t_most t_mostBefore (0 : Int32).toNatClampNeg (0 : Int32).toNatClampNeg (512 : Int32).toNatClampNeg)))))
def f_X5_mostApart (t_most : (Nat → Int32)) (t_mostBefore : (Nat → Int32)) (p1_guests : (Nat → Int32)) (x2 : Int32) : Option (Int32 × (Nat → Int32) × (Nat → Int32)) := (f_J7_fill_53178 512 t_most 0).bind (fun z5 => f_X5_mostApart_10 p1_guests FU x2 0 z5 t_mostBefore)
def w_X5_mostApart (cI cB cZ : ClassId) (a_t : Nat) (a_t_most : Nat) (a_t_mostBefore : Nat) (a_p1 : Nat) (a_p1_guests : Nat) (a_t_singersByRow : Nat) (a_p1_numbers : Nat) (a_p1_coats : Nat) (a_p1_line : Nat) (t_most : (Nat → Int32)) (t_mostBefore : (Nat → Int32)) (p1_waiting : Int32) (p1_arrived : Int32) (p1_standing : Int32) (p1_climbed : Int32) (p1_drawn : Int32) (p1_guests : (Nat → Int32)) : va_W := [(a_t, .inr (4, [.ref a_t_singersByRow, .ref a_t_most, .ref a_t_mostBefore])), (a_t_most, .inl (cI, 512, .inl t_most)), (a_t_mostBefore, .inl (cI, 512, .inl t_mostBefore)), (a_p1, .inr (0, [.ref a_p1_guests, .ref a_p1_numbers, .ref a_p1_coats, .ref a_p1_line, .int p1_waiting, .int p1_arrived, .int p1_standing, .int p1_climbed, .int p1_drawn])), (a_p1_guests, .inl (cI, 144, .inl p1_guests))]
set_option maxHeartbeats 4000000 in
set_option maxRecDepth 100000 in
theorem b_X5_mostApart {p : Program} {l : Launch} {e : Env} {R : Room} {s : State} {m : MethodId} {args : Array Value} {below : List Frame} {meth : Method} {c : Code} {Q : State → Prop} {D : va_G} {cI cB cZ : ClassId} (hx : p.tables.exec = Jvm.exec) (hb : c.code = cX5_mostApart) (hml : c.maxLocals = 7) (hown : s.vm.findClass RX5 = some m.cls) (hT : ∀ w ∈ TB, w.before args s = true) (hRf : (3) ≤ R.frames) (hRl : (65) ≤ R.locals) (hK : va_K D vwCl (tyL cI cB cZ) s) (hN : NW s) {A : Nat → Prop} (hA : ∀ q : Nat, s.heap.size ≤ q → A q) (H : Heap) (locs : List Loc)  (a_t : Nat) (a_t_most : Nat) (a_t_mostBefore : Nat) (a_p1 : Nat) (a_p1_guests : Nat) (a_t_singersByRow : Nat) (a_p1_numbers : Nat) (a_p1_coats : Nat) (a_p1_line : Nat) (t_most : (Nat → Int32)) (t_mostBefore : (Nat → Int32)) (p1_waiting : Int32) (p1_arrived : Int32) (p1_standing : Int32) (p1_climbed : Int32) (p1_drawn : Int32) (p1_guests : (Nat → Int32)) (x2 : Int32) (res : Int32 × (Nat → Int32) × (Nat → Int32)) (hf : f_X5_mostApart t_most t_mostBefore p1_guests x2 = some res) (hP : va_P D vwCl (w_X5_mostApart cI cB cZ a_t a_t_most a_t_mostBefore a_p1 a_p1_guests a_t_singersByRow a_p1_numbers a_p1_coats a_p1_line t_most t_mostBefore p1_waiting p1_arrived p1_standing p1_climbed p1_drawn p1_guests) H) (hD : va_D A (w_X5_mostApart cI cB cZ a_t a_t_most a_t_mostBefore a_p1 a_p1_guests a_t_singersByRow a_p1_numbers a_p1_coats a_p1_line t_most t_mostBefore p1_waiting p1_arrived p1_standing p1_climbed p1_drawn p1_guests)) (hS : va_S A s.heap H locs) (hQ : ∀ (H : Heap) (locs : List Loc) (pc : Nat) (ls : Array Slot), va_P D vwCl (w_X5_mostApart cI cB cZ a_t a_t_most a_t_mostBefore a_p1 a_p1_guests a_t_singersByRow a_p1_numbers a_p1_coats a_p1_line res.2.1 res.2.2 p1_waiting p1_arrived p1_standing p1_climbed p1_drawn p1_guests) H → va_D A (w_X5_mostApart cI cB cZ a_t a_t_most a_t_mostBefore a_p1 a_p1_guests a_t_singersByRow a_p1_numbers a_p1_coats a_p1_line res.2.1 res.2.2 p1_waiting p1_arrived p1_standing p1_climbed p1_drawn p1_guests) → va_S A s.heap H locs → True → decode cX5_mostApart pc = .ok (.ireturn, 1) → W p l e R s m args below meth c H locs 0 0 Q (F0 m pc ls [.int res.1])) (ls : Array Slot) (hl : lv_has ls 7 [(0, .ref a_t), (1, .ref a_p1), (2, .int x2)]) : W p l e R s m args below meth c H locs 0 0 Q (F0 m 0 ls []) := by
  unfold f_X5_mostApart at hf
  refine lv_aload_n hx hb dX5_mostApart_0 rfl (lv_at hl 0 rfl) ?_
  refine va_get (D := D) (ci := 4) (v := .ref a_t_most) (C := RX5) (T := TX5) (N := 3) hx hb hT inX5 hown hK hP 0 rfl rfl 1 (by decide) (hT _ tb_273) (fun _ h9 => h9) rfl dX5_mostApart_1 ?_
  refine lv_iconst (v := 0) hx hb dX5_mostApart_4 (by decide) ?_
  obtain ⟨z5, e5, hf⟩ := bd_some hf
  refine rS_RW (As := [.ref a_t_most, .int 0]) (rest := []) (w2 := (w_X5_mostApart cI cB cZ a_t a_t_most a_t_mostBefore a_p1 a_p1_guests a_t_singersByRow a_p1_numbers a_p1_coats a_p1_line z5 t_mostBefore p1_waiting p1_arrived p1_standing p1_climbed p1_drawn p1_guests)) ⟨hx, hb, hml, hown, hT⟩ (gdS tb_1002 tb_167 tb_89 tb_168) hd_J7_fill_53178 (c_J7_fill_53178 l D cI cB cZ 512 a_t_most t_most 0 H.size z5 e5) ⟨rfl, rfl⟩ ⟨Nat.le_trans (by decide) hRf, Nat.le_trans (by decide) hRl⟩ ⟨hK, hN⟩ hA hP hD hS [1] [0, 2, 3, 4] rfl (by decide) (wr := [_, _, _, _]) rfl (by decide) (by decide) [0, 4, 1, 2, 3] rfl (by decide) rfl hl.1 rfl (Nat.le_of_ble_eq_true rfl) ⟨Nat.zero_le _, Nat.zero_le _⟩ dX5_mostApart_5 (fun H locs hP hD hS _ => ?_)
  refine lv_iconst (v := 0) hx hb dX5_mostApart_8 (by decide) ?_
  have J_10 : ∀ (n_10 : Nat) (x2 : Int32) (x3 : Int32) (t_most : (Nat → Int32)) (t_mostBefore : (Nat → Int32)) (H : Heap) (locs : List Loc) (ls : Array Slot), f_X5_mostApart_10 p1_guests n_10 x2 x3 t_most t_mostBefore = some res → va_P D vwCl (w_X5_mostApart cI cB cZ a_t a_t_most a_t_mostBefore a_p1 a_p1_guests a_t_singersByRow a_p1_numbers a_p1_coats a_p1_line t_most t_mostBefore p1_waiting p1_arrived p1_standing p1_climbed p1_drawn p1_guests) H → va_D A (w_X5_mostApart cI cB cZ a_t a_t_most a_t_mostBefore a_p1 a_p1_guests a_t_singersByRow a_p1_numbers a_p1_coats a_p1_line t_most t_mostBefore p1_waiting p1_arrived p1_standing p1_climbed p1_drawn p1_guests) → va_S A s.heap H locs → lv_has ls 7 [(0, .ref a_t), (1, .ref a_p1), (2, .int x2), (3, .int x3)] → W p l e R s m args below meth c H locs 0 0 Q (F0 m 10 ls []) := by
    intro n_10
    induction n_10 with
    | zero =>
      intro x2 x3 t_most t_mostBefore H locs ls hf hP hD hS hl
      cases hf
    | succ n_10 ih_10 =>
      intro x2 x3 t_most t_mostBefore H locs ls hf hP hD hS hl
      unfold f_X5_mostApart_10 at hf
      refine lv_iload_n hx hb dX5_mostApart_10 rfl (lv_at hl 3 rfl) ?_
      refine lv_bipush (v := 8) hx hb dX5_mostApart_11 (by decide) ?_
      refine lv_icmp_ge (tgt := 130) hx hb dX5_mostApart_13 (by decide) (fun hc_13 => ?_) (fun hc_13 => ?_)
      · have hf := it_pos hc_13 hf
        refine lv_aload_n hx hb dX5_mostApart_130 rfl (lv_at hl 0 rfl) ?_
        refine va_get (D := D) (ci := 4) (v := .ref a_t_most) (C := RX5) (T := TX5) (N := 3) hx hb hT inX5 hown hK hP 0 rfl rfl 1 (by decide) (hT _ tb_273) (fun _ h9 => h9) rfl dX5_mostApart_131 ?_
        refine lv_sipush (v := 511) hx hb dX5_mostApart_134 (by decide) ?_
        obtain ⟨hi_137, hf⟩ := ix_some hf
        refine va_iald hx hb hK hP 1 0 rfl rfl hi_137 dX5_mostApart_137 ?_
        obtain rfl := Option.some.inj hf
        exact hQ H locs 138 ls hP hD hS trivial dX5_mostApart_138
      · have hf := it_neg hc_13 hf
        refine lv_aload_n hx hb dX5_mostApart_16 rfl (lv_at hl 0 rfl) ?_
        refine va_get (D := D) (ci := 4) (v := .ref a_t_most) (C := RX5) (T := TX5) (N := 3) hx hb hT inX5 hown hK hP 0 rfl rfl 1 (by decide) (hT _ tb_273) (fun _ h9 => h9) rfl dX5_mostApart_17 ?_
        refine lv_iconst (v := 0) hx hb dX5_mostApart_20 (by decide) ?_
        refine lv_aload_n hx hb dX5_mostApart_21 rfl (lv_at hl 0 rfl) ?_
        refine va_get (D := D) (ci := 4) (v := .ref a_t_mostBefore) (C := RX5) (T := TX5) (N := 3) hx hb hT inX5 hown hK hP 0 rfl rfl 2 (by decide) (hT _ tb_274) (fun _ h9 => h9) rfl dX5_mostApart_22 ?_
        refine lv_iconst (v := 0) hx hb dX5_mostApart_25 (by decide) ?_
        refine lv_sipush (v := 512) hx hb dX5_mostApart_26 (by decide) ?_
        obtain ⟨⟨hc1_29, hc2_29, hc3_29, hc4_29, hc5_29⟩, hf⟩ := cpk_some hf
        refine va_copyi (ty := .int) hx hb (hml.trans hl.1.symm) hown (hT _ tb_1084) (hT _ tb_667) (hT _ tb_666) (hT _ tb_105) hK hP hD hS 1 2 0 0 rfl rfl rfl rfl rfl hc1_29 hc2_29 hc3_29 hc4_29 hc5_29 (fun _ _ => rfl) (Nat.le_trans (by decide) hRf) (Nat.le_trans (Nat.le_of_ble_eq_true rfl) hRl) dX5_mostApart_29 (fun H locs hP hD hS => ?_)
        have hP : va_P D vwCl (w_X5_mostApart cI cB cZ a_t a_t_most a_t_mostBefore a_p1 a_p1_guests a_t_singersByRow a_p1_numbers a_p1_coats a_p1_line t_most (va_cpy t_most t_mostBefore (0 : Int32).toNatClampNeg (0 : Int32).toNatClampNeg (512 : Int32).toNatClampNeg) p1_waiting p1_arrived p1_standing p1_climbed p1_drawn p1_guests) H := hP
        have hD : va_D A (w_X5_mostApart cI cB cZ a_t a_t_most a_t_mostBefore a_p1 a_p1_guests a_t_singersByRow a_p1_numbers a_p1_coats a_p1_line t_most (va_cpy t_most t_mostBefore (0 : Int32).toNatClampNeg (0 : Int32).toNatClampNeg (512 : Int32).toNatClampNeg) p1_waiting p1_arrived p1_standing p1_climbed p1_drawn p1_guests) := hD
        refine lv_aload_n hx hb dX5_mostApart_32 rfl (lv_at hl 1 rfl) ?_
        refine lv_iload_n hx hb dX5_mostApart_33 rfl (lv_at hl 2 rfl) ?_
        refine lv_iload_n hx hb dX5_mostApart_34 rfl (lv_at hl 3 rfl) ?_
        obtain ⟨z35, e35, hf⟩ := bd_some hf
        refine rSN_RO (As := [.int x2, .int x3]) (rest := [.ref a_p1]) ⟨hx, hb, hml, hown, hT⟩ (hN _ (List.mem_of_getElem? (i := 4) rfl)) tb_879 tb_85 tb_880 hd_X11_pewOf (c_X11_pewOf l D cI cB cZ x2 x3 z35 e35) ⟨rfl, rfl⟩ ⟨Nat.le_trans (by decide) hRf, Nat.le_trans (by decide) hRl⟩ ⟨hK, hN⟩ hP [] rfl rfl hl.1 rfl (Nat.le_of_ble_eq_true rfl) ⟨Nat.zero_le _, Nat.zero_le _⟩ dX5_mostApart_35 (fun _ => ?_)
        obtain ⟨z38, e38, hf⟩ := bd_some hf
        refine rS_RO (As := [.ref a_p1, .int z35]) (rest := []) ⟨hx, hb, hml, hown, hT⟩ (gdS tb_1086 tb_1087 tb_94 tb_1088) hd_X5_takenPlaces (c_X5_takenPlaces l D cI cB cZ a_p1 a_p1_guests a_p1_numbers a_p1_coats a_p1_line p1_waiting p1_arrived p1_standing p1_climbed p1_drawn p1_guests z35 z38 e38) ⟨rfl, rfl⟩ ⟨Nat.le_trans (by decide) hRf, Nat.le_trans (by decide) hRl⟩ ⟨hK, hN⟩ hP [3, 4] rfl rfl hl.1 rfl (Nat.le_of_ble_eq_true rfl) ⟨Nat.zero_le _, Nat.zero_le _⟩ dX5_mostApart_38 (fun _ => ?_)
        refine lv_istore (lv' := [(4, .int z38), (0, .ref a_t), (1, .ref a_p1), (2, .int x2), (3, .int x3)]) hx hb dX5_mostApart_41 hl (by decide) rfl (fun ls hl => ?_)
        refine lv_iconst (v := 0) hx hb dX5_mostApart_43 (by decide) ?_
        have J_46 : ∀ (n_46 : Nat) (x2 : Int32) (x3 : Int32) (x4 : Int32) (x5 : Int32) (t_most : (Nat → Int32)) (t_mostBefore : (Nat → Int32)) (H : Heap) (locs : List Loc) (ls : Array Slot), f_X5_mostApart_46 p1_guests (f_X5_mostApart_10 p1_guests n_10) n_46 x2 x3 x4 x5 t_most t_mostBefore = some res → va_P D vwCl (w_X5_mostApart cI cB cZ a_t a_t_most a_t_mostBefore a_p1 a_p1_guests a_t_singersByRow a_p1_numbers a_p1_coats a_p1_line t_most t_mostBefore p1_waiting p1_arrived p1_standing p1_climbed p1_drawn p1_guests) H → va_D A (w_X5_mostApart cI cB cZ a_t a_t_most a_t_mostBefore a_p1 a_p1_guests a_t_singersByRow a_p1_numbers a_p1_coats a_p1_line t_most t_mostBefore p1_waiting p1_arrived p1_standing p1_climbed p1_drawn p1_guests) → va_S A s.heap H locs → lv_has ls 7 [(0, .ref a_t), (1, .ref a_p1), (2, .int x2), (3, .int x3), (4, .int x4), (5, .int x5)] → W p l e R s m args below meth c H locs 0 0 Q (F0 m 46 ls []) := by
          intro n_46
          induction n_46 with
          | zero =>
            intro x2 x3 x4 x5 t_most t_mostBefore H locs ls hf hP hD hS hl
            cases hf
          | succ n_46 ih_46 =>
            intro x2 x3 x4 x5 t_most t_mostBefore H locs ls hf hP hD hS hl
            unfold f_X5_mostApart_46 at hf
            refine lv_iload hx hb dX5_mostApart_46 (lv_at hl 5 rfl) ?_
            refine lv_sipush (v := 512) hx hb dX5_mostApart_48 (by decide) ?_
            refine lv_icmp_ge (tgt := 120) hx hb dX5_mostApart_51 (by decide) (fun hc_51 => ?_) (fun hc_51 => ?_)
            · have hf := it_pos hc_51 hf
              refine lv_aload_n hx hb dX5_mostApart_120 rfl (lv_at hl 0 rfl) ?_
              obtain ⟨z121, e121, hf⟩ := bd_some hf
              refine rV_RW (As := []) (rest := []) (w2 := (w_X5_mostApart cI cB cZ a_t a_t_most a_t_mostBefore a_p1 a_p1_guests a_t_singersByRow a_p1_numbers a_p1_coats a_p1_line z121 t_mostBefore p1_waiting p1_arrived p1_standing p1_climbed p1_drawn p1_guests)) ⟨hx, hb, hml, hown, hT⟩ (gdV tb_1090 tb_1092 tb_28 tb_94 tb_1093) hd_X5_raiseToSubsets (c_X5_raiseToSubsets l D cI cB cZ a_t a_t_most a_t_singersByRow a_t_mostBefore t_most H.size z121 e121) ⟨rfl, rfl⟩ ⟨Nat.le_trans (by decide) hRf, Nat.le_trans (by decide) hRl⟩ ⟨hK, hN⟩ hA hP hD hS [0, 1] [2, 3, 4] rfl (by decide) (wr := [_, _, _]) rfl (by decide) (by decide) [3, 4, 0, 1, 2] rfl (by decide) 0 rfl rfl rfl hl.1 rfl (Nat.le_of_ble_eq_true rfl) ⟨Nat.zero_le _, Nat.zero_le _⟩ dX5_mostApart_121 (fun H locs hP hD hS _ => ?_)
              refine lv_iinc (v := x3 + 1) (lv' := [(3, .int (x3 + 1)), (0, .ref a_t), (1, .ref a_p1), (2, .int x2), (4, .int x4), (5, .int x5)]) hx hb dX5_mostApart_124 hl (k := 3) rfl (congrArg (_ + ·) (by decide : Int32.ofInt 1 = 1)) (by decide) rfl (fun ls hl => ?_)
              refine lv_goto (tgt := 10) hx hb dX5_mostApart_127 (by decide) ?_
              exact ih_10 _ _ _ _ _ _ _ hf hP hD hS (lv_sub hl [1, 2, 3, 0] rfl)
            · have hf := it_neg hc_51 hf
              refine lv_iload hx hb dX5_mostApart_54 (lv_at hl 5 rfl) ?_
              refine lv_iload hx hb dX5_mostApart_56 (lv_at hl 4 rfl) ?_
              refine lv_iconst (v := (-1)) hx hb dX5_mostApart_58 (by decide) ?_
              refine lv_ixor hx hb dX5_mostApart_59 ?_
              refine lv_iand hx hb dX5_mostApart_60 ?_
              have J_79 : ∀ (x2 : Int32) (x3 : Int32) (x4 : Int32) (x5 : Int32) (y0 : Int32) (t_most : (Nat → Int32)) (t_mostBefore : (Nat → Int32)) (H : Heap) (locs : List Loc) (ls : Array Slot), f_X5_mostApart_79 p1_guests (f_X5_mostApart_10 p1_guests n_10) (f_X5_mostApart_46 p1_guests (f_X5_mostApart_10 p1_guests n_10) n_46) x2 x3 x4 x5 y0 t_most t_mostBefore = some res → va_P D vwCl (w_X5_mostApart cI cB cZ a_t a_t_most a_t_mostBefore a_p1 a_p1_guests a_t_singersByRow a_p1_numbers a_p1_coats a_p1_line t_most t_mostBefore p1_waiting p1_arrived p1_standing p1_climbed p1_drawn p1_guests) H → va_D A (w_X5_mostApart cI cB cZ a_t a_t_most a_t_mostBefore a_p1 a_p1_guests a_t_singersByRow a_p1_numbers a_p1_coats a_p1_line t_most t_mostBefore p1_waiting p1_arrived p1_standing p1_climbed p1_drawn p1_guests) → va_S A s.heap H locs → lv_has ls 7 [(0, .ref a_t), (1, .ref a_p1), (2, .int x2), (3, .int x3), (4, .int x4), (5, .int x5)] → W p l e R s m args below meth c H locs 0 0 Q (F0 m 79 ls [.int y0]) := by
                intro x2 x3 x4 x5 y0 t_most t_mostBefore H locs ls hf hP hD hS hl
                unfold f_X5_mostApart_79 at hf
                refine lv_istore (lv' := [(6, .int y0), (0, .ref a_t), (1, .ref a_p1), (2, .int x2), (3, .int x3), (4, .int x4), (5, .int x5)]) hx hb dX5_mostApart_79 hl (by decide) rfl (fun ls hl => ?_)
                refine lv_aload_n hx hb dX5_mostApart_81 rfl (lv_at hl 1 rfl) ?_
                refine va_get (D := D) (ci := 4) (v := .ref a_t_most) (C := RX5) (T := TX5) (N := 3) hx hb hT inX5 hown hK hP 0 rfl rfl 1 (by decide) (hT _ tb_273) (fun _ h9 => h9) rfl dX5_mostApart_82 ?_
                refine lv_iload hx hb dX5_mostApart_85 (lv_at hl 6 rfl) ?_
                refine lv_iload hx hb dX5_mostApart_87 (lv_at hl 0 rfl) ?_
                have J_113 : ∀ (x2 : Int32) (x3 : Int32) (x4 : Int32) (x5 : Int32) (y0 : Int32) (y1 : Int32) (t_most : (Nat → Int32)) (t_mostBefore : (Nat → Int32)) (H : Heap) (locs : List Loc) (ls : Array Slot), f_X5_mostApart_113 p1_guests (f_X5_mostApart_10 p1_guests n_10) (f_X5_mostApart_46 p1_guests (f_X5_mostApart_10 p1_guests n_10) n_46) x2 x3 x4 x5 y0 y1 t_most t_mostBefore = some res → va_P D vwCl (w_X5_mostApart cI cB cZ a_t a_t_most a_t_mostBefore a_p1 a_p1_guests a_t_singersByRow a_p1_numbers a_p1_coats a_p1_line t_most t_mostBefore p1_waiting p1_arrived p1_standing p1_climbed p1_drawn p1_guests) H → va_D A (w_X5_mostApart cI cB cZ a_t a_t_most a_t_mostBefore a_p1 a_p1_guests a_t_singersByRow a_p1_numbers a_p1_coats a_p1_line t_most t_mostBefore p1_waiting p1_arrived p1_standing p1_climbed p1_drawn p1_guests) → va_S A s.heap H locs → lv_has ls 7 [(0, .ref a_t), (1, .ref a_p1), (2, .int x2), (3, .int x3), (4, .int x4), (5, .int x5)] → W p l e R s m args below meth c H locs 0 0 Q (F0 m 113 ls [.int y1, .int y0, .ref a_t_most]) := by
                  intro x2 x3 x4 x5 y0 y1 t_most t_mostBefore H locs ls hf hP hD hS hl
                  unfold f_X5_mostApart_113 at hf
                  obtain ⟨hi_113, hf⟩ := ix_some hf
                  refine va_iast hx hb hK hP hD hS 1 0 rfl rfl hi_113 dX5_mostApart_113 (fun H locs hP hD hS => ?_)
                  have hP : va_P D vwCl (w_X5_mostApart cI cB cZ a_t a_t_most a_t_mostBefore a_p1 a_p1_guests a_t_singersByRow a_p1_numbers a_p1_coats a_p1_line (upd t_most y0.toNatClampNeg y1) t_mostBefore p1_waiting p1_arrived p1_standing p1_climbed p1_drawn p1_guests) H := hP
                  have hD : va_D A (w_X5_mostApart cI cB cZ a_t a_t_most a_t_mostBefore a_p1 a_p1_guests a_t_singersByRow a_p1_numbers a_p1_coats a_p1_line (upd t_most y0.toNatClampNeg y1) t_mostBefore p1_waiting p1_arrived p1_standing p1_climbed p1_drawn p1_guests) := hD
                  refine lv_iinc (v := x5 + 1) (lv' := [(5, .int (x5 + 1)), (0, .ref a_t), (1, .ref a_p1), (2, .int x2), (3, .int x3), (4, .int x4)]) hx hb dX5_mostApart_114 hl (k := 5) rfl (congrArg (_ + ·) (by decide : Int32.ofInt 1 = 1)) (by decide) rfl (fun ls hl => ?_)
                  refine lv_goto (tgt := 46) hx hb dX5_mostApart_117 (by decide) ?_
                  exact ih_46 _ _ _ _ _ _ _ _ _ hf hP hD hS (lv_sub hl [1, 2, 3, 4, 5, 0] rfl)
                refine lv_if_eq (tgt := 112) hx hb dX5_mostApart_89 (by decide) (fun hc_89 => ?_) (fun hc_89 => ?_)
                · have hf := it_pos hc_89 hf
                  refine lv_iconst (v := 0) hx hb dX5_mostApart_112 (by decide) ?_
                  exact J_113 _ _ _ _ _ _ _ _ _ _ _ hf hP hD hS (lv_sub hl [1, 2, 3, 4, 5, 6] rfl)
                · have hf := it_neg hc_89 hf
                  refine lv_iload hx hb dX5_mostApart_92 (lv_at hl 6 rfl) ?_
                  obtain ⟨z94, e94, hf⟩ := bd_some hf
                  refine rS_RO (As := [.int x5]) (rest := [.int x5, .ref a_t_most]) ⟨hx, hb, hml, hown, hT⟩ (gdS tb_1089 tb_977 tb_106 tb_978) hd_J6_bitCount_0f7a4 (c_J6_bitCount_0f7a4 l D cI cB cZ x5 z94 e94) ⟨rfl, rfl⟩ ⟨Nat.le_trans (by decide) hRf, Nat.le_trans (by decide) hRl⟩ ⟨hK, hN⟩ hP [] rfl rfl hl.1 rfl (Nat.le_of_ble_eq_true rfl) ⟨Nat.zero_le _, Nat.zero_le _⟩ dX5_mostApart_94 (fun _ => ?_)
                  refine lv_aload_n hx hb dX5_mostApart_97 rfl (lv_at hl 1 rfl) ?_
                  refine va_get (D := D) (ci := 4) (v := .ref a_t_mostBefore) (C := RX5) (T := TX5) (N := 3) hx hb hT inX5 hown hK hP 0 rfl rfl 2 (by decide) (hT _ tb_274) (fun _ h9 => h9) rfl dX5_mostApart_98 ?_
                  refine lv_sipush (v := 511) hx hb dX5_mostApart_101 (by decide) ?_
                  refine lv_iload hx hb dX5_mostApart_104 (lv_at hl 6 rfl) ?_
                  refine lv_isub hx hb dX5_mostApart_106 ?_
                  obtain ⟨hi_107, hf⟩ := ix_some hf
                  refine va_iald hx hb hK hP 2 0 rfl rfl hi_107 dX5_mostApart_107 ?_
                  refine lv_iadd hx hb dX5_mostApart_108 ?_
                  refine lv_goto (tgt := 113) hx hb dX5_mostApart_109 (by decide) ?_
                  exact J_113 _ _ _ _ _ _ _ _ _ _ _ hf hP hD hS (lv_sub hl [1, 2, 3, 4, 5, 6] rfl)
              have J_78 : ∀ (x2 : Int32) (x3 : Int32) (x4 : Int32) (x5 : Int32) (t_most : (Nat → Int32)) (t_mostBefore : (Nat → Int32)) (H : Heap) (locs : List Loc) (ls : Array Slot), f_X5_mostApart_78 p1_guests (f_X5_mostApart_10 p1_guests n_10) (f_X5_mostApart_46 p1_guests (f_X5_mostApart_10 p1_guests n_10) n_46) x2 x3 x4 x5 t_most t_mostBefore = some res → va_P D vwCl (w_X5_mostApart cI cB cZ a_t a_t_most a_t_mostBefore a_p1 a_p1_guests a_t_singersByRow a_p1_numbers a_p1_coats a_p1_line t_most t_mostBefore p1_waiting p1_arrived p1_standing p1_climbed p1_drawn p1_guests) H → va_D A (w_X5_mostApart cI cB cZ a_t a_t_most a_t_mostBefore a_p1 a_p1_guests a_t_singersByRow a_p1_numbers a_p1_coats a_p1_line t_most t_mostBefore p1_waiting p1_arrived p1_standing p1_climbed p1_drawn p1_guests) → va_S A s.heap H locs → lv_has ls 7 [(0, .ref a_t), (1, .ref a_p1), (2, .int x2), (3, .int x3), (4, .int x4), (5, .int x5)] → W p l e R s m args below meth c H locs 0 0 Q (F0 m 78 ls []) := by
                intro x2 x3 x4 x5 t_most t_mostBefore H locs ls hf hP hD hS hl
                unfold f_X5_mostApart_78 at hf
                refine lv_iconst (v := 0) hx hb dX5_mostApart_78 (by decide) ?_
                exact J_79 _ _ _ _ _ _ _ _ _ _ hf hP hD hS (lv_sub hl [0, 1, 2, 3, 4, 5] rfl)
              refine lv_if_ne (tgt := 78) hx hb dX5_mostApart_61 (by decide) (fun hc_61 => ?_) (fun hc_61 => ?_)
              · have hf := it_neg hc_61 hf
                exact J_78 _ _ _ _ _ _ _ _ _ hf hP hD hS (lv_sub hl [0, 1, 2, 3, 4, 5] rfl)
              · have hf := it_pos hc_61 hf
                refine lv_iload hx hb dX5_mostApart_64 (lv_at hl 5 rfl) ?_
                refine lv_iload hx hb dX5_mostApart_66 (lv_at hl 5 rfl) ?_
                refine lv_iconst (v := 1) hx hb dX5_mostApart_68 (by decide) ?_
                refine lv_ishl hx hb dX5_mostApart_69 ?_
                refine lv_iand hx hb dX5_mostApart_70 ?_
                refine lv_if_ne (tgt := 78) hx hb dX5_mostApart_71 (by decide) (fun hc_71 => ?_) (fun hc_71 => ?_)
                · have hf := it_neg hc_71 hf
                  exact J_78 _ _ _ _ _ _ _ _ _ hf hP hD hS (lv_sub hl [0, 1, 2, 3, 4, 5] rfl)
                · have hf := it_pos hc_71 hf
                  refine lv_iconst (v := 1) hx hb dX5_mostApart_74 (by decide) ?_
                  refine lv_goto (tgt := 79) hx hb dX5_mostApart_75 (by decide) ?_
                  exact J_79 _ _ _ _ _ _ _ _ _ _ hf hP hD hS (lv_sub hl [0, 1, 2, 3, 4, 5] rfl)
        refine lv_istore (lv' := [(5, .int 0), (4, .int z38), (0, .ref a_t), (1, .ref a_p1), (2, .int x2), (3, .int x3)]) hx hb dX5_mostApart_44 hl (by decide) rfl (fun ls hl => ?_)
        exact J_46 _ _ _ _ _ _ _ _ _ _ hf hP hD hS (lv_sub hl [2, 3, 4, 5, 1, 0] rfl)
  refine lv_istore_n (lv' := [(3, .int 0), (0, .ref a_t), (1, .ref a_p1), (2, .int x2)]) hx hb dX5_mostApart_9 rfl hl (by decide) rfl (fun ls hl => ?_)
  exact J_10 _ _ _ _ _ _ _ _ hf hP hD hS (lv_sub hl [1, 2, 3, 0] rfl)
theorem hd_X5_mostApart : (yX5_mostApart).cls = RX5 ∧ (yX5_mostApart).cls ≠ "java/lang/invoke/MethodHandle" ∧ (yX5_mostApart).cls ≠ "java/lang/invoke/VarHandle" ∧ (parseMethodDescriptor (yX5_mostApart).desc).map (fun d => d.parameters.length) = some 2 := by decide +kernel
theorem c_X5_mostApart (l : Launch) (D : va_G) (cI cB cZ : ClassId) (a_t : Nat) (a_t_most : Nat) (a_t_mostBefore : Nat) (a_p1 : Nat) (a_p1_guests : Nat) (a_t_singersByRow : Nat) (a_p1_numbers : Nat) (a_p1_coats : Nat) (a_p1_line : Nat) (t_most : (Nat → Int32)) (t_mostBefore : (Nat → Int32)) (p1_waiting : Int32) (p1_arrived : Int32) (p1_standing : Int32) (p1_climbed : Int32) (p1_drawn : Int32) (p1_guests : (Nat → Int32)) (x2 : Int32) (sz : Nat) (res : Int32 × (Nat → Int32) × (Nat → Int32)) (hf : f_X5_mostApart t_most t_mostBefore p1_guests x2 = some res) : Met l yX5_mostApart (.code yX5_mostApart cX5_mostApart 7 (some .int) :: TB) (rmk (3) (65)) (pRW [.ref a_t, .ref a_p1, .int x2] D cI cB cZ (w_X5_mostApart cI cB cZ a_t a_t_most a_t_mostBefore a_p1 a_p1_guests a_t_singersByRow a_p1_numbers a_p1_coats a_p1_line t_most t_mostBefore p1_waiting p1_arrived p1_standing p1_climbed p1_drawn p1_guests) sz) (qRW (some (.int res.1)) True D (w_X5_mostApart cI cB cZ a_t a_t_most a_t_mostBefore a_p1 a_p1_guests a_t_singersByRow a_p1_numbers a_p1_coats a_p1_line t_most t_mostBefore p1_waiting p1_arrived p1_standing p1_climbed p1_drawn p1_guests) sz (w_X5_mostApart cI cB cZ a_t a_t_most a_t_mostBefore a_p1 a_p1_guests a_t_singersByRow a_p1_numbers a_p1_coats a_p1_line res.2.1 res.2.2 p1_waiting p1_arrived p1_standing p1_climbed p1_drawn p1_guests)) 0 0 (va_A (w_X5_mostApart cI cB cZ a_t a_t_most a_t_mostBefore a_p1 a_p1_guests a_t_singersByRow a_p1_numbers a_p1_coats a_p1_line t_most t_mostBefore p1_waiting p1_arrived p1_standing p1_climbed p1_drawn p1_guests) sz) :=
  mkRW (by decide +kernel) (Nat.le_of_ble_eq_true rfl) (fun p e s m below meth c ls A hAe S hr hlk hK hA hP hD hS hl => b_X5_mostApart S.1 S.2.1 S.2.2.1 S.2.2.2.1 S.2.2.2.2 (Nat.le_refl _) (Nat.le_refl _) hK.1 hK.2 hA s.heap [] a_t a_t_most a_t_mostBefore a_p1 a_p1_guests a_t_singersByRow a_p1_numbers a_p1_coats a_p1_line t_most t_mostBefore p1_waiting p1_arrived p1_standing p1_climbed p1_drawn p1_guests x2 res hf hP hD hS (fun H locs pc ls hP hD hS hE hd => eRW_i S.1 S.2.1 hr rfl hlk hAe hP hD hS hE hd) ls hl)
