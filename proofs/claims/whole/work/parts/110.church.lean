def f_X0_draw (t_drawn : Int32) : Option (Int32 × Int32) := some (jrem (jrem ((25173 * t_drawn) + 13849) 65536) 10, jrem ((25173 * t_drawn) + 13849) 65536)
def w_X0_draw (cI cB cZ : ClassId) (a_t : Nat) (a_t_guests : Nat) (a_t_numbers : Nat) (a_t_coats : Nat) (a_t_line : Nat) (t_waiting : Int32) (t_arrived : Int32) (t_standing : Int32) (t_climbed : Int32) (t_drawn : Int32) : va_W := [(a_t, .inr (0, [.ref a_t_guests, .ref a_t_numbers, .ref a_t_coats, .ref a_t_line, .int t_waiting, .int t_arrived, .int t_standing, .int t_climbed, .int t_drawn]))]
set_option maxHeartbeats 4000000 in
set_option maxRecDepth 100000 in
theorem b_X0_draw {p : Program} {l : Launch} {e : Env} {R : Room} {s : State} {m : MethodId} {args : Array Value} {below : List Frame} {meth : Method} {c : Code} {Q : State → Prop} {D : va_G} {cI cB cZ : ClassId} (hx : p.tables.exec = Jvm.exec) (hb : c.code = cX0_draw) (hml : c.maxLocals = 1) (hown : s.vm.findClass RX0 = some m.cls) (hT : ∀ w ∈ TB, w.before args s = true) (hRf : (0) ≤ R.frames) (hRl : (0) ≤ R.locals) (hK : va_K D vwCl (tyL cI cB cZ) s) (hN : NW s) {A : Nat → Prop} (hA : ∀ q : Nat, s.heap.size ≤ q → A q) (H : Heap) (locs : List Loc)  (a_t : Nat) (a_t_guests : Nat) (a_t_numbers : Nat) (a_t_coats : Nat) (a_t_line : Nat) (t_waiting : Int32) (t_arrived : Int32) (t_standing : Int32) (t_climbed : Int32) (t_drawn : Int32) (res : Int32 × Int32) (hf : f_X0_draw t_drawn = some res) (hP : va_P D vwCl (w_X0_draw cI cB cZ a_t a_t_guests a_t_numbers a_t_coats a_t_line t_waiting t_arrived t_standing t_climbed t_drawn) H) (hD : va_D A (w_X0_draw cI cB cZ a_t a_t_guests a_t_numbers a_t_coats a_t_line t_waiting t_arrived t_standing t_climbed t_drawn)) (hS : va_S A s.heap H locs) (hQ : ∀ (H : Heap) (locs : List Loc) (pc : Nat) (ls : Array Slot), va_P D vwCl (w_X0_draw cI cB cZ a_t a_t_guests a_t_numbers a_t_coats a_t_line t_waiting t_arrived t_standing t_climbed res.2) H → va_D A (w_X0_draw cI cB cZ a_t a_t_guests a_t_numbers a_t_coats a_t_line t_waiting t_arrived t_standing t_climbed res.2) → va_S A s.heap H locs → True → decode cX0_draw pc = .ok (.ireturn, 1) → W p l e R s m args below meth c H locs 0 0 Q (F0 m pc ls [.int res.1])) (ls : Array Slot) (hl : lv_has ls 1 [(0, .ref a_t)]) : W p l e R s m args below meth c H locs 0 0 Q (F0 m 0 ls []) := by
  unfold f_X0_draw at hf
  refine lv_aload_n hx hb dX0_draw_0 rfl (lv_at hl 0 rfl) ?_
  refine lv_sipush (v := 25173) hx hb dX0_draw_1 (by decide) ?_
  refine lv_aload_n hx hb dX0_draw_4 rfl (lv_at hl 0 rfl) ?_
  refine va_get (D := D) (ci := 0) (v := .int t_drawn) (C := RX0) (T := TX0) (N := 9) hx hb hT inX0 hown hK hP 0 rfl rfl 8 (by decide) (hT _ tb_195) (fun _ h9 => h9) rfl dX0_draw_5 ?_
  refine lv_imul hx hb dX0_draw_8 ?_
  refine lv_sipush (v := 13849) hx hb dX0_draw_9 (by decide) ?_
  refine lv_iadd hx hb dX0_draw_12 ?_
  refine lv_ldc (v := 65536) hx hb hown (hT _ tb_754) dX0_draw_13 ?_
  refine lv_irem hx hb dX0_draw_15 (by decide) ?_
  refine va_put (D := D) (ci := 0) (v := .int (jrem ((25173 * t_drawn) + 13849) 65536)) (ty := (.int)) (C := RX0) (T := TX0) (N := 9) hx hb hT inX0 tyX0 tyX0_ok nmX0 hown hK hP hD hS 0 rfl rfl 8 (by decide) (hT _ tb_195) (fun _ h9 => h9) rfl (by decide +kernel) rfl rfl (Nat.le_of_ble_eq_true rfl) dX0_draw_16 (fun H locs hP hD hS => ?_)
  have hP : va_P D vwCl (w_X0_draw cI cB cZ a_t a_t_guests a_t_numbers a_t_coats a_t_line t_waiting t_arrived t_standing t_climbed (jrem ((25173 * t_drawn) + 13849) 65536)) H := hP
  have hD : va_D A (w_X0_draw cI cB cZ a_t a_t_guests a_t_numbers a_t_coats a_t_line t_waiting t_arrived t_standing t_climbed (jrem ((25173 * t_drawn) + 13849) 65536)) := hD
  refine lv_aload_n hx hb dX0_draw_19 rfl (lv_at hl 0 rfl) ?_
  refine va_get (D := D) (ci := 0) (v := .int (jrem ((25173 * t_drawn) + 13849) 65536)) (C := RX0) (T := TX0) (N := 9) hx hb hT inX0 hown hK hP 0 rfl rfl 8 (by decide) (hT _ tb_195) (fun _ h9 => h9) rfl dX0_draw_20 ?_
  refine lv_bipush (v := 10) hx hb dX0_draw_23 (by decide) ?_
  refine lv_irem hx hb dX0_draw_25 (by decide) ?_
  obtain rfl := Option.some.inj hf
  exact hQ H locs 26 ls hP hD hS trivial dX0_draw_26
theorem hd_X0_draw : (yX0_draw).cls = RX0 ∧ (yX0_draw).cls ≠ "java/lang/invoke/MethodHandle" ∧ (yX0_draw).cls ≠ "java/lang/invoke/VarHandle" ∧ (parseMethodDescriptor (yX0_draw).desc).map (fun d => d.parameters.length) = some 0 := by decide +kernel
theorem c_X0_draw (l : Launch) (D : va_G) (cI cB cZ : ClassId) (a_t : Nat) (a_t_guests : Nat) (a_t_numbers : Nat) (a_t_coats : Nat) (a_t_line : Nat) (t_waiting : Int32) (t_arrived : Int32) (t_standing : Int32) (t_climbed : Int32) (t_drawn : Int32) (sz : Nat) (res : Int32 × Int32) (hf : f_X0_draw t_drawn = some res) : Met l yX0_draw (.code yX0_draw cX0_draw 1 (some .int) :: TB) (rmk (0) (0)) (pRW [.ref a_t] D cI cB cZ (w_X0_draw cI cB cZ a_t a_t_guests a_t_numbers a_t_coats a_t_line t_waiting t_arrived t_standing t_climbed t_drawn) sz) (qRW (some (.int res.1)) True D (w_X0_draw cI cB cZ a_t a_t_guests a_t_numbers a_t_coats a_t_line t_waiting t_arrived t_standing t_climbed t_drawn) sz (w_X0_draw cI cB cZ a_t a_t_guests a_t_numbers a_t_coats a_t_line t_waiting t_arrived t_standing t_climbed res.2)) 0 0 (va_A (w_X0_draw cI cB cZ a_t a_t_guests a_t_numbers a_t_coats a_t_line t_waiting t_arrived t_standing t_climbed t_drawn) sz) :=
  mkRW (by decide +kernel) (Nat.le_of_ble_eq_true rfl) (fun p e s m below meth c ls A hAe S hr hlk hK hA hP hD hS hl => b_X0_draw S.1 S.2.1 S.2.2.1 S.2.2.2.1 S.2.2.2.2 (Nat.le_refl _) (Nat.le_refl _) hK.1 hK.2 hA s.heap [] a_t a_t_guests a_t_numbers a_t_coats a_t_line t_waiting t_arrived t_standing t_climbed t_drawn res hf hP hD hS (fun H locs pc ls hP hD hS hE hd => eRW_i S.1 S.2.1 hr rfl hlk hAe hP hD hS hE hd) ls hl)
def f_X0_guestOn (t_guests : (Nat → Int32)) (x1 : Int32) : Option (Int32) := (if x1 < 0 then some ((-1)) else (if 144 ≤ x1 then some ((-1)) else ix 144 x1 (some (t_guests x1.toNatClampNeg))))
def w_X0_guestOn (cI cB cZ : ClassId) (a_t : Nat) (a_t_guests : Nat) (a_t_numbers : Nat) (a_t_coats : Nat) (a_t_line : Nat) (t_waiting : Int32) (t_arrived : Int32) (t_standing : Int32) (t_climbed : Int32) (t_drawn : Int32) (t_guests : (Nat → Int32)) : va_W := [(a_t, .inr (0, [.ref a_t_guests, .ref a_t_numbers, .ref a_t_coats, .ref a_t_line, .int t_waiting, .int t_arrived, .int t_standing, .int t_climbed, .int t_drawn])), (a_t_guests, .inl (cI, 144, .inl t_guests))]
set_option maxHeartbeats 4000000 in
set_option maxRecDepth 100000 in
theorem b_X0_guestOn {p : Program} {l : Launch} {e : Env} {R : Room} {s : State} {m : MethodId} {args : Array Value} {below : List Frame} {meth : Method} {c : Code} {Q : State → Prop} {D : va_G} {cI cB cZ : ClassId} (hx : p.tables.exec = Jvm.exec) (hb : c.code = cX0_guestOn) (hml : c.maxLocals = 2) (hown : s.vm.findClass RX0 = some m.cls) (hT : ∀ w ∈ TB, w.before args s = true) (hRf : (0) ≤ R.frames) (hRl : (0) ≤ R.locals) (hK : va_K D vwCl (tyL cI cB cZ) s) (hN : NW s)  (a_t : Nat) (a_t_guests : Nat) (a_t_numbers : Nat) (a_t_coats : Nat) (a_t_line : Nat) (t_waiting : Int32) (t_arrived : Int32) (t_standing : Int32) (t_climbed : Int32) (t_drawn : Int32) (t_guests : (Nat → Int32)) (x1 : Int32) (res : Int32) (hf : f_X0_guestOn t_guests x1 = some res) (hP : va_P D vwCl (w_X0_guestOn cI cB cZ a_t a_t_guests a_t_numbers a_t_coats a_t_line t_waiting t_arrived t_standing t_climbed t_drawn t_guests) s.heap) (hQ : ∀ (pc : Nat) (ls : Array Slot), True → decode cX0_guestOn pc = .ok (.ireturn, 1) → W p l e R s m args below meth c s.heap [] 0 0 Q (F0 m pc ls [.int res])) (ls : Array Slot) (hl : lv_has ls 2 [(0, .ref a_t), (1, .int x1)]) : W p l e R s m args below meth c s.heap [] 0 0 Q (F0 m 0 ls []) := by
  unfold f_X0_guestOn at hf
  refine lv_iload_n hx hb dX0_guestOn_0 rfl (lv_at hl 1 rfl) ?_
  refine lv_if_lt (tgt := 20) hx hb dX0_guestOn_1 (by decide) (fun hc_1 => ?_) (fun hc_1 => ?_)
  · have hf := it_pos hc_1 hf
    refine lv_iconst (v := (-1)) hx hb dX0_guestOn_20 (by decide) ?_
    obtain rfl := Option.some.inj hf
    exact hQ 21 ls trivial dX0_guestOn_21
  · have hf := it_neg hc_1 hf
    refine lv_iload_n hx hb dX0_guestOn_4 rfl (lv_at hl 1 rfl) ?_
    refine lv_sipush (v := 144) hx hb dX0_guestOn_5 (by decide) ?_
    refine lv_icmp_ge (tgt := 20) hx hb dX0_guestOn_8 (by decide) (fun hc_8 => ?_) (fun hc_8 => ?_)
    · have hf := it_pos hc_8 hf
      refine lv_iconst (v := (-1)) hx hb dX0_guestOn_20 (by decide) ?_
      obtain rfl := Option.some.inj hf
      exact hQ 21 ls trivial dX0_guestOn_21
    · have hf := it_neg hc_8 hf
      refine lv_aload_n hx hb dX0_guestOn_11 rfl (lv_at hl 0 rfl) ?_
      refine va_get (D := D) (ci := 0) (v := .ref a_t_guests) (C := RX0) (T := TX0) (N := 9) hx hb hT inX0 hown hK hP 0 rfl rfl 0 (by decide) (hT _ tb_169) (fun _ h9 => h9) rfl dX0_guestOn_12 ?_
      refine lv_iload_n hx hb dX0_guestOn_15 rfl (lv_at hl 1 rfl) ?_
      obtain ⟨hi_16, hf⟩ := ix_some hf
      refine va_iald hx hb hK hP 1 0 rfl rfl hi_16 dX0_guestOn_16 ?_
      refine lv_goto (tgt := 21) hx hb dX0_guestOn_17 (by decide) ?_
      obtain rfl := Option.some.inj hf
      exact hQ 21 ls trivial dX0_guestOn_21
theorem hd_X0_guestOn : (yX0_guestOn).cls = RX0 ∧ (yX0_guestOn).cls ≠ "java/lang/invoke/MethodHandle" ∧ (yX0_guestOn).cls ≠ "java/lang/invoke/VarHandle" ∧ (parseMethodDescriptor (yX0_guestOn).desc).map (fun d => d.parameters.length) = some 1 := by decide +kernel
theorem c_X0_guestOn (l : Launch) (D : va_G) (cI cB cZ : ClassId) (a_t : Nat) (a_t_guests : Nat) (a_t_numbers : Nat) (a_t_coats : Nat) (a_t_line : Nat) (t_waiting : Int32) (t_arrived : Int32) (t_standing : Int32) (t_climbed : Int32) (t_drawn : Int32) (t_guests : (Nat → Int32)) (x1 : Int32) (res : Int32) (hf : f_X0_guestOn t_guests x1 = some res) : Met l yX0_guestOn (.code yX0_guestOn cX0_guestOn 2 (some .int) :: TB) (rmk (0) (0)) (pRO [.ref a_t, .int x1] D cI cB cZ (w_X0_guestOn cI cB cZ a_t a_t_guests a_t_numbers a_t_coats a_t_line t_waiting t_arrived t_standing t_climbed t_drawn t_guests)) (qRO (some (.int res)) True) 0 0 (fun _ => False) :=
  mkRO (by decide +kernel) (Nat.le_of_ble_eq_true rfl) (fun p e s m below meth c ls S hr hlk hK hP hl => b_X0_guestOn S.1 S.2.1 S.2.2.1 S.2.2.2.1 S.2.2.2.2 (Nat.le_refl _) (Nat.le_refl _) hK.1 hK.2 a_t a_t_guests a_t_numbers a_t_coats a_t_line t_waiting t_arrived t_standing t_climbed t_drawn t_guests x1 res hf hP (fun pc ls hE hd => eRO_i S.1 S.2.1 hr rfl hlk hE hd) ls hl)
def f_X0_coatOn (t_coats : (Nat → Int32)) (x1 : Int32) : Option (Int32) := (if x1 < 0 then some ((-1)) else (if 144 ≤ x1 then some ((-1)) else ix 144 x1 (some (t_coats x1.toNatClampNeg))))
def w_X0_coatOn (cI cB cZ : ClassId) (a_t : Nat) (a_t_coats : Nat) (a_t_guests : Nat) (a_t_numbers : Nat) (a_t_line : Nat) (t_waiting : Int32) (t_arrived : Int32) (t_standing : Int32) (t_climbed : Int32) (t_drawn : Int32) (t_coats : (Nat → Int32)) : va_W := [(a_t, .inr (0, [.ref a_t_guests, .ref a_t_numbers, .ref a_t_coats, .ref a_t_line, .int t_waiting, .int t_arrived, .int t_standing, .int t_climbed, .int t_drawn])), (a_t_coats, .inl (cI, 144, .inl t_coats))]
set_option maxHeartbeats 4000000 in
set_option maxRecDepth 100000 in
theorem b_X0_coatOn {p : Program} {l : Launch} {e : Env} {R : Room} {s : State} {m : MethodId} {args : Array Value} {below : List Frame} {meth : Method} {c : Code} {Q : State → Prop} {D : va_G} {cI cB cZ : ClassId} (hx : p.tables.exec = Jvm.exec) (hb : c.code = cX0_coatOn) (hml : c.maxLocals = 2) (hown : s.vm.findClass RX0 = some m.cls) (hT : ∀ w ∈ TB, w.before args s = true) (hRf : (0) ≤ R.frames) (hRl : (0) ≤ R.locals) (hK : va_K D vwCl (tyL cI cB cZ) s) (hN : NW s)  (a_t : Nat) (a_t_coats : Nat) (a_t_guests : Nat) (a_t_numbers : Nat) (a_t_line : Nat) (t_waiting : Int32) (t_arrived : Int32) (t_standing : Int32) (t_climbed : Int32) (t_drawn : Int32) (t_coats : (Nat → Int32)) (x1 : Int32) (res : Int32) (hf : f_X0_coatOn t_coats x1 = some res) (hP : va_P D vwCl (w_X0_coatOn cI cB cZ a_t a_t_coats a_t_guests a_t_numbers a_t_line t_waiting t_arrived t_standing t_climbed t_drawn t_coats) s.heap) (hQ : ∀ (pc : Nat) (ls : Array Slot), True → decode cX0_coatOn pc = .ok (.ireturn, 1) → W p l e R s m args below meth c s.heap [] 0 0 Q (F0 m pc ls [.int res])) (ls : Array Slot) (hl : lv_has ls 2 [(0, .ref a_t), (1, .int x1)]) : W p l e R s m args below meth c s.heap [] 0 0 Q (F0 m 0 ls []) := by
  unfold f_X0_coatOn at hf
  refine lv_iload_n hx hb dX0_coatOn_0 rfl (lv_at hl 1 rfl) ?_
  refine lv_if_lt (tgt := 20) hx hb dX0_coatOn_1 (by decide) (fun hc_1 => ?_) (fun hc_1 => ?_)
  · have hf := it_pos hc_1 hf
    refine lv_iconst (v := (-1)) hx hb dX0_coatOn_20 (by decide) ?_
    obtain rfl := Option.some.inj hf
    exact hQ 21 ls trivial dX0_coatOn_21
  · have hf := it_neg hc_1 hf
    refine lv_iload_n hx hb dX0_coatOn_4 rfl (lv_at hl 1 rfl) ?_
    refine lv_sipush (v := 144) hx hb dX0_coatOn_5 (by decide) ?_
    refine lv_icmp_ge (tgt := 20) hx hb dX0_coatOn_8 (by decide) (fun hc_8 => ?_) (fun hc_8 => ?_)
    · have hf := it_pos hc_8 hf
      refine lv_iconst (v := (-1)) hx hb dX0_coatOn_20 (by decide) ?_
      obtain rfl := Option.some.inj hf
      exact hQ 21 ls trivial dX0_coatOn_21
    · have hf := it_neg hc_8 hf
      refine lv_aload_n hx hb dX0_coatOn_11 rfl (lv_at hl 0 rfl) ?_
      refine va_get (D := D) (ci := 0) (v := .ref a_t_coats) (C := RX0) (T := TX0) (N := 9) hx hb hT inX0 hown hK hP 0 rfl rfl 2 (by decide) (hT _ tb_174) (fun _ h9 => h9) rfl dX0_coatOn_12 ?_
      refine lv_iload_n hx hb dX0_coatOn_15 rfl (lv_at hl 1 rfl) ?_
      obtain ⟨hi_16, hf⟩ := ix_some hf
      refine va_iald hx hb hK hP 1 0 rfl rfl hi_16 dX0_coatOn_16 ?_
      refine lv_goto (tgt := 21) hx hb dX0_coatOn_17 (by decide) ?_
      obtain rfl := Option.some.inj hf
      exact hQ 21 ls trivial dX0_coatOn_21
theorem hd_X0_coatOn : (yX0_coatOn).cls = RX0 ∧ (yX0_coatOn).cls ≠ "java/lang/invoke/MethodHandle" ∧ (yX0_coatOn).cls ≠ "java/lang/invoke/VarHandle" ∧ (parseMethodDescriptor (yX0_coatOn).desc).map (fun d => d.parameters.length) = some 1 := by decide +kernel
theorem c_X0_coatOn (l : Launch) (D : va_G) (cI cB cZ : ClassId) (a_t : Nat) (a_t_coats : Nat) (a_t_guests : Nat) (a_t_numbers : Nat) (a_t_line : Nat) (t_waiting : Int32) (t_arrived : Int32) (t_standing : Int32) (t_climbed : Int32) (t_drawn : Int32) (t_coats : (Nat → Int32)) (x1 : Int32) (res : Int32) (hf : f_X0_coatOn t_coats x1 = some res) : Met l yX0_coatOn (.code yX0_coatOn cX0_coatOn 2 (some .int) :: TB) (rmk (0) (0)) (pRO [.ref a_t, .int x1] D cI cB cZ (w_X0_coatOn cI cB cZ a_t a_t_coats a_t_guests a_t_numbers a_t_line t_waiting t_arrived t_standing t_climbed t_drawn t_coats)) (qRO (some (.int res)) True) 0 0 (fun _ => False) :=
  mkRO (by decide +kernel) (Nat.le_of_ble_eq_true rfl) (fun p e s m below meth c ls S hr hlk hK hP hl => b_X0_coatOn S.1 S.2.1 S.2.2.1 S.2.2.2.1 S.2.2.2.2 (Nat.le_refl _) (Nat.le_refl _) hK.1 hK.2 a_t a_t_coats a_t_guests a_t_numbers a_t_line t_waiting t_arrived t_standing t_climbed t_drawn t_coats x1 res hf hP (fun pc ls hE hd => eRO_i S.1 S.2.1 hr rfl hlk hE hd) ls hl)
def f_X0_isTaken (t_guests : (Nat → Int32)) (x1 : Int32) : Option (Int32) := (f_X0_guestOn t_guests x1).bind (fun z2 => (if z2 = (-1) then some (0) else some (1)))
def w_X0_isTaken (cI cB cZ : ClassId) (a_t : Nat) (a_t_guests : Nat) (a_t_numbers : Nat) (a_t_coats : Nat) (a_t_line : Nat) (t_waiting : Int32) (t_arrived : Int32) (t_standing : Int32) (t_climbed : Int32) (t_drawn : Int32) (t_guests : (Nat → Int32)) : va_W := [(a_t, .inr (0, [.ref a_t_guests, .ref a_t_numbers, .ref a_t_coats, .ref a_t_line, .int t_waiting, .int t_arrived, .int t_standing, .int t_climbed, .int t_drawn])), (a_t_guests, .inl (cI, 144, .inl t_guests))]
set_option maxHeartbeats 4000000 in
set_option maxRecDepth 100000 in
theorem b_X0_isTaken {p : Program} {l : Launch} {e : Env} {R : Room} {s : State} {m : MethodId} {args : Array Value} {below : List Frame} {meth : Method} {c : Code} {Q : State → Prop} {D : va_G} {cI cB cZ : ClassId} (hx : p.tables.exec = Jvm.exec) (hb : c.code = cX0_isTaken) (hml : c.maxLocals = 2) (hown : s.vm.findClass RX0 = some m.cls) (hT : ∀ w ∈ TB, w.before args s = true) (hRf : (1) ≤ R.frames) (hRl : (21) ≤ R.locals) (hK : va_K D vwCl (tyL cI cB cZ) s) (hN : NW s)  (a_t : Nat) (a_t_guests : Nat) (a_t_numbers : Nat) (a_t_coats : Nat) (a_t_line : Nat) (t_waiting : Int32) (t_arrived : Int32) (t_standing : Int32) (t_climbed : Int32) (t_drawn : Int32) (t_guests : (Nat → Int32)) (x1 : Int32) (res : Int32) (hf : f_X0_isTaken t_guests x1 = some res) (hP : va_P D vwCl (w_X0_isTaken cI cB cZ a_t a_t_guests a_t_numbers a_t_coats a_t_line t_waiting t_arrived t_standing t_climbed t_drawn t_guests) s.heap) (hQ : ∀ (pc : Nat) (ls : Array Slot), (res = 0 ∨ res = 1) → decode cX0_isTaken pc = .ok (.ireturn, 1) → W p l e R s m args below meth c s.heap [] 0 0 Q (F0 m pc ls [.int res])) (ls : Array Slot) (hl : lv_has ls 2 [(0, .ref a_t), (1, .int x1)]) : W p l e R s m args below meth c s.heap [] 0 0 Q (F0 m 0 ls []) := by
  unfold f_X0_isTaken at hf
  refine lv_aload_n hx hb dX0_isTaken_0 rfl (lv_at hl 0 rfl) ?_
  refine lv_iload_n hx hb dX0_isTaken_1 rfl (lv_at hl 1 rfl) ?_
  obtain ⟨z2, e2, hf⟩ := bd_some hf
  refine rV_RO (As := [.int x1]) (rest := []) ⟨hx, hb, hml, hown, hT⟩ (gdV tb_688 tb_689 tb_690 tb_88 tb_691) hd_X0_guestOn (c_X0_guestOn l D cI cB cZ a_t a_t_guests a_t_numbers a_t_coats a_t_line t_waiting t_arrived t_standing t_climbed t_drawn t_guests x1 z2 e2) ⟨rfl, rfl⟩ ⟨Nat.le_trans (by decide) hRf, Nat.le_trans (by decide) hRl⟩ ⟨hK, hN⟩ hP [0, 1] rfl 0 rfl rfl rfl hl.1 rfl (Nat.le_of_ble_eq_true rfl) ⟨Nat.zero_le _, Nat.zero_le _⟩ dX0_isTaken_2 (fun _ => ?_)
  refine lv_iconst (v := (-1)) hx hb dX0_isTaken_5 (by decide) ?_
  refine lv_icmp_eq (tgt := 13) hx hb dX0_isTaken_6 (by decide) (fun hc_6 => ?_) (fun hc_6 => ?_)
  · have hf := it_pos hc_6 hf
    refine lv_iconst (v := 0) hx hb dX0_isTaken_13 (by decide) ?_
    obtain rfl := Option.some.inj hf
    exact hQ 14 ls (Or.inl rfl) dX0_isTaken_14
  · have hf := it_neg hc_6 hf
    refine lv_iconst (v := 1) hx hb dX0_isTaken_9 (by decide) ?_
    refine lv_goto (tgt := 14) hx hb dX0_isTaken_10 (by decide) ?_
    obtain rfl := Option.some.inj hf
    exact hQ 14 ls (Or.inr rfl) dX0_isTaken_14
theorem hd_X0_isTaken : (yX0_isTaken).cls = RX0 ∧ (yX0_isTaken).cls ≠ "java/lang/invoke/MethodHandle" ∧ (yX0_isTaken).cls ≠ "java/lang/invoke/VarHandle" ∧ (parseMethodDescriptor (yX0_isTaken).desc).map (fun d => d.parameters.length) = some 1 := by decide +kernel
theorem c_X0_isTaken (l : Launch) (D : va_G) (cI cB cZ : ClassId) (a_t : Nat) (a_t_guests : Nat) (a_t_numbers : Nat) (a_t_coats : Nat) (a_t_line : Nat) (t_waiting : Int32) (t_arrived : Int32) (t_standing : Int32) (t_climbed : Int32) (t_drawn : Int32) (t_guests : (Nat → Int32)) (x1 : Int32) (res : Int32) (hf : f_X0_isTaken t_guests x1 = some res) : Met l yX0_isTaken (.code yX0_isTaken cX0_isTaken 2 (some .boolean) :: TB) (rmk (1) (21)) (pRO [.ref a_t, .int x1] D cI cB cZ (w_X0_isTaken cI cB cZ a_t a_t_guests a_t_numbers a_t_coats a_t_line t_waiting t_arrived t_standing t_climbed t_drawn t_guests)) (qRO (some (.int res)) (res = 0 ∨ res = 1)) 0 0 (fun _ => False) :=
  mkRO (by decide +kernel) (Nat.le_of_ble_eq_true rfl) (fun p e s m below meth c ls S hr hlk hK hP hl => b_X0_isTaken S.1 S.2.1 S.2.2.1 S.2.2.2.1 S.2.2.2.2 (Nat.le_refl _) (Nat.le_refl _) hK.1 hK.2 a_t a_t_guests a_t_numbers a_t_coats a_t_line t_waiting t_arrived t_standing t_climbed t_drawn t_guests x1 res hf hP (fun pc ls hE hd => eRO_i S.1 S.2.1 hr (nz_ok hE) hlk hE hd) ls hl)
def f_X0_isTakenBy (t_guests : (Nat → Int32)) (x1 : Int32) (x2 : Int32) : Option (Int32) := (f_X0_guestOn t_guests x1).bind (fun z2 => (if z2 = (-1) then some (0) else (f_X1_familyOf z2).bind (fun z12 => (if z12 = x2 then some (1) else some (0)))))
def w_X0_isTakenBy (cI cB cZ : ClassId) (a_t : Nat) (a_t_guests : Nat) (a_t_numbers : Nat) (a_t_coats : Nat) (a_t_line : Nat) (t_waiting : Int32) (t_arrived : Int32) (t_standing : Int32) (t_climbed : Int32) (t_drawn : Int32) (t_guests : (Nat → Int32)) : va_W := [(a_t, .inr (0, [.ref a_t_guests, .ref a_t_numbers, .ref a_t_coats, .ref a_t_line, .int t_waiting, .int t_arrived, .int t_standing, .int t_climbed, .int t_drawn])), (a_t_guests, .inl (cI, 144, .inl t_guests))]
set_option maxHeartbeats 4000000 in
set_option maxRecDepth 100000 in
theorem b_X0_isTakenBy {p : Program} {l : Launch} {e : Env} {R : Room} {s : State} {m : MethodId} {args : Array Value} {below : List Frame} {meth : Method} {c : Code} {Q : State → Prop} {D : va_G} {cI cB cZ : ClassId} (hx : p.tables.exec = Jvm.exec) (hb : c.code = cX0_isTakenBy) (hml : c.maxLocals = 4) (hown : s.vm.findClass RX0 = some m.cls) (hT : ∀ w ∈ TB, w.before args s = true) (hRf : (1) ≤ R.frames) (hRl : (21) ≤ R.locals) (hK : va_K D vwCl (tyL cI cB cZ) s) (hN : NW s)  (a_t : Nat) (a_t_guests : Nat) (a_t_numbers : Nat) (a_t_coats : Nat) (a_t_line : Nat) (t_waiting : Int32) (t_arrived : Int32) (t_standing : Int32) (t_climbed : Int32) (t_drawn : Int32) (t_guests : (Nat → Int32)) (x1 : Int32) (x2 : Int32) (res : Int32) (hf : f_X0_isTakenBy t_guests x1 x2 = some res) (hP : va_P D vwCl (w_X0_isTakenBy cI cB cZ a_t a_t_guests a_t_numbers a_t_coats a_t_line t_waiting t_arrived t_standing t_climbed t_drawn t_guests) s.heap) (hQ : ∀ (pc : Nat) (ls : Array Slot), (res = 0 ∨ res = 1) → decode cX0_isTakenBy pc = .ok (.ireturn, 1) → W p l e R s m args below meth c s.heap [] 0 0 Q (F0 m pc ls [.int res])) (ls : Array Slot) (hl : lv_has ls 4 [(0, .ref a_t), (1, .int x1), (2, .int x2)]) : W p l e R s m args below meth c s.heap [] 0 0 Q (F0 m 0 ls []) := by
  unfold f_X0_isTakenBy at hf
  refine lv_aload_n hx hb dX0_isTakenBy_0 rfl (lv_at hl 0 rfl) ?_
  refine lv_iload_n hx hb dX0_isTakenBy_1 rfl (lv_at hl 1 rfl) ?_
  obtain ⟨z2, e2, hf⟩ := bd_some hf
  refine rV_RO (As := [.int x1]) (rest := []) ⟨hx, hb, hml, hown, hT⟩ (gdV tb_688 tb_689 tb_690 tb_88 tb_691) hd_X0_guestOn (c_X0_guestOn l D cI cB cZ a_t a_t_guests a_t_numbers a_t_coats a_t_line t_waiting t_arrived t_standing t_climbed t_drawn t_guests x1 z2 e2) ⟨rfl, rfl⟩ ⟨Nat.le_trans (by decide) hRf, Nat.le_trans (by decide) hRl⟩ ⟨hK, hN⟩ hP [0, 1] rfl 0 rfl rfl rfl hl.1 rfl (Nat.le_of_ble_eq_true rfl) ⟨Nat.zero_le _, Nat.zero_le _⟩ dX0_isTakenBy_2 (fun _ => ?_)
  refine lv_istore_n (lv' := [(3, .int z2), (0, .ref a_t), (1, .int x1), (2, .int x2)]) hx hb dX0_isTakenBy_5 rfl hl (by decide) rfl (fun ls hl => ?_)
  refine lv_iload_n hx hb dX0_isTakenBy_6 rfl (lv_at hl 0 rfl) ?_
  refine lv_iconst (v := (-1)) hx hb dX0_isTakenBy_7 (by decide) ?_
  refine lv_icmp_eq (tgt := 23) hx hb dX0_isTakenBy_8 (by decide) (fun hc_8 => ?_) (fun hc_8 => ?_)
  · have hf := it_pos hc_8 hf
    refine lv_iconst (v := 0) hx hb dX0_isTakenBy_23 (by decide) ?_
    obtain rfl := Option.some.inj hf
    exact hQ 24 ls (Or.inl rfl) dX0_isTakenBy_24
  · have hf := it_neg hc_8 hf
    refine lv_iload_n hx hb dX0_isTakenBy_11 rfl (lv_at hl 0 rfl) ?_
    obtain ⟨z12, e12, hf⟩ := bd_some hf
    refine rS_RO (As := [.int z2]) (rest := []) ⟨hx, hb, hml, hown, hT⟩ (gdS tb_805 tb_719 tb_104 tb_720) hd_X1_familyOf (c_X1_familyOf l D cI cB cZ z2 z12 e12) ⟨rfl, rfl⟩ ⟨Nat.le_trans (by decide) hRf, Nat.le_trans (by decide) hRl⟩ ⟨hK, hN⟩ hP [] rfl rfl hl.1 rfl (Nat.le_of_ble_eq_true rfl) ⟨Nat.zero_le _, Nat.zero_le _⟩ dX0_isTakenBy_12 (fun _ => ?_)
    refine lv_iload_n hx hb dX0_isTakenBy_15 rfl (lv_at hl 3 rfl) ?_
    refine lv_icmp_ne (tgt := 23) hx hb dX0_isTakenBy_16 (by decide) (fun hc_16 => ?_) (fun hc_16 => ?_)
    · have hf := it_neg hc_16 hf
      refine lv_iconst (v := 0) hx hb dX0_isTakenBy_23 (by decide) ?_
      obtain rfl := Option.some.inj hf
      exact hQ 24 ls (Or.inl rfl) dX0_isTakenBy_24
    · have hf := it_pos hc_16 hf
      refine lv_iconst (v := 1) hx hb dX0_isTakenBy_19 (by decide) ?_
      refine lv_goto (tgt := 24) hx hb dX0_isTakenBy_20 (by decide) ?_
      obtain rfl := Option.some.inj hf
      exact hQ 24 ls (Or.inr rfl) dX0_isTakenBy_24
theorem hd_X0_isTakenBy : (yX0_isTakenBy).cls = RX0 ∧ (yX0_isTakenBy).cls ≠ "java/lang/invoke/MethodHandle" ∧ (yX0_isTakenBy).cls ≠ "java/lang/invoke/VarHandle" ∧ (parseMethodDescriptor (yX0_isTakenBy).desc).map (fun d => d.parameters.length) = some 2 := by decide +kernel
theorem c_X0_isTakenBy (l : Launch) (D : va_G) (cI cB cZ : ClassId) (a_t : Nat) (a_t_guests : Nat) (a_t_numbers : Nat) (a_t_coats : Nat) (a_t_line : Nat) (t_waiting : Int32) (t_arrived : Int32) (t_standing : Int32) (t_climbed : Int32) (t_drawn : Int32) (t_guests : (Nat → Int32)) (x1 : Int32) (x2 : Int32) (res : Int32) (hf : f_X0_isTakenBy t_guests x1 x2 = some res) : Met l yX0_isTakenBy (.code yX0_isTakenBy cX0_isTakenBy 4 (some .boolean) :: TB) (rmk (1) (21)) (pRO [.ref a_t, .int x1, .int x2] D cI cB cZ (w_X0_isTakenBy cI cB cZ a_t a_t_guests a_t_numbers a_t_coats a_t_line t_waiting t_arrived t_standing t_climbed t_drawn t_guests)) (qRO (some (.int res)) (res = 0 ∨ res = 1)) 0 0 (fun _ => False) :=
  mkRO (by decide +kernel) (Nat.le_of_ble_eq_true rfl) (fun p e s m below meth c ls S hr hlk hK hP hl => b_X0_isTakenBy S.1 S.2.1 S.2.2.1 S.2.2.2.1 S.2.2.2.2 (Nat.le_refl _) (Nat.le_refl _) hK.1 hK.2 a_t a_t_guests a_t_numbers a_t_coats a_t_line t_waiting t_arrived t_standing t_climbed t_drawn t_guests x1 x2 res hf hP (fun pc ls hE hd => eRO_i S.1 S.2.1 hr (nz_ok hE) hlk hE hd) ls hl)
def f_X0_isFreeFor (t_guests : (Nat → Int32)) (t_coats : (Nat → Int32)) (x1 : Int32) (x2 : Int32) : Option (Int32) := (f_X0_coatOn t_coats x1).bind (fun z2 => (f_X0_guestOn t_guests x1).bind (fun z8 => (if z8 = (-1) then (if z2 = (-1) then some (1) else (if z2 = x2 then some (1) else some (0))) else some (0))))
def w_X0_isFreeFor (cI cB cZ : ClassId) (a_t : Nat) (a_t_guests : Nat) (a_t_coats : Nat) (a_t_numbers : Nat) (a_t_line : Nat) (t_waiting : Int32) (t_arrived : Int32) (t_standing : Int32) (t_climbed : Int32) (t_drawn : Int32) (t_guests : (Nat → Int32)) (t_coats : (Nat → Int32)) : va_W := [(a_t, .inr (0, [.ref a_t_guests, .ref a_t_numbers, .ref a_t_coats, .ref a_t_line, .int t_waiting, .int t_arrived, .int t_standing, .int t_climbed, .int t_drawn])), (a_t_guests, .inl (cI, 144, .inl t_guests)), (a_t_coats, .inl (cI, 144, .inl t_coats))]
set_option maxHeartbeats 4000000 in
set_option maxRecDepth 100000 in
theorem b_X0_isFreeFor {p : Program} {l : Launch} {e : Env} {R : Room} {s : State} {m : MethodId} {args : Array Value} {below : List Frame} {meth : Method} {c : Code} {Q : State → Prop} {D : va_G} {cI cB cZ : ClassId} (hx : p.tables.exec = Jvm.exec) (hb : c.code = cX0_isFreeFor) (hml : c.maxLocals = 4) (hown : s.vm.findClass RX0 = some m.cls) (hT : ∀ w ∈ TB, w.before args s = true) (hRf : (1) ≤ R.frames) (hRl : (21) ≤ R.locals) (hK : va_K D vwCl (tyL cI cB cZ) s) (hN : NW s)  (a_t : Nat) (a_t_guests : Nat) (a_t_coats : Nat) (a_t_numbers : Nat) (a_t_line : Nat) (t_waiting : Int32) (t_arrived : Int32) (t_standing : Int32) (t_climbed : Int32) (t_drawn : Int32) (t_guests : (Nat → Int32)) (t_coats : (Nat → Int32)) (x1 : Int32) (x2 : Int32) (res : Int32) (hf : f_X0_isFreeFor t_guests t_coats x1 x2 = some res) (hP : va_P D vwCl (w_X0_isFreeFor cI cB cZ a_t a_t_guests a_t_coats a_t_numbers a_t_line t_waiting t_arrived t_standing t_climbed t_drawn t_guests t_coats) s.heap) (hQ : ∀ (pc : Nat) (ls : Array Slot), (res = 0 ∨ res = 1) → decode cX0_isFreeFor pc = .ok (.ireturn, 1) → W p l e R s m args below meth c s.heap [] 0 0 Q (F0 m pc ls [.int res])) (ls : Array Slot) (hl : lv_has ls 4 [(0, .ref a_t), (1, .int x1), (2, .int x2)]) : W p l e R s m args below meth c s.heap [] 0 0 Q (F0 m 0 ls []) := by
  unfold f_X0_isFreeFor at hf
  refine lv_aload_n hx hb dX0_isFreeFor_0 rfl (lv_at hl 0 rfl) ?_
  refine lv_iload_n hx hb dX0_isFreeFor_1 rfl (lv_at hl 1 rfl) ?_
  obtain ⟨z2, e2, hf⟩ := bd_some hf
  refine rV_RO (As := [.int x1]) (rest := []) ⟨hx, hb, hml, hown, hT⟩ (gdV tb_785 tb_786 tb_787 tb_88 tb_788) hd_X0_coatOn (c_X0_coatOn l D cI cB cZ a_t a_t_coats a_t_guests a_t_numbers a_t_line t_waiting t_arrived t_standing t_climbed t_drawn t_coats x1 z2 e2) ⟨rfl, rfl⟩ ⟨Nat.le_trans (by decide) hRf, Nat.le_trans (by decide) hRl⟩ ⟨hK, hN⟩ hP [0, 2] rfl 0 rfl rfl rfl hl.1 rfl (Nat.le_of_ble_eq_true rfl) ⟨Nat.zero_le _, Nat.zero_le _⟩ dX0_isFreeFor_2 (fun _ => ?_)
  refine lv_istore_n (lv' := [(3, .int z2), (0, .ref a_t), (1, .int x1), (2, .int x2)]) hx hb dX0_isFreeFor_5 rfl hl (by decide) rfl (fun ls hl => ?_)
  refine lv_aload_n hx hb dX0_isFreeFor_6 rfl (lv_at hl 1 rfl) ?_
  refine lv_iload_n hx hb dX0_isFreeFor_7 rfl (lv_at hl 2 rfl) ?_
  obtain ⟨z8, e8, hf⟩ := bd_some hf
  refine rV_RO (As := [.int x1]) (rest := []) ⟨hx, hb, hml, hown, hT⟩ (gdV tb_688 tb_689 tb_690 tb_88 tb_691) hd_X0_guestOn (c_X0_guestOn l D cI cB cZ a_t a_t_guests a_t_numbers a_t_coats a_t_line t_waiting t_arrived t_standing t_climbed t_drawn t_guests x1 z8 e8) ⟨rfl, rfl⟩ ⟨Nat.le_trans (by decide) hRf, Nat.le_trans (by decide) hRl⟩ ⟨hK, hN⟩ hP [0, 1] rfl 0 rfl rfl rfl hl.1 rfl (Nat.le_of_ble_eq_true rfl) ⟨Nat.zero_le _, Nat.zero_le _⟩ dX0_isFreeFor_8 (fun _ => ?_)
  refine lv_iconst (v := (-1)) hx hb dX0_isFreeFor_11 (by decide) ?_
  refine lv_icmp_ne (tgt := 29) hx hb dX0_isFreeFor_12 (by decide) (fun hc_12 => ?_) (fun hc_12 => ?_)
  · have hf := it_neg hc_12 hf
    refine lv_iconst (v := 0) hx hb dX0_isFreeFor_29 (by decide) ?_
    obtain rfl := Option.some.inj hf
    exact hQ 30 ls (Or.inl rfl) dX0_isFreeFor_30
  · have hf := it_pos hc_12 hf
    refine lv_iload_n hx hb dX0_isFreeFor_15 rfl (lv_at hl 0 rfl) ?_
    refine lv_iconst (v := (-1)) hx hb dX0_isFreeFor_16 (by decide) ?_
    refine lv_icmp_eq (tgt := 25) hx hb dX0_isFreeFor_17 (by decide) (fun hc_17 => ?_) (fun hc_17 => ?_)
    · have hf := it_pos hc_17 hf
      refine lv_iconst (v := 1) hx hb dX0_isFreeFor_25 (by decide) ?_
      refine lv_goto (tgt := 30) hx hb dX0_isFreeFor_26 (by decide) ?_
      obtain rfl := Option.some.inj hf
      exact hQ 30 ls (Or.inr rfl) dX0_isFreeFor_30
    · have hf := it_neg hc_17 hf
      refine lv_iload_n hx hb dX0_isFreeFor_20 rfl (lv_at hl 0 rfl) ?_
      refine lv_iload_n hx hb dX0_isFreeFor_21 rfl (lv_at hl 3 rfl) ?_
      refine lv_icmp_ne (tgt := 29) hx hb dX0_isFreeFor_22 (by decide) (fun hc_22 => ?_) (fun hc_22 => ?_)
      · have hf := it_neg hc_22 hf
        refine lv_iconst (v := 0) hx hb dX0_isFreeFor_29 (by decide) ?_
        obtain rfl := Option.some.inj hf
        exact hQ 30 ls (Or.inl rfl) dX0_isFreeFor_30
      · have hf := it_pos hc_22 hf
        refine lv_iconst (v := 1) hx hb dX0_isFreeFor_25 (by decide) ?_
        refine lv_goto (tgt := 30) hx hb dX0_isFreeFor_26 (by decide) ?_
        obtain rfl := Option.some.inj hf
        exact hQ 30 ls (Or.inr rfl) dX0_isFreeFor_30
theorem hd_X0_isFreeFor : (yX0_isFreeFor).cls = RX0 ∧ (yX0_isFreeFor).cls ≠ "java/lang/invoke/MethodHandle" ∧ (yX0_isFreeFor).cls ≠ "java/lang/invoke/VarHandle" ∧ (parseMethodDescriptor (yX0_isFreeFor).desc).map (fun d => d.parameters.length) = some 2 := by decide +kernel
theorem c_X0_isFreeFor (l : Launch) (D : va_G) (cI cB cZ : ClassId) (a_t : Nat) (a_t_guests : Nat) (a_t_coats : Nat) (a_t_numbers : Nat) (a_t_line : Nat) (t_waiting : Int32) (t_arrived : Int32) (t_standing : Int32) (t_climbed : Int32) (t_drawn : Int32) (t_guests : (Nat → Int32)) (t_coats : (Nat → Int32)) (x1 : Int32) (x2 : Int32) (res : Int32) (hf : f_X0_isFreeFor t_guests t_coats x1 x2 = some res) : Met l yX0_isFreeFor (.code yX0_isFreeFor cX0_isFreeFor 4 (some .boolean) :: TB) (rmk (1) (21)) (pRO [.ref a_t, .int x1, .int x2] D cI cB cZ (w_X0_isFreeFor cI cB cZ a_t a_t_guests a_t_coats a_t_numbers a_t_line t_waiting t_arrived t_standing t_climbed t_drawn t_guests t_coats)) (qRO (some (.int res)) (res = 0 ∨ res = 1)) 0 0 (fun _ => False) :=
  mkRO (by decide +kernel) (Nat.le_of_ble_eq_true rfl) (fun p e s m below meth c ls S hr hlk hK hP hl => b_X0_isFreeFor S.1 S.2.1 S.2.2.1 S.2.2.2.1 S.2.2.2.2 (Nat.le_refl _) (Nat.le_refl _) hK.1 hK.2 a_t a_t_guests a_t_coats a_t_numbers a_t_line t_waiting t_arrived t_standing t_climbed t_drawn t_guests t_coats x1 x2 res hf hP (fun pc ls hE hd => eRO_i S.1 S.2.1 hr (nz_ok hE) hlk hE hd) ls hl)
def f_X0_nearestToAisle_2 (t_guests : (Nat → Int32)) (t_coats : (Nat → Int32)) : Nat → Int32 → Int32 → Int32 → Option (Int32)
  | 0, _, _, _ => none
  | n + 1, x1, x2, x3 => (if 9 ≤ x3 then some ((-1)) else (f_X0_isFreeFor t_guests t_coats ((x1 * 9) + x3) x2).bind (fun z16 => (if z16 = 0 then (f_X0_nearestToAisle_2 t_guests t_coats n) x1 x2 (x3 + 1) else some ((x1 * 9) + x3))))
def f_X0_nearestToAisle (t_guests : (Nat → Int32)) (t_coats : (Nat → Int32)) (x1 : Int32) (x2 : Int32) : Option (Int32) := f_X0_nearestToAisle_2 t_guests t_coats FU x1 x2 0
def w_X0_nearestToAisle (cI cB cZ : ClassId) (a_t : Nat) (a_t_guests : Nat) (a_t_coats : Nat) (a_t_numbers : Nat) (a_t_line : Nat) (t_waiting : Int32) (t_arrived : Int32) (t_standing : Int32) (t_climbed : Int32) (t_drawn : Int32) (t_guests : (Nat → Int32)) (t_coats : (Nat → Int32)) : va_W := [(a_t, .inr (0, [.ref a_t_guests, .ref a_t_numbers, .ref a_t_coats, .ref a_t_line, .int t_waiting, .int t_arrived, .int t_standing, .int t_climbed, .int t_drawn])), (a_t_guests, .inl (cI, 144, .inl t_guests)), (a_t_coats, .inl (cI, 144, .inl t_coats))]
set_option maxHeartbeats 4000000 in
set_option maxRecDepth 100000 in
theorem b_X0_nearestToAisle {p : Program} {l : Launch} {e : Env} {R : Room} {s : State} {m : MethodId} {args : Array Value} {below : List Frame} {meth : Method} {c : Code} {Q : State → Prop} {D : va_G} {cI cB cZ : ClassId} (hx : p.tables.exec = Jvm.exec) (hb : c.code = cX0_nearestToAisle) (hml : c.maxLocals = 4) (hown : s.vm.findClass RX0 = some m.cls) (hT : ∀ w ∈ TB, w.before args s = true) (hRf : (2) ≤ R.frames) (hRl : (44) ≤ R.locals) (hK : va_K D vwCl (tyL cI cB cZ) s) (hN : NW s)  (a_t : Nat) (a_t_guests : Nat) (a_t_coats : Nat) (a_t_numbers : Nat) (a_t_line : Nat) (t_waiting : Int32) (t_arrived : Int32) (t_standing : Int32) (t_climbed : Int32) (t_drawn : Int32) (t_guests : (Nat → Int32)) (t_coats : (Nat → Int32)) (x1 : Int32) (x2 : Int32) (res : Int32) (hf : f_X0_nearestToAisle t_guests t_coats x1 x2 = some res) (hP : va_P D vwCl (w_X0_nearestToAisle cI cB cZ a_t a_t_guests a_t_coats a_t_numbers a_t_line t_waiting t_arrived t_standing t_climbed t_drawn t_guests t_coats) s.heap) (hQ : ∀ (pc : Nat) (ls : Array Slot), True → decode cX0_nearestToAisle pc = .ok (.ireturn, 1) → W p l e R s m args below meth c s.heap [] 0 0 Q (F0 m pc ls [.int res])) (ls : Array Slot) (hl : lv_has ls 4 [(0, .ref a_t), (1, .int x1), (2, .int x2)]) : W p l e R s m args below meth c s.heap [] 0 0 Q (F0 m 0 ls []) := by
  unfold f_X0_nearestToAisle at hf
  refine lv_iconst (v := 0) hx hb dX0_nearestToAisle_0 (by decide) ?_
  have J_2 : ∀ (n_2 : Nat) (x1 : Int32) (x2 : Int32) (x3 : Int32) (ls : Array Slot), f_X0_nearestToAisle_2 t_guests t_coats n_2 x1 x2 x3 = some res → lv_has ls 4 [(0, .ref a_t), (1, .int x1), (2, .int x2), (3, .int x3)] → W p l e R s m args below meth c s.heap [] 0 0 Q (F0 m 2 ls []) := by
    intro n_2
    induction n_2 with
    | zero =>
      intro x1 x2 x3 ls hf hl
      cases hf
    | succ n_2 ih_2 =>
      intro x1 x2 x3 ls hf hl
      unfold f_X0_nearestToAisle_2 at hf
      refine lv_iload_n hx hb dX0_nearestToAisle_2 rfl (lv_at hl 3 rfl) ?_
      refine lv_bipush (v := 9) hx hb dX0_nearestToAisle_3 (by decide) ?_
      refine lv_icmp_ge (tgt := 35) hx hb dX0_nearestToAisle_5 (by decide) (fun hc_5 => ?_) (fun hc_5 => ?_)
      · have hf := it_pos hc_5 hf
        refine lv_iconst (v := (-1)) hx hb dX0_nearestToAisle_35 (by decide) ?_
        obtain rfl := Option.some.inj hf
        exact hQ 36 ls trivial dX0_nearestToAisle_36
      · have hf := it_neg hc_5 hf
        refine lv_aload_n hx hb dX0_nearestToAisle_8 rfl (lv_at hl 0 rfl) ?_
        refine lv_iload_n hx hb dX0_nearestToAisle_9 rfl (lv_at hl 1 rfl) ?_
        refine lv_bipush (v := 9) hx hb dX0_nearestToAisle_10 (by decide) ?_
        refine lv_imul hx hb dX0_nearestToAisle_12 ?_
        refine lv_iload_n hx hb dX0_nearestToAisle_13 rfl (lv_at hl 3 rfl) ?_
        refine lv_iadd hx hb dX0_nearestToAisle_14 ?_
        refine lv_iload_n hx hb dX0_nearestToAisle_15 rfl (lv_at hl 2 rfl) ?_
        obtain ⟨z16, e16, hf⟩ := bd_some hf
        refine rV_RO (As := [.int ((x1 * 9) + x3), .int x2]) (rest := []) ⟨hx, hb, hml, hown, hT⟩ (gdV tb_781 tb_782 tb_783 tb_88 tb_784) hd_X0_isFreeFor (c_X0_isFreeFor l D cI cB cZ a_t a_t_guests a_t_coats a_t_numbers a_t_line t_waiting t_arrived t_standing t_climbed t_drawn t_guests t_coats ((x1 * 9) + x3) x2 z16 e16) ⟨rfl, rfl⟩ ⟨Nat.le_trans (by decide) hRf, Nat.le_trans (by decide) hRl⟩ ⟨hK, hN⟩ hP [0, 1, 2] rfl 0 rfl rfl rfl hl.1 rfl (Nat.le_of_ble_eq_true rfl) ⟨Nat.zero_le _, Nat.zero_le _⟩ dX0_nearestToAisle_16 (fun hz_16 => ?_)
        refine lv_if_eq (tgt := 29) hx hb dX0_nearestToAisle_19 (by decide) (fun hc_19 => ?_) (fun hc_19 => ?_)
        · have hf := it_pos hc_19 hf
          refine lv_iinc (v := x3 + 1) (lv' := [(3, .int (x3 + 1)), (0, .ref a_t), (1, .int x1), (2, .int x2)]) hx hb dX0_nearestToAisle_29 hl (k := 3) rfl (congrArg (_ + ·) (by decide : Int32.ofInt 1 = 1)) (by decide) rfl (fun ls hl => ?_)
          refine lv_goto (tgt := 2) hx hb dX0_nearestToAisle_32 (by decide) ?_
          exact ih_2 _ _ _ _ hf (lv_sub hl [1, 2, 3, 0] rfl)
        · have hf := it_neg hc_19 hf
          refine lv_iload_n hx hb dX0_nearestToAisle_22 rfl (lv_at hl 1 rfl) ?_
          refine lv_bipush (v := 9) hx hb dX0_nearestToAisle_23 (by decide) ?_
          refine lv_imul hx hb dX0_nearestToAisle_25 ?_
          refine lv_iload_n hx hb dX0_nearestToAisle_26 rfl (lv_at hl 3 rfl) ?_
          refine lv_iadd hx hb dX0_nearestToAisle_27 ?_
          obtain rfl := Option.some.inj hf
          exact hQ 28 ls trivial dX0_nearestToAisle_28
  refine lv_istore_n (lv' := [(3, .int 0), (0, .ref a_t), (1, .int x1), (2, .int x2)]) hx hb dX0_nearestToAisle_1 rfl hl (by decide) rfl (fun ls hl => ?_)
  exact J_2 _ _ _ _ _ hf (lv_sub hl [1, 2, 3, 0] rfl)
theorem hd_X0_nearestToAisle : (yX0_nearestToAisle).cls = RX0 ∧ (yX0_nearestToAisle).cls ≠ "java/lang/invoke/MethodHandle" ∧ (yX0_nearestToAisle).cls ≠ "java/lang/invoke/VarHandle" ∧ (parseMethodDescriptor (yX0_nearestToAisle).desc).map (fun d => d.parameters.length) = some 2 := by decide +kernel
theorem c_X0_nearestToAisle (l : Launch) (D : va_G) (cI cB cZ : ClassId) (a_t : Nat) (a_t_guests : Nat) (a_t_coats : Nat) (a_t_numbers : Nat) (a_t_line : Nat) (t_waiting : Int32) (t_arrived : Int32) (t_standing : Int32) (t_climbed : Int32) (t_drawn : Int32) (t_guests : (Nat → Int32)) (t_coats : (Nat → Int32)) (x1 : Int32) (x2 : Int32) (res : Int32) (hf : f_X0_nearestToAisle t_guests t_coats x1 x2 = some res) : Met l yX0_nearestToAisle (.code yX0_nearestToAisle cX0_nearestToAisle 4 (some .int) :: TB) (rmk (2) (44)) (pRO [.ref a_t, .int x1, .int x2] D cI cB cZ (w_X0_nearestToAisle cI cB cZ a_t a_t_guests a_t_coats a_t_numbers a_t_line t_waiting t_arrived t_standing t_climbed t_drawn t_guests t_coats)) (qRO (some (.int res)) True) 0 0 (fun _ => False) :=
  mkRO (by decide +kernel) (Nat.le_of_ble_eq_true rfl) (fun p e s m below meth c ls S hr hlk hK hP hl => b_X0_nearestToAisle S.1 S.2.1 S.2.2.1 S.2.2.2.1 S.2.2.2.2 (Nat.le_refl _) (Nat.le_refl _) hK.1 hK.2 a_t a_t_guests a_t_coats a_t_numbers a_t_line t_waiting t_arrived t_standing t_climbed t_drawn t_guests t_coats x1 x2 res hf hP (fun pc ls hE hd => eRO_i S.1 S.2.1 hr rfl hlk hE hd) ls hl)
def f_X0_nearestToWall_3 (t_guests : (Nat → Int32)) (t_coats : (Nat → Int32)) : Nat → Int32 → Int32 → Int32 → Option (Int32)
  | 0, _, _, _ => none
  | n + 1, x1, x2, x3 => (if x3 < 0 then some ((-1)) else (f_X0_isFreeFor t_guests t_coats ((x1 * 9) + x3) x2).bind (fun z15 => (if z15 = 0 then (f_X0_nearestToWall_3 t_guests t_coats n) x1 x2 (x3 + (-1)) else some ((x1 * 9) + x3))))
def f_X0_nearestToWall (t_guests : (Nat → Int32)) (t_coats : (Nat → Int32)) (x1 : Int32) (x2 : Int32) : Option (Int32) := f_X0_nearestToWall_3 t_guests t_coats FU x1 x2 8
def w_X0_nearestToWall (cI cB cZ : ClassId) (a_t : Nat) (a_t_guests : Nat) (a_t_coats : Nat) (a_t_numbers : Nat) (a_t_line : Nat) (t_waiting : Int32) (t_arrived : Int32) (t_standing : Int32) (t_climbed : Int32) (t_drawn : Int32) (t_guests : (Nat → Int32)) (t_coats : (Nat → Int32)) : va_W := [(a_t, .inr (0, [.ref a_t_guests, .ref a_t_numbers, .ref a_t_coats, .ref a_t_line, .int t_waiting, .int t_arrived, .int t_standing, .int t_climbed, .int t_drawn])), (a_t_guests, .inl (cI, 144, .inl t_guests)), (a_t_coats, .inl (cI, 144, .inl t_coats))]
set_option maxHeartbeats 4000000 in
set_option maxRecDepth 100000 in
theorem b_X0_nearestToWall {p : Program} {l : Launch} {e : Env} {R : Room} {s : State} {m : MethodId} {args : Array Value} {below : List Frame} {meth : Method} {c : Code} {Q : State → Prop} {D : va_G} {cI cB cZ : ClassId} (hx : p.tables.exec = Jvm.exec) (hb : c.code = cX0_nearestToWall) (hml : c.maxLocals = 4) (hown : s.vm.findClass RX0 = some m.cls) (hT : ∀ w ∈ TB, w.before args s = true) (hRf : (2) ≤ R.frames) (hRl : (44) ≤ R.locals) (hK : va_K D vwCl (tyL cI cB cZ) s) (hN : NW s)  (a_t : Nat) (a_t_guests : Nat) (a_t_coats : Nat) (a_t_numbers : Nat) (a_t_line : Nat) (t_waiting : Int32) (t_arrived : Int32) (t_standing : Int32) (t_climbed : Int32) (t_drawn : Int32) (t_guests : (Nat → Int32)) (t_coats : (Nat → Int32)) (x1 : Int32) (x2 : Int32) (res : Int32) (hf : f_X0_nearestToWall t_guests t_coats x1 x2 = some res) (hP : va_P D vwCl (w_X0_nearestToWall cI cB cZ a_t a_t_guests a_t_coats a_t_numbers a_t_line t_waiting t_arrived t_standing t_climbed t_drawn t_guests t_coats) s.heap) (hQ : ∀ (pc : Nat) (ls : Array Slot), True → decode cX0_nearestToWall pc = .ok (.ireturn, 1) → W p l e R s m args below meth c s.heap [] 0 0 Q (F0 m pc ls [.int res])) (ls : Array Slot) (hl : lv_has ls 4 [(0, .ref a_t), (1, .int x1), (2, .int x2)]) : W p l e R s m args below meth c s.heap [] 0 0 Q (F0 m 0 ls []) := by
  unfold f_X0_nearestToWall at hf
  refine lv_bipush (v := 8) hx hb dX0_nearestToWall_0 (by decide) ?_
  have J_3 : ∀ (n_3 : Nat) (x1 : Int32) (x2 : Int32) (x3 : Int32) (ls : Array Slot), f_X0_nearestToWall_3 t_guests t_coats n_3 x1 x2 x3 = some res → lv_has ls 4 [(0, .ref a_t), (1, .int x1), (2, .int x2), (3, .int x3)] → W p l e R s m args below meth c s.heap [] 0 0 Q (F0 m 3 ls []) := by
    intro n_3
    induction n_3 with
    | zero =>
      intro x1 x2 x3 ls hf hl
      cases hf
    | succ n_3 ih_3 =>
      intro x1 x2 x3 ls hf hl
      unfold f_X0_nearestToWall_3 at hf
      refine lv_iload_n hx hb dX0_nearestToWall_3 rfl (lv_at hl 3 rfl) ?_
      refine lv_if_lt (tgt := 34) hx hb dX0_nearestToWall_4 (by decide) (fun hc_4 => ?_) (fun hc_4 => ?_)
      · have hf := it_pos hc_4 hf
        refine lv_iconst (v := (-1)) hx hb dX0_nearestToWall_34 (by decide) ?_
        obtain rfl := Option.some.inj hf
        exact hQ 35 ls trivial dX0_nearestToWall_35
      · have hf := it_neg hc_4 hf
        refine lv_aload_n hx hb dX0_nearestToWall_7 rfl (lv_at hl 0 rfl) ?_
        refine lv_iload_n hx hb dX0_nearestToWall_8 rfl (lv_at hl 1 rfl) ?_
        refine lv_bipush (v := 9) hx hb dX0_nearestToWall_9 (by decide) ?_
        refine lv_imul hx hb dX0_nearestToWall_11 ?_
        refine lv_iload_n hx hb dX0_nearestToWall_12 rfl (lv_at hl 3 rfl) ?_
        refine lv_iadd hx hb dX0_nearestToWall_13 ?_
        refine lv_iload_n hx hb dX0_nearestToWall_14 rfl (lv_at hl 2 rfl) ?_
        obtain ⟨z15, e15, hf⟩ := bd_some hf
        refine rV_RO (As := [.int ((x1 * 9) + x3), .int x2]) (rest := []) ⟨hx, hb, hml, hown, hT⟩ (gdV tb_781 tb_782 tb_783 tb_88 tb_784) hd_X0_isFreeFor (c_X0_isFreeFor l D cI cB cZ a_t a_t_guests a_t_coats a_t_numbers a_t_line t_waiting t_arrived t_standing t_climbed t_drawn t_guests t_coats ((x1 * 9) + x3) x2 z15 e15) ⟨rfl, rfl⟩ ⟨Nat.le_trans (by decide) hRf, Nat.le_trans (by decide) hRl⟩ ⟨hK, hN⟩ hP [0, 1, 2] rfl 0 rfl rfl rfl hl.1 rfl (Nat.le_of_ble_eq_true rfl) ⟨Nat.zero_le _, Nat.zero_le _⟩ dX0_nearestToWall_15 (fun hz_15 => ?_)
        refine lv_if_eq (tgt := 28) hx hb dX0_nearestToWall_18 (by decide) (fun hc_18 => ?_) (fun hc_18 => ?_)
        · have hf := it_pos hc_18 hf
          refine lv_iinc (v := x3 + (-1)) (lv' := [(3, .int (x3 + (-1))), (0, .ref a_t), (1, .int x1), (2, .int x2)]) hx hb dX0_nearestToWall_28 hl (k := 3) rfl (congrArg (_ + ·) (by decide : Int32.ofInt (-1) = (-1))) (by decide) rfl (fun ls hl => ?_)
          refine lv_goto (tgt := 3) hx hb dX0_nearestToWall_31 (by decide) ?_
          exact ih_3 _ _ _ _ hf (lv_sub hl [1, 2, 3, 0] rfl)
        · have hf := it_neg hc_18 hf
          refine lv_iload_n hx hb dX0_nearestToWall_21 rfl (lv_at hl 1 rfl) ?_
          refine lv_bipush (v := 9) hx hb dX0_nearestToWall_22 (by decide) ?_
          refine lv_imul hx hb dX0_nearestToWall_24 ?_
          refine lv_iload_n hx hb dX0_nearestToWall_25 rfl (lv_at hl 3 rfl) ?_
          refine lv_iadd hx hb dX0_nearestToWall_26 ?_
          obtain rfl := Option.some.inj hf
          exact hQ 27 ls trivial dX0_nearestToWall_27
  refine lv_istore_n (lv' := [(3, .int 8), (0, .ref a_t), (1, .int x1), (2, .int x2)]) hx hb dX0_nearestToWall_2 rfl hl (by decide) rfl (fun ls hl => ?_)
  exact J_3 _ _ _ _ _ hf (lv_sub hl [1, 2, 3, 0] rfl)
theorem hd_X0_nearestToWall : (yX0_nearestToWall).cls = RX0 ∧ (yX0_nearestToWall).cls ≠ "java/lang/invoke/MethodHandle" ∧ (yX0_nearestToWall).cls ≠ "java/lang/invoke/VarHandle" ∧ (parseMethodDescriptor (yX0_nearestToWall).desc).map (fun d => d.parameters.length) = some 2 := by decide +kernel
theorem c_X0_nearestToWall (l : Launch) (D : va_G) (cI cB cZ : ClassId) (a_t : Nat) (a_t_guests : Nat) (a_t_coats : Nat) (a_t_numbers : Nat) (a_t_line : Nat) (t_waiting : Int32) (t_arrived : Int32) (t_standing : Int32) (t_climbed : Int32) (t_drawn : Int32) (t_guests : (Nat → Int32)) (t_coats : (Nat → Int32)) (x1 : Int32) (x2 : Int32) (res : Int32) (hf : f_X0_nearestToWall t_guests t_coats x1 x2 = some res) : Met l yX0_nearestToWall (.code yX0_nearestToWall cX0_nearestToWall 4 (some .int) :: TB) (rmk (2) (44)) (pRO [.ref a_t, .int x1, .int x2] D cI cB cZ (w_X0_nearestToWall cI cB cZ a_t a_t_guests a_t_coats a_t_numbers a_t_line t_waiting t_arrived t_standing t_climbed t_drawn t_guests t_coats)) (qRO (some (.int res)) True) 0 0 (fun _ => False) :=
  mkRO (by decide +kernel) (Nat.le_of_ble_eq_true rfl) (fun p e s m below meth c ls S hr hlk hK hP hl => b_X0_nearestToWall S.1 S.2.1 S.2.2.1 S.2.2.2.1 S.2.2.2.2 (Nat.le_refl _) (Nat.le_refl _) hK.1 hK.2 a_t a_t_guests a_t_coats a_t_numbers a_t_line t_waiting t_arrived t_standing t_climbed t_drawn t_guests t_coats x1 x2 res hf hP (fun pc ls hE hd => eRO_i S.1 S.2.1 hr rfl hlk hE hd) ls hl)
def f_X0_sittingFrom_9 (t_guests : (Nat → Int32)) : Nat → Int32 → Int32 → Int32 → Option (Int32)
  | 0, _, _, _ => none
  | n + 1, x2, x3, x4 => (if x2 ≤ x4 then some (x3) else (if 144 ≤ x4 then some (x3) else ix 144 x4 ((if (t_guests x4.toNatClampNeg) = (-1) then (f_X0_sittingFrom_9 t_guests n) x2 x3 (x4 + 1) else (f_X0_sittingFrom_9 t_guests n) x2 (x3 + 1) (x4 + 1)))))
def f_X0_sittingFrom (t_guests : (Nat → Int32)) (x1 : Int32) (x2 : Int32) : Option (Int32) := f_X0_sittingFrom_9 t_guests FU x2 0 (if 0 < x1 then x1 else 0)
def w_X0_sittingFrom (cI cB cZ : ClassId) (a_t : Nat) (a_t_guests : Nat) (a_t_numbers : Nat) (a_t_coats : Nat) (a_t_line : Nat) (t_waiting : Int32) (t_arrived : Int32) (t_standing : Int32) (t_climbed : Int32) (t_drawn : Int32) (t_guests : (Nat → Int32)) : va_W := [(a_t, .inr (0, [.ref a_t_guests, .ref a_t_numbers, .ref a_t_coats, .ref a_t_line, .int t_waiting, .int t_arrived, .int t_standing, .int t_climbed, .int t_drawn])), (a_t_guests, .inl (cI, 144, .inl t_guests))]
set_option maxHeartbeats 4000000 in
set_option maxRecDepth 100000 in
theorem b_X0_sittingFrom {p : Program} {l : Launch} {e : Env} {R : Room} {s : State} {m : MethodId} {args : Array Value} {below : List Frame} {meth : Method} {c : Code} {Q : State → Prop} {D : va_G} {cI cB cZ : ClassId} (hx : p.tables.exec = Jvm.exec) (hb : c.code = cX0_sittingFrom) (hml : c.maxLocals = 5) (hown : s.vm.findClass RX0 = some m.cls) (hT : ∀ w ∈ TB, w.before args s = true) (hRf : (1) ≤ R.frames) (hRl : (40) ≤ R.locals) (hK : va_K D vwCl (tyL cI cB cZ) s) (hN : NW s)  (a_t : Nat) (a_t_guests : Nat) (a_t_numbers : Nat) (a_t_coats : Nat) (a_t_line : Nat) (t_waiting : Int32) (t_arrived : Int32) (t_standing : Int32) (t_climbed : Int32) (t_drawn : Int32) (t_guests : (Nat → Int32)) (x1 : Int32) (x2 : Int32) (res : Int32) (hf : f_X0_sittingFrom t_guests x1 x2 = some res) (hP : va_P D vwCl (w_X0_sittingFrom cI cB cZ a_t a_t_guests a_t_numbers a_t_coats a_t_line t_waiting t_arrived t_standing t_climbed t_drawn t_guests) s.heap) (hQ : ∀ (pc : Nat) (ls : Array Slot), True → decode cX0_sittingFrom pc = .ok (.ireturn, 1) → W p l e R s m args below meth c s.heap [] 0 0 Q (F0 m pc ls [.int res])) (ls : Array Slot) (hl : lv_has ls 5 [(0, .ref a_t), (1, .int x1), (2, .int x2)]) : W p l e R s m args below meth c s.heap [] 0 0 Q (F0 m 0 ls []) := by
  unfold f_X0_sittingFrom at hf
  refine lv_iconst (v := 0) hx hb dX0_sittingFrom_0 (by decide) ?_
  refine lv_istore_n (lv' := [(3, .int 0), (0, .ref a_t), (1, .int x1), (2, .int x2)]) hx hb dX0_sittingFrom_1 rfl hl (by decide) rfl (fun ls hl => ?_)
  refine lv_iconst (v := 0) hx hb dX0_sittingFrom_2 (by decide) ?_
  refine lv_iload_n hx hb dX0_sittingFrom_3 rfl (lv_at hl 2 rfl) ?_
  refine va_mmax hx hb (hml.trans hl.1.symm) hown (hT _ tb_749) (hT _ tb_477) (hT _ tb_98) (hT _ tb_478) (Nat.le_trans (by decide) hRf) (Nat.le_trans (Nat.le_of_ble_eq_true rfl) hRl) (Nat.zero_le _) (Nat.zero_le _) dX0_sittingFrom_4 ?_
  have J_9 : ∀ (n_9 : Nat) (x2 : Int32) (x3 : Int32) (x4 : Int32) (ls : Array Slot), f_X0_sittingFrom_9 t_guests n_9 x2 x3 x4 = some res → lv_has ls 5 [(0, .ref a_t), (2, .int x2), (3, .int x3), (4, .int x4)] → W p l e R s m args below meth c s.heap [] 0 0 Q (F0 m 9 ls []) := by
    intro n_9
    induction n_9 with
    | zero =>
      intro x2 x3 x4 ls hf hl
      cases hf
    | succ n_9 ih_9 =>
      intro x2 x3 x4 ls hf hl
      unfold f_X0_sittingFrom_9 at hf
      refine lv_iload hx hb dX0_sittingFrom_9 (lv_at hl 3 rfl) ?_
      refine lv_iload_n hx hb dX0_sittingFrom_11 rfl (lv_at hl 1 rfl) ?_
      refine lv_icmp_ge (tgt := 43) hx hb dX0_sittingFrom_12 (by decide) (fun hc_12 => ?_) (fun hc_12 => ?_)
      · have hf := it_pos hc_12 hf
        refine lv_iload_n hx hb dX0_sittingFrom_43 rfl (lv_at hl 2 rfl) ?_
        obtain rfl := Option.some.inj hf
        exact hQ 44 ls trivial dX0_sittingFrom_44
      · have hf := it_neg hc_12 hf
        refine lv_iload hx hb dX0_sittingFrom_15 (lv_at hl 3 rfl) ?_
        refine lv_sipush (v := 144) hx hb dX0_sittingFrom_17 (by decide) ?_
        refine lv_icmp_ge (tgt := 43) hx hb dX0_sittingFrom_20 (by decide) (fun hc_20 => ?_) (fun hc_20 => ?_)
        · have hf := it_pos hc_20 hf
          refine lv_iload_n hx hb dX0_sittingFrom_43 rfl (lv_at hl 2 rfl) ?_
          obtain rfl := Option.some.inj hf
          exact hQ 44 ls trivial dX0_sittingFrom_44
        · have hf := it_neg hc_20 hf
          refine lv_aload_n hx hb dX0_sittingFrom_23 rfl (lv_at hl 0 rfl) ?_
          refine va_get (D := D) (ci := 0) (v := .ref a_t_guests) (C := RX0) (T := TX0) (N := 9) hx hb hT inX0 hown hK hP 0 rfl rfl 0 (by decide) (hT _ tb_169) (fun _ h9 => h9) rfl dX0_sittingFrom_24 ?_
          refine lv_iload hx hb dX0_sittingFrom_27 (lv_at hl 3 rfl) ?_
          obtain ⟨hi_29, hf⟩ := ix_some hf
          refine va_iald hx hb hK hP 1 0 rfl rfl hi_29 dX0_sittingFrom_29 ?_
          refine lv_iconst (v := (-1)) hx hb dX0_sittingFrom_30 (by decide) ?_
          refine lv_icmp_eq (tgt := 37) hx hb dX0_sittingFrom_31 (by decide) (fun hc_31 => ?_) (fun hc_31 => ?_)
          · have hf := it_pos hc_31 hf
            refine lv_iinc (v := x4 + 1) (lv' := [(4, .int (x4 + 1)), (0, .ref a_t), (2, .int x2), (3, .int x3)]) hx hb dX0_sittingFrom_37 hl (k := 3) rfl (congrArg (_ + ·) (by decide : Int32.ofInt 1 = 1)) (by decide) rfl (fun ls hl => ?_)
            refine lv_goto (tgt := 9) hx hb dX0_sittingFrom_40 (by decide) ?_
            exact ih_9 _ _ _ _ hf (lv_sub hl [1, 2, 3, 0] rfl)
          · have hf := it_neg hc_31 hf
            refine lv_iinc (v := x3 + 1) (lv' := [(3, .int (x3 + 1)), (0, .ref a_t), (2, .int x2), (4, .int x4)]) hx hb dX0_sittingFrom_34 hl (k := 2) rfl (congrArg (_ + ·) (by decide : Int32.ofInt 1 = 1)) (by decide) rfl (fun ls hl => ?_)
            refine lv_iinc (v := x4 + 1) (lv' := [(4, .int (x4 + 1)), (3, .int (x3 + 1)), (0, .ref a_t), (2, .int x2)]) hx hb dX0_sittingFrom_37 hl (k := 3) rfl (congrArg (_ + ·) (by decide : Int32.ofInt 1 = 1)) (by decide) rfl (fun ls hl => ?_)
            refine lv_goto (tgt := 9) hx hb dX0_sittingFrom_40 (by decide) ?_
            exact ih_9 _ _ _ _ hf (lv_sub hl [2, 3, 1, 0] rfl)
  refine lv_istore (lv' := [(4, .int (if 0 < x1 then x1 else 0)), (3, .int 0), (0, .ref a_t), (1, .int x1), (2, .int x2)]) hx hb dX0_sittingFrom_7 hl (by decide) rfl (fun ls hl => ?_)
  exact J_9 _ _ _ _ _ hf (lv_sub hl [2, 4, 1, 0] rfl)
theorem hd_X0_sittingFrom : (yX0_sittingFrom).cls = RX0 ∧ (yX0_sittingFrom).cls ≠ "java/lang/invoke/MethodHandle" ∧ (yX0_sittingFrom).cls ≠ "java/lang/invoke/VarHandle" ∧ (parseMethodDescriptor (yX0_sittingFrom).desc).map (fun d => d.parameters.length) = some 2 := by decide +kernel
theorem c_X0_sittingFrom (l : Launch) (D : va_G) (cI cB cZ : ClassId) (a_t : Nat) (a_t_guests : Nat) (a_t_numbers : Nat) (a_t_coats : Nat) (a_t_line : Nat) (t_waiting : Int32) (t_arrived : Int32) (t_standing : Int32) (t_climbed : Int32) (t_drawn : Int32) (t_guests : (Nat → Int32)) (x1 : Int32) (x2 : Int32) (res : Int32) (hf : f_X0_sittingFrom t_guests x1 x2 = some res) : Met l yX0_sittingFrom (.code yX0_sittingFrom cX0_sittingFrom 5 (some .int) :: TB) (rmk (1) (40)) (pRO [.ref a_t, .int x1, .int x2] D cI cB cZ (w_X0_sittingFrom cI cB cZ a_t a_t_guests a_t_numbers a_t_coats a_t_line t_waiting t_arrived t_standing t_climbed t_drawn t_guests)) (qRO (some (.int res)) True) 0 0 (fun _ => False) :=
  mkRO (by decide +kernel) (Nat.le_of_ble_eq_true rfl) (fun p e s m below meth c ls S hr hlk hK hP hl => b_X0_sittingFrom S.1 S.2.1 S.2.2.1 S.2.2.2.1 S.2.2.2.2 (Nat.le_refl _) (Nat.le_refl _) hK.1 hK.2 a_t a_t_guests a_t_numbers a_t_coats a_t_line t_waiting t_arrived t_standing t_climbed t_drawn t_guests x1 x2 res hf hP (fun pc ls hE hd => eRO_i S.1 S.2.1 hr rfl hlk hE hd) ls hl)
def f_X0_sittingIn (t_guests : (Nat → Int32)) (x1 : Int32) : Option (Int32) := (f_X0_sittingFrom t_guests (x1 * 9) ((x1 * 9) + 9)).bind (fun z12 => some (z12))
def w_X0_sittingIn (cI cB cZ : ClassId) (a_t : Nat) (a_t_guests : Nat) (a_t_numbers : Nat) (a_t_coats : Nat) (a_t_line : Nat) (t_waiting : Int32) (t_arrived : Int32) (t_standing : Int32) (t_climbed : Int32) (t_drawn : Int32) (t_guests : (Nat → Int32)) : va_W := [(a_t, .inr (0, [.ref a_t_guests, .ref a_t_numbers, .ref a_t_coats, .ref a_t_line, .int t_waiting, .int t_arrived, .int t_standing, .int t_climbed, .int t_drawn])), (a_t_guests, .inl (cI, 144, .inl t_guests))]
set_option maxHeartbeats 4000000 in
set_option maxRecDepth 100000 in
theorem b_X0_sittingIn {p : Program} {l : Launch} {e : Env} {R : Room} {s : State} {m : MethodId} {args : Array Value} {below : List Frame} {meth : Method} {c : Code} {Q : State → Prop} {D : va_G} {cI cB cZ : ClassId} (hx : p.tables.exec = Jvm.exec) (hb : c.code = cX0_sittingIn) (hml : c.maxLocals = 2) (hown : s.vm.findClass RX0 = some m.cls) (hT : ∀ w ∈ TB, w.before args s = true) (hRf : (2) ≤ R.frames) (hRl : (64) ≤ R.locals) (hK : va_K D vwCl (tyL cI cB cZ) s) (hN : NW s)  (a_t : Nat) (a_t_guests : Nat) (a_t_numbers : Nat) (a_t_coats : Nat) (a_t_line : Nat) (t_waiting : Int32) (t_arrived : Int32) (t_standing : Int32) (t_climbed : Int32) (t_drawn : Int32) (t_guests : (Nat → Int32)) (x1 : Int32) (res : Int32) (hf : f_X0_sittingIn t_guests x1 = some res) (hP : va_P D vwCl (w_X0_sittingIn cI cB cZ a_t a_t_guests a_t_numbers a_t_coats a_t_line t_waiting t_arrived t_standing t_climbed t_drawn t_guests) s.heap) (hQ : ∀ (pc : Nat) (ls : Array Slot), True → decode cX0_sittingIn pc = .ok (.ireturn, 1) → W p l e R s m args below meth c s.heap [] 0 0 Q (F0 m pc ls [.int res])) (ls : Array Slot) (hl : lv_has ls 2 [(0, .ref a_t), (1, .int x1)]) : W p l e R s m args below meth c s.heap [] 0 0 Q (F0 m 0 ls []) := by
  unfold f_X0_sittingIn at hf
  refine lv_aload_n hx hb dX0_sittingIn_0 rfl (lv_at hl 0 rfl) ?_
  refine lv_iload_n hx hb dX0_sittingIn_1 rfl (lv_at hl 1 rfl) ?_
  refine lv_bipush (v := 9) hx hb dX0_sittingIn_2 (by decide) ?_
  refine lv_imul hx hb dX0_sittingIn_4 ?_
  refine lv_iload_n hx hb dX0_sittingIn_5 rfl (lv_at hl 1 rfl) ?_
  refine lv_bipush (v := 9) hx hb dX0_sittingIn_6 (by decide) ?_
  refine lv_imul hx hb dX0_sittingIn_8 ?_
  refine lv_bipush (v := 9) hx hb dX0_sittingIn_9 (by decide) ?_
  refine lv_iadd hx hb dX0_sittingIn_11 ?_
  obtain ⟨z12, e12, hf⟩ := bd_some hf
  refine rV_RO (As := [.int (x1 * 9), .int ((x1 * 9) + 9)]) (rest := []) ⟨hx, hb, hml, hown, hT⟩ (gdV tb_745 tb_747 tb_13 tb_88 tb_748) hd_X0_sittingFrom (c_X0_sittingFrom l D cI cB cZ a_t a_t_guests a_t_numbers a_t_coats a_t_line t_waiting t_arrived t_standing t_climbed t_drawn t_guests (x1 * 9) ((x1 * 9) + 9) z12 e12) ⟨rfl, rfl⟩ ⟨Nat.le_trans (by decide) hRf, Nat.le_trans (by decide) hRl⟩ ⟨hK, hN⟩ hP [0, 1] rfl 0 rfl rfl rfl hl.1 rfl (Nat.le_of_ble_eq_true rfl) ⟨Nat.zero_le _, Nat.zero_le _⟩ dX0_sittingIn_12 (fun _ => ?_)
  obtain rfl := Option.some.inj hf
  exact hQ 15 ls trivial dX0_sittingIn_15
theorem hd_X0_sittingIn : (yX0_sittingIn).cls = RX0 ∧ (yX0_sittingIn).cls ≠ "java/lang/invoke/MethodHandle" ∧ (yX0_sittingIn).cls ≠ "java/lang/invoke/VarHandle" ∧ (parseMethodDescriptor (yX0_sittingIn).desc).map (fun d => d.parameters.length) = some 1 := by decide +kernel
theorem c_X0_sittingIn (l : Launch) (D : va_G) (cI cB cZ : ClassId) (a_t : Nat) (a_t_guests : Nat) (a_t_numbers : Nat) (a_t_coats : Nat) (a_t_line : Nat) (t_waiting : Int32) (t_arrived : Int32) (t_standing : Int32) (t_climbed : Int32) (t_drawn : Int32) (t_guests : (Nat → Int32)) (x1 : Int32) (res : Int32) (hf : f_X0_sittingIn t_guests x1 = some res) : Met l yX0_sittingIn (.code yX0_sittingIn cX0_sittingIn 2 (some .int) :: TB) (rmk (2) (64)) (pRO [.ref a_t, .int x1] D cI cB cZ (w_X0_sittingIn cI cB cZ a_t a_t_guests a_t_numbers a_t_coats a_t_line t_waiting t_arrived t_standing t_climbed t_drawn t_guests)) (qRO (some (.int res)) True) 0 0 (fun _ => False) :=
  mkRO (by decide +kernel) (Nat.le_of_ble_eq_true rfl) (fun p e s m below meth c ls S hr hlk hK hP hl => b_X0_sittingIn S.1 S.2.1 S.2.2.1 S.2.2.2.1 S.2.2.2.2 (Nat.le_refl _) (Nat.le_refl _) hK.1 hK.2 a_t a_t_guests a_t_numbers a_t_coats a_t_line t_waiting t_arrived t_standing t_climbed t_drawn t_guests x1 res hf hP (fun pc ls hE hd => eRO_i S.1 S.2.1 hr rfl hlk hE hd) ls hl)
def f_X0_sittingOn (t_guests : (Nat → Int32)) (x1 : Int32) : Option (Int32) := (f_X0_sittingFrom t_guests (x1 * 72) ((x1 * 72) + 72)).bind (fun z12 => some (z12))
def w_X0_sittingOn (cI cB cZ : ClassId) (a_t : Nat) (a_t_guests : Nat) (a_t_numbers : Nat) (a_t_coats : Nat) (a_t_line : Nat) (t_waiting : Int32) (t_arrived : Int32) (t_standing : Int32) (t_climbed : Int32) (t_drawn : Int32) (t_guests : (Nat → Int32)) : va_W := [(a_t, .inr (0, [.ref a_t_guests, .ref a_t_numbers, .ref a_t_coats, .ref a_t_line, .int t_waiting, .int t_arrived, .int t_standing, .int t_climbed, .int t_drawn])), (a_t_guests, .inl (cI, 144, .inl t_guests))]
set_option maxHeartbeats 4000000 in
set_option maxRecDepth 100000 in
theorem b_X0_sittingOn {p : Program} {l : Launch} {e : Env} {R : Room} {s : State} {m : MethodId} {args : Array Value} {below : List Frame} {meth : Method} {c : Code} {Q : State → Prop} {D : va_G} {cI cB cZ : ClassId} (hx : p.tables.exec = Jvm.exec) (hb : c.code = cX0_sittingOn) (hml : c.maxLocals = 2) (hown : s.vm.findClass RX0 = some m.cls) (hT : ∀ w ∈ TB, w.before args s = true) (hRf : (2) ≤ R.frames) (hRl : (64) ≤ R.locals) (hK : va_K D vwCl (tyL cI cB cZ) s) (hN : NW s)  (a_t : Nat) (a_t_guests : Nat) (a_t_numbers : Nat) (a_t_coats : Nat) (a_t_line : Nat) (t_waiting : Int32) (t_arrived : Int32) (t_standing : Int32) (t_climbed : Int32) (t_drawn : Int32) (t_guests : (Nat → Int32)) (x1 : Int32) (res : Int32) (hf : f_X0_sittingOn t_guests x1 = some res) (hP : va_P D vwCl (w_X0_sittingOn cI cB cZ a_t a_t_guests a_t_numbers a_t_coats a_t_line t_waiting t_arrived t_standing t_climbed t_drawn t_guests) s.heap) (hQ : ∀ (pc : Nat) (ls : Array Slot), True → decode cX0_sittingOn pc = .ok (.ireturn, 1) → W p l e R s m args below meth c s.heap [] 0 0 Q (F0 m pc ls [.int res])) (ls : Array Slot) (hl : lv_has ls 2 [(0, .ref a_t), (1, .int x1)]) : W p l e R s m args below meth c s.heap [] 0 0 Q (F0 m 0 ls []) := by
  unfold f_X0_sittingOn at hf
  refine lv_aload_n hx hb dX0_sittingOn_0 rfl (lv_at hl 0 rfl) ?_
  refine lv_iload_n hx hb dX0_sittingOn_1 rfl (lv_at hl 1 rfl) ?_
  refine lv_bipush (v := 72) hx hb dX0_sittingOn_2 (by decide) ?_
  refine lv_imul hx hb dX0_sittingOn_4 ?_
  refine lv_iload_n hx hb dX0_sittingOn_5 rfl (lv_at hl 1 rfl) ?_
  refine lv_bipush (v := 72) hx hb dX0_sittingOn_6 (by decide) ?_
  refine lv_imul hx hb dX0_sittingOn_8 ?_
  refine lv_bipush (v := 72) hx hb dX0_sittingOn_9 (by decide) ?_
  refine lv_iadd hx hb dX0_sittingOn_11 ?_
  obtain ⟨z12, e12, hf⟩ := bd_some hf
  refine rV_RO (As := [.int (x1 * 72), .int ((x1 * 72) + 72)]) (rest := []) ⟨hx, hb, hml, hown, hT⟩ (gdV tb_745 tb_747 tb_13 tb_88 tb_748) hd_X0_sittingFrom (c_X0_sittingFrom l D cI cB cZ a_t a_t_guests a_t_numbers a_t_coats a_t_line t_waiting t_arrived t_standing t_climbed t_drawn t_guests (x1 * 72) ((x1 * 72) + 72) z12 e12) ⟨rfl, rfl⟩ ⟨Nat.le_trans (by decide) hRf, Nat.le_trans (by decide) hRl⟩ ⟨hK, hN⟩ hP [0, 1] rfl 0 rfl rfl rfl hl.1 rfl (Nat.le_of_ble_eq_true rfl) ⟨Nat.zero_le _, Nat.zero_le _⟩ dX0_sittingOn_12 (fun _ => ?_)
  obtain rfl := Option.some.inj hf
  exact hQ 15 ls trivial dX0_sittingOn_15
theorem hd_X0_sittingOn : (yX0_sittingOn).cls = RX0 ∧ (yX0_sittingOn).cls ≠ "java/lang/invoke/MethodHandle" ∧ (yX0_sittingOn).cls ≠ "java/lang/invoke/VarHandle" ∧ (parseMethodDescriptor (yX0_sittingOn).desc).map (fun d => d.parameters.length) = some 1 := by decide +kernel
theorem c_X0_sittingOn (l : Launch) (D : va_G) (cI cB cZ : ClassId) (a_t : Nat) (a_t_guests : Nat) (a_t_numbers : Nat) (a_t_coats : Nat) (a_t_line : Nat) (t_waiting : Int32) (t_arrived : Int32) (t_standing : Int32) (t_climbed : Int32) (t_drawn : Int32) (t_guests : (Nat → Int32)) (x1 : Int32) (res : Int32) (hf : f_X0_sittingOn t_guests x1 = some res) : Met l yX0_sittingOn (.code yX0_sittingOn cX0_sittingOn 2 (some .int) :: TB) (rmk (2) (64)) (pRO [.ref a_t, .int x1] D cI cB cZ (w_X0_sittingOn cI cB cZ a_t a_t_guests a_t_numbers a_t_coats a_t_line t_waiting t_arrived t_standing t_climbed t_drawn t_guests)) (qRO (some (.int res)) True) 0 0 (fun _ => False) :=
  mkRO (by decide +kernel) (Nat.le_of_ble_eq_true rfl) (fun p e s m below meth c ls S hr hlk hK hP hl => b_X0_sittingOn S.1 S.2.1 S.2.2.1 S.2.2.2.1 S.2.2.2.2 (Nat.le_refl _) (Nat.le_refl _) hK.1 hK.2 a_t a_t_guests a_t_numbers a_t_coats a_t_line t_waiting t_arrived t_standing t_climbed t_drawn t_guests x1 res hf hP (fun pc ls hE hd => eRO_i S.1 S.2.1 hr rfl hlk hE hd) ls hl)
def f_X0_sittingAisleward (t_guests : (Nat → Int32)) (x1 : Int32) : Option (Int32) := (f_X0_sittingFrom t_guests (x1 - (jrem x1 9)) x1).bind (fun z8 => some (z8))
def w_X0_sittingAisleward (cI cB cZ : ClassId) (a_t : Nat) (a_t_guests : Nat) (a_t_numbers : Nat) (a_t_coats : Nat) (a_t_line : Nat) (t_waiting : Int32) (t_arrived : Int32) (t_standing : Int32) (t_climbed : Int32) (t_drawn : Int32) (t_guests : (Nat → Int32)) : va_W := [(a_t, .inr (0, [.ref a_t_guests, .ref a_t_numbers, .ref a_t_coats, .ref a_t_line, .int t_waiting, .int t_arrived, .int t_standing, .int t_climbed, .int t_drawn])), (a_t_guests, .inl (cI, 144, .inl t_guests))]
set_option maxHeartbeats 4000000 in
set_option maxRecDepth 100000 in
theorem b_X0_sittingAisleward {p : Program} {l : Launch} {e : Env} {R : Room} {s : State} {m : MethodId} {args : Array Value} {below : List Frame} {meth : Method} {c : Code} {Q : State → Prop} {D : va_G} {cI cB cZ : ClassId} (hx : p.tables.exec = Jvm.exec) (hb : c.code = cX0_sittingAisleward) (hml : c.maxLocals = 2) (hown : s.vm.findClass RX0 = some m.cls) (hT : ∀ w ∈ TB, w.before args s = true) (hRf : (2) ≤ R.frames) (hRl : (64) ≤ R.locals) (hK : va_K D vwCl (tyL cI cB cZ) s) (hN : NW s)  (a_t : Nat) (a_t_guests : Nat) (a_t_numbers : Nat) (a_t_coats : Nat) (a_t_line : Nat) (t_waiting : Int32) (t_arrived : Int32) (t_standing : Int32) (t_climbed : Int32) (t_drawn : Int32) (t_guests : (Nat → Int32)) (x1 : Int32) (res : Int32) (hf : f_X0_sittingAisleward t_guests x1 = some res) (hP : va_P D vwCl (w_X0_sittingAisleward cI cB cZ a_t a_t_guests a_t_numbers a_t_coats a_t_line t_waiting t_arrived t_standing t_climbed t_drawn t_guests) s.heap) (hQ : ∀ (pc : Nat) (ls : Array Slot), True → decode cX0_sittingAisleward pc = .ok (.ireturn, 1) → W p l e R s m args below meth c s.heap [] 0 0 Q (F0 m pc ls [.int res])) (ls : Array Slot) (hl : lv_has ls 2 [(0, .ref a_t), (1, .int x1)]) : W p l e R s m args below meth c s.heap [] 0 0 Q (F0 m 0 ls []) := by
  unfold f_X0_sittingAisleward at hf
  refine lv_aload_n hx hb dX0_sittingAisleward_0 rfl (lv_at hl 0 rfl) ?_
  refine lv_iload_n hx hb dX0_sittingAisleward_1 rfl (lv_at hl 1 rfl) ?_
  refine lv_iload_n hx hb dX0_sittingAisleward_2 rfl (lv_at hl 1 rfl) ?_
  refine lv_bipush (v := 9) hx hb dX0_sittingAisleward_3 (by decide) ?_
  refine lv_irem hx hb dX0_sittingAisleward_5 (by decide) ?_
  refine lv_isub hx hb dX0_sittingAisleward_6 ?_
  refine lv_iload_n hx hb dX0_sittingAisleward_7 rfl (lv_at hl 1 rfl) ?_
  obtain ⟨z8, e8, hf⟩ := bd_some hf
  refine rV_RO (As := [.int (x1 - (jrem x1 9)), .int x1]) (rest := []) ⟨hx, hb, hml, hown, hT⟩ (gdV tb_745 tb_747 tb_13 tb_88 tb_748) hd_X0_sittingFrom (c_X0_sittingFrom l D cI cB cZ a_t a_t_guests a_t_numbers a_t_coats a_t_line t_waiting t_arrived t_standing t_climbed t_drawn t_guests (x1 - (jrem x1 9)) x1 z8 e8) ⟨rfl, rfl⟩ ⟨Nat.le_trans (by decide) hRf, Nat.le_trans (by decide) hRl⟩ ⟨hK, hN⟩ hP [0, 1] rfl 0 rfl rfl rfl hl.1 rfl (Nat.le_of_ble_eq_true rfl) ⟨Nat.zero_le _, Nat.zero_le _⟩ dX0_sittingAisleward_8 (fun _ => ?_)
  obtain rfl := Option.some.inj hf
  exact hQ 11 ls trivial dX0_sittingAisleward_11
theorem hd_X0_sittingAisleward : (yX0_sittingAisleward).cls = RX0 ∧ (yX0_sittingAisleward).cls ≠ "java/lang/invoke/MethodHandle" ∧ (yX0_sittingAisleward).cls ≠ "java/lang/invoke/VarHandle" ∧ (parseMethodDescriptor (yX0_sittingAisleward).desc).map (fun d => d.parameters.length) = some 1 := by decide +kernel
theorem c_X0_sittingAisleward (l : Launch) (D : va_G) (cI cB cZ : ClassId) (a_t : Nat) (a_t_guests : Nat) (a_t_numbers : Nat) (a_t_coats : Nat) (a_t_line : Nat) (t_waiting : Int32) (t_arrived : Int32) (t_standing : Int32) (t_climbed : Int32) (t_drawn : Int32) (t_guests : (Nat → Int32)) (x1 : Int32) (res : Int32) (hf : f_X0_sittingAisleward t_guests x1 = some res) : Met l yX0_sittingAisleward (.code yX0_sittingAisleward cX0_sittingAisleward 2 (some .int) :: TB) (rmk (2) (64)) (pRO [.ref a_t, .int x1] D cI cB cZ (w_X0_sittingAisleward cI cB cZ a_t a_t_guests a_t_numbers a_t_coats a_t_line t_waiting t_arrived t_standing t_climbed t_drawn t_guests)) (qRO (some (.int res)) True) 0 0 (fun _ => False) :=
  mkRO (by decide +kernel) (Nat.le_of_ble_eq_true rfl) (fun p e s m below meth c ls S hr hlk hK hP hl => b_X0_sittingAisleward S.1 S.2.1 S.2.2.1 S.2.2.2.1 S.2.2.2.2 (Nat.le_refl _) (Nat.le_refl _) hK.1 hK.2 a_t a_t_guests a_t_numbers a_t_coats a_t_line t_waiting t_arrived t_standing t_climbed t_drawn t_guests x1 res hf hP (fun pc ls hE hd => eRO_i S.1 S.2.1 hr rfl hlk hE hd) ls hl)
def f_X0_moreOnHers (t_guests : (Nat → Int32)) : Option (Int32) := (f_X0_sittingOn t_guests 0).bind (fun z2 => (f_X0_sittingOn t_guests 1).bind (fun z7 => some (z2 - z7)))
def w_X0_moreOnHers (cI cB cZ : ClassId) (a_t : Nat) (a_t_guests : Nat) (a_t_numbers : Nat) (a_t_coats : Nat) (a_t_line : Nat) (t_waiting : Int32) (t_arrived : Int32) (t_standing : Int32) (t_climbed : Int32) (t_drawn : Int32) (t_guests : (Nat → Int32)) : va_W := [(a_t, .inr (0, [.ref a_t_guests, .ref a_t_numbers, .ref a_t_coats, .ref a_t_line, .int t_waiting, .int t_arrived, .int t_standing, .int t_climbed, .int t_drawn])), (a_t_guests, .inl (cI, 144, .inl t_guests))]
set_option maxHeartbeats 4000000 in
set_option maxRecDepth 100000 in
theorem b_X0_moreOnHers {p : Program} {l : Launch} {e : Env} {R : Room} {s : State} {m : MethodId} {args : Array Value} {below : List Frame} {meth : Method} {c : Code} {Q : State → Prop} {D : va_G} {cI cB cZ : ClassId} (hx : p.tables.exec = Jvm.exec) (hb : c.code = cX0_moreOnHers) (hml : c.maxLocals = 1) (hown : s.vm.findClass RX0 = some m.cls) (hT : ∀ w ∈ TB, w.before args s = true) (hRf : (3) ≤ R.frames) (hRl : (85) ≤ R.locals) (hK : va_K D vwCl (tyL cI cB cZ) s) (hN : NW s)  (a_t : Nat) (a_t_guests : Nat) (a_t_numbers : Nat) (a_t_coats : Nat) (a_t_line : Nat) (t_waiting : Int32) (t_arrived : Int32) (t_standing : Int32) (t_climbed : Int32) (t_drawn : Int32) (t_guests : (Nat → Int32)) (res : Int32) (hf : f_X0_moreOnHers t_guests = some res) (hP : va_P D vwCl (w_X0_moreOnHers cI cB cZ a_t a_t_guests a_t_numbers a_t_coats a_t_line t_waiting t_arrived t_standing t_climbed t_drawn t_guests) s.heap) (hQ : ∀ (pc : Nat) (ls : Array Slot), True → decode cX0_moreOnHers pc = .ok (.ireturn, 1) → W p l e R s m args below meth c s.heap [] 0 0 Q (F0 m pc ls [.int res])) (ls : Array Slot) (hl : lv_has ls 1 [(0, .ref a_t)]) : W p l e R s m args below meth c s.heap [] 0 0 Q (F0 m 0 ls []) := by
  unfold f_X0_moreOnHers at hf
  refine lv_aload_n hx hb dX0_moreOnHers_0 rfl (lv_at hl 0 rfl) ?_
  refine lv_iconst (v := 0) hx hb dX0_moreOnHers_1 (by decide) ?_
  obtain ⟨z2, e2, hf⟩ := bd_some hf
  refine rV_RO (As := [.int 0]) (rest := []) ⟨hx, hb, hml, hown, hT⟩ (gdV tb_741 tb_742 tb_743 tb_88 tb_744) hd_X0_sittingOn (c_X0_sittingOn l D cI cB cZ a_t a_t_guests a_t_numbers a_t_coats a_t_line t_waiting t_arrived t_standing t_climbed t_drawn t_guests 0 z2 e2) ⟨rfl, rfl⟩ ⟨Nat.le_trans (by decide) hRf, Nat.le_trans (by decide) hRl⟩ ⟨hK, hN⟩ hP [0, 1] rfl 0 rfl rfl rfl hl.1 rfl (Nat.le_of_ble_eq_true rfl) ⟨Nat.zero_le _, Nat.zero_le _⟩ dX0_moreOnHers_2 (fun _ => ?_)
  refine lv_aload_n hx hb dX0_moreOnHers_5 rfl (lv_at hl 0 rfl) ?_
  refine lv_iconst (v := 1) hx hb dX0_moreOnHers_6 (by decide) ?_
  obtain ⟨z7, e7, hf⟩ := bd_some hf
  refine rV_RO (As := [.int 1]) (rest := [.int z2]) ⟨hx, hb, hml, hown, hT⟩ (gdV tb_741 tb_742 tb_743 tb_88 tb_744) hd_X0_sittingOn (c_X0_sittingOn l D cI cB cZ a_t a_t_guests a_t_numbers a_t_coats a_t_line t_waiting t_arrived t_standing t_climbed t_drawn t_guests 1 z7 e7) ⟨rfl, rfl⟩ ⟨Nat.le_trans (by decide) hRf, Nat.le_trans (by decide) hRl⟩ ⟨hK, hN⟩ hP [0, 1] rfl 0 rfl rfl rfl hl.1 rfl (Nat.le_of_ble_eq_true rfl) ⟨Nat.zero_le _, Nat.zero_le _⟩ dX0_moreOnHers_7 (fun _ => ?_)
  refine lv_isub hx hb dX0_moreOnHers_10 ?_
  obtain rfl := Option.some.inj hf
  exact hQ 11 ls trivial dX0_moreOnHers_11
theorem hd_X0_moreOnHers : (yX0_moreOnHers).cls = RX0 ∧ (yX0_moreOnHers).cls ≠ "java/lang/invoke/MethodHandle" ∧ (yX0_moreOnHers).cls ≠ "java/lang/invoke/VarHandle" ∧ (parseMethodDescriptor (yX0_moreOnHers).desc).map (fun d => d.parameters.length) = some 0 := by decide +kernel
theorem c_X0_moreOnHers (l : Launch) (D : va_G) (cI cB cZ : ClassId) (a_t : Nat) (a_t_guests : Nat) (a_t_numbers : Nat) (a_t_coats : Nat) (a_t_line : Nat) (t_waiting : Int32) (t_arrived : Int32) (t_standing : Int32) (t_climbed : Int32) (t_drawn : Int32) (t_guests : (Nat → Int32)) (res : Int32) (hf : f_X0_moreOnHers t_guests = some res) : Met l yX0_moreOnHers (.code yX0_moreOnHers cX0_moreOnHers 1 (some .int) :: TB) (rmk (3) (85)) (pRO [.ref a_t] D cI cB cZ (w_X0_moreOnHers cI cB cZ a_t a_t_guests a_t_numbers a_t_coats a_t_line t_waiting t_arrived t_standing t_climbed t_drawn t_guests)) (qRO (some (.int res)) True) 0 0 (fun _ => False) :=
  mkRO (by decide +kernel) (Nat.le_of_ble_eq_true rfl) (fun p e s m below meth c ls S hr hlk hK hP hl => b_X0_moreOnHers S.1 S.2.1 S.2.2.1 S.2.2.2.1 S.2.2.2.2 (Nat.le_refl _) (Nat.le_refl _) hK.1 hK.2 a_t a_t_guests a_t_numbers a_t_coats a_t_line t_waiting t_arrived t_standing t_climbed t_drawn t_guests res hf hP (fun pc ls hE hd => eRO_i S.1 S.2.1 hr rfl hlk hE hd) ls hl)
def f_X0_sittingOfIn_5 (t_guests : (Nat → Int32)) : Nat → Int32 → Int32 → Int32 → Int32 → Option (Int32)
  | 0, _, _, _, _ => none
  | n + 1, x1, x2, x3, x4 => (if 9 ≤ x4 then some (x3) else (f_X0_isTakenBy t_guests ((x2 * 9) + x4) x1).bind (fun z21 => (if z21 = 0 then (f_X0_sittingOfIn_5 t_guests n) x1 x2 x3 (x4 + 1) else (f_X0_sittingOfIn_5 t_guests n) x1 x2 (x3 + 1) (x4 + 1))))
def f_X0_sittingOfIn (t_guests : (Nat → Int32)) (x1 : Int32) (x2 : Int32) : Option (Int32) := f_X0_sittingOfIn_5 t_guests FU x1 x2 0 0
def w_X0_sittingOfIn (cI cB cZ : ClassId) (a_t : Nat) (a_t_guests : Nat) (a_t_numbers : Nat) (a_t_coats : Nat) (a_t_line : Nat) (t_waiting : Int32) (t_arrived : Int32) (t_standing : Int32) (t_climbed : Int32) (t_drawn : Int32) (t_guests : (Nat → Int32)) : va_W := [(a_t, .inr (0, [.ref a_t_guests, .ref a_t_numbers, .ref a_t_coats, .ref a_t_line, .int t_waiting, .int t_arrived, .int t_standing, .int t_climbed, .int t_drawn])), (a_t_guests, .inl (cI, 144, .inl t_guests))]
set_option maxHeartbeats 4000000 in
set_option maxRecDepth 100000 in
theorem b_X0_sittingOfIn {p : Program} {l : Launch} {e : Env} {R : Room} {s : State} {m : MethodId} {args : Array Value} {below : List Frame} {meth : Method} {c : Code} {Q : State → Prop} {D : va_G} {cI cB cZ : ClassId} (hx : p.tables.exec = Jvm.exec) (hb : c.code = cX0_sittingOfIn) (hml : c.maxLocals = 5) (hown : s.vm.findClass RX0 = some m.cls) (hT : ∀ w ∈ TB, w.before args s = true) (hRf : (2) ≤ R.frames) (hRl : (44) ≤ R.locals) (hK : va_K D vwCl (tyL cI cB cZ) s) (hN : NW s)  (a_t : Nat) (a_t_guests : Nat) (a_t_numbers : Nat) (a_t_coats : Nat) (a_t_line : Nat) (t_waiting : Int32) (t_arrived : Int32) (t_standing : Int32) (t_climbed : Int32) (t_drawn : Int32) (t_guests : (Nat → Int32)) (x1 : Int32) (x2 : Int32) (res : Int32) (hf : f_X0_sittingOfIn t_guests x1 x2 = some res) (hP : va_P D vwCl (w_X0_sittingOfIn cI cB cZ a_t a_t_guests a_t_numbers a_t_coats a_t_line t_waiting t_arrived t_standing t_climbed t_drawn t_guests) s.heap) (hQ : ∀ (pc : Nat) (ls : Array Slot), True → decode cX0_sittingOfIn pc = .ok (.ireturn, 1) → W p l e R s m args below meth c s.heap [] 0 0 Q (F0 m pc ls [.int res])) (ls : Array Slot) (hl : lv_has ls 5 [(0, .ref a_t), (1, .int x1), (2, .int x2)]) : W p l e R s m args below meth c s.heap [] 0 0 Q (F0 m 0 ls []) := by
  unfold f_X0_sittingOfIn at hf
  refine lv_iconst (v := 0) hx hb dX0_sittingOfIn_0 (by decide) ?_
  refine lv_istore_n (lv' := [(3, .int 0), (0, .ref a_t), (1, .int x1), (2, .int x2)]) hx hb dX0_sittingOfIn_1 rfl hl (by decide) rfl (fun ls hl => ?_)
  refine lv_iconst (v := 0) hx hb dX0_sittingOfIn_2 (by decide) ?_
  have J_5 : ∀ (n_5 : Nat) (x1 : Int32) (x2 : Int32) (x3 : Int32) (x4 : Int32) (ls : Array Slot), f_X0_sittingOfIn_5 t_guests n_5 x1 x2 x3 x4 = some res → lv_has ls 5 [(0, .ref a_t), (1, .int x1), (2, .int x2), (3, .int x3), (4, .int x4)] → W p l e R s m args below meth c s.heap [] 0 0 Q (F0 m 5 ls []) := by
    intro n_5
    induction n_5 with
    | zero =>
      intro x1 x2 x3 x4 ls hf hl
      cases hf
    | succ n_5 ih_5 =>
      intro x1 x2 x3 x4 ls hf hl
      unfold f_X0_sittingOfIn_5 at hf
      refine lv_iload hx hb dX0_sittingOfIn_5 (lv_at hl 4 rfl) ?_
      refine lv_bipush (v := 9) hx hb dX0_sittingOfIn_7 (by decide) ?_
      refine lv_icmp_ge (tgt := 36) hx hb dX0_sittingOfIn_9 (by decide) (fun hc_9 => ?_) (fun hc_9 => ?_)
      · have hf := it_pos hc_9 hf
        refine lv_iload_n hx hb dX0_sittingOfIn_36 rfl (lv_at hl 3 rfl) ?_
        obtain rfl := Option.some.inj hf
        exact hQ 37 ls trivial dX0_sittingOfIn_37
      · have hf := it_neg hc_9 hf
        refine lv_aload_n hx hb dX0_sittingOfIn_12 rfl (lv_at hl 0 rfl) ?_
        refine lv_iload_n hx hb dX0_sittingOfIn_13 rfl (lv_at hl 2 rfl) ?_
        refine lv_bipush (v := 9) hx hb dX0_sittingOfIn_14 (by decide) ?_
        refine lv_imul hx hb dX0_sittingOfIn_16 ?_
        refine lv_iload hx hb dX0_sittingOfIn_17 (lv_at hl 4 rfl) ?_
        refine lv_iadd hx hb dX0_sittingOfIn_19 ?_
        refine lv_iload_n hx hb dX0_sittingOfIn_20 rfl (lv_at hl 1 rfl) ?_
        obtain ⟨z21, e21, hf⟩ := bd_some hf
        refine rV_RO (As := [.int ((x2 * 9) + x4), .int x1]) (rest := []) ⟨hx, hb, hml, hown, hT⟩ (gdV tb_801 tb_802 tb_803 tb_88 tb_804) hd_X0_isTakenBy (c_X0_isTakenBy l D cI cB cZ a_t a_t_guests a_t_numbers a_t_coats a_t_line t_waiting t_arrived t_standing t_climbed t_drawn t_guests ((x2 * 9) + x4) x1 z21 e21) ⟨rfl, rfl⟩ ⟨Nat.le_trans (by decide) hRf, Nat.le_trans (by decide) hRl⟩ ⟨hK, hN⟩ hP [0, 1] rfl 0 rfl rfl rfl hl.1 rfl (Nat.le_of_ble_eq_true rfl) ⟨Nat.zero_le _, Nat.zero_le _⟩ dX0_sittingOfIn_21 (fun hz_21 => ?_)
        refine lv_if_eq (tgt := 30) hx hb dX0_sittingOfIn_24 (by decide) (fun hc_24 => ?_) (fun hc_24 => ?_)
        · have hf := it_pos hc_24 hf
          refine lv_iinc (v := x4 + 1) (lv' := [(4, .int (x4 + 1)), (0, .ref a_t), (1, .int x1), (2, .int x2), (3, .int x3)]) hx hb dX0_sittingOfIn_30 hl (k := 4) rfl (congrArg (_ + ·) (by decide : Int32.ofInt 1 = 1)) (by decide) rfl (fun ls hl => ?_)
          refine lv_goto (tgt := 5) hx hb dX0_sittingOfIn_33 (by decide) ?_
          exact ih_5 _ _ _ _ _ hf (lv_sub hl [1, 2, 3, 4, 0] rfl)
        · have hf := it_neg hc_24 hf
          refine lv_iinc (v := x3 + 1) (lv' := [(3, .int (x3 + 1)), (0, .ref a_t), (1, .int x1), (2, .int x2), (4, .int x4)]) hx hb dX0_sittingOfIn_27 hl (k := 3) rfl (congrArg (_ + ·) (by decide : Int32.ofInt 1 = 1)) (by decide) rfl (fun ls hl => ?_)
          refine lv_iinc (v := x4 + 1) (lv' := [(4, .int (x4 + 1)), (3, .int (x3 + 1)), (0, .ref a_t), (1, .int x1), (2, .int x2)]) hx hb dX0_sittingOfIn_30 hl (k := 4) rfl (congrArg (_ + ·) (by decide : Int32.ofInt 1 = 1)) (by decide) rfl (fun ls hl => ?_)
          refine lv_goto (tgt := 5) hx hb dX0_sittingOfIn_33 (by decide) ?_
          exact ih_5 _ _ _ _ _ hf (lv_sub hl [2, 3, 4, 1, 0] rfl)
  refine lv_istore (lv' := [(4, .int 0), (3, .int 0), (0, .ref a_t), (1, .int x1), (2, .int x2)]) hx hb dX0_sittingOfIn_3 hl (by decide) rfl (fun ls hl => ?_)
  exact J_5 _ _ _ _ _ _ hf (lv_sub hl [2, 3, 4, 1, 0] rfl)
theorem hd_X0_sittingOfIn : (yX0_sittingOfIn).cls = RX0 ∧ (yX0_sittingOfIn).cls ≠ "java/lang/invoke/MethodHandle" ∧ (yX0_sittingOfIn).cls ≠ "java/lang/invoke/VarHandle" ∧ (parseMethodDescriptor (yX0_sittingOfIn).desc).map (fun d => d.parameters.length) = some 2 := by decide +kernel
theorem c_X0_sittingOfIn (l : Launch) (D : va_G) (cI cB cZ : ClassId) (a_t : Nat) (a_t_guests : Nat) (a_t_numbers : Nat) (a_t_coats : Nat) (a_t_line : Nat) (t_waiting : Int32) (t_arrived : Int32) (t_standing : Int32) (t_climbed : Int32) (t_drawn : Int32) (t_guests : (Nat → Int32)) (x1 : Int32) (x2 : Int32) (res : Int32) (hf : f_X0_sittingOfIn t_guests x1 x2 = some res) : Met l yX0_sittingOfIn (.code yX0_sittingOfIn cX0_sittingOfIn 5 (some .int) :: TB) (rmk (2) (44)) (pRO [.ref a_t, .int x1, .int x2] D cI cB cZ (w_X0_sittingOfIn cI cB cZ a_t a_t_guests a_t_numbers a_t_coats a_t_line t_waiting t_arrived t_standing t_climbed t_drawn t_guests)) (qRO (some (.int res)) True) 0 0 (fun _ => False) :=
  mkRO (by decide +kernel) (Nat.le_of_ble_eq_true rfl) (fun p e s m below meth c ls S hr hlk hK hP hl => b_X0_sittingOfIn S.1 S.2.1 S.2.2.1 S.2.2.2.1 S.2.2.2.2 (Nat.le_refl _) (Nat.le_refl _) hK.1 hK.2 a_t a_t_guests a_t_numbers a_t_coats a_t_line t_waiting t_arrived t_standing t_climbed t_drawn t_guests x1 x2 res hf hP (fun pc ls hE hd => eRO_i S.1 S.2.1 hr rfl hlk hE hd) ls hl)
def f_X0_sittingOf_4 (t_guests : (Nat → Int32)) : Nat → Int32 → Int32 → Int32 → Option (Int32)
  | 0, _, _, _ => none
  | n + 1, x1, x2, x3 => (if 16 ≤ x3 then some (x2) else (f_X0_sittingOfIn t_guests x1 x3).bind (fun z14 => (f_X0_sittingOf_4 t_guests n) x1 (x2 + z14) (x3 + 1)))
def f_X0_sittingOf (t_guests : (Nat → Int32)) (x1 : Int32) : Option (Int32) := f_X0_sittingOf_4 t_guests FU x1 0 0
def w_X0_sittingOf (cI cB cZ : ClassId) (a_t : Nat) (a_t_guests : Nat) (a_t_numbers : Nat) (a_t_coats : Nat) (a_t_line : Nat) (t_waiting : Int32) (t_arrived : Int32) (t_standing : Int32) (t_climbed : Int32) (t_drawn : Int32) (t_guests : (Nat → Int32)) : va_W := [(a_t, .inr (0, [.ref a_t_guests, .ref a_t_numbers, .ref a_t_coats, .ref a_t_line, .int t_waiting, .int t_arrived, .int t_standing, .int t_climbed, .int t_drawn])), (a_t_guests, .inl (cI, 144, .inl t_guests))]
set_option maxHeartbeats 4000000 in
set_option maxRecDepth 100000 in
theorem b_X0_sittingOf {p : Program} {l : Launch} {e : Env} {R : Room} {s : State} {m : MethodId} {args : Array Value} {below : List Frame} {meth : Method} {c : Code} {Q : State → Prop} {D : va_G} {cI cB cZ : ClassId} (hx : p.tables.exec = Jvm.exec) (hb : c.code = cX0_sittingOf) (hml : c.maxLocals = 4) (hown : s.vm.findClass RX0 = some m.cls) (hT : ∀ w ∈ TB, w.before args s = true) (hRf : (3) ≤ R.frames) (hRl : (68) ≤ R.locals) (hK : va_K D vwCl (tyL cI cB cZ) s) (hN : NW s)  (a_t : Nat) (a_t_guests : Nat) (a_t_numbers : Nat) (a_t_coats : Nat) (a_t_line : Nat) (t_waiting : Int32) (t_arrived : Int32) (t_standing : Int32) (t_climbed : Int32) (t_drawn : Int32) (t_guests : (Nat → Int32)) (x1 : Int32) (res : Int32) (hf : f_X0_sittingOf t_guests x1 = some res) (hP : va_P D vwCl (w_X0_sittingOf cI cB cZ a_t a_t_guests a_t_numbers a_t_coats a_t_line t_waiting t_arrived t_standing t_climbed t_drawn t_guests) s.heap) (hQ : ∀ (pc : Nat) (ls : Array Slot), True → decode cX0_sittingOf pc = .ok (.ireturn, 1) → W p l e R s m args below meth c s.heap [] 0 0 Q (F0 m pc ls [.int res])) (ls : Array Slot) (hl : lv_has ls 4 [(0, .ref a_t), (1, .int x1)]) : W p l e R s m args below meth c s.heap [] 0 0 Q (F0 m 0 ls []) := by
  unfold f_X0_sittingOf at hf
  refine lv_iconst (v := 0) hx hb dX0_sittingOf_0 (by decide) ?_
  refine lv_istore_n (lv' := [(2, .int 0), (0, .ref a_t), (1, .int x1)]) hx hb dX0_sittingOf_1 rfl hl (by decide) rfl (fun ls hl => ?_)
  refine lv_iconst (v := 0) hx hb dX0_sittingOf_2 (by decide) ?_
  have J_4 : ∀ (n_4 : Nat) (x1 : Int32) (x2 : Int32) (x3 : Int32) (ls : Array Slot), f_X0_sittingOf_4 t_guests n_4 x1 x2 x3 = some res → lv_has ls 4 [(0, .ref a_t), (1, .int x1), (2, .int x2), (3, .int x3)] → W p l e R s m args below meth c s.heap [] 0 0 Q (F0 m 4 ls []) := by
    intro n_4
    induction n_4 with
    | zero =>
      intro x1 x2 x3 ls hf hl
      cases hf
    | succ n_4 ih_4 =>
      intro x1 x2 x3 ls hf hl
      unfold f_X0_sittingOf_4 at hf
      refine lv_iload_n hx hb dX0_sittingOf_4 rfl (lv_at hl 3 rfl) ?_
      refine lv_bipush (v := 16) hx hb dX0_sittingOf_5 (by decide) ?_
      refine lv_icmp_ge (tgt := 25) hx hb dX0_sittingOf_7 (by decide) (fun hc_7 => ?_) (fun hc_7 => ?_)
      · have hf := it_pos hc_7 hf
        refine lv_iload_n hx hb dX0_sittingOf_25 rfl (lv_at hl 2 rfl) ?_
        obtain rfl := Option.some.inj hf
        exact hQ 26 ls trivial dX0_sittingOf_26
      · have hf := it_neg hc_7 hf
        refine lv_iload_n hx hb dX0_sittingOf_10 rfl (lv_at hl 2 rfl) ?_
        refine lv_aload_n hx hb dX0_sittingOf_11 rfl (lv_at hl 0 rfl) ?_
        refine lv_iload_n hx hb dX0_sittingOf_12 rfl (lv_at hl 1 rfl) ?_
        refine lv_iload_n hx hb dX0_sittingOf_13 rfl (lv_at hl 3 rfl) ?_
        obtain ⟨z14, e14, hf⟩ := bd_some hf
        refine rV_RO (As := [.int x1, .int x3]) (rest := [.int x2]) ⟨hx, hb, hml, hown, hT⟩ (gdV tb_914 tb_798 tb_799 tb_88 tb_800) hd_X0_sittingOfIn (c_X0_sittingOfIn l D cI cB cZ a_t a_t_guests a_t_numbers a_t_coats a_t_line t_waiting t_arrived t_standing t_climbed t_drawn t_guests x1 x3 z14 e14) ⟨rfl, rfl⟩ ⟨Nat.le_trans (by decide) hRf, Nat.le_trans (by decide) hRl⟩ ⟨hK, hN⟩ hP [0, 1] rfl 0 rfl rfl rfl hl.1 rfl (Nat.le_of_ble_eq_true rfl) ⟨Nat.zero_le _, Nat.zero_le _⟩ dX0_sittingOf_14 (fun _ => ?_)
        refine lv_iadd hx hb dX0_sittingOf_17 ?_
        refine lv_istore_n (lv' := [(2, .int (x2 + z14)), (0, .ref a_t), (1, .int x1), (3, .int x3)]) hx hb dX0_sittingOf_18 rfl hl (by decide) rfl (fun ls hl => ?_)
        refine lv_iinc (v := x3 + 1) (lv' := [(3, .int (x3 + 1)), (2, .int (x2 + z14)), (0, .ref a_t), (1, .int x1)]) hx hb dX0_sittingOf_19 hl (k := 3) rfl (congrArg (_ + ·) (by decide : Int32.ofInt 1 = 1)) (by decide) rfl (fun ls hl => ?_)
        refine lv_goto (tgt := 4) hx hb dX0_sittingOf_22 (by decide) ?_
        exact ih_4 _ _ _ _ hf (lv_sub hl [2, 3, 1, 0] rfl)
  refine lv_istore_n (lv' := [(3, .int 0), (2, .int 0), (0, .ref a_t), (1, .int x1)]) hx hb dX0_sittingOf_3 rfl hl (by decide) rfl (fun ls hl => ?_)
  exact J_4 _ _ _ _ _ hf (lv_sub hl [2, 3, 1, 0] rfl)
theorem hd_X0_sittingOf : (yX0_sittingOf).cls = RX0 ∧ (yX0_sittingOf).cls ≠ "java/lang/invoke/MethodHandle" ∧ (yX0_sittingOf).cls ≠ "java/lang/invoke/VarHandle" ∧ (parseMethodDescriptor (yX0_sittingOf).desc).map (fun d => d.parameters.length) = some 1 := by decide +kernel
theorem c_X0_sittingOf (l : Launch) (D : va_G) (cI cB cZ : ClassId) (a_t : Nat) (a_t_guests : Nat) (a_t_numbers : Nat) (a_t_coats : Nat) (a_t_line : Nat) (t_waiting : Int32) (t_arrived : Int32) (t_standing : Int32) (t_climbed : Int32) (t_drawn : Int32) (t_guests : (Nat → Int32)) (x1 : Int32) (res : Int32) (hf : f_X0_sittingOf t_guests x1 = some res) : Met l yX0_sittingOf (.code yX0_sittingOf cX0_sittingOf 4 (some .int) :: TB) (rmk (3) (68)) (pRO [.ref a_t, .int x1] D cI cB cZ (w_X0_sittingOf cI cB cZ a_t a_t_guests a_t_numbers a_t_coats a_t_line t_waiting t_arrived t_standing t_climbed t_drawn t_guests)) (qRO (some (.int res)) True) 0 0 (fun _ => False) :=
  mkRO (by decide +kernel) (Nat.le_of_ble_eq_true rfl) (fun p e s m below meth c ls S hr hlk hK hP hl => b_X0_sittingOf S.1 S.2.1 S.2.2.1 S.2.2.2.1 S.2.2.2.2 (Nat.le_refl _) (Nat.le_refl _) hK.1 hK.2 a_t a_t_guests a_t_numbers a_t_coats a_t_line t_waiting t_arrived t_standing t_climbed t_drawn t_guests x1 res hf hP (fun pc ls hE hd => eRO_i S.1 S.2.1 hr rfl hlk hE hd) ls hl)
def f_X0_keptFor_5 (t_guests : (Nat → Int32)) (t_coats : (Nat → Int32)) : Nat → Int32 → Int32 → Int32 → Int32 → Option (Int32)
  | 0, _, _, _, _ => none
  | n + 1, x1, x2, x3, x4 => (if 9 ≤ x4 then some (x3) else (f_X0_guestOn t_guests ((x2 * 9) + x4)).bind (fun z24 => (if z24 = (-1) then (f_X0_coatOn t_coats ((x2 * 9) + x4)).bind (fun z34 => (if z34 = x1 then (f_X0_keptFor_5 t_guests t_coats n) x1 x2 (x3 + 1) (x4 + 1) else (f_X0_keptFor_5 t_guests t_coats n) x1 x2 x3 (x4 + 1))) else (f_X0_keptFor_5 t_guests t_coats n) x1 x2 x3 (x4 + 1))))
def f_X0_keptFor (t_guests : (Nat → Int32)) (t_coats : (Nat → Int32)) (x1 : Int32) (x2 : Int32) : Option (Int32) := f_X0_keptFor_5 t_guests t_coats FU x1 x2 0 0
def w_X0_keptFor (cI cB cZ : ClassId) (a_t : Nat) (a_t_guests : Nat) (a_t_coats : Nat) (a_t_numbers : Nat) (a_t_line : Nat) (t_waiting : Int32) (t_arrived : Int32) (t_standing : Int32) (t_climbed : Int32) (t_drawn : Int32) (t_guests : (Nat → Int32)) (t_coats : (Nat → Int32)) : va_W := [(a_t, .inr (0, [.ref a_t_guests, .ref a_t_numbers, .ref a_t_coats, .ref a_t_line, .int t_waiting, .int t_arrived, .int t_standing, .int t_climbed, .int t_drawn])), (a_t_guests, .inl (cI, 144, .inl t_guests)), (a_t_coats, .inl (cI, 144, .inl t_coats))]
set_option maxHeartbeats 4000000 in
set_option maxRecDepth 100000 in
theorem b_X0_keptFor {p : Program} {l : Launch} {e : Env} {R : Room} {s : State} {m : MethodId} {args : Array Value} {below : List Frame} {meth : Method} {c : Code} {Q : State → Prop} {D : va_G} {cI cB cZ : ClassId} (hx : p.tables.exec = Jvm.exec) (hb : c.code = cX0_keptFor) (hml : c.maxLocals = 6) (hown : s.vm.findClass RX0 = some m.cls) (hT : ∀ w ∈ TB, w.before args s = true) (hRf : (1) ≤ R.frames) (hRl : (21) ≤ R.locals) (hK : va_K D vwCl (tyL cI cB cZ) s) (hN : NW s)  (a_t : Nat) (a_t_guests : Nat) (a_t_coats : Nat) (a_t_numbers : Nat) (a_t_line : Nat) (t_waiting : Int32) (t_arrived : Int32) (t_standing : Int32) (t_climbed : Int32) (t_drawn : Int32) (t_guests : (Nat → Int32)) (t_coats : (Nat → Int32)) (x1 : Int32) (x2 : Int32) (res : Int32) (hf : f_X0_keptFor t_guests t_coats x1 x2 = some res) (hP : va_P D vwCl (w_X0_keptFor cI cB cZ a_t a_t_guests a_t_coats a_t_numbers a_t_line t_waiting t_arrived t_standing t_climbed t_drawn t_guests t_coats) s.heap) (hQ : ∀ (pc : Nat) (ls : Array Slot), True → decode cX0_keptFor pc = .ok (.ireturn, 1) → W p l e R s m args below meth c s.heap [] 0 0 Q (F0 m pc ls [.int res])) (ls : Array Slot) (hl : lv_has ls 6 [(0, .ref a_t), (1, .int x1), (2, .int x2)]) : W p l e R s m args below meth c s.heap [] 0 0 Q (F0 m 0 ls []) := by
  unfold f_X0_keptFor at hf
  refine lv_iconst (v := 0) hx hb dX0_keptFor_0 (by decide) ?_
  refine lv_istore_n (lv' := [(3, .int 0), (0, .ref a_t), (1, .int x1), (2, .int x2)]) hx hb dX0_keptFor_1 rfl hl (by decide) rfl (fun ls hl => ?_)
  refine lv_iconst (v := 0) hx hb dX0_keptFor_2 (by decide) ?_
  have J_5 : ∀ (n_5 : Nat) (x1 : Int32) (x2 : Int32) (x3 : Int32) (x4 : Int32) (ls : Array Slot), f_X0_keptFor_5 t_guests t_coats n_5 x1 x2 x3 x4 = some res → lv_has ls 6 [(0, .ref a_t), (1, .int x1), (2, .int x2), (3, .int x3), (4, .int x4)] → W p l e R s m args below meth c s.heap [] 0 0 Q (F0 m 5 ls []) := by
    intro n_5
    induction n_5 with
    | zero =>
      intro x1 x2 x3 x4 ls hf hl
      cases hf
    | succ n_5 ih_5 =>
      intro x1 x2 x3 x4 ls hf hl
      unfold f_X0_keptFor_5 at hf
      refine lv_iload hx hb dX0_keptFor_5 (lv_at hl 4 rfl) ?_
      refine lv_bipush (v := 9) hx hb dX0_keptFor_7 (by decide) ?_
      refine lv_icmp_ge (tgt := 50) hx hb dX0_keptFor_9 (by decide) (fun hc_9 => ?_) (fun hc_9 => ?_)
      · have hf := it_pos hc_9 hf
        refine lv_iload_n hx hb dX0_keptFor_50 rfl (lv_at hl 3 rfl) ?_
        obtain rfl := Option.some.inj hf
        exact hQ 51 ls trivial dX0_keptFor_51
      · have hf := it_neg hc_9 hf
        refine lv_iload_n hx hb dX0_keptFor_12 rfl (lv_at hl 2 rfl) ?_
        refine lv_bipush (v := 9) hx hb dX0_keptFor_13 (by decide) ?_
        refine lv_imul hx hb dX0_keptFor_15 ?_
        refine lv_iload hx hb dX0_keptFor_16 (lv_at hl 4 rfl) ?_
        refine lv_iadd hx hb dX0_keptFor_18 ?_
        refine lv_istore (lv' := [(5, .int ((x2 * 9) + x4)), (0, .ref a_t), (1, .int x1), (2, .int x2), (3, .int x3), (4, .int x4)]) hx hb dX0_keptFor_19 hl (by decide) rfl (fun ls hl => ?_)
        refine lv_aload_n hx hb dX0_keptFor_21 rfl (lv_at hl 1 rfl) ?_
        refine lv_iload hx hb dX0_keptFor_22 (lv_at hl 0 rfl) ?_
        obtain ⟨z24, e24, hf⟩ := bd_some hf
        refine rV_RO (As := [.int ((x2 * 9) + x4)]) (rest := []) ⟨hx, hb, hml, hown, hT⟩ (gdV tb_688 tb_689 tb_690 tb_88 tb_691) hd_X0_guestOn (c_X0_guestOn l D cI cB cZ a_t a_t_guests a_t_numbers a_t_coats a_t_line t_waiting t_arrived t_standing t_climbed t_drawn t_guests ((x2 * 9) + x4) z24 e24) ⟨rfl, rfl⟩ ⟨Nat.le_trans (by decide) hRf, Nat.le_trans (by decide) hRl⟩ ⟨hK, hN⟩ hP [0, 1] rfl 0 rfl rfl rfl hl.1 rfl (Nat.le_of_ble_eq_true rfl) ⟨Nat.zero_le _, Nat.zero_le _⟩ dX0_keptFor_24 (fun _ => ?_)
        refine lv_iconst (v := (-1)) hx hb dX0_keptFor_27 (by decide) ?_
        refine lv_icmp_ne (tgt := 44) hx hb dX0_keptFor_28 (by decide) (fun hc_28 => ?_) (fun hc_28 => ?_)
        · have hf := it_neg hc_28 hf
          refine lv_iinc (v := x4 + 1) (lv' := [(4, .int (x4 + 1)), (5, .int ((x2 * 9) + x4)), (0, .ref a_t), (1, .int x1), (2, .int x2), (3, .int x3)]) hx hb dX0_keptFor_44 hl (k := 5) rfl (congrArg (_ + ·) (by decide : Int32.ofInt 1 = 1)) (by decide) rfl (fun ls hl => ?_)
          refine lv_goto (tgt := 5) hx hb dX0_keptFor_47 (by decide) ?_
          exact ih_5 _ _ _ _ _ hf (lv_sub hl [2, 3, 4, 5, 0] rfl)
        · have hf := it_pos hc_28 hf
          refine lv_aload_n hx hb dX0_keptFor_31 rfl (lv_at hl 1 rfl) ?_
          refine lv_iload hx hb dX0_keptFor_32 (lv_at hl 0 rfl) ?_
          obtain ⟨z34, e34, hf⟩ := bd_some hf
          refine rV_RO (As := [.int ((x2 * 9) + x4)]) (rest := []) ⟨hx, hb, hml, hown, hT⟩ (gdV tb_785 tb_786 tb_787 tb_88 tb_788) hd_X0_coatOn (c_X0_coatOn l D cI cB cZ a_t a_t_coats a_t_guests a_t_numbers a_t_line t_waiting t_arrived t_standing t_climbed t_drawn t_coats ((x2 * 9) + x4) z34 e34) ⟨rfl, rfl⟩ ⟨Nat.le_trans (by decide) hRf, Nat.le_trans (by decide) hRl⟩ ⟨hK, hN⟩ hP [0, 2] rfl 0 rfl rfl rfl hl.1 rfl (Nat.le_of_ble_eq_true rfl) ⟨Nat.zero_le _, Nat.zero_le _⟩ dX0_keptFor_34 (fun _ => ?_)
          refine lv_iload_n hx hb dX0_keptFor_37 rfl (lv_at hl 2 rfl) ?_
          refine lv_icmp_ne (tgt := 44) hx hb dX0_keptFor_38 (by decide) (fun hc_38 => ?_) (fun hc_38 => ?_)
          · have hf := it_neg hc_38 hf
            refine lv_iinc (v := x4 + 1) (lv' := [(4, .int (x4 + 1)), (5, .int ((x2 * 9) + x4)), (0, .ref a_t), (1, .int x1), (2, .int x2), (3, .int x3)]) hx hb dX0_keptFor_44 hl (k := 5) rfl (congrArg (_ + ·) (by decide : Int32.ofInt 1 = 1)) (by decide) rfl (fun ls hl => ?_)
            refine lv_goto (tgt := 5) hx hb dX0_keptFor_47 (by decide) ?_
            exact ih_5 _ _ _ _ _ hf (lv_sub hl [2, 3, 4, 5, 0] rfl)
          · have hf := it_pos hc_38 hf
            refine lv_iinc (v := x3 + 1) (lv' := [(3, .int (x3 + 1)), (5, .int ((x2 * 9) + x4)), (0, .ref a_t), (1, .int x1), (2, .int x2), (4, .int x4)]) hx hb dX0_keptFor_41 hl (k := 4) rfl (congrArg (_ + ·) (by decide : Int32.ofInt 1 = 1)) (by decide) rfl (fun ls hl => ?_)
            refine lv_iinc (v := x4 + 1) (lv' := [(4, .int (x4 + 1)), (3, .int (x3 + 1)), (5, .int ((x2 * 9) + x4)), (0, .ref a_t), (1, .int x1), (2, .int x2)]) hx hb dX0_keptFor_44 hl (k := 5) rfl (congrArg (_ + ·) (by decide : Int32.ofInt 1 = 1)) (by decide) rfl (fun ls hl => ?_)
            refine lv_goto (tgt := 5) hx hb dX0_keptFor_47 (by decide) ?_
            exact ih_5 _ _ _ _ _ hf (lv_sub hl [3, 4, 5, 1, 0] rfl)
  refine lv_istore (lv' := [(4, .int 0), (3, .int 0), (0, .ref a_t), (1, .int x1), (2, .int x2)]) hx hb dX0_keptFor_3 hl (by decide) rfl (fun ls hl => ?_)
  exact J_5 _ _ _ _ _ _ hf (lv_sub hl [2, 3, 4, 1, 0] rfl)
theorem hd_X0_keptFor : (yX0_keptFor).cls = RX0 ∧ (yX0_keptFor).cls ≠ "java/lang/invoke/MethodHandle" ∧ (yX0_keptFor).cls ≠ "java/lang/invoke/VarHandle" ∧ (parseMethodDescriptor (yX0_keptFor).desc).map (fun d => d.parameters.length) = some 2 := by decide +kernel
theorem c_X0_keptFor (l : Launch) (D : va_G) (cI cB cZ : ClassId) (a_t : Nat) (a_t_guests : Nat) (a_t_coats : Nat) (a_t_numbers : Nat) (a_t_line : Nat) (t_waiting : Int32) (t_arrived : Int32) (t_standing : Int32) (t_climbed : Int32) (t_drawn : Int32) (t_guests : (Nat → Int32)) (t_coats : (Nat → Int32)) (x1 : Int32) (x2 : Int32) (res : Int32) (hf : f_X0_keptFor t_guests t_coats x1 x2 = some res) : Met l yX0_keptFor (.code yX0_keptFor cX0_keptFor 6 (some .int) :: TB) (rmk (1) (21)) (pRO [.ref a_t, .int x1, .int x2] D cI cB cZ (w_X0_keptFor cI cB cZ a_t a_t_guests a_t_coats a_t_numbers a_t_line t_waiting t_arrived t_standing t_climbed t_drawn t_guests t_coats)) (qRO (some (.int res)) True) 0 0 (fun _ => False) :=
  mkRO (by decide +kernel) (Nat.le_of_ble_eq_true rfl) (fun p e s m below meth c ls S hr hlk hK hP hl => b_X0_keptFor S.1 S.2.1 S.2.2.1 S.2.2.2.1 S.2.2.2.2 (Nat.le_refl _) (Nat.le_refl _) hK.1 hK.2 a_t a_t_guests a_t_coats a_t_numbers a_t_line t_waiting t_arrived t_standing t_climbed t_drawn t_guests t_coats x1 x2 res hf hP (fun pc ls hE hd => eRO_i S.1 S.2.1 hr rfl hlk hE hd) ls hl)
def f_X0_sitDown (t_arrived : Int32) (t_climbed : Int32) (t_guests : (Nat → Int32)) (t_numbers : (Nat → Int32)) (x1 : Int32) (x2 : Int32) : Option (Int32 × (Nat → Int32) × (Nat → Int32)) := (f_X11_isSeat x1).bind (fun z1 => (if z1 = 0 then some (t_climbed, t_guests, t_numbers) else (f_X0_sittingAisleward t_guests x1).bind (fun z14 => ix 144 x1 (ix 144 x1 (some (t_climbed + z14, upd t_guests x1.toNatClampNeg x2, upd t_numbers x1.toNatClampNeg t_arrived))))))
def w_X0_sitDown (cI cB cZ : ClassId) (a_t : Nat) (a_t_guests : Nat) (a_t_numbers : Nat) (a_t_coats : Nat) (a_t_line : Nat) (t_waiting : Int32) (t_arrived : Int32) (t_standing : Int32) (t_climbed : Int32) (t_drawn : Int32) (t_guests : (Nat → Int32)) (t_numbers : (Nat → Int32)) : va_W := [(a_t, .inr (0, [.ref a_t_guests, .ref a_t_numbers, .ref a_t_coats, .ref a_t_line, .int t_waiting, .int t_arrived, .int t_standing, .int t_climbed, .int t_drawn])), (a_t_guests, .inl (cI, 144, .inl t_guests)), (a_t_numbers, .inl (cI, 144, .inl t_numbers))]
set_option maxHeartbeats 4000000 in
set_option maxRecDepth 100000 in
theorem b_X0_sitDown {p : Program} {l : Launch} {e : Env} {R : Room} {s : State} {m : MethodId} {args : Array Value} {below : List Frame} {meth : Method} {c : Code} {Q : State → Prop} {D : va_G} {cI cB cZ : ClassId} (hx : p.tables.exec = Jvm.exec) (hb : c.code = cX0_sitDown) (hml : c.maxLocals = 3) (hown : s.vm.findClass RX0 = some m.cls) (hT : ∀ w ∈ TB, w.before args s = true) (hRf : (3) ≤ R.frames) (hRl : (85) ≤ R.locals) (hK : va_K D vwCl (tyL cI cB cZ) s) (hN : NW s) {A : Nat → Prop} (hA : ∀ q : Nat, s.heap.size ≤ q → A q) (H : Heap) (locs : List Loc)  (a_t : Nat) (a_t_guests : Nat) (a_t_numbers : Nat) (a_t_coats : Nat) (a_t_line : Nat) (t_waiting : Int32) (t_arrived : Int32) (t_standing : Int32) (t_climbed : Int32) (t_drawn : Int32) (t_guests : (Nat → Int32)) (t_numbers : (Nat → Int32)) (x1 : Int32) (x2 : Int32) (res : Int32 × (Nat → Int32) × (Nat → Int32)) (hf : f_X0_sitDown t_arrived t_climbed t_guests t_numbers x1 x2 = some res) (hP : va_P D vwCl (w_X0_sitDown cI cB cZ a_t a_t_guests a_t_numbers a_t_coats a_t_line t_waiting t_arrived t_standing t_climbed t_drawn t_guests t_numbers) H) (hD : va_D A (w_X0_sitDown cI cB cZ a_t a_t_guests a_t_numbers a_t_coats a_t_line t_waiting t_arrived t_standing t_climbed t_drawn t_guests t_numbers)) (hS : va_S A s.heap H locs) (hQ : ∀ (H : Heap) (locs : List Loc) (pc : Nat) (ls : Array Slot), va_P D vwCl (w_X0_sitDown cI cB cZ a_t a_t_guests a_t_numbers a_t_coats a_t_line t_waiting t_arrived t_standing res.1 t_drawn res.2.1 res.2.2) H → va_D A (w_X0_sitDown cI cB cZ a_t a_t_guests a_t_numbers a_t_coats a_t_line t_waiting t_arrived t_standing res.1 t_drawn res.2.1 res.2.2) → va_S A s.heap H locs → True → decode cX0_sitDown pc = .ok (.return_, 1) → W p l e R s m args below meth c H locs 0 0 Q (F0 m pc ls [])) (ls : Array Slot) (hl : lv_has ls 3 [(0, .ref a_t), (1, .int x1), (2, .int x2)]) : W p l e R s m args below meth c H locs 0 0 Q (F0 m 0 ls []) := by
  unfold f_X0_sitDown at hf
  refine lv_iload_n hx hb dX0_sitDown_0 rfl (lv_at hl 1 rfl) ?_
  obtain ⟨z1, e1, hf⟩ := bd_some hf
  refine rSN_RO (As := [.int x1]) (rest := []) ⟨hx, hb, hml, hown, hT⟩ (hN _ (List.mem_of_getElem? (i := 1) rfl)) tb_390 tb_85 tb_391 hd_X11_isSeat (c_X11_isSeat l D cI cB cZ x1 z1 e1) ⟨rfl, rfl⟩ ⟨Nat.le_trans (by decide) hRf, Nat.le_trans (by decide) hRl⟩ ⟨hK, hN⟩ hP [] rfl rfl hl.1 rfl (Nat.le_of_ble_eq_true rfl) ⟨Nat.zero_le _, Nat.zero_le _⟩ dX0_sitDown_1 (fun hz_1 => ?_)
  refine lv_if_eq (tgt := 38) hx hb dX0_sitDown_4 (by decide) (fun hc_4 => ?_) (fun hc_4 => ?_)
  · have hf := it_pos hc_4 hf
    obtain rfl := Option.some.inj hf
    exact hQ H locs 38 ls hP hD hS trivial dX0_sitDown_38
  · have hf := it_neg hc_4 hf
    refine lv_aload_n hx hb dX0_sitDown_7 rfl (lv_at hl 0 rfl) ?_
    refine lv_dup hx hb dX0_sitDown_8 rfl ?_
    refine va_get (D := D) (ci := 0) (v := .int t_climbed) (C := RX0) (T := TX0) (N := 9) hx hb hT inX0 hown hK hP 0 rfl rfl 7 (by decide) (hT _ tb_192) (fun _ h9 => h9) rfl dX0_sitDown_9 ?_
    refine lv_aload_n hx hb dX0_sitDown_12 rfl (lv_at hl 0 rfl) ?_
    refine lv_iload_n hx hb dX0_sitDown_13 rfl (lv_at hl 1 rfl) ?_
    obtain ⟨z14, e14, hf⟩ := bd_some hf
    refine rV_RO (As := [.int x1]) (rest := [.int t_climbed, .ref a_t]) ⟨hx, hb, hml, hown, hT⟩ (gdV tb_826 tb_827 tb_828 tb_88 tb_829) hd_X0_sittingAisleward (c_X0_sittingAisleward l D cI cB cZ a_t a_t_guests a_t_numbers a_t_coats a_t_line t_waiting t_arrived t_standing t_climbed t_drawn t_guests x1 z14 e14) ⟨rfl, rfl⟩ ⟨Nat.le_trans (by decide) hRf, Nat.le_trans (by decide) hRl⟩ ⟨hK, hN⟩ hP [0, 1] rfl 0 rfl rfl rfl hl.1 rfl (Nat.le_of_ble_eq_true rfl) ⟨Nat.zero_le _, Nat.zero_le _⟩ dX0_sitDown_14 (fun _ => ?_)
    refine lv_iadd hx hb dX0_sitDown_17 ?_
    refine va_put (D := D) (ci := 0) (v := .int (t_climbed + z14)) (ty := (.int)) (C := RX0) (T := TX0) (N := 9) hx hb hT inX0 tyX0 tyX0_ok nmX0 hown hK hP hD hS 0 rfl rfl 7 (by decide) (hT _ tb_192) (fun _ h9 => h9) rfl (by decide +kernel) rfl rfl (Nat.le_of_ble_eq_true rfl) dX0_sitDown_18 (fun H locs hP hD hS => ?_)
    have hP : va_P D vwCl (w_X0_sitDown cI cB cZ a_t a_t_guests a_t_numbers a_t_coats a_t_line t_waiting t_arrived t_standing (t_climbed + z14) t_drawn t_guests t_numbers) H := hP
    have hD : va_D A (w_X0_sitDown cI cB cZ a_t a_t_guests a_t_numbers a_t_coats a_t_line t_waiting t_arrived t_standing (t_climbed + z14) t_drawn t_guests t_numbers) := hD
    refine lv_aload_n hx hb dX0_sitDown_21 rfl (lv_at hl 0 rfl) ?_
    refine va_get (D := D) (ci := 0) (v := .ref a_t_guests) (C := RX0) (T := TX0) (N := 9) hx hb hT inX0 hown hK hP 0 rfl rfl 0 (by decide) (hT _ tb_169) (fun _ h9 => h9) rfl dX0_sitDown_22 ?_
    refine lv_iload_n hx hb dX0_sitDown_25 rfl (lv_at hl 1 rfl) ?_
    refine lv_iload_n hx hb dX0_sitDown_26 rfl (lv_at hl 2 rfl) ?_
    obtain ⟨hi_27, hf⟩ := ix_some hf
    refine va_iast hx hb hK hP hD hS 1 0 rfl rfl hi_27 dX0_sitDown_27 (fun H locs hP hD hS => ?_)
    have hP : va_P D vwCl (w_X0_sitDown cI cB cZ a_t a_t_guests a_t_numbers a_t_coats a_t_line t_waiting t_arrived t_standing (t_climbed + z14) t_drawn (upd t_guests x1.toNatClampNeg x2) t_numbers) H := hP
    have hD : va_D A (w_X0_sitDown cI cB cZ a_t a_t_guests a_t_numbers a_t_coats a_t_line t_waiting t_arrived t_standing (t_climbed + z14) t_drawn (upd t_guests x1.toNatClampNeg x2) t_numbers) := hD
    refine lv_aload_n hx hb dX0_sitDown_28 rfl (lv_at hl 0 rfl) ?_
    refine va_get (D := D) (ci := 0) (v := .ref a_t_numbers) (C := RX0) (T := TX0) (N := 9) hx hb hT inX0 hown hK hP 0 rfl rfl 1 (by decide) (hT _ tb_171) (fun _ h9 => h9) rfl dX0_sitDown_29 ?_
    refine lv_iload_n hx hb dX0_sitDown_32 rfl (lv_at hl 1 rfl) ?_
    refine lv_aload_n hx hb dX0_sitDown_33 rfl (lv_at hl 0 rfl) ?_
    refine va_get (D := D) (ci := 0) (v := .int t_arrived) (C := RX0) (T := TX0) (N := 9) hx hb hT inX0 hown hK hP 0 rfl rfl 5 (by decide) (hT _ tb_186) (fun _ h9 => h9) rfl dX0_sitDown_34 ?_
    obtain ⟨hi_37, hf⟩ := ix_some hf
    refine va_iast hx hb hK hP hD hS 2 0 rfl rfl hi_37 dX0_sitDown_37 (fun H locs hP hD hS => ?_)
    have hP : va_P D vwCl (w_X0_sitDown cI cB cZ a_t a_t_guests a_t_numbers a_t_coats a_t_line t_waiting t_arrived t_standing (t_climbed + z14) t_drawn (upd t_guests x1.toNatClampNeg x2) (upd t_numbers x1.toNatClampNeg t_arrived)) H := hP
    have hD : va_D A (w_X0_sitDown cI cB cZ a_t a_t_guests a_t_numbers a_t_coats a_t_line t_waiting t_arrived t_standing (t_climbed + z14) t_drawn (upd t_guests x1.toNatClampNeg x2) (upd t_numbers x1.toNatClampNeg t_arrived)) := hD
    obtain rfl := Option.some.inj hf
    exact hQ H locs 38 ls hP hD hS trivial dX0_sitDown_38
theorem hd_X0_sitDown : (yX0_sitDown).cls = RX0 ∧ (yX0_sitDown).cls ≠ "java/lang/invoke/MethodHandle" ∧ (yX0_sitDown).cls ≠ "java/lang/invoke/VarHandle" ∧ (parseMethodDescriptor (yX0_sitDown).desc).map (fun d => d.parameters.length) = some 2 := by decide +kernel
theorem c_X0_sitDown (l : Launch) (D : va_G) (cI cB cZ : ClassId) (a_t : Nat) (a_t_guests : Nat) (a_t_numbers : Nat) (a_t_coats : Nat) (a_t_line : Nat) (t_waiting : Int32) (t_arrived : Int32) (t_standing : Int32) (t_climbed : Int32) (t_drawn : Int32) (t_guests : (Nat → Int32)) (t_numbers : (Nat → Int32)) (x1 : Int32) (x2 : Int32) (sz : Nat) (res : Int32 × (Nat → Int32) × (Nat → Int32)) (hf : f_X0_sitDown t_arrived t_climbed t_guests t_numbers x1 x2 = some res) : Met l yX0_sitDown (.code yX0_sitDown cX0_sitDown 3 none :: TB) (rmk (3) (85)) (pRW [.ref a_t, .int x1, .int x2] D cI cB cZ (w_X0_sitDown cI cB cZ a_t a_t_guests a_t_numbers a_t_coats a_t_line t_waiting t_arrived t_standing t_climbed t_drawn t_guests t_numbers) sz) (qRW none True D (w_X0_sitDown cI cB cZ a_t a_t_guests a_t_numbers a_t_coats a_t_line t_waiting t_arrived t_standing t_climbed t_drawn t_guests t_numbers) sz (w_X0_sitDown cI cB cZ a_t a_t_guests a_t_numbers a_t_coats a_t_line t_waiting t_arrived t_standing res.1 t_drawn res.2.1 res.2.2)) 0 0 (va_A (w_X0_sitDown cI cB cZ a_t a_t_guests a_t_numbers a_t_coats a_t_line t_waiting t_arrived t_standing t_climbed t_drawn t_guests t_numbers) sz) :=
  mkRW (by decide +kernel) (Nat.le_of_ble_eq_true rfl) (fun p e s m below meth c ls A hAe S hr hlk hK hA hP hD hS hl => b_X0_sitDown S.1 S.2.1 S.2.2.1 S.2.2.2.1 S.2.2.2.2 (Nat.le_refl _) (Nat.le_refl _) hK.1 hK.2 hA s.heap [] a_t a_t_guests a_t_numbers a_t_coats a_t_line t_waiting t_arrived t_standing t_climbed t_drawn t_guests t_numbers x1 x2 res hf hP hD hS (fun H locs pc ls hP hD hS hE hd => eRW_v S.1 S.2.1 hr hlk hAe hP hD hS hE hd) ls hl)
def f_X0_exchange (t_guests : (Nat → Int32)) (t_numbers : (Nat → Int32)) (x1 : Int32) (x2 : Int32) : Option ((Nat → Int32) × (Nat → Int32)) := (f_X11_isSeat x1).bind (fun z1 => (if z1 = 0 then some (t_guests, t_numbers) else (f_X11_isSeat x2).bind (fun z8 => (if z8 = 0 then some (t_guests, t_numbers) else ix 144 x1 (ix 144 x1 (ix 144 x2 (ix 144 x1 (ix 144 x2 (ix 144 x1 (ix 144 x2 (ix 144 x2 (some (upd (upd t_guests x1.toNatClampNeg (t_guests x2.toNatClampNeg)) x2.toNatClampNeg (t_guests x1.toNatClampNeg), upd (upd t_numbers x1.toNatClampNeg (t_numbers x2.toNatClampNeg)) x2.toNatClampNeg (t_numbers x1.toNatClampNeg))))))))))))))
def w_X0_exchange (cI cB cZ : ClassId) (a_t : Nat) (a_t_guests : Nat) (a_t_numbers : Nat) (a_t_coats : Nat) (a_t_line : Nat) (t_waiting : Int32) (t_arrived : Int32) (t_standing : Int32) (t_climbed : Int32) (t_drawn : Int32) (t_guests : (Nat → Int32)) (t_numbers : (Nat → Int32)) : va_W := [(a_t, .inr (0, [.ref a_t_guests, .ref a_t_numbers, .ref a_t_coats, .ref a_t_line, .int t_waiting, .int t_arrived, .int t_standing, .int t_climbed, .int t_drawn])), (a_t_guests, .inl (cI, 144, .inl t_guests)), (a_t_numbers, .inl (cI, 144, .inl t_numbers))]
set_option maxHeartbeats 4000000 in
set_option maxRecDepth 100000 in
theorem b_X0_exchange {p : Program} {l : Launch} {e : Env} {R : Room} {s : State} {m : MethodId} {args : Array Value} {below : List Frame} {meth : Method} {c : Code} {Q : State → Prop} {D : va_G} {cI cB cZ : ClassId} (hx : p.tables.exec = Jvm.exec) (hb : c.code = cX0_exchange) (hml : c.maxLocals = 5) (hown : s.vm.findClass RX0 = some m.cls) (hT : ∀ w ∈ TB, w.before args s = true) (hRf : (2) ≤ R.frames) (hRl : (42) ≤ R.locals) (hK : va_K D vwCl (tyL cI cB cZ) s) (hN : NW s) {A : Nat → Prop} (hA : ∀ q : Nat, s.heap.size ≤ q → A q) (H : Heap) (locs : List Loc)  (a_t : Nat) (a_t_guests : Nat) (a_t_numbers : Nat) (a_t_coats : Nat) (a_t_line : Nat) (t_waiting : Int32) (t_arrived : Int32) (t_standing : Int32) (t_climbed : Int32) (t_drawn : Int32) (t_guests : (Nat → Int32)) (t_numbers : (Nat → Int32)) (x1 : Int32) (x2 : Int32) (res : (Nat → Int32) × (Nat → Int32)) (hf : f_X0_exchange t_guests t_numbers x1 x2 = some res) (hP : va_P D vwCl (w_X0_exchange cI cB cZ a_t a_t_guests a_t_numbers a_t_coats a_t_line t_waiting t_arrived t_standing t_climbed t_drawn t_guests t_numbers) H) (hD : va_D A (w_X0_exchange cI cB cZ a_t a_t_guests a_t_numbers a_t_coats a_t_line t_waiting t_arrived t_standing t_climbed t_drawn t_guests t_numbers)) (hS : va_S A s.heap H locs) (hQ : ∀ (H : Heap) (locs : List Loc) (pc : Nat) (ls : Array Slot), va_P D vwCl (w_X0_exchange cI cB cZ a_t a_t_guests a_t_numbers a_t_coats a_t_line t_waiting t_arrived t_standing t_climbed t_drawn res.1 res.2) H → va_D A (w_X0_exchange cI cB cZ a_t a_t_guests a_t_numbers a_t_coats a_t_line t_waiting t_arrived t_standing t_climbed t_drawn res.1 res.2) → va_S A s.heap H locs → True → decode cX0_exchange pc = .ok (.return_, 1) → W p l e R s m args below meth c H locs 0 0 Q (F0 m pc ls [])) (ls : Array Slot) (hl : lv_has ls 5 [(0, .ref a_t), (1, .int x1), (2, .int x2)]) : W p l e R s m args below meth c H locs 0 0 Q (F0 m 0 ls []) := by
  unfold f_X0_exchange at hf
  refine lv_iload_n hx hb dX0_exchange_0 rfl (lv_at hl 1 rfl) ?_
  obtain ⟨z1, e1, hf⟩ := bd_some hf
  refine rSN_RO (As := [.int x1]) (rest := []) ⟨hx, hb, hml, hown, hT⟩ (hN _ (List.mem_of_getElem? (i := 1) rfl)) tb_390 tb_85 tb_391 hd_X11_isSeat (c_X11_isSeat l D cI cB cZ x1 z1 e1) ⟨rfl, rfl⟩ ⟨Nat.le_trans (by decide) hRf, Nat.le_trans (by decide) hRl⟩ ⟨hK, hN⟩ hP [] rfl rfl hl.1 rfl (Nat.le_of_ble_eq_true rfl) ⟨Nat.zero_le _, Nat.zero_le _⟩ dX0_exchange_1 (fun hz_1 => ?_)
  refine lv_if_eq (tgt := 68) hx hb dX0_exchange_4 (by decide) (fun hc_4 => ?_) (fun hc_4 => ?_)
  · have hf := it_pos hc_4 hf
    obtain rfl := Option.some.inj hf
    exact hQ H locs 68 ls hP hD hS trivial dX0_exchange_68
  · have hf := it_neg hc_4 hf
    refine lv_iload_n hx hb dX0_exchange_7 rfl (lv_at hl 2 rfl) ?_
    obtain ⟨z8, e8, hf⟩ := bd_some hf
    refine rSN_RO (As := [.int x2]) (rest := []) ⟨hx, hb, hml, hown, hT⟩ (hN _ (List.mem_of_getElem? (i := 1) rfl)) tb_390 tb_85 tb_391 hd_X11_isSeat (c_X11_isSeat l D cI cB cZ x2 z8 e8) ⟨rfl, rfl⟩ ⟨Nat.le_trans (by decide) hRf, Nat.le_trans (by decide) hRl⟩ ⟨hK, hN⟩ hP [] rfl rfl hl.1 rfl (Nat.le_of_ble_eq_true rfl) ⟨Nat.zero_le _, Nat.zero_le _⟩ dX0_exchange_8 (fun hz_8 => ?_)
    refine lv_if_eq (tgt := 68) hx hb dX0_exchange_11 (by decide) (fun hc_11 => ?_) (fun hc_11 => ?_)
    · have hf := it_pos hc_11 hf
      obtain rfl := Option.some.inj hf
      exact hQ H locs 68 ls hP hD hS trivial dX0_exchange_68
    · have hf := it_neg hc_11 hf
      refine lv_aload_n hx hb dX0_exchange_14 rfl (lv_at hl 0 rfl) ?_
      refine va_get (D := D) (ci := 0) (v := .ref a_t_guests) (C := RX0) (T := TX0) (N := 9) hx hb hT inX0 hown hK hP 0 rfl rfl 0 (by decide) (hT _ tb_169) (fun _ h9 => h9) rfl dX0_exchange_15 ?_
      refine lv_iload_n hx hb dX0_exchange_18 rfl (lv_at hl 1 rfl) ?_
      obtain ⟨hi_19, hf⟩ := ix_some hf
      refine va_iald hx hb hK hP 1 0 rfl rfl hi_19 dX0_exchange_19 ?_
      refine lv_istore_n (lv' := [(3, .int (t_guests x1.toNatClampNeg)), (0, .ref a_t), (1, .int x1), (2, .int x2)]) hx hb dX0_exchange_20 rfl hl (by decide) rfl (fun ls hl => ?_)
      refine lv_aload_n hx hb dX0_exchange_21 rfl (lv_at hl 1 rfl) ?_
      refine va_get (D := D) (ci := 0) (v := .ref a_t_numbers) (C := RX0) (T := TX0) (N := 9) hx hb hT inX0 hown hK hP 0 rfl rfl 1 (by decide) (hT _ tb_171) (fun _ h9 => h9) rfl dX0_exchange_22 ?_
      refine lv_iload_n hx hb dX0_exchange_25 rfl (lv_at hl 2 rfl) ?_
      obtain ⟨hi_26, hf⟩ := ix_some hf
      refine va_iald hx hb hK hP 2 0 rfl rfl hi_26 dX0_exchange_26 ?_
      refine lv_istore (lv' := [(4, .int (t_numbers x1.toNatClampNeg)), (3, .int (t_guests x1.toNatClampNeg)), (0, .ref a_t), (1, .int x1), (2, .int x2)]) hx hb dX0_exchange_27 hl (by decide) rfl (fun ls hl => ?_)
      refine lv_aload_n hx hb dX0_exchange_29 rfl (lv_at hl 2 rfl) ?_
      refine va_get (D := D) (ci := 0) (v := .ref a_t_guests) (C := RX0) (T := TX0) (N := 9) hx hb hT inX0 hown hK hP 0 rfl rfl 0 (by decide) (hT _ tb_169) (fun _ h9 => h9) rfl dX0_exchange_30 ?_
      refine lv_iload_n hx hb dX0_exchange_33 rfl (lv_at hl 3 rfl) ?_
      refine lv_aload_n hx hb dX0_exchange_34 rfl (lv_at hl 2 rfl) ?_
      refine va_get (D := D) (ci := 0) (v := .ref a_t_guests) (C := RX0) (T := TX0) (N := 9) hx hb hT inX0 hown hK hP 0 rfl rfl 0 (by decide) (hT _ tb_169) (fun _ h9 => h9) rfl dX0_exchange_35 ?_
      refine lv_iload_n hx hb dX0_exchange_38 rfl (lv_at hl 4 rfl) ?_
      obtain ⟨hi_39, hf⟩ := ix_some hf
      refine va_iald hx hb hK hP 1 0 rfl rfl hi_39 dX0_exchange_39 ?_
      obtain ⟨hi_40, hf⟩ := ix_some hf
      refine va_iast hx hb hK hP hD hS 1 0 rfl rfl hi_40 dX0_exchange_40 (fun H locs hP hD hS => ?_)
      have hP : va_P D vwCl (w_X0_exchange cI cB cZ a_t a_t_guests a_t_numbers a_t_coats a_t_line t_waiting t_arrived t_standing t_climbed t_drawn (upd t_guests x1.toNatClampNeg (t_guests x2.toNatClampNeg)) t_numbers) H := hP
      have hD : va_D A (w_X0_exchange cI cB cZ a_t a_t_guests a_t_numbers a_t_coats a_t_line t_waiting t_arrived t_standing t_climbed t_drawn (upd t_guests x1.toNatClampNeg (t_guests x2.toNatClampNeg)) t_numbers) := hD
      refine lv_aload_n hx hb dX0_exchange_41 rfl (lv_at hl 2 rfl) ?_
      refine va_get (D := D) (ci := 0) (v := .ref a_t_numbers) (C := RX0) (T := TX0) (N := 9) hx hb hT inX0 hown hK hP 0 rfl rfl 1 (by decide) (hT _ tb_171) (fun _ h9 => h9) rfl dX0_exchange_42 ?_
      refine lv_iload_n hx hb dX0_exchange_45 rfl (lv_at hl 3 rfl) ?_
      refine lv_aload_n hx hb dX0_exchange_46 rfl (lv_at hl 2 rfl) ?_
      refine va_get (D := D) (ci := 0) (v := .ref a_t_numbers) (C := RX0) (T := TX0) (N := 9) hx hb hT inX0 hown hK hP 0 rfl rfl 1 (by decide) (hT _ tb_171) (fun _ h9 => h9) rfl dX0_exchange_47 ?_
      refine lv_iload_n hx hb dX0_exchange_50 rfl (lv_at hl 4 rfl) ?_
      obtain ⟨hi_51, hf⟩ := ix_some hf
      refine va_iald hx hb hK hP 2 0 rfl rfl hi_51 dX0_exchange_51 ?_
      obtain ⟨hi_52, hf⟩ := ix_some hf
      refine va_iast hx hb hK hP hD hS 2 0 rfl rfl hi_52 dX0_exchange_52 (fun H locs hP hD hS => ?_)
      have hP : va_P D vwCl (w_X0_exchange cI cB cZ a_t a_t_guests a_t_numbers a_t_coats a_t_line t_waiting t_arrived t_standing t_climbed t_drawn (upd t_guests x1.toNatClampNeg (t_guests x2.toNatClampNeg)) (upd t_numbers x1.toNatClampNeg (t_numbers x2.toNatClampNeg))) H := hP
      have hD : va_D A (w_X0_exchange cI cB cZ a_t a_t_guests a_t_numbers a_t_coats a_t_line t_waiting t_arrived t_standing t_climbed t_drawn (upd t_guests x1.toNatClampNeg (t_guests x2.toNatClampNeg)) (upd t_numbers x1.toNatClampNeg (t_numbers x2.toNatClampNeg))) := hD
      refine lv_aload_n hx hb dX0_exchange_53 rfl (lv_at hl 2 rfl) ?_
      refine va_get (D := D) (ci := 0) (v := .ref a_t_guests) (C := RX0) (T := TX0) (N := 9) hx hb hT inX0 hown hK hP 0 rfl rfl 0 (by decide) (hT _ tb_169) (fun _ h9 => h9) rfl dX0_exchange_54 ?_
      refine lv_iload_n hx hb dX0_exchange_57 rfl (lv_at hl 4 rfl) ?_
      refine lv_iload_n hx hb dX0_exchange_58 rfl (lv_at hl 1 rfl) ?_
      obtain ⟨hi_59, hf⟩ := ix_some hf
      refine va_iast hx hb hK hP hD hS 1 0 rfl rfl hi_59 dX0_exchange_59 (fun H locs hP hD hS => ?_)
      have hP : va_P D vwCl (w_X0_exchange cI cB cZ a_t a_t_guests a_t_numbers a_t_coats a_t_line t_waiting t_arrived t_standing t_climbed t_drawn (upd (upd t_guests x1.toNatClampNeg (t_guests x2.toNatClampNeg)) x2.toNatClampNeg (t_guests x1.toNatClampNeg)) (upd t_numbers x1.toNatClampNeg (t_numbers x2.toNatClampNeg))) H := hP
      have hD : va_D A (w_X0_exchange cI cB cZ a_t a_t_guests a_t_numbers a_t_coats a_t_line t_waiting t_arrived t_standing t_climbed t_drawn (upd (upd t_guests x1.toNatClampNeg (t_guests x2.toNatClampNeg)) x2.toNatClampNeg (t_guests x1.toNatClampNeg)) (upd t_numbers x1.toNatClampNeg (t_numbers x2.toNatClampNeg))) := hD
      refine lv_aload_n hx hb dX0_exchange_60 rfl (lv_at hl 2 rfl) ?_
      refine va_get (D := D) (ci := 0) (v := .ref a_t_numbers) (C := RX0) (T := TX0) (N := 9) hx hb hT inX0 hown hK hP 0 rfl rfl 1 (by decide) (hT _ tb_171) (fun _ h9 => h9) rfl dX0_exchange_61 ?_
      refine lv_iload_n hx hb dX0_exchange_64 rfl (lv_at hl 4 rfl) ?_
      refine lv_iload hx hb dX0_exchange_65 (lv_at hl 0 rfl) ?_
      obtain ⟨hi_67, hf⟩ := ix_some hf
      refine va_iast hx hb hK hP hD hS 2 0 rfl rfl hi_67 dX0_exchange_67 (fun H locs hP hD hS => ?_)
      have hP : va_P D vwCl (w_X0_exchange cI cB cZ a_t a_t_guests a_t_numbers a_t_coats a_t_line t_waiting t_arrived t_standing t_climbed t_drawn (upd (upd t_guests x1.toNatClampNeg (t_guests x2.toNatClampNeg)) x2.toNatClampNeg (t_guests x1.toNatClampNeg)) (upd (upd t_numbers x1.toNatClampNeg (t_numbers x2.toNatClampNeg)) x2.toNatClampNeg (t_numbers x1.toNatClampNeg))) H := hP
      have hD : va_D A (w_X0_exchange cI cB cZ a_t a_t_guests a_t_numbers a_t_coats a_t_line t_waiting t_arrived t_standing t_climbed t_drawn (upd (upd t_guests x1.toNatClampNeg (t_guests x2.toNatClampNeg)) x2.toNatClampNeg (t_guests x1.toNatClampNeg)) (upd (upd t_numbers x1.toNatClampNeg (t_numbers x2.toNatClampNeg)) x2.toNatClampNeg (t_numbers x1.toNatClampNeg))) := hD
      obtain rfl := Option.some.inj hf
      exact hQ H locs 68 ls hP hD hS trivial dX0_exchange_68
theorem hd_X0_exchange : (yX0_exchange).cls = RX0 ∧ (yX0_exchange).cls ≠ "java/lang/invoke/MethodHandle" ∧ (yX0_exchange).cls ≠ "java/lang/invoke/VarHandle" ∧ (parseMethodDescriptor (yX0_exchange).desc).map (fun d => d.parameters.length) = some 2 := by decide +kernel
theorem c_X0_exchange (l : Launch) (D : va_G) (cI cB cZ : ClassId) (a_t : Nat) (a_t_guests : Nat) (a_t_numbers : Nat) (a_t_coats : Nat) (a_t_line : Nat) (t_waiting : Int32) (t_arrived : Int32) (t_standing : Int32) (t_climbed : Int32) (t_drawn : Int32) (t_guests : (Nat → Int32)) (t_numbers : (Nat → Int32)) (x1 : Int32) (x2 : Int32) (sz : Nat) (res : (Nat → Int32) × (Nat → Int32)) (hf : f_X0_exchange t_guests t_numbers x1 x2 = some res) : Met l yX0_exchange (.code yX0_exchange cX0_exchange 5 none :: TB) (rmk (2) (42)) (pRW [.ref a_t, .int x1, .int x2] D cI cB cZ (w_X0_exchange cI cB cZ a_t a_t_guests a_t_numbers a_t_coats a_t_line t_waiting t_arrived t_standing t_climbed t_drawn t_guests t_numbers) sz) (qRW none True D (w_X0_exchange cI cB cZ a_t a_t_guests a_t_numbers a_t_coats a_t_line t_waiting t_arrived t_standing t_climbed t_drawn t_guests t_numbers) sz (w_X0_exchange cI cB cZ a_t a_t_guests a_t_numbers a_t_coats a_t_line t_waiting t_arrived t_standing t_climbed t_drawn res.1 res.2)) 0 0 (va_A (w_X0_exchange cI cB cZ a_t a_t_guests a_t_numbers a_t_coats a_t_line t_waiting t_arrived t_standing t_climbed t_drawn t_guests t_numbers) sz) :=
  mkRW (by decide +kernel) (Nat.le_of_ble_eq_true rfl) (fun p e s m below meth c ls A hAe S hr hlk hK hA hP hD hS hl => b_X0_exchange S.1 S.2.1 S.2.2.1 S.2.2.2.1 S.2.2.2.2 (Nat.le_refl _) (Nat.le_refl _) hK.1 hK.2 hA s.heap [] a_t a_t_guests a_t_numbers a_t_coats a_t_line t_waiting t_arrived t_standing t_climbed t_drawn t_guests t_numbers x1 x2 res hf hP hD hS (fun H locs pc ls hP hD hS hE hd => eRW_v S.1 S.2.1 hr hlk hAe hP hD hS hE hd) ls hl)
def f_X0_sendBack (t_standing : Int32) (t_guests : (Nat → Int32)) (x1 : Int32) : Option (Int32 × (Nat → Int32)) := (f_X11_isSeat x1).bind (fun z1 => (if z1 = 0 then some (t_standing, t_guests) else ix 144 x1 (some (t_standing + 1, upd t_guests x1.toNatClampNeg (-1)))))
def w_X0_sendBack (cI cB cZ : ClassId) (a_t : Nat) (a_t_guests : Nat) (a_t_numbers : Nat) (a_t_coats : Nat) (a_t_line : Nat) (t_waiting : Int32) (t_arrived : Int32) (t_standing : Int32) (t_climbed : Int32) (t_drawn : Int32) (t_guests : (Nat → Int32)) : va_W := [(a_t, .inr (0, [.ref a_t_guests, .ref a_t_numbers, .ref a_t_coats, .ref a_t_line, .int t_waiting, .int t_arrived, .int t_standing, .int t_climbed, .int t_drawn])), (a_t_guests, .inl (cI, 144, .inl t_guests))]
set_option maxHeartbeats 4000000 in
set_option maxRecDepth 100000 in
theorem b_X0_sendBack {p : Program} {l : Launch} {e : Env} {R : Room} {s : State} {m : MethodId} {args : Array Value} {below : List Frame} {meth : Method} {c : Code} {Q : State → Prop} {D : va_G} {cI cB cZ : ClassId} (hx : p.tables.exec = Jvm.exec) (hb : c.code = cX0_sendBack) (hml : c.maxLocals = 2) (hown : s.vm.findClass RX0 = some m.cls) (hT : ∀ w ∈ TB, w.before args s = true) (hRf : (2) ≤ R.frames) (hRl : (42) ≤ R.locals) (hK : va_K D vwCl (tyL cI cB cZ) s) (hN : NW s) {A : Nat → Prop} (hA : ∀ q : Nat, s.heap.size ≤ q → A q) (H : Heap) (locs : List Loc)  (a_t : Nat) (a_t_guests : Nat) (a_t_numbers : Nat) (a_t_coats : Nat) (a_t_line : Nat) (t_waiting : Int32) (t_arrived : Int32) (t_standing : Int32) (t_climbed : Int32) (t_drawn : Int32) (t_guests : (Nat → Int32)) (x1 : Int32) (res : Int32 × (Nat → Int32)) (hf : f_X0_sendBack t_standing t_guests x1 = some res) (hP : va_P D vwCl (w_X0_sendBack cI cB cZ a_t a_t_guests a_t_numbers a_t_coats a_t_line t_waiting t_arrived t_standing t_climbed t_drawn t_guests) H) (hD : va_D A (w_X0_sendBack cI cB cZ a_t a_t_guests a_t_numbers a_t_coats a_t_line t_waiting t_arrived t_standing t_climbed t_drawn t_guests)) (hS : va_S A s.heap H locs) (hQ : ∀ (H : Heap) (locs : List Loc) (pc : Nat) (ls : Array Slot), va_P D vwCl (w_X0_sendBack cI cB cZ a_t a_t_guests a_t_numbers a_t_coats a_t_line t_waiting t_arrived res.1 t_climbed t_drawn res.2) H → va_D A (w_X0_sendBack cI cB cZ a_t a_t_guests a_t_numbers a_t_coats a_t_line t_waiting t_arrived res.1 t_climbed t_drawn res.2) → va_S A s.heap H locs → True → decode cX0_sendBack pc = .ok (.return_, 1) → W p l e R s m args below meth c H locs 0 0 Q (F0 m pc ls [])) (ls : Array Slot) (hl : lv_has ls 2 [(0, .ref a_t), (1, .int x1)]) : W p l e R s m args below meth c H locs 0 0 Q (F0 m 0 ls []) := by
  unfold f_X0_sendBack at hf
  refine lv_iload_n hx hb dX0_sendBack_0 rfl (lv_at hl 1 rfl) ?_
  obtain ⟨z1, e1, hf⟩ := bd_some hf
  refine rSN_RO (As := [.int x1]) (rest := []) ⟨hx, hb, hml, hown, hT⟩ (hN _ (List.mem_of_getElem? (i := 1) rfl)) tb_390 tb_85 tb_391 hd_X11_isSeat (c_X11_isSeat l D cI cB cZ x1 z1 e1) ⟨rfl, rfl⟩ ⟨Nat.le_trans (by decide) hRf, Nat.le_trans (by decide) hRl⟩ ⟨hK, hN⟩ hP [] rfl rfl hl.1 rfl (Nat.le_of_ble_eq_true rfl) ⟨Nat.zero_le _, Nat.zero_le _⟩ dX0_sendBack_1 (fun hz_1 => ?_)
  refine lv_if_eq (tgt := 24) hx hb dX0_sendBack_4 (by decide) (fun hc_4 => ?_) (fun hc_4 => ?_)
  · have hf := it_pos hc_4 hf
    obtain rfl := Option.some.inj hf
    exact hQ H locs 24 ls hP hD hS trivial dX0_sendBack_24
  · have hf := it_neg hc_4 hf
    refine lv_aload_n hx hb dX0_sendBack_7 rfl (lv_at hl 0 rfl) ?_
    refine va_get (D := D) (ci := 0) (v := .ref a_t_guests) (C := RX0) (T := TX0) (N := 9) hx hb hT inX0 hown hK hP 0 rfl rfl 0 (by decide) (hT _ tb_169) (fun _ h9 => h9) rfl dX0_sendBack_8 ?_
    refine lv_iload_n hx hb dX0_sendBack_11 rfl (lv_at hl 1 rfl) ?_
    refine lv_iconst (v := (-1)) hx hb dX0_sendBack_12 (by decide) ?_
    obtain ⟨hi_13, hf⟩ := ix_some hf
    refine va_iast hx hb hK hP hD hS 1 0 rfl rfl hi_13 dX0_sendBack_13 (fun H locs hP hD hS => ?_)
    have hP : va_P D vwCl (w_X0_sendBack cI cB cZ a_t a_t_guests a_t_numbers a_t_coats a_t_line t_waiting t_arrived t_standing t_climbed t_drawn (upd t_guests x1.toNatClampNeg (-1))) H := hP
    have hD : va_D A (w_X0_sendBack cI cB cZ a_t a_t_guests a_t_numbers a_t_coats a_t_line t_waiting t_arrived t_standing t_climbed t_drawn (upd t_guests x1.toNatClampNeg (-1))) := hD
    refine lv_aload_n hx hb dX0_sendBack_14 rfl (lv_at hl 0 rfl) ?_
    refine lv_dup hx hb dX0_sendBack_15 rfl ?_
    refine va_get (D := D) (ci := 0) (v := .int t_standing) (C := RX0) (T := TX0) (N := 9) hx hb hT inX0 hown hK hP 0 rfl rfl 6 (by decide) (hT _ tb_189) (fun _ h9 => h9) rfl dX0_sendBack_16 ?_
    refine lv_iconst (v := 1) hx hb dX0_sendBack_19 (by decide) ?_
    refine lv_iadd hx hb dX0_sendBack_20 ?_
    refine va_put (D := D) (ci := 0) (v := .int (t_standing + 1)) (ty := (.int)) (C := RX0) (T := TX0) (N := 9) hx hb hT inX0 tyX0 tyX0_ok nmX0 hown hK hP hD hS 0 rfl rfl 6 (by decide) (hT _ tb_189) (fun _ h9 => h9) rfl (by decide +kernel) rfl rfl (Nat.le_of_ble_eq_true rfl) dX0_sendBack_21 (fun H locs hP hD hS => ?_)
    have hP : va_P D vwCl (w_X0_sendBack cI cB cZ a_t a_t_guests a_t_numbers a_t_coats a_t_line t_waiting t_arrived (t_standing + 1) t_climbed t_drawn (upd t_guests x1.toNatClampNeg (-1))) H := hP
    have hD : va_D A (w_X0_sendBack cI cB cZ a_t a_t_guests a_t_numbers a_t_coats a_t_line t_waiting t_arrived (t_standing + 1) t_climbed t_drawn (upd t_guests x1.toNatClampNeg (-1))) := hD
    obtain rfl := Option.some.inj hf
    exact hQ H locs 24 ls hP hD hS trivial dX0_sendBack_24
theorem hd_X0_sendBack : (yX0_sendBack).cls = RX0 ∧ (yX0_sendBack).cls ≠ "java/lang/invoke/MethodHandle" ∧ (yX0_sendBack).cls ≠ "java/lang/invoke/VarHandle" ∧ (parseMethodDescriptor (yX0_sendBack).desc).map (fun d => d.parameters.length) = some 1 := by decide +kernel
theorem c_X0_sendBack (l : Launch) (D : va_G) (cI cB cZ : ClassId) (a_t : Nat) (a_t_guests : Nat) (a_t_numbers : Nat) (a_t_coats : Nat) (a_t_line : Nat) (t_waiting : Int32) (t_arrived : Int32) (t_standing : Int32) (t_climbed : Int32) (t_drawn : Int32) (t_guests : (Nat → Int32)) (x1 : Int32) (sz : Nat) (res : Int32 × (Nat → Int32)) (hf : f_X0_sendBack t_standing t_guests x1 = some res) : Met l yX0_sendBack (.code yX0_sendBack cX0_sendBack 2 none :: TB) (rmk (2) (42)) (pRW [.ref a_t, .int x1] D cI cB cZ (w_X0_sendBack cI cB cZ a_t a_t_guests a_t_numbers a_t_coats a_t_line t_waiting t_arrived t_standing t_climbed t_drawn t_guests) sz) (qRW none True D (w_X0_sendBack cI cB cZ a_t a_t_guests a_t_numbers a_t_coats a_t_line t_waiting t_arrived t_standing t_climbed t_drawn t_guests) sz (w_X0_sendBack cI cB cZ a_t a_t_guests a_t_numbers a_t_coats a_t_line t_waiting t_arrived res.1 t_climbed t_drawn res.2)) 0 0 (va_A (w_X0_sendBack cI cB cZ a_t a_t_guests a_t_numbers a_t_coats a_t_line t_waiting t_arrived t_standing t_climbed t_drawn t_guests) sz) :=
  mkRW (by decide +kernel) (Nat.le_of_ble_eq_true rfl) (fun p e s m below meth c ls A hAe S hr hlk hK hA hP hD hS hl => b_X0_sendBack S.1 S.2.1 S.2.2.1 S.2.2.2.1 S.2.2.2.2 (Nat.le_refl _) (Nat.le_refl _) hK.1 hK.2 hA s.heap [] a_t a_t_guests a_t_numbers a_t_coats a_t_line t_waiting t_arrived t_standing t_climbed t_drawn t_guests x1 res hf hP hD hS (fun H locs pc ls hP hD hS hE hd => eRW_v S.1 S.2.1 hr hlk hAe hP hD hS hE hd) ls hl)
def f_X0_leaveLine (t_waiting : Int32) (t_line : (Nat → Int32)) (x1 : Int32) : Option (Int32 × (Nat → Int32)) := (if x1 ≤ 0 then some (t_waiting, t_line) else (if t_waiting < x1 then some (t_waiting, t_line) else (if 200 < t_waiting then some (t_waiting, t_line) else cpk 200 200 x1 0 (t_waiting - x1) (some (t_waiting - x1, va_cpy t_line t_line x1.toNatClampNeg (0 : Int32).toNatClampNeg (t_waiting - x1).toNatClampNeg)))))
def w_X0_leaveLine (cI cB cZ : ClassId) (a_t : Nat) (a_t_line : Nat) (a_t_guests : Nat) (a_t_numbers : Nat) (a_t_coats : Nat) (t_waiting : Int32) (t_arrived : Int32) (t_standing : Int32) (t_climbed : Int32) (t_drawn : Int32) (t_line : (Nat → Int32)) : va_W := [(a_t, .inr (0, [.ref a_t_guests, .ref a_t_numbers, .ref a_t_coats, .ref a_t_line, .int t_waiting, .int t_arrived, .int t_standing, .int t_climbed, .int t_drawn])), (a_t_line, .inl (cI, 200, .inl t_line))]
set_option maxHeartbeats 4000000 in
set_option maxRecDepth 100000 in
theorem b_X0_leaveLine {p : Program} {l : Launch} {e : Env} {R : Room} {s : State} {m : MethodId} {args : Array Value} {below : List Frame} {meth : Method} {c : Code} {Q : State → Prop} {D : va_G} {cI cB cZ : ClassId} (hx : p.tables.exec = Jvm.exec) (hb : c.code = cX0_leaveLine) (hml : c.maxLocals = 2) (hown : s.vm.findClass RX0 = some m.cls) (hT : ∀ w ∈ TB, w.before args s = true) (hRf : (1) ≤ R.frames) (hRl : (40) ≤ R.locals) (hK : va_K D vwCl (tyL cI cB cZ) s) (hN : NW s) {A : Nat → Prop} (hA : ∀ q : Nat, s.heap.size ≤ q → A q) (H : Heap) (locs : List Loc)  (a_t : Nat) (a_t_line : Nat) (a_t_guests : Nat) (a_t_numbers : Nat) (a_t_coats : Nat) (t_waiting : Int32) (t_arrived : Int32) (t_standing : Int32) (t_climbed : Int32) (t_drawn : Int32) (t_line : (Nat → Int32)) (x1 : Int32) (res : Int32 × (Nat → Int32)) (hf : f_X0_leaveLine t_waiting t_line x1 = some res) (hP : va_P D vwCl (w_X0_leaveLine cI cB cZ a_t a_t_line a_t_guests a_t_numbers a_t_coats t_waiting t_arrived t_standing t_climbed t_drawn t_line) H) (hD : va_D A (w_X0_leaveLine cI cB cZ a_t a_t_line a_t_guests a_t_numbers a_t_coats t_waiting t_arrived t_standing t_climbed t_drawn t_line)) (hS : va_S A s.heap H locs) (hQ : ∀ (H : Heap) (locs : List Loc) (pc : Nat) (ls : Array Slot), va_P D vwCl (w_X0_leaveLine cI cB cZ a_t a_t_line a_t_guests a_t_numbers a_t_coats res.1 t_arrived t_standing t_climbed t_drawn res.2) H → va_D A (w_X0_leaveLine cI cB cZ a_t a_t_line a_t_guests a_t_numbers a_t_coats res.1 t_arrived t_standing t_climbed t_drawn res.2) → va_S A s.heap H locs → True → decode cX0_leaveLine pc = .ok (.return_, 1) → W p l e R s m args below meth c H locs 0 0 Q (F0 m pc ls [])) (ls : Array Slot) (hl : lv_has ls 2 [(0, .ref a_t), (1, .int x1)]) : W p l e R s m args below meth c H locs 0 0 Q (F0 m 0 ls []) := by
  unfold f_X0_leaveLine at hf
  refine lv_iload_n hx hb dX0_leaveLine_0 rfl (lv_at hl 1 rfl) ?_
  refine lv_if_le (tgt := 49) hx hb dX0_leaveLine_1 (by decide) (fun hc_1 => ?_) (fun hc_1 => ?_)
  · have hf := it_pos hc_1 hf
    obtain rfl := Option.some.inj hf
    exact hQ H locs 49 ls hP hD hS trivial dX0_leaveLine_49
  · have hf := it_neg hc_1 hf
    refine lv_iload_n hx hb dX0_leaveLine_4 rfl (lv_at hl 1 rfl) ?_
    refine lv_aload_n hx hb dX0_leaveLine_5 rfl (lv_at hl 0 rfl) ?_
    refine va_get (D := D) (ci := 0) (v := .int t_waiting) (C := RX0) (T := TX0) (N := 9) hx hb hT inX0 hown hK hP 0 rfl rfl 4 (by decide) (hT _ tb_181) (fun _ h9 => h9) rfl dX0_leaveLine_6 ?_
    refine lv_icmp_gt (tgt := 49) hx hb dX0_leaveLine_9 (by decide) (fun hc_9 => ?_) (fun hc_9 => ?_)
    · have hf := it_pos hc_9 hf
      obtain rfl := Option.some.inj hf
      exact hQ H locs 49 ls hP hD hS trivial dX0_leaveLine_49
    · have hf := it_neg hc_9 hf
      refine lv_aload_n hx hb dX0_leaveLine_12 rfl (lv_at hl 0 rfl) ?_
      refine va_get (D := D) (ci := 0) (v := .int t_waiting) (C := RX0) (T := TX0) (N := 9) hx hb hT inX0 hown hK hP 0 rfl rfl 4 (by decide) (hT _ tb_181) (fun _ h9 => h9) rfl dX0_leaveLine_13 ?_
      refine lv_sipush (v := 200) hx hb dX0_leaveLine_16 (by decide) ?_
      refine lv_icmp_gt (tgt := 49) hx hb dX0_leaveLine_19 (by decide) (fun hc_19 => ?_) (fun hc_19 => ?_)
      · have hf := it_pos hc_19 hf
        obtain rfl := Option.some.inj hf
        exact hQ H locs 49 ls hP hD hS trivial dX0_leaveLine_49
      · have hf := it_neg hc_19 hf
        refine lv_aload_n hx hb dX0_leaveLine_22 rfl (lv_at hl 0 rfl) ?_
        refine lv_dup hx hb dX0_leaveLine_23 rfl ?_
        refine va_get (D := D) (ci := 0) (v := .int t_waiting) (C := RX0) (T := TX0) (N := 9) hx hb hT inX0 hown hK hP 0 rfl rfl 4 (by decide) (hT _ tb_181) (fun _ h9 => h9) rfl dX0_leaveLine_24 ?_
        refine lv_iload_n hx hb dX0_leaveLine_27 rfl (lv_at hl 1 rfl) ?_
        refine lv_isub hx hb dX0_leaveLine_28 ?_
        refine va_put (D := D) (ci := 0) (v := .int (t_waiting - x1)) (ty := (.int)) (C := RX0) (T := TX0) (N := 9) hx hb hT inX0 tyX0 tyX0_ok nmX0 hown hK hP hD hS 0 rfl rfl 4 (by decide) (hT _ tb_181) (fun _ h9 => h9) rfl (by decide +kernel) rfl rfl (Nat.le_of_ble_eq_true rfl) dX0_leaveLine_29 (fun H locs hP hD hS => ?_)
        have hP : va_P D vwCl (w_X0_leaveLine cI cB cZ a_t a_t_line a_t_guests a_t_numbers a_t_coats (t_waiting - x1) t_arrived t_standing t_climbed t_drawn t_line) H := hP
        have hD : va_D A (w_X0_leaveLine cI cB cZ a_t a_t_line a_t_guests a_t_numbers a_t_coats (t_waiting - x1) t_arrived t_standing t_climbed t_drawn t_line) := hD
        refine lv_aload_n hx hb dX0_leaveLine_32 rfl (lv_at hl 0 rfl) ?_
        refine va_get (D := D) (ci := 0) (v := .ref a_t_line) (C := RX0) (T := TX0) (N := 9) hx hb hT inX0 hown hK hP 0 rfl rfl 3 (by decide) (hT _ tb_176) (fun _ h9 => h9) rfl dX0_leaveLine_33 ?_
        refine lv_iload_n hx hb dX0_leaveLine_36 rfl (lv_at hl 1 rfl) ?_
        refine lv_aload_n hx hb dX0_leaveLine_37 rfl (lv_at hl 0 rfl) ?_
        refine va_get (D := D) (ci := 0) (v := .ref a_t_line) (C := RX0) (T := TX0) (N := 9) hx hb hT inX0 hown hK hP 0 rfl rfl 3 (by decide) (hT _ tb_176) (fun _ h9 => h9) rfl dX0_leaveLine_38 ?_
        refine lv_iconst (v := 0) hx hb dX0_leaveLine_41 (by decide) ?_
        refine lv_aload_n hx hb dX0_leaveLine_42 rfl (lv_at hl 0 rfl) ?_
        refine va_get (D := D) (ci := 0) (v := .int (t_waiting - x1)) (C := RX0) (T := TX0) (N := 9) hx hb hT inX0 hown hK hP 0 rfl rfl 4 (by decide) (hT _ tb_181) (fun _ h9 => h9) rfl dX0_leaveLine_43 ?_
        obtain ⟨⟨hc1_46, hc2_46, hc3_46, hc4_46, hc5_46⟩, hf⟩ := cpk_some hf
        refine va_copyi (ty := .int) hx hb (hml.trans hl.1.symm) hown (hT _ tb_665) (hT _ tb_667) (hT _ tb_666) (hT _ tb_105) hK hP hD hS 1 1 0 0 rfl rfl rfl rfl rfl hc1_46 hc2_46 hc3_46 hc4_46 hc5_46 (fun _ _ => rfl) (Nat.le_trans (by decide) hRf) (Nat.le_trans (Nat.le_of_ble_eq_true rfl) hRl) dX0_leaveLine_46 (fun H locs hP hD hS => ?_)
        have hP : va_P D vwCl (w_X0_leaveLine cI cB cZ a_t a_t_line a_t_guests a_t_numbers a_t_coats (t_waiting - x1) t_arrived t_standing t_climbed t_drawn (va_cpy t_line t_line x1.toNatClampNeg (0 : Int32).toNatClampNeg (t_waiting - x1).toNatClampNeg)) H := hP
        have hD : va_D A (w_X0_leaveLine cI cB cZ a_t a_t_line a_t_guests a_t_numbers a_t_coats (t_waiting - x1) t_arrived t_standing t_climbed t_drawn (va_cpy t_line t_line x1.toNatClampNeg (0 : Int32).toNatClampNeg (t_waiting - x1).toNatClampNeg)) := hD
        obtain rfl := Option.some.inj hf
        exact hQ H locs 49 ls hP hD hS trivial dX0_leaveLine_49
theorem hd_X0_leaveLine : (yX0_leaveLine).cls = RX0 ∧ (yX0_leaveLine).cls ≠ "java/lang/invoke/MethodHandle" ∧ (yX0_leaveLine).cls ≠ "java/lang/invoke/VarHandle" ∧ (parseMethodDescriptor (yX0_leaveLine).desc).map (fun d => d.parameters.length) = some 1 := by decide +kernel
theorem c_X0_leaveLine (l : Launch) (D : va_G) (cI cB cZ : ClassId) (a_t : Nat) (a_t_line : Nat) (a_t_guests : Nat) (a_t_numbers : Nat) (a_t_coats : Nat) (t_waiting : Int32) (t_arrived : Int32) (t_standing : Int32) (t_climbed : Int32) (t_drawn : Int32) (t_line : (Nat → Int32)) (x1 : Int32) (sz : Nat) (res : Int32 × (Nat → Int32)) (hf : f_X0_leaveLine t_waiting t_line x1 = some res) : Met l yX0_leaveLine (.code yX0_leaveLine cX0_leaveLine 2 none :: TB) (rmk (1) (40)) (pRW [.ref a_t, .int x1] D cI cB cZ (w_X0_leaveLine cI cB cZ a_t a_t_line a_t_guests a_t_numbers a_t_coats t_waiting t_arrived t_standing t_climbed t_drawn t_line) sz) (qRW none True D (w_X0_leaveLine cI cB cZ a_t a_t_line a_t_guests a_t_numbers a_t_coats t_waiting t_arrived t_standing t_climbed t_drawn t_line) sz (w_X0_leaveLine cI cB cZ a_t a_t_line a_t_guests a_t_numbers a_t_coats res.1 t_arrived t_standing t_climbed t_drawn res.2)) 0 0 (va_A (w_X0_leaveLine cI cB cZ a_t a_t_line a_t_guests a_t_numbers a_t_coats t_waiting t_arrived t_standing t_climbed t_drawn t_line) sz) :=
  mkRW (by decide +kernel) (Nat.le_of_ble_eq_true rfl) (fun p e s m below meth c ls A hAe S hr hlk hK hA hP hD hS hl => b_X0_leaveLine S.1 S.2.1 S.2.2.1 S.2.2.2.1 S.2.2.2.2 (Nat.le_refl _) (Nat.le_refl _) hK.1 hK.2 hA s.heap [] a_t a_t_line a_t_guests a_t_numbers a_t_coats t_waiting t_arrived t_standing t_climbed t_drawn t_line x1 res hf hP hD hS (fun H locs pc ls hP hD hS hE hd => eRW_v S.1 S.2.1 hr hlk hAe hP hD hS hE hd) ls hl)
def f_X0_copyFrom (t_waiting : Int32) (t_arrived : Int32) (t_standing : Int32) (t_climbed : Int32) (t_drawn : Int32) (t_guests : (Nat → Int32)) (t_numbers : (Nat → Int32)) (t_coats : (Nat → Int32)) (t_line : (Nat → Int32)) (p1_waiting : Int32) (p1_arrived : Int32) (p1_standing : Int32) (p1_climbed : Int32) (p1_drawn : Int32) (p1_guests : (Nat → Int32)) (p1_numbers : (Nat → Int32)) (p1_coats : (Nat → Int32)) (p1_line : (Nat → Int32)) : Option (Int32 × Int32 × Int32 × Int32 × Int32 × (Nat → Int32) × (Nat → Int32) × (Nat → Int32) × (Nat → Int32)) := cpk 144 144 0 0 144 (cpk 144 144 0 0 144 (cpk 144 144 0 0 144 (cpk 200 200 0 0 200 (some (p1_waiting, p1_arrived, p1_standing, p1_climbed, p1_drawn, va_cpy p1_guests t_guests (0 : Int32).toNatClampNeg (0 : Int32).toNatClampNeg (144 : Int32).toNatClampNeg, va_cpy p1_numbers t_numbers (0 : Int32).toNatClampNeg (0 : Int32).toNatClampNeg (144 : Int32).toNatClampNeg, va_cpy p1_coats t_coats (0 : Int32).toNatClampNeg (0 : Int32).toNatClampNeg (144 : Int32).toNatClampNeg, va_cpy p1_line t_line (0 : Int32).toNatClampNeg (0 : Int32).toNatClampNeg (200 : Int32).toNatClampNeg)))))
def w_X0_copyFrom (cI cB cZ : ClassId) (a_t : Nat) (a_t_guests : Nat) (a_t_numbers : Nat) (a_t_coats : Nat) (a_t_line : Nat) (a_p1 : Nat) (a_p1_guests : Nat) (a_p1_numbers : Nat) (a_p1_coats : Nat) (a_p1_line : Nat) (t_waiting : Int32) (t_arrived : Int32) (t_standing : Int32) (t_climbed : Int32) (t_drawn : Int32) (t_guests : (Nat → Int32)) (t_numbers : (Nat → Int32)) (t_coats : (Nat → Int32)) (t_line : (Nat → Int32)) (p1_waiting : Int32) (p1_arrived : Int32) (p1_standing : Int32) (p1_climbed : Int32) (p1_drawn : Int32) (p1_guests : (Nat → Int32)) (p1_numbers : (Nat → Int32)) (p1_coats : (Nat → Int32)) (p1_line : (Nat → Int32)) : va_W := [(a_t, .inr (0, [.ref a_t_guests, .ref a_t_numbers, .ref a_t_coats, .ref a_t_line, .int t_waiting, .int t_arrived, .int t_standing, .int t_climbed, .int t_drawn])), (a_t_guests, .inl (cI, 144, .inl t_guests)), (a_t_numbers, .inl (cI, 144, .inl t_numbers)), (a_t_coats, .inl (cI, 144, .inl t_coats)), (a_t_line, .inl (cI, 200, .inl t_line)), (a_p1, .inr (0, [.ref a_p1_guests, .ref a_p1_numbers, .ref a_p1_coats, .ref a_p1_line, .int p1_waiting, .int p1_arrived, .int p1_standing, .int p1_climbed, .int p1_drawn])), (a_p1_guests, .inl (cI, 144, .inl p1_guests)), (a_p1_numbers, .inl (cI, 144, .inl p1_numbers)), (a_p1_coats, .inl (cI, 144, .inl p1_coats)), (a_p1_line, .inl (cI, 200, .inl p1_line))]
set_option maxHeartbeats 4000000 in
set_option maxRecDepth 100000 in
theorem b_X0_copyFrom {p : Program} {l : Launch} {e : Env} {R : Room} {s : State} {m : MethodId} {args : Array Value} {below : List Frame} {meth : Method} {c : Code} {Q : State → Prop} {D : va_G} {cI cB cZ : ClassId} (hx : p.tables.exec = Jvm.exec) (hb : c.code = cX0_copyFrom) (hml : c.maxLocals = 2) (hown : s.vm.findClass RX0 = some m.cls) (hT : ∀ w ∈ TB, w.before args s = true) (hRf : (1) ≤ R.frames) (hRl : (40) ≤ R.locals) (hK : va_K D vwCl (tyL cI cB cZ) s) (hN : NW s) {A : Nat → Prop} (hA : ∀ q : Nat, s.heap.size ≤ q → A q) (H : Heap) (locs : List Loc)  (a_t : Nat) (a_t_guests : Nat) (a_t_numbers : Nat) (a_t_coats : Nat) (a_t_line : Nat) (a_p1 : Nat) (a_p1_guests : Nat) (a_p1_numbers : Nat) (a_p1_coats : Nat) (a_p1_line : Nat) (t_waiting : Int32) (t_arrived : Int32) (t_standing : Int32) (t_climbed : Int32) (t_drawn : Int32) (t_guests : (Nat → Int32)) (t_numbers : (Nat → Int32)) (t_coats : (Nat → Int32)) (t_line : (Nat → Int32)) (p1_waiting : Int32) (p1_arrived : Int32) (p1_standing : Int32) (p1_climbed : Int32) (p1_drawn : Int32) (p1_guests : (Nat → Int32)) (p1_numbers : (Nat → Int32)) (p1_coats : (Nat → Int32)) (p1_line : (Nat → Int32)) (res : Int32 × Int32 × Int32 × Int32 × Int32 × (Nat → Int32) × (Nat → Int32) × (Nat → Int32) × (Nat → Int32)) (hf : f_X0_copyFrom t_waiting t_arrived t_standing t_climbed t_drawn t_guests t_numbers t_coats t_line p1_waiting p1_arrived p1_standing p1_climbed p1_drawn p1_guests p1_numbers p1_coats p1_line = some res) (hP : va_P D vwCl (w_X0_copyFrom cI cB cZ a_t a_t_guests a_t_numbers a_t_coats a_t_line a_p1 a_p1_guests a_p1_numbers a_p1_coats a_p1_line t_waiting t_arrived t_standing t_climbed t_drawn t_guests t_numbers t_coats t_line p1_waiting p1_arrived p1_standing p1_climbed p1_drawn p1_guests p1_numbers p1_coats p1_line) H) (hD : va_D A (w_X0_copyFrom cI cB cZ a_t a_t_guests a_t_numbers a_t_coats a_t_line a_p1 a_p1_guests a_p1_numbers a_p1_coats a_p1_line t_waiting t_arrived t_standing t_climbed t_drawn t_guests t_numbers t_coats t_line p1_waiting p1_arrived p1_standing p1_climbed p1_drawn p1_guests p1_numbers p1_coats p1_line)) (hS : va_S A s.heap H locs) (hQ : ∀ (H : Heap) (locs : List Loc) (pc : Nat) (ls : Array Slot), va_P D vwCl (w_X0_copyFrom cI cB cZ a_t a_t_guests a_t_numbers a_t_coats a_t_line a_p1 a_p1_guests a_p1_numbers a_p1_coats a_p1_line res.1 res.2.1 res.2.2.1 res.2.2.2.1 res.2.2.2.2.1 res.2.2.2.2.2.1 res.2.2.2.2.2.2.1 res.2.2.2.2.2.2.2.1 res.2.2.2.2.2.2.2.2 p1_waiting p1_arrived p1_standing p1_climbed p1_drawn p1_guests p1_numbers p1_coats p1_line) H → va_D A (w_X0_copyFrom cI cB cZ a_t a_t_guests a_t_numbers a_t_coats a_t_line a_p1 a_p1_guests a_p1_numbers a_p1_coats a_p1_line res.1 res.2.1 res.2.2.1 res.2.2.2.1 res.2.2.2.2.1 res.2.2.2.2.2.1 res.2.2.2.2.2.2.1 res.2.2.2.2.2.2.2.1 res.2.2.2.2.2.2.2.2 p1_waiting p1_arrived p1_standing p1_climbed p1_drawn p1_guests p1_numbers p1_coats p1_line) → va_S A s.heap H locs → True → decode cX0_copyFrom pc = .ok (.return_, 1) → W p l e R s m args below meth c H locs 0 0 Q (F0 m pc ls [])) (ls : Array Slot) (hl : lv_has ls 2 [(0, .ref a_t), (1, .ref a_p1)]) : W p l e R s m args below meth c H locs 0 0 Q (F0 m 0 ls []) := by
  unfold f_X0_copyFrom at hf
  refine lv_aload_n hx hb dX0_copyFrom_0 rfl (lv_at hl 1 rfl) ?_
  refine va_get (D := D) (ci := 0) (v := .ref a_p1_guests) (C := RX0) (T := TX0) (N := 9) hx hb hT inX0 hown hK hP 5 rfl rfl 0 (by decide) (hT _ tb_169) (fun _ h9 => h9) rfl dX0_copyFrom_1 ?_
  refine lv_iconst (v := 0) hx hb dX0_copyFrom_4 (by decide) ?_
  refine lv_aload_n hx hb dX0_copyFrom_5 rfl (lv_at hl 0 rfl) ?_
  refine va_get (D := D) (ci := 0) (v := .ref a_t_guests) (C := RX0) (T := TX0) (N := 9) hx hb hT inX0 hown hK hP 0 rfl rfl 0 (by decide) (hT _ tb_169) (fun _ h9 => h9) rfl dX0_copyFrom_6 ?_
  refine lv_iconst (v := 0) hx hb dX0_copyFrom_9 (by decide) ?_
  refine lv_sipush (v := 144) hx hb dX0_copyFrom_10 (by decide) ?_
  obtain ⟨⟨hc1_13, hc2_13, hc3_13, hc4_13, hc5_13⟩, hf⟩ := cpk_some hf
  refine va_copyi (ty := .int) hx hb (hml.trans hl.1.symm) hown (hT _ tb_665) (hT _ tb_667) (hT _ tb_666) (hT _ tb_105) hK hP hD hS 6 1 0 0 rfl rfl rfl rfl rfl hc1_13 hc2_13 hc3_13 hc4_13 hc5_13 (fun _ _ => rfl) (Nat.le_trans (by decide) hRf) (Nat.le_trans (Nat.le_of_ble_eq_true rfl) hRl) dX0_copyFrom_13 (fun H locs hP hD hS => ?_)
  have hP : va_P D vwCl (w_X0_copyFrom cI cB cZ a_t a_t_guests a_t_numbers a_t_coats a_t_line a_p1 a_p1_guests a_p1_numbers a_p1_coats a_p1_line t_waiting t_arrived t_standing t_climbed t_drawn (va_cpy p1_guests t_guests (0 : Int32).toNatClampNeg (0 : Int32).toNatClampNeg (144 : Int32).toNatClampNeg) t_numbers t_coats t_line p1_waiting p1_arrived p1_standing p1_climbed p1_drawn p1_guests p1_numbers p1_coats p1_line) H := hP
  have hD : va_D A (w_X0_copyFrom cI cB cZ a_t a_t_guests a_t_numbers a_t_coats a_t_line a_p1 a_p1_guests a_p1_numbers a_p1_coats a_p1_line t_waiting t_arrived t_standing t_climbed t_drawn (va_cpy p1_guests t_guests (0 : Int32).toNatClampNeg (0 : Int32).toNatClampNeg (144 : Int32).toNatClampNeg) t_numbers t_coats t_line p1_waiting p1_arrived p1_standing p1_climbed p1_drawn p1_guests p1_numbers p1_coats p1_line) := hD
  refine lv_aload_n hx hb dX0_copyFrom_16 rfl (lv_at hl 1 rfl) ?_
  refine va_get (D := D) (ci := 0) (v := .ref a_p1_numbers) (C := RX0) (T := TX0) (N := 9) hx hb hT inX0 hown hK hP 5 rfl rfl 1 (by decide) (hT _ tb_171) (fun _ h9 => h9) rfl dX0_copyFrom_17 ?_
  refine lv_iconst (v := 0) hx hb dX0_copyFrom_20 (by decide) ?_
  refine lv_aload_n hx hb dX0_copyFrom_21 rfl (lv_at hl 0 rfl) ?_
  refine va_get (D := D) (ci := 0) (v := .ref a_t_numbers) (C := RX0) (T := TX0) (N := 9) hx hb hT inX0 hown hK hP 0 rfl rfl 1 (by decide) (hT _ tb_171) (fun _ h9 => h9) rfl dX0_copyFrom_22 ?_
  refine lv_iconst (v := 0) hx hb dX0_copyFrom_25 (by decide) ?_
  refine lv_sipush (v := 144) hx hb dX0_copyFrom_26 (by decide) ?_
  obtain ⟨⟨hc1_29, hc2_29, hc3_29, hc4_29, hc5_29⟩, hf⟩ := cpk_some hf
  refine va_copyi (ty := .int) hx hb (hml.trans hl.1.symm) hown (hT _ tb_665) (hT _ tb_667) (hT _ tb_666) (hT _ tb_105) hK hP hD hS 7 2 0 0 rfl rfl rfl rfl rfl hc1_29 hc2_29 hc3_29 hc4_29 hc5_29 (fun _ _ => rfl) (Nat.le_trans (by decide) hRf) (Nat.le_trans (Nat.le_of_ble_eq_true rfl) hRl) dX0_copyFrom_29 (fun H locs hP hD hS => ?_)
  have hP : va_P D vwCl (w_X0_copyFrom cI cB cZ a_t a_t_guests a_t_numbers a_t_coats a_t_line a_p1 a_p1_guests a_p1_numbers a_p1_coats a_p1_line t_waiting t_arrived t_standing t_climbed t_drawn (va_cpy p1_guests t_guests (0 : Int32).toNatClampNeg (0 : Int32).toNatClampNeg (144 : Int32).toNatClampNeg) (va_cpy p1_numbers t_numbers (0 : Int32).toNatClampNeg (0 : Int32).toNatClampNeg (144 : Int32).toNatClampNeg) t_coats t_line p1_waiting p1_arrived p1_standing p1_climbed p1_drawn p1_guests p1_numbers p1_coats p1_line) H := hP
  have hD : va_D A (w_X0_copyFrom cI cB cZ a_t a_t_guests a_t_numbers a_t_coats a_t_line a_p1 a_p1_guests a_p1_numbers a_p1_coats a_p1_line t_waiting t_arrived t_standing t_climbed t_drawn (va_cpy p1_guests t_guests (0 : Int32).toNatClampNeg (0 : Int32).toNatClampNeg (144 : Int32).toNatClampNeg) (va_cpy p1_numbers t_numbers (0 : Int32).toNatClampNeg (0 : Int32).toNatClampNeg (144 : Int32).toNatClampNeg) t_coats t_line p1_waiting p1_arrived p1_standing p1_climbed p1_drawn p1_guests p1_numbers p1_coats p1_line) := hD
  refine lv_aload_n hx hb dX0_copyFrom_32 rfl (lv_at hl 1 rfl) ?_
  refine va_get (D := D) (ci := 0) (v := .ref a_p1_coats) (C := RX0) (T := TX0) (N := 9) hx hb hT inX0 hown hK hP 5 rfl rfl 2 (by decide) (hT _ tb_174) (fun _ h9 => h9) rfl dX0_copyFrom_33 ?_
  refine lv_iconst (v := 0) hx hb dX0_copyFrom_36 (by decide) ?_
  refine lv_aload_n hx hb dX0_copyFrom_37 rfl (lv_at hl 0 rfl) ?_
  refine va_get (D := D) (ci := 0) (v := .ref a_t_coats) (C := RX0) (T := TX0) (N := 9) hx hb hT inX0 hown hK hP 0 rfl rfl 2 (by decide) (hT _ tb_174) (fun _ h9 => h9) rfl dX0_copyFrom_38 ?_
  refine lv_iconst (v := 0) hx hb dX0_copyFrom_41 (by decide) ?_
  refine lv_sipush (v := 144) hx hb dX0_copyFrom_42 (by decide) ?_
  obtain ⟨⟨hc1_45, hc2_45, hc3_45, hc4_45, hc5_45⟩, hf⟩ := cpk_some hf
  refine va_copyi (ty := .int) hx hb (hml.trans hl.1.symm) hown (hT _ tb_665) (hT _ tb_667) (hT _ tb_666) (hT _ tb_105) hK hP hD hS 8 3 0 0 rfl rfl rfl rfl rfl hc1_45 hc2_45 hc3_45 hc4_45 hc5_45 (fun _ _ => rfl) (Nat.le_trans (by decide) hRf) (Nat.le_trans (Nat.le_of_ble_eq_true rfl) hRl) dX0_copyFrom_45 (fun H locs hP hD hS => ?_)
  have hP : va_P D vwCl (w_X0_copyFrom cI cB cZ a_t a_t_guests a_t_numbers a_t_coats a_t_line a_p1 a_p1_guests a_p1_numbers a_p1_coats a_p1_line t_waiting t_arrived t_standing t_climbed t_drawn (va_cpy p1_guests t_guests (0 : Int32).toNatClampNeg (0 : Int32).toNatClampNeg (144 : Int32).toNatClampNeg) (va_cpy p1_numbers t_numbers (0 : Int32).toNatClampNeg (0 : Int32).toNatClampNeg (144 : Int32).toNatClampNeg) (va_cpy p1_coats t_coats (0 : Int32).toNatClampNeg (0 : Int32).toNatClampNeg (144 : Int32).toNatClampNeg) t_line p1_waiting p1_arrived p1_standing p1_climbed p1_drawn p1_guests p1_numbers p1_coats p1_line) H := hP
  have hD : va_D A (w_X0_copyFrom cI cB cZ a_t a_t_guests a_t_numbers a_t_coats a_t_line a_p1 a_p1_guests a_p1_numbers a_p1_coats a_p1_line t_waiting t_arrived t_standing t_climbed t_drawn (va_cpy p1_guests t_guests (0 : Int32).toNatClampNeg (0 : Int32).toNatClampNeg (144 : Int32).toNatClampNeg) (va_cpy p1_numbers t_numbers (0 : Int32).toNatClampNeg (0 : Int32).toNatClampNeg (144 : Int32).toNatClampNeg) (va_cpy p1_coats t_coats (0 : Int32).toNatClampNeg (0 : Int32).toNatClampNeg (144 : Int32).toNatClampNeg) t_line p1_waiting p1_arrived p1_standing p1_climbed p1_drawn p1_guests p1_numbers p1_coats p1_line) := hD
  refine lv_aload_n hx hb dX0_copyFrom_48 rfl (lv_at hl 1 rfl) ?_
  refine va_get (D := D) (ci := 0) (v := .ref a_p1_line) (C := RX0) (T := TX0) (N := 9) hx hb hT inX0 hown hK hP 5 rfl rfl 3 (by decide) (hT _ tb_176) (fun _ h9 => h9) rfl dX0_copyFrom_49 ?_
  refine lv_iconst (v := 0) hx hb dX0_copyFrom_52 (by decide) ?_
  refine lv_aload_n hx hb dX0_copyFrom_53 rfl (lv_at hl 0 rfl) ?_
  refine va_get (D := D) (ci := 0) (v := .ref a_t_line) (C := RX0) (T := TX0) (N := 9) hx hb hT inX0 hown hK hP 0 rfl rfl 3 (by decide) (hT _ tb_176) (fun _ h9 => h9) rfl dX0_copyFrom_54 ?_
  refine lv_iconst (v := 0) hx hb dX0_copyFrom_57 (by decide) ?_
  refine lv_sipush (v := 200) hx hb dX0_copyFrom_58 (by decide) ?_
  obtain ⟨⟨hc1_61, hc2_61, hc3_61, hc4_61, hc5_61⟩, hf⟩ := cpk_some hf
  refine va_copyi (ty := .int) hx hb (hml.trans hl.1.symm) hown (hT _ tb_665) (hT _ tb_667) (hT _ tb_666) (hT _ tb_105) hK hP hD hS 9 4 0 0 rfl rfl rfl rfl rfl hc1_61 hc2_61 hc3_61 hc4_61 hc5_61 (fun _ _ => rfl) (Nat.le_trans (by decide) hRf) (Nat.le_trans (Nat.le_of_ble_eq_true rfl) hRl) dX0_copyFrom_61 (fun H locs hP hD hS => ?_)
  have hP : va_P D vwCl (w_X0_copyFrom cI cB cZ a_t a_t_guests a_t_numbers a_t_coats a_t_line a_p1 a_p1_guests a_p1_numbers a_p1_coats a_p1_line t_waiting t_arrived t_standing t_climbed t_drawn (va_cpy p1_guests t_guests (0 : Int32).toNatClampNeg (0 : Int32).toNatClampNeg (144 : Int32).toNatClampNeg) (va_cpy p1_numbers t_numbers (0 : Int32).toNatClampNeg (0 : Int32).toNatClampNeg (144 : Int32).toNatClampNeg) (va_cpy p1_coats t_coats (0 : Int32).toNatClampNeg (0 : Int32).toNatClampNeg (144 : Int32).toNatClampNeg) (va_cpy p1_line t_line (0 : Int32).toNatClampNeg (0 : Int32).toNatClampNeg (200 : Int32).toNatClampNeg) p1_waiting p1_arrived p1_standing p1_climbed p1_drawn p1_guests p1_numbers p1_coats p1_line) H := hP
  have hD : va_D A (w_X0_copyFrom cI cB cZ a_t a_t_guests a_t_numbers a_t_coats a_t_line a_p1 a_p1_guests a_p1_numbers a_p1_coats a_p1_line t_waiting t_arrived t_standing t_climbed t_drawn (va_cpy p1_guests t_guests (0 : Int32).toNatClampNeg (0 : Int32).toNatClampNeg (144 : Int32).toNatClampNeg) (va_cpy p1_numbers t_numbers (0 : Int32).toNatClampNeg (0 : Int32).toNatClampNeg (144 : Int32).toNatClampNeg) (va_cpy p1_coats t_coats (0 : Int32).toNatClampNeg (0 : Int32).toNatClampNeg (144 : Int32).toNatClampNeg) (va_cpy p1_line t_line (0 : Int32).toNatClampNeg (0 : Int32).toNatClampNeg (200 : Int32).toNatClampNeg) p1_waiting p1_arrived p1_standing p1_climbed p1_drawn p1_guests p1_numbers p1_coats p1_line) := hD
  refine lv_aload_n hx hb dX0_copyFrom_64 rfl (lv_at hl 0 rfl) ?_
  refine lv_aload_n hx hb dX0_copyFrom_65 rfl (lv_at hl 1 rfl) ?_
  refine va_get (D := D) (ci := 0) (v := .int p1_waiting) (C := RX0) (T := TX0) (N := 9) hx hb hT inX0 hown hK hP 5 rfl rfl 4 (by decide) (hT _ tb_181) (fun _ h9 => h9) rfl dX0_copyFrom_66 ?_
  refine va_put (D := D) (ci := 0) (v := .int p1_waiting) (ty := (.int)) (C := RX0) (T := TX0) (N := 9) hx hb hT inX0 tyX0 tyX0_ok nmX0 hown hK hP hD hS 0 rfl rfl 4 (by decide) (hT _ tb_181) (fun _ h9 => h9) rfl (by decide +kernel) rfl rfl (Nat.le_of_ble_eq_true rfl) dX0_copyFrom_69 (fun H locs hP hD hS => ?_)
  have hP : va_P D vwCl (w_X0_copyFrom cI cB cZ a_t a_t_guests a_t_numbers a_t_coats a_t_line a_p1 a_p1_guests a_p1_numbers a_p1_coats a_p1_line p1_waiting t_arrived t_standing t_climbed t_drawn (va_cpy p1_guests t_guests (0 : Int32).toNatClampNeg (0 : Int32).toNatClampNeg (144 : Int32).toNatClampNeg) (va_cpy p1_numbers t_numbers (0 : Int32).toNatClampNeg (0 : Int32).toNatClampNeg (144 : Int32).toNatClampNeg) (va_cpy p1_coats t_coats (0 : Int32).toNatClampNeg (0 : Int32).toNatClampNeg (144 : Int32).toNatClampNeg) (va_cpy p1_line t_line (0 : Int32).toNatClampNeg (0 : Int32).toNatClampNeg (200 : Int32).toNatClampNeg) p1_waiting p1_arrived p1_standing p1_climbed p1_drawn p1_guests p1_numbers p1_coats p1_line) H := hP
  have hD : va_D A (w_X0_copyFrom cI cB cZ a_t a_t_guests a_t_numbers a_t_coats a_t_line a_p1 a_p1_guests a_p1_numbers a_p1_coats a_p1_line p1_waiting t_arrived t_standing t_climbed t_drawn (va_cpy p1_guests t_guests (0 : Int32).toNatClampNeg (0 : Int32).toNatClampNeg (144 : Int32).toNatClampNeg) (va_cpy p1_numbers t_numbers (0 : Int32).toNatClampNeg (0 : Int32).toNatClampNeg (144 : Int32).toNatClampNeg) (va_cpy p1_coats t_coats (0 : Int32).toNatClampNeg (0 : Int32).toNatClampNeg (144 : Int32).toNatClampNeg) (va_cpy p1_line t_line (0 : Int32).toNatClampNeg (0 : Int32).toNatClampNeg (200 : Int32).toNatClampNeg) p1_waiting p1_arrived p1_standing p1_climbed p1_drawn p1_guests p1_numbers p1_coats p1_line) := hD
  refine lv_aload_n hx hb dX0_copyFrom_72 rfl (lv_at hl 0 rfl) ?_
  refine lv_aload_n hx hb dX0_copyFrom_73 rfl (lv_at hl 1 rfl) ?_
  refine va_get (D := D) (ci := 0) (v := .int p1_arrived) (C := RX0) (T := TX0) (N := 9) hx hb hT inX0 hown hK hP 5 rfl rfl 5 (by decide) (hT _ tb_186) (fun _ h9 => h9) rfl dX0_copyFrom_74 ?_
  refine va_put (D := D) (ci := 0) (v := .int p1_arrived) (ty := (.int)) (C := RX0) (T := TX0) (N := 9) hx hb hT inX0 tyX0 tyX0_ok nmX0 hown hK hP hD hS 0 rfl rfl 5 (by decide) (hT _ tb_186) (fun _ h9 => h9) rfl (by decide +kernel) rfl rfl (Nat.le_of_ble_eq_true rfl) dX0_copyFrom_77 (fun H locs hP hD hS => ?_)
  have hP : va_P D vwCl (w_X0_copyFrom cI cB cZ a_t a_t_guests a_t_numbers a_t_coats a_t_line a_p1 a_p1_guests a_p1_numbers a_p1_coats a_p1_line p1_waiting p1_arrived t_standing t_climbed t_drawn (va_cpy p1_guests t_guests (0 : Int32).toNatClampNeg (0 : Int32).toNatClampNeg (144 : Int32).toNatClampNeg) (va_cpy p1_numbers t_numbers (0 : Int32).toNatClampNeg (0 : Int32).toNatClampNeg (144 : Int32).toNatClampNeg) (va_cpy p1_coats t_coats (0 : Int32).toNatClampNeg (0 : Int32).toNatClampNeg (144 : Int32).toNatClampNeg) (va_cpy p1_line t_line (0 : Int32).toNatClampNeg (0 : Int32).toNatClampNeg (200 : Int32).toNatClampNeg) p1_waiting p1_arrived p1_standing p1_climbed p1_drawn p1_guests p1_numbers p1_coats p1_line) H := hP
  have hD : va_D A (w_X0_copyFrom cI cB cZ a_t a_t_guests a_t_numbers a_t_coats a_t_line a_p1 a_p1_guests a_p1_numbers a_p1_coats a_p1_line p1_waiting p1_arrived t_standing t_climbed t_drawn (va_cpy p1_guests t_guests (0 : Int32).toNatClampNeg (0 : Int32).toNatClampNeg (144 : Int32).toNatClampNeg) (va_cpy p1_numbers t_numbers (0 : Int32).toNatClampNeg (0 : Int32).toNatClampNeg (144 : Int32).toNatClampNeg) (va_cpy p1_coats t_coats (0 : Int32).toNatClampNeg (0 : Int32).toNatClampNeg (144 : Int32).toNatClampNeg) (va_cpy p1_line t_line (0 : Int32).toNatClampNeg (0 : Int32).toNatClampNeg (200 : Int32).toNatClampNeg) p1_waiting p1_arrived p1_standing p1_climbed p1_drawn p1_guests p1_numbers p1_coats p1_line) := hD
  refine lv_aload_n hx hb dX0_copyFrom_80 rfl (lv_at hl 0 rfl) ?_
  refine lv_aload_n hx hb dX0_copyFrom_81 rfl (lv_at hl 1 rfl) ?_
  refine va_get (D := D) (ci := 0) (v := .int p1_standing) (C := RX0) (T := TX0) (N := 9) hx hb hT inX0 hown hK hP 5 rfl rfl 6 (by decide) (hT _ tb_189) (fun _ h9 => h9) rfl dX0_copyFrom_82 ?_
  refine va_put (D := D) (ci := 0) (v := .int p1_standing) (ty := (.int)) (C := RX0) (T := TX0) (N := 9) hx hb hT inX0 tyX0 tyX0_ok nmX0 hown hK hP hD hS 0 rfl rfl 6 (by decide) (hT _ tb_189) (fun _ h9 => h9) rfl (by decide +kernel) rfl rfl (Nat.le_of_ble_eq_true rfl) dX0_copyFrom_85 (fun H locs hP hD hS => ?_)
  have hP : va_P D vwCl (w_X0_copyFrom cI cB cZ a_t a_t_guests a_t_numbers a_t_coats a_t_line a_p1 a_p1_guests a_p1_numbers a_p1_coats a_p1_line p1_waiting p1_arrived p1_standing t_climbed t_drawn (va_cpy p1_guests t_guests (0 : Int32).toNatClampNeg (0 : Int32).toNatClampNeg (144 : Int32).toNatClampNeg) (va_cpy p1_numbers t_numbers (0 : Int32).toNatClampNeg (0 : Int32).toNatClampNeg (144 : Int32).toNatClampNeg) (va_cpy p1_coats t_coats (0 : Int32).toNatClampNeg (0 : Int32).toNatClampNeg (144 : Int32).toNatClampNeg) (va_cpy p1_line t_line (0 : Int32).toNatClampNeg (0 : Int32).toNatClampNeg (200 : Int32).toNatClampNeg) p1_waiting p1_arrived p1_standing p1_climbed p1_drawn p1_guests p1_numbers p1_coats p1_line) H := hP
  have hD : va_D A (w_X0_copyFrom cI cB cZ a_t a_t_guests a_t_numbers a_t_coats a_t_line a_p1 a_p1_guests a_p1_numbers a_p1_coats a_p1_line p1_waiting p1_arrived p1_standing t_climbed t_drawn (va_cpy p1_guests t_guests (0 : Int32).toNatClampNeg (0 : Int32).toNatClampNeg (144 : Int32).toNatClampNeg) (va_cpy p1_numbers t_numbers (0 : Int32).toNatClampNeg (0 : Int32).toNatClampNeg (144 : Int32).toNatClampNeg) (va_cpy p1_coats t_coats (0 : Int32).toNatClampNeg (0 : Int32).toNatClampNeg (144 : Int32).toNatClampNeg) (va_cpy p1_line t_line (0 : Int32).toNatClampNeg (0 : Int32).toNatClampNeg (200 : Int32).toNatClampNeg) p1_waiting p1_arrived p1_standing p1_climbed p1_drawn p1_guests p1_numbers p1_coats p1_line) := hD
  refine lv_aload_n hx hb dX0_copyFrom_88 rfl (lv_at hl 0 rfl) ?_
  refine lv_aload_n hx hb dX0_copyFrom_89 rfl (lv_at hl 1 rfl) ?_
  refine va_get (D := D) (ci := 0) (v := .int p1_climbed) (C := RX0) (T := TX0) (N := 9) hx hb hT inX0 hown hK hP 5 rfl rfl 7 (by decide) (hT _ tb_192) (fun _ h9 => h9) rfl dX0_copyFrom_90 ?_
  refine va_put (D := D) (ci := 0) (v := .int p1_climbed) (ty := (.int)) (C := RX0) (T := TX0) (N := 9) hx hb hT inX0 tyX0 tyX0_ok nmX0 hown hK hP hD hS 0 rfl rfl 7 (by decide) (hT _ tb_192) (fun _ h9 => h9) rfl (by decide +kernel) rfl rfl (Nat.le_of_ble_eq_true rfl) dX0_copyFrom_93 (fun H locs hP hD hS => ?_)
  have hP : va_P D vwCl (w_X0_copyFrom cI cB cZ a_t a_t_guests a_t_numbers a_t_coats a_t_line a_p1 a_p1_guests a_p1_numbers a_p1_coats a_p1_line p1_waiting p1_arrived p1_standing p1_climbed t_drawn (va_cpy p1_guests t_guests (0 : Int32).toNatClampNeg (0 : Int32).toNatClampNeg (144 : Int32).toNatClampNeg) (va_cpy p1_numbers t_numbers (0 : Int32).toNatClampNeg (0 : Int32).toNatClampNeg (144 : Int32).toNatClampNeg) (va_cpy p1_coats t_coats (0 : Int32).toNatClampNeg (0 : Int32).toNatClampNeg (144 : Int32).toNatClampNeg) (va_cpy p1_line t_line (0 : Int32).toNatClampNeg (0 : Int32).toNatClampNeg (200 : Int32).toNatClampNeg) p1_waiting p1_arrived p1_standing p1_climbed p1_drawn p1_guests p1_numbers p1_coats p1_line) H := hP
  have hD : va_D A (w_X0_copyFrom cI cB cZ a_t a_t_guests a_t_numbers a_t_coats a_t_line a_p1 a_p1_guests a_p1_numbers a_p1_coats a_p1_line p1_waiting p1_arrived p1_standing p1_climbed t_drawn (va_cpy p1_guests t_guests (0 : Int32).toNatClampNeg (0 : Int32).toNatClampNeg (144 : Int32).toNatClampNeg) (va_cpy p1_numbers t_numbers (0 : Int32).toNatClampNeg (0 : Int32).toNatClampNeg (144 : Int32).toNatClampNeg) (va_cpy p1_coats t_coats (0 : Int32).toNatClampNeg (0 : Int32).toNatClampNeg (144 : Int32).toNatClampNeg) (va_cpy p1_line t_line (0 : Int32).toNatClampNeg (0 : Int32).toNatClampNeg (200 : Int32).toNatClampNeg) p1_waiting p1_arrived p1_standing p1_climbed p1_drawn p1_guests p1_numbers p1_coats p1_line) := hD
  refine lv_aload_n hx hb dX0_copyFrom_96 rfl (lv_at hl 0 rfl) ?_
  refine lv_aload_n hx hb dX0_copyFrom_97 rfl (lv_at hl 1 rfl) ?_
  refine va_get (D := D) (ci := 0) (v := .int p1_drawn) (C := RX0) (T := TX0) (N := 9) hx hb hT inX0 hown hK hP 5 rfl rfl 8 (by decide) (hT _ tb_195) (fun _ h9 => h9) rfl dX0_copyFrom_98 ?_
  refine va_put (D := D) (ci := 0) (v := .int p1_drawn) (ty := (.int)) (C := RX0) (T := TX0) (N := 9) hx hb hT inX0 tyX0 tyX0_ok nmX0 hown hK hP hD hS 0 rfl rfl 8 (by decide) (hT _ tb_195) (fun _ h9 => h9) rfl (by decide +kernel) rfl rfl (Nat.le_of_ble_eq_true rfl) dX0_copyFrom_101 (fun H locs hP hD hS => ?_)
  have hP : va_P D vwCl (w_X0_copyFrom cI cB cZ a_t a_t_guests a_t_numbers a_t_coats a_t_line a_p1 a_p1_guests a_p1_numbers a_p1_coats a_p1_line p1_waiting p1_arrived p1_standing p1_climbed p1_drawn (va_cpy p1_guests t_guests (0 : Int32).toNatClampNeg (0 : Int32).toNatClampNeg (144 : Int32).toNatClampNeg) (va_cpy p1_numbers t_numbers (0 : Int32).toNatClampNeg (0 : Int32).toNatClampNeg (144 : Int32).toNatClampNeg) (va_cpy p1_coats t_coats (0 : Int32).toNatClampNeg (0 : Int32).toNatClampNeg (144 : Int32).toNatClampNeg) (va_cpy p1_line t_line (0 : Int32).toNatClampNeg (0 : Int32).toNatClampNeg (200 : Int32).toNatClampNeg) p1_waiting p1_arrived p1_standing p1_climbed p1_drawn p1_guests p1_numbers p1_coats p1_line) H := hP
  have hD : va_D A (w_X0_copyFrom cI cB cZ a_t a_t_guests a_t_numbers a_t_coats a_t_line a_p1 a_p1_guests a_p1_numbers a_p1_coats a_p1_line p1_waiting p1_arrived p1_standing p1_climbed p1_drawn (va_cpy p1_guests t_guests (0 : Int32).toNatClampNeg (0 : Int32).toNatClampNeg (144 : Int32).toNatClampNeg) (va_cpy p1_numbers t_numbers (0 : Int32).toNatClampNeg (0 : Int32).toNatClampNeg (144 : Int32).toNatClampNeg) (va_cpy p1_coats t_coats (0 : Int32).toNatClampNeg (0 : Int32).toNatClampNeg (144 : Int32).toNatClampNeg) (va_cpy p1_line t_line (0 : Int32).toNatClampNeg (0 : Int32).toNatClampNeg (200 : Int32).toNatClampNeg) p1_waiting p1_arrived p1_standing p1_climbed p1_drawn p1_guests p1_numbers p1_coats p1_line) := hD
  obtain rfl := Option.some.inj hf
  exact hQ H locs 104 ls hP hD hS trivial dX0_copyFrom_104
theorem hd_X0_copyFrom : (yX0_copyFrom).cls = RX0 ∧ (yX0_copyFrom).cls ≠ "java/lang/invoke/MethodHandle" ∧ (yX0_copyFrom).cls ≠ "java/lang/invoke/VarHandle" ∧ (parseMethodDescriptor (yX0_copyFrom).desc).map (fun d => d.parameters.length) = some 1 := by decide +kernel
theorem c_X0_copyFrom (l : Launch) (D : va_G) (cI cB cZ : ClassId) (a_t : Nat) (a_t_guests : Nat) (a_t_numbers : Nat) (a_t_coats : Nat) (a_t_line : Nat) (a_p1 : Nat) (a_p1_guests : Nat) (a_p1_numbers : Nat) (a_p1_coats : Nat) (a_p1_line : Nat) (t_waiting : Int32) (t_arrived : Int32) (t_standing : Int32) (t_climbed : Int32) (t_drawn : Int32) (t_guests : (Nat → Int32)) (t_numbers : (Nat → Int32)) (t_coats : (Nat → Int32)) (t_line : (Nat → Int32)) (p1_waiting : Int32) (p1_arrived : Int32) (p1_standing : Int32) (p1_climbed : Int32) (p1_drawn : Int32) (p1_guests : (Nat → Int32)) (p1_numbers : (Nat → Int32)) (p1_coats : (Nat → Int32)) (p1_line : (Nat → Int32)) (sz : Nat) (res : Int32 × Int32 × Int32 × Int32 × Int32 × (Nat → Int32) × (Nat → Int32) × (Nat → Int32) × (Nat → Int32)) (hf : f_X0_copyFrom t_waiting t_arrived t_standing t_climbed t_drawn t_guests t_numbers t_coats t_line p1_waiting p1_arrived p1_standing p1_climbed p1_drawn p1_guests p1_numbers p1_coats p1_line = some res) : Met l yX0_copyFrom (.code yX0_copyFrom cX0_copyFrom 2 none :: TB) (rmk (1) (40)) (pRW [.ref a_t, .ref a_p1] D cI cB cZ (w_X0_copyFrom cI cB cZ a_t a_t_guests a_t_numbers a_t_coats a_t_line a_p1 a_p1_guests a_p1_numbers a_p1_coats a_p1_line t_waiting t_arrived t_standing t_climbed t_drawn t_guests t_numbers t_coats t_line p1_waiting p1_arrived p1_standing p1_climbed p1_drawn p1_guests p1_numbers p1_coats p1_line) sz) (qRW none True D (w_X0_copyFrom cI cB cZ a_t a_t_guests a_t_numbers a_t_coats a_t_line a_p1 a_p1_guests a_p1_numbers a_p1_coats a_p1_line t_waiting t_arrived t_standing t_climbed t_drawn t_guests t_numbers t_coats t_line p1_waiting p1_arrived p1_standing p1_climbed p1_drawn p1_guests p1_numbers p1_coats p1_line) sz (w_X0_copyFrom cI cB cZ a_t a_t_guests a_t_numbers a_t_coats a_t_line a_p1 a_p1_guests a_p1_numbers a_p1_coats a_p1_line res.1 res.2.1 res.2.2.1 res.2.2.2.1 res.2.2.2.2.1 res.2.2.2.2.2.1 res.2.2.2.2.2.2.1 res.2.2.2.2.2.2.2.1 res.2.2.2.2.2.2.2.2 p1_waiting p1_arrived p1_standing p1_climbed p1_drawn p1_guests p1_numbers p1_coats p1_line)) 0 0 (va_A (w_X0_copyFrom cI cB cZ a_t a_t_guests a_t_numbers a_t_coats a_t_line a_p1 a_p1_guests a_p1_numbers a_p1_coats a_p1_line t_waiting t_arrived t_standing t_climbed t_drawn t_guests t_numbers t_coats t_line p1_waiting p1_arrived p1_standing p1_climbed p1_drawn p1_guests p1_numbers p1_coats p1_line) sz) :=
  mkRW (by decide +kernel) (Nat.le_of_ble_eq_true rfl) (fun p e s m below meth c ls A hAe S hr hlk hK hA hP hD hS hl => b_X0_copyFrom S.1 S.2.1 S.2.2.1 S.2.2.2.1 S.2.2.2.2 (Nat.le_refl _) (Nat.le_refl _) hK.1 hK.2 hA s.heap [] a_t a_t_guests a_t_numbers a_t_coats a_t_line a_p1 a_p1_guests a_p1_numbers a_p1_coats a_p1_line t_waiting t_arrived t_standing t_climbed t_drawn t_guests t_numbers t_coats t_line p1_waiting p1_arrived p1_standing p1_climbed p1_drawn p1_guests p1_numbers p1_coats p1_line res hf hP hD hS (fun H locs pc ls hP hD hS hE hd => eRW_v S.1 S.2.1 hr hlk hAe hP hD hS hE hd) ls hl)
