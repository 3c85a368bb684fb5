def f_X9_open_46 (t_bytes : (Nat → Int32)) (y0 : Int32) (t_end : Int32) (t_fault : Int32) (t_faultPlace : Int32) (t_place : Int32) (t_sign : Int32) : Option (Int32 × Int32 × Int32 × Int32 × Int32) := some (t_end, t_fault, t_faultPlace, t_place, y0)
def f_X9_open (t_end : Int32) (t_fault : Int32) (t_faultPlace : Int32) (t_place : Int32) (t_sign : Int32) (t_bytes : (Nat → Int32)) (x1 : Int32) : Option (Int32 × Int32 × Int32 × Int32 × Int32) := (if (if 260 < x1 then 260 else x1) ≤ 0 then f_X9_open_46 t_bytes (-1) (if 260 < x1 then 260 else x1) 0 0 0 t_sign else ix 260 0 (f_X9_open_46 t_bytes (t_bytes (0 : Int32).toNatClampNeg) (if 260 < x1 then 260 else x1) 0 0 0 t_sign))
def w_X9_open (cI cB cZ : ClassId) (a_t : Nat) (a_t_bytes : Nat) (t_end : Int32) (t_fault : Int32) (t_faultPlace : Int32) (t_place : Int32) (t_sign : Int32) (t_bytes : (Nat → Int32)) : va_W := [(a_t, .inr (8, [.ref a_t_bytes, .int t_end, .int t_fault, .int t_faultPlace, .int t_place, .int t_sign])), (a_t_bytes, .inl (cI, 260, .inl t_bytes))]
set_option maxHeartbeats 4000000 in
set_option maxRecDepth 100000 in
theorem b_X9_open {p : Program} {l : Launch} {e : Env} {R : Room} {s : State} {m : MethodId} {args : Array Value} {below : List Frame} {meth : Method} {c : Code} {Q : State → Prop} {D : va_G} {cI cB cZ : ClassId} (hx : p.tables.exec = Jvm.exec) (hb : c.code = cX9_open) (hml : c.maxLocals = 2) (hown : s.vm.findClass RX9 = some m.cls) (hT : ∀ w ∈ TB, w.before args s = true) (hRf : (1) ≤ R.frames) (hRl : (40) ≤ R.locals) (hK : va_K D vwCl (tyL cI cB cZ) s) (hN : NW s) {A : Nat → Prop} (hA : ∀ q : Nat, s.heap.size ≤ q → A q) (H : Heap) (locs : List Loc)  (a_t : Nat) (a_t_bytes : Nat) (t_end : Int32) (t_fault : Int32) (t_faultPlace : Int32) (t_place : Int32) (t_sign : Int32) (t_bytes : (Nat → Int32)) (x1 : Int32) (res : Int32 × Int32 × Int32 × Int32 × Int32) (hf : f_X9_open t_end t_fault t_faultPlace t_place t_sign t_bytes x1 = some res) (hP : va_P D vwCl (w_X9_open cI cB cZ a_t a_t_bytes t_end t_fault t_faultPlace t_place t_sign t_bytes) H) (hD : va_D A (w_X9_open cI cB cZ a_t a_t_bytes t_end t_fault t_faultPlace t_place t_sign t_bytes)) (hS : va_S A s.heap H locs) (hQ : ∀ (H : Heap) (locs : List Loc) (pc : Nat) (ls : Array Slot), va_P D vwCl (w_X9_open cI cB cZ a_t a_t_bytes res.1 res.2.1 res.2.2.1 res.2.2.2.1 res.2.2.2.2 t_bytes) H → va_D A (w_X9_open cI cB cZ a_t a_t_bytes res.1 res.2.1 res.2.2.1 res.2.2.2.1 res.2.2.2.2 t_bytes) → va_S A s.heap H locs → True → decode cX9_open pc = .ok (.return_, 1) → W p l e R s m args below meth c H locs 0 0 Q (F0 m pc ls [])) (ls : Array Slot) (hl : lv_has ls 2 [(0, .ref a_t), (1, .int x1)]) : W p l e R s m args below meth c H locs 0 0 Q (F0 m 0 ls []) := by
  unfold f_X9_open at hf
  refine lv_aload_n hx hb dX9_open_0 rfl (lv_at hl 0 rfl) ?_
  refine lv_iload_n hx hb dX9_open_1 rfl (lv_at hl 1 rfl) ?_
  refine lv_aload_n hx hb dX9_open_2 rfl (lv_at hl 0 rfl) ?_
  refine va_get (D := D) (ci := 8) (v := .ref a_t_bytes) (C := RX9) (T := TX9) (N := 6) hx hb hT inX9 hown hK hP 0 rfl rfl 0 (by decide) (hT _ tb_137) (fun _ h9 => h9) rfl dX9_open_3 ?_
  refine va_alen (v := 260) hx hb hK hP 1 0 rfl rfl (by rfl) dX9_open_6 ?_
  refine va_mmin hx hb (hml.trans hl.1.symm) hown (hT _ tb_420) (hT _ tb_421) (hT _ tb_98) (hT _ tb_422) (Nat.le_trans (by decide) hRf) (Nat.le_trans (Nat.le_of_ble_eq_true rfl) hRl) (Nat.zero_le _) (Nat.zero_le _) dX9_open_7 ?_
  refine va_put (D := D) (ci := 8) (v := .int (if 260 < x1 then 260 else x1)) (ty := (.int)) (C := RX9) (T := TX9) (N := 6) hx hb hT inX9 tyX9 tyX9_ok nmX9 hown hK hP hD hS 0 rfl rfl 1 (by decide) (hT _ tb_138) (fun _ h9 => h9) rfl (by decide +kernel) rfl rfl (Nat.le_of_ble_eq_true rfl) dX9_open_10 (fun H locs hP hD hS => ?_)
  have hP : va_P D vwCl (w_X9_open cI cB cZ a_t a_t_bytes (if 260 < x1 then 260 else x1) t_fault t_faultPlace t_place t_sign t_bytes) H := hP
  have hD : va_D A (w_X9_open cI cB cZ a_t a_t_bytes (if 260 < x1 then 260 else x1) t_fault t_faultPlace t_place t_sign t_bytes) := hD
  refine lv_aload_n hx hb dX9_open_13 rfl (lv_at hl 0 rfl) ?_
  refine lv_iconst (v := 0) hx hb dX9_open_14 (by decide) ?_
  refine va_put (D := D) (ci := 8) (v := .int 0) (ty := (.int)) (C := RX9) (T := TX9) (N := 6) hx hb hT inX9 tyX9 tyX9_ok nmX9 hown hK hP hD hS 0 rfl rfl 2 (by decide) (hT _ tb_139) (fun _ h9 => h9) rfl (by decide +kernel) rfl rfl (Nat.le_of_ble_eq_true rfl) dX9_open_15 (fun H locs hP hD hS => ?_)
  have hP : va_P D vwCl (w_X9_open cI cB cZ a_t a_t_bytes (if 260 < x1 then 260 else x1) 0 t_faultPlace t_place t_sign t_bytes) H := hP
  have hD : va_D A (w_X9_open cI cB cZ a_t a_t_bytes (if 260 < x1 then 260 else x1) 0 t_faultPlace t_place t_sign t_bytes) := hD
  refine lv_aload_n hx hb dX9_open_18 rfl (lv_at hl 0 rfl) ?_
  refine lv_iconst (v := 0) hx hb dX9_open_19 (by decide) ?_
  refine va_put (D := D) (ci := 8) (v := .int 0) (ty := (.int)) (C := RX9) (T := TX9) (N := 6) hx hb hT inX9 tyX9 tyX9_ok nmX9 hown hK hP hD hS 0 rfl rfl 3 (by decide) (hT _ tb_140) (fun _ h9 => h9) rfl (by decide +kernel) rfl rfl (Nat.le_of_ble_eq_true rfl) dX9_open_20 (fun H locs hP hD hS => ?_)
  have hP : va_P D vwCl (w_X9_open cI cB cZ a_t a_t_bytes (if 260 < x1 then 260 else x1) 0 0 t_place t_sign t_bytes) H := hP
  have hD : va_D A (w_X9_open cI cB cZ a_t a_t_bytes (if 260 < x1 then 260 else x1) 0 0 t_place t_sign t_bytes) := hD
  refine lv_aload_n hx hb dX9_open_23 rfl (lv_at hl 0 rfl) ?_
  refine lv_iconst (v := 0) hx hb dX9_open_24 (by decide) ?_
  refine va_put (D := D) (ci := 8) (v := .int 0) (ty := (.int)) (C := RX9) (T := TX9) (N := 6) hx hb hT inX9 tyX9 tyX9_ok nmX9 hown hK hP hD hS 0 rfl rfl 4 (by decide) (hT _ tb_141) (fun _ h9 => h9) rfl (by decide +kernel) rfl rfl (Nat.le_of_ble_eq_true rfl) dX9_open_25 (fun H locs hP hD hS => ?_)
  have hP : va_P D vwCl (w_X9_open cI cB cZ a_t a_t_bytes (if 260 < x1 then 260 else x1) 0 0 0 t_sign t_bytes) H := hP
  have hD : va_D A (w_X9_open cI cB cZ a_t a_t_bytes (if 260 < x1 then 260 else x1) 0 0 0 t_sign t_bytes) := hD
  refine lv_aload_n hx hb dX9_open_28 rfl (lv_at hl 0 rfl) ?_
  refine lv_aload_n hx hb dX9_open_29 rfl (lv_at hl 0 rfl) ?_
  refine va_get (D := D) (ci := 8) (v := .int (if 260 < x1 then 260 else x1)) (C := RX9) (T := TX9) (N := 6) hx hb hT inX9 hown hK hP 0 rfl rfl 1 (by decide) (hT _ tb_138) (fun _ h9 => h9) rfl dX9_open_30 ?_
  have J_46 : ∀ (y0 : Int32) (t_end : Int32) (t_fault : Int32) (t_faultPlace : Int32) (t_place : Int32) (t_sign : Int32) (H : Heap) (locs : List Loc) (ls : Array Slot), f_X9_open_46 t_bytes y0 t_end t_fault t_faultPlace t_place t_sign = some res → va_P D vwCl (w_X9_open cI cB cZ a_t a_t_bytes t_end t_fault t_faultPlace t_place t_sign t_bytes) H → va_D A (w_X9_open cI cB cZ a_t a_t_bytes t_end t_fault t_faultPlace t_place t_sign t_bytes) → va_S A s.heap H locs → lv_has ls 2 [] → W p l e R s m args below meth c H locs 0 0 Q (F0 m 46 ls [.int y0, .ref a_t]) := by
    intro y0 t_end t_fault t_faultPlace t_place t_sign H locs ls hf hP hD hS hl
    unfold f_X9_open_46 at hf
    refine va_put (D := D) (ci := 8) (v := .int y0) (ty := (.int)) (C := RX9) (T := TX9) (N := 6) hx hb hT inX9 tyX9 tyX9_ok nmX9 hown hK hP hD hS 0 rfl rfl 5 (by decide) (hT _ tb_145) (fun _ h9 => h9) rfl (by decide +kernel) rfl rfl (Nat.le_of_ble_eq_true rfl) dX9_open_46 (fun H locs hP hD hS => ?_)
    have hP : va_P D vwCl (w_X9_open cI cB cZ a_t a_t_bytes t_end t_fault t_faultPlace t_place y0 t_bytes) H := hP
    have hD : va_D A (w_X9_open cI cB cZ a_t a_t_bytes t_end t_fault t_faultPlace t_place y0 t_bytes) := hD
    obtain rfl := Option.some.inj hf
    exact hQ H locs 49 ls hP hD hS trivial dX9_open_49
  refine lv_if_le (tgt := 45) hx hb dX9_open_33 (by decide) (fun hc_33 => ?_) (fun hc_33 => ?_)
  · have hf := it_pos hc_33 hf
    refine lv_iconst (v := (-1)) hx hb dX9_open_45 (by decide) ?_
    exact J_46 _ _ _ _ _ _ _ _ _ hf hP hD hS (lv_sub hl [] rfl)
  · have hf := it_neg hc_33 hf
    refine lv_aload_n hx hb dX9_open_36 rfl (lv_at hl 0 rfl) ?_
    refine va_get (D := D) (ci := 8) (v := .ref a_t_bytes) (C := RX9) (T := TX9) (N := 6) hx hb hT inX9 hown hK hP 0 rfl rfl 0 (by decide) (hT _ tb_137) (fun _ h9 => h9) rfl dX9_open_37 ?_
    refine lv_iconst (v := 0) hx hb dX9_open_40 (by decide) ?_
    obtain ⟨hi_41, hf⟩ := ix_some hf
    refine va_iald hx hb hK hP 1 0 rfl rfl hi_41 dX9_open_41 ?_
    refine lv_goto (tgt := 46) hx hb dX9_open_42 (by decide) ?_
    exact J_46 _ _ _ _ _ _ _ _ _ hf hP hD hS (lv_sub hl [] rfl)
theorem hd_X9_open : (yX9_open).cls = RX9 ∧ (yX9_open).cls ≠ "java/lang/invoke/MethodHandle" ∧ (yX9_open).cls ≠ "java/lang/invoke/VarHandle" ∧ (parseMethodDescriptor (yX9_open).desc).map (fun d => d.parameters.length) = some 1 := by decide +kernel
theorem c_X9_open (l : Launch) (D : va_G) (cI cB cZ : ClassId) (a_t : Nat) (a_t_bytes : Nat) (t_end : Int32) (t_fault : Int32) (t_faultPlace : Int32) (t_place : Int32) (t_sign : Int32) (t_bytes : (Nat → Int32)) (x1 : Int32) (sz : Nat) (res : Int32 × Int32 × Int32 × Int32 × Int32) (hf : f_X9_open t_end t_fault t_faultPlace t_place t_sign t_bytes x1 = some res) : Met l yX9_open (.code yX9_open cX9_open 2 none :: TB) (rmk (1) (40)) (pRW [.ref a_t, .int x1] D cI cB cZ (w_X9_open cI cB cZ a_t a_t_bytes t_end t_fault t_faultPlace t_place t_sign t_bytes) sz) (qRW none True D (w_X9_open cI cB cZ a_t a_t_bytes t_end t_fault t_faultPlace t_place t_sign t_bytes) sz (w_X9_open cI cB cZ a_t a_t_bytes res.1 res.2.1 res.2.2.1 res.2.2.2.1 res.2.2.2.2 t_bytes)) 0 0 (va_A (w_X9_open cI cB cZ a_t a_t_bytes t_end t_fault t_faultPlace t_place t_sign t_bytes) sz) :=
  mkRW (by decide +kernel) (Nat.le_of_ble_eq_true rfl) (fun p e s m below meth c ls A hAe S hr hlk hK hA hP hD hS hl => b_X9_open S.1 S.2.1 S.2.2.1 S.2.2.2.1 S.2.2.2.2 (Nat.le_refl _) (Nat.le_refl _) hK.1 hK.2 hA s.heap [] a_t a_t_bytes t_end t_fault t_faultPlace t_place t_sign t_bytes x1 res hf hP hD hS (fun H locs pc ls hP hD hS hE hd => eRW_v S.1 S.2.1 hr hlk hAe hP hD hS hE hd) ls hl)
def f_X9_hasFault (t_fault : Int32) : Option (Int32) := (if t_fault = 0 then some (0) else some (1))
def w_X9_hasFault (cI cB cZ : ClassId) (a_t : Nat) (a_t_bytes : Nat) (t_end : Int32) (t_fault : Int32) (t_faultPlace : Int32) (t_place : Int32) (t_sign : Int32) : va_W := [(a_t, .inr (8, [.ref a_t_bytes, .int t_end, .int t_fault, .int t_faultPlace, .int t_place, .int t_sign]))]
set_option maxHeartbeats 4000000 in
set_option maxRecDepth 100000 in
theorem b_X9_hasFault {p : Program} {l : Launch} {e : Env} {R : Room} {s : State} {m : MethodId} {args : Array Value} {below : List Frame} {meth : Method} {c : Code} {Q : State → Prop} {D : va_G} {cI cB cZ : ClassId} (hx : p.tables.exec = Jvm.exec) (hb : c.code = cX9_hasFault) (hml : c.maxLocals = 1) (hown : s.vm.findClass RX9 = some m.cls) (hT : ∀ w ∈ TB, w.before args s = true) (hRf : (0) ≤ R.frames) (hRl : (0) ≤ R.locals) (hK : va_K D vwCl (tyL cI cB cZ) s) (hN : NW s)  (a_t : Nat) (a_t_bytes : Nat) (t_end : Int32) (t_fault : Int32) (t_faultPlace : Int32) (t_place : Int32) (t_sign : Int32) (res : Int32) (hf : f_X9_hasFault t_fault = some res) (hP : va_P D vwCl (w_X9_hasFault cI cB cZ a_t a_t_bytes t_end t_fault t_faultPlace t_place t_sign) s.heap) (hQ : ∀ (pc : Nat) (ls : Array Slot), (res = 0 ∨ res = 1) → decode cX9_hasFault pc = .ok (.ireturn, 1) → W p l e R s m args below meth c s.heap [] 0 0 Q (F0 m pc ls [.int res])) (ls : Array Slot) (hl : lv_has ls 1 [(0, .ref a_t)]) : W p l e R s m args below meth c s.heap [] 0 0 Q (F0 m 0 ls []) := by
  unfold f_X9_hasFault at hf
  refine lv_aload_n hx hb dX9_hasFault_0 rfl (lv_at hl 0 rfl) ?_
  refine va_get (D := D) (ci := 8) (v := .int t_fault) (C := RX9) (T := TX9) (N := 6) hx hb hT inX9 hown hK hP 0 rfl rfl 2 (by decide) (hT _ tb_139) (fun _ h9 => h9) rfl dX9_hasFault_1 ?_
  refine lv_if_eq (tgt := 11) hx hb dX9_hasFault_4 (by decide) (fun hc_4 => ?_) (fun hc_4 => ?_)
  · have hf := it_pos hc_4 hf
    refine lv_iconst (v := 0) hx hb dX9_hasFault_11 (by decide) ?_
    obtain rfl := Option.some.inj hf
    exact hQ 12 ls (Or.inl rfl) dX9_hasFault_12
  · have hf := it_neg hc_4 hf
    refine lv_iconst (v := 1) hx hb dX9_hasFault_7 (by decide) ?_
    refine lv_goto (tgt := 12) hx hb dX9_hasFault_8 (by decide) ?_
    obtain rfl := Option.some.inj hf
    exact hQ 12 ls (Or.inr rfl) dX9_hasFault_12
theorem hd_X9_hasFault : (yX9_hasFault).cls = RX9 ∧ (yX9_hasFault).cls ≠ "java/lang/invoke/MethodHandle" ∧ (yX9_hasFault).cls ≠ "java/lang/invoke/VarHandle" ∧ (parseMethodDescriptor (yX9_hasFault).desc).map (fun d => d.parameters.length) = some 0 := by decide +kernel
theorem c_X9_hasFault (l : Launch) (D : va_G) (cI cB cZ : ClassId) (a_t : Nat) (a_t_bytes : Nat) (t_end : Int32) (t_fault : Int32) (t_faultPlace : Int32) (t_place : Int32) (t_sign : Int32) (res : Int32) (hf : f_X9_hasFault t_fault = some res) : Met l yX9_hasFault (.code yX9_hasFault cX9_hasFault 1 (some .boolean) :: TB) (rmk (0) (0)) (pRO [.ref a_t] D cI cB cZ (w_X9_hasFault cI cB cZ a_t a_t_bytes t_end t_fault t_faultPlace t_place t_sign)) (qRO (some (.int res)) (res = 0 ∨ res = 1)) 0 0 (fun _ => False) :=
  mkRO (by decide +kernel) (Nat.le_of_ble_eq_true rfl) (fun p e s m below meth c ls S hr hlk hK hP hl => b_X9_hasFault S.1 S.2.1 S.2.2.1 S.2.2.2.1 S.2.2.2.2 (Nat.le_refl _) (Nat.le_refl _) hK.1 hK.2 a_t a_t_bytes t_end t_fault t_faultPlace t_place t_sign res hf hP (fun pc ls hE hd => eRO_i S.1 S.2.1 hr (nz_ok hE) hlk hE hd) ls hl)
def f_X9_faultAnswer (t_fault : Int32) (t_faultPlace : Int32) : Option (Int32) := some (((-1000) * t_fault) - t_faultPlace)
def w_X9_faultAnswer (cI cB cZ : ClassId) (a_t : Nat) (a_t_bytes : Nat) (t_end : Int32) (t_fault : Int32) (t_faultPlace : Int32) (t_place : Int32) (t_sign : Int32) : va_W := [(a_t, .inr (8, [.ref a_t_bytes, .int t_end, .int t_fault, .int t_faultPlace, .int t_place, .int t_sign]))]
set_option maxHeartbeats 4000000 in
set_option maxRecDepth 100000 in
theorem b_X9_faultAnswer {p : Program} {l : Launch} {e : Env} {R : Room} {s : State} {m : MethodId} {args : Array Value} {below : List Frame} {meth : Method} {c : Code} {Q : State → Prop} {D : va_G} {cI cB cZ : ClassId} (hx : p.tables.exec = Jvm.exec) (hb : c.code = cX9_faultAnswer) (hml : c.maxLocals = 1) (hown : s.vm.findClass RX9 = some m.cls) (hT : ∀ w ∈ TB, w.before args s = true) (hRf : (0) ≤ R.frames) (hRl : (0) ≤ R.locals) (hK : va_K D vwCl (tyL cI cB cZ) s) (hN : NW s)  (a_t : Nat) (a_t_bytes : Nat) (t_end : Int32) (t_fault : Int32) (t_faultPlace : Int32) (t_place : Int32) (t_sign : Int32) (res : Int32) (hf : f_X9_faultAnswer t_fault t_faultPlace = some res) (hP : va_P D vwCl (w_X9_faultAnswer cI cB cZ a_t a_t_bytes t_end t_fault t_faultPlace t_place t_sign) s.heap) (hQ : ∀ (pc : Nat) (ls : Array Slot), True → decode cX9_faultAnswer pc = .ok (.ireturn, 1) → W p l e R s m args below meth c s.heap [] 0 0 Q (F0 m pc ls [.int res])) (ls : Array Slot) (hl : lv_has ls 1 [(0, .ref a_t)]) : W p l e R s m args below meth c s.heap [] 0 0 Q (F0 m 0 ls []) := by
  unfold f_X9_faultAnswer at hf
  refine lv_sipush (v := (-1000)) hx hb dX9_faultAnswer_0 (by decide) ?_
  refine lv_aload_n hx hb dX9_faultAnswer_3 rfl (lv_at hl 0 rfl) ?_
  refine va_get (D := D) (ci := 8) (v := .int t_fault) (C := RX9) (T := TX9) (N := 6) hx hb hT inX9 hown hK hP 0 rfl rfl 2 (by decide) (hT _ tb_139) (fun _ h9 => h9) rfl dX9_faultAnswer_4 ?_
  refine lv_imul hx hb dX9_faultAnswer_7 ?_
  refine lv_aload_n hx hb dX9_faultAnswer_8 rfl (lv_at hl 0 rfl) ?_
  refine va_get (D := D) (ci := 8) (v := .int t_faultPlace) (C := RX9) (T := TX9) (N := 6) hx hb hT inX9 hown hK hP 0 rfl rfl 3 (by decide) (hT _ tb_140) (fun _ h9 => h9) rfl dX9_faultAnswer_9 ?_
  refine lv_isub hx hb dX9_faultAnswer_12 ?_
  obtain rfl := Option.some.inj hf
  exact hQ 13 ls trivial dX9_faultAnswer_13
theorem hd_X9_faultAnswer : (yX9_faultAnswer).cls = RX9 ∧ (yX9_faultAnswer).cls ≠ "java/lang/invoke/MethodHandle" ∧ (yX9_faultAnswer).cls ≠ "java/lang/invoke/VarHandle" ∧ (parseMethodDescriptor (yX9_faultAnswer).desc).map (fun d => d.parameters.length) = some 0 := by decide +kernel
theorem c_X9_faultAnswer (l : Launch) (D : va_G) (cI cB cZ : ClassId) (a_t : Nat) (a_t_bytes : Nat) (t_end : Int32) (t_fault : Int32) (t_faultPlace : Int32) (t_place : Int32) (t_sign : Int32) (res : Int32) (hf : f_X9_faultAnswer t_fault t_faultPlace = some res) : Met l yX9_faultAnswer (.code yX9_faultAnswer cX9_faultAnswer 1 (some .int) :: TB) (rmk (0) (0)) (pRO [.ref a_t] D cI cB cZ (w_X9_faultAnswer cI cB cZ a_t a_t_bytes t_end t_fault t_faultPlace t_place t_sign)) (qRO (some (.int res)) True) 0 0 (fun _ => False) :=
  mkRO (by decide +kernel) (Nat.le_of_ble_eq_true rfl) (fun p e s m below meth c ls S hr hlk hK hP hl => b_X9_faultAnswer S.1 S.2.1 S.2.2.1 S.2.2.2.1 S.2.2.2.2 (Nat.le_refl _) (Nat.le_refl _) hK.1 hK.2 a_t a_t_bytes t_end t_fault t_faultPlace t_place t_sign res hf hP (fun pc ls hE hd => eRO_i S.1 S.2.1 hr rfl hlk hE hd) ls hl)
def f_X9_fail (t_fault : Int32) (t_faultPlace : Int32) (x1 : Int32) (x2 : Int32) : Option (Int32 × Int32) := (if t_fault = 0 then some (x1, x2) else some (t_fault, t_faultPlace))
def w_X9_fail (cI cB cZ : ClassId) (a_t : Nat) (a_t_bytes : Nat) (t_end : Int32) (t_fault : Int32) (t_faultPlace : Int32) (t_place : Int32) (t_sign : Int32) : va_W := [(a_t, .inr (8, [.ref a_t_bytes, .int t_end, .int t_fault, .int t_faultPlace, .int t_place, .int t_sign]))]
set_option maxHeartbeats 4000000 in
set_option maxRecDepth 100000 in
theorem b_X9_fail {p : Program} {l : Launch} {e : Env} {R : Room} {s : State} {m : MethodId} {args : Array Value} {below : List Frame} {meth : Method} {c : Code} {Q : State → Prop} {D : va_G} {cI cB cZ : ClassId} (hx : p.tables.exec = Jvm.exec) (hb : c.code = cX9_fail) (hml : c.maxLocals = 3) (hown : s.vm.findClass RX9 = some m.cls) (hT : ∀ w ∈ TB, w.before args s = true) (hRf : (0) ≤ R.frames) (hRl : (0) ≤ R.locals) (hK : va_K D vwCl (tyL cI cB cZ) s) (hN : NW s) {A : Nat → Prop} (hA : ∀ q : Nat, s.heap.size ≤ q → A q) (H : Heap) (locs : List Loc)  (a_t : Nat) (a_t_bytes : Nat) (t_end : Int32) (t_fault : Int32) (t_faultPlace : Int32) (t_place : Int32) (t_sign : Int32) (x1 : Int32) (x2 : Int32) (res : Int32 × Int32) (hf : f_X9_fail t_fault t_faultPlace x1 x2 = some res) (hP : va_P D vwCl (w_X9_fail cI cB cZ a_t a_t_bytes t_end t_fault t_faultPlace t_place t_sign) H) (hD : va_D A (w_X9_fail cI cB cZ a_t a_t_bytes t_end t_fault t_faultPlace t_place t_sign)) (hS : va_S A s.heap H locs) (hQ : ∀ (H : Heap) (locs : List Loc) (pc : Nat) (ls : Array Slot), va_P D vwCl (w_X9_fail cI cB cZ a_t a_t_bytes t_end res.1 res.2 t_place t_sign) H → va_D A (w_X9_fail cI cB cZ a_t a_t_bytes t_end res.1 res.2 t_place t_sign) → va_S A s.heap H locs → True → decode cX9_fail pc = .ok (.return_, 1) → W p l e R s m args below meth c H locs 0 0 Q (F0 m pc ls [])) (ls : Array Slot) (hl : lv_has ls 3 [(0, .ref a_t), (1, .int x1), (2, .int x2)]) : W p l e R s m args below meth c H locs 0 0 Q (F0 m 0 ls []) := by
  unfold f_X9_fail at hf
  refine lv_aload_n hx hb dX9_fail_0 rfl (lv_at hl 0 rfl) ?_
  refine va_get (D := D) (ci := 8) (v := .int t_fault) (C := RX9) (T := TX9) (N := 6) hx hb hT inX9 hown hK hP 0 rfl rfl 2 (by decide) (hT _ tb_139) (fun _ h9 => h9) rfl dX9_fail_1 ?_
  refine lv_if_ne (tgt := 17) hx hb dX9_fail_4 (by decide) (fun hc_4 => ?_) (fun hc_4 => ?_)
  · have hf := it_neg hc_4 hf
    obtain rfl := Option.some.inj hf
    exact hQ H locs 17 ls hP hD hS trivial dX9_fail_17
  · have hf := it_pos hc_4 hf
    refine lv_aload_n hx hb dX9_fail_7 rfl (lv_at hl 0 rfl) ?_
    refine lv_iload_n hx hb dX9_fail_8 rfl (lv_at hl 1 rfl) ?_
    refine va_put (D := D) (ci := 8) (v := .int x1) (ty := (.int)) (C := RX9) (T := TX9) (N := 6) hx hb hT inX9 tyX9 tyX9_ok nmX9 hown hK hP hD hS 0 rfl rfl 2 (by decide) (hT _ tb_139) (fun _ h9 => h9) rfl (by decide +kernel) rfl rfl (Nat.le_of_ble_eq_true rfl) dX9_fail_9 (fun H locs hP hD hS => ?_)
    have hP : va_P D vwCl (w_X9_fail cI cB cZ a_t a_t_bytes t_end x1 t_faultPlace t_place t_sign) H := hP
    have hD : va_D A (w_X9_fail cI cB cZ a_t a_t_bytes t_end x1 t_faultPlace t_place t_sign) := hD
    refine lv_aload_n hx hb dX9_fail_12 rfl (lv_at hl 0 rfl) ?_
    refine lv_iload_n hx hb dX9_fail_13 rfl (lv_at hl 2 rfl) ?_
    refine va_put (D := D) (ci := 8) (v := .int x2) (ty := (.int)) (C := RX9) (T := TX9) (N := 6) hx hb hT inX9 tyX9 tyX9_ok nmX9 hown hK hP hD hS 0 rfl rfl 3 (by decide) (hT _ tb_140) (fun _ h9 => h9) rfl (by decide +kernel) rfl rfl (Nat.le_of_ble_eq_true rfl) dX9_fail_14 (fun H locs hP hD hS => ?_)
    have hP : va_P D vwCl (w_X9_fail cI cB cZ a_t a_t_bytes t_end x1 x2 t_place t_sign) H := hP
    have hD : va_D A (w_X9_fail cI cB cZ a_t a_t_bytes t_end x1 x2 t_place t_sign) := hD
    obtain rfl := Option.some.inj hf
    exact hQ H locs 17 ls hP hD hS trivial dX9_fail_17
theorem hd_X9_fail : (yX9_fail).cls = RX9 ∧ (yX9_fail).cls ≠ "java/lang/invoke/MethodHandle" ∧ (yX9_fail).cls ≠ "java/lang/invoke/VarHandle" ∧ (parseMethodDescriptor (yX9_fail).desc).map (fun d => d.parameters.length) = some 2 := by decide +kernel
theorem c_X9_fail (l : Launch) (D : va_G) (cI cB cZ : ClassId) (a_t : Nat) (a_t_bytes : Nat) (t_end : Int32) (t_fault : Int32) (t_faultPlace : Int32) (t_place : Int32) (t_sign : Int32) (x1 : Int32) (x2 : Int32) (sz : Nat) (res : Int32 × Int32) (hf : f_X9_fail t_fault t_faultPlace x1 x2 = some res) : Met l yX9_fail (.code yX9_fail cX9_fail 3 none :: TB) (rmk (0) (0)) (pRW [.ref a_t, .int x1, .int x2] D cI cB cZ (w_X9_fail cI cB cZ a_t a_t_bytes t_end t_fault t_faultPlace t_place t_sign) sz) (qRW none True D (w_X9_fail cI cB cZ a_t a_t_bytes t_end t_fault t_faultPlace t_place t_sign) sz (w_X9_fail cI cB cZ a_t a_t_bytes t_end res.1 res.2 t_place t_sign)) 0 0 (va_A (w_X9_fail cI cB cZ a_t a_t_bytes t_end t_fault t_faultPlace t_place t_sign) sz) :=
  mkRW (by decide +kernel) (Nat.le_of_ble_eq_true rfl) (fun p e s m below meth c ls A hAe S hr hlk hK hA hP hD hS hl => b_X9_fail S.1 S.2.1 S.2.2.1 S.2.2.2.1 S.2.2.2.2 (Nat.le_refl _) (Nat.le_refl _) hK.1 hK.2 hA s.heap [] a_t a_t_bytes t_end t_fault t_faultPlace t_place t_sign x1 x2 res hf hP hD hS (fun H locs pc ls hP hD hS hE hd => eRW_v S.1 S.2.1 hr hlk hAe hP hD hS hE hd) ls hl)
def f_X9_isDigit (t_sign : Int32) : Option (Int32) := (if t_sign < 48 then some (0) else (if 57 < t_sign then some (0) else some (1)))
def w_X9_isDigit (cI cB cZ : ClassId) (a_t : Nat) (a_t_bytes : Nat) (t_end : Int32) (t_fault : Int32) (t_faultPlace : Int32) (t_place : Int32) (t_sign : Int32) : va_W := [(a_t, .inr (8, [.ref a_t_bytes, .int t_end, .int t_fault, .int t_faultPlace, .int t_place, .int t_sign]))]
set_option maxHeartbeats 4000000 in
set_option maxRecDepth 100000 in
theorem b_X9_isDigit {p : Program} {l : Launch} {e : Env} {R : Room} {s : State} {m : MethodId} {args : Array Value} {below : List Frame} {meth : Method} {c : Code} {Q : State → Prop} {D : va_G} {cI cB cZ : ClassId} (hx : p.tables.exec = Jvm.exec) (hb : c.code = cX9_isDigit) (hml : c.maxLocals = 1) (hown : s.vm.findClass RX9 = some m.cls) (hT : ∀ w ∈ TB, w.before args s = true) (hRf : (0) ≤ R.frames) (hRl : (0) ≤ R.locals) (hK : va_K D vwCl (tyL cI cB cZ) s) (hN : NW s)  (a_t : Nat) (a_t_bytes : Nat) (t_end : Int32) (t_fault : Int32) (t_faultPlace : Int32) (t_place : Int32) (t_sign : Int32) (res : Int32) (hf : f_X9_isDigit t_sign = some res) (hP : va_P D vwCl (w_X9_isDigit cI cB cZ a_t a_t_bytes t_end t_fault t_faultPlace t_place t_sign) s.heap) (hQ : ∀ (pc : Nat) (ls : Array Slot), (res = 0 ∨ res = 1) → decode cX9_isDigit pc = .ok (.ireturn, 1) → W p l e R s m args below meth c s.heap [] 0 0 Q (F0 m pc ls [.int res])) (ls : Array Slot) (hl : lv_has ls 1 [(0, .ref a_t)]) : W p l e R s m args below meth c s.heap [] 0 0 Q (F0 m 0 ls []) := by
  unfold f_X9_isDigit at hf
  refine lv_aload_n hx hb dX9_isDigit_0 rfl (lv_at hl 0 rfl) ?_
  refine va_get (D := D) (ci := 8) (v := .int t_sign) (C := RX9) (T := TX9) (N := 6) hx hb hT inX9 hown hK hP 0 rfl rfl 5 (by decide) (hT _ tb_145) (fun _ h9 => h9) rfl dX9_isDigit_1 ?_
  refine lv_bipush (v := 48) hx hb dX9_isDigit_4 (by decide) ?_
  refine lv_icmp_lt (tgt := 22) hx hb dX9_isDigit_6 (by decide) (fun hc_6 => ?_) (fun hc_6 => ?_)
  · have hf := it_pos hc_6 hf
    refine lv_iconst (v := 0) hx hb dX9_isDigit_22 (by decide) ?_
    obtain rfl := Option.some.inj hf
    exact hQ 23 ls (Or.inl rfl) dX9_isDigit_23
  · have hf := it_neg hc_6 hf
    refine lv_aload_n hx hb dX9_isDigit_9 rfl (lv_at hl 0 rfl) ?_
    refine va_get (D := D) (ci := 8) (v := .int t_sign) (C := RX9) (T := TX9) (N := 6) hx hb hT inX9 hown hK hP 0 rfl rfl 5 (by decide) (hT _ tb_145) (fun _ h9 => h9) rfl dX9_isDigit_10 ?_
    refine lv_bipush (v := 57) hx hb dX9_isDigit_13 (by decide) ?_
    refine lv_icmp_gt (tgt := 22) hx hb dX9_isDigit_15 (by decide) (fun hc_15 => ?_) (fun hc_15 => ?_)
    · have hf := it_pos hc_15 hf
      refine lv_iconst (v := 0) hx hb dX9_isDigit_22 (by decide) ?_
      obtain rfl := Option.some.inj hf
      exact hQ 23 ls (Or.inl rfl) dX9_isDigit_23
    · have hf := it_neg hc_15 hf
      refine lv_iconst (v := 1) hx hb dX9_isDigit_18 (by decide) ?_
      refine lv_goto (tgt := 23) hx hb dX9_isDigit_19 (by decide) ?_
      obtain rfl := Option.some.inj hf
      exact hQ 23 ls (Or.inr rfl) dX9_isDigit_23
theorem hd_X9_isDigit : (yX9_isDigit).cls = RX9 ∧ (yX9_isDigit).cls ≠ "java/lang/invoke/MethodHandle" ∧ (yX9_isDigit).cls ≠ "java/lang/invoke/VarHandle" ∧ (parseMethodDescriptor (yX9_isDigit).desc).map (fun d => d.parameters.length) = some 0 := by decide +kernel
theorem c_X9_isDigit (l : Launch) (D : va_G) (cI cB cZ : ClassId) (a_t : Nat) (a_t_bytes : Nat) (t_end : Int32) (t_fault : Int32) (t_faultPlace : Int32) (t_place : Int32) (t_sign : Int32) (res : Int32) (hf : f_X9_isDigit t_sign = some res) : Met l yX9_isDigit (.code yX9_isDigit cX9_isDigit 1 (some .boolean) :: TB) (rmk (0) (0)) (pRO [.ref a_t] D cI cB cZ (w_X9_isDigit cI cB cZ a_t a_t_bytes t_end t_fault t_faultPlace t_place t_sign)) (qRO (some (.int res)) (res = 0 ∨ res = 1)) 0 0 (fun _ => False) :=
  mkRO (by decide +kernel) (Nat.le_of_ble_eq_true rfl) (fun p e s m below meth c ls S hr hlk hK hP hl => b_X9_isDigit S.1 S.2.1 S.2.2.1 S.2.2.2.1 S.2.2.2.2 (Nat.le_refl _) (Nat.le_refl _) hK.1 hK.2 a_t a_t_bytes t_end t_fault t_faultPlace t_place t_sign res hf hP (fun pc ls hE hd => eRO_i S.1 S.2.1 hr (nz_ok hE) hlk hE hd) ls hl)
def f_X9_skip_46 (t_end : Int32) (t_bytes : (Nat → Int32)) (y0 : Int32) (t_place : Int32) (t_sign : Int32) : Option (Int32 × Int32) := some (t_place, y0)
def f_X9_skip_21 (t_end : Int32) (t_bytes : (Nat → Int32)) (t_place : Int32) (t_sign : Int32) : Option (Int32 × Int32) := (if t_end ≤ t_place then f_X9_skip_46 t_end t_bytes (-1) t_place t_sign else ix 260 t_place (f_X9_skip_46 t_end t_bytes (t_bytes t_place.toNatClampNeg) t_place t_sign))
def f_X9_skip (t_end : Int32) (t_place : Int32) (t_sign : Int32) (t_bytes : (Nat → Int32)) : Option (Int32 × Int32) := (if t_end ≤ t_place then f_X9_skip_21 t_end t_bytes t_place t_sign else f_X9_skip_21 t_end t_bytes (t_place + 1) t_sign)
def w_X9_skip (cI cB cZ : ClassId) (a_t : Nat) (a_t_bytes : Nat) (t_end : Int32) (t_fault : Int32) (t_faultPlace : Int32) (t_place : Int32) (t_sign : Int32) (t_bytes : (Nat → Int32)) : va_W := [(a_t, .inr (8, [.ref a_t_bytes, .int t_end, .int t_fault, .int t_faultPlace, .int t_place, .int t_sign])), (a_t_bytes, .inl (cI, 260, .inl t_bytes))]
set_option maxHeartbeats 4000000 in
set_option maxRecDepth 100000 in
theorem b_X9_skip {p : Program} {l : Launch} {e : Env} {R : Room} {s : State} {m : MethodId} {args : Array Value} {below : List Frame} {meth : Method} {c : Code} {Q : State → Prop} {D : va_G} {cI cB cZ : ClassId} (hx : p.tables.exec = Jvm.exec) (hb : c.code = cX9_skip) (hml : c.maxLocals = 1) (hown : s.vm.findClass RX9 = some m.cls) (hT : ∀ w ∈ TB, w.before args s = true) (hRf : (0) ≤ R.frames) (hRl : (0) ≤ R.locals) (hK : va_K D vwCl (tyL cI cB cZ) s) (hN : NW s) {A : Nat → Prop} (hA : ∀ q : Nat, s.heap.size ≤ q → A q) (H : Heap) (locs : List Loc)  (a_t : Nat) (a_t_bytes : Nat) (t_end : Int32) (t_fault : Int32) (t_faultPlace : Int32) (t_place : Int32) (t_sign : Int32) (t_bytes : (Nat → Int32)) (res : Int32 × Int32) (hf : f_X9_skip t_end t_place t_sign t_bytes = some res) (hP : va_P D vwCl (w_X9_skip cI cB cZ a_t a_t_bytes t_end t_fault t_faultPlace t_place t_sign t_bytes) H) (hD : va_D A (w_X9_skip cI cB cZ a_t a_t_bytes t_end t_fault t_faultPlace t_place t_sign t_bytes)) (hS : va_S A s.heap H locs) (hQ : ∀ (H : Heap) (locs : List Loc) (pc : Nat) (ls : Array Slot), va_P D vwCl (w_X9_skip cI cB cZ a_t a_t_bytes t_end t_fault t_faultPlace res.1 res.2 t_bytes) H → va_D A (w_X9_skip cI cB cZ a_t a_t_bytes t_end t_fault t_faultPlace res.1 res.2 t_bytes) → va_S A s.heap H locs → True → decode cX9_skip pc = .ok (.return_, 1) → W p l e R s m args below meth c H locs 0 0 Q (F0 m pc ls [])) (ls : Array Slot) (hl : lv_has ls 1 [(0, .ref a_t)]) : W p l e R s m args below meth c H locs 0 0 Q (F0 m 0 ls []) := by
  unfold f_X9_skip at hf
  refine lv_aload_n hx hb dX9_skip_0 rfl (lv_at hl 0 rfl) ?_
  refine va_get (D := D) (ci := 8) (v := .int t_place) (C := RX9) (T := TX9) (N := 6) hx hb hT inX9 hown hK hP 0 rfl rfl 4 (by decide) (hT _ tb_141) (fun _ h9 => h9) rfl dX9_skip_1 ?_
  refine lv_aload_n hx hb dX9_skip_4 rfl (lv_at hl 0 rfl) ?_
  refine va_get (D := D) (ci := 8) (v := .int t_end) (C := RX9) (T := TX9) (N := 6) hx hb hT inX9 hown hK hP 0 rfl rfl 1 (by decide) (hT _ tb_138) (fun _ h9 => h9) rfl dX9_skip_5 ?_
  have J_21 : ∀ (t_place : Int32) (t_sign : Int32) (H : Heap) (locs : List Loc) (ls : Array Slot), f_X9_skip_21 t_end t_bytes t_place t_sign = some res → va_P D vwCl (w_X9_skip cI cB cZ a_t a_t_bytes t_end t_fault t_faultPlace t_place t_sign t_bytes) H → va_D A (w_X9_skip cI cB cZ a_t a_t_bytes t_end t_fault t_faultPlace t_place t_sign t_bytes) → va_S A s.heap H locs → lv_has ls 1 [(0, .ref a_t)] → W p l e R s m args below meth c H locs 0 0 Q (F0 m 21 ls []) := by
    intro t_place t_sign H locs ls hf hP hD hS hl
    unfold f_X9_skip_21 at hf
    refine lv_aload_n hx hb dX9_skip_21 rfl (lv_at hl 0 rfl) ?_
    refine lv_aload_n hx hb dX9_skip_22 rfl (lv_at hl 0 rfl) ?_
    refine va_get (D := D) (ci := 8) (v := .int t_place) (C := RX9) (T := TX9) (N := 6) hx hb hT inX9 hown hK hP 0 rfl rfl 4 (by decide) (hT _ tb_141) (fun _ h9 => h9) rfl dX9_skip_23 ?_
    refine lv_aload_n hx hb dX9_skip_26 rfl (lv_at hl 0 rfl) ?_
    refine va_get (D := D) (ci := 8) (v := .int t_end) (C := RX9) (T := TX9) (N := 6) hx hb hT inX9 hown hK hP 0 rfl rfl 1 (by decide) (hT _ tb_138) (fun _ h9 => h9) rfl dX9_skip_27 ?_
    have J_46 : ∀ (y0 : Int32) (t_place : Int32) (t_sign : Int32) (H : Heap) (locs : List Loc) (ls : Array Slot), f_X9_skip_46 t_end t_bytes y0 t_place t_sign = some res → va_P D vwCl (w_X9_skip cI cB cZ a_t a_t_bytes t_end t_fault t_faultPlace t_place t_sign t_bytes) H → va_D A (w_X9_skip cI cB cZ a_t a_t_bytes t_end t_fault t_faultPlace t_place t_sign t_bytes) → va_S A s.heap H locs → lv_has ls 1 [] → W p l e R s m args below meth c H locs 0 0 Q (F0 m 46 ls [.int y0, .ref a_t]) := by
      intro y0 t_place t_sign H locs ls hf hP hD hS hl
      unfold f_X9_skip_46 at hf
      refine va_put (D := D) (ci := 8) (v := .int y0) (ty := (.int)) (C := RX9) (T := TX9) (N := 6) hx hb hT inX9 tyX9 tyX9_ok nmX9 hown hK hP hD hS 0 rfl rfl 5 (by decide) (hT _ tb_145) (fun _ h9 => h9) rfl (by decide +kernel) rfl rfl (Nat.le_of_ble_eq_true rfl) dX9_skip_46 (fun H locs hP hD hS => ?_)
      have hP : va_P D vwCl (w_X9_skip cI cB cZ a_t a_t_bytes t_end t_fault t_faultPlace t_place y0 t_bytes) H := hP
      have hD : va_D A (w_X9_skip cI cB cZ a_t a_t_bytes t_end t_fault t_faultPlace t_place y0 t_bytes) := hD
      obtain rfl := Option.some.inj hf
      exact hQ H locs 49 ls hP hD hS trivial dX9_skip_49
    refine lv_icmp_ge (tgt := 45) hx hb dX9_skip_30 (by decide) (fun hc_30 => ?_) (fun hc_30 => ?_)
    · have hf := it_pos hc_30 hf
      refine lv_iconst (v := (-1)) hx hb dX9_skip_45 (by decide) ?_
      exact J_46 _ _ _ _ _ _ hf hP hD hS (lv_sub hl [] rfl)
    · have hf := it_neg hc_30 hf
      refine lv_aload_n hx hb dX9_skip_33 rfl (lv_at hl 0 rfl) ?_
      refine va_get (D := D) (ci := 8) (v := .ref a_t_bytes) (C := RX9) (T := TX9) (N := 6) hx hb hT inX9 hown hK hP 0 rfl rfl 0 (by decide) (hT _ tb_137) (fun _ h9 => h9) rfl dX9_skip_34 ?_
      refine lv_aload_n hx hb dX9_skip_37 rfl (lv_at hl 0 rfl) ?_
      refine va_get (D := D) (ci := 8) (v := .int t_place) (C := RX9) (T := TX9) (N := 6) hx hb hT inX9 hown hK hP 0 rfl rfl 4 (by decide) (hT _ tb_141) (fun _ h9 => h9) rfl dX9_skip_38 ?_
      obtain ⟨hi_41, hf⟩ := ix_some hf
      refine va_iald hx hb hK hP 1 0 rfl rfl hi_41 dX9_skip_41 ?_
      refine lv_goto (tgt := 46) hx hb dX9_skip_42 (by decide) ?_
      exact J_46 _ _ _ _ _ _ hf hP hD hS (lv_sub hl [] rfl)
  refine lv_icmp_ge (tgt := 21) hx hb dX9_skip_8 (by decide) (fun hc_8 => ?_) (fun hc_8 => ?_)
  · have hf := it_pos hc_8 hf
    exact J_21 _ _ _ _ _ hf hP hD hS (lv_sub hl [0] rfl)
  · have hf := it_neg hc_8 hf
    refine lv_aload_n hx hb dX9_skip_11 rfl (lv_at hl 0 rfl) ?_
    refine lv_dup hx hb dX9_skip_12 rfl ?_
    refine va_get (D := D) (ci := 8) (v := .int t_place) (C := RX9) (T := TX9) (N := 6) hx hb hT inX9 hown hK hP 0 rfl rfl 4 (by decide) (hT _ tb_141) (fun _ h9 => h9) rfl dX9_skip_13 ?_
    refine lv_iconst (v := 1) hx hb dX9_skip_16 (by decide) ?_
    refine lv_iadd hx hb dX9_skip_17 ?_
    refine va_put (D := D) (ci := 8) (v := .int (t_place + 1)) (ty := (.int)) (C := RX9) (T := TX9) (N := 6) hx hb hT inX9 tyX9 tyX9_ok nmX9 hown hK hP hD hS 0 rfl rfl 4 (by decide) (hT _ tb_141) (fun _ h9 => h9) rfl (by decide +kernel) rfl rfl (Nat.le_of_ble_eq_true rfl) dX9_skip_18 (fun H locs hP hD hS => ?_)
    have hP : va_P D vwCl (w_X9_skip cI cB cZ a_t a_t_bytes t_end t_fault t_faultPlace (t_place + 1) t_sign t_bytes) H := hP
    have hD : va_D A (w_X9_skip cI cB cZ a_t a_t_bytes t_end t_fault t_faultPlace (t_place + 1) t_sign t_bytes) := hD
    exact J_21 _ _ _ _ _ hf hP hD hS (lv_sub hl [0] rfl)
theorem hd_X9_skip : (yX9_skip).cls = RX9 ∧ (yX9_skip).cls ≠ "java/lang/invoke/MethodHandle" ∧ (yX9_skip).cls ≠ "java/lang/invoke/VarHandle" ∧ (parseMethodDescriptor (yX9_skip).desc).map (fun d => d.parameters.length) = some 0 := by decide +kernel
theorem c_X9_skip (l : Launch) (D : va_G) (cI cB cZ : ClassId) (a_t : Nat) (a_t_bytes : Nat) (t_end : Int32) (t_fault : Int32) (t_faultPlace : Int32) (t_place : Int32) (t_sign : Int32) (t_bytes : (Nat → Int32)) (sz : Nat) (res : Int32 × Int32) (hf : f_X9_skip t_end t_place t_sign t_bytes = some res) : Met l yX9_skip (.code yX9_skip cX9_skip 1 none :: TB) (rmk (0) (0)) (pRW [.ref a_t] D cI cB cZ (w_X9_skip cI cB cZ a_t a_t_bytes t_end t_fault t_faultPlace t_place t_sign t_bytes) sz) (qRW none True D (w_X9_skip cI cB cZ a_t a_t_bytes t_end t_fault t_faultPlace t_place t_sign t_bytes) sz (w_X9_skip cI cB cZ a_t a_t_bytes t_end t_fault t_faultPlace res.1 res.2 t_bytes)) 0 0 (va_A (w_X9_skip cI cB cZ a_t a_t_bytes t_end t_fault t_faultPlace t_place t_sign t_bytes) sz) :=
  mkRW (by decide +kernel) (Nat.le_of_ble_eq_true rfl) (fun p e s m below meth c ls A hAe S hr hlk hK hA hP hD hS hl => b_X9_skip S.1 S.2.1 S.2.2.1 S.2.2.2.1 S.2.2.2.2 (Nat.le_refl _) (Nat.le_refl _) hK.1 hK.2 hA s.heap [] a_t a_t_bytes t_end t_fault t_faultPlace t_place t_sign t_bytes res hf hP hD hS (fun H locs pc ls hP hD hS hE hd => eRW_v S.1 S.2.1 hr hlk hAe hP hD hS hE hd) ls hl)
def f_X9_passes (t_end : Int32) (t_fault : Int32) (t_place : Int32) (t_sign : Int32) (t_bytes : (Nat → Int32)) (x1 : Int32) : Option (Int32 × Int32 × Int32) := (f_X9_hasFault t_fault).bind (fun z1 => (if z1 = 0 then (if t_sign = x1 then (f_X9_skip t_end t_place t_sign t_bytes).bind (fun z18 => some (1, z18.1, z18.2)) else some (0, t_place, t_sign)) else some (0, t_place, t_sign)))
def w_X9_passes (cI cB cZ : ClassId) (a_t : Nat) (a_t_bytes : Nat) (t_end : Int32) (t_fault : Int32) (t_faultPlace : Int32) (t_place : Int32) (t_sign : Int32) (t_bytes : (Nat → Int32)) : va_W := [(a_t, .inr (8, [.ref a_t_bytes, .int t_end, .int t_fault, .int t_faultPlace, .int t_place, .int t_sign])), (a_t_bytes, .inl (cI, 260, .inl t_bytes))]
set_option maxHeartbeats 4000000 in
set_option maxRecDepth 100000 in
theorem b_X9_passes {p : Program} {l : Launch} {e : Env} {R : Room} {s : State} {m : MethodId} {args : Array Value} {below : List Frame} {meth : Method} {c : Code} {Q : State → Prop} {D : va_G} {cI cB cZ : ClassId} (hx : p.tables.exec = Jvm.exec) (hb : c.code = cX9_passes) (hml : c.maxLocals = 2) (hown : s.vm.findClass RX9 = some m.cls) (hT : ∀ w ∈ TB, w.before args s = true) (hRf : (1) ≤ R.frames) (hRl : (20) ≤ R.locals) (hK : va_K D vwCl (tyL cI cB cZ) s) (hN : NW s) {A : Nat → Prop} (hA : ∀ q : Nat, s.heap.size ≤ q → A q) (H : Heap) (locs : List Loc)  (a_t : Nat) (a_t_bytes : Nat) (t_end : Int32) (t_fault : Int32) (t_faultPlace : Int32) (t_place : Int32) (t_sign : Int32) (t_bytes : (Nat → Int32)) (x1 : Int32) (res : Int32 × Int32 × Int32) (hf : f_X9_passes t_end t_fault t_place t_sign t_bytes x1 = some res) (hP : va_P D vwCl (w_X9_passes cI cB cZ a_t a_t_bytes t_end t_fault t_faultPlace t_place t_sign t_bytes) H) (hD : va_D A (w_X9_passes cI cB cZ a_t a_t_bytes t_end t_fault t_faultPlace t_place t_sign t_bytes)) (hS : va_S A s.heap H locs) (hQ : ∀ (H : Heap) (locs : List Loc) (pc : Nat) (ls : Array Slot), va_P D vwCl (w_X9_passes cI cB cZ a_t a_t_bytes t_end t_fault t_faultPlace res.2.1 res.2.2 t_bytes) H → va_D A (w_X9_passes cI cB cZ a_t a_t_bytes t_end t_fault t_faultPlace res.2.1 res.2.2 t_bytes) → va_S A s.heap H locs → (res.1 = 0 ∨ res.1 = 1) → decode cX9_passes pc = .ok (.ireturn, 1) → W p l e R s m args below meth c H locs 0 0 Q (F0 m pc ls [.int res.1])) (ls : Array Slot) (hl : lv_has ls 2 [(0, .ref a_t), (1, .int x1)]) : W p l e R s m args below meth c H locs 0 0 Q (F0 m 0 ls []) := by
  unfold f_X9_passes at hf
  refine lv_aload_n hx hb dX9_passes_0 rfl (lv_at hl 0 rfl) ?_
  obtain ⟨z1, e1, hf⟩ := bd_some hf
  refine rV_RO (As := []) (rest := []) ⟨hx, hb, hml, hown, hT⟩ (gdV tb_444 tb_445 tb_446 tb_87 tb_447) hd_X9_hasFault (c_X9_hasFault l D cI cB cZ a_t a_t_bytes t_end t_fault t_faultPlace t_place t_sign z1 e1) ⟨rfl, rfl⟩ ⟨Nat.le_trans (by decide) hRf, Nat.le_trans (by decide) hRl⟩ ⟨hK, hN⟩ hP [0] rfl 0 rfl rfl rfl hl.1 rfl (Nat.le_of_ble_eq_true rfl) ⟨Nat.zero_le _, Nat.zero_le _⟩ dX9_passes_1 (fun hz_1 => ?_)
  refine lv_if_ne (tgt := 15) hx hb dX9_passes_4 (by decide) (fun hc_4 => ?_) (fun hc_4 => ?_)
  · have hf := it_neg hc_4 hf
    refine lv_iconst (v := 0) hx hb dX9_passes_15 (by decide) ?_
    obtain rfl := Option.some.inj hf
    exact hQ H locs 16 ls hP hD hS (Or.inl rfl) dX9_passes_16
  · have hf := it_pos hc_4 hf
    refine lv_aload_n hx hb dX9_passes_7 rfl (lv_at hl 0 rfl) ?_
    refine va_get (D := D) (ci := 8) (v := .int t_sign) (C := RX9) (T := TX9) (N := 6) hx hb hT inX9 hown hK hP 0 rfl rfl 5 (by decide) (hT _ tb_145) (fun _ h9 => h9) rfl dX9_passes_8 ?_
    refine lv_iload_n hx hb dX9_passes_11 rfl (lv_at hl 1 rfl) ?_
    refine lv_icmp_eq (tgt := 17) hx hb dX9_passes_12 (by decide) (fun hc_12 => ?_) (fun hc_12 => ?_)
    · have hf := it_pos hc_12 hf
      refine lv_aload_n hx hb dX9_passes_17 rfl (lv_at hl 0 rfl) ?_
      obtain ⟨z18, e18, hf⟩ := bd_some hf
      refine rV_RW (As := []) (rest := []) (w2 := (w_X9_passes cI cB cZ a_t a_t_bytes t_end t_fault t_faultPlace z18.1 z18.2 t_bytes)) ⟨hx, hb, hml, hown, hT⟩ (gdV tb_542 tb_543 tb_544 tb_87 tb_545) hd_X9_skip (c_X9_skip l D cI cB cZ a_t a_t_bytes t_end t_fault t_faultPlace t_place t_sign t_bytes H.size z18 e18) ⟨rfl, rfl⟩ ⟨Nat.le_trans (by decide) hRf, Nat.le_trans (by decide) hRl⟩ ⟨hK, hN⟩ hA hP hD hS [0, 1] [] rfl (by decide) (wr := []) rfl (by decide) (by decide) [0, 1] rfl (by decide) 0 rfl rfl rfl hl.1 rfl (Nat.le_of_ble_eq_true rfl) ⟨Nat.zero_le _, Nat.zero_le _⟩ dX9_passes_18 (fun H locs hP hD hS _ => ?_)
      refine lv_iconst (v := 1) hx hb dX9_passes_21 (by decide) ?_
      obtain rfl := Option.some.inj hf
      exact hQ H locs 22 ls hP hD hS (Or.inr rfl) dX9_passes_22
    · have hf := it_neg hc_12 hf
      refine lv_iconst (v := 0) hx hb dX9_passes_15 (by decide) ?_
      obtain rfl := Option.some.inj hf
      exact hQ H locs 16 ls hP hD hS (Or.inl rfl) dX9_passes_16
theorem hd_X9_passes : (yX9_passes).cls = RX9 ∧ (yX9_passes).cls ≠ "java/lang/invoke/MethodHandle" ∧ (yX9_passes).cls ≠ "java/lang/invoke/VarHandle" ∧ (parseMethodDescriptor (yX9_passes).desc).map (fun d => d.parameters.length) = some 1 := by decide +kernel
theorem c_X9_passes (l : Launch) (D : va_G) (cI cB cZ : ClassId) (a_t : Nat) (a_t_bytes : Nat) (t_end : Int32) (t_fault : Int32) (t_faultPlace : Int32) (t_place : Int32) (t_sign : Int32) (t_bytes : (Nat → Int32)) (x1 : Int32) (sz : Nat) (res : Int32 × Int32 × Int32) (hf : f_X9_passes t_end t_fault t_place t_sign t_bytes x1 = some res) : Met l yX9_passes (.code yX9_passes cX9_passes 2 (some .boolean) :: TB) (rmk (1) (20)) (pRW [.ref a_t, .int x1] D cI cB cZ (w_X9_passes cI cB cZ a_t a_t_bytes t_end t_fault t_faultPlace t_place t_sign t_bytes) sz) (qRW (some (.int res.1)) (res.1 = 0 ∨ res.1 = 1) D (w_X9_passes cI cB cZ a_t a_t_bytes t_end t_fault t_faultPlace t_place t_sign t_bytes) sz (w_X9_passes cI cB cZ a_t a_t_bytes t_end t_fault t_faultPlace res.2.1 res.2.2 t_bytes)) 0 0 (va_A (w_X9_passes cI cB cZ a_t a_t_bytes t_end t_fault t_faultPlace t_place t_sign t_bytes) sz) :=
  mkRW (by decide +kernel) (Nat.le_of_ble_eq_true rfl) (fun p e s m below meth c ls A hAe S hr hlk hK hA hP hD hS hl => b_X9_passes S.1 S.2.1 S.2.2.1 S.2.2.2.1 S.2.2.2.2 (Nat.le_refl _) (Nat.le_refl _) hK.1 hK.2 hA s.heap [] a_t a_t_bytes t_end t_fault t_faultPlace t_place t_sign t_bytes x1 res hf hP hD hS (fun H locs pc ls hP hD hS hE hd => eRW_i S.1 S.2.1 hr (nz_ok hE) hlk hAe hP hD hS hE hd) ls hl)
def f_X9_expects_15 (t_end : Int32) (t_bytes : (Nat → Int32)) (t_fault : Int32) (t_faultPlace : Int32) (t_place : Int32) (t_sign : Int32) : Option (Int32 × Int32 × Int32 × Int32 × Int32) := (f_X9_fail t_fault t_faultPlace 1 t_place).bind (fun z21 => some (0, z21.1, z21.2, t_place, t_sign))
def f_X9_expects (t_end : Int32) (t_fault : Int32) (t_faultPlace : Int32) (t_place : Int32) (t_sign : Int32) (t_bytes : (Nat → Int32)) (x1 : Int32) : Option (Int32 × Int32 × Int32 × Int32 × Int32) := (f_X9_hasFault t_fault).bind (fun z1 => (if z1 = 0 then (if t_sign = x1 then (f_X9_skip t_end t_place t_sign t_bytes).bind (fun z27 => some (1, t_fault, t_faultPlace, z27.1, z27.2)) else f_X9_expects_15 t_end t_bytes t_fault t_faultPlace t_place t_sign) else f_X9_expects_15 t_end t_bytes t_fault t_faultPlace t_place t_sign))
def w_X9_expects (cI cB cZ : ClassId) (a_t : Nat) (a_t_bytes : Nat) (t_end : Int32) (t_fault : Int32) (t_faultPlace : Int32) (t_place : Int32) (t_sign : Int32) (t_bytes : (Nat → Int32)) : va_W := [(a_t, .inr (8, [.ref a_t_bytes, .int t_end, .int t_fault, .int t_faultPlace, .int t_place, .int t_sign])), (a_t_bytes, .inl (cI, 260, .inl t_bytes))]
set_option maxHeartbeats 4000000 in
set_option maxRecDepth 100000 in
theorem b_X9_expects {p : Program} {l : Launch} {e : Env} {R : Room} {s : State} {m : MethodId} {args : Array Value} {below : List Frame} {meth : Method} {c : Code} {Q : State → Prop} {D : va_G} {cI cB cZ : ClassId} (hx : p.tables.exec = Jvm.exec) (hb : c.code = cX9_expects) (hml : c.maxLocals = 2) (hown : s.vm.findClass RX9 = some m.cls) (hT : ∀ w ∈ TB, w.before args s = true) (hRf : (1) ≤ R.frames) (hRl : (22) ≤ R.locals) (hK : va_K D vwCl (tyL cI cB cZ) s) (hN : NW s) {A : Nat → Prop} (hA : ∀ q : Nat, s.heap.size ≤ q → A q) (H : Heap) (locs : List Loc)  (a_t : Nat) (a_t_bytes : Nat) (t_end : Int32) (t_fault : Int32) (t_faultPlace : Int32) (t_place : Int32) (t_sign : Int32) (t_bytes : (Nat → Int32)) (x1 : Int32) (res : Int32 × Int32 × Int32 × Int32 × Int32) (hf : f_X9_expects t_end t_fault t_faultPlace t_place t_sign t_bytes x1 = some res) (hP : va_P D vwCl (w_X9_expects cI cB cZ a_t a_t_bytes t_end t_fault t_faultPlace t_place t_sign t_bytes) H) (hD : va_D A (w_X9_expects cI cB cZ a_t a_t_bytes t_end t_fault t_faultPlace t_place t_sign t_bytes)) (hS : va_S A s.heap H locs) (hQ : ∀ (H : Heap) (locs : List Loc) (pc : Nat) (ls : Array Slot), va_P D vwCl (w_X9_expects cI cB cZ a_t a_t_bytes t_end res.2.1 res.2.2.1 res.2.2.2.1 res.2.2.2.2 t_bytes) H → va_D A (w_X9_expects cI cB cZ a_t a_t_bytes t_end res.2.1 res.2.2.1 res.2.2.2.1 res.2.2.2.2 t_bytes) → va_S A s.heap H locs → (res.1 = 0 ∨ res.1 = 1) → decode cX9_expects pc = .ok (.ireturn, 1) → W p l e R s m args below meth c H locs 0 0 Q (F0 m pc ls [.int res.1])) (ls : Array Slot) (hl : lv_has ls 2 [(0, .ref a_t), (1, .int x1)]) : W p l e R s m args below meth c H locs 0 0 Q (F0 m 0 ls []) := by
  unfold f_X9_expects at hf
  refine lv_aload_n hx hb dX9_expects_0 rfl (lv_at hl 0 rfl) ?_
  obtain ⟨z1, e1, hf⟩ := bd_some hf
  refine rV_RO (As := []) (rest := []) ⟨hx, hb, hml, hown, hT⟩ (gdV tb_444 tb_445 tb_446 tb_87 tb_447) hd_X9_hasFault (c_X9_hasFault l D cI cB cZ a_t a_t_bytes t_end t_fault t_faultPlace t_place t_sign z1 e1) ⟨rfl, rfl⟩ ⟨Nat.le_trans (by decide) hRf, Nat.le_trans (by decide) hRl⟩ ⟨hK, hN⟩ hP [0] rfl 0 rfl rfl rfl hl.1 rfl (Nat.le_of_ble_eq_true rfl) ⟨Nat.zero_le _, Nat.zero_le _⟩ dX9_expects_1 (fun hz_1 => ?_)
  have J_15 : ∀ (t_fault : Int32) (t_faultPlace : Int32) (t_place : Int32) (t_sign : Int32) (H : Heap) (locs : List Loc) (ls : Array Slot), f_X9_expects_15 t_end t_bytes t_fault t_faultPlace t_place t_sign = some res → va_P D vwCl (w_X9_expects cI cB cZ a_t a_t_bytes t_end t_fault t_faultPlace t_place t_sign t_bytes) H → va_D A (w_X9_expects cI cB cZ a_t a_t_bytes t_end t_fault t_faultPlace t_place t_sign t_bytes) → va_S A s.heap H locs → lv_has ls 2 [(0, .ref a_t)] → W p l e R s m args below meth c H locs 0 0 Q (F0 m 15 ls []) := by
    intro t_fault t_faultPlace t_place t_sign H locs ls hf hP hD hS hl
    unfold f_X9_expects_15 at hf
    refine lv_aload_n hx hb dX9_expects_15 rfl (lv_at hl 0 rfl) ?_
    refine lv_iconst (v := 1) hx hb dX9_expects_16 (by decide) ?_
    refine lv_aload_n hx hb dX9_expects_17 rfl (lv_at hl 0 rfl) ?_
    refine va_get (D := D) (ci := 8) (v := .int t_place) (C := RX9) (T := TX9) (N := 6) hx hb hT inX9 hown hK hP 0 rfl rfl 4 (by decide) (hT _ tb_141) (fun _ h9 => h9) rfl dX9_expects_18 ?_
    obtain ⟨z21, e21, hf⟩ := bd_some hf
    refine rV_RW (As := [.int 1, .int t_place]) (rest := []) (w2 := (w_X9_expects cI cB cZ a_t a_t_bytes t_end z21.1 z21.2 t_place t_sign t_bytes)) ⟨hx, hb, hml, hown, hT⟩ (gdV tb_541 tb_533 tb_534 tb_87 tb_535) hd_X9_fail (c_X9_fail l D cI cB cZ a_t a_t_bytes t_end t_fault t_faultPlace t_place t_sign 1 t_place H.size z21 e21) ⟨rfl, rfl⟩ ⟨Nat.le_trans (by decide) hRf, Nat.le_trans (by decide) hRl⟩ ⟨hK, hN⟩ hA hP hD hS [0] [1] rfl (by decide) (wr := [_]) rfl (by decide) (by decide) [1, 0] rfl (by decide) 0 rfl rfl rfl hl.1 rfl (Nat.le_of_ble_eq_true rfl) ⟨Nat.zero_le _, Nat.zero_le _⟩ dX9_expects_21 (fun H locs hP hD hS _ => ?_)
    refine lv_iconst (v := 0) hx hb dX9_expects_24 (by decide) ?_
    obtain rfl := Option.some.inj hf
    exact hQ H locs 25 ls hP hD hS (Or.inl rfl) dX9_expects_25
  refine lv_if_ne (tgt := 15) hx hb dX9_expects_4 (by decide) (fun hc_4 => ?_) (fun hc_4 => ?_)
  · have hf := it_neg hc_4 hf
    exact J_15 _ _ _ _ _ _ _ hf hP hD hS (lv_sub hl [0] rfl)
  · have hf := it_pos hc_4 hf
    refine lv_aload_n hx hb dX9_expects_7 rfl (lv_at hl 0 rfl) ?_
    refine va_get (D := D) (ci := 8) (v := .int t_sign) (C := RX9) (T := TX9) (N := 6) hx hb hT inX9 hown hK hP 0 rfl rfl 5 (by decide) (hT _ tb_145) (fun _ h9 => h9) rfl dX9_expects_8 ?_
    refine lv_iload_n hx hb dX9_expects_11 rfl (lv_at hl 1 rfl) ?_
    refine lv_icmp_eq (tgt := 26) hx hb dX9_expects_12 (by decide) (fun hc_12 => ?_) (fun hc_12 => ?_)
    · have hf := it_pos hc_12 hf
      refine lv_aload_n hx hb dX9_expects_26 rfl (lv_at hl 0 rfl) ?_
      obtain ⟨z27, e27, hf⟩ := bd_some hf
      refine rV_RW (As := []) (rest := []) (w2 := (w_X9_expects cI cB cZ a_t a_t_bytes t_end t_fault t_faultPlace z27.1 z27.2 t_bytes)) ⟨hx, hb, hml, hown, hT⟩ (gdV tb_542 tb_543 tb_544 tb_87 tb_545) hd_X9_skip (c_X9_skip l D cI cB cZ a_t a_t_bytes t_end t_fault t_faultPlace t_place t_sign t_bytes H.size z27 e27) ⟨rfl, rfl⟩ ⟨Nat.le_trans (by decide) hRf, Nat.le_trans (by decide) hRl⟩ ⟨hK, hN⟩ hA hP hD hS [0, 1] [] rfl (by decide) (wr := []) rfl (by decide) (by decide) [0, 1] rfl (by decide) 0 rfl rfl rfl hl.1 rfl (Nat.le_of_ble_eq_true rfl) ⟨Nat.zero_le _, Nat.zero_le _⟩ dX9_expects_27 (fun H locs hP hD hS _ => ?_)
      refine lv_iconst (v := 1) hx hb dX9_expects_30 (by decide) ?_
      obtain rfl := Option.some.inj hf
      exact hQ H locs 31 ls hP hD hS (Or.inr rfl) dX9_expects_31
    · have hf := it_neg hc_12 hf
      exact J_15 _ _ _ _ _ _ _ hf hP hD hS (lv_sub hl [0] rfl)
theorem hd_X9_expects : (yX9_expects).cls = RX9 ∧ (yX9_expects).cls ≠ "java/lang/invoke/MethodHandle" ∧ (yX9_expects).cls ≠ "java/lang/invoke/VarHandle" ∧ (parseMethodDescriptor (yX9_expects).desc).map (fun d => d.parameters.length) = some 1 := by decide +kernel
theorem c_X9_expects (l : Launch) (D : va_G) (cI cB cZ : ClassId) (a_t : Nat) (a_t_bytes : Nat) (t_end : Int32) (t_fault : Int32) (t_faultPlace : Int32) (t_place : Int32) (t_sign : Int32) (t_bytes : (Nat → Int32)) (x1 : Int32) (sz : Nat) (res : Int32 × Int32 × Int32 × Int32 × Int32) (hf : f_X9_expects t_end t_fault t_faultPlace t_place t_sign t_bytes x1 = some res) : Met l yX9_expects (.code yX9_expects cX9_expects 2 (some .boolean) :: TB) (rmk (1) (22)) (pRW [.ref a_t, .int x1] D cI cB cZ (w_X9_expects cI cB cZ a_t a_t_bytes t_end t_fault t_faultPlace t_place t_sign t_bytes) sz) (qRW (some (.int res.1)) (res.1 = 0 ∨ res.1 = 1) D (w_X9_expects cI cB cZ a_t a_t_bytes t_end t_fault t_faultPlace t_place t_sign t_bytes) sz (w_X9_expects cI cB cZ a_t a_t_bytes t_end res.2.1 res.2.2.1 res.2.2.2.1 res.2.2.2.2 t_bytes)) 0 0 (va_A (w_X9_expects cI cB cZ a_t a_t_bytes t_end t_fault t_faultPlace t_place t_sign t_bytes) sz) :=
  mkRW (by decide +kernel) (Nat.le_of_ble_eq_true rfl) (fun p e s m below meth c ls A hAe S hr hlk hK hA hP hD hS hl => b_X9_expects S.1 S.2.1 S.2.2.1 S.2.2.2.1 S.2.2.2.2 (Nat.le_refl _) (Nat.le_refl _) hK.1 hK.2 hA s.heap [] a_t a_t_bytes t_end t_fault t_faultPlace t_place t_sign t_bytes x1 res hf hP hD hS (fun H locs pc ls hP hD hS hE hd => eRW_i S.1 S.2.1 hr (nz_ok hE) hlk hAe hP hD hS hE hd) ls hl)
def f_X9_whichOf (t_fault : Int32) (t_sign : Int32) (k1 : Nat) : Option (Int32) := (f_X9_hasFault t_fault).bind (fun z1 => (if z1 = 0 then (if t_sign = (-1) then some ((-1)) else some (sIdx k1 ((t_sign.toUInt32 % 65536).toInt32))) else some ((-1))))
def w_X9_whichOf (cI cB cZ : ClassId) (a_t : Nat) (a_t_bytes : Nat) (t_end : Int32) (t_fault : Int32) (t_faultPlace : Int32) (t_place : Int32) (t_sign : Int32) : va_W := [(a_t, .inr (8, [.ref a_t_bytes, .int t_end, .int t_fault, .int t_faultPlace, .int t_place, .int t_sign]))]
set_option maxHeartbeats 4000000 in
set_option maxRecDepth 100000 in
theorem b_X9_whichOf {p : Program} {l : Launch} {e : Env} {R : Room} {s : State} {m : MethodId} {args : Array Value} {below : List Frame} {meth : Method} {c : Code} {Q : State → Prop} {D : va_G} {cI cB cZ : ClassId} (hx : p.tables.exec = Jvm.exec) (hb : c.code = cX9_whichOf) (hml : c.maxLocals = 2) (hown : s.vm.findClass RX9 = some m.cls) (hT : ∀ w ∈ TB, w.before args s = true) (hRf : (4) ≤ R.frames) (hRl : (141) ≤ R.locals) (hK : va_K D vwCl (tyL cI cB cZ) s) (hN : NW s) {A : Nat → Prop} (adK adV : Nat → Nat) (hZ : SK adK adV A s)  (a_t : Nat) (a_t_bytes : Nat) (t_end : Int32) (t_fault : Int32) (t_faultPlace : Int32) (t_place : Int32) (t_sign : Int32) (k1 : Nat) (hk1 : k1 < 10) (res : Int32) (hf : f_X9_whichOf t_fault t_sign k1 = some res) (hP : va_P D vwCl (w_X9_whichOf cI cB cZ a_t a_t_bytes t_end t_fault t_faultPlace t_place t_sign) s.heap) (hQ : ∀ (pc : Nat) (ls : Array Slot), True → decode cX9_whichOf pc = .ok (.ireturn, 1) → W p l e R s m args below meth c s.heap [] 0 0 Q (F0 m pc ls [.int res])) (ls : Array Slot) (hl : lv_has ls 2 [(0, .ref a_t), (1, .ref (adK k1))]) : W p l e R s m args below meth c s.heap [] 0 0 Q (F0 m 0 ls []) := by
  unfold f_X9_whichOf at hf
  refine lv_aload_n hx hb dX9_whichOf_0 rfl (lv_at hl 0 rfl) ?_
  obtain ⟨z1, e1, hf⟩ := bd_some hf
  refine rV_RO (As := []) (rest := []) ⟨hx, hb, hml, hown, hT⟩ (gdV tb_444 tb_445 tb_446 tb_87 tb_447) hd_X9_hasFault (c_X9_hasFault l D cI cB cZ a_t a_t_bytes t_end t_fault t_faultPlace t_place t_sign z1 e1) ⟨rfl, rfl⟩ ⟨Nat.le_trans (by decide) hRf, Nat.le_trans (by decide) hRl⟩ ⟨hK, hN⟩ hP [0] rfl 0 rfl rfl rfl hl.1 rfl (Nat.le_of_ble_eq_true rfl) ⟨Nat.zero_le _, Nat.zero_le _⟩ dX9_whichOf_1 (fun hz_1 => ?_)
  refine lv_if_ne (tgt := 15) hx hb dX9_whichOf_4 (by decide) (fun hc_4 => ?_) (fun hc_4 => ?_)
  · have hf := it_neg hc_4 hf
    refine lv_iconst (v := (-1)) hx hb dX9_whichOf_15 (by decide) ?_
    refine lv_goto (tgt := 28) hx hb dX9_whichOf_16 (by decide) ?_
    obtain rfl := Option.some.inj hf
    exact hQ 28 ls trivial dX9_whichOf_28
  · have hf := it_pos hc_4 hf
    refine lv_aload_n hx hb dX9_whichOf_7 rfl (lv_at hl 0 rfl) ?_
    refine va_get (D := D) (ci := 8) (v := .int t_sign) (C := RX9) (T := TX9) (N := 6) hx hb hT inX9 hown hK hP 0 rfl rfl 5 (by decide) (hT _ tb_145) (fun _ h9 => h9) rfl dX9_whichOf_8 ?_
    refine lv_iconst (v := (-1)) hx hb dX9_whichOf_11 (by decide) ?_
    refine lv_icmp_ne (tgt := 19) hx hb dX9_whichOf_12 (by decide) (fun hc_12 => ?_) (fun hc_12 => ?_)
    · have hf := it_neg hc_12 hf
      refine lv_aload_n hx hb dX9_whichOf_19 rfl (lv_at hl 1 rfl) ?_
      refine lv_aload_n hx hb dX9_whichOf_20 rfl (lv_at hl 0 rfl) ?_
      refine va_get (D := D) (ci := 8) (v := .int t_sign) (C := RX9) (T := TX9) (N := 6) hx hb hT inX9 hown hK hP 0 rfl rfl 5 (by decide) (hT _ tb_145) (fun _ h9 => h9) rfl dX9_whichOf_21 ?_
      refine lv_i2c hx hb dX9_whichOf_24 rfl ?_
      refine rV_St (k := k1) (As := [.int ((t_sign.toUInt32 % 65536).toInt32)]) (rest := []) ⟨hx, hb, hml, hown, hT⟩ (gdV tb_448 tb_449 tb_450 tb_99 tb_451) hd_J0_indexOf1 (c_J0_indexOf1 l D cI cB cZ adK adV A k1 hk1 ((t_sign.toUInt32 % 65536).toInt32)) ⟨rfl, rfl⟩ ⟨Nat.le_trans (by decide) hRf, Nat.le_trans (by decide) hRl⟩ hZ ⟨hK, hN⟩ hk1 rfl hl.1 rfl (Nat.le_of_ble_eq_true rfl) ⟨Nat.zero_le _, Nat.zero_le _⟩ dX9_whichOf_25 (fun _ => ?_)
      obtain rfl := Option.some.inj hf
      exact hQ 28 ls trivial dX9_whichOf_28
    · have hf := it_pos hc_12 hf
      refine lv_iconst (v := (-1)) hx hb dX9_whichOf_15 (by decide) ?_
      refine lv_goto (tgt := 28) hx hb dX9_whichOf_16 (by decide) ?_
      obtain rfl := Option.some.inj hf
      exact hQ 28 ls trivial dX9_whichOf_28
theorem hd_X9_whichOf : (yX9_whichOf).cls = RX9 ∧ (yX9_whichOf).cls ≠ "java/lang/invoke/MethodHandle" ∧ (yX9_whichOf).cls ≠ "java/lang/invoke/VarHandle" ∧ (parseMethodDescriptor (yX9_whichOf).desc).map (fun d => d.parameters.length) = some 1 := by decide +kernel
theorem c_X9_whichOf (l : Launch) (D : va_G) (cI cB cZ : ClassId) (adK adV : Nat → Nat) (A : Nat → Prop) (a_t : Nat) (a_t_bytes : Nat) (t_end : Int32) (t_fault : Int32) (t_faultPlace : Int32) (t_place : Int32) (t_sign : Int32) (k1 : Nat) (hk1 : k1 < 10) (res : Int32) (hf : f_X9_whichOf t_fault t_sign k1 = some res) : Met l yX9_whichOf (.code yX9_whichOf cX9_whichOf 2 (some .int) :: TB) (rmk (4) (141)) (pROs [.ref a_t, .ref (adK k1)] D cI cB cZ (w_X9_whichOf cI cB cZ a_t a_t_bytes t_end t_fault t_faultPlace t_place t_sign) adK adV A) (qRO (some (.int res)) True) 0 0 (fun _ => False) :=
  mkROs (by decide +kernel) (Nat.le_of_ble_eq_true rfl) (fun p e s m below meth c ls S hr hlk hK hP hZ hl => b_X9_whichOf S.1 S.2.1 S.2.2.1 S.2.2.2.1 S.2.2.2.2 (Nat.le_refl _) (Nat.le_refl _) hK.1 hK.2 adK adV hZ a_t a_t_bytes t_end t_fault t_faultPlace t_place t_sign k1 hk1 res hf hP (fun pc ls hE hd => eRO_i S.1 S.2.1 hr rfl hlk hE hd) ls hl)
def f_X9_choose (t_end : Int32) (t_fault : Int32) (t_faultPlace : Int32) (t_place : Int32) (t_sign : Int32) (t_bytes : (Nat → Int32)) (k1 : Nat) : Option (Int32 × Int32 × Int32 × Int32 × Int32) := (f_X9_whichOf t_fault t_sign k1).bind (fun z2 => (if z2 = (-1) then (f_X9_fail t_fault t_faultPlace 1 t_place).bind (fun z17 => some (z2, z17.1, z17.2, t_place, t_sign)) else (f_X9_skip t_end t_place t_sign t_bytes).bind (fun z24 => some (z2, t_fault, t_faultPlace, z24.1, z24.2))))
def w_X9_choose (cI cB cZ : ClassId) (a_t : Nat) (a_t_bytes : Nat) (t_end : Int32) (t_fault : Int32) (t_faultPlace : Int32) (t_place : Int32) (t_sign : Int32) (t_bytes : (Nat → Int32)) : va_W := [(a_t, .inr (8, [.ref a_t_bytes, .int t_end, .int t_fault, .int t_faultPlace, .int t_place, .int t_sign])), (a_t_bytes, .inl (cI, 260, .inl t_bytes))]
set_option maxHeartbeats 4000000 in
set_option maxRecDepth 100000 in
theorem b_X9_choose {p : Program} {l : Launch} {e : Env} {R : Room} {s : State} {m : MethodId} {args : Array Value} {below : List Frame} {meth : Method} {c : Code} {Q : State → Prop} {D : va_G} {cI cB cZ : ClassId} (hx : p.tables.exec = Jvm.exec) (hb : c.code = cX9_choose) (hml : c.maxLocals = 3) (hown : s.vm.findClass RX9 = some m.cls) (hT : ∀ w ∈ TB, w.before args s = true) (hRf : (5) ≤ R.frames) (hRl : (162) ≤ R.locals) (hK : va_K D vwCl (tyL cI cB cZ) s) (hN : NW s) {A : Nat → Prop} (hA : ∀ q : Nat, s.heap.size ≤ q → A q) (H : Heap) (locs : List Loc) (adK adV : Nat → Nat) (hZ : SK adK adV A s)  (a_t : Nat) (a_t_bytes : Nat) (t_end : Int32) (t_fault : Int32) (t_faultPlace : Int32) (t_place : Int32) (t_sign : Int32) (t_bytes : (Nat → Int32)) (k1 : Nat) (hk1 : k1 < 10) (res : Int32 × Int32 × Int32 × Int32 × Int32) (hf : f_X9_choose t_end t_fault t_faultPlace t_place t_sign t_bytes k1 = some res) (hP : va_P D vwCl (w_X9_choose cI cB cZ a_t a_t_bytes t_end t_fault t_faultPlace t_place t_sign t_bytes) H) (hD : va_D A (w_X9_choose cI cB cZ a_t a_t_bytes t_end t_fault t_faultPlace t_place t_sign t_bytes)) (hS : va_S A s.heap H locs) (hQ : ∀ (H : Heap) (locs : List Loc) (pc : Nat) (ls : Array Slot), va_P D vwCl (w_X9_choose cI cB cZ a_t a_t_bytes t_end res.2.1 res.2.2.1 res.2.2.2.1 res.2.2.2.2 t_bytes) H → va_D A (w_X9_choose cI cB cZ a_t a_t_bytes t_end res.2.1 res.2.2.1 res.2.2.2.1 res.2.2.2.2 t_bytes) → va_S A s.heap H locs → True → decode cX9_choose pc = .ok (.ireturn, 1) → W p l e R s m args below meth c H locs 0 0 Q (F0 m pc ls [.int res.1])) (ls : Array Slot) (hl : lv_has ls 3 [(0, .ref a_t), (1, .ref (adK k1))]) : W p l e R s m args below meth c H locs 0 0 Q (F0 m 0 ls []) := by
  unfold f_X9_choose at hf
  refine lv_aload_n hx hb dX9_choose_0 rfl (lv_at hl 0 rfl) ?_
  refine lv_aload_n hx hb dX9_choose_1 rfl (lv_at hl 1 rfl) ?_
  obtain ⟨z2, e2, hf⟩ := bd_some hf
  refine rV_ROs (As := [.ref (adK k1)]) (rest := []) ⟨hx, hb, hml, hown, hT⟩ (gdV tb_540 tb_441 tb_442 tb_87 tb_443) hd_X9_whichOf (c_X9_whichOf l D cI cB cZ adK adV A a_t a_t_bytes t_end t_fault t_faultPlace t_place t_sign k1 hk1 z2 e2) ⟨rfl, rfl⟩ ⟨Nat.le_trans (by decide) hRf, Nat.le_trans (by decide) hRl⟩ hZ hS ⟨hK, hN⟩ hP [0] rfl 0 rfl rfl rfl hl.1 rfl (Nat.le_of_ble_eq_true rfl) ⟨Nat.zero_le _, Nat.zero_le _⟩ dX9_choose_2 (fun _ => ?_)
  refine lv_istore_n (lv' := [(2, .int z2), (0, .ref a_t), (1, .ref (adK k1))]) hx hb dX9_choose_5 rfl hl (by decide) rfl (fun ls hl => ?_)
  refine lv_iload_n hx hb dX9_choose_6 rfl (lv_at hl 0 rfl) ?_
  refine lv_iconst (v := (-1)) hx hb dX9_choose_7 (by decide) ?_
  refine lv_icmp_ne (tgt := 23) hx hb dX9_choose_8 (by decide) (fun hc_8 => ?_) (fun hc_8 => ?_)
  · have hf := it_neg hc_8 hf
    refine lv_aload_n hx hb dX9_choose_23 rfl (lv_at hl 1 rfl) ?_
    obtain ⟨z24, e24, hf⟩ := bd_some hf
    refine rV_RW (As := []) (rest := []) (w2 := (w_X9_choose cI cB cZ a_t a_t_bytes t_end t_fault t_faultPlace z24.1 z24.2 t_bytes)) ⟨hx, hb, hml, hown, hT⟩ (gdV tb_542 tb_543 tb_544 tb_87 tb_545) hd_X9_skip (c_X9_skip l D cI cB cZ a_t a_t_bytes t_end t_fault t_faultPlace t_place t_sign t_bytes H.size z24 e24) ⟨rfl, rfl⟩ ⟨Nat.le_trans (by decide) hRf, Nat.le_trans (by decide) hRl⟩ ⟨hK, hN⟩ hA hP hD hS [0, 1] [] rfl (by decide) (wr := []) rfl (by decide) (by decide) [0, 1] rfl (by decide) 0 rfl rfl rfl hl.1 rfl (Nat.le_of_ble_eq_true rfl) ⟨Nat.zero_le _, Nat.zero_le _⟩ dX9_choose_24 (fun H locs hP hD hS _ => ?_)
    refine lv_iload_n hx hb dX9_choose_27 rfl (lv_at hl 0 rfl) ?_
    obtain rfl := Option.some.inj hf
    exact hQ H locs 28 ls hP hD hS trivial dX9_choose_28
  · have hf := it_pos hc_8 hf
    refine lv_aload_n hx hb dX9_choose_11 rfl (lv_at hl 1 rfl) ?_
    refine lv_iconst (v := 1) hx hb dX9_choose_12 (by decide) ?_
    refine lv_aload_n hx hb dX9_choose_13 rfl (lv_at hl 1 rfl) ?_
    refine va_get (D := D) (ci := 8) (v := .int t_place) (C := RX9) (T := TX9) (N := 6) hx hb hT inX9 hown hK hP 0 rfl rfl 4 (by decide) (hT _ tb_141) (fun _ h9 => h9) rfl dX9_choose_14 ?_
    obtain ⟨z17, e17, hf⟩ := bd_some hf
    refine rV_RW (As := [.int 1, .int t_place]) (rest := []) (w2 := (w_X9_choose cI cB cZ a_t a_t_bytes t_end z17.1 z17.2 t_place t_sign t_bytes)) ⟨hx, hb, hml, hown, hT⟩ (gdV tb_541 tb_533 tb_534 tb_87 tb_535) hd_X9_fail (c_X9_fail l D cI cB cZ a_t a_t_bytes t_end t_fault t_faultPlace t_place t_sign 1 t_place H.size z17 e17) ⟨rfl, rfl⟩ ⟨Nat.le_trans (by decide) hRf, Nat.le_trans (by decide) hRl⟩ ⟨hK, hN⟩ hA hP hD hS [0] [1] rfl (by decide) (wr := [_]) rfl (by decide) (by decide) [1, 0] rfl (by decide) 0 rfl rfl rfl hl.1 rfl (Nat.le_of_ble_eq_true rfl) ⟨Nat.zero_le _, Nat.zero_le _⟩ dX9_choose_17 (fun H locs hP hD hS _ => ?_)
    refine lv_goto (tgt := 27) hx hb dX9_choose_20 (by decide) ?_
    refine lv_iload_n hx hb dX9_choose_27 rfl (lv_at hl 0 rfl) ?_
    obtain rfl := Option.some.inj hf
    exact hQ H locs 28 ls hP hD hS trivial dX9_choose_28
theorem hd_X9_choose : (yX9_choose).cls = RX9 ∧ (yX9_choose).cls ≠ "java/lang/invoke/MethodHandle" ∧ (yX9_choose).cls ≠ "java/lang/invoke/VarHandle" ∧ (parseMethodDescriptor (yX9_choose).desc).map (fun d => d.parameters.length) = some 1 := by decide +kernel
theorem c_X9_choose (l : Launch) (D : va_G) (cI cB cZ : ClassId) (adK adV : Nat → Nat) (a_t : Nat) (a_t_bytes : Nat) (t_end : Int32) (t_fault : Int32) (t_faultPlace : Int32) (t_place : Int32) (t_sign : Int32) (t_bytes : (Nat → Int32)) (k1 : Nat) (hk1 : k1 < 10) (sz : Nat) (res : Int32 × Int32 × Int32 × Int32 × Int32) (hf : f_X9_choose t_end t_fault t_faultPlace t_place t_sign t_bytes k1 = some res) : Met l yX9_choose (.code yX9_choose cX9_choose 3 (some .int) :: TB) (rmk (5) (162)) (pRWs [.ref a_t, .ref (adK k1)] D cI cB cZ (w_X9_choose cI cB cZ a_t a_t_bytes t_end t_fault t_faultPlace t_place t_sign t_bytes) sz adK adV) (qRW (some (.int res.1)) True D (w_X9_choose cI cB cZ a_t a_t_bytes t_end t_fault t_faultPlace t_place t_sign t_bytes) sz (w_X9_choose cI cB cZ a_t a_t_bytes t_end res.2.1 res.2.2.1 res.2.2.2.1 res.2.2.2.2 t_bytes)) 0 0 (va_A (w_X9_choose cI cB cZ a_t a_t_bytes t_end t_fault t_faultPlace t_place t_sign t_bytes) sz) :=
  mkRWs (by decide +kernel) (Nat.le_of_ble_eq_true rfl) (fun p e s m below meth c ls A hAe S hr hlk hK hA hP hD hS hZ hl => b_X9_choose S.1 S.2.1 S.2.2.1 S.2.2.2.1 S.2.2.2.2 (Nat.le_refl _) (Nat.le_refl _) hK.1 hK.2 hA s.heap [] adK adV hZ a_t a_t_bytes t_end t_fault t_faultPlace t_place t_sign t_bytes k1 hk1 res hf hP hD hS (fun H locs pc ls hP hD hS hE hd => eRW_i S.1 S.2.1 hr rfl hlk hAe hP hD hS hE hd) ls hl)
def f_X9_number_55 (t_end : Int32) (t_bytes : (Nat → Int32)) (x2 : Int32) (t_fault : Int32) (t_faultPlace : Int32) (t_place : Int32) (t_sign : Int32) : Option (Int32 × Int32 × Int32 × Int32 × Int32) := (f_X9_isDigit t_sign).bind (fun z56 => (if z56 = 0 then some (x2, t_fault, t_faultPlace, t_place, t_sign) else (f_X9_fail t_fault t_faultPlace 2 t_place).bind (fun z68 => some (x2, z68.1, z68.2, t_place, t_sign))))
def f_X9_number_20 (t_end : Int32) (t_bytes : (Nat → Int32)) : Nat → Int32 → Int32 → Int32 → Int32 → Int32 → Int32 → Int32 → Option (Int32 × Int32 × Int32 × Int32 × Int32)
  | 0, _, _, _, _, _, _, _ => none
  | n + 1, x1, x2, x3, t_fault, t_faultPlace, t_place, t_sign => (if x1 ≤ x3 then f_X9_number_55 t_end t_bytes x2 t_fault t_faultPlace t_place t_sign else (f_X9_isDigit t_sign).bind (fun z26 => (if z26 = 0 then f_X9_number_55 t_end t_bytes x2 t_fault t_faultPlace t_place t_sign else (f_X9_skip t_end t_place t_sign t_bytes).bind (fun z46 => (f_X9_number_20 t_end t_bytes n) x1 (((10 * x2) + t_sign) - 48) (x3 + 1) t_fault t_faultPlace z46.1 z46.2))))
def f_X9_number_16 (t_end : Int32) (t_bytes : (Nat → Int32)) (x1 : Int32) (t_fault : Int32) (t_faultPlace : Int32) (t_place : Int32) (t_sign : Int32) : Option (Int32 × Int32 × Int32 × Int32 × Int32) := f_X9_number_20 t_end t_bytes FU x1 0 0 t_fault t_faultPlace t_place t_sign
def f_X9_number (t_end : Int32) (t_fault : Int32) (t_faultPlace : Int32) (t_place : Int32) (t_sign : Int32) (t_bytes : (Nat → Int32)) (x1 : Int32) : Option (Int32 × Int32 × Int32 × Int32 × Int32) := (f_X9_isDigit t_sign).bind (fun z1 => (if z1 = 0 then (f_X9_fail t_fault t_faultPlace 1 t_place).bind (fun z13 => f_X9_number_16 t_end t_bytes x1 z13.1 z13.2 t_place t_sign) else f_X9_number_16 t_end t_bytes x1 t_fault t_faultPlace t_place t_sign))
def w_X9_number (cI cB cZ : ClassId) (a_t : Nat) (a_t_bytes : Nat) (t_end : Int32) (t_fault : Int32) (t_faultPlace : Int32) (t_place : Int32) (t_sign : Int32) (t_bytes : (Nat → Int32)) : va_W := [(a_t, .inr (8, [.ref a_t_bytes, .int t_end, .int t_fault, .int t_faultPlace, .int t_place, .int t_sign])), (a_t_bytes, .inl (cI, 260, .inl t_bytes))]
set_option maxHeartbeats 4000000 in
set_option maxRecDepth 100000 in
theorem b_X9_number {p : Program} {l : Launch} {e : Env} {R : Room} {s : State} {m : MethodId} {args : Array Value} {below : List Frame} {meth : Method} {c : Code} {Q : State → Prop} {D : va_G} {cI cB cZ : ClassId} (hx : p.tables.exec = Jvm.exec) (hb : c.code = cX9_number) (hml : c.maxLocals = 4) (hown : s.vm.findClass RX9 = some m.cls) (hT : ∀ w ∈ TB, w.before args s = true) (hRf : (1) ≤ R.frames) (hRl : (22) ≤ R.locals) (hK : va_K D vwCl (tyL cI cB cZ) s) (hN : NW s) {A : Nat → Prop} (hA : ∀ q : Nat, s.heap.size ≤ q → A q) (H : Heap) (locs : List Loc)  (a_t : Nat) (a_t_bytes : Nat) (t_end : Int32) (t_fault : Int32) (t_faultPlace : Int32) (t_place : Int32) (t_sign : Int32) (t_bytes : (Nat → Int32)) (x1 : Int32) (res : Int32 × Int32 × Int32 × Int32 × Int32) (hf : f_X9_number t_end t_fault t_faultPlace t_place t_sign t_bytes x1 = some res) (hP : va_P D vwCl (w_X9_number cI cB cZ a_t a_t_bytes t_end t_fault t_faultPlace t_place t_sign t_bytes) H) (hD : va_D A (w_X9_number cI cB cZ a_t a_t_bytes t_end t_fault t_faultPlace t_place t_sign t_bytes)) (hS : va_S A s.heap H locs) (hQ : ∀ (H : Heap) (locs : List Loc) (pc : Nat) (ls : Array Slot), va_P D vwCl (w_X9_number cI cB cZ a_t a_t_bytes t_end res.2.1 res.2.2.1 res.2.2.2.1 res.2.2.2.2 t_bytes) H → va_D A (w_X9_number cI cB cZ a_t a_t_bytes t_end res.2.1 res.2.2.1 res.2.2.2.1 res.2.2.2.2 t_bytes) → va_S A s.heap H locs → True → decode cX9_number pc = .ok (.ireturn, 1) → W p l e R s m args below meth c H locs 0 0 Q (F0 m pc ls [.int res.1])) (ls : Array Slot) (hl : lv_has ls 4 [(0, .ref a_t), (1, .int x1)]) : W p l e R s m args below meth c H locs 0 0 Q (F0 m 0 ls []) := by
  unfold f_X9_number at hf
  refine lv_aload_n hx hb dX9_number_0 rfl (lv_at hl 0 rfl) ?_
  obtain ⟨z1, e1, hf⟩ := bd_some hf
  refine rV_RO (As := []) (rest := []) ⟨hx, hb, hml, hown, hT⟩ (gdV tb_581 tb_574 tb_575 tb_87 tb_576) hd_X9_isDigit (c_X9_isDigit l D cI cB cZ a_t a_t_bytes t_end t_fault t_faultPlace t_place t_sign z1 e1) ⟨rfl, rfl⟩ ⟨Nat.le_trans (by decide) hRf, Nat.le_trans (by decide) hRl⟩ ⟨hK, hN⟩ hP [0] rfl 0 rfl rfl rfl hl.1 rfl (Nat.le_of_ble_eq_true rfl) ⟨Nat.zero_le _, Nat.zero_le _⟩ dX9_number_1 (fun hz_1 => ?_)
  have J_16 : ∀ (x1 : Int32) (t_fault : Int32) (t_faultPlace : Int32) (t_place : Int32) (t_sign : Int32) (H : Heap) (locs : List Loc) (ls : Array Slot), f_X9_number_16 t_end t_bytes x1 t_fault t_faultPlace t_place t_sign = some res → va_P D vwCl (w_X9_number cI cB cZ a_t a_t_bytes t_end t_fault t_faultPlace t_place t_sign t_bytes) H → va_D A (w_X9_number cI cB cZ a_t a_t_bytes t_end t_fault t_faultPlace t_place t_sign t_bytes) → va_S A s.heap H locs → lv_has ls 4 [(0, .ref a_t), (1, .int x1)] → W p l e R s m args below meth c H locs 0 0 Q (F0 m 16 ls []) := by
    intro x1 t_fault t_faultPlace t_place t_sign H locs ls hf hP hD hS hl
    unfold f_X9_number_16 at hf
    refine lv_iconst (v := 0) hx hb dX9_number_16 (by decide) ?_
    refine lv_istore_n (lv' := [(2, .int 0), (0, .ref a_t), (1, .int x1)]) hx hb dX9_number_17 rfl hl (by decide) rfl (fun ls hl => ?_)
    refine lv_iconst (v := 0) hx hb dX9_number_18 (by decide) ?_
    have J_20 : ∀ (n_20 : Nat) (x1 : Int32) (x2 : Int32) (x3 : Int32) (t_fault : Int32) (t_faultPlace : Int32) (t_place : Int32) (t_sign : Int32) (H : Heap) (locs : List Loc) (ls : Array Slot), f_X9_number_20 t_end t_bytes n_20 x1 x2 x3 t_fault t_faultPlace t_place t_sign = some res → va_P D vwCl (w_X9_number cI cB cZ a_t a_t_bytes t_end t_fault t_faultPlace t_place t_sign t_bytes) H → va_D A (w_X9_number cI cB cZ a_t a_t_bytes t_end t_fault t_faultPlace t_place t_sign t_bytes) → va_S A s.heap H locs → lv_has ls 4 [(0, .ref a_t), (1, .int x1), (2, .int x2), (3, .int x3)] → W p l e R s m args below meth c H locs 0 0 Q (F0 m 20 ls []) := by
      intro n_20
      induction n_20 with
      | zero =>
        intro x1 x2 x3 t_fault t_faultPlace t_place t_sign H locs ls hf hP hD hS hl
        cases hf
      | succ n_20 ih_20 =>
        intro x1 x2 x3 t_fault t_faultPlace t_place t_sign H locs ls hf hP hD hS hl
        unfold f_X9_number_20 at hf
        refine lv_iload_n hx hb dX9_number_20 rfl (lv_at hl 3 rfl) ?_
        refine lv_iload_n hx hb dX9_number_21 rfl (lv_at hl 1 rfl) ?_
        have J_55 : ∀ (x2 : Int32) (t_fault : Int32) (t_faultPlace : Int32) (t_place : Int32) (t_sign : Int32) (H : Heap) (locs : List Loc) (ls : Array Slot), f_X9_number_55 t_end t_bytes x2 t_fault t_faultPlace t_place t_sign = some res → va_P D vwCl (w_X9_number cI cB cZ a_t a_t_bytes t_end t_fault t_faultPlace t_place t_sign t_bytes) H → va_D A (w_X9_number cI cB cZ a_t a_t_bytes t_end t_fault t_faultPlace t_place t_sign t_bytes) → va_S A s.heap H locs → lv_has ls 4 [(0, .ref a_t), (2, .int x2)] → W p l e R s m args below meth c H locs 0 0 Q (F0 m 55 ls []) := by
          intro x2 t_fault t_faultPlace t_place t_sign H locs ls hf hP hD hS hl
          unfold f_X9_number_55 at hf
          refine lv_aload_n hx hb dX9_number_55 rfl (lv_at hl 0 rfl) ?_
          obtain ⟨z56, e56, hf⟩ := bd_some hf
          refine rV_RO (As := []) (rest := []) ⟨hx, hb, hml, hown, hT⟩ (gdV tb_581 tb_574 tb_575 tb_87 tb_576) hd_X9_isDigit (c_X9_isDigit l D cI cB cZ a_t a_t_bytes t_end t_fault t_faultPlace t_place t_sign z56 e56) ⟨rfl, rfl⟩ ⟨Nat.le_trans (by decide) hRf, Nat.le_trans (by decide) hRl⟩ ⟨hK, hN⟩ hP [0] rfl 0 rfl rfl rfl hl.1 rfl (Nat.le_of_ble_eq_true rfl) ⟨Nat.zero_le _, Nat.zero_le _⟩ dX9_number_56 (fun hz_56 => ?_)
          refine lv_if_eq (tgt := 71) hx hb dX9_number_59 (by decide) (fun hc_59 => ?_) (fun hc_59 => ?_)
          · have hf := it_pos hc_59 hf
            refine lv_iload_n hx hb dX9_number_71 rfl (lv_at hl 1 rfl) ?_
            obtain rfl := Option.some.inj hf
            exact hQ H locs 72 ls hP hD hS trivial dX9_number_72
          · have hf := it_neg hc_59 hf
            refine lv_aload_n hx hb dX9_number_62 rfl (lv_at hl 0 rfl) ?_
            refine lv_iconst (v := 2) hx hb dX9_number_63 (by decide) ?_
            refine lv_aload_n hx hb dX9_number_64 rfl (lv_at hl 0 rfl) ?_
            refine va_get (D := D) (ci := 8) (v := .int t_place) (C := RX9) (T := TX9) (N := 6) hx hb hT inX9 hown hK hP 0 rfl rfl 4 (by decide) (hT _ tb_141) (fun _ h9 => h9) rfl dX9_number_65 ?_
            obtain ⟨z68, e68, hf⟩ := bd_some hf
            refine rV_RW (As := [.int 2, .int t_place]) (rest := []) (w2 := (w_X9_number cI cB cZ a_t a_t_bytes t_end z68.1 z68.2 t_place t_sign t_bytes)) ⟨hx, hb, hml, hown, hT⟩ (gdV tb_541 tb_533 tb_534 tb_87 tb_535) hd_X9_fail (c_X9_fail l D cI cB cZ a_t a_t_bytes t_end t_fault t_faultPlace t_place t_sign 2 t_place H.size z68 e68) ⟨rfl, rfl⟩ ⟨Nat.le_trans (by decide) hRf, Nat.le_trans (by decide) hRl⟩ ⟨hK, hN⟩ hA hP hD hS [0] [1] rfl (by decide) (wr := [_]) rfl (by decide) (by decide) [1, 0] rfl (by decide) 0 rfl rfl rfl hl.1 rfl (Nat.le_of_ble_eq_true rfl) ⟨Nat.zero_le _, Nat.zero_le _⟩ dX9_number_68 (fun H locs hP hD hS _ => ?_)
            refine lv_iload_n hx hb dX9_number_71 rfl (lv_at hl 1 rfl) ?_
            obtain rfl := Option.some.inj hf
            exact hQ H locs 72 ls hP hD hS trivial dX9_number_72
        refine lv_icmp_ge (tgt := 55) hx hb dX9_number_22 (by decide) (fun hc_22 => ?_) (fun hc_22 => ?_)
        · have hf := it_pos hc_22 hf
          exact J_55 _ _ _ _ _ _ _ _ hf hP hD hS (lv_sub hl [0, 2] rfl)
        · have hf := it_neg hc_22 hf
          refine lv_aload_n hx hb dX9_number_25 rfl (lv_at hl 0 rfl) ?_
          obtain ⟨z26, e26, hf⟩ := bd_some hf
          refine rV_RO (As := []) (rest := []) ⟨hx, hb, hml, hown, hT⟩ (gdV tb_581 tb_574 tb_575 tb_87 tb_576) hd_X9_isDigit (c_X9_isDigit l D cI cB cZ a_t a_t_bytes t_end t_fault t_faultPlace t_place t_sign z26 e26) ⟨rfl, rfl⟩ ⟨Nat.le_trans (by decide) hRf, Nat.le_trans (by decide) hRl⟩ ⟨hK, hN⟩ hP [0] rfl 0 rfl rfl rfl hl.1 rfl (Nat.le_of_ble_eq_true rfl) ⟨Nat.zero_le _, Nat.zero_le _⟩ dX9_number_26 (fun hz_26 => ?_)
          refine lv_if_eq (tgt := 55) hx hb dX9_number_29 (by decide) (fun hc_29 => ?_) (fun hc_29 => ?_)
          · have hf := it_pos hc_29 hf
            exact J_55 _ _ _ _ _ _ _ _ hf hP hD hS (lv_sub hl [0, 2] rfl)
          · have hf := it_neg hc_29 hf
            refine lv_bipush (v := 10) hx hb dX9_number_32 (by decide) ?_
            refine lv_iload_n hx hb dX9_number_34 rfl (lv_at hl 2 rfl) ?_
            refine lv_imul hx hb dX9_number_35 ?_
            refine lv_aload_n hx hb dX9_number_36 rfl (lv_at hl 0 rfl) ?_
            refine va_get (D := D) (ci := 8) (v := .int t_sign) (C := RX9) (T := TX9) (N := 6) hx hb hT inX9 hown hK hP 0 rfl rfl 5 (by decide) (hT _ tb_145) (fun _ h9 => h9) rfl dX9_number_37 ?_
            refine lv_iadd hx hb dX9_number_40 ?_
            refine lv_bipush (v := 48) hx hb dX9_number_41 (by decide) ?_
            refine lv_isub hx hb dX9_number_43 ?_
            refine lv_istore_n (lv' := [(2, .int (((10 * x2) + t_sign) - 48)), (0, .ref a_t), (1, .int x1), (3, .int x3)]) hx hb dX9_number_44 rfl hl (by decide) rfl (fun ls hl => ?_)
            refine lv_aload_n hx hb dX9_number_45 rfl (lv_at hl 1 rfl) ?_
            obtain ⟨z46, e46, hf⟩ := bd_some hf
            refine rV_RW (As := []) (rest := []) (w2 := (w_X9_number cI cB cZ a_t a_t_bytes t_end t_fault t_faultPlace z46.1 z46.2 t_bytes)) ⟨hx, hb, hml, hown, hT⟩ (gdV tb_542 tb_543 tb_544 tb_87 tb_545) hd_X9_skip (c_X9_skip l D cI cB cZ a_t a_t_bytes t_end t_fault t_faultPlace t_place t_sign t_bytes H.size z46 e46) ⟨rfl, rfl⟩ ⟨Nat.le_trans (by decide) hRf, Nat.le_trans (by decide) hRl⟩ ⟨hK, hN⟩ hA hP hD hS [0, 1] [] rfl (by decide) (wr := []) rfl (by decide) (by decide) [0, 1] rfl (by decide) 0 rfl rfl rfl hl.1 rfl (Nat.le_of_ble_eq_true rfl) ⟨Nat.zero_le _, Nat.zero_le _⟩ dX9_number_46 (fun H locs hP hD hS _ => ?_)
            refine lv_iinc (v := x3 + 1) (lv' := [(3, .int (x3 + 1)), (2, .int (((10 * x2) + t_sign) - 48)), (0, .ref a_t), (1, .int x1)]) hx hb dX9_number_49 hl (k := 3) rfl (congrArg (_ + ·) (by decide : Int32.ofInt 1 = 1)) (by decide) rfl (fun ls hl => ?_)
            refine lv_goto (tgt := 20) hx hb dX9_number_52 (by decide) ?_
            exact ih_20 _ _ _ _ _ _ _ _ _ _ hf hP hD hS (lv_sub hl [2, 3, 1, 0] rfl)
    refine lv_istore_n (lv' := [(3, .int 0), (2, .int 0), (0, .ref a_t), (1, .int x1)]) hx hb dX9_number_19 rfl hl (by decide) rfl (fun ls hl => ?_)
    exact J_20 _ _ _ _ _ _ _ _ _ _ _ hf hP hD hS (lv_sub hl [2, 3, 1, 0] rfl)
  refine lv_if_ne (tgt := 16) hx hb dX9_number_4 (by decide) (fun hc_4 => ?_) (fun hc_4 => ?_)
  · have hf := it_neg hc_4 hf
    exact J_16 _ _ _ _ _ _ _ _ hf hP hD hS (lv_sub hl [0, 1] rfl)
  · have hf := it_pos hc_4 hf
    refine lv_aload_n hx hb dX9_number_7 rfl (lv_at hl 0 rfl) ?_
    refine lv_iconst (v := 1) hx hb dX9_number_8 (by decide) ?_
    refine lv_aload_n hx hb dX9_number_9 rfl (lv_at hl 0 rfl) ?_
    refine va_get (D := D) (ci := 8) (v := .int t_place) (C := RX9) (T := TX9) (N := 6) hx hb hT inX9 hown hK hP 0 rfl rfl 4 (by decide) (hT _ tb_141) (fun _ h9 => h9) rfl dX9_number_10 ?_
    obtain ⟨z13, e13, hf⟩ := bd_some hf
    refine rV_RW (As := [.int 1, .int t_place]) (rest := []) (w2 := (w_X9_number cI cB cZ a_t a_t_bytes t_end z13.1 z13.2 t_place t_sign t_bytes)) ⟨hx, hb, hml, hown, hT⟩ (gdV tb_541 tb_533 tb_534 tb_87 tb_535) hd_X9_fail (c_X9_fail l D cI cB cZ a_t a_t_bytes t_end t_fault t_faultPlace t_place t_sign 1 t_place H.size z13 e13) ⟨rfl, rfl⟩ ⟨Nat.le_trans (by decide) hRf, Nat.le_trans (by decide) hRl⟩ ⟨hK, hN⟩ hA hP hD hS [0] [1] rfl (by decide) (wr := [_]) rfl (by decide) (by decide) [1, 0] rfl (by decide) 0 rfl rfl rfl hl.1 rfl (Nat.le_of_ble_eq_true rfl) ⟨Nat.zero_le _, Nat.zero_le _⟩ dX9_number_13 (fun H locs hP hD hS _ => ?_)
    exact J_16 _ _ _ _ _ _ _ _ hf hP hD hS (lv_sub hl [0, 1] rfl)
theorem hd_X9_number : (yX9_number).cls = RX9 ∧ (yX9_number).cls ≠ "java/lang/invoke/MethodHandle" ∧ (yX9_number).cls ≠ "java/lang/invoke/VarHandle" ∧ (parseMethodDescriptor (yX9_number).desc).map (fun d => d.parameters.length) = some 1 := by decide +kernel
theorem c_X9_number (l : Launch) (D : va_G) (cI cB cZ : ClassId) (a_t : Nat) (a_t_bytes : Nat) (t_end : Int32) (t_fault : Int32) (t_faultPlace : Int32) (t_place : Int32) (t_sign : Int32) (t_bytes : (Nat → Int32)) (x1 : Int32) (sz : Nat) (res : Int32 × Int32 × Int32 × Int32 × Int32) (hf : f_X9_number t_end t_fault t_faultPlace t_place t_sign t_bytes x1 = some res) : Met l yX9_number (.code yX9_number cX9_number 4 (some .int) :: TB) (rmk (1) (22)) (pRW [.ref a_t, .int x1] D cI cB cZ (w_X9_number cI cB cZ a_t a_t_bytes t_end t_fault t_faultPlace t_place t_sign t_bytes) sz) (qRW (some (.int res.1)) True D (w_X9_number cI cB cZ a_t a_t_bytes t_end t_fault t_faultPlace t_place t_sign t_bytes) sz (w_X9_number cI cB cZ a_t a_t_bytes t_end res.2.1 res.2.2.1 res.2.2.2.1 res.2.2.2.2 t_bytes)) 0 0 (va_A (w_X9_number cI cB cZ a_t a_t_bytes t_end t_fault t_faultPlace t_place t_sign t_bytes) sz) :=
  mkRW (by decide +kernel) (Nat.le_of_ble_eq_true rfl) (fun p e s m below meth c ls A hAe S hr hlk hK hA hP hD hS hl => b_X9_number S.1 S.2.1 S.2.2.1 S.2.2.2.1 S.2.2.2.2 (Nat.le_refl _) (Nat.le_refl _) hK.1 hK.2 hA s.heap [] a_t a_t_bytes t_end t_fault t_faultPlace t_place t_sign t_bytes x1 res hf hP hD hS (fun H locs pc ls hP hD hS hE hd => eRW_i S.1 S.2.1 hr rfl hlk hAe hP hD hS hE hd) ls hl)
def f_X9_expectEnd (t_end : Int32) (t_fault : Int32) (t_faultPlace : Int32) (t_place : Int32) : Option (Int32 × Int32) := (if t_end ≤ t_place then some (t_fault, t_faultPlace) else (f_X9_fail t_fault t_faultPlace 1 t_place).bind (fun z17 => some (z17.1, z17.2)))
def w_X9_expectEnd (cI cB cZ : ClassId) (a_t : Nat) (a_t_bytes : Nat) (t_end : Int32) (t_fault : Int32) (t_faultPlace : Int32) (t_place : Int32) (t_sign : Int32) : va_W := [(a_t, .inr (8, [.ref a_t_bytes, .int t_end, .int t_fault, .int t_faultPlace, .int t_place, .int t_sign]))]
set_option maxHeartbeats 4000000 in
set_option maxRecDepth 100000 in
theorem b_X9_expectEnd {p : Program} {l : Launch} {e : Env} {R : Room} {s : State} {m : MethodId} {args : Array Value} {below : List Frame} {meth : Method} {c : Code} {Q : State → Prop} {D : va_G} {cI cB cZ : ClassId} (hx : p.tables.exec = Jvm.exec) (hb : c.code = cX9_expectEnd) (hml : c.maxLocals = 1) (hown : s.vm.findClass RX9 = some m.cls) (hT : ∀ w ∈ TB, w.before args s = true) (hRf : (1) ≤ R.frames) (hRl : (22) ≤ R.locals) (hK : va_K D vwCl (tyL cI cB cZ) s) (hN : NW s) {A : Nat → Prop} (hA : ∀ q : Nat, s.heap.size ≤ q → A q) (H : Heap) (locs : List Loc)  (a_t : Nat) (a_t_bytes : Nat) (t_end : Int32) (t_fault : Int32) (t_faultPlace : Int32) (t_place : Int32) (t_sign : Int32) (res : Int32 × Int32) (hf : f_X9_expectEnd t_end t_fault t_faultPlace t_place = some res) (hP : va_P D vwCl (w_X9_expectEnd cI cB cZ a_t a_t_bytes t_end t_fault t_faultPlace t_place t_sign) H) (hD : va_D A (w_X9_expectEnd cI cB cZ a_t a_t_bytes t_end t_fault t_faultPlace t_place t_sign)) (hS : va_S A s.heap H locs) (hQ : ∀ (H : Heap) (locs : List Loc) (pc : Nat) (ls : Array Slot), va_P D vwCl (w_X9_expectEnd cI cB cZ a_t a_t_bytes t_end res.1 res.2 t_place t_sign) H → va_D A (w_X9_expectEnd cI cB cZ a_t a_t_bytes t_end res.1 res.2 t_place t_sign) → va_S A s.heap H locs → True → decode cX9_expectEnd pc = .ok (.return_, 1) → W p l e R s m args below meth c H locs 0 0 Q (F0 m pc ls [])) (ls : Array Slot) (hl : lv_has ls 1 [(0, .ref a_t)]) : W p l e R s m args below meth c H locs 0 0 Q (F0 m 0 ls []) := by
  unfold f_X9_expectEnd at hf
  refine lv_aload_n hx hb dX9_expectEnd_0 rfl (lv_at hl 0 rfl) ?_
  refine va_get (D := D) (ci := 8) (v := .int t_place) (C := RX9) (T := TX9) (N := 6) hx hb hT inX9 hown hK hP 0 rfl rfl 4 (by decide) (hT _ tb_141) (fun _ h9 => h9) rfl dX9_expectEnd_1 ?_
  refine lv_aload_n hx hb dX9_expectEnd_4 rfl (lv_at hl 0 rfl) ?_
  refine va_get (D := D) (ci := 8) (v := .int t_end) (C := RX9) (T := TX9) (N := 6) hx hb hT inX9 hown hK hP 0 rfl rfl 1 (by decide) (hT _ tb_138) (fun _ h9 => h9) rfl dX9_expectEnd_5 ?_
  refine lv_icmp_ge (tgt := 20) hx hb dX9_expectEnd_8 (by decide) (fun hc_8 => ?_) (fun hc_8 => ?_)
  · have hf := it_pos hc_8 hf
    obtain rfl := Option.some.inj hf
    exact hQ H locs 20 ls hP hD hS trivial dX9_expectEnd_20
  · have hf := it_neg hc_8 hf
    refine lv_aload_n hx hb dX9_expectEnd_11 rfl (lv_at hl 0 rfl) ?_
    refine lv_iconst (v := 1) hx hb dX9_expectEnd_12 (by decide) ?_
    refine lv_aload_n hx hb dX9_expectEnd_13 rfl (lv_at hl 0 rfl) ?_
    refine va_get (D := D) (ci := 8) (v := .int t_place) (C := RX9) (T := TX9) (N := 6) hx hb hT inX9 hown hK hP 0 rfl rfl 4 (by decide) (hT _ tb_141) (fun _ h9 => h9) rfl dX9_expectEnd_14 ?_
    obtain ⟨z17, e17, hf⟩ := bd_some hf
    refine rV_RW (As := [.int 1, .int t_place]) (rest := []) (w2 := (w_X9_expectEnd cI cB cZ a_t a_t_bytes t_end z17.1 z17.2 t_place t_sign)) ⟨hx, hb, hml, hown, hT⟩ (gdV tb_541 tb_533 tb_534 tb_87 tb_535) hd_X9_fail (c_X9_fail l D cI cB cZ a_t a_t_bytes t_end t_fault t_faultPlace t_place t_sign 1 t_place H.size z17 e17) ⟨rfl, rfl⟩ ⟨Nat.le_trans (by decide) hRf, Nat.le_trans (by decide) hRl⟩ ⟨hK, hN⟩ hA hP hD hS [0] [] rfl (by decide) (wr := []) rfl (by decide) (by decide) [0] rfl (by decide) 0 rfl rfl rfl hl.1 rfl (Nat.le_of_ble_eq_true rfl) ⟨Nat.zero_le _, Nat.zero_le _⟩ dX9_expectEnd_17 (fun H locs hP hD hS _ => ?_)
    obtain rfl := Option.some.inj hf
    exact hQ H locs 20 ls hP hD hS trivial dX9_expectEnd_20
theorem hd_X9_expectEnd : (yX9_expectEnd).cls = RX9 ∧ (yX9_expectEnd).cls ≠ "java/lang/invoke/MethodHandle" ∧ (yX9_expectEnd).cls ≠ "java/lang/invoke/VarHandle" ∧ (parseMethodDescriptor (yX9_expectEnd).desc).map (fun d => d.parameters.length) = some 0 := by decide +kernel
theorem c_X9_expectEnd (l : Launch) (D : va_G) (cI cB cZ : ClassId) (a_t : Nat) (a_t_bytes : Nat) (t_end : Int32) (t_fault : Int32) (t_faultPlace : Int32) (t_place : Int32) (t_sign : Int32) (sz : Nat) (res : Int32 × Int32) (hf : f_X9_expectEnd t_end t_fault t_faultPlace t_place = some res) : Met l yX9_expectEnd (.code yX9_expectEnd cX9_expectEnd 1 none :: TB) (rmk (1) (22)) (pRW [.ref a_t] D cI cB cZ (w_X9_expectEnd cI cB cZ a_t a_t_bytes t_end t_fault t_faultPlace t_place t_sign) sz) (qRW none True D (w_X9_expectEnd cI cB cZ a_t a_t_bytes t_end t_fault t_faultPlace t_place t_sign) sz (w_X9_expectEnd cI cB cZ a_t a_t_bytes t_end res.1 res.2 t_place t_sign)) 0 0 (va_A (w_X9_expectEnd cI cB cZ a_t a_t_bytes t_end t_fault t_faultPlace t_place t_sign) sz) :=
  mkRW (by decide +kernel) (Nat.le_of_ble_eq_true rfl) (fun p e s m below meth c ls A hAe S hr hlk hK hA hP hD hS hl => b_X9_expectEnd S.1 S.2.1 S.2.2.1 S.2.2.2.1 S.2.2.2.2 (Nat.le_refl _) (Nat.le_refl _) hK.1 hK.2 hA s.heap [] a_t a_t_bytes t_end t_fault t_faultPlace t_place t_sign res hf hP hD hS (fun H locs pc ls hP hD hS hE hd => eRW_v S.1 S.2.1 hr hlk hAe hP hD hS hE hd) ls hl)
