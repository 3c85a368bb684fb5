def f_X2_clear (t_steps : Int32) (t_rules : Int32) : Option (Int32 × Int32) := some (0, 0)
def w_X2_clear (cI cB cZ : ClassId) (a_t : Nat) (a_t_deeds : Nat) (a_t_values : Nat) (a_t_kinds : Nat) (a_t_sumStarts : Nat) (a_t_testStarts : Nat) (a_t_testEnds : Nat) (a_t_stack : Nat) (t_steps : Int32) (t_rules : Int32) : va_W := [(a_t, .inr (1, [.ref a_t_deeds, .ref a_t_values, .ref a_t_kinds, .ref a_t_sumStarts, .ref a_t_testStarts, .ref a_t_testEnds, .ref a_t_stack, .int t_steps, .int t_rules]))]
set_option maxHeartbeats 4000000 in
set_option maxRecDepth 100000 in
theorem b_X2_clear {p : Program} {l : Launch} {e : Env} {R : Room} {s : State} {m : MethodId} {args : Array Value} {below : List Frame} {meth : Method} {c : Code} {Q : State → Prop} {D : va_G} {cI cB cZ : ClassId} (hx : p.tables.exec = Jvm.exec) (hb : c.code = cX2_clear) (hml : c.maxLocals = 1) (hown : s.vm.findClass RX2 = some m.cls) (hT : ∀ w ∈ TB, w.before args s = true) (hRf : (0) ≤ R.frames) (hRl : (0) ≤ R.locals) (hK : va_K D vwCl (tyL cI cB cZ) s) (hN : NW s) {A : Nat → Prop} (hA : ∀ q : Nat, s.heap.size ≤ q → A q) (H : Heap) (locs : List Loc)  (a_t : Nat) (a_t_deeds : Nat) (a_t_values : Nat) (a_t_kinds : Nat) (a_t_sumStarts : Nat) (a_t_testStarts : Nat) (a_t_testEnds : Nat) (a_t_stack : Nat) (t_steps : Int32) (t_rules : Int32) (res : Int32 × Int32) (hf : f_X2_clear t_steps t_rules = some res) (hP : va_P D vwCl (w_X2_clear cI cB cZ a_t a_t_deeds a_t_values a_t_kinds a_t_sumStarts a_t_testStarts a_t_testEnds a_t_stack t_steps t_rules) H) (hD : va_D A (w_X2_clear cI cB cZ a_t a_t_deeds a_t_values a_t_kinds a_t_sumStarts a_t_testStarts a_t_testEnds a_t_stack t_steps t_rules)) (hS : va_S A s.heap H locs) (hQ : ∀ (H : Heap) (locs : List Loc) (pc : Nat) (ls : Array Slot), va_P D vwCl (w_X2_clear cI cB cZ a_t a_t_deeds a_t_values a_t_kinds a_t_sumStarts a_t_testStarts a_t_testEnds a_t_stack res.1 res.2) H → va_D A (w_X2_clear cI cB cZ a_t a_t_deeds a_t_values a_t_kinds a_t_sumStarts a_t_testStarts a_t_testEnds a_t_stack res.1 res.2) → va_S A s.heap H locs → True → decode cX2_clear pc = .ok (.return_, 1) → W p l e R s m args below meth c H locs 0 0 Q (F0 m pc ls [])) (ls : Array Slot) (hl : lv_has ls 1 [(0, .ref a_t)]) : W p l e R s m args below meth c H locs 0 0 Q (F0 m 0 ls []) := by
  unfold f_X2_clear at hf
  refine lv_aload_n hx hb dX2_clear_0 rfl (lv_at hl 0 rfl) ?_
  refine lv_iconst (v := 0) hx hb dX2_clear_1 (by decide) ?_
  refine va_put (D := D) (ci := 1) (v := .int 0) (ty := (.int)) (C := RX2) (T := TX2) (N := 9) hx hb hT inX2 tyX2 tyX2_ok nmX2 hown hK hP hD hS 0 rfl rfl 7 (by decide) (hT _ tb_320) (fun _ h9 => h9) rfl (by decide +kernel) rfl rfl (Nat.le_of_ble_eq_true rfl) dX2_clear_2 (fun H locs hP hD hS => ?_)
  have hP : va_P D vwCl (w_X2_clear cI cB cZ a_t a_t_deeds a_t_values a_t_kinds a_t_sumStarts a_t_testStarts a_t_testEnds a_t_stack 0 t_rules) H := hP
  have hD : va_D A (w_X2_clear cI cB cZ a_t a_t_deeds a_t_values a_t_kinds a_t_sumStarts a_t_testStarts a_t_testEnds a_t_stack 0 t_rules) := hD
  refine lv_aload_n hx hb dX2_clear_5 rfl (lv_at hl 0 rfl) ?_
  refine lv_iconst (v := 0) hx hb dX2_clear_6 (by decide) ?_
  refine va_put (D := D) (ci := 1) (v := .int 0) (ty := (.int)) (C := RX2) (T := TX2) (N := 9) hx hb hT inX2 tyX2 tyX2_ok nmX2 hown hK hP hD hS 0 rfl rfl 8 (by decide) (hT _ tb_321) (fun _ h9 => h9) rfl (by decide +kernel) rfl rfl (Nat.le_of_ble_eq_true rfl) dX2_clear_7 (fun H locs hP hD hS => ?_)
  have hP : va_P D vwCl (w_X2_clear cI cB cZ a_t a_t_deeds a_t_values a_t_kinds a_t_sumStarts a_t_testStarts a_t_testEnds a_t_stack 0 0) H := hP
  have hD : va_D A (w_X2_clear cI cB cZ a_t a_t_deeds a_t_values a_t_kinds a_t_sumStarts a_t_testStarts a_t_testEnds a_t_stack 0 0) := hD
  obtain rfl := Option.some.inj hf
  exact hQ H locs 10 ls hP hD hS trivial dX2_clear_10
theorem hd_X2_clear : (yX2_clear).cls = RX2 ∧ (yX2_clear).cls ≠ "java/lang/invoke/MethodHandle" ∧ (yX2_clear).cls ≠ "java/lang/invoke/VarHandle" ∧ (parseMethodDescriptor (yX2_clear).desc).map (fun d => d.parameters.length) = some 0 := by decide +kernel
theorem c_X2_clear (l : Launch) (D : va_G) (cI cB cZ : ClassId) (a_t : Nat) (a_t_deeds : Nat) (a_t_values : Nat) (a_t_kinds : Nat) (a_t_sumStarts : Nat) (a_t_testStarts : Nat) (a_t_testEnds : Nat) (a_t_stack : Nat) (t_steps : Int32) (t_rules : Int32) (sz : Nat) (res : Int32 × Int32) (hf : f_X2_clear t_steps t_rules = some res) : Met l yX2_clear (.code yX2_clear cX2_clear 1 none :: TB) (rmk (0) (0)) (pRW [.ref a_t] D cI cB cZ (w_X2_clear cI cB cZ a_t a_t_deeds a_t_values a_t_kinds a_t_sumStarts a_t_testStarts a_t_testEnds a_t_stack t_steps t_rules) sz) (qRW none True D (w_X2_clear cI cB cZ a_t a_t_deeds a_t_values a_t_kinds a_t_sumStarts a_t_testStarts a_t_testEnds a_t_stack t_steps t_rules) sz (w_X2_clear cI cB cZ a_t a_t_deeds a_t_values a_t_kinds a_t_sumStarts a_t_testStarts a_t_testEnds a_t_stack res.1 res.2)) 0 0 (va_A (w_X2_clear cI cB cZ a_t a_t_deeds a_t_values a_t_kinds a_t_sumStarts a_t_testStarts a_t_testEnds a_t_stack t_steps t_rules) sz) :=
  mkRW (by decide +kernel) (Nat.le_of_ble_eq_true rfl) (fun p e s m below meth c ls A hAe S hr hlk hK hA hP hD hS hl => b_X2_clear S.1 S.2.1 S.2.2.1 S.2.2.2.1 S.2.2.2.2 (Nat.le_refl _) (Nat.le_refl _) hK.1 hK.2 hA s.heap [] a_t a_t_deeds a_t_values a_t_kinds a_t_sumStarts a_t_testStarts a_t_testEnds a_t_stack t_steps t_rules res hf hP hD hS (fun H locs pc ls hP hD hS hE hd => eRW_v S.1 S.2.1 hr hlk hAe hP hD hS hE hd) ls hl)
def f_X2_isFull (t_rules : Int32) : Option (Int32) := (if t_rules < 16 then some (0) else some (1))
def w_X2_isFull (cI cB cZ : ClassId) (a_t : Nat) (a_t_deeds : Nat) (a_t_values : Nat) (a_t_kinds : Nat) (a_t_sumStarts : Nat) (a_t_testStarts : Nat) (a_t_testEnds : Nat) (a_t_stack : Nat) (t_steps : Int32) (t_rules : Int32) : va_W := [(a_t, .inr (1, [.ref a_t_deeds, .ref a_t_values, .ref a_t_kinds, .ref a_t_sumStarts, .ref a_t_testStarts, .ref a_t_testEnds, .ref a_t_stack, .int t_steps, .int t_rules]))]
set_option maxHeartbeats 4000000 in
set_option maxRecDepth 100000 in
theorem b_X2_isFull {p : Program} {l : Launch} {e : Env} {R : Room} {s : State} {m : MethodId} {args : Array Value} {below : List Frame} {meth : Method} {c : Code} {Q : State → Prop} {D : va_G} {cI cB cZ : ClassId} (hx : p.tables.exec = Jvm.exec) (hb : c.code = cX2_isFull) (hml : c.maxLocals = 1) (hown : s.vm.findClass RX2 = some m.cls) (hT : ∀ w ∈ TB, w.before args s = true) (hRf : (0) ≤ R.frames) (hRl : (0) ≤ R.locals) (hK : va_K D vwCl (tyL cI cB cZ) s) (hN : NW s)  (a_t : Nat) (a_t_deeds : Nat) (a_t_values : Nat) (a_t_kinds : Nat) (a_t_sumStarts : Nat) (a_t_testStarts : Nat) (a_t_testEnds : Nat) (a_t_stack : Nat) (t_steps : Int32) (t_rules : Int32) (res : Int32) (hf : f_X2_isFull t_rules = some res) (hP : va_P D vwCl (w_X2_isFull cI cB cZ a_t a_t_deeds a_t_values a_t_kinds a_t_sumStarts a_t_testStarts a_t_testEnds a_t_stack t_steps t_rules) s.heap) (hQ : ∀ (pc : Nat) (ls : Array Slot), (res = 0 ∨ res = 1) → decode cX2_isFull pc = .ok (.ireturn, 1) → W p l e R s m args below meth c s.heap [] 0 0 Q (F0 m pc ls [.int res])) (ls : Array Slot) (hl : lv_has ls 1 [(0, .ref a_t)]) : W p l e R s m args below meth c s.heap [] 0 0 Q (F0 m 0 ls []) := by
  unfold f_X2_isFull at hf
  refine lv_aload_n hx hb dX2_isFull_0 rfl (lv_at hl 0 rfl) ?_
  refine va_get (D := D) (ci := 1) (v := .int t_rules) (C := RX2) (T := TX2) (N := 9) hx hb hT inX2 hown hK hP 0 rfl rfl 8 (by decide) (hT _ tb_321) (fun _ h9 => h9) rfl dX2_isFull_1 ?_
  refine lv_bipush (v := 16) hx hb dX2_isFull_4 (by decide) ?_
  refine lv_icmp_lt (tgt := 13) hx hb dX2_isFull_6 (by decide) (fun hc_6 => ?_) (fun hc_6 => ?_)
  · have hf := it_pos hc_6 hf
    refine lv_iconst (v := 0) hx hb dX2_isFull_13 (by decide) ?_
    obtain rfl := Option.some.inj hf
    exact hQ 14 ls (Or.inl rfl) dX2_isFull_14
  · have hf := it_neg hc_6 hf
    refine lv_iconst (v := 1) hx hb dX2_isFull_9 (by decide) ?_
    refine lv_goto (tgt := 14) hx hb dX2_isFull_10 (by decide) ?_
    obtain rfl := Option.some.inj hf
    exact hQ 14 ls (Or.inr rfl) dX2_isFull_14
theorem hd_X2_isFull : (yX2_isFull).cls = RX2 ∧ (yX2_isFull).cls ≠ "java/lang/invoke/MethodHandle" ∧ (yX2_isFull).cls ≠ "java/lang/invoke/VarHandle" ∧ (parseMethodDescriptor (yX2_isFull).desc).map (fun d => d.parameters.length) = some 0 := by decide +kernel
theorem c_X2_isFull (l : Launch) (D : va_G) (cI cB cZ : ClassId) (a_t : Nat) (a_t_deeds : Nat) (a_t_values : Nat) (a_t_kinds : Nat) (a_t_sumStarts : Nat) (a_t_testStarts : Nat) (a_t_testEnds : Nat) (a_t_stack : Nat) (t_steps : Int32) (t_rules : Int32) (res : Int32) (hf : f_X2_isFull t_rules = some res) : Met l yX2_isFull (.code yX2_isFull cX2_isFull 1 (some .boolean) :: TB) (rmk (0) (0)) (pRO [.ref a_t] D cI cB cZ (w_X2_isFull cI cB cZ a_t a_t_deeds a_t_values a_t_kinds a_t_sumStarts a_t_testStarts a_t_testEnds a_t_stack t_steps t_rules)) (qRO (some (.int res)) (res = 0 ∨ res = 1)) 0 0 (fun _ => False) :=
  mkRO (by decide +kernel) (Nat.le_of_ble_eq_true rfl) (fun p e s m below meth c ls S hr hlk hK hP hl => b_X2_isFull S.1 S.2.1 S.2.2.1 S.2.2.2.1 S.2.2.2.2 (Nat.le_refl _) (Nat.le_refl _) hK.1 hK.2 a_t a_t_deeds a_t_values a_t_kinds a_t_sumStarts a_t_testStarts a_t_testEnds a_t_stack t_steps t_rules res hf hP (fun pc ls hE hd => eRO_i S.1 S.2.1 hr (nz_ok hE) hlk hE hd) ls hl)
def f_X2_openRule (t_steps : Int32) (t_rules : Int32) (t_kinds : (Nat → Int32)) (t_sumStarts : (Nat → Int32)) (x1 : Int32) : Option ((Nat → Int32) × (Nat → Int32)) := (f_X2_isFull t_rules).bind (fun z1 => (if z1 = 0 then ix 16 t_rules (ix 16 t_rules (some (upd t_kinds t_rules.toNatClampNeg x1, upd t_sumStarts t_rules.toNatClampNeg t_steps))) else some (t_kinds, t_sumStarts)))
def w_X2_openRule (cI cB cZ : ClassId) (a_t : Nat) (a_t_kinds : Nat) (a_t_sumStarts : Nat) (a_t_deeds : Nat) (a_t_values : Nat) (a_t_testStarts : Nat) (a_t_testEnds : Nat) (a_t_stack : Nat) (t_steps : Int32) (t_rules : Int32) (t_kinds : (Nat → Int32)) (t_sumStarts : (Nat → Int32)) : va_W := [(a_t, .inr (1, [.ref a_t_deeds, .ref a_t_values, .ref a_t_kinds, .ref a_t_sumStarts, .ref a_t_testStarts, .ref a_t_testEnds, .ref a_t_stack, .int t_steps, .int t_rules])), (a_t_kinds, .inl (cI, 16, .inl t_kinds)), (a_t_sumStarts, .inl (cI, 16, .inl t_sumStarts))]
set_option maxHeartbeats 4000000 in
set_option maxRecDepth 100000 in
theorem b_X2_openRule {p : Program} {l : Launch} {e : Env} {R : Room} {s : State} {m : MethodId} {args : Array Value} {below : List Frame} {meth : Method} {c : Code} {Q : State → Prop} {D : va_G} {cI cB cZ : ClassId} (hx : p.tables.exec = Jvm.exec) (hb : c.code = cX2_openRule) (hml : c.maxLocals = 2) (hown : s.vm.findClass RX2 = some m.cls) (hT : ∀ w ∈ TB, w.before args s = true) (hRf : (1) ≤ R.frames) (hRl : (20) ≤ R.locals) (hK : va_K D vwCl (tyL cI cB cZ) s) (hN : NW s) {A : Nat → Prop} (hA : ∀ q : Nat, s.heap.size ≤ q → A q) (H : Heap) (locs : List Loc)  (a_t : Nat) (a_t_kinds : Nat) (a_t_sumStarts : Nat) (a_t_deeds : Nat) (a_t_values : Nat) (a_t_testStarts : Nat) (a_t_testEnds : Nat) (a_t_stack : Nat) (t_steps : Int32) (t_rules : Int32) (t_kinds : (Nat → Int32)) (t_sumStarts : (Nat → Int32)) (x1 : Int32) (res : (Nat → Int32) × (Nat → Int32)) (hf : f_X2_openRule t_steps t_rules t_kinds t_sumStarts x1 = some res) (hP : va_P D vwCl (w_X2_openRule cI cB cZ a_t a_t_kinds a_t_sumStarts a_t_deeds a_t_values a_t_testStarts a_t_testEnds a_t_stack t_steps t_rules t_kinds t_sumStarts) H) (hD : va_D A (w_X2_openRule cI cB cZ a_t a_t_kinds a_t_sumStarts a_t_deeds a_t_values a_t_testStarts a_t_testEnds a_t_stack t_steps t_rules t_kinds t_sumStarts)) (hS : va_S A s.heap H locs) (hQ : ∀ (H : Heap) (locs : List Loc) (pc : Nat) (ls : Array Slot), va_P D vwCl (w_X2_openRule cI cB cZ a_t a_t_kinds a_t_sumStarts a_t_deeds a_t_values a_t_testStarts a_t_testEnds a_t_stack t_steps t_rules res.1 res.2) H → va_D A (w_X2_openRule cI cB cZ a_t a_t_kinds a_t_sumStarts a_t_deeds a_t_values a_t_testStarts a_t_testEnds a_t_stack t_steps t_rules res.1 res.2) → va_S A s.heap H locs → True → decode cX2_openRule pc = .ok (.return_, 1) → W p l e R s m args below meth c H locs 0 0 Q (F0 m pc ls [])) (ls : Array Slot) (hl : lv_has ls 2 [(0, .ref a_t), (1, .int x1)]) : W p l e R s m args below meth c H locs 0 0 Q (F0 m 0 ls []) := by
  unfold f_X2_openRule at hf
  refine lv_aload_n hx hb dX2_openRule_0 rfl (lv_at hl 0 rfl) ?_
  obtain ⟨z1, e1, hf⟩ := bd_some hf
  refine rV_RO (As := []) (rest := []) ⟨hx, hb, hml, hown, hT⟩ (gdV tb_550 tb_436 tb_437 tb_96 tb_438) hd_X2_isFull (c_X2_isFull l D cI cB cZ a_t a_t_deeds a_t_values a_t_kinds a_t_sumStarts a_t_testStarts a_t_testEnds a_t_stack t_steps t_rules z1 e1) ⟨rfl, rfl⟩ ⟨Nat.le_trans (by decide) hRf, Nat.le_trans (by decide) hRl⟩ ⟨hK, hN⟩ hP [0] rfl 0 rfl rfl rfl hl.1 rfl (Nat.le_of_ble_eq_true rfl) ⟨Nat.zero_le _, Nat.zero_le _⟩ dX2_openRule_1 (fun hz_1 => ?_)
  refine lv_if_ne (tgt := 30) hx hb dX2_openRule_4 (by decide) (fun hc_4 => ?_) (fun hc_4 => ?_)
  · have hf := it_neg hc_4 hf
    obtain rfl := Option.some.inj hf
    exact hQ H locs 30 ls hP hD hS trivial dX2_openRule_30
  · have hf := it_pos hc_4 hf
    refine lv_aload_n hx hb dX2_openRule_7 rfl (lv_at hl 0 rfl) ?_
    refine va_get (D := D) (ci := 1) (v := .ref a_t_kinds) (C := RX2) (T := TX2) (N := 9) hx hb hT inX2 hown hK hP 0 rfl rfl 2 (by decide) (hT _ tb_315) (fun _ h9 => h9) rfl dX2_openRule_8 ?_
    refine lv_aload_n hx hb dX2_openRule_11 rfl (lv_at hl 0 rfl) ?_
    refine va_get (D := D) (ci := 1) (v := .int t_rules) (C := RX2) (T := TX2) (N := 9) hx hb hT inX2 hown hK hP 0 rfl rfl 8 (by decide) (hT _ tb_321) (fun _ h9 => h9) rfl dX2_openRule_12 ?_
    refine lv_iload_n hx hb dX2_openRule_15 rfl (lv_at hl 1 rfl) ?_
    obtain ⟨hi_16, hf⟩ := ix_some hf
    refine va_iast hx hb hK hP hD hS 1 0 rfl rfl hi_16 dX2_openRule_16 (fun H locs hP hD hS => ?_)
    have hP : va_P D vwCl (w_X2_openRule cI cB cZ a_t a_t_kinds a_t_sumStarts a_t_deeds a_t_values a_t_testStarts a_t_testEnds a_t_stack t_steps t_rules (upd t_kinds t_rules.toNatClampNeg x1) t_sumStarts) H := hP
    have hD : va_D A (w_X2_openRule cI cB cZ a_t a_t_kinds a_t_sumStarts a_t_deeds a_t_values a_t_testStarts a_t_testEnds a_t_stack t_steps t_rules (upd t_kinds t_rules.toNatClampNeg x1) t_sumStarts) := hD
    refine lv_aload_n hx hb dX2_openRule_17 rfl (lv_at hl 0 rfl) ?_
    refine va_get (D := D) (ci := 1) (v := .ref a_t_sumStarts) (C := RX2) (T := TX2) (N := 9) hx hb hT inX2 hown hK hP 0 rfl rfl 3 (by decide) (hT _ tb_316) (fun _ h9 => h9) rfl dX2_openRule_18 ?_
    refine lv_aload_n hx hb dX2_openRule_21 rfl (lv_at hl 0 rfl) ?_
    refine va_get (D := D) (ci := 1) (v := .int t_rules) (C := RX2) (T := TX2) (N := 9) hx hb hT inX2 hown hK hP 0 rfl rfl 8 (by decide) (hT _ tb_321) (fun _ h9 => h9) rfl dX2_openRule_22 ?_
    refine lv_aload_n hx hb dX2_openRule_25 rfl (lv_at hl 0 rfl) ?_
    refine va_get (D := D) (ci := 1) (v := .int t_steps) (C := RX2) (T := TX2) (N := 9) hx hb hT inX2 hown hK hP 0 rfl rfl 7 (by decide) (hT _ tb_320) (fun _ h9 => h9) rfl dX2_openRule_26 ?_
    obtain ⟨hi_29, hf⟩ := ix_some hf
    refine va_iast hx hb hK hP hD hS 2 0 rfl rfl hi_29 dX2_openRule_29 (fun H locs hP hD hS => ?_)
    have hP : va_P D vwCl (w_X2_openRule cI cB cZ a_t a_t_kinds a_t_sumStarts a_t_deeds a_t_values a_t_testStarts a_t_testEnds a_t_stack t_steps t_rules (upd t_kinds t_rules.toNatClampNeg x1) (upd t_sumStarts t_rules.toNatClampNeg t_steps)) H := hP
    have hD : va_D A (w_X2_openRule cI cB cZ a_t a_t_kinds a_t_sumStarts a_t_deeds a_t_values a_t_testStarts a_t_testEnds a_t_stack t_steps t_rules (upd t_kinds t_rules.toNatClampNeg x1) (upd t_sumStarts t_rules.toNatClampNeg t_steps)) := hD
    obtain rfl := Option.some.inj hf
    exact hQ H locs 30 ls hP hD hS trivial dX2_openRule_30
theorem hd_X2_openRule : (yX2_openRule).cls = RX2 ∧ (yX2_openRule).cls ≠ "java/lang/invoke/MethodHandle" ∧ (yX2_openRule).cls ≠ "java/lang/invoke/VarHandle" ∧ (parseMethodDescriptor (yX2_openRule).desc).map (fun d => d.parameters.length) = some 1 := by decide +kernel
theorem c_X2_openRule (l : Launch) (D : va_G) (cI cB cZ : ClassId) (a_t : Nat) (a_t_kinds : Nat) (a_t_sumStarts : Nat) (a_t_deeds : Nat) (a_t_values : Nat) (a_t_testStarts : Nat) (a_t_testEnds : Nat) (a_t_stack : Nat) (t_steps : Int32) (t_rules : Int32) (t_kinds : (Nat → Int32)) (t_sumStarts : (Nat → Int32)) (x1 : Int32) (sz : Nat) (res : (Nat → Int32) × (Nat → Int32)) (hf : f_X2_openRule t_steps t_rules t_kinds t_sumStarts x1 = some res) : Met l yX2_openRule (.code yX2_openRule cX2_openRule 2 none :: TB) (rmk (1) (20)) (pRW [.ref a_t, .int x1] D cI cB cZ (w_X2_openRule cI cB cZ a_t a_t_kinds a_t_sumStarts a_t_deeds a_t_values a_t_testStarts a_t_testEnds a_t_stack t_steps t_rules t_kinds t_sumStarts) sz) (qRW none True D (w_X2_openRule cI cB cZ a_t a_t_kinds a_t_sumStarts a_t_deeds a_t_values a_t_testStarts a_t_testEnds a_t_stack t_steps t_rules t_kinds t_sumStarts) sz (w_X2_openRule cI cB cZ a_t a_t_kinds a_t_sumStarts a_t_deeds a_t_values a_t_testStarts a_t_testEnds a_t_stack t_steps t_rules res.1 res.2)) 0 0 (va_A (w_X2_openRule cI cB cZ a_t a_t_kinds a_t_sumStarts a_t_deeds a_t_values a_t_testStarts a_t_testEnds a_t_stack t_steps t_rules t_kinds t_sumStarts) sz) :=
  mkRW (by decide +kernel) (Nat.le_of_ble_eq_true rfl) (fun p e s m below meth c ls A hAe S hr hlk hK hA hP hD hS hl => b_X2_openRule S.1 S.2.1 S.2.2.1 S.2.2.2.1 S.2.2.2.2 (Nat.le_refl _) (Nat.le_refl _) hK.1 hK.2 hA s.heap [] a_t a_t_kinds a_t_sumStarts a_t_deeds a_t_values a_t_testStarts a_t_testEnds a_t_stack t_steps t_rules t_kinds t_sumStarts x1 res hf hP hD hS (fun H locs pc ls hP hD hS hE hd => eRW_v S.1 S.2.1 hr hlk hAe hP hD hS hE hd) ls hl)
def f_X2_openTest (t_steps : Int32) (t_rules : Int32) (t_testStarts : (Nat → Int32)) : Option ((Nat → Int32)) := (f_X2_isFull t_rules).bind (fun z1 => (if z1 = 0 then ix 16 t_rules (some (upd t_testStarts t_rules.toNatClampNeg t_steps)) else some (t_testStarts)))
def w_X2_openTest (cI cB cZ : ClassId) (a_t : Nat) (a_t_testStarts : Nat) (a_t_deeds : Nat) (a_t_values : Nat) (a_t_kinds : Nat) (a_t_sumStarts : Nat) (a_t_testEnds : Nat) (a_t_stack : Nat) (t_steps : Int32) (t_rules : Int32) (t_testStarts : (Nat → Int32)) : va_W := [(a_t, .inr (1, [.ref a_t_deeds, .ref a_t_values, .ref a_t_kinds, .ref a_t_sumStarts, .ref a_t_testStarts, .ref a_t_testEnds, .ref a_t_stack, .int t_steps, .int t_rules])), (a_t_testStarts, .inl (cI, 16, .inl t_testStarts))]
set_option maxHeartbeats 4000000 in
set_option maxRecDepth 100000 in
theorem b_X2_openTest {p : Program} {l : Launch} {e : Env} {R : Room} {s : State} {m : MethodId} {args : Array Value} {below : List Frame} {meth : Method} {c : Code} {Q : State → Prop} {D : va_G} {cI cB cZ : ClassId} (hx : p.tables.exec = Jvm.exec) (hb : c.code = cX2_openTest) (hml : c.maxLocals = 1) (hown : s.vm.findClass RX2 = some m.cls) (hT : ∀ w ∈ TB, w.before args s = true) (hRf : (1) ≤ R.frames) (hRl : (20) ≤ R.locals) (hK : va_K D vwCl (tyL cI cB cZ) s) (hN : NW s) {A : Nat → Prop} (hA : ∀ q : Nat, s.heap.size ≤ q → A q) (H : Heap) (locs : List Loc)  (a_t : Nat) (a_t_testStarts : Nat) (a_t_deeds : Nat) (a_t_values : Nat) (a_t_kinds : Nat) (a_t_sumStarts : Nat) (a_t_testEnds : Nat) (a_t_stack : Nat) (t_steps : Int32) (t_rules : Int32) (t_testStarts : (Nat → Int32)) (res : (Nat → Int32)) (hf : f_X2_openTest t_steps t_rules t_testStarts = some res) (hP : va_P D vwCl (w_X2_openTest cI cB cZ a_t a_t_testStarts a_t_deeds a_t_values a_t_kinds a_t_sumStarts a_t_testEnds a_t_stack t_steps t_rules t_testStarts) H) (hD : va_D A (w_X2_openTest cI cB cZ a_t a_t_testStarts a_t_deeds a_t_values a_t_kinds a_t_sumStarts a_t_testEnds a_t_stack t_steps t_rules t_testStarts)) (hS : va_S A s.heap H locs) (hQ : ∀ (H : Heap) (locs : List Loc) (pc : Nat) (ls : Array Slot), va_P D vwCl (w_X2_openTest cI cB cZ a_t a_t_testStarts a_t_deeds a_t_values a_t_kinds a_t_sumStarts a_t_testEnds a_t_stack t_steps t_rules res) H → va_D A (w_X2_openTest cI cB cZ a_t a_t_testStarts a_t_deeds a_t_values a_t_kinds a_t_sumStarts a_t_testEnds a_t_stack t_steps t_rules res) → va_S A s.heap H locs → True → decode cX2_openTest pc = .ok (.return_, 1) → W p l e R s m args below meth c H locs 0 0 Q (F0 m pc ls [])) (ls : Array Slot) (hl : lv_has ls 1 [(0, .ref a_t)]) : W p l e R s m args below meth c H locs 0 0 Q (F0 m 0 ls []) := by
  unfold f_X2_openTest at hf
  refine lv_aload_n hx hb dX2_openTest_0 rfl (lv_at hl 0 rfl) ?_
  obtain ⟨z1, e1, hf⟩ := bd_some hf
  refine rV_RO (As := []) (rest := []) ⟨hx, hb, hml, hown, hT⟩ (gdV tb_550 tb_436 tb_437 tb_96 tb_438) hd_X2_isFull (c_X2_isFull l D cI cB cZ a_t a_t_deeds a_t_values a_t_kinds a_t_sumStarts a_t_testStarts a_t_testEnds a_t_stack t_steps t_rules z1 e1) ⟨rfl, rfl⟩ ⟨Nat.le_trans (by decide) hRf, Nat.le_trans (by decide) hRl⟩ ⟨hK, hN⟩ hP [0] rfl 0 rfl rfl rfl hl.1 rfl (Nat.le_of_ble_eq_true rfl) ⟨Nat.zero_le _, Nat.zero_le _⟩ dX2_openTest_1 (fun hz_1 => ?_)
  refine lv_if_ne (tgt := 20) hx hb dX2_openTest_4 (by decide) (fun hc_4 => ?_) (fun hc_4 => ?_)
  · have hf := it_neg hc_4 hf
    obtain rfl := Option.some.inj hf
    exact hQ H locs 20 ls hP hD hS trivial dX2_openTest_20
  · have hf := it_pos hc_4 hf
    refine lv_aload_n hx hb dX2_openTest_7 rfl (lv_at hl 0 rfl) ?_
    refine va_get (D := D) (ci := 1) (v := .ref a_t_testStarts) (C := RX2) (T := TX2) (N := 9) hx hb hT inX2 hown hK hP 0 rfl rfl 4 (by decide) (hT _ tb_317) (fun _ h9 => h9) rfl dX2_openTest_8 ?_
    refine lv_aload_n hx hb dX2_openTest_11 rfl (lv_at hl 0 rfl) ?_
    refine va_get (D := D) (ci := 1) (v := .int t_rules) (C := RX2) (T := TX2) (N := 9) hx hb hT inX2 hown hK hP 0 rfl rfl 8 (by decide) (hT _ tb_321) (fun _ h9 => h9) rfl dX2_openTest_12 ?_
    refine lv_aload_n hx hb dX2_openTest_15 rfl (lv_at hl 0 rfl) ?_
    refine va_get (D := D) (ci := 1) (v := .int t_steps) (C := RX2) (T := TX2) (N := 9) hx hb hT inX2 hown hK hP 0 rfl rfl 7 (by decide) (hT _ tb_320) (fun _ h9 => h9) rfl dX2_openTest_16 ?_
    obtain ⟨hi_19, hf⟩ := ix_some hf
    refine va_iast hx hb hK hP hD hS 1 0 rfl rfl hi_19 dX2_openTest_19 (fun H locs hP hD hS => ?_)
    have hP : va_P D vwCl (w_X2_openTest cI cB cZ a_t a_t_testStarts a_t_deeds a_t_values a_t_kinds a_t_sumStarts a_t_testEnds a_t_stack t_steps t_rules (upd t_testStarts t_rules.toNatClampNeg t_steps)) H := hP
    have hD : va_D A (w_X2_openTest cI cB cZ a_t a_t_testStarts a_t_deeds a_t_values a_t_kinds a_t_sumStarts a_t_testEnds a_t_stack t_steps t_rules (upd t_testStarts t_rules.toNatClampNeg t_steps)) := hD
    obtain rfl := Option.some.inj hf
    exact hQ H locs 20 ls hP hD hS trivial dX2_openTest_20
theorem hd_X2_openTest : (yX2_openTest).cls = RX2 ∧ (yX2_openTest).cls ≠ "java/lang/invoke/MethodHandle" ∧ (yX2_openTest).cls ≠ "java/lang/invoke/VarHandle" ∧ (parseMethodDescriptor (yX2_openTest).desc).map (fun d => d.parameters.length) = some 0 := by decide +kernel
theorem c_X2_openTest (l : Launch) (D : va_G) (cI cB cZ : ClassId) (a_t : Nat) (a_t_testStarts : Nat) (a_t_deeds : Nat) (a_t_values : Nat) (a_t_kinds : Nat) (a_t_sumStarts : Nat) (a_t_testEnds : Nat) (a_t_stack : Nat) (t_steps : Int32) (t_rules : Int32) (t_testStarts : (Nat → Int32)) (sz : Nat) (res : (Nat → Int32)) (hf : f_X2_openTest t_steps t_rules t_testStarts = some res) : Met l yX2_openTest (.code yX2_openTest cX2_openTest 1 none :: TB) (rmk (1) (20)) (pRW [.ref a_t] D cI cB cZ (w_X2_openTest cI cB cZ a_t a_t_testStarts a_t_deeds a_t_values a_t_kinds a_t_sumStarts a_t_testEnds a_t_stack t_steps t_rules t_testStarts) sz) (qRW none True D (w_X2_openTest cI cB cZ a_t a_t_testStarts a_t_deeds a_t_values a_t_kinds a_t_sumStarts a_t_testEnds a_t_stack t_steps t_rules t_testStarts) sz (w_X2_openTest cI cB cZ a_t a_t_testStarts a_t_deeds a_t_values a_t_kinds a_t_sumStarts a_t_testEnds a_t_stack t_steps t_rules res)) 0 0 (va_A (w_X2_openTest cI cB cZ a_t a_t_testStarts a_t_deeds a_t_values a_t_kinds a_t_sumStarts a_t_testEnds a_t_stack t_steps t_rules t_testStarts) sz) :=
  mkRW (by decide +kernel) (Nat.le_of_ble_eq_true rfl) (fun p e s m below meth c ls A hAe S hr hlk hK hA hP hD hS hl => b_X2_openTest S.1 S.2.1 S.2.2.1 S.2.2.2.1 S.2.2.2.2 (Nat.le_refl _) (Nat.le_refl _) hK.1 hK.2 hA s.heap [] a_t a_t_testStarts a_t_deeds a_t_values a_t_kinds a_t_sumStarts a_t_testEnds a_t_stack t_steps t_rules t_testStarts res hf hP hD hS (fun H locs pc ls hP hD hS hE hd => eRW_v S.1 S.2.1 hr hlk hAe hP hD hS hE hd) ls hl)
def f_X2_closeRule (t_steps : Int32) (t_rules : Int32) (t_testEnds : (Nat → Int32)) : Option (Int32 × (Nat → Int32)) := (f_X2_isFull t_rules).bind (fun z1 => (if z1 = 0 then ix 16 t_rules (some (t_rules + 1, upd t_testEnds t_rules.toNatClampNeg t_steps)) else some (t_rules, t_testEnds)))
def w_X2_closeRule (cI cB cZ : ClassId) (a_t : Nat) (a_t_testEnds : Nat) (a_t_deeds : Nat) (a_t_values : Nat) (a_t_kinds : Nat) (a_t_sumStarts : Nat) (a_t_testStarts : Nat) (a_t_stack : Nat) (t_steps : Int32) (t_rules : Int32) (t_testEnds : (Nat → Int32)) : va_W := [(a_t, .inr (1, [.ref a_t_deeds, .ref a_t_values, .ref a_t_kinds, .ref a_t_sumStarts, .ref a_t_testStarts, .ref a_t_testEnds, .ref a_t_stack, .int t_steps, .int t_rules])), (a_t_testEnds, .inl (cI, 16, .inl t_testEnds))]
set_option maxHeartbeats 4000000 in
set_option maxRecDepth 100000 in
theorem b_X2_closeRule {p : Program} {l : Launch} {e : Env} {R : Room} {s : State} {m : MethodId} {args : Array Value} {below : List Frame} {meth : Method} {c : Code} {Q : State → Prop} {D : va_G} {cI cB cZ : ClassId} (hx : p.tables.exec = Jvm.exec) (hb : c.code = cX2_closeRule) (hml : c.maxLocals = 1) (hown : s.vm.findClass RX2 = some m.cls) (hT : ∀ w ∈ TB, w.before args s = true) (hRf : (1) ≤ R.frames) (hRl : (20) ≤ R.locals) (hK : va_K D vwCl (tyL cI cB cZ) s) (hN : NW s) {A : Nat → Prop} (hA : ∀ q : Nat, s.heap.size ≤ q → A q) (H : Heap) (locs : List Loc)  (a_t : Nat) (a_t_testEnds : Nat) (a_t_deeds : Nat) (a_t_values : Nat) (a_t_kinds : Nat) (a_t_sumStarts : Nat) (a_t_testStarts : Nat) (a_t_stack : Nat) (t_steps : Int32) (t_rules : Int32) (t_testEnds : (Nat → Int32)) (res : Int32 × (Nat → Int32)) (hf : f_X2_closeRule t_steps t_rules t_testEnds = some res) (hP : va_P D vwCl (w_X2_closeRule cI cB cZ a_t a_t_testEnds a_t_deeds a_t_values a_t_kinds a_t_sumStarts a_t_testStarts a_t_stack t_steps t_rules t_testEnds) H) (hD : va_D A (w_X2_closeRule cI cB cZ a_t a_t_testEnds a_t_deeds a_t_values a_t_kinds a_t_sumStarts a_t_testStarts a_t_stack t_steps t_rules t_testEnds)) (hS : va_S A s.heap H locs) (hQ : ∀ (H : Heap) (locs : List Loc) (pc : Nat) (ls : Array Slot), va_P D vwCl (w_X2_closeRule cI cB cZ a_t a_t_testEnds a_t_deeds a_t_values a_t_kinds a_t_sumStarts a_t_testStarts a_t_stack t_steps res.1 res.2) H → va_D A (w_X2_closeRule cI cB cZ a_t a_t_testEnds a_t_deeds a_t_values a_t_kinds a_t_sumStarts a_t_testStarts a_t_stack t_steps res.1 res.2) → va_S A s.heap H locs → True → decode cX2_closeRule pc = .ok (.return_, 1) → W p l e R s m args below meth c H locs 0 0 Q (F0 m pc ls [])) (ls : Array Slot) (hl : lv_has ls 1 [(0, .ref a_t)]) : W p l e R s m args below meth c H locs 0 0 Q (F0 m 0 ls []) := by
  unfold f_X2_closeRule at hf
  refine lv_aload_n hx hb dX2_closeRule_0 rfl (lv_at hl 0 rfl) ?_
  obtain ⟨z1, e1, hf⟩ := bd_some hf
  refine rV_RO (As := []) (rest := []) ⟨hx, hb, hml, hown, hT⟩ (gdV tb_550 tb_436 tb_437 tb_96 tb_438) hd_X2_isFull (c_X2_isFull l D cI cB cZ a_t a_t_deeds a_t_values a_t_kinds a_t_sumStarts a_t_testStarts a_t_testEnds a_t_stack t_steps t_rules z1 e1) ⟨rfl, rfl⟩ ⟨Nat.le_trans (by decide) hRf, Nat.le_trans (by decide) hRl⟩ ⟨hK, hN⟩ hP [0] rfl 0 rfl rfl rfl hl.1 rfl (Nat.le_of_ble_eq_true rfl) ⟨Nat.zero_le _, Nat.zero_le _⟩ dX2_closeRule_1 (fun hz_1 => ?_)
  refine lv_if_ne (tgt := 30) hx hb dX2_closeRule_4 (by decide) (fun hc_4 => ?_) (fun hc_4 => ?_)
  · have hf := it_neg hc_4 hf
    obtain rfl := Option.some.inj hf
    exact hQ H locs 30 ls hP hD hS trivial dX2_closeRule_30
  · have hf := it_pos hc_4 hf
    refine lv_aload_n hx hb dX2_closeRule_7 rfl (lv_at hl 0 rfl) ?_
    refine va_get (D := D) (ci := 1) (v := .ref a_t_testEnds) (C := RX2) (T := TX2) (N := 9) hx hb hT inX2 hown hK hP 0 rfl rfl 5 (by decide) (hT _ tb_318) (fun _ h9 => h9) rfl dX2_closeRule_8 ?_
    refine lv_aload_n hx hb dX2_closeRule_11 rfl (lv_at hl 0 rfl) ?_
    refine va_get (D := D) (ci := 1) (v := .int t_rules) (C := RX2) (T := TX2) (N := 9) hx hb hT inX2 hown hK hP 0 rfl rfl 8 (by decide) (hT _ tb_321) (fun _ h9 => h9) rfl dX2_closeRule_12 ?_
    refine lv_aload_n hx hb dX2_closeRule_15 rfl (lv_at hl 0 rfl) ?_
    refine va_get (D := D) (ci := 1) (v := .int t_steps) (C := RX2) (T := TX2) (N := 9) hx hb hT inX2 hown hK hP 0 rfl rfl 7 (by decide) (hT _ tb_320) (fun _ h9 => h9) rfl dX2_closeRule_16 ?_
    obtain ⟨hi_19, hf⟩ := ix_some hf
    refine va_iast hx hb hK hP hD hS 1 0 rfl rfl hi_19 dX2_closeRule_19 (fun H locs hP hD hS => ?_)
    have hP : va_P D vwCl (w_X2_closeRule cI cB cZ a_t a_t_testEnds a_t_deeds a_t_values a_t_kinds a_t_sumStarts a_t_testStarts a_t_stack t_steps t_rules (upd t_testEnds t_rules.toNatClampNeg t_steps)) H := hP
    have hD : va_D A (w_X2_closeRule cI cB cZ a_t a_t_testEnds a_t_deeds a_t_values a_t_kinds a_t_sumStarts a_t_testStarts a_t_stack t_steps t_rules (upd t_testEnds t_rules.toNatClampNeg t_steps)) := hD
    refine lv_aload_n hx hb dX2_closeRule_20 rfl (lv_at hl 0 rfl) ?_
    refine lv_dup hx hb dX2_closeRule_21 rfl ?_
    refine va_get (D := D) (ci := 1) (v := .int t_rules) (C := RX2) (T := TX2) (N := 9) hx hb hT inX2 hown hK hP 0 rfl rfl 8 (by decide) (hT _ tb_321) (fun _ h9 => h9) rfl dX2_closeRule_22 ?_
    refine lv_iconst (v := 1) hx hb dX2_closeRule_25 (by decide) ?_
    refine lv_iadd hx hb dX2_closeRule_26 ?_
    refine va_put (D := D) (ci := 1) (v := .int (t_rules + 1)) (ty := (.int)) (C := RX2) (T := TX2) (N := 9) hx hb hT inX2 tyX2 tyX2_ok nmX2 hown hK hP hD hS 0 rfl rfl 8 (by decide) (hT _ tb_321) (fun _ h9 => h9) rfl (by decide +kernel) rfl rfl (Nat.le_of_ble_eq_true rfl) dX2_closeRule_27 (fun H locs hP hD hS => ?_)
    have hP : va_P D vwCl (w_X2_closeRule cI cB cZ a_t a_t_testEnds a_t_deeds a_t_values a_t_kinds a_t_sumStarts a_t_testStarts a_t_stack t_steps (t_rules + 1) (upd t_testEnds t_rules.toNatClampNeg t_steps)) H := hP
    have hD : va_D A (w_X2_closeRule cI cB cZ a_t a_t_testEnds a_t_deeds a_t_values a_t_kinds a_t_sumStarts a_t_testStarts a_t_stack t_steps (t_rules + 1) (upd t_testEnds t_rules.toNatClampNeg t_steps)) := hD
    obtain rfl := Option.some.inj hf
    exact hQ H locs 30 ls hP hD hS trivial dX2_closeRule_30
theorem hd_X2_closeRule : (yX2_closeRule).cls = RX2 ∧ (yX2_closeRule).cls ≠ "java/lang/invoke/MethodHandle" ∧ (yX2_closeRule).cls ≠ "java/lang/invoke/VarHandle" ∧ (parseMethodDescriptor (yX2_closeRule).desc).map (fun d => d.parameters.length) = some 0 := by decide +kernel
theorem c_X2_closeRule (l : Launch) (D : va_G) (cI cB cZ : ClassId) (a_t : Nat) (a_t_testEnds : Nat) (a_t_deeds : Nat) (a_t_values : Nat) (a_t_kinds : Nat) (a_t_sumStarts : Nat) (a_t_testStarts : Nat) (a_t_stack : Nat) (t_steps : Int32) (t_rules : Int32) (t_testEnds : (Nat → Int32)) (sz : Nat) (res : Int32 × (Nat → Int32)) (hf : f_X2_closeRule t_steps t_rules t_testEnds = some res) : Met l yX2_closeRule (.code yX2_closeRule cX2_closeRule 1 none :: TB) (rmk (1) (20)) (pRW [.ref a_t] D cI cB cZ (w_X2_closeRule cI cB cZ a_t a_t_testEnds a_t_deeds a_t_values a_t_kinds a_t_sumStarts a_t_testStarts a_t_stack t_steps t_rules t_testEnds) sz) (qRW none True D (w_X2_closeRule cI cB cZ a_t a_t_testEnds a_t_deeds a_t_values a_t_kinds a_t_sumStarts a_t_testStarts a_t_stack t_steps t_rules t_testEnds) sz (w_X2_closeRule cI cB cZ a_t a_t_testEnds a_t_deeds a_t_values a_t_kinds a_t_sumStarts a_t_testStarts a_t_stack t_steps res.1 res.2)) 0 0 (va_A (w_X2_closeRule cI cB cZ a_t a_t_testEnds a_t_deeds a_t_values a_t_kinds a_t_sumStarts a_t_testStarts a_t_stack t_steps t_rules t_testEnds) sz) :=
  mkRW (by decide +kernel) (Nat.le_of_ble_eq_true rfl) (fun p e s m below meth c ls A hAe S hr hlk hK hA hP hD hS hl => b_X2_closeRule S.1 S.2.1 S.2.2.1 S.2.2.2.1 S.2.2.2.2 (Nat.le_refl _) (Nat.le_refl _) hK.1 hK.2 hA s.heap [] a_t a_t_testEnds a_t_deeds a_t_values a_t_kinds a_t_sumStarts a_t_testStarts a_t_stack t_steps t_rules t_testEnds res hf hP hD hS (fun H locs pc ls hP hD hS hE hd => eRW_v S.1 S.2.1 hr hlk hAe hP hD hS hE hd) ls hl)
def f_X2_add (t_steps : Int32) (t_deeds : (Nat → Int32)) (t_values : (Nat → Int32)) (x1 : Int32) (x2 : Int32) : Option (Int32 × Int32 × (Nat → Int32) × (Nat → Int32)) := (if t_steps < 240 then ix 240 t_steps (ix 240 t_steps (some ((t_steps + 1) - 1, t_steps + 1, upd t_deeds t_steps.toNatClampNeg x1, upd t_values t_steps.toNatClampNeg x2))) else some ((-1), t_steps, t_deeds, t_values))
def w_X2_add (cI cB cZ : ClassId) (a_t : Nat) (a_t_deeds : Nat) (a_t_values : Nat) (a_t_kinds : Nat) (a_t_sumStarts : Nat) (a_t_testStarts : Nat) (a_t_testEnds : Nat) (a_t_stack : Nat) (t_steps : Int32) (t_rules : Int32) (t_deeds : (Nat → Int32)) (t_values : (Nat → Int32)) : va_W := [(a_t, .inr (1, [.ref a_t_deeds, .ref a_t_values, .ref a_t_kinds, .ref a_t_sumStarts, .ref a_t_testStarts, .ref a_t_testEnds, .ref a_t_stack, .int t_steps, .int t_rules])), (a_t_deeds, .inl (cI, 240, .inl t_deeds)), (a_t_values, .inl (cI, 240, .inl t_values))]
set_option maxHeartbeats 4000000 in
set_option maxRecDepth 100000 in
theorem b_X2_add {p : Program} {l : Launch} {e : Env} {R : Room} {s : State} {m : MethodId} {args : Array Value} {below : List Frame} {meth : Method} {c : Code} {Q : State → Prop} {D : va_G} {cI cB cZ : ClassId} (hx : p.tables.exec = Jvm.exec) (hb : c.code = cX2_add) (hml : c.maxLocals = 3) (hown : s.vm.findClass RX2 = some m.cls) (hT : ∀ w ∈ TB, w.before args s = true) (hRf : (0) ≤ R.frames) (hRl : (0) ≤ R.locals) (hK : va_K D vwCl (tyL cI cB cZ) s) (hN : NW s) {A : Nat → Prop} (hA : ∀ q : Nat, s.heap.size ≤ q → A q) (H : Heap) (locs : List Loc)  (a_t : Nat) (a_t_deeds : Nat) (a_t_values : Nat) (a_t_kinds : Nat) (a_t_sumStarts : Nat) (a_t_testStarts : Nat) (a_t_testEnds : Nat) (a_t_stack : Nat) (t_steps : Int32) (t_rules : Int32) (t_deeds : (Nat → Int32)) (t_values : (Nat → Int32)) (x1 : Int32) (x2 : Int32) (res : Int32 × Int32 × (Nat → Int32) × (Nat → Int32)) (hf : f_X2_add t_steps t_deeds t_values x1 x2 = some res) (hP : va_P D vwCl (w_X2_add cI cB cZ a_t a_t_deeds a_t_values a_t_kinds a_t_sumStarts a_t_testStarts a_t_testEnds a_t_stack t_steps t_rules t_deeds t_values) H) (hD : va_D A (w_X2_add cI cB cZ a_t a_t_deeds a_t_values a_t_kinds a_t_sumStarts a_t_testStarts a_t_testEnds a_t_stack t_steps t_rules t_deeds t_values)) (hS : va_S A s.heap H locs) (hQ : ∀ (H : Heap) (locs : List Loc) (pc : Nat) (ls : Array Slot), va_P D vwCl (w_X2_add cI cB cZ a_t a_t_deeds a_t_values a_t_kinds a_t_sumStarts a_t_testStarts a_t_testEnds a_t_stack res.2.1 t_rules res.2.2.1 res.2.2.2) H → va_D A (w_X2_add cI cB cZ a_t a_t_deeds a_t_values a_t_kinds a_t_sumStarts a_t_testStarts a_t_testEnds a_t_stack res.2.1 t_rules res.2.2.1 res.2.2.2) → va_S A s.heap H locs → True → decode cX2_add pc = .ok (.ireturn, 1) → W p l e R s m args below meth c H locs 0 0 Q (F0 m pc ls [.int res.1])) (ls : Array Slot) (hl : lv_has ls 3 [(0, .ref a_t), (1, .int x1), (2, .int x2)]) : W p l e R s m args below meth c H locs 0 0 Q (F0 m 0 ls []) := by
  unfold f_X2_add at hf
  refine lv_aload_n hx hb dX2_add_0 rfl (lv_at hl 0 rfl) ?_
  refine va_get (D := D) (ci := 1) (v := .int t_steps) (C := RX2) (T := TX2) (N := 9) hx hb hT inX2 hown hK hP 0 rfl rfl 7 (by decide) (hT _ tb_320) (fun _ h9 => h9) rfl dX2_add_1 ?_
  refine lv_sipush (v := 240) hx hb dX2_add_4 (by decide) ?_
  refine lv_icmp_lt (tgt := 12) hx hb dX2_add_7 (by decide) (fun hc_7 => ?_) (fun hc_7 => ?_)
  · have hf := it_pos hc_7 hf
    refine lv_aload_n hx hb dX2_add_12 rfl (lv_at hl 0 rfl) ?_
    refine va_get (D := D) (ci := 1) (v := .ref a_t_deeds) (C := RX2) (T := TX2) (N := 9) hx hb hT inX2 hown hK hP 0 rfl rfl 0 (by decide) (hT _ tb_313) (fun _ h9 => h9) rfl dX2_add_13 ?_
    refine lv_aload_n hx hb dX2_add_16 rfl (lv_at hl 0 rfl) ?_
    refine va_get (D := D) (ci := 1) (v := .int t_steps) (C := RX2) (T := TX2) (N := 9) hx hb hT inX2 hown hK hP 0 rfl rfl 7 (by decide) (hT _ tb_320) (fun _ h9 => h9) rfl dX2_add_17 ?_
    refine lv_iload_n hx hb dX2_add_20 rfl (lv_at hl 1 rfl) ?_
    obtain ⟨hi_21, hf⟩ := ix_some hf
    refine va_iast hx hb hK hP hD hS 1 0 rfl rfl hi_21 dX2_add_21 (fun H locs hP hD hS => ?_)
    have hP : va_P D vwCl (w_X2_add cI cB cZ a_t a_t_deeds a_t_values a_t_kinds a_t_sumStarts a_t_testStarts a_t_testEnds a_t_stack t_steps t_rules (upd t_deeds t_steps.toNatClampNeg x1) t_values) H := hP
    have hD : va_D A (w_X2_add cI cB cZ a_t a_t_deeds a_t_values a_t_kinds a_t_sumStarts a_t_testStarts a_t_testEnds a_t_stack t_steps t_rules (upd t_deeds t_steps.toNatClampNeg x1) t_values) := hD
    refine lv_aload_n hx hb dX2_add_22 rfl (lv_at hl 0 rfl) ?_
    refine va_get (D := D) (ci := 1) (v := .ref a_t_values) (C := RX2) (T := TX2) (N := 9) hx hb hT inX2 hown hK hP 0 rfl rfl 1 (by decide) (hT _ tb_314) (fun _ h9 => h9) rfl dX2_add_23 ?_
    refine lv_aload_n hx hb dX2_add_26 rfl (lv_at hl 0 rfl) ?_
    refine va_get (D := D) (ci := 1) (v := .int t_steps) (C := RX2) (T := TX2) (N := 9) hx hb hT inX2 hown hK hP 0 rfl rfl 7 (by decide) (hT _ tb_320) (fun _ h9 => h9) rfl dX2_add_27 ?_
    refine lv_iload_n hx hb dX2_add_30 rfl (lv_at hl 2 rfl) ?_
    obtain ⟨hi_31, hf⟩ := ix_some hf
    refine va_iast hx hb hK hP hD hS 2 0 rfl rfl hi_31 dX2_add_31 (fun H locs hP hD hS => ?_)
    have hP : va_P D vwCl (w_X2_add cI cB cZ a_t a_t_deeds a_t_values a_t_kinds a_t_sumStarts a_t_testStarts a_t_testEnds a_t_stack t_steps t_rules (upd t_deeds t_steps.toNatClampNeg x1) (upd t_values t_steps.toNatClampNeg x2)) H := hP
    have hD : va_D A (w_X2_add cI cB cZ a_t a_t_deeds a_t_values a_t_kinds a_t_sumStarts a_t_testStarts a_t_testEnds a_t_stack t_steps t_rules (upd t_deeds t_steps.toNatClampNeg x1) (upd t_values t_steps.toNatClampNeg x2)) := hD
    refine lv_aload_n hx hb dX2_add_32 rfl (lv_at hl 0 rfl) ?_
    refine lv_dup hx hb dX2_add_33 rfl ?_
    refine va_get (D := D) (ci := 1) (v := .int t_steps) (C := RX2) (T := TX2) (N := 9) hx hb hT inX2 hown hK hP 0 rfl rfl 7 (by decide) (hT _ tb_320) (fun _ h9 => h9) rfl dX2_add_34 ?_
    refine lv_iconst (v := 1) hx hb dX2_add_37 (by decide) ?_
    refine lv_iadd hx hb dX2_add_38 ?_
    refine va_put (D := D) (ci := 1) (v := .int (t_steps + 1)) (ty := (.int)) (C := RX2) (T := TX2) (N := 9) hx hb hT inX2 tyX2 tyX2_ok nmX2 hown hK hP hD hS 0 rfl rfl 7 (by decide) (hT _ tb_320) (fun _ h9 => h9) rfl (by decide +kernel) rfl rfl (Nat.le_of_ble_eq_true rfl) dX2_add_39 (fun H locs hP hD hS => ?_)
    have hP : va_P D vwCl (w_X2_add cI cB cZ a_t a_t_deeds a_t_values a_t_kinds a_t_sumStarts a_t_testStarts a_t_testEnds a_t_stack (t_steps + 1) t_rules (upd t_deeds t_steps.toNatClampNeg x1) (upd t_values t_steps.toNatClampNeg x2)) H := hP
    have hD : va_D A (w_X2_add cI cB cZ a_t a_t_deeds a_t_values a_t_kinds a_t_sumStarts a_t_testStarts a_t_testEnds a_t_stack (t_steps + 1) t_rules (upd t_deeds t_steps.toNatClampNeg x1) (upd t_values t_steps.toNatClampNeg x2)) := hD
    refine lv_aload_n hx hb dX2_add_42 rfl (lv_at hl 0 rfl) ?_
    refine va_get (D := D) (ci := 1) (v := .int (t_steps + 1)) (C := RX2) (T := TX2) (N := 9) hx hb hT inX2 hown hK hP 0 rfl rfl 7 (by decide) (hT _ tb_320) (fun _ h9 => h9) rfl dX2_add_43 ?_
    refine lv_iconst (v := 1) hx hb dX2_add_46 (by decide) ?_
    refine lv_isub hx hb dX2_add_47 ?_
    obtain rfl := Option.some.inj hf
    exact hQ H locs 48 ls hP hD hS trivial dX2_add_48
  · have hf := it_neg hc_7 hf
    refine lv_iconst (v := (-1)) hx hb dX2_add_10 (by decide) ?_
    obtain rfl := Option.some.inj hf
    exact hQ H locs 11 ls hP hD hS trivial dX2_add_11
theorem hd_X2_add : (yX2_add).cls = RX2 ∧ (yX2_add).cls ≠ "java/lang/invoke/MethodHandle" ∧ (yX2_add).cls ≠ "java/lang/invoke/VarHandle" ∧ (parseMethodDescriptor (yX2_add).desc).map (fun d => d.parameters.length) = some 2 := by decide +kernel
theorem c_X2_add (l : Launch) (D : va_G) (cI cB cZ : ClassId) (a_t : Nat) (a_t_deeds : Nat) (a_t_values : Nat) (a_t_kinds : Nat) (a_t_sumStarts : Nat) (a_t_testStarts : Nat) (a_t_testEnds : Nat) (a_t_stack : Nat) (t_steps : Int32) (t_rules : Int32) (t_deeds : (Nat → Int32)) (t_values : (Nat → Int32)) (x1 : Int32) (x2 : Int32) (sz : Nat) (res : Int32 × Int32 × (Nat → Int32) × (Nat → Int32)) (hf : f_X2_add t_steps t_deeds t_values x1 x2 = some res) : Met l yX2_add (.code yX2_add cX2_add 3 (some .int) :: TB) (rmk (0) (0)) (pRW [.ref a_t, .int x1, .int x2] D cI cB cZ (w_X2_add cI cB cZ a_t a_t_deeds a_t_values a_t_kinds a_t_sumStarts a_t_testStarts a_t_testEnds a_t_stack t_steps t_rules t_deeds t_values) sz) (qRW (some (.int res.1)) True D (w_X2_add cI cB cZ a_t a_t_deeds a_t_values a_t_kinds a_t_sumStarts a_t_testStarts a_t_testEnds a_t_stack t_steps t_rules t_deeds t_values) sz (w_X2_add cI cB cZ a_t a_t_deeds a_t_values a_t_kinds a_t_sumStarts a_t_testStarts a_t_testEnds a_t_stack res.2.1 t_rules res.2.2.1 res.2.2.2)) 0 0 (va_A (w_X2_add cI cB cZ a_t a_t_deeds a_t_values a_t_kinds a_t_sumStarts a_t_testStarts a_t_testEnds a_t_stack t_steps t_rules t_deeds t_values) sz) :=
  mkRW (by decide +kernel) (Nat.le_of_ble_eq_true rfl) (fun p e s m below meth c ls A hAe S hr hlk hK hA hP hD hS hl => b_X2_add S.1 S.2.1 S.2.2.1 S.2.2.2.1 S.2.2.2.2 (Nat.le_refl _) (Nat.le_refl _) hK.1 hK.2 hA s.heap [] a_t a_t_deeds a_t_values a_t_kinds a_t_sumStarts a_t_testStarts a_t_testEnds a_t_stack t_steps t_rules t_deeds t_values x1 x2 res hf hP hD hS (fun H locs pc ls hP hD hS hE hd => eRW_i S.1 S.2.1 hr rfl hlk hAe hP hD hS hE hd) ls hl)
def f_X2_landHere (t_steps : Int32) (t_values : (Nat → Int32)) (x1 : Int32) : Option ((Nat → Int32)) := (if x1 < 0 then some (t_values) else (if t_steps ≤ x1 then some (t_values) else ix 240 x1 (some (upd t_values x1.toNatClampNeg t_steps))))
def w_X2_landHere (cI cB cZ : ClassId) (a_t : Nat) (a_t_values : Nat) (a_t_deeds : Nat) (a_t_kinds : Nat) (a_t_sumStarts : Nat) (a_t_testStarts : Nat) (a_t_testEnds : Nat) (a_t_stack : Nat) (t_steps : Int32) (t_rules : Int32) (t_values : (Nat → Int32)) : va_W := [(a_t, .inr (1, [.ref a_t_deeds, .ref a_t_values, .ref a_t_kinds, .ref a_t_sumStarts, .ref a_t_testStarts, .ref a_t_testEnds, .ref a_t_stack, .int t_steps, .int t_rules])), (a_t_values, .inl (cI, 240, .inl t_values))]
set_option maxHeartbeats 4000000 in
set_option maxRecDepth 100000 in
theorem b_X2_landHere {p : Program} {l : Launch} {e : Env} {R : Room} {s : State} {m : MethodId} {args : Array Value} {below : List Frame} {meth : Method} {c : Code} {Q : State → Prop} {D : va_G} {cI cB cZ : ClassId} (hx : p.tables.exec = Jvm.exec) (hb : c.code = cX2_landHere) (hml : c.maxLocals = 2) (hown : s.vm.findClass RX2 = some m.cls) (hT : ∀ w ∈ TB, w.before args s = true) (hRf : (0) ≤ R.frames) (hRl : (0) ≤ R.locals) (hK : va_K D vwCl (tyL cI cB cZ) s) (hN : NW s) {A : Nat → Prop} (hA : ∀ q : Nat, s.heap.size ≤ q → A q) (H : Heap) (locs : List Loc)  (a_t : Nat) (a_t_values : Nat) (a_t_deeds : Nat) (a_t_kinds : Nat) (a_t_sumStarts : Nat) (a_t_testStarts : Nat) (a_t_testEnds : Nat) (a_t_stack : Nat) (t_steps : Int32) (t_rules : Int32) (t_values : (Nat → Int32)) (x1 : Int32) (res : (Nat → Int32)) (hf : f_X2_landHere t_steps t_values x1 = some res) (hP : va_P D vwCl (w_X2_landHere cI cB cZ a_t a_t_values a_t_deeds a_t_kinds a_t_sumStarts a_t_testStarts a_t_testEnds a_t_stack t_steps t_rules t_values) H) (hD : va_D A (w_X2_landHere cI cB cZ a_t a_t_values a_t_deeds a_t_kinds a_t_sumStarts a_t_testStarts a_t_testEnds a_t_stack t_steps t_rules t_values)) (hS : va_S A s.heap H locs) (hQ : ∀ (H : Heap) (locs : List Loc) (pc : Nat) (ls : Array Slot), va_P D vwCl (w_X2_landHere cI cB cZ a_t a_t_values a_t_deeds a_t_kinds a_t_sumStarts a_t_testStarts a_t_testEnds a_t_stack t_steps t_rules res) H → va_D A (w_X2_landHere cI cB cZ a_t a_t_values a_t_deeds a_t_kinds a_t_sumStarts a_t_testStarts a_t_testEnds a_t_stack t_steps t_rules res) → va_S A s.heap H locs → True → decode cX2_landHere pc = .ok (.return_, 1) → W p l e R s m args below meth c H locs 0 0 Q (F0 m pc ls [])) (ls : Array Slot) (hl : lv_has ls 2 [(0, .ref a_t), (1, .int x1)]) : W p l e R s m args below meth c H locs 0 0 Q (F0 m 0 ls []) := by
  unfold f_X2_landHere at hf
  refine lv_iload_n hx hb dX2_landHere_0 rfl (lv_at hl 1 rfl) ?_
  refine lv_if_lt (tgt := 22) hx hb dX2_landHere_1 (by decide) (fun hc_1 => ?_) (fun hc_1 => ?_)
  · have hf := it_pos hc_1 hf
    obtain rfl := Option.some.inj hf
    exact hQ H locs 22 ls hP hD hS trivial dX2_landHere_22
  · have hf := it_neg hc_1 hf
    refine lv_iload_n hx hb dX2_landHere_4 rfl (lv_at hl 1 rfl) ?_
    refine lv_aload_n hx hb dX2_landHere_5 rfl (lv_at hl 0 rfl) ?_
    refine va_get (D := D) (ci := 1) (v := .int t_steps) (C := RX2) (T := TX2) (N := 9) hx hb hT inX2 hown hK hP 0 rfl rfl 7 (by decide) (hT _ tb_320) (fun _ h9 => h9) rfl dX2_landHere_6 ?_
    refine lv_icmp_ge (tgt := 22) hx hb dX2_landHere_9 (by decide) (fun hc_9 => ?_) (fun hc_9 => ?_)
    · have hf := it_pos hc_9 hf
      obtain rfl := Option.some.inj hf
      exact hQ H locs 22 ls hP hD hS trivial dX2_landHere_22
    · have hf := it_neg hc_9 hf
      refine lv_aload_n hx hb dX2_landHere_12 rfl (lv_at hl 0 rfl) ?_
      refine va_get (D := D) (ci := 1) (v := .ref a_t_values) (C := RX2) (T := TX2) (N := 9) hx hb hT inX2 hown hK hP 0 rfl rfl 1 (by decide) (hT _ tb_314) (fun _ h9 => h9) rfl dX2_landHere_13 ?_
      refine lv_iload_n hx hb dX2_landHere_16 rfl (lv_at hl 1 rfl) ?_
      refine lv_aload_n hx hb dX2_landHere_17 rfl (lv_at hl 0 rfl) ?_
      refine va_get (D := D) (ci := 1) (v := .int t_steps) (C := RX2) (T := TX2) (N := 9) hx hb hT inX2 hown hK hP 0 rfl rfl 7 (by decide) (hT _ tb_320) (fun _ h9 => h9) rfl dX2_landHere_18 ?_
      obtain ⟨hi_21, hf⟩ := ix_some hf
      refine va_iast hx hb hK hP hD hS 1 0 rfl rfl hi_21 dX2_landHere_21 (fun H locs hP hD hS => ?_)
      have hP : va_P D vwCl (w_X2_landHere cI cB cZ a_t a_t_values a_t_deeds a_t_kinds a_t_sumStarts a_t_testStarts a_t_testEnds a_t_stack t_steps t_rules (upd t_values x1.toNatClampNeg t_steps)) H := hP
      have hD : va_D A (w_X2_landHere cI cB cZ a_t a_t_values a_t_deeds a_t_kinds a_t_sumStarts a_t_testStarts a_t_testEnds a_t_stack t_steps t_rules (upd t_values x1.toNatClampNeg t_steps)) := hD
      obtain rfl := Option.some.inj hf
      exact hQ H locs 22 ls hP hD hS trivial dX2_landHere_22
theorem hd_X2_landHere : (yX2_landHere).cls = RX2 ∧ (yX2_landHere).cls ≠ "java/lang/invoke/MethodHandle" ∧ (yX2_landHere).cls ≠ "java/lang/invoke/VarHandle" ∧ (parseMethodDescriptor (yX2_landHere).desc).map (fun d => d.parameters.length) = some 1 := by decide +kernel
theorem c_X2_landHere (l : Launch) (D : va_G) (cI cB cZ : ClassId) (a_t : Nat) (a_t_values : Nat) (a_t_deeds : Nat) (a_t_kinds : Nat) (a_t_sumStarts : Nat) (a_t_testStarts : Nat) (a_t_testEnds : Nat) (a_t_stack : Nat) (t_steps : Int32) (t_rules : Int32) (t_values : (Nat → Int32)) (x1 : Int32) (sz : Nat) (res : (Nat → Int32)) (hf : f_X2_landHere t_steps t_values x1 = some res) : Met l yX2_landHere (.code yX2_landHere cX2_landHere 2 none :: TB) (rmk (0) (0)) (pRW [.ref a_t, .int x1] D cI cB cZ (w_X2_landHere cI cB cZ a_t a_t_values a_t_deeds a_t_kinds a_t_sumStarts a_t_testStarts a_t_testEnds a_t_stack t_steps t_rules t_values) sz) (qRW none True D (w_X2_landHere cI cB cZ a_t a_t_values a_t_deeds a_t_kinds a_t_sumStarts a_t_testStarts a_t_testEnds a_t_stack t_steps t_rules t_values) sz (w_X2_landHere cI cB cZ a_t a_t_values a_t_deeds a_t_kinds a_t_sumStarts a_t_testStarts a_t_testEnds a_t_stack t_steps t_rules res)) 0 0 (va_A (w_X2_landHere cI cB cZ a_t a_t_values a_t_deeds a_t_kinds a_t_sumStarts a_t_testStarts a_t_testEnds a_t_stack t_steps t_rules t_values) sz) :=
  mkRW (by decide +kernel) (Nat.le_of_ble_eq_true rfl) (fun p e s m below meth c ls A hAe S hr hlk hK hA hP hD hS hl => b_X2_landHere S.1 S.2.1 S.2.2.1 S.2.2.2.1 S.2.2.2.2 (Nat.le_refl _) (Nat.le_refl _) hK.1 hK.2 hA s.heap [] a_t a_t_values a_t_deeds a_t_kinds a_t_sumStarts a_t_testStarts a_t_testEnds a_t_stack t_steps t_rules t_values x1 res hf hP hD hS (fun H locs pc ls hP hD hS hE hd => eRW_v S.1 S.2.1 hr hlk hAe hP hD hS hE hd) ls hl)
def f_X2_ofTwo (x0 : Int32) (x1 : Int32) (x2 : Int32) : Option (Int32) := (if x0 = 5 then some (x1 + x2) else (if x0 = 6 then some (x1 - x2) else (if x0 = 7 then some (x1 * x2) else (if x0 = 8 then (if x2 = 0 then some (0) else dv x2 (some (x1 / x2))) else (if x0 = 9 then (if x2 = 0 then some (0) else dv x2 (some (jrem x1 x2))) else (if x0 = 10 then (if x2 ≤ x1 then some (0) else some (1)) else (if x0 = 11 then (if x1 ≤ x2 then some (0) else some (1)) else (if x1 = x2 then some (1) else some (0)))))))))
def w_X2_ofTwo (cI cB cZ : ClassId) : va_W := []
set_option maxHeartbeats 4000000 in
set_option maxRecDepth 100000 in
theorem b_X2_ofTwo {p : Program} {l : Launch} {e : Env} {R : Room} {s : State} {m : MethodId} {args : Array Value} {below : List Frame} {meth : Method} {c : Code} {Q : State → Prop} {D : va_G} {cI cB cZ : ClassId} (hx : p.tables.exec = Jvm.exec) (hb : c.code = cX2_ofTwo) (hml : c.maxLocals = 3) (hown : s.vm.findClass RX2 = some m.cls) (hT : ∀ w ∈ TB, w.before args s = true) (hRf : (0) ≤ R.frames) (hRl : (0) ≤ R.locals) (hK : va_K D vwCl (tyL cI cB cZ) s) (hN : NW s)  (x0 : Int32) (x1 : Int32) (x2 : Int32) (res : Int32) (hf : f_X2_ofTwo x0 x1 x2 = some res) (hP : va_P D vwCl (w_X2_ofTwo cI cB cZ ) s.heap) (hQ : ∀ (pc : Nat) (ls : Array Slot), True → decode cX2_ofTwo pc = .ok (.ireturn, 1) → W p l e R s m args below meth c s.heap [] 0 0 Q (F0 m pc ls [.int res])) (ls : Array Slot) (hl : lv_has ls 3 [(0, .int x0), (1, .int x1), (2, .int x2)]) : W p l e R s m args below meth c s.heap [] 0 0 Q (F0 m 0 ls []) := by
  unfold f_X2_ofTwo at hf
  refine lv_iload_n hx hb dX2_ofTwo_0 rfl (lv_at hl 0 rfl) ?_
  by_cases hs_1_0 : x0 = 5
  · have hf := it_pos hs_1_0 hf
    refine lv_tableIn (off := 43) (tgt := 44) hx hb dX2_ofTwo_1 (by rw [hs_1_0]; decide) (by rw [hs_1_0]; decide) (by rw [hs_1_0]; rfl) (by decide) ?_
    refine lv_iload_n hx hb dX2_ofTwo_44 rfl (lv_at hl 1 rfl) ?_
    refine lv_iload_n hx hb dX2_ofTwo_45 rfl (lv_at hl 2 rfl) ?_
    refine lv_iadd hx hb dX2_ofTwo_46 ?_
    obtain rfl := Option.some.inj hf
    exact hQ 47 ls trivial dX2_ofTwo_47
  have hf := it_neg hs_1_0 hf
  by_cases hs_1_1 : x0 = 6
  · have hf := it_pos hs_1_1 hf
    refine lv_tableIn (off := 47) (tgt := 48) hx hb dX2_ofTwo_1 (by rw [hs_1_1]; decide) (by rw [hs_1_1]; decide) (by rw [hs_1_1]; rfl) (by decide) ?_
    refine lv_iload_n hx hb dX2_ofTwo_48 rfl (lv_at hl 1 rfl) ?_
    refine lv_iload_n hx hb dX2_ofTwo_49 rfl (lv_at hl 2 rfl) ?_
    refine lv_isub hx hb dX2_ofTwo_50 ?_
    obtain rfl := Option.some.inj hf
    exact hQ 51 ls trivial dX2_ofTwo_51
  have hf := it_neg hs_1_1 hf
  by_cases hs_1_2 : x0 = 7
  · have hf := it_pos hs_1_2 hf
    refine lv_tableIn (off := 51) (tgt := 52) hx hb dX2_ofTwo_1 (by rw [hs_1_2]; decide) (by rw [hs_1_2]; decide) (by rw [hs_1_2]; rfl) (by decide) ?_
    refine lv_iload_n hx hb dX2_ofTwo_52 rfl (lv_at hl 1 rfl) ?_
    refine lv_iload_n hx hb dX2_ofTwo_53 rfl (lv_at hl 2 rfl) ?_
    refine lv_imul hx hb dX2_ofTwo_54 ?_
    obtain rfl := Option.some.inj hf
    exact hQ 55 ls trivial dX2_ofTwo_55
  have hf := it_neg hs_1_2 hf
  by_cases hs_1_3 : x0 = 8
  · have hf := it_pos hs_1_3 hf
    refine lv_tableIn (off := 55) (tgt := 56) hx hb dX2_ofTwo_1 (by rw [hs_1_3]; decide) (by rw [hs_1_3]; decide) (by rw [hs_1_3]; rfl) (by decide) ?_
    refine lv_iload_n hx hb dX2_ofTwo_56 rfl (lv_at hl 2 rfl) ?_
    refine lv_if_ne (tgt := 64) hx hb dX2_ofTwo_57 (by decide) (fun hc_57 => ?_) (fun hc_57 => ?_)
    · have hf := it_neg hc_57 hf
      refine lv_iload_n hx hb dX2_ofTwo_64 rfl (lv_at hl 1 rfl) ?_
      refine lv_iload_n hx hb dX2_ofTwo_65 rfl (lv_at hl 2 rfl) ?_
      obtain ⟨hd_66, hf⟩ := dv_some hf
      refine lv_idiv hx hb dX2_ofTwo_66 hd_66 ?_
      obtain rfl := Option.some.inj hf
      exact hQ 67 ls trivial dX2_ofTwo_67
    · have hf := it_pos hc_57 hf
      refine lv_iconst (v := 0) hx hb dX2_ofTwo_60 (by decide) ?_
      refine lv_goto (tgt := 67) hx hb dX2_ofTwo_61 (by decide) ?_
      obtain rfl := Option.some.inj hf
      exact hQ 67 ls trivial dX2_ofTwo_67
  have hf := it_neg hs_1_3 hf
  by_cases hs_1_4 : x0 = 9
  · have hf := it_pos hs_1_4 hf
    refine lv_tableIn (off := 67) (tgt := 68) hx hb dX2_ofTwo_1 (by rw [hs_1_4]; decide) (by rw [hs_1_4]; decide) (by rw [hs_1_4]; rfl) (by decide) ?_
    refine lv_iload_n hx hb dX2_ofTwo_68 rfl (lv_at hl 2 rfl) ?_
    refine lv_if_ne (tgt := 76) hx hb dX2_ofTwo_69 (by decide) (fun hc_69 => ?_) (fun hc_69 => ?_)
    · have hf := it_neg hc_69 hf
      refine lv_iload_n hx hb dX2_ofTwo_76 rfl (lv_at hl 1 rfl) ?_
      refine lv_iload_n hx hb dX2_ofTwo_77 rfl (lv_at hl 2 rfl) ?_
      obtain ⟨hd_78, hf⟩ := dv_some hf
      refine lv_irem hx hb dX2_ofTwo_78 hd_78 ?_
      obtain rfl := Option.some.inj hf
      exact hQ 79 ls trivial dX2_ofTwo_79
    · have hf := it_pos hc_69 hf
      refine lv_iconst (v := 0) hx hb dX2_ofTwo_72 (by decide) ?_
      refine lv_goto (tgt := 79) hx hb dX2_ofTwo_73 (by decide) ?_
      obtain rfl := Option.some.inj hf
      exact hQ 79 ls trivial dX2_ofTwo_79
  have hf := it_neg hs_1_4 hf
  by_cases hs_1_5 : x0 = 10
  · have hf := it_pos hs_1_5 hf
    refine lv_tableIn (off := 79) (tgt := 80) hx hb dX2_ofTwo_1 (by rw [hs_1_5]; decide) (by rw [hs_1_5]; decide) (by rw [hs_1_5]; rfl) (by decide) ?_
    refine lv_iload_n hx hb dX2_ofTwo_80 rfl (lv_at hl 1 rfl) ?_
    refine lv_iload_n hx hb dX2_ofTwo_81 rfl (lv_at hl 2 rfl) ?_
    refine lv_icmp_ge (tgt := 89) hx hb dX2_ofTwo_82 (by decide) (fun hc_82 => ?_) (fun hc_82 => ?_)
    · have hf := it_pos hc_82 hf
      refine lv_iconst (v := 0) hx hb dX2_ofTwo_89 (by decide) ?_
      obtain rfl := Option.some.inj hf
      exact hQ 90 ls trivial dX2_ofTwo_90
    · have hf := it_neg hc_82 hf
      refine lv_iconst (v := 1) hx hb dX2_ofTwo_85 (by decide) ?_
      refine lv_goto (tgt := 90) hx hb dX2_ofTwo_86 (by decide) ?_
      obtain rfl := Option.some.inj hf
      exact hQ 90 ls trivial dX2_ofTwo_90
  have hf := it_neg hs_1_5 hf
  by_cases hs_1_6 : x0 = 11
  · have hf := it_pos hs_1_6 hf
    refine lv_tableIn (off := 90) (tgt := 91) hx hb dX2_ofTwo_1 (by rw [hs_1_6]; decide) (by rw [hs_1_6]; decide) (by rw [hs_1_6]; rfl) (by decide) ?_
    refine lv_iload_n hx hb dX2_ofTwo_91 rfl (lv_at hl 1 rfl) ?_
    refine lv_iload_n hx hb dX2_ofTwo_92 rfl (lv_at hl 2 rfl) ?_
    refine lv_icmp_le (tgt := 100) hx hb dX2_ofTwo_93 (by decide) (fun hc_93 => ?_) (fun hc_93 => ?_)
    · have hf := it_pos hc_93 hf
      refine lv_iconst (v := 0) hx hb dX2_ofTwo_100 (by decide) ?_
      obtain rfl := Option.some.inj hf
      exact hQ 101 ls trivial dX2_ofTwo_101
    · have hf := it_neg hc_93 hf
      refine lv_iconst (v := 1) hx hb dX2_ofTwo_96 (by decide) ?_
      refine lv_goto (tgt := 101) hx hb dX2_ofTwo_97 (by decide) ?_
      obtain rfl := Option.some.inj hf
      exact hQ 101 ls trivial dX2_ofTwo_101
  have hf := it_neg hs_1_6 hf
  refine lv_tableOut (tgt := 102) hx hb dX2_ofTwo_1 (ts_out 5 7 (by decide) (by decide) (fun k hk => match k, hk with | 0, _ => hs_1_0 | 1, _ => hs_1_1 | 2, _ => hs_1_2 | 3, _ => hs_1_3 | 4, _ => hs_1_4 | 5, _ => hs_1_5 | 6, _ => hs_1_6)) (by decide) ?_
  refine lv_iload_n hx hb dX2_ofTwo_102 rfl (lv_at hl 1 rfl) ?_
  refine lv_iload_n hx hb dX2_ofTwo_103 rfl (lv_at hl 2 rfl) ?_
  refine lv_icmp_ne (tgt := 111) hx hb dX2_ofTwo_104 (by decide) (fun hc_104 => ?_) (fun hc_104 => ?_)
  · have hf := it_neg hc_104 hf
    refine lv_iconst (v := 0) hx hb dX2_ofTwo_111 (by decide) ?_
    obtain rfl := Option.some.inj hf
    exact hQ 112 ls trivial dX2_ofTwo_112
  · have hf := it_pos hc_104 hf
    refine lv_iconst (v := 1) hx hb dX2_ofTwo_107 (by decide) ?_
    refine lv_goto (tgt := 112) hx hb dX2_ofTwo_108 (by decide) ?_
    obtain rfl := Option.some.inj hf
    exact hQ 112 ls trivial dX2_ofTwo_112
theorem hd_X2_ofTwo : (yX2_ofTwo).cls ≠ "java/lang/invoke/MethodHandle" ∧ (yX2_ofTwo).cls ≠ "java/lang/invoke/VarHandle" ∧ (parseMethodDescriptor (yX2_ofTwo).desc).map (fun d => d.parameters.length) = some 3 := by decide +kernel
theorem c_X2_ofTwo (l : Launch) (D : va_G) (cI cB cZ : ClassId) (x0 : Int32) (x1 : Int32) (x2 : Int32) (res : Int32) (hf : f_X2_ofTwo x0 x1 x2 = some res) : Met l yX2_ofTwo (.code yX2_ofTwo cX2_ofTwo 3 (some .int) :: TB) (rmk (0) (0)) (pRO [.int x0, .int x1, .int x2] D cI cB cZ (w_X2_ofTwo cI cB cZ )) (qRO (some (.int res)) True) 0 0 (fun _ => False) :=
  mkRO (by decide +kernel) (Nat.le_of_ble_eq_true rfl) (fun p e s m below meth c ls S hr hlk hK hP hl => b_X2_ofTwo S.1 S.2.1 S.2.2.1 S.2.2.2.1 S.2.2.2.2 (Nat.le_refl _) (Nat.le_refl _) hK.1 hK.2 x0 x1 x2 res hf hP (fun pc ls hE hd => eRO_i S.1 S.2.1 hr rfl hlk hE hd) ls hl)
def f_X2_reckon_112 (t_deeds : (Nat → Int32)) (t_values : (Nat → Int32)) (p3 : (Nat → Int32)) (k9 : Int32 → Int32 → Int32 → Int32 → (Nat → Int32) → Option (Int32 × (Nat → Int32))) (x2 : Int32) (x4 : Int32) (x5 : Int32) (x6 : Int32) (y0 : Int32) (y1 : Int32) (t_stack : (Nat → Int32)) : Option (Int32 × (Nat → Int32)) := ix 32 y0 (k9 x2 (x4 + 1) x5 (x6 + 1) (upd t_stack y0.toNatClampNeg y1))
def f_X2_reckon_91 (t_deeds : (Nat → Int32)) (t_values : (Nat → Int32)) (p3 : (Nat → Int32)) (k9 : Int32 → Int32 → Int32 → Int32 → (Nat → Int32) → Option (Int32 × (Nat → Int32))) (x2 : Int32) (x4 : Int32) (x5 : Int32) (x6 : Int32) (x7 : Int32) (x8 : Int32) (t_stack : (Nat → Int32)) : Option (Int32 × (Nat → Int32)) := (if x7 = 1 then ix 12 x8 (f_X2_reckon_112 t_deeds t_values p3 k9 x2 x4 x5 x6 x4 (p3 x8.toNatClampNeg) t_stack) else f_X2_reckon_112 t_deeds t_values p3 k9 x2 x4 x5 x6 x4 x8 t_stack)
def f_X2_reckon_63 (t_deeds : (Nat → Int32)) (t_values : (Nat → Int32)) (p3 : (Nat → Int32)) (k9 : Int32 → Int32 → Int32 → Int32 → (Nat → Int32) → Option (Int32 × (Nat → Int32))) (x2 : Int32) (x4 : Int32) (x5 : Int32) (x6 : Int32) (x7 : Int32) (x8 : Int32) (t_stack : (Nat → Int32)) : Option (Int32 × (Nat → Int32)) := (if 32 ≤ x4 then some (0, t_stack) else (if x7 = 1 then (f_X11_isWithin x8 0 (12 - 1)).bind (fun z83 => (if z83 = 0 then some (0, t_stack) else f_X2_reckon_91 t_deeds t_values p3 k9 x2 x4 x5 x6 x7 x8 t_stack)) else f_X2_reckon_91 t_deeds t_values p3 k9 x2 x4 x5 x6 x7 x8 t_stack))
def f_X2_reckon_159 (t_deeds : (Nat → Int32)) (t_values : (Nat → Int32)) (p3 : (Nat → Int32)) (k9 : Int32 → Int32 → Int32 → Int32 → (Nat → Int32) → Option (Int32 × (Nat → Int32))) (x2 : Int32) (x4 : Int32) (x5 : Int32) (x6 : Int32) (x7 : Int32) (t_stack : (Nat → Int32)) : Option (Int32 × (Nat → Int32)) := ix 32 ((x4 + (-1)) - 1) (ix 32 (x4 + (-1)) ((f_X2_ofTwo x7 (t_stack ((x4 + (-1)) - 1).toNatClampNeg) (t_stack (x4 + (-1)).toNatClampNeg)).bind (fun z188 => ix 32 ((x4 + (-1)) - 1) (k9 x2 (x4 + (-1)) x5 (x6 + 1) (upd t_stack ((x4 + (-1)) - 1).toNatClampNeg z188)))))
def f_X2_reckon_260 (t_deeds : (Nat → Int32)) (t_values : (Nat → Int32)) (p3 : (Nat → Int32)) (k9 : Int32 → Int32 → Int32 → Int32 → (Nat → Int32) → Option (Int32 × (Nat → Int32))) (x2 : Int32) (x4 : Int32) (x5 : Int32) (x6 : Int32) (x8 : Int32) (y0 : Int32) (y1 : Int32) (t_stack : (Nat → Int32)) : Option (Int32 × (Nat → Int32)) := (if y0 = y1 then k9 x2 x4 x8 (x6 + 1) t_stack else k9 x2 (x4 + (-1)) x5 (x6 + 1) t_stack)
def f_X2_reckon_249 (t_deeds : (Nat → Int32)) (t_values : (Nat → Int32)) (p3 : (Nat → Int32)) (k9 : Int32 → Int32 → Int32 → Int32 → (Nat → Int32) → Option (Int32 × (Nat → Int32))) (x2 : Int32) (x4 : Int32) (x5 : Int32) (x6 : Int32) (x7 : Int32) (x8 : Int32) (y0 : Int32) (t_stack : (Nat → Int32)) : Option (Int32 × (Nat → Int32)) := (if x7 = 4 then f_X2_reckon_260 t_deeds t_values p3 k9 x2 x4 x5 x6 x8 y0 1 t_stack else f_X2_reckon_260 t_deeds t_values p3 k9 x2 x4 x5 x6 x8 y0 0 t_stack)
def f_X2_reckon_279 (t_deeds : (Nat → Int32)) (t_values : (Nat → Int32)) (p3 : (Nat → Int32)) (x4 : Int32) (t_stack : (Nat → Int32)) : Option (Int32 × (Nat → Int32)) := (if x4 ≤ 0 then some (0, t_stack) else ix 32 (x4 - 1) (some (t_stack (x4 - 1).toNatClampNeg, t_stack)))
def f_X2_reckon_9 (t_deeds : (Nat → Int32)) (t_values : (Nat → Int32)) (p3 : (Nat → Int32)) : Nat → Int32 → Int32 → Int32 → Int32 → (Nat → Int32) → Option (Int32 × (Nat → Int32))
  | 0, _, _, _, _, _ => none
  | n + 1, x2, x4, x5, x6, t_stack => (if 240 ≤ x6 then f_X2_reckon_279 t_deeds t_values p3 x4 t_stack else (if x2 ≤ x5 then f_X2_reckon_279 t_deeds t_values p3 x4 t_stack else (if 240 ≤ x5 then f_X2_reckon_279 t_deeds t_values p3 x4 t_stack else ix 240 x5 (ix 240 x5 ((if (t_deeds x5.toNatClampNeg) = 0 then f_X2_reckon_63 t_deeds t_values p3 (f_X2_reckon_9 t_deeds t_values p3 n) x2 x4 (x5 + 1) x6 (t_deeds x5.toNatClampNeg) (t_values x5.toNatClampNeg) t_stack else (if (t_deeds x5.toNatClampNeg) = 1 then f_X2_reckon_63 t_deeds t_values p3 (f_X2_reckon_9 t_deeds t_values p3 n) x2 x4 (x5 + 1) x6 (t_deeds x5.toNatClampNeg) (t_values x5.toNatClampNeg) t_stack else (if (t_deeds x5.toNatClampNeg) < 5 then (if 1 ≤ x4 then (if (t_deeds x5.toNatClampNeg) = 2 then ix 32 (x4 - 1) (ix 32 (x4 - 1) ((f_X2_reckon_9 t_deeds t_values p3 n) x2 x4 (x5 + 1) (x6 + 1) (upd t_stack (x4 - 1).toNatClampNeg (1 - (t_stack (x4 - 1).toNatClampNeg))))) else ix 32 (x4 - 1) ((if (t_stack (x4 - 1).toNatClampNeg) = 0 then f_X2_reckon_249 t_deeds t_values p3 (f_X2_reckon_9 t_deeds t_values p3 n) x2 x4 (x5 + 1) x6 (t_deeds x5.toNatClampNeg) (t_values x5.toNatClampNeg) 0 t_stack else f_X2_reckon_249 t_deeds t_values p3 (f_X2_reckon_9 t_deeds t_values p3 n) x2 x4 (x5 + 1) x6 (t_deeds x5.toNatClampNeg) (t_values x5.toNatClampNeg) 1 t_stack))) else some (0, t_stack)) else (if x4 < 2 then some (0, t_stack) else ix 32 (x4 - 1) ((if (t_stack (x4 - 1).toNatClampNeg) = 0 then (if (t_deeds x5.toNatClampNeg) = 8 then some (0, t_stack) else (if (t_deeds x5.toNatClampNeg) = 9 then some (0, t_stack) else f_X2_reckon_159 t_deeds t_values p3 (f_X2_reckon_9 t_deeds t_values p3 n) x2 x4 (x5 + 1) x6 (t_deeds x5.toNatClampNeg) t_stack)) else f_X2_reckon_159 t_deeds t_values p3 (f_X2_reckon_9 t_deeds t_values p3 n) x2 x4 (x5 + 1) x6 (t_deeds x5.toNatClampNeg) t_stack)))))))))))
def f_X2_reckon (t_deeds : (Nat → Int32)) (t_values : (Nat → Int32)) (t_stack : (Nat → Int32)) (p3 : (Nat → Int32)) (x1 : Int32) (x2 : Int32) : Option (Int32 × (Nat → Int32)) := f_X2_reckon_9 t_deeds t_values p3 FU x2 0 x1 0 t_stack
def w_X2_reckon (cI cB cZ : ClassId) (a_t : Nat) (a_t_deeds : Nat) (a_t_values : Nat) (a_t_stack : Nat) (a_p3 : Nat) (a_t_kinds : Nat) (a_t_sumStarts : Nat) (a_t_testStarts : Nat) (a_t_testEnds : Nat) (t_steps : Int32) (t_rules : Int32) (t_deeds : (Nat → Int32)) (t_values : (Nat → Int32)) (t_stack : (Nat → Int32)) (p3 : (Nat → Int32)) : va_W := [(a_t, .inr (1, [.ref a_t_deeds, .ref a_t_values, .ref a_t_kinds, .ref a_t_sumStarts, .ref a_t_testStarts, .ref a_t_testEnds, .ref a_t_stack, .int t_steps, .int t_rules])), (a_t_deeds, .inl (cI, 240, .inl t_deeds)), (a_t_values, .inl (cI, 240, .inl t_values)), (a_t_stack, .inl (cI, 32, .inl t_stack)), (a_p3, .inl (cI, 12, .inl p3))]
set_option maxHeartbeats 4000000 in
set_option maxRecDepth 100000 in
theorem b_X2_reckon {p : Program} {l : Launch} {e : Env} {R : Room} {s : State} {m : MethodId} {args : Array Value} {below : List Frame} {meth : Method} {c : Code} {Q : State → Prop} {D : va_G} {cI cB cZ : ClassId} (hx : p.tables.exec = Jvm.exec) (hb : c.code = cX2_reckon) (hml : c.maxLocals = 9) (hown : s.vm.findClass RX2 = some m.cls) (hT : ∀ w ∈ TB, w.before args s = true) (hRf : (1) ≤ R.frames) (hRl : (22) ≤ R.locals) (hK : va_K D vwCl (tyL cI cB cZ) s) (hN : NW s) {A : Nat → Prop} (hA : ∀ q : Nat, s.heap.size ≤ q → A q) (H : Heap) (locs : List Loc)  (a_t : Nat) (a_t_deeds : Nat) (a_t_values : Nat) (a_t_stack : Nat) (a_p3 : Nat) (a_t_kinds : Nat) (a_t_sumStarts : Nat) (a_t_testStarts : Nat) (a_t_testEnds : Nat) (t_steps : Int32) (t_rules : Int32) (t_deeds : (Nat → Int32)) (t_values : (Nat → Int32)) (t_stack : (Nat → Int32)) (p3 : (Nat → Int32)) (x1 : Int32) (x2 : Int32) (res : Int32 × (Nat → Int32)) (hf : f_X2_reckon t_deeds t_values t_stack p3 x1 x2 = some res) (hP : va_P D vwCl (w_X2_reckon cI cB cZ a_t a_t_deeds a_t_values a_t_stack a_p3 a_t_kinds a_t_sumStarts a_t_testStarts a_t_testEnds t_steps t_rules t_deeds t_values t_stack p3) H) (hD : va_D A (w_X2_reckon cI cB cZ a_t a_t_deeds a_t_values a_t_stack a_p3 a_t_kinds a_t_sumStarts a_t_testStarts a_t_testEnds t_steps t_rules t_deeds t_values t_stack p3)) (hS : va_S A s.heap H locs) (hQ : ∀ (H : Heap) (locs : List Loc) (pc : Nat) (ls : Array Slot), va_P D vwCl (w_X2_reckon cI cB cZ a_t a_t_deeds a_t_values a_t_stack a_p3 a_t_kinds a_t_sumStarts a_t_testStarts a_t_testEnds t_steps t_rules t_deeds t_values res.2 p3) H → va_D A (w_X2_reckon cI cB cZ a_t a_t_deeds a_t_values a_t_stack a_p3 a_t_kinds a_t_sumStarts a_t_testStarts a_t_testEnds t_steps t_rules t_deeds t_values res.2 p3) → va_S A s.heap H locs → True → decode cX2_reckon pc = .ok (.ireturn, 1) → W p l e R s m args below meth c H locs 0 0 Q (F0 m pc ls [.int res.1])) (ls : Array Slot) (hl : lv_has ls 9 [(0, .ref a_t), (1, .int x1), (2, .int x2), (3, .ref a_p3)]) : W p l e R s m args below meth c H locs 0 0 Q (F0 m 0 ls []) := by
  unfold f_X2_reckon at hf
  refine lv_iconst (v := 0) hx hb dX2_reckon_0 (by decide) ?_
  refine lv_istore (lv' := [(4, .int 0), (0, .ref a_t), (1, .int x1), (2, .int x2), (3, .ref a_p3)]) hx hb dX2_reckon_1 hl (by decide) rfl (fun ls hl => ?_)
  refine lv_iload_n hx hb dX2_reckon_3 rfl (lv_at hl 2 rfl) ?_
  refine lv_istore (lv' := [(5, .int x1), (4, .int 0), (0, .ref a_t), (1, .int x1), (2, .int x2), (3, .ref a_p3)]) hx hb dX2_reckon_4 hl (by decide) rfl (fun ls hl => ?_)
  refine lv_iconst (v := 0) hx hb dX2_reckon_6 (by decide) ?_
  have J_9 : ∀ (n_9 : Nat) (x2 : Int32) (x4 : Int32) (x5 : Int32) (x6 : Int32) (t_stack : (Nat → Int32)) (H : Heap) (locs : List Loc) (ls : Array Slot), f_X2_reckon_9 t_deeds t_values p3 n_9 x2 x4 x5 x6 t_stack = some res → va_P D vwCl (w_X2_reckon cI cB cZ a_t a_t_deeds a_t_values a_t_stack a_p3 a_t_kinds a_t_sumStarts a_t_testStarts a_t_testEnds t_steps t_rules t_deeds t_values t_stack p3) H → va_D A (w_X2_reckon cI cB cZ a_t a_t_deeds a_t_values a_t_stack a_p3 a_t_kinds a_t_sumStarts a_t_testStarts a_t_testEnds t_steps t_rules t_deeds t_values t_stack p3) → va_S A s.heap H locs → lv_has ls 9 [(0, .ref a_t), (2, .int x2), (3, .ref a_p3), (4, .int x4), (5, .int x5), (6, .int x6)] → W p l e R s m args below meth c H locs 0 0 Q (F0 m 9 ls []) := by
    intro n_9
    induction n_9 with
    | zero =>
      intro x2 x4 x5 x6 t_stack H locs ls hf hP hD hS hl
      cases hf
    | succ n_9 ih_9 =>
      intro x2 x4 x5 x6 t_stack H locs ls hf hP hD hS hl
      unfold f_X2_reckon_9 at hf
      refine lv_iload hx hb dX2_reckon_9 (lv_at hl 5 rfl) ?_
      refine lv_sipush (v := 240) hx hb dX2_reckon_11 (by decide) ?_
      have J_279 : ∀ (x4 : Int32) (t_stack : (Nat → Int32)) (H : Heap) (locs : List Loc) (ls : Array Slot), f_X2_reckon_279 t_deeds t_values p3 x4 t_stack = some res → va_P D vwCl (w_X2_reckon cI cB cZ a_t a_t_deeds a_t_values a_t_stack a_p3 a_t_kinds a_t_sumStarts a_t_testStarts a_t_testEnds t_steps t_rules t_deeds t_values t_stack p3) H → va_D A (w_X2_reckon cI cB cZ a_t a_t_deeds a_t_values a_t_stack a_p3 a_t_kinds a_t_sumStarts a_t_testStarts a_t_testEnds t_steps t_rules t_deeds t_values t_stack p3) → va_S A s.heap H locs → lv_has ls 9 [(0, .ref a_t), (4, .int x4)] → W p l e R s m args below meth c H locs 0 0 Q (F0 m 279 ls []) := by
        intro x4 t_stack H locs ls hf hP hD hS hl
        unfold f_X2_reckon_279 at hf
        refine lv_iload hx hb dX2_reckon_279 (lv_at hl 1 rfl) ?_
        refine lv_if_le (tgt := 296) hx hb dX2_reckon_281 (by decide) (fun hc_281 => ?_) (fun hc_281 => ?_)
        · have hf := it_pos hc_281 hf
          refine lv_iconst (v := 0) hx hb dX2_reckon_296 (by decide) ?_
          obtain rfl := Option.some.inj hf
          exact hQ H locs 297 ls hP hD hS trivial dX2_reckon_297
        · have hf := it_neg hc_281 hf
          refine lv_aload_n hx hb dX2_reckon_284 rfl (lv_at hl 0 rfl) ?_
          refine va_get (D := D) (ci := 1) (v := .ref a_t_stack) (C := RX2) (T := TX2) (N := 9) hx hb hT inX2 hown hK hP 0 rfl rfl 6 (by decide) (hT _ tb_319) (fun _ h9 => h9) rfl dX2_reckon_285 ?_
          refine lv_iload hx hb dX2_reckon_288 (lv_at hl 1 rfl) ?_
          refine lv_iconst (v := 1) hx hb dX2_reckon_290 (by decide) ?_
          refine lv_isub hx hb dX2_reckon_291 ?_
          obtain ⟨hi_292, hf⟩ := ix_some hf
          refine va_iald hx hb hK hP 3 0 rfl rfl hi_292 dX2_reckon_292 ?_
          refine lv_goto (tgt := 297) hx hb dX2_reckon_293 (by decide) ?_
          obtain rfl := Option.some.inj hf
          exact hQ H locs 297 ls hP hD hS trivial dX2_reckon_297
      refine lv_icmp_ge (tgt := 279) hx hb dX2_reckon_14 (by decide) (fun hc_14 => ?_) (fun hc_14 => ?_)
      · have hf := it_pos hc_14 hf
        exact J_279 _ _ _ _ _ hf hP hD hS (lv_sub hl [0, 3] rfl)
      · have hf := it_neg hc_14 hf
        refine lv_iload hx hb dX2_reckon_17 (lv_at hl 4 rfl) ?_
        refine lv_iload_n hx hb dX2_reckon_19 rfl (lv_at hl 1 rfl) ?_
        refine lv_icmp_ge (tgt := 279) hx hb dX2_reckon_20 (by decide) (fun hc_20 => ?_) (fun hc_20 => ?_)
        · have hf := it_pos hc_20 hf
          exact J_279 _ _ _ _ _ hf hP hD hS (lv_sub hl [0, 3] rfl)
        · have hf := it_neg hc_20 hf
          refine lv_iload hx hb dX2_reckon_23 (lv_at hl 4 rfl) ?_
          refine lv_sipush (v := 240) hx hb dX2_reckon_25 (by decide) ?_
          refine lv_icmp_ge (tgt := 279) hx hb dX2_reckon_28 (by decide) (fun hc_28 => ?_) (fun hc_28 => ?_)
          · have hf := it_pos hc_28 hf
            exact J_279 _ _ _ _ _ hf hP hD hS (lv_sub hl [0, 3] rfl)
          · have hf := it_neg hc_28 hf
            refine lv_aload_n hx hb dX2_reckon_31 rfl (lv_at hl 0 rfl) ?_
            refine va_get (D := D) (ci := 1) (v := .ref a_t_deeds) (C := RX2) (T := TX2) (N := 9) hx hb hT inX2 hown hK hP 0 rfl rfl 0 (by decide) (hT _ tb_313) (fun _ h9 => h9) rfl dX2_reckon_32 ?_
            refine lv_iload hx hb dX2_reckon_35 (lv_at hl 4 rfl) ?_
            obtain ⟨hi_37, hf⟩ := ix_some hf
            refine va_iald hx hb hK hP 1 0 rfl rfl hi_37 dX2_reckon_37 ?_
            refine lv_istore (lv' := [(7, .int (t_deeds x5.toNatClampNeg)), (0, .ref a_t), (2, .int x2), (3, .ref a_p3), (4, .int x4), (5, .int x5), (6, .int x6)]) hx hb dX2_reckon_38 hl (by decide) rfl (fun ls hl => ?_)
            refine lv_aload_n hx hb dX2_reckon_40 rfl (lv_at hl 1 rfl) ?_
            refine va_get (D := D) (ci := 1) (v := .ref a_t_values) (C := RX2) (T := TX2) (N := 9) hx hb hT inX2 hown hK hP 0 rfl rfl 1 (by decide) (hT _ tb_314) (fun _ h9 => h9) rfl dX2_reckon_41 ?_
            refine lv_iload hx hb dX2_reckon_44 (lv_at hl 5 rfl) ?_
            obtain ⟨hi_46, hf⟩ := ix_some hf
            refine va_iald hx hb hK hP 2 0 rfl rfl hi_46 dX2_reckon_46 ?_
            refine lv_istore (lv' := [(8, .int (t_values x5.toNatClampNeg)), (7, .int (t_deeds x5.toNatClampNeg)), (0, .ref a_t), (2, .int x2), (3, .ref a_p3), (4, .int x4), (5, .int x5), (6, .int x6)]) hx hb dX2_reckon_47 hl (by decide) rfl (fun ls hl => ?_)
            refine lv_iinc (v := x5 + 1) (lv' := [(5, .int (x5 + 1)), (8, .int (t_values x5.toNatClampNeg)), (7, .int (t_deeds x5.toNatClampNeg)), (0, .ref a_t), (2, .int x2), (3, .ref a_p3), (4, .int x4), (6, .int x6)]) hx hb dX2_reckon_49 hl (k := 6) rfl (congrArg (_ + ·) (by decide : Int32.ofInt 1 = 1)) (by decide) rfl (fun ls hl => ?_)
            refine lv_iload hx hb dX2_reckon_52 (lv_at hl 2 rfl) ?_
            have J_63 : ∀ (x2 : Int32) (x4 : Int32) (x5 : Int32) (x6 : Int32) (x7 : Int32) (x8 : Int32) (t_stack : (Nat → Int32)) (H : Heap) (locs : List Loc) (ls : Array Slot), f_X2_reckon_63 t_deeds t_values p3 (f_X2_reckon_9 t_deeds t_values p3 n_9) x2 x4 x5 x6 x7 x8 t_stack = some res → va_P D vwCl (w_X2_reckon cI cB cZ a_t a_t_deeds a_t_values a_t_stack a_p3 a_t_kinds a_t_sumStarts a_t_testStarts a_t_testEnds t_steps t_rules t_deeds t_values t_stack p3) H → va_D A (w_X2_reckon cI cB cZ a_t a_t_deeds a_t_values a_t_stack a_p3 a_t_kinds a_t_sumStarts a_t_testStarts a_t_testEnds t_steps t_rules t_deeds t_values t_stack p3) → va_S A s.heap H locs → lv_has ls 9 [(0, .ref a_t), (2, .int x2), (3, .ref a_p3), (4, .int x4), (5, .int x5), (6, .int x6), (7, .int x7), (8, .int x8)] → W p l e R s m args below meth c H locs 0 0 Q (F0 m 63 ls []) := by
              intro x2 x4 x5 x6 x7 x8 t_stack H locs ls hf hP hD hS hl
              unfold f_X2_reckon_63 at hf
              refine lv_iload hx hb dX2_reckon_63 (lv_at hl 3 rfl) ?_
              refine lv_bipush (v := 32) hx hb dX2_reckon_65 (by decide) ?_
              refine lv_icmp_ge (tgt := 89) hx hb dX2_reckon_67 (by decide) (fun hc_67 => ?_) (fun hc_67 => ?_)
              · have hf := it_pos hc_67 hf
                refine lv_iconst (v := 0) hx hb dX2_reckon_89 (by decide) ?_
                obtain rfl := Option.some.inj hf
                exact hQ H locs 90 ls hP hD hS trivial dX2_reckon_90
              · have hf := it_neg hc_67 hf
                refine lv_iload hx hb dX2_reckon_70 (lv_at hl 6 rfl) ?_
                refine lv_iconst (v := 1) hx hb dX2_reckon_72 (by decide) ?_
                have J_91 : ∀ (x2 : Int32) (x4 : Int32) (x5 : Int32) (x6 : Int32) (x7 : Int32) (x8 : Int32) (t_stack : (Nat → Int32)) (H : Heap) (locs : List Loc) (ls : Array Slot), f_X2_reckon_91 t_deeds t_values p3 (f_X2_reckon_9 t_deeds t_values p3 n_9) x2 x4 x5 x6 x7 x8 t_stack = some res → va_P D vwCl (w_X2_reckon cI cB cZ a_t a_t_deeds a_t_values a_t_stack a_p3 a_t_kinds a_t_sumStarts a_t_testStarts a_t_testEnds t_steps t_rules t_deeds t_values t_stack p3) H → va_D A (w_X2_reckon cI cB cZ a_t a_t_deeds a_t_values a_t_stack a_p3 a_t_kinds a_t_sumStarts a_t_testStarts a_t_testEnds t_steps t_rules t_deeds t_values t_stack p3) → va_S A s.heap H locs → lv_has ls 9 [(0, .ref a_t), (2, .int x2), (3, .ref a_p3), (4, .int x4), (5, .int x5), (6, .int x6), (7, .int x7), (8, .int x8)] → W p l e R s m args below meth c H locs 0 0 Q (F0 m 91 ls []) := by
                  intro x2 x4 x5 x6 x7 x8 t_stack H locs ls hf hP hD hS hl
                  unfold f_X2_reckon_91 at hf
                  refine lv_aload_n hx hb dX2_reckon_91 rfl (lv_at hl 0 rfl) ?_
                  refine va_get (D := D) (ci := 1) (v := .ref a_t_stack) (C := RX2) (T := TX2) (N := 9) hx hb hT inX2 hown hK hP 0 rfl rfl 6 (by decide) (hT _ tb_319) (fun _ h9 => h9) rfl dX2_reckon_92 ?_
                  refine lv_iload hx hb dX2_reckon_95 (lv_at hl 3 rfl) ?_
                  refine lv_iload hx hb dX2_reckon_97 (lv_at hl 6 rfl) ?_
                  refine lv_iconst (v := 1) hx hb dX2_reckon_99 (by decide) ?_
                  have J_112 : ∀ (x2 : Int32) (x4 : Int32) (x5 : Int32) (x6 : Int32) (y0 : Int32) (y1 : Int32) (t_stack : (Nat → Int32)) (H : Heap) (locs : List Loc) (ls : Array Slot), f_X2_reckon_112 t_deeds t_values p3 (f_X2_reckon_9 t_deeds t_values p3 n_9) x2 x4 x5 x6 y0 y1 t_stack = some res → va_P D vwCl (w_X2_reckon cI cB cZ a_t a_t_deeds a_t_values a_t_stack a_p3 a_t_kinds a_t_sumStarts a_t_testStarts a_t_testEnds t_steps t_rules t_deeds t_values t_stack p3) H → va_D A (w_X2_reckon cI cB cZ a_t a_t_deeds a_t_values a_t_stack a_p3 a_t_kinds a_t_sumStarts a_t_testStarts a_t_testEnds t_steps t_rules t_deeds t_values t_stack p3) → va_S A s.heap H locs → lv_has ls 9 [(0, .ref a_t), (2, .int x2), (3, .ref a_p3), (4, .int x4), (5, .int x5), (6, .int x6)] → W p l e R s m args below meth c H locs 0 0 Q (F0 m 112 ls [.int y1, .int y0, .ref a_t_stack]) := by
                    intro x2 x4 x5 x6 y0 y1 t_stack H locs ls hf hP hD hS hl
                    unfold f_X2_reckon_112 at hf
                    obtain ⟨hi_112, hf⟩ := ix_some hf
                    refine va_iast hx hb hK hP hD hS 3 0 rfl rfl hi_112 dX2_reckon_112 (fun H locs hP hD hS => ?_)
                    have hP : va_P D vwCl (w_X2_reckon cI cB cZ a_t a_t_deeds a_t_values a_t_stack a_p3 a_t_kinds a_t_sumStarts a_t_testStarts a_t_testEnds t_steps t_rules t_deeds t_values (upd t_stack y0.toNatClampNeg y1) p3) H := hP
                    have hD : va_D A (w_X2_reckon cI cB cZ a_t a_t_deeds a_t_values a_t_stack a_p3 a_t_kinds a_t_sumStarts a_t_testStarts a_t_testEnds t_steps t_rules t_deeds t_values (upd t_stack y0.toNatClampNeg y1) p3) := hD
                    refine lv_iinc (v := x4 + 1) (lv' := [(4, .int (x4 + 1)), (0, .ref a_t), (2, .int x2), (3, .ref a_p3), (5, .int x5), (6, .int x6)]) hx hb dX2_reckon_113 hl (k := 3) rfl (congrArg (_ + ·) (by decide : Int32.ofInt 1 = 1)) (by decide) rfl (fun ls hl => ?_)
                    refine lv_goto (tgt := 273) hx hb dX2_reckon_116 (by decide) ?_
                    refine lv_iinc (v := x6 + 1) (lv' := [(6, .int (x6 + 1)), (4, .int (x4 + 1)), (0, .ref a_t), (2, .int x2), (3, .ref a_p3), (5, .int x5)]) hx hb dX2_reckon_273 hl (k := 5) rfl (congrArg (_ + ·) (by decide : Int32.ofInt 1 = 1)) (by decide) rfl (fun ls hl => ?_)
                    refine lv_goto (tgt := 9) hx hb dX2_reckon_276 (by decide) ?_
                    exact ih_9 _ _ _ _ _ _ _ _ hf hP hD hS (lv_sub hl [2, 3, 4, 1, 5, 0] rfl)
                  refine lv_icmp_ne (tgt := 110) hx hb dX2_reckon_100 (by decide) (fun hc_100 => ?_) (fun hc_100 => ?_)
                  · have hf := it_neg hc_100 hf
                    refine lv_iload hx hb dX2_reckon_110 (lv_at hl 7 rfl) ?_
                    exact J_112 _ _ _ _ _ _ _ _ _ _ hf hP hD hS (lv_sub hl [0, 1, 2, 3, 4, 5] rfl)
                  · have hf := it_pos hc_100 hf
                    refine lv_aload_n hx hb dX2_reckon_103 rfl (lv_at hl 2 rfl) ?_
                    refine lv_iload hx hb dX2_reckon_104 (lv_at hl 7 rfl) ?_
                    obtain ⟨hi_106, hf⟩ := ix_some hf
                    refine va_iald hx hb hK hP 4 0 rfl rfl hi_106 dX2_reckon_106 ?_
                    refine lv_goto (tgt := 112) hx hb dX2_reckon_107 (by decide) ?_
                    exact J_112 _ _ _ _ _ _ _ _ _ _ hf hP hD hS (lv_sub hl [0, 1, 2, 3, 4, 5] rfl)
                refine lv_icmp_ne (tgt := 91) hx hb dX2_reckon_73 (by decide) (fun hc_73 => ?_) (fun hc_73 => ?_)
                · have hf := it_neg hc_73 hf
                  exact J_91 _ _ _ _ _ _ _ _ _ _ hf hP hD hS (lv_sub hl [0, 1, 2, 3, 4, 5, 6, 7] rfl)
                · have hf := it_pos hc_73 hf
                  refine lv_iload hx hb dX2_reckon_76 (lv_at hl 7 rfl) ?_
                  refine lv_iconst (v := 0) hx hb dX2_reckon_78 (by decide) ?_
                  refine lv_aload_n hx hb dX2_reckon_79 rfl (lv_at hl 2 rfl) ?_
                  refine va_alen (v := 12) hx hb hK hP 4 0 rfl rfl (by rfl) dX2_reckon_80 ?_
                  refine lv_iconst (v := 1) hx hb dX2_reckon_81 (by decide) ?_
                  refine lv_isub hx hb dX2_reckon_82 ?_
                  obtain ⟨z83, e83, hf⟩ := bd_some hf
                  refine rSN_RO (As := [.int x8, .int 0, .int (12 - 1)]) (rest := []) ⟨hx, hb, hml, hown, hT⟩ (hN _ (List.mem_of_getElem? (i := 2) rfl)) tb_393 tb_85 tb_394 hd_X11_isWithin (c_X11_isWithin l D cI cB cZ x8 0 (12 - 1) z83 e83) ⟨rfl, rfl⟩ ⟨Nat.le_trans (by decide) hRf, Nat.le_trans (by decide) hRl⟩ ⟨hK, hN⟩ hP [] rfl rfl hl.1 rfl (Nat.le_of_ble_eq_true rfl) ⟨Nat.zero_le _, Nat.zero_le _⟩ dX2_reckon_83 (fun hz_83 => ?_)
                  refine lv_if_ne (tgt := 91) hx hb dX2_reckon_86 (by decide) (fun hc_86 => ?_) (fun hc_86 => ?_)
                  · have hf := it_neg hc_86 hf
                    exact J_91 _ _ _ _ _ _ _ _ _ _ hf hP hD hS (lv_sub hl [0, 1, 2, 3, 4, 5, 6, 7] rfl)
                  · have hf := it_pos hc_86 hf
                    refine lv_iconst (v := 0) hx hb dX2_reckon_89 (by decide) ?_
                    obtain rfl := Option.some.inj hf
                    exact hQ H locs 90 ls hP hD hS trivial dX2_reckon_90
            refine lv_if_eq (tgt := 63) hx hb dX2_reckon_54 (by decide) (fun hc_54 => ?_) (fun hc_54 => ?_)
            · have hf := it_pos hc_54 hf
              exact J_63 _ _ _ _ _ _ _ _ _ _ hf hP hD hS (lv_sub hl [3, 4, 5, 6, 0, 7, 2, 1] rfl)
            · have hf := it_neg hc_54 hf
              refine lv_iload hx hb dX2_reckon_57 (lv_at hl 2 rfl) ?_
              refine lv_iconst (v := 1) hx hb dX2_reckon_59 (by decide) ?_
              refine lv_icmp_ne (tgt := 119) hx hb dX2_reckon_60 (by decide) (fun hc_60 => ?_) (fun hc_60 => ?_)
              · have hf := it_neg hc_60 hf
                refine lv_iload hx hb dX2_reckon_119 (lv_at hl 2 rfl) ?_
                refine lv_iconst (v := 5) hx hb dX2_reckon_121 (by decide) ?_
                refine lv_icmp_lt (tgt := 195) hx hb dX2_reckon_122 (by decide) (fun hc_122 => ?_) (fun hc_122 => ?_)
                · have hf := it_pos hc_122 hf
                  refine lv_iload hx hb dX2_reckon_195 (lv_at hl 6 rfl) ?_
                  refine lv_iconst (v := 1) hx hb dX2_reckon_197 (by decide) ?_
                  refine lv_icmp_ge (tgt := 203) hx hb dX2_reckon_198 (by decide) (fun hc_198 => ?_) (fun hc_198 => ?_)
                  · have hf := it_pos hc_198 hf
                    refine lv_iload hx hb dX2_reckon_203 (lv_at hl 2 rfl) ?_
                    refine lv_iconst (v := 2) hx hb dX2_reckon_205 (by decide) ?_
                    refine lv_icmp_ne (tgt := 232) hx hb dX2_reckon_206 (by decide) (fun hc_206 => ?_) (fun hc_206 => ?_)
                    · have hf := it_neg hc_206 hf
                      refine lv_aload_n hx hb dX2_reckon_232 rfl (lv_at hl 3 rfl) ?_
                      refine va_get (D := D) (ci := 1) (v := .ref a_t_stack) (C := RX2) (T := TX2) (N := 9) hx hb hT inX2 hown hK hP 0 rfl rfl 6 (by decide) (hT _ tb_319) (fun _ h9 => h9) rfl dX2_reckon_233 ?_
                      refine lv_iload hx hb dX2_reckon_236 (lv_at hl 6 rfl) ?_
                      refine lv_iconst (v := 1) hx hb dX2_reckon_238 (by decide) ?_
                      refine lv_isub hx hb dX2_reckon_239 ?_
                      obtain ⟨hi_240, hf⟩ := ix_some hf
                      refine va_iald hx hb hK hP 3 0 rfl rfl hi_240 dX2_reckon_240 ?_
                      have J_249 : ∀ (x2 : Int32) (x4 : Int32) (x5 : Int32) (x6 : Int32) (x7 : Int32) (x8 : Int32) (y0 : Int32) (t_stack : (Nat → Int32)) (H : Heap) (locs : List Loc) (ls : Array Slot), f_X2_reckon_249 t_deeds t_values p3 (f_X2_reckon_9 t_deeds t_values p3 n_9) x2 x4 x5 x6 x7 x8 y0 t_stack = some res → va_P D vwCl (w_X2_reckon cI cB cZ a_t a_t_deeds a_t_values a_t_stack a_p3 a_t_kinds a_t_sumStarts a_t_testStarts a_t_testEnds t_steps t_rules t_deeds t_values t_stack p3) H → va_D A (w_X2_reckon cI cB cZ a_t a_t_deeds a_t_values a_t_stack a_p3 a_t_kinds a_t_sumStarts a_t_testStarts a_t_testEnds t_steps t_rules t_deeds t_values t_stack p3) → va_S A s.heap H locs → lv_has ls 9 [(0, .ref a_t), (2, .int x2), (3, .ref a_p3), (4, .int x4), (5, .int x5), (6, .int x6), (7, .int x7), (8, .int x8)] → W p l e R s m args below meth c H locs 0 0 Q (F0 m 249 ls [.int y0]) := by
                        intro x2 x4 x5 x6 x7 x8 y0 t_stack H locs ls hf hP hD hS hl
                        unfold f_X2_reckon_249 at hf
                        refine lv_iload hx hb dX2_reckon_249 (lv_at hl 6 rfl) ?_
                        refine lv_iconst (v := 4) hx hb dX2_reckon_251 (by decide) ?_
                        have J_260 : ∀ (x2 : Int32) (x4 : Int32) (x5 : Int32) (x6 : Int32) (x8 : Int32) (y0 : Int32) (y1 : Int32) (t_stack : (Nat → Int32)) (H : Heap) (locs : List Loc) (ls : Array Slot), f_X2_reckon_260 t_deeds t_values p3 (f_X2_reckon_9 t_deeds t_values p3 n_9) x2 x4 x5 x6 x8 y0 y1 t_stack = some res → va_P D vwCl (w_X2_reckon cI cB cZ a_t a_t_deeds a_t_values a_t_stack a_p3 a_t_kinds a_t_sumStarts a_t_testStarts a_t_testEnds t_steps t_rules t_deeds t_values t_stack p3) H → va_D A (w_X2_reckon cI cB cZ a_t a_t_deeds a_t_values a_t_stack a_p3 a_t_kinds a_t_sumStarts a_t_testStarts a_t_testEnds t_steps t_rules t_deeds t_values t_stack p3) → va_S A s.heap H locs → lv_has ls 9 [(0, .ref a_t), (2, .int x2), (3, .ref a_p3), (4, .int x4), (5, .int x5), (6, .int x6), (8, .int x8)] → W p l e R s m args below meth c H locs 0 0 Q (F0 m 260 ls [.int y1, .int y0]) := by
                          intro x2 x4 x5 x6 x8 y0 y1 t_stack H locs ls hf hP hD hS hl
                          unfold f_X2_reckon_260 at hf
                          refine lv_icmp_ne (tgt := 270) hx hb dX2_reckon_260 (by decide) (fun hc_260 => ?_) (fun hc_260 => ?_)
                          · have hf := it_neg hc_260 hf
                            refine lv_iinc (v := x4 + (-1)) (lv' := [(4, .int (x4 + (-1))), (0, .ref a_t), (2, .int x2), (3, .ref a_p3), (5, .int x5), (6, .int x6), (8, .int x8)]) hx hb dX2_reckon_270 hl (k := 3) rfl (congrArg (_ + ·) (by decide : Int32.ofInt (-1) = (-1))) (by decide) rfl (fun ls hl => ?_)
                            refine lv_iinc (v := x6 + 1) (lv' := [(6, .int (x6 + 1)), (4, .int (x4 + (-1))), (0, .ref a_t), (2, .int x2), (3, .ref a_p3), (5, .int x5), (8, .int x8)]) hx hb dX2_reckon_273 hl (k := 5) rfl (congrArg (_ + ·) (by decide : Int32.ofInt 1 = 1)) (by decide) rfl (fun ls hl => ?_)
                            refine lv_goto (tgt := 9) hx hb dX2_reckon_276 (by decide) ?_
                            exact ih_9 _ _ _ _ _ _ _ _ hf hP hD hS (lv_sub hl [2, 3, 4, 1, 5, 0] rfl)
                          · have hf := it_pos hc_260 hf
                            refine lv_iload hx hb dX2_reckon_263 (lv_at hl 6 rfl) ?_
                            refine lv_istore (lv' := [(5, .int x8), (0, .ref a_t), (2, .int x2), (3, .ref a_p3), (4, .int x4), (6, .int x6), (8, .int x8)]) hx hb dX2_reckon_265 hl (by decide) rfl (fun ls hl => ?_)
                            refine lv_goto (tgt := 273) hx hb dX2_reckon_267 (by decide) ?_
                            refine lv_iinc (v := x6 + 1) (lv' := [(6, .int (x6 + 1)), (5, .int x8), (0, .ref a_t), (2, .int x2), (3, .ref a_p3), (4, .int x4), (8, .int x8)]) hx hb dX2_reckon_273 hl (k := 5) rfl (congrArg (_ + ·) (by decide : Int32.ofInt 1 = 1)) (by decide) rfl (fun ls hl => ?_)
                            refine lv_goto (tgt := 9) hx hb dX2_reckon_276 (by decide) ?_
                            exact ih_9 _ _ _ _ _ _ _ _ hf hP hD hS (lv_sub hl [2, 3, 4, 5, 1, 0] rfl)
                        refine lv_icmp_ne (tgt := 259) hx hb dX2_reckon_252 (by decide) (fun hc_252 => ?_) (fun hc_252 => ?_)
                        · have hf := it_neg hc_252 hf
                          refine lv_iconst (v := 0) hx hb dX2_reckon_259 (by decide) ?_
                          exact J_260 _ _ _ _ _ _ _ _ _ _ _ hf hP hD hS (lv_sub hl [0, 1, 2, 3, 4, 5, 7] rfl)
                        · have hf := it_pos hc_252 hf
                          refine lv_iconst (v := 1) hx hb dX2_reckon_255 (by decide) ?_
                          refine lv_goto (tgt := 260) hx hb dX2_reckon_256 (by decide) ?_
                          exact J_260 _ _ _ _ _ _ _ _ _ _ _ hf hP hD hS (lv_sub hl [0, 1, 2, 3, 4, 5, 7] rfl)
                      refine lv_if_eq (tgt := 248) hx hb dX2_reckon_241 (by decide) (fun hc_241 => ?_) (fun hc_241 => ?_)
                      · have hf := it_pos hc_241 hf
                        refine lv_iconst (v := 0) hx hb dX2_reckon_248 (by decide) ?_
                        exact J_249 _ _ _ _ _ _ _ _ _ _ _ hf hP hD hS (lv_sub hl [3, 4, 5, 6, 0, 7, 2, 1] rfl)
                      · have hf := it_neg hc_241 hf
                        refine lv_iconst (v := 1) hx hb dX2_reckon_244 (by decide) ?_
                        refine lv_goto (tgt := 249) hx hb dX2_reckon_245 (by decide) ?_
                        exact J_249 _ _ _ _ _ _ _ _ _ _ _ hf hP hD hS (lv_sub hl [3, 4, 5, 6, 0, 7, 2, 1] rfl)
                    · have hf := it_pos hc_206 hf
                      refine lv_aload_n hx hb dX2_reckon_209 rfl (lv_at hl 3 rfl) ?_
                      refine va_get (D := D) (ci := 1) (v := .ref a_t_stack) (C := RX2) (T := TX2) (N := 9) hx hb hT inX2 hown hK hP 0 rfl rfl 6 (by decide) (hT _ tb_319) (fun _ h9 => h9) rfl dX2_reckon_210 ?_
                      refine lv_iload hx hb dX2_reckon_213 (lv_at hl 6 rfl) ?_
                      refine lv_iconst (v := 1) hx hb dX2_reckon_215 (by decide) ?_
                      refine lv_isub hx hb dX2_reckon_216 ?_
                      refine lv_iconst (v := 1) hx hb dX2_reckon_217 (by decide) ?_
                      refine lv_aload_n hx hb dX2_reckon_218 rfl (lv_at hl 3 rfl) ?_
                      refine va_get (D := D) (ci := 1) (v := .ref a_t_stack) (C := RX2) (T := TX2) (N := 9) hx hb hT inX2 hown hK hP 0 rfl rfl 6 (by decide) (hT _ tb_319) (fun _ h9 => h9) rfl dX2_reckon_219 ?_
                      refine lv_iload hx hb dX2_reckon_222 (lv_at hl 6 rfl) ?_
                      refine lv_iconst (v := 1) hx hb dX2_reckon_224 (by decide) ?_
                      refine lv_isub hx hb dX2_reckon_225 ?_
                      obtain ⟨hi_226, hf⟩ := ix_some hf
                      refine va_iald hx hb hK hP 3 0 rfl rfl hi_226 dX2_reckon_226 ?_
                      refine lv_isub hx hb dX2_reckon_227 ?_
                      obtain ⟨hi_228, hf⟩ := ix_some hf
                      refine va_iast hx hb hK hP hD hS 3 0 rfl rfl hi_228 dX2_reckon_228 (fun H locs hP hD hS => ?_)
                      have hP : va_P D vwCl (w_X2_reckon cI cB cZ a_t a_t_deeds a_t_values a_t_stack a_p3 a_t_kinds a_t_sumStarts a_t_testStarts a_t_testEnds t_steps t_rules t_deeds t_values (upd t_stack (x4 - 1).toNatClampNeg (1 - (t_stack (x4 - 1).toNatClampNeg))) p3) H := hP
                      have hD : va_D A (w_X2_reckon cI cB cZ a_t a_t_deeds a_t_values a_t_stack a_p3 a_t_kinds a_t_sumStarts a_t_testStarts a_t_testEnds t_steps t_rules t_deeds t_values (upd t_stack (x4 - 1).toNatClampNeg (1 - (t_stack (x4 - 1).toNatClampNeg))) p3) := hD
                      refine lv_goto (tgt := 273) hx hb dX2_reckon_229 (by decide) ?_
                      refine lv_iinc (v := x6 + 1) (lv' := [(6, .int (x6 + 1)), (5, .int (x5 + 1)), (8, .int (t_values x5.toNatClampNeg)), (7, .int (t_deeds x5.toNatClampNeg)), (0, .ref a_t), (2, .int x2), (3, .ref a_p3), (4, .int x4)]) hx hb dX2_reckon_273 hl (k := 7) rfl (congrArg (_ + ·) (by decide : Int32.ofInt 1 = 1)) (by decide) rfl (fun ls hl => ?_)
                      refine lv_goto (tgt := 9) hx hb dX2_reckon_276 (by decide) ?_
                      exact ih_9 _ _ _ _ _ _ _ _ hf hP hD hS (lv_sub hl [4, 5, 6, 7, 1, 0] rfl)
                  · have hf := it_neg hc_198 hf
                    refine lv_iconst (v := 0) hx hb dX2_reckon_201 (by decide) ?_
                    obtain rfl := Option.some.inj hf
                    exact hQ H locs 202 ls hP hD hS trivial dX2_reckon_202
                · have hf := it_neg hc_122 hf
                  refine lv_iload hx hb dX2_reckon_125 (lv_at hl 6 rfl) ?_
                  refine lv_iconst (v := 2) hx hb dX2_reckon_127 (by decide) ?_
                  refine lv_icmp_lt (tgt := 157) hx hb dX2_reckon_128 (by decide) (fun hc_128 => ?_) (fun hc_128 => ?_)
                  · have hf := it_pos hc_128 hf
                    refine lv_iconst (v := 0) hx hb dX2_reckon_157 (by decide) ?_
                    obtain rfl := Option.some.inj hf
                    exact hQ H locs 158 ls hP hD hS trivial dX2_reckon_158
                  · have hf := it_neg hc_128 hf
                    refine lv_aload_n hx hb dX2_reckon_131 rfl (lv_at hl 3 rfl) ?_
                    refine va_get (D := D) (ci := 1) (v := .ref a_t_stack) (C := RX2) (T := TX2) (N := 9) hx hb hT inX2 hown hK hP 0 rfl rfl 6 (by decide) (hT _ tb_319) (fun _ h9 => h9) rfl dX2_reckon_132 ?_
                    refine lv_iload hx hb dX2_reckon_135 (lv_at hl 6 rfl) ?_
                    refine lv_iconst (v := 1) hx hb dX2_reckon_137 (by decide) ?_
                    refine lv_isub hx hb dX2_reckon_138 ?_
                    obtain ⟨hi_139, hf⟩ := ix_some hf
                    refine va_iald hx hb hK hP 3 0 rfl rfl hi_139 dX2_reckon_139 ?_
                    have J_159 : ∀ (x2 : Int32) (x4 : Int32) (x5 : Int32) (x6 : Int32) (x7 : Int32) (t_stack : (Nat → Int32)) (H : Heap) (locs : List Loc) (ls : Array Slot), f_X2_reckon_159 t_deeds t_values p3 (f_X2_reckon_9 t_deeds t_values p3 n_9) x2 x4 x5 x6 x7 t_stack = some res → va_P D vwCl (w_X2_reckon cI cB cZ a_t a_t_deeds a_t_values a_t_stack a_p3 a_t_kinds a_t_sumStarts a_t_testStarts a_t_testEnds t_steps t_rules t_deeds t_values t_stack p3) H → va_D A (w_X2_reckon cI cB cZ a_t a_t_deeds a_t_values a_t_stack a_p3 a_t_kinds a_t_sumStarts a_t_testStarts a_t_testEnds t_steps t_rules t_deeds t_values t_stack p3) → va_S A s.heap H locs → lv_has ls 9 [(0, .ref a_t), (2, .int x2), (3, .ref a_p3), (4, .int x4), (5, .int x5), (6, .int x6), (7, .int x7)] → W p l e R s m args below meth c H locs 0 0 Q (F0 m 159 ls []) := by
                      intro x2 x4 x5 x6 x7 t_stack H locs ls hf hP hD hS hl
                      unfold f_X2_reckon_159 at hf
                      refine lv_iinc (v := x4 + (-1)) (lv' := [(4, .int (x4 + (-1))), (0, .ref a_t), (2, .int x2), (3, .ref a_p3), (5, .int x5), (6, .int x6), (7, .int x7)]) hx hb dX2_reckon_159 hl (k := 3) rfl (congrArg (_ + ·) (by decide : Int32.ofInt (-1) = (-1))) (by decide) rfl (fun ls hl => ?_)
                      refine lv_aload_n hx hb dX2_reckon_162 rfl (lv_at hl 1 rfl) ?_
                      refine va_get (D := D) (ci := 1) (v := .ref a_t_stack) (C := RX2) (T := TX2) (N := 9) hx hb hT inX2 hown hK hP 0 rfl rfl 6 (by decide) (hT _ tb_319) (fun _ h9 => h9) rfl dX2_reckon_163 ?_
                      refine lv_iload hx hb dX2_reckon_166 (lv_at hl 0 rfl) ?_
                      refine lv_iconst (v := 1) hx hb dX2_reckon_168 (by decide) ?_
                      refine lv_isub hx hb dX2_reckon_169 ?_
                      refine lv_iload hx hb dX2_reckon_170 (lv_at hl 6 rfl) ?_
                      refine lv_aload_n hx hb dX2_reckon_172 rfl (lv_at hl 1 rfl) ?_
                      refine va_get (D := D) (ci := 1) (v := .ref a_t_stack) (C := RX2) (T := TX2) (N := 9) hx hb hT inX2 hown hK hP 0 rfl rfl 6 (by decide) (hT _ tb_319) (fun _ h9 => h9) rfl dX2_reckon_173 ?_
                      refine lv_iload hx hb dX2_reckon_176 (lv_at hl 0 rfl) ?_
                      refine lv_iconst (v := 1) hx hb dX2_reckon_178 (by decide) ?_
                      refine lv_isub hx hb dX2_reckon_179 ?_
                      obtain ⟨hi_180, hf⟩ := ix_some hf
                      refine va_iald hx hb hK hP 3 0 rfl rfl hi_180 dX2_reckon_180 ?_
                      refine lv_aload_n hx hb dX2_reckon_181 rfl (lv_at hl 1 rfl) ?_
                      refine va_get (D := D) (ci := 1) (v := .ref a_t_stack) (C := RX2) (T := TX2) (N := 9) hx hb hT inX2 hown hK hP 0 rfl rfl 6 (by decide) (hT _ tb_319) (fun _ h9 => h9) rfl dX2_reckon_182 ?_
                      refine lv_iload hx hb dX2_reckon_185 (lv_at hl 0 rfl) ?_
                      obtain ⟨hi_187, hf⟩ := ix_some hf
                      refine va_iald hx hb hK hP 3 0 rfl rfl hi_187 dX2_reckon_187 ?_
                      obtain ⟨z188, e188, hf⟩ := bd_some hf
                      refine rS_RO (As := [.int x7, .int (t_stack ((x4 + (-1)) - 1).toNatClampNeg), .int (t_stack (x4 + (-1)).toNatClampNeg)]) (rest := [.int ((x4 + (-1)) - 1), .ref a_t_stack]) ⟨hx, hb, hml, hown, hT⟩ (gdS tb_764 tb_765 tb_96 tb_766) hd_X2_ofTwo (c_X2_ofTwo l D cI cB cZ x7 (t_stack ((x4 + (-1)) - 1).toNatClampNeg) (t_stack (x4 + (-1)).toNatClampNeg) z188 e188) ⟨rfl, rfl⟩ ⟨Nat.le_trans (by decide) hRf, Nat.le_trans (by decide) hRl⟩ ⟨hK, hN⟩ hP [] rfl rfl hl.1 rfl (Nat.le_of_ble_eq_true rfl) ⟨Nat.zero_le _, Nat.zero_le _⟩ dX2_reckon_188 (fun _ => ?_)
                      obtain ⟨hi_191, hf⟩ := ix_some hf
                      refine va_iast hx hb hK hP hD hS 3 0 rfl rfl hi_191 dX2_reckon_191 (fun H locs hP hD hS => ?_)
                      have hP : va_P D vwCl (w_X2_reckon cI cB cZ a_t a_t_deeds a_t_values a_t_stack a_p3 a_t_kinds a_t_sumStarts a_t_testStarts a_t_testEnds t_steps t_rules t_deeds t_values (upd t_stack ((x4 + (-1)) - 1).toNatClampNeg z188) p3) H := hP
                      have hD : va_D A (w_X2_reckon cI cB cZ a_t a_t_deeds a_t_values a_t_stack a_p3 a_t_kinds a_t_sumStarts a_t_testStarts a_t_testEnds t_steps t_rules t_deeds t_values (upd t_stack ((x4 + (-1)) - 1).toNatClampNeg z188) p3) := hD
                      refine lv_goto (tgt := 273) hx hb dX2_reckon_192 (by decide) ?_
                      refine lv_iinc (v := x6 + 1) (lv' := [(6, .int (x6 + 1)), (4, .int (x4 + (-1))), (0, .ref a_t), (2, .int x2), (3, .ref a_p3), (5, .int x5), (7, .int x7)]) hx hb dX2_reckon_273 hl (k := 5) rfl (congrArg (_ + ·) (by decide : Int32.ofInt 1 = 1)) (by decide) rfl (fun ls hl => ?_)
                      refine lv_goto (tgt := 9) hx hb dX2_reckon_276 (by decide) ?_
                      exact ih_9 _ _ _ _ _ _ _ _ hf hP hD hS (lv_sub hl [2, 3, 4, 1, 5, 0] rfl)
                    refine lv_if_ne (tgt := 159) hx hb dX2_reckon_140 (by decide) (fun hc_140 => ?_) (fun hc_140 => ?_)
                    · have hf := it_neg hc_140 hf
                      exact J_159 _ _ _ _ _ _ _ _ _ hf hP hD hS (lv_sub hl [3, 4, 5, 6, 0, 7, 2] rfl)
                    · have hf := it_pos hc_140 hf
                      refine lv_iload hx hb dX2_reckon_143 (lv_at hl 2 rfl) ?_
                      refine lv_bipush (v := 8) hx hb dX2_reckon_145 (by decide) ?_
                      refine lv_icmp_eq (tgt := 157) hx hb dX2_reckon_147 (by decide) (fun hc_147 => ?_) (fun hc_147 => ?_)
                      · have hf := it_pos hc_147 hf
                        refine lv_iconst (v := 0) hx hb dX2_reckon_157 (by decide) ?_
                        obtain rfl := Option.some.inj hf
                        exact hQ H locs 158 ls hP hD hS trivial dX2_reckon_158
                      · have hf := it_neg hc_147 hf
                        refine lv_iload hx hb dX2_reckon_150 (lv_at hl 2 rfl) ?_
                        refine lv_bipush (v := 9) hx hb dX2_reckon_152 (by decide) ?_
                        refine lv_icmp_ne (tgt := 159) hx hb dX2_reckon_154 (by decide) (fun hc_154 => ?_) (fun hc_154 => ?_)
                        · have hf := it_neg hc_154 hf
                          exact J_159 _ _ _ _ _ _ _ _ _ hf hP hD hS (lv_sub hl [3, 4, 5, 6, 0, 7, 2] rfl)
                        · have hf := it_pos hc_154 hf
                          refine lv_iconst (v := 0) hx hb dX2_reckon_157 (by decide) ?_
                          obtain rfl := Option.some.inj hf
                          exact hQ H locs 158 ls hP hD hS trivial dX2_reckon_158
              · have hf := it_pos hc_60 hf
                exact J_63 _ _ _ _ _ _ _ _ _ _ hf hP hD hS (lv_sub hl [3, 4, 5, 6, 0, 7, 2, 1] rfl)
  refine lv_istore (lv' := [(6, .int 0), (5, .int x1), (4, .int 0), (0, .ref a_t), (1, .int x1), (2, .int x2), (3, .ref a_p3)]) hx hb dX2_reckon_7 hl (by decide) rfl (fun ls hl => ?_)
  exact J_9 _ _ _ _ _ _ _ _ _ hf hP hD hS (lv_sub hl [3, 5, 6, 2, 1, 0] rfl)
theorem hd_X2_reckon : (yX2_reckon).cls = RX2 ∧ (yX2_reckon).cls ≠ "java/lang/invoke/MethodHandle" ∧ (yX2_reckon).cls ≠ "java/lang/invoke/VarHandle" ∧ (parseMethodDescriptor (yX2_reckon).desc).map (fun d => d.parameters.length) = some 3 := by decide +kernel
theorem c_X2_reckon (l : Launch) (D : va_G) (cI cB cZ : ClassId) (a_t : Nat) (a_t_deeds : Nat) (a_t_values : Nat) (a_t_stack : Nat) (a_p3 : Nat) (a_t_kinds : Nat) (a_t_sumStarts : Nat) (a_t_testStarts : Nat) (a_t_testEnds : Nat) (t_steps : Int32) (t_rules : Int32) (t_deeds : (Nat → Int32)) (t_values : (Nat → Int32)) (t_stack : (Nat → Int32)) (p3 : (Nat → Int32)) (x1 : Int32) (x2 : Int32) (sz : Nat) (res : Int32 × (Nat → Int32)) (hf : f_X2_reckon t_deeds t_values t_stack p3 x1 x2 = some res) : Met l yX2_reckon (.code yX2_reckon cX2_reckon 9 (some .int) :: TB) (rmk (1) (22)) (pRW [.ref a_t, .int x1, .int x2, .ref a_p3] D cI cB cZ (w_X2_reckon cI cB cZ a_t a_t_deeds a_t_values a_t_stack a_p3 a_t_kinds a_t_sumStarts a_t_testStarts a_t_testEnds t_steps t_rules t_deeds t_values t_stack p3) sz) (qRW (some (.int res.1)) True D (w_X2_reckon cI cB cZ a_t a_t_deeds a_t_values a_t_stack a_p3 a_t_kinds a_t_sumStarts a_t_testStarts a_t_testEnds t_steps t_rules t_deeds t_values t_stack p3) sz (w_X2_reckon cI cB cZ a_t a_t_deeds a_t_values a_t_stack a_p3 a_t_kinds a_t_sumStarts a_t_testStarts a_t_testEnds t_steps t_rules t_deeds t_values res.2 p3)) 0 0 (va_A (w_X2_reckon cI cB cZ a_t a_t_deeds a_t_values a_t_stack a_p3 a_t_kinds a_t_sumStarts a_t_testStarts a_t_testEnds t_steps t_rules t_deeds t_values t_stack p3) sz) :=
  mkRW (by decide +kernel) (Nat.le_of_ble_eq_true rfl) (fun p e s m below meth c ls A hAe S hr hlk hK hA hP hD hS hl => b_X2_reckon S.1 S.2.1 S.2.2.1 S.2.2.2.1 S.2.2.2.2 (Nat.le_refl _) (Nat.le_refl _) hK.1 hK.2 hA s.heap [] a_t a_t_deeds a_t_values a_t_stack a_p3 a_t_kinds a_t_sumStarts a_t_testStarts a_t_testEnds t_steps t_rules t_deeds t_values t_stack p3 x1 x2 res hf hP hD hS (fun H locs pc ls hP hD hS hE hd => eRW_i S.1 S.2.1 hr rfl hlk hAe hP hD hS hE hd) ls hl)
def f_X2_worth_3 (t_rules : Int32) (t_deeds : (Nat → Int32)) (t_values : (Nat → Int32)) (t_kinds : (Nat → Int32)) (t_sumStarts : (Nat → Int32)) (t_testStarts : (Nat → Int32)) (t_testEnds : (Nat → Int32)) (p2 : (Nat → Int32)) : Nat → Int32 → Int32 → Int32 → (Nat → Int32) → Option (Int32 × (Nat → Int32))
  | 0, _, _, _, _ => none
  | n + 1, x1, x3, x4, t_stack => (if t_rules ≤ x4 then some (0, t_stack) else ix 16 x4 ((if (t_kinds x4.toNatClampNeg) = x1 then ix 16 x4 (ix 16 x4 ((f_X2_reckon t_deeds t_values t_stack p2 (t_testStarts x4.toNatClampNeg) (t_testEnds x4.toNatClampNeg)).bind (fun z39 => (if z39.1 = 0 then (f_X2_worth_3 t_rules t_deeds t_values t_kinds t_sumStarts t_testStarts t_testEnds p2 n) x1 x3 (x4 + 1) z39.2 else ix 16 x4 (ix 16 x4 ((f_X2_reckon t_deeds t_values z39.2 p2 (t_sumStarts x4.toNatClampNeg) (t_testStarts x4.toNatClampNeg)).bind (fun z61 => some ((if 0 < (if z61.1 < x3 then z61.1 else x3) then (if z61.1 < x3 then z61.1 else x3) else 0), z61.2)))))))) else (f_X2_worth_3 t_rules t_deeds t_values t_kinds t_sumStarts t_testStarts t_testEnds p2 n) x1 x3 (x4 + 1) t_stack)))
def f_X2_worth (t_rules : Int32) (t_deeds : (Nat → Int32)) (t_values : (Nat → Int32)) (t_kinds : (Nat → Int32)) (t_sumStarts : (Nat → Int32)) (t_testStarts : (Nat → Int32)) (t_testEnds : (Nat → Int32)) (t_stack : (Nat → Int32)) (p2 : (Nat → Int32)) (x1 : Int32) (x3 : Int32) : Option (Int32 × (Nat → Int32)) := f_X2_worth_3 t_rules t_deeds t_values t_kinds t_sumStarts t_testStarts t_testEnds p2 FU x1 x3 0 t_stack
def w_X2_worth (cI cB cZ : ClassId) (a_t : Nat) (a_t_deeds : Nat) (a_t_values : Nat) (a_t_kinds : Nat) (a_t_sumStarts : Nat) (a_t_testStarts : Nat) (a_t_testEnds : Nat) (a_t_stack : Nat) (a_p2 : Nat) (t_steps : Int32) (t_rules : Int32) (t_deeds : (Nat → Int32)) (t_values : (Nat → Int32)) (t_kinds : (Nat → Int32)) (t_sumStarts : (Nat → Int32)) (t_testStarts : (Nat → Int32)) (t_testEnds : (Nat → Int32)) (t_stack : (Nat → Int32)) (p2 : (Nat → Int32)) : va_W := [(a_t, .inr (1, [.ref a_t_deeds, .ref a_t_values, .ref a_t_kinds, .ref a_t_sumStarts, .ref a_t_testStarts, .ref a_t_testEnds, .ref a_t_stack, .int t_steps, .int t_rules])), (a_t_deeds, .inl (cI, 240, .inl t_deeds)), (a_t_values, .inl (cI, 240, .inl t_values)), (a_t_kinds, .inl (cI, 16, .inl t_kinds)), (a_t_sumStarts, .inl (cI, 16, .inl t_sumStarts)), (a_t_testStarts, .inl (cI, 16, .inl t_testStarts)), (a_t_testEnds, .inl (cI, 16, .inl t_testEnds)), (a_t_stack, .inl (cI, 32, .inl t_stack)), (a_p2, .inl (cI, 12, .inl p2))]
set_option maxHeartbeats 4000000 in
set_option maxRecDepth 100000 in
theorem b_X2_worth {p : Program} {l : Launch} {e : Env} {R : Room} {s : State} {m : MethodId} {args : Array Value} {below : List Frame} {meth : Method} {c : Code} {Q : State → Prop} {D : va_G} {cI cB cZ : ClassId} (hx : p.tables.exec = Jvm.exec) (hb : c.code = cX2_worth) (hml : c.maxLocals = 6) (hown : s.vm.findClass RX2 = some m.cls) (hT : ∀ w ∈ TB, w.before args s = true) (hRf : (2) ≤ R.frames) (hRl : (50) ≤ R.locals) (hK : va_K D vwCl (tyL cI cB cZ) s) (hN : NW s) {A : Nat → Prop} (hA : ∀ q : Nat, s.heap.size ≤ q → A q) (H : Heap) (locs : List Loc)  (a_t : Nat) (a_t_deeds : Nat) (a_t_values : Nat) (a_t_kinds : Nat) (a_t_sumStarts : Nat) (a_t_testStarts : Nat) (a_t_testEnds : Nat) (a_t_stack : Nat) (a_p2 : Nat) (t_steps : Int32) (t_rules : Int32) (t_deeds : (Nat → Int32)) (t_values : (Nat → Int32)) (t_kinds : (Nat → Int32)) (t_sumStarts : (Nat → Int32)) (t_testStarts : (Nat → Int32)) (t_testEnds : (Nat → Int32)) (t_stack : (Nat → Int32)) (p2 : (Nat → Int32)) (x1 : Int32) (x3 : Int32) (res : Int32 × (Nat → Int32)) (hf : f_X2_worth t_rules t_deeds t_values t_kinds t_sumStarts t_testStarts t_testEnds t_stack p2 x1 x3 = some res) (hP : va_P D vwCl (w_X2_worth cI cB cZ a_t a_t_deeds a_t_values a_t_kinds a_t_sumStarts a_t_testStarts a_t_testEnds a_t_stack a_p2 t_steps t_rules t_deeds t_values t_kinds t_sumStarts t_testStarts t_testEnds t_stack p2) H) (hD : va_D A (w_X2_worth cI cB cZ a_t a_t_deeds a_t_values a_t_kinds a_t_sumStarts a_t_testStarts a_t_testEnds a_t_stack a_p2 t_steps t_rules t_deeds t_values t_kinds t_sumStarts t_testStarts t_testEnds t_stack p2)) (hS : va_S A s.heap H locs) (hQ : ∀ (H : Heap) (locs : List Loc) (pc : Nat) (ls : Array Slot), va_P D vwCl (w_X2_worth cI cB cZ a_t a_t_deeds a_t_values a_t_kinds a_t_sumStarts a_t_testStarts a_t_testEnds a_t_stack a_p2 t_steps t_rules t_deeds t_values t_kinds t_sumStarts t_testStarts t_testEnds res.2 p2) H → va_D A (w_X2_worth cI cB cZ a_t a_t_deeds a_t_values a_t_kinds a_t_sumStarts a_t_testStarts a_t_testEnds a_t_stack a_p2 t_steps t_rules t_deeds t_values t_kinds t_sumStarts t_testStarts t_testEnds res.2 p2) → va_S A s.heap H locs → True → decode cX2_worth pc = .ok (.ireturn, 1) → W p l e R s m args below meth c H locs 0 0 Q (F0 m pc ls [.int res.1])) (ls : Array Slot) (hl : lv_has ls 6 [(0, .ref a_t), (1, .int x1), (2, .ref a_p2), (3, .int x3)]) : W p l e R s m args below meth c H locs 0 0 Q (F0 m 0 ls []) := by
  unfold f_X2_worth at hf
  refine lv_iconst (v := 0) hx hb dX2_worth_0 (by decide) ?_
  have J_3 : ∀ (n_3 : Nat) (x1 : Int32) (x3 : Int32) (x4 : Int32) (t_stack : (Nat → Int32)) (H : Heap) (locs : List Loc) (ls : Array Slot), f_X2_worth_3 t_rules t_deeds t_values t_kinds t_sumStarts t_testStarts t_testEnds p2 n_3 x1 x3 x4 t_stack = some res → va_P D vwCl (w_X2_worth cI cB cZ a_t a_t_deeds a_t_values a_t_kinds a_t_sumStarts a_t_testStarts a_t_testEnds a_t_stack a_p2 t_steps t_rules t_deeds t_values t_kinds t_sumStarts t_testStarts t_testEnds t_stack p2) H → va_D A (w_X2_worth cI cB cZ a_t a_t_deeds a_t_values a_t_kinds a_t_sumStarts a_t_testStarts a_t_testEnds a_t_stack a_p2 t_steps t_rules t_deeds t_values t_kinds t_sumStarts t_testStarts t_testEnds t_stack p2) → va_S A s.heap H locs → lv_has ls 6 [(0, .ref a_t), (1, .int x1), (2, .ref a_p2), (3, .int x3), (4, .int x4)] → W p l e R s m args below meth c H locs 0 0 Q (F0 m 3 ls []) := by
    intro n_3
    induction n_3 with
    | zero =>
      intro x1 x3 x4 t_stack H locs ls hf hP hD hS hl
      cases hf
    | succ n_3 ih_3 =>
      intro x1 x3 x4 t_stack H locs ls hf hP hD hS hl
      unfold f_X2_worth_3 at hf
      refine lv_iload hx hb dX2_worth_3 (lv_at hl 4 rfl) ?_
      refine lv_aload_n hx hb dX2_worth_5 rfl (lv_at hl 0 rfl) ?_
      refine va_get (D := D) (ci := 1) (v := .int t_rules) (C := RX2) (T := TX2) (N := 9) hx hb hT inX2 hown hK hP 0 rfl rfl 8 (by decide) (hT _ tb_321) (fun _ h9 => h9) rfl dX2_worth_6 ?_
      refine lv_icmp_ge (tgt := 83) hx hb dX2_worth_9 (by decide) (fun hc_9 => ?_) (fun hc_9 => ?_)
      · have hf := it_pos hc_9 hf
        refine lv_iconst (v := 0) hx hb dX2_worth_83 (by decide) ?_
        obtain rfl := Option.some.inj hf
        exact hQ H locs 84 ls hP hD hS trivial dX2_worth_84
      · have hf := it_neg hc_9 hf
        refine lv_aload_n hx hb dX2_worth_12 rfl (lv_at hl 0 rfl) ?_
        refine va_get (D := D) (ci := 1) (v := .ref a_t_kinds) (C := RX2) (T := TX2) (N := 9) hx hb hT inX2 hown hK hP 0 rfl rfl 2 (by decide) (hT _ tb_315) (fun _ h9 => h9) rfl dX2_worth_13 ?_
        refine lv_iload hx hb dX2_worth_16 (lv_at hl 4 rfl) ?_
        obtain ⟨hi_18, hf⟩ := ix_some hf
        refine va_iald hx hb hK hP 3 0 rfl rfl hi_18 dX2_worth_18 ?_
        refine lv_iload_n hx hb dX2_worth_19 rfl (lv_at hl 1 rfl) ?_
        refine lv_icmp_ne (tgt := 77) hx hb dX2_worth_20 (by decide) (fun hc_20 => ?_) (fun hc_20 => ?_)
        · have hf := it_neg hc_20 hf
          refine lv_iinc (v := x4 + 1) (lv' := [(4, .int (x4 + 1)), (0, .ref a_t), (1, .int x1), (2, .ref a_p2), (3, .int x3)]) hx hb dX2_worth_77 hl (k := 4) rfl (congrArg (_ + ·) (by decide : Int32.ofInt 1 = 1)) (by decide) rfl (fun ls hl => ?_)
          refine lv_goto (tgt := 3) hx hb dX2_worth_80 (by decide) ?_
          exact ih_3 _ _ _ _ _ _ _ hf hP hD hS (lv_sub hl [1, 2, 3, 4, 0] rfl)
        · have hf := it_pos hc_20 hf
          refine lv_aload_n hx hb dX2_worth_23 rfl (lv_at hl 0 rfl) ?_
          refine lv_aload_n hx hb dX2_worth_24 rfl (lv_at hl 0 rfl) ?_
          refine va_get (D := D) (ci := 1) (v := .ref a_t_testStarts) (C := RX2) (T := TX2) (N := 9) hx hb hT inX2 hown hK hP 0 rfl rfl 4 (by decide) (hT _ tb_317) (fun _ h9 => h9) rfl dX2_worth_25 ?_
          refine lv_iload hx hb dX2_worth_28 (lv_at hl 4 rfl) ?_
          obtain ⟨hi_30, hf⟩ := ix_some hf
          refine va_iald hx hb hK hP 5 0 rfl rfl hi_30 dX2_worth_30 ?_
          refine lv_aload_n hx hb dX2_worth_31 rfl (lv_at hl 0 rfl) ?_
          refine va_get (D := D) (ci := 1) (v := .ref a_t_testEnds) (C := RX2) (T := TX2) (N := 9) hx hb hT inX2 hown hK hP 0 rfl rfl 5 (by decide) (hT _ tb_318) (fun _ h9 => h9) rfl dX2_worth_32 ?_
          refine lv_iload hx hb dX2_worth_35 (lv_at hl 4 rfl) ?_
          obtain ⟨hi_37, hf⟩ := ix_some hf
          refine va_iald hx hb hK hP 6 0 rfl rfl hi_37 dX2_worth_37 ?_
          refine lv_aload_n hx hb dX2_worth_38 rfl (lv_at hl 2 rfl) ?_
          obtain ⟨z39, e39, hf⟩ := bd_some hf
          refine rV_RW (As := [.int (t_testStarts x4.toNatClampNeg), .int (t_testEnds x4.toNatClampNeg), .ref a_p2]) (rest := []) (w2 := (w_X2_worth cI cB cZ a_t a_t_deeds a_t_values a_t_kinds a_t_sumStarts a_t_testStarts a_t_testEnds a_t_stack a_p2 t_steps t_rules t_deeds t_values t_kinds t_sumStarts t_testStarts t_testEnds z39.2 p2)) ⟨hx, hb, hml, hown, hT⟩ (gdV tb_759 tb_761 tb_14 tb_96 tb_762) hd_X2_reckon (c_X2_reckon l D cI cB cZ a_t a_t_deeds a_t_values a_t_stack a_p2 a_t_kinds a_t_sumStarts a_t_testStarts a_t_testEnds t_steps t_rules t_deeds t_values t_stack p2 (t_testStarts x4.toNatClampNeg) (t_testEnds x4.toNatClampNeg) H.size z39 e39) ⟨rfl, rfl⟩ ⟨Nat.le_trans (by decide) hRf, Nat.le_trans (by decide) hRl⟩ ⟨hK, hN⟩ hA hP hD hS [0, 1, 2, 7, 8] [3, 4, 5, 6] rfl (by decide) (wr := [_, _, _, _]) rfl (by decide) (by decide) [4, 5, 6, 0, 1, 2, 3, 7, 8] rfl (by decide) 0 rfl rfl rfl hl.1 rfl (Nat.le_of_ble_eq_true rfl) ⟨Nat.zero_le _, Nat.zero_le _⟩ dX2_worth_39 (fun H locs hP hD hS _ => ?_)
          refine lv_if_eq (tgt := 77) hx hb dX2_worth_42 (by decide) (fun hc_42 => ?_) (fun hc_42 => ?_)
          · have hf := it_pos hc_42 hf
            refine lv_iinc (v := x4 + 1) (lv' := [(4, .int (x4 + 1)), (0, .ref a_t), (1, .int x1), (2, .ref a_p2), (3, .int x3)]) hx hb dX2_worth_77 hl (k := 4) rfl (congrArg (_ + ·) (by decide : Int32.ofInt 1 = 1)) (by decide) rfl (fun ls hl => ?_)
            refine lv_goto (tgt := 3) hx hb dX2_worth_80 (by decide) ?_
            exact ih_3 _ _ _ _ _ _ _ hf hP hD hS (lv_sub hl [1, 2, 3, 4, 0] rfl)
          · have hf := it_neg hc_42 hf
            refine lv_aload_n hx hb dX2_worth_45 rfl (lv_at hl 0 rfl) ?_
            refine lv_aload_n hx hb dX2_worth_46 rfl (lv_at hl 0 rfl) ?_
            refine va_get (D := D) (ci := 1) (v := .ref a_t_sumStarts) (C := RX2) (T := TX2) (N := 9) hx hb hT inX2 hown hK hP 0 rfl rfl 3 (by decide) (hT _ tb_316) (fun _ h9 => h9) rfl dX2_worth_47 ?_
            refine lv_iload hx hb dX2_worth_50 (lv_at hl 4 rfl) ?_
            obtain ⟨hi_52, hf⟩ := ix_some hf
            refine va_iald hx hb hK hP 4 0 rfl rfl hi_52 dX2_worth_52 ?_
            refine lv_aload_n hx hb dX2_worth_53 rfl (lv_at hl 0 rfl) ?_
            refine va_get (D := D) (ci := 1) (v := .ref a_t_testStarts) (C := RX2) (T := TX2) (N := 9) hx hb hT inX2 hown hK hP 0 rfl rfl 4 (by decide) (hT _ tb_317) (fun _ h9 => h9) rfl dX2_worth_54 ?_
            refine lv_iload hx hb dX2_worth_57 (lv_at hl 4 rfl) ?_
            obtain ⟨hi_59, hf⟩ := ix_some hf
            refine va_iald hx hb hK hP 5 0 rfl rfl hi_59 dX2_worth_59 ?_
            refine lv_aload_n hx hb dX2_worth_60 rfl (lv_at hl 2 rfl) ?_
            obtain ⟨z61, e61, hf⟩ := bd_some hf
            refine rV_RW (As := [.int (t_sumStarts x4.toNatClampNeg), .int (t_testStarts x4.toNatClampNeg), .ref a_p2]) (rest := []) (w2 := (w_X2_worth cI cB cZ a_t a_t_deeds a_t_values a_t_kinds a_t_sumStarts a_t_testStarts a_t_testEnds a_t_stack a_p2 t_steps t_rules t_deeds t_values t_kinds t_sumStarts t_testStarts t_testEnds z61.2 p2)) ⟨hx, hb, hml, hown, hT⟩ (gdV tb_759 tb_761 tb_14 tb_96 tb_762) hd_X2_reckon (c_X2_reckon l D cI cB cZ a_t a_t_deeds a_t_values a_t_stack a_p2 a_t_kinds a_t_sumStarts a_t_testStarts a_t_testEnds t_steps t_rules t_deeds t_values z39.2 p2 (t_sumStarts x4.toNatClampNeg) (t_testStarts x4.toNatClampNeg) H.size z61 e61) ⟨rfl, rfl⟩ ⟨Nat.le_trans (by decide) hRf, Nat.le_trans (by decide) hRl⟩ ⟨hK, hN⟩ hA hP hD hS [0, 1, 2, 7, 8] [3, 4, 5, 6] rfl (by decide) (wr := [_, _, _, _]) rfl (by decide) (by decide) [4, 5, 6, 0, 1, 2, 3, 7, 8] rfl (by decide) 0 rfl rfl rfl hl.1 rfl (Nat.le_of_ble_eq_true rfl) ⟨Nat.zero_le _, Nat.zero_le _⟩ dX2_worth_61 (fun H locs hP hD hS _ => ?_)
            refine lv_istore (lv' := [(5, .int z61.1), (0, .ref a_t), (1, .int x1), (2, .ref a_p2), (3, .int x3), (4, .int x4)]) hx hb dX2_worth_64 hl (by decide) rfl (fun ls hl => ?_)
            refine lv_iconst (v := 0) hx hb dX2_worth_66 (by decide) ?_
            refine lv_iload_n hx hb dX2_worth_67 rfl (lv_at hl 4 rfl) ?_
            refine lv_iload hx hb dX2_worth_68 (lv_at hl 0 rfl) ?_
            refine va_mmin hx hb (hml.trans hl.1.symm) hown (hT _ tb_767) (hT _ tb_421) (hT _ tb_98) (hT _ tb_422) (Nat.le_trans (by decide) hRf) (Nat.le_trans (Nat.le_of_ble_eq_true rfl) hRl) (Nat.zero_le _) (Nat.zero_le _) dX2_worth_70 ?_
            refine va_mmax hx hb (hml.trans hl.1.symm) hown (hT _ tb_768) (hT _ tb_477) (hT _ tb_98) (hT _ tb_478) (Nat.le_trans (by decide) hRf) (Nat.le_trans (Nat.le_of_ble_eq_true rfl) hRl) (Nat.zero_le _) (Nat.zero_le _) dX2_worth_73 ?_
            obtain rfl := Option.some.inj hf
            exact hQ H locs 76 ls hP hD hS trivial dX2_worth_76
  refine lv_istore (lv' := [(4, .int 0), (0, .ref a_t), (1, .int x1), (2, .ref a_p2), (3, .int x3)]) hx hb dX2_worth_1 hl (by decide) rfl (fun ls hl => ?_)
  exact J_3 _ _ _ _ _ _ _ _ hf hP hD hS (lv_sub hl [1, 2, 3, 4, 0] rfl)
theorem hd_X2_worth : (yX2_worth).cls = RX2 ∧ (yX2_worth).cls ≠ "java/lang/invoke/MethodHandle" ∧ (yX2_worth).cls ≠ "java/lang/invoke/VarHandle" ∧ (parseMethodDescriptor (yX2_worth).desc).map (fun d => d.parameters.length) = some 3 := by decide +kernel
theorem c_X2_worth (l : Launch) (D : va_G) (cI cB cZ : ClassId) (a_t : Nat) (a_t_deeds : Nat) (a_t_values : Nat) (a_t_kinds : Nat) (a_t_sumStarts : Nat) (a_t_testStarts : Nat) (a_t_testEnds : Nat) (a_t_stack : Nat) (a_p2 : Nat) (t_steps : Int32) (t_rules : Int32) (t_deeds : (Nat → Int32)) (t_values : (Nat → Int32)) (t_kinds : (Nat → Int32)) (t_sumStarts : (Nat → Int32)) (t_testStarts : (Nat → Int32)) (t_testEnds : (Nat → Int32)) (t_stack : (Nat → Int32)) (p2 : (Nat → Int32)) (x1 : Int32) (x3 : Int32) (sz : Nat) (res : Int32 × (Nat → Int32)) (hf : f_X2_worth t_rules t_deeds t_values t_kinds t_sumStarts t_testStarts t_testEnds t_stack p2 x1 x3 = some res) : Met l yX2_worth (.code yX2_worth cX2_worth 6 (some .int) :: TB) (rmk (2) (50)) (pRW [.ref a_t, .int x1, .ref a_p2, .int x3] D cI cB cZ (w_X2_worth cI cB cZ a_t a_t_deeds a_t_values a_t_kinds a_t_sumStarts a_t_testStarts a_t_testEnds a_t_stack a_p2 t_steps t_rules t_deeds t_values t_kinds t_sumStarts t_testStarts t_testEnds t_stack p2) sz) (qRW (some (.int res.1)) True D (w_X2_worth cI cB cZ a_t a_t_deeds a_t_values a_t_kinds a_t_sumStarts a_t_testStarts a_t_testEnds a_t_stack a_p2 t_steps t_rules t_deeds t_values t_kinds t_sumStarts t_testStarts t_testEnds t_stack p2) sz (w_X2_worth cI cB cZ a_t a_t_deeds a_t_values a_t_kinds a_t_sumStarts a_t_testStarts a_t_testEnds a_t_stack a_p2 t_steps t_rules t_deeds t_values t_kinds t_sumStarts t_testStarts t_testEnds res.2 p2)) 0 0 (va_A (w_X2_worth cI cB cZ a_t a_t_deeds a_t_values a_t_kinds a_t_sumStarts a_t_testStarts a_t_testEnds a_t_stack a_p2 t_steps t_rules t_deeds t_values t_kinds t_sumStarts t_testStarts t_testEnds t_stack p2) sz) :=
  mkRW (by decide +kernel) (Nat.le_of_ble_eq_true rfl) (fun p e s m below meth c ls A hAe S hr hlk hK hA hP hD hS hl => b_X2_worth S.1 S.2.1 S.2.2.1 S.2.2.2.1 S.2.2.2.2 (Nat.le_refl _) (Nat.le_refl _) hK.1 hK.2 hA s.heap [] a_t a_t_deeds a_t_values a_t_kinds a_t_sumStarts a_t_testStarts a_t_testEnds a_t_stack a_p2 t_steps t_rules t_deeds t_values t_kinds t_sumStarts t_testStarts t_testEnds t_stack p2 x1 x3 res hf hP hD hS (fun H locs pc ls hP hD hS hE hd => eRW_i S.1 S.2.1 hr rfl hlk hAe hP hD hS hE hd) ls hl)
def f_X2_anyHolds_2 (t_rules : Int32) (t_deeds : (Nat → Int32)) (t_values : (Nat → Int32)) (t_kinds : (Nat → Int32)) (t_testStarts : (Nat → Int32)) (t_testEnds : (Nat → Int32)) (p2 : (Nat → Int32)) : Nat → Int32 → Int32 → (Nat → Int32) → Option (Int32 × (Nat → Int32))
  | 0, _, _, _ => none
  | n + 1, x1, x3, t_stack => (if t_rules ≤ x3 then some (0, t_stack) else ix 16 x3 ((if (t_kinds x3.toNatClampNeg) = x1 then ix 16 x3 (ix 16 x3 ((f_X2_reckon t_deeds t_values t_stack p2 (t_testStarts x3.toNatClampNeg) (t_testEnds x3.toNatClampNeg)).bind (fun z34 => (if z34.1 = 0 then (f_X2_anyHolds_2 t_rules t_deeds t_values t_kinds t_testStarts t_testEnds p2 n) x1 (x3 + 1) z34.2 else some (1, z34.2))))) else (f_X2_anyHolds_2 t_rules t_deeds t_values t_kinds t_testStarts t_testEnds p2 n) x1 (x3 + 1) t_stack)))
def f_X2_anyHolds (t_rules : Int32) (t_deeds : (Nat → Int32)) (t_values : (Nat → Int32)) (t_kinds : (Nat → Int32)) (t_testStarts : (Nat → Int32)) (t_testEnds : (Nat → Int32)) (t_stack : (Nat → Int32)) (p2 : (Nat → Int32)) (x1 : Int32) : Option (Int32 × (Nat → Int32)) := f_X2_anyHolds_2 t_rules t_deeds t_values t_kinds t_testStarts t_testEnds p2 FU x1 0 t_stack
def w_X2_anyHolds (cI cB cZ : ClassId) (a_t : Nat) (a_t_deeds : Nat) (a_t_values : Nat) (a_t_kinds : Nat) (a_t_testStarts : Nat) (a_t_testEnds : Nat) (a_t_stack : Nat) (a_p2 : Nat) (a_t_sumStarts : Nat) (t_steps : Int32) (t_rules : Int32) (t_deeds : (Nat → Int32)) (t_values : (Nat → Int32)) (t_kinds : (Nat → Int32)) (t_testStarts : (Nat → Int32)) (t_testEnds : (Nat → Int32)) (t_stack : (Nat → Int32)) (p2 : (Nat → Int32)) : va_W := [(a_t, .inr (1, [.ref a_t_deeds, .ref a_t_values, .ref a_t_kinds, .ref a_t_sumStarts, .ref a_t_testStarts, .ref a_t_testEnds, .ref a_t_stack, .int t_steps, .int t_rules])), (a_t_deeds, .inl (cI, 240, .inl t_deeds)), (a_t_values, .inl (cI, 240, .inl t_values)), (a_t_kinds, .inl (cI, 16, .inl t_kinds)), (a_t_testStarts, .inl (cI, 16, .inl t_testStarts)), (a_t_testEnds, .inl (cI, 16, .inl t_testEnds)), (a_t_stack, .inl (cI, 32, .inl t_stack)), (a_p2, .inl (cI, 12, .inl p2))]
set_option maxHeartbeats 4000000 in
set_option maxRecDepth 100000 in
theorem b_X2_anyHolds {p : Program} {l : Launch} {e : Env} {R : Room} {s : State} {m : MethodId} {args : Array Value} {below : List Frame} {meth : Method} {c : Code} {Q : State → Prop} {D : va_G} {cI cB cZ : ClassId} (hx : p.tables.exec = Jvm.exec) (hb : c.code = cX2_anyHolds) (hml : c.maxLocals = 4) (hown : s.vm.findClass RX2 = some m.cls) (hT : ∀ w ∈ TB, w.before args s = true) (hRf : (2) ≤ R.frames) (hRl : (50) ≤ R.locals) (hK : va_K D vwCl (tyL cI cB cZ) s) (hN : NW s) {A : Nat → Prop} (hA : ∀ q : Nat, s.heap.size ≤ q → A q) (H : Heap) (locs : List Loc)  (a_t : Nat) (a_t_deeds : Nat) (a_t_values : Nat) (a_t_kinds : Nat) (a_t_testStarts : Nat) (a_t_testEnds : Nat) (a_t_stack : Nat) (a_p2 : Nat) (a_t_sumStarts : Nat) (t_steps : Int32) (t_rules : Int32) (t_deeds : (Nat → Int32)) (t_values : (Nat → Int32)) (t_kinds : (Nat → Int32)) (t_testStarts : (Nat → Int32)) (t_testEnds : (Nat → Int32)) (t_stack : (Nat → Int32)) (p2 : (Nat → Int32)) (x1 : Int32) (res : Int32 × (Nat → Int32)) (hf : f_X2_anyHolds t_rules t_deeds t_values t_kinds t_testStarts t_testEnds t_stack p2 x1 = some res) (hP : va_P D vwCl (w_X2_anyHolds cI cB cZ a_t a_t_deeds a_t_values a_t_kinds a_t_testStarts a_t_testEnds a_t_stack a_p2 a_t_sumStarts t_steps t_rules t_deeds t_values t_kinds t_testStarts t_testEnds t_stack p2) H) (hD : va_D A (w_X2_anyHolds cI cB cZ a_t a_t_deeds a_t_values a_t_kinds a_t_testStarts a_t_testEnds a_t_stack a_p2 a_t_sumStarts t_steps t_rules t_deeds t_values t_kinds t_testStarts t_testEnds t_stack p2)) (hS : va_S A s.heap H locs) (hQ : ∀ (H : Heap) (locs : List Loc) (pc : Nat) (ls : Array Slot), va_P D vwCl (w_X2_anyHolds cI cB cZ a_t a_t_deeds a_t_values a_t_kinds a_t_testStarts a_t_testEnds a_t_stack a_p2 a_t_sumStarts t_steps t_rules t_deeds t_values t_kinds t_testStarts t_testEnds res.2 p2) H → va_D A (w_X2_anyHolds cI cB cZ a_t a_t_deeds a_t_values a_t_kinds a_t_testStarts a_t_testEnds a_t_stack a_p2 a_t_sumStarts t_steps t_rules t_deeds t_values t_kinds t_testStarts t_testEnds res.2 p2) → va_S A s.heap H locs → (res.1 = 0 ∨ res.1 = 1) → decode cX2_anyHolds pc = .ok (.ireturn, 1) → W p l e R s m args below meth c H locs 0 0 Q (F0 m pc ls [.int res.1])) (ls : Array Slot) (hl : lv_has ls 4 [(0, .ref a_t), (1, .int x1), (2, .ref a_p2)]) : W p l e R s m args below meth c H locs 0 0 Q (F0 m 0 ls []) := by
  unfold f_X2_anyHolds at hf
  refine lv_iconst (v := 0) hx hb dX2_anyHolds_0 (by decide) ?_
  have J_2 : ∀ (n_2 : Nat) (x1 : Int32) (x3 : Int32) (t_stack : (Nat → Int32)) (H : Heap) (locs : List Loc) (ls : Array Slot), f_X2_anyHolds_2 t_rules t_deeds t_values t_kinds t_testStarts t_testEnds p2 n_2 x1 x3 t_stack = some res → va_P D vwCl (w_X2_anyHolds cI cB cZ a_t a_t_deeds a_t_values a_t_kinds a_t_testStarts a_t_testEnds a_t_stack a_p2 a_t_sumStarts t_steps t_rules t_deeds t_values t_kinds t_testStarts t_testEnds t_stack p2) H → va_D A (w_X2_anyHolds cI cB cZ a_t a_t_deeds a_t_values a_t_kinds a_t_testStarts a_t_testEnds a_t_stack a_p2 a_t_sumStarts t_steps t_rules t_deeds t_values t_kinds t_testStarts t_testEnds t_stack p2) → va_S A s.heap H locs → lv_has ls 4 [(0, .ref a_t), (1, .int x1), (2, .ref a_p2), (3, .int x3)] → W p l e R s m args below meth c H locs 0 0 Q (F0 m 2 ls []) := by
    intro n_2
    induction n_2 with
    | zero =>
      intro x1 x3 t_stack H locs ls hf hP hD hS hl
      cases hf
    | succ n_2 ih_2 =>
      intro x1 x3 t_stack H locs ls hf hP hD hS hl
      unfold f_X2_anyHolds_2 at hf
      refine lv_iload_n hx hb dX2_anyHolds_2 rfl (lv_at hl 3 rfl) ?_
      refine lv_aload_n hx hb dX2_anyHolds_3 rfl (lv_at hl 0 rfl) ?_
      refine va_get (D := D) (ci := 1) (v := .int t_rules) (C := RX2) (T := TX2) (N := 9) hx hb hT inX2 hown hK hP 0 rfl rfl 8 (by decide) (hT _ tb_321) (fun _ h9 => h9) rfl dX2_anyHolds_4 ?_
      refine lv_icmp_ge (tgt := 48) hx hb dX2_anyHolds_7 (by decide) (fun hc_7 => ?_) (fun hc_7 => ?_)
      · have hf := it_pos hc_7 hf
        refine lv_iconst (v := 0) hx hb dX2_anyHolds_48 (by decide) ?_
        obtain rfl := Option.some.inj hf
        exact hQ H locs 49 ls hP hD hS (Or.inl rfl) dX2_anyHolds_49
      · have hf := it_neg hc_7 hf
        refine lv_aload_n hx hb dX2_anyHolds_10 rfl (lv_at hl 0 rfl) ?_
        refine va_get (D := D) (ci := 1) (v := .ref a_t_kinds) (C := RX2) (T := TX2) (N := 9) hx hb hT inX2 hown hK hP 0 rfl rfl 2 (by decide) (hT _ tb_315) (fun _ h9 => h9) rfl dX2_anyHolds_11 ?_
        refine lv_iload_n hx hb dX2_anyHolds_14 rfl (lv_at hl 3 rfl) ?_
        obtain ⟨hi_15, hf⟩ := ix_some hf
        refine va_iald hx hb hK hP 3 0 rfl rfl hi_15 dX2_anyHolds_15 ?_
        refine lv_iload_n hx hb dX2_anyHolds_16 rfl (lv_at hl 1 rfl) ?_
        refine lv_icmp_ne (tgt := 42) hx hb dX2_anyHolds_17 (by decide) (fun hc_17 => ?_) (fun hc_17 => ?_)
        · have hf := it_neg hc_17 hf
          refine lv_iinc (v := x3 + 1) (lv' := [(3, .int (x3 + 1)), (0, .ref a_t), (1, .int x1), (2, .ref a_p2)]) hx hb dX2_anyHolds_42 hl (k := 3) rfl (congrArg (_ + ·) (by decide : Int32.ofInt 1 = 1)) (by decide) rfl (fun ls hl => ?_)
          refine lv_goto (tgt := 2) hx hb dX2_anyHolds_45 (by decide) ?_
          exact ih_2 _ _ _ _ _ _ hf hP hD hS (lv_sub hl [1, 2, 3, 0] rfl)
        · have hf := it_pos hc_17 hf
          refine lv_aload_n hx hb dX2_anyHolds_20 rfl (lv_at hl 0 rfl) ?_
          refine lv_aload_n hx hb dX2_anyHolds_21 rfl (lv_at hl 0 rfl) ?_
          refine va_get (D := D) (ci := 1) (v := .ref a_t_testStarts) (C := RX2) (T := TX2) (N := 9) hx hb hT inX2 hown hK hP 0 rfl rfl 4 (by decide) (hT _ tb_317) (fun _ h9 => h9) rfl dX2_anyHolds_22 ?_
          refine lv_iload_n hx hb dX2_anyHolds_25 rfl (lv_at hl 3 rfl) ?_
          obtain ⟨hi_26, hf⟩ := ix_some hf
          refine va_iald hx hb hK hP 4 0 rfl rfl hi_26 dX2_anyHolds_26 ?_
          refine lv_aload_n hx hb dX2_anyHolds_27 rfl (lv_at hl 0 rfl) ?_
          refine va_get (D := D) (ci := 1) (v := .ref a_t_testEnds) (C := RX2) (T := TX2) (N := 9) hx hb hT inX2 hown hK hP 0 rfl rfl 5 (by decide) (hT _ tb_318) (fun _ h9 => h9) rfl dX2_anyHolds_28 ?_
          refine lv_iload_n hx hb dX2_anyHolds_31 rfl (lv_at hl 3 rfl) ?_
          obtain ⟨hi_32, hf⟩ := ix_some hf
          refine va_iald hx hb hK hP 5 0 rfl rfl hi_32 dX2_anyHolds_32 ?_
          refine lv_aload_n hx hb dX2_anyHolds_33 rfl (lv_at hl 2 rfl) ?_
          obtain ⟨z34, e34, hf⟩ := bd_some hf
          refine rV_RW (As := [.int (t_testStarts x3.toNatClampNeg), .int (t_testEnds x3.toNatClampNeg), .ref a_p2]) (rest := []) (w2 := (w_X2_anyHolds cI cB cZ a_t a_t_deeds a_t_values a_t_kinds a_t_testStarts a_t_testEnds a_t_stack a_p2 a_t_sumStarts t_steps t_rules t_deeds t_values t_kinds t_testStarts t_testEnds z34.2 p2)) ⟨hx, hb, hml, hown, hT⟩ (gdV tb_759 tb_761 tb_14 tb_96 tb_762) hd_X2_reckon (c_X2_reckon l D cI cB cZ a_t a_t_deeds a_t_values a_t_stack a_p2 a_t_kinds a_t_sumStarts a_t_testStarts a_t_testEnds t_steps t_rules t_deeds t_values t_stack p2 (t_testStarts x3.toNatClampNeg) (t_testEnds x3.toNatClampNeg) H.size z34 e34) ⟨rfl, rfl⟩ ⟨Nat.le_trans (by decide) hRf, Nat.le_trans (by decide) hRl⟩ ⟨hK, hN⟩ hA hP hD hS [0, 1, 2, 6, 7] [3, 4, 5] rfl (by decide) (wr := [_, _, _]) rfl (by decide) (by decide) [3, 4, 5, 0, 1, 2, 6, 7] rfl (by decide) 0 rfl rfl rfl hl.1 rfl (Nat.le_of_ble_eq_true rfl) ⟨Nat.zero_le _, Nat.zero_le _⟩ dX2_anyHolds_34 (fun H locs hP hD hS _ => ?_)
          refine lv_if_eq (tgt := 42) hx hb dX2_anyHolds_37 (by decide) (fun hc_37 => ?_) (fun hc_37 => ?_)
          · have hf := it_pos hc_37 hf
            refine lv_iinc (v := x3 + 1) (lv' := [(3, .int (x3 + 1)), (0, .ref a_t), (1, .int x1), (2, .ref a_p2)]) hx hb dX2_anyHolds_42 hl (k := 3) rfl (congrArg (_ + ·) (by decide : Int32.ofInt 1 = 1)) (by decide) rfl (fun ls hl => ?_)
            refine lv_goto (tgt := 2) hx hb dX2_anyHolds_45 (by decide) ?_
            exact ih_2 _ _ _ _ _ _ hf hP hD hS (lv_sub hl [1, 2, 3, 0] rfl)
          · have hf := it_neg hc_37 hf
            refine lv_iconst (v := 1) hx hb dX2_anyHolds_40 (by decide) ?_
            obtain rfl := Option.some.inj hf
            exact hQ H locs 41 ls hP hD hS (Or.inr rfl) dX2_anyHolds_41
  refine lv_istore_n (lv' := [(3, .int 0), (0, .ref a_t), (1, .int x1), (2, .ref a_p2)]) hx hb dX2_anyHolds_1 rfl hl (by decide) rfl (fun ls hl => ?_)
  exact J_2 _ _ _ _ _ _ _ hf hP hD hS (lv_sub hl [1, 2, 3, 0] rfl)
theorem hd_X2_anyHolds : (yX2_anyHolds).cls = RX2 ∧ (yX2_anyHolds).cls ≠ "java/lang/invoke/MethodHandle" ∧ (yX2_anyHolds).cls ≠ "java/lang/invoke/VarHandle" ∧ (parseMethodDescriptor (yX2_anyHolds).desc).map (fun d => d.parameters.length) = some 2 := by decide +kernel
theorem c_X2_anyHolds (l : Launch) (D : va_G) (cI cB cZ : ClassId) (a_t : Nat) (a_t_deeds : Nat) (a_t_values : Nat) (a_t_kinds : Nat) (a_t_testStarts : Nat) (a_t_testEnds : Nat) (a_t_stack : Nat) (a_p2 : Nat) (a_t_sumStarts : Nat) (t_steps : Int32) (t_rules : Int32) (t_deeds : (Nat → Int32)) (t_values : (Nat → Int32)) (t_kinds : (Nat → Int32)) (t_testStarts : (Nat → Int32)) (t_testEnds : (Nat → Int32)) (t_stack : (Nat → Int32)) (p2 : (Nat → Int32)) (x1 : Int32) (sz : Nat) (res : Int32 × (Nat → Int32)) (hf : f_X2_anyHolds t_rules t_deeds t_values t_kinds t_testStarts t_testEnds t_stack p2 x1 = some res) : Met l yX2_anyHolds (.code yX2_anyHolds cX2_anyHolds 4 (some .boolean) :: TB) (rmk (2) (50)) (pRW [.ref a_t, .int x1, .ref a_p2] D cI cB cZ (w_X2_anyHolds cI cB cZ a_t a_t_deeds a_t_values a_t_kinds a_t_testStarts a_t_testEnds a_t_stack a_p2 a_t_sumStarts t_steps t_rules t_deeds t_values t_kinds t_testStarts t_testEnds t_stack p2) sz) (qRW (some (.int res.1)) (res.1 = 0 ∨ res.1 = 1) D (w_X2_anyHolds cI cB cZ a_t a_t_deeds a_t_values a_t_kinds a_t_testStarts a_t_testEnds a_t_stack a_p2 a_t_sumStarts t_steps t_rules t_deeds t_values t_kinds t_testStarts t_testEnds t_stack p2) sz (w_X2_anyHolds cI cB cZ a_t a_t_deeds a_t_values a_t_kinds a_t_testStarts a_t_testEnds a_t_stack a_p2 a_t_sumStarts t_steps t_rules t_deeds t_values t_kinds t_testStarts t_testEnds res.2 p2)) 0 0 (va_A (w_X2_anyHolds cI cB cZ a_t a_t_deeds a_t_values a_t_kinds a_t_testStarts a_t_testEnds a_t_stack a_p2 a_t_sumStarts t_steps t_rules t_deeds t_values t_kinds t_testStarts t_testEnds t_stack p2) sz) :=
  mkRW (by decide +kernel) (Nat.le_of_ble_eq_true rfl) (fun p e s m below meth c ls A hAe S hr hlk hK hA hP hD hS hl => b_X2_anyHolds S.1 S.2.1 S.2.2.1 S.2.2.2.1 S.2.2.2.2 (Nat.le_refl _) (Nat.le_refl _) hK.1 hK.2 hA s.heap [] a_t a_t_deeds a_t_values a_t_kinds a_t_testStarts a_t_testEnds a_t_stack a_p2 a_t_sumStarts t_steps t_rules t_deeds t_values t_kinds t_testStarts t_testEnds t_stack p2 x1 res hf hP hD hS (fun H locs pc ls hP hD hS hE hd => eRW_i S.1 S.2.1 hr (nz_ok hE) hlk hAe hP hD hS hE hd) ls hl)
