def f_X11_isWithin (x0 : Int32) (x1 : Int32) (x2 : Int32) : Option (Int32) := (if x0 < x1 then some (0) else (if x2 < x0 then some (0) else some (1)))
def w_X11_isWithin (cI cB cZ : ClassId) : va_W := []
set_option maxHeartbeats 4000000 in
set_option maxRecDepth 100000 in
theorem b_X11_isWithin {p : Program} {l : Launch} {e : Env} {R : Room} {s : State} {m : MethodId} {args : Array Value} {below : List Frame} {meth : Method} {c : Code} {Q : State → Prop} {D : va_G} {cI cB cZ : ClassId} (hx : p.tables.exec = Jvm.exec) (hb : c.code = cX11_isWithin) (hml : c.maxLocals = 3) (hown : s.vm.findClass RX11 = some m.cls) (hT : ∀ w ∈ TB, w.before args s = true) (hRf : (0) ≤ R.frames) (hRl : (0) ≤ R.locals) (hK : va_K D vwCl (tyL cI cB cZ) s) (hN : NW s)  (x0 : Int32) (x1 : Int32) (x2 : Int32) (res : Int32) (hf : f_X11_isWithin x0 x1 x2 = some res) (hP : va_P D vwCl (w_X11_isWithin cI cB cZ ) s.heap) (hQ : ∀ (pc : Nat) (ls : Array Slot), (res = 0 ∨ res = 1) → decode cX11_isWithin pc = .ok (.ireturn, 1) → W p l e R s m args below meth c s.heap [] 0 0 Q (F0 m pc ls [.int res])) (ls : Array Slot) (hl : lv_has ls 3 [(0, .int x0), (1, .int x1), (2, .int x2)]) : W p l e R s m args below meth c s.heap [] 0 0 Q (F0 m 0 ls []) := by
  unfold f_X11_isWithin at hf
  refine lv_iload_n hx hb dX11_isWithin_0 rfl (lv_at hl 0 rfl) ?_
  refine lv_iload_n hx hb dX11_isWithin_1 rfl (lv_at hl 1 rfl) ?_
  refine lv_icmp_lt (tgt := 14) hx hb dX11_isWithin_2 (by decide) (fun hc_2 => ?_) (fun hc_2 => ?_)
  · have hf := it_pos hc_2 hf
    refine lv_iconst (v := 0) hx hb dX11_isWithin_14 (by decide) ?_
    obtain rfl := Option.some.inj hf
    exact hQ 15 ls (Or.inl rfl) dX11_isWithin_15
  · have hf := it_neg hc_2 hf
    refine lv_iload_n hx hb dX11_isWithin_5 rfl (lv_at hl 0 rfl) ?_
    refine lv_iload_n hx hb dX11_isWithin_6 rfl (lv_at hl 2 rfl) ?_
    refine lv_icmp_gt (tgt := 14) hx hb dX11_isWithin_7 (by decide) (fun hc_7 => ?_) (fun hc_7 => ?_)
    · have hf := it_pos hc_7 hf
      refine lv_iconst (v := 0) hx hb dX11_isWithin_14 (by decide) ?_
      obtain rfl := Option.some.inj hf
      exact hQ 15 ls (Or.inl rfl) dX11_isWithin_15
    · have hf := it_neg hc_7 hf
      refine lv_iconst (v := 1) hx hb dX11_isWithin_10 (by decide) ?_
      refine lv_goto (tgt := 15) hx hb dX11_isWithin_11 (by decide) ?_
      obtain rfl := Option.some.inj hf
      exact hQ 15 ls (Or.inr rfl) dX11_isWithin_15
theorem hd_X11_isWithin : (yX11_isWithin).cls ≠ "java/lang/invoke/MethodHandle" ∧ (yX11_isWithin).cls ≠ "java/lang/invoke/VarHandle" ∧ (parseMethodDescriptor (yX11_isWithin).desc).map (fun d => d.parameters.length) = some 3 := by decide +kernel
theorem c_X11_isWithin (l : Launch) (D : va_G) (cI cB cZ : ClassId) (x0 : Int32) (x1 : Int32) (x2 : Int32) (res : Int32) (hf : f_X11_isWithin x0 x1 x2 = some res) : Met l yX11_isWithin (.code yX11_isWithin cX11_isWithin 3 (some .boolean) :: TB) (rmk (0) (0)) (pRO [.int x0, .int x1, .int x2] D cI cB cZ (w_X11_isWithin cI cB cZ )) (qRO (some (.int res)) (res = 0 ∨ res = 1)) 0 0 (fun _ => False) :=
  mkRO (by decide +kernel) (Nat.le_of_ble_eq_true rfl) (fun p e s m below meth c ls S hr hlk hK hP hl => b_X11_isWithin S.1 S.2.1 S.2.2.1 S.2.2.2.1 S.2.2.2.2 (Nat.le_refl _) (Nat.le_refl _) hK.1 hK.2 x0 x1 x2 res hf hP (fun pc ls hE hd => eRO_i S.1 S.2.1 hr (nz_ok hE) hlk hE hd) ls hl)
def f_X11_isSeat (x0 : Int32) : Option (Int32) := (f_X11_isWithin x0 0 143).bind (fun z5 => some (z5))
def w_X11_isSeat (cI cB cZ : ClassId) : va_W := []
set_option maxHeartbeats 4000000 in
set_option maxRecDepth 100000 in
theorem b_X11_isSeat {p : Program} {l : Launch} {e : Env} {R : Room} {s : State} {m : MethodId} {args : Array Value} {below : List Frame} {meth : Method} {c : Code} {Q : State → Prop} {D : va_G} {cI cB cZ : ClassId} (hx : p.tables.exec = Jvm.exec) (hb : c.code = cX11_isSeat) (hml : c.maxLocals = 1) (hown : s.vm.findClass RX11 = some m.cls) (hT : ∀ w ∈ TB, w.before args s = true) (hRf : (1) ≤ R.frames) (hRl : (22) ≤ R.locals) (hK : va_K D vwCl (tyL cI cB cZ) s) (hN : NW s)  (x0 : Int32) (res : Int32) (hf : f_X11_isSeat x0 = some res) (hP : va_P D vwCl (w_X11_isSeat cI cB cZ ) s.heap) (hQ : ∀ (pc : Nat) (ls : Array Slot), (res = 0 ∨ res = 1) → decode cX11_isSeat pc = .ok (.ireturn, 1) → W p l e R s m args below meth c s.heap [] 0 0 Q (F0 m pc ls [.int res])) (ls : Array Slot) (hl : lv_has ls 1 [(0, .int x0)]) : W p l e R s m args below meth c s.heap [] 0 0 Q (F0 m 0 ls []) := by
  unfold f_X11_isSeat at hf
  refine lv_iload_n hx hb dX11_isSeat_0 rfl (lv_at hl 0 rfl) ?_
  refine lv_iconst (v := 0) hx hb dX11_isSeat_1 (by decide) ?_
  refine lv_sipush (v := 143) hx hb dX11_isSeat_2 (by decide) ?_
  obtain ⟨z5, e5, hf⟩ := bd_some hf
  refine rS_RO (As := [.int x0, .int 0, .int 143]) (rest := []) ⟨hx, hb, hml, hown, hT⟩ (gdS tb_392 tb_393 tb_85 tb_394) hd_X11_isWithin (c_X11_isWithin l D cI cB cZ x0 0 143 z5 e5) ⟨rfl, rfl⟩ ⟨Nat.le_trans (by decide) hRf, Nat.le_trans (by decide) hRl⟩ ⟨hK, hN⟩ hP [] rfl rfl hl.1 rfl (Nat.le_of_ble_eq_true rfl) ⟨Nat.zero_le _, Nat.zero_le _⟩ dX11_isSeat_5 (fun hz_5 => ?_)
  obtain rfl := Option.some.inj hf
  exact hQ 8 ls hz_5 dX11_isSeat_8
theorem hd_X11_isSeat : (yX11_isSeat).cls ≠ "java/lang/invoke/MethodHandle" ∧ (yX11_isSeat).cls ≠ "java/lang/invoke/VarHandle" ∧ (parseMethodDescriptor (yX11_isSeat).desc).map (fun d => d.parameters.length) = some 1 := by decide +kernel
theorem c_X11_isSeat (l : Launch) (D : va_G) (cI cB cZ : ClassId) (x0 : Int32) (res : Int32) (hf : f_X11_isSeat x0 = some res) : Met l yX11_isSeat (.code yX11_isSeat cX11_isSeat 1 (some .boolean) :: TB) (rmk (1) (22)) (pRO [.int x0] D cI cB cZ (w_X11_isSeat cI cB cZ )) (qRO (some (.int res)) (res = 0 ∨ res = 1)) 0 0 (fun _ => False) :=
  mkRO (by decide +kernel) (Nat.le_of_ble_eq_true rfl) (fun p e s m below meth c ls S hr hlk hK hP hl => b_X11_isSeat S.1 S.2.1 S.2.2.1 S.2.2.2.1 S.2.2.2.2 (Nat.le_refl _) (Nat.le_refl _) hK.1 hK.2 x0 res hf hP (fun pc ls hE hd => eRO_i S.1 S.2.1 hr (nz_ok hE) hlk hE hd) ls hl)
def f_X11_isSide (x0 : Int32) : Option (Int32) := (f_X11_isWithin x0 0 1).bind (fun z3 => some (z3))
def w_X11_isSide (cI cB cZ : ClassId) : va_W := []
set_option maxHeartbeats 4000000 in
set_option maxRecDepth 100000 in
theorem b_X11_isSide {p : Program} {l : Launch} {e : Env} {R : Room} {s : State} {m : MethodId} {args : Array Value} {below : List Frame} {meth : Method} {c : Code} {Q : State → Prop} {D : va_G} {cI cB cZ : ClassId} (hx : p.tables.exec = Jvm.exec) (hb : c.code = cX11_isSide) (hml : c.maxLocals = 1) (hown : s.vm.findClass RX11 = some m.cls) (hT : ∀ w ∈ TB, w.before args s = true) (hRf : (1) ≤ R.frames) (hRl : (22) ≤ R.locals) (hK : va_K D vwCl (tyL cI cB cZ) s) (hN : NW s)  (x0 : Int32) (res : Int32) (hf : f_X11_isSide x0 = some res) (hP : va_P D vwCl (w_X11_isSide cI cB cZ ) s.heap) (hQ : ∀ (pc : Nat) (ls : Array Slot), (res = 0 ∨ res = 1) → decode cX11_isSide pc = .ok (.ireturn, 1) → W p l e R s m args below meth c s.heap [] 0 0 Q (F0 m pc ls [.int res])) (ls : Array Slot) (hl : lv_has ls 1 [(0, .int x0)]) : W p l e R s m args below meth c s.heap [] 0 0 Q (F0 m 0 ls []) := by
  unfold f_X11_isSide at hf
  refine lv_iload_n hx hb dX11_isSide_0 rfl (lv_at hl 0 rfl) ?_
  refine lv_iconst (v := 0) hx hb dX11_isSide_1 (by decide) ?_
  refine lv_iconst (v := 1) hx hb dX11_isSide_2 (by decide) ?_
  obtain ⟨z3, e3, hf⟩ := bd_some hf
  refine rS_RO (As := [.int x0, .int 0, .int 1]) (rest := []) ⟨hx, hb, hml, hown, hT⟩ (gdS tb_392 tb_393 tb_85 tb_394) hd_X11_isWithin (c_X11_isWithin l D cI cB cZ x0 0 1 z3 e3) ⟨rfl, rfl⟩ ⟨Nat.le_trans (by decide) hRf, Nat.le_trans (by decide) hRl⟩ ⟨hK, hN⟩ hP [] rfl rfl hl.1 rfl (Nat.le_of_ble_eq_true rfl) ⟨Nat.zero_le _, Nat.zero_le _⟩ dX11_isSide_3 (fun hz_3 => ?_)
  obtain rfl := Option.some.inj hf
  exact hQ 6 ls hz_3 dX11_isSide_6
theorem hd_X11_isSide : (yX11_isSide).cls ≠ "java/lang/invoke/MethodHandle" ∧ (yX11_isSide).cls ≠ "java/lang/invoke/VarHandle" ∧ (parseMethodDescriptor (yX11_isSide).desc).map (fun d => d.parameters.length) = some 1 := by decide +kernel
theorem c_X11_isSide (l : Launch) (D : va_G) (cI cB cZ : ClassId) (x0 : Int32) (res : Int32) (hf : f_X11_isSide x0 = some res) : Met l yX11_isSide (.code yX11_isSide cX11_isSide 1 (some .boolean) :: TB) (rmk (1) (22)) (pRO [.int x0] D cI cB cZ (w_X11_isSide cI cB cZ )) (qRO (some (.int res)) (res = 0 ∨ res = 1)) 0 0 (fun _ => False) :=
  mkRO (by decide +kernel) (Nat.le_of_ble_eq_true rfl) (fun p e s m below meth c ls S hr hlk hK hP hl => b_X11_isSide S.1 S.2.1 S.2.2.1 S.2.2.2.1 S.2.2.2.2 (Nat.le_refl _) (Nat.le_refl _) hK.1 hK.2 x0 res hf hP (fun pc ls hE hd => eRO_i S.1 S.2.1 hr (nz_ok hE) hlk hE hd) ls hl)
def f_X11_isPew (x0 : Int32) (x1 : Int32) : Option (Int32) := (f_X11_isSide x0).bind (fun z1 => (if z1 = 0 then some (0) else (f_X11_isWithin x1 0 7).bind (fun z11 => (if z11 = 0 then some (0) else some (1)))))
def w_X11_isPew (cI cB cZ : ClassId) : va_W := []
set_option maxHeartbeats 4000000 in
set_option maxRecDepth 100000 in
theorem b_X11_isPew {p : Program} {l : Launch} {e : Env} {R : Room} {s : State} {m : MethodId} {args : Array Value} {below : List Frame} {meth : Method} {c : Code} {Q : State → Prop} {D : va_G} {cI cB cZ : ClassId} (hx : p.tables.exec = Jvm.exec) (hb : c.code = cX11_isPew) (hml : c.maxLocals = 2) (hown : s.vm.findClass RX11 = some m.cls) (hT : ∀ w ∈ TB, w.before args s = true) (hRf : (2) ≤ R.frames) (hRl : (42) ≤ R.locals) (hK : va_K D vwCl (tyL cI cB cZ) s) (hN : NW s)  (x0 : Int32) (x1 : Int32) (res : Int32) (hf : f_X11_isPew x0 x1 = some res) (hP : va_P D vwCl (w_X11_isPew cI cB cZ ) s.heap) (hQ : ∀ (pc : Nat) (ls : Array Slot), (res = 0 ∨ res = 1) → decode cX11_isPew pc = .ok (.ireturn, 1) → W p l e R s m args below meth c s.heap [] 0 0 Q (F0 m pc ls [.int res])) (ls : Array Slot) (hl : lv_has ls 2 [(0, .int x0), (1, .int x1)]) : W p l e R s m args below meth c s.heap [] 0 0 Q (F0 m 0 ls []) := by
  unfold f_X11_isPew at hf
  refine lv_iload_n hx hb dX11_isPew_0 rfl (lv_at hl 0 rfl) ?_
  obtain ⟨z1, e1, hf⟩ := bd_some hf
  refine rS_RO (As := [.int x0]) (rest := []) ⟨hx, hb, hml, hown, hT⟩ (gdS tb_875 tb_876 tb_85 tb_877) hd_X11_isSide (c_X11_isSide l D cI cB cZ x0 z1 e1) ⟨rfl, rfl⟩ ⟨Nat.le_trans (by decide) hRf, Nat.le_trans (by decide) hRl⟩ ⟨hK, hN⟩ hP [] rfl rfl hl.1 rfl (Nat.le_of_ble_eq_true rfl) ⟨Nat.zero_le _, Nat.zero_le _⟩ dX11_isPew_1 (fun hz_1 => ?_)
  refine lv_if_eq (tgt := 21) hx hb dX11_isPew_4 (by decide) (fun hc_4 => ?_) (fun hc_4 => ?_)
  · have hf := it_pos hc_4 hf
    refine lv_iconst (v := 0) hx hb dX11_isPew_21 (by decide) ?_
    obtain rfl := Option.some.inj hf
    exact hQ 22 ls (Or.inl rfl) dX11_isPew_22
  · have hf := it_neg hc_4 hf
    refine lv_iload_n hx hb dX11_isPew_7 rfl (lv_at hl 1 rfl) ?_
    refine lv_iconst (v := 0) hx hb dX11_isPew_8 (by decide) ?_
    refine lv_bipush (v := 7) hx hb dX11_isPew_9 (by decide) ?_
    obtain ⟨z11, e11, hf⟩ := bd_some hf
    refine rS_RO (As := [.int x1, .int 0, .int 7]) (rest := []) ⟨hx, hb, hml, hown, hT⟩ (gdS tb_392 tb_393 tb_85 tb_394) hd_X11_isWithin (c_X11_isWithin l D cI cB cZ x1 0 7 z11 e11) ⟨rfl, rfl⟩ ⟨Nat.le_trans (by decide) hRf, Nat.le_trans (by decide) hRl⟩ ⟨hK, hN⟩ hP [] rfl rfl hl.1 rfl (Nat.le_of_ble_eq_true rfl) ⟨Nat.zero_le _, Nat.zero_le _⟩ dX11_isPew_11 (fun hz_11 => ?_)
    refine lv_if_eq (tgt := 21) hx hb dX11_isPew_14 (by decide) (fun hc_14 => ?_) (fun hc_14 => ?_)
    · have hf := it_pos hc_14 hf
      refine lv_iconst (v := 0) hx hb dX11_isPew_21 (by decide) ?_
      obtain rfl := Option.some.inj hf
      exact hQ 22 ls (Or.inl rfl) dX11_isPew_22
    · have hf := it_neg hc_14 hf
      refine lv_iconst (v := 1) hx hb dX11_isPew_17 (by decide) ?_
      refine lv_goto (tgt := 22) hx hb dX11_isPew_18 (by decide) ?_
      obtain rfl := Option.some.inj hf
      exact hQ 22 ls (Or.inr rfl) dX11_isPew_22
theorem hd_X11_isPew : (yX11_isPew).cls ≠ "java/lang/invoke/MethodHandle" ∧ (yX11_isPew).cls ≠ "java/lang/invoke/VarHandle" ∧ (parseMethodDescriptor (yX11_isPew).desc).map (fun d => d.parameters.length) = some 2 := by decide +kernel
theorem c_X11_isPew (l : Launch) (D : va_G) (cI cB cZ : ClassId) (x0 : Int32) (x1 : Int32) (res : Int32) (hf : f_X11_isPew x0 x1 = some res) : Met l yX11_isPew (.code yX11_isPew cX11_isPew 2 (some .boolean) :: TB) (rmk (2) (42)) (pRO [.int x0, .int x1] D cI cB cZ (w_X11_isPew cI cB cZ )) (qRO (some (.int res)) (res = 0 ∨ res = 1)) 0 0 (fun _ => False) :=
  mkRO (by decide +kernel) (Nat.le_of_ble_eq_true rfl) (fun p e s m below meth c ls S hr hlk hK hP hl => b_X11_isPew S.1 S.2.1 S.2.2.1 S.2.2.2.1 S.2.2.2.2 (Nat.le_refl _) (Nat.le_refl _) hK.1 hK.2 x0 x1 res hf hP (fun pc ls hE hd => eRO_i S.1 S.2.1 hr (nz_ok hE) hlk hE hd) ls hl)
def f_X11_pewOf (x0 : Int32) (x1 : Int32) : Option (Int32) := some ((x0 * 8) + x1)
def w_X11_pewOf (cI cB cZ : ClassId) : va_W := []
set_option maxHeartbeats 4000000 in
set_option maxRecDepth 100000 in
theorem b_X11_pewOf {p : Program} {l : Launch} {e : Env} {R : Room} {s : State} {m : MethodId} {args : Array Value} {below : List Frame} {meth : Method} {c : Code} {Q : State → Prop} {D : va_G} {cI cB cZ : ClassId} (hx : p.tables.exec = Jvm.exec) (hb : c.code = cX11_pewOf) (hml : c.maxLocals = 2) (hown : s.vm.findClass RX11 = some m.cls) (hT : ∀ w ∈ TB, w.before args s = true) (hRf : (0) ≤ R.frames) (hRl : (0) ≤ R.locals) (hK : va_K D vwCl (tyL cI cB cZ) s) (hN : NW s)  (x0 : Int32) (x1 : Int32) (res : Int32) (hf : f_X11_pewOf x0 x1 = some res) (hP : va_P D vwCl (w_X11_pewOf cI cB cZ ) s.heap) (hQ : ∀ (pc : Nat) (ls : Array Slot), True → decode cX11_pewOf pc = .ok (.ireturn, 1) → W p l e R s m args below meth c s.heap [] 0 0 Q (F0 m pc ls [.int res])) (ls : Array Slot) (hl : lv_has ls 2 [(0, .int x0), (1, .int x1)]) : W p l e R s m args below meth c s.heap [] 0 0 Q (F0 m 0 ls []) := by
  unfold f_X11_pewOf at hf
  refine lv_iload_n hx hb dX11_pewOf_0 rfl (lv_at hl 0 rfl) ?_
  refine lv_bipush (v := 8) hx hb dX11_pewOf_1 (by decide) ?_
  refine lv_imul hx hb dX11_pewOf_3 ?_
  refine lv_iload_n hx hb dX11_pewOf_4 rfl (lv_at hl 1 rfl) ?_
  refine lv_iadd hx hb dX11_pewOf_5 ?_
  obtain rfl := Option.some.inj hf
  exact hQ 6 ls trivial dX11_pewOf_6
theorem hd_X11_pewOf : (yX11_pewOf).cls ≠ "java/lang/invoke/MethodHandle" ∧ (yX11_pewOf).cls ≠ "java/lang/invoke/VarHandle" ∧ (parseMethodDescriptor (yX11_pewOf).desc).map (fun d => d.parameters.length) = some 2 := by decide +kernel
theorem c_X11_pewOf (l : Launch) (D : va_G) (cI cB cZ : ClassId) (x0 : Int32) (x1 : Int32) (res : Int32) (hf : f_X11_pewOf x0 x1 = some res) : Met l yX11_pewOf (.code yX11_pewOf cX11_pewOf 2 (some .int) :: TB) (rmk (0) (0)) (pRO [.int x0, .int x1] D cI cB cZ (w_X11_pewOf cI cB cZ )) (qRO (some (.int res)) True) 0 0 (fun _ => False) :=
  mkRO (by decide +kernel) (Nat.le_of_ble_eq_true rfl) (fun p e s m below meth c ls S hr hlk hK hP hl => b_X11_pewOf S.1 S.2.1 S.2.2.1 S.2.2.2.1 S.2.2.2.2 (Nat.le_refl _) (Nat.le_refl _) hK.1 hK.2 x0 x1 res hf hP (fun pc ls hE hd => eRO_i S.1 S.2.1 hr rfl hlk hE hd) ls hl)
def f_X1_of (x0 : Int32) (x1 : Int32) (x2 : Int32) (x3 : Int32) (x4 : Int32) : Option (Int32) := some ((((x0 ||| (x1 <<< (2 &&& 31))) ||| (x2 <<< (6 &&& 31))) ||| (x3 <<< (10 &&& 31))) ||| (x4 <<< (11 &&& 31)))
def w_X1_of (cI cB cZ : ClassId) : va_W := []
set_option maxHeartbeats 4000000 in
set_option maxRecDepth 100000 in
theorem b_X1_of {p : Program} {l : Launch} {e : Env} {R : Room} {s : State} {m : MethodId} {args : Array Value} {below : List Frame} {meth : Method} {c : Code} {Q : State → Prop} {D : va_G} {cI cB cZ : ClassId} (hx : p.tables.exec = Jvm.exec) (hb : c.code = cX1_of) (hml : c.maxLocals = 5) (hown : s.vm.findClass RX1 = some m.cls) (hT : ∀ w ∈ TB, w.before args s = true) (hRf : (0) ≤ R.frames) (hRl : (0) ≤ R.locals) (hK : va_K D vwCl (tyL cI cB cZ) s) (hN : NW s)  (x0 : Int32) (x1 : Int32) (x2 : Int32) (x3 : Int32) (x4 : Int32) (res : Int32) (hf : f_X1_of x0 x1 x2 x3 x4 = some res) (hP : va_P D vwCl (w_X1_of cI cB cZ ) s.heap) (hQ : ∀ (pc : Nat) (ls : Array Slot), True → decode cX1_of pc = .ok (.ireturn, 1) → W p l e R s m args below meth c s.heap [] 0 0 Q (F0 m pc ls [.int res])) (ls : Array Slot) (hl : lv_has ls 5 [(0, .int x0), (1, .int x1), (2, .int x2), (3, .int x3), (4, .int x4)]) : W p l e R s m args below meth c s.heap [] 0 0 Q (F0 m 0 ls []) := by
  unfold f_X1_of at hf
  refine lv_iload_n hx hb dX1_of_0 rfl (lv_at hl 0 rfl) ?_
  refine lv_iload_n hx hb dX1_of_1 rfl (lv_at hl 1 rfl) ?_
  refine lv_iconst (v := 2) hx hb dX1_of_2 (by decide) ?_
  refine lv_ishl hx hb dX1_of_3 ?_
  refine lv_ior hx hb dX1_of_4 ?_
  refine lv_iload_n hx hb dX1_of_5 rfl (lv_at hl 2 rfl) ?_
  refine lv_bipush (v := 6) hx hb dX1_of_6 (by decide) ?_
  refine lv_ishl hx hb dX1_of_8 ?_
  refine lv_ior hx hb dX1_of_9 ?_
  refine lv_iload_n hx hb dX1_of_10 rfl (lv_at hl 3 rfl) ?_
  refine lv_bipush (v := 10) hx hb dX1_of_11 (by decide) ?_
  refine lv_ishl hx hb dX1_of_13 ?_
  refine lv_ior hx hb dX1_of_14 ?_
  refine lv_iload hx hb dX1_of_15 (lv_at hl 4 rfl) ?_
  refine lv_bipush (v := 11) hx hb dX1_of_17 (by decide) ?_
  refine lv_ishl hx hb dX1_of_19 ?_
  refine lv_ior hx hb dX1_of_20 ?_
  obtain rfl := Option.some.inj hf
  exact hQ 21 ls trivial dX1_of_21
theorem hd_X1_of : (yX1_of).cls ≠ "java/lang/invoke/MethodHandle" ∧ (yX1_of).cls ≠ "java/lang/invoke/VarHandle" ∧ (parseMethodDescriptor (yX1_of).desc).map (fun d => d.parameters.length) = some 5 := by decide +kernel
theorem c_X1_of (l : Launch) (D : va_G) (cI cB cZ : ClassId) (x0 : Int32) (x1 : Int32) (x2 : Int32) (x3 : Int32) (x4 : Int32) (res : Int32) (hf : f_X1_of x0 x1 x2 x3 x4 = some res) : Met l yX1_of (.code yX1_of cX1_of 5 (some .int) :: TB) (rmk (0) (0)) (pRO [.int x0, .int x1, .int x2, .int x3, .int x4] D cI cB cZ (w_X1_of cI cB cZ )) (qRO (some (.int res)) True) 0 0 (fun _ => False) :=
  mkRO (by decide +kernel) (Nat.le_of_ble_eq_true rfl) (fun p e s m below meth c ls S hr hlk hK hP hl => b_X1_of S.1 S.2.1 S.2.2.1 S.2.2.2.1 S.2.2.2.2 (Nat.le_refl _) (Nat.le_refl _) hK.1 hK.2 x0 x1 x2 x3 x4 res hf hP (fun pc ls hE hd => eRO_i S.1 S.2.1 hr rfl hlk hE hd) ls hl)
def f_X1_sideOf (x0 : Int32) : Option (Int32) := some (x0 &&& 3)
def w_X1_sideOf (cI cB cZ : ClassId) : va_W := []
set_option maxHeartbeats 4000000 in
set_option maxRecDepth 100000 in
theorem b_X1_sideOf {p : Program} {l : Launch} {e : Env} {R : Room} {s : State} {m : MethodId} {args : Array Value} {below : List Frame} {meth : Method} {c : Code} {Q : State → Prop} {D : va_G} {cI cB cZ : ClassId} (hx : p.tables.exec = Jvm.exec) (hb : c.code = cX1_sideOf) (hml : c.maxLocals = 1) (hown : s.vm.findClass RX1 = some m.cls) (hT : ∀ w ∈ TB, w.before args s = true) (hRf : (0) ≤ R.frames) (hRl : (0) ≤ R.locals) (hK : va_K D vwCl (tyL cI cB cZ) s) (hN : NW s)  (x0 : Int32) (res : Int32) (hf : f_X1_sideOf x0 = some res) (hP : va_P D vwCl (w_X1_sideOf cI cB cZ ) s.heap) (hQ : ∀ (pc : Nat) (ls : Array Slot), True → decode cX1_sideOf pc = .ok (.ireturn, 1) → W p l e R s m args below meth c s.heap [] 0 0 Q (F0 m pc ls [.int res])) (ls : Array Slot) (hl : lv_has ls 1 [(0, .int x0)]) : W p l e R s m args below meth c s.heap [] 0 0 Q (F0 m 0 ls []) := by
  unfold f_X1_sideOf at hf
  refine lv_iload_n hx hb dX1_sideOf_0 rfl (lv_at hl 0 rfl) ?_
  refine lv_iconst (v := 3) hx hb dX1_sideOf_1 (by decide) ?_
  refine lv_iand hx hb dX1_sideOf_2 ?_
  obtain rfl := Option.some.inj hf
  exact hQ 3 ls trivial dX1_sideOf_3
theorem hd_X1_sideOf : (yX1_sideOf).cls ≠ "java/lang/invoke/MethodHandle" ∧ (yX1_sideOf).cls ≠ "java/lang/invoke/VarHandle" ∧ (parseMethodDescriptor (yX1_sideOf).desc).map (fun d => d.parameters.length) = some 1 := by decide +kernel
theorem c_X1_sideOf (l : Launch) (D : va_G) (cI cB cZ : ClassId) (x0 : Int32) (res : Int32) (hf : f_X1_sideOf x0 = some res) : Met l yX1_sideOf (.code yX1_sideOf cX1_sideOf 1 (some .int) :: TB) (rmk (0) (0)) (pRO [.int x0] D cI cB cZ (w_X1_sideOf cI cB cZ )) (qRO (some (.int res)) True) 0 0 (fun _ => False) :=
  mkRO (by decide +kernel) (Nat.le_of_ble_eq_true rfl) (fun p e s m below meth c ls S hr hlk hK hP hl => b_X1_sideOf S.1 S.2.1 S.2.2.1 S.2.2.2.1 S.2.2.2.2 (Nat.le_refl _) (Nat.le_refl _) hK.1 hK.2 x0 res hf hP (fun pc ls hE hd => eRO_i S.1 S.2.1 hr rfl hlk hE hd) ls hl)
def f_X1_familyOf (x0 : Int32) : Option (Int32) := some ((x0 >>> (2 &&& 31)) &&& 15)
def w_X1_familyOf (cI cB cZ : ClassId) : va_W := []
set_option maxHeartbeats 4000000 in
set_option maxRecDepth 100000 in
theorem b_X1_familyOf {p : Program} {l : Launch} {e : Env} {R : Room} {s : State} {m : MethodId} {args : Array Value} {below : List Frame} {meth : Method} {c : Code} {Q : State → Prop} {D : va_G} {cI cB cZ : ClassId} (hx : p.tables.exec = Jvm.exec) (hb : c.code = cX1_familyOf) (hml : c.maxLocals = 1) (hown : s.vm.findClass RX1 = some m.cls) (hT : ∀ w ∈ TB, w.before args s = true) (hRf : (0) ≤ R.frames) (hRl : (0) ≤ R.locals) (hK : va_K D vwCl (tyL cI cB cZ) s) (hN : NW s)  (x0 : Int32) (res : Int32) (hf : f_X1_familyOf x0 = some res) (hP : va_P D vwCl (w_X1_familyOf cI cB cZ ) s.heap) (hQ : ∀ (pc : Nat) (ls : Array Slot), True → decode cX1_familyOf pc = .ok (.ireturn, 1) → W p l e R s m args below meth c s.heap [] 0 0 Q (F0 m pc ls [.int res])) (ls : Array Slot) (hl : lv_has ls 1 [(0, .int x0)]) : W p l e R s m args below meth c s.heap [] 0 0 Q (F0 m 0 ls []) := by
  unfold f_X1_familyOf at hf
  refine lv_iload_n hx hb dX1_familyOf_0 rfl (lv_at hl 0 rfl) ?_
  refine lv_iconst (v := 2) hx hb dX1_familyOf_1 (by decide) ?_
  refine lv_ishr hx hb dX1_familyOf_2 ?_
  refine lv_bipush (v := 15) hx hb dX1_familyOf_3 (by decide) ?_
  refine lv_iand hx hb dX1_familyOf_5 ?_
  obtain rfl := Option.some.inj hf
  exact hQ 6 ls trivial dX1_familyOf_6
theorem hd_X1_familyOf : (yX1_familyOf).cls ≠ "java/lang/invoke/MethodHandle" ∧ (yX1_familyOf).cls ≠ "java/lang/invoke/VarHandle" ∧ (parseMethodDescriptor (yX1_familyOf).desc).map (fun d => d.parameters.length) = some 1 := by decide +kernel
theorem c_X1_familyOf (l : Launch) (D : va_G) (cI cB cZ : ClassId) (x0 : Int32) (res : Int32) (hf : f_X1_familyOf x0 = some res) : Met l yX1_familyOf (.code yX1_familyOf cX1_familyOf 1 (some .int) :: TB) (rmk (0) (0)) (pRO [.int x0] D cI cB cZ (w_X1_familyOf cI cB cZ )) (qRO (some (.int res)) True) 0 0 (fun _ => False) :=
  mkRO (by decide +kernel) (Nat.le_of_ble_eq_true rfl) (fun p e s m below meth c ls S hr hlk hK hP hl => b_X1_familyOf S.1 S.2.1 S.2.2.1 S.2.2.2.1 S.2.2.2.2 (Nat.le_refl _) (Nat.le_refl _) hK.1 hK.2 x0 res hf hP (fun pc ls hE hd => eRO_i S.1 S.2.1 hr rfl hlk hE hd) ls hl)
def f_X1_heightOf (x0 : Int32) : Option (Int32) := some ((x0 >>> (6 &&& 31)) &&& 15)
def w_X1_heightOf (cI cB cZ : ClassId) : va_W := []
set_option maxHeartbeats 4000000 in
set_option maxRecDepth 100000 in
theorem b_X1_heightOf {p : Program} {l : Launch} {e : Env} {R : Room} {s : State} {m : MethodId} {args : Array Value} {below : List Frame} {meth : Method} {c : Code} {Q : State → Prop} {D : va_G} {cI cB cZ : ClassId} (hx : p.tables.exec = Jvm.exec) (hb : c.code = cX1_heightOf) (hml : c.maxLocals = 1) (hown : s.vm.findClass RX1 = some m.cls) (hT : ∀ w ∈ TB, w.before args s = true) (hRf : (0) ≤ R.frames) (hRl : (0) ≤ R.locals) (hK : va_K D vwCl (tyL cI cB cZ) s) (hN : NW s)  (x0 : Int32) (res : Int32) (hf : f_X1_heightOf x0 = some res) (hP : va_P D vwCl (w_X1_heightOf cI cB cZ ) s.heap) (hQ : ∀ (pc : Nat) (ls : Array Slot), True → decode cX1_heightOf pc = .ok (.ireturn, 1) → W p l e R s m args below meth c s.heap [] 0 0 Q (F0 m pc ls [.int res])) (ls : Array Slot) (hl : lv_has ls 1 [(0, .int x0)]) : W p l e R s m args below meth c s.heap [] 0 0 Q (F0 m 0 ls []) := by
  unfold f_X1_heightOf at hf
  refine lv_iload_n hx hb dX1_heightOf_0 rfl (lv_at hl 0 rfl) ?_
  refine lv_bipush (v := 6) hx hb dX1_heightOf_1 (by decide) ?_
  refine lv_ishr hx hb dX1_heightOf_3 ?_
  refine lv_bipush (v := 15) hx hb dX1_heightOf_4 (by decide) ?_
  refine lv_iand hx hb dX1_heightOf_6 ?_
  obtain rfl := Option.some.inj hf
  exact hQ 7 ls trivial dX1_heightOf_7
theorem hd_X1_heightOf : (yX1_heightOf).cls ≠ "java/lang/invoke/MethodHandle" ∧ (yX1_heightOf).cls ≠ "java/lang/invoke/VarHandle" ∧ (parseMethodDescriptor (yX1_heightOf).desc).map (fun d => d.parameters.length) = some 1 := by decide +kernel
theorem c_X1_heightOf (l : Launch) (D : va_G) (cI cB cZ : ClassId) (x0 : Int32) (res : Int32) (hf : f_X1_heightOf x0 = some res) : Met l yX1_heightOf (.code yX1_heightOf cX1_heightOf 1 (some .int) :: TB) (rmk (0) (0)) (pRO [.int x0] D cI cB cZ (w_X1_heightOf cI cB cZ )) (qRO (some (.int res)) True) 0 0 (fun _ => False) :=
  mkRO (by decide +kernel) (Nat.le_of_ble_eq_true rfl) (fun p e s m below meth c ls S hr hlk hK hP hl => b_X1_heightOf S.1 S.2.1 S.2.2.1 S.2.2.2.1 S.2.2.2.2 (Nat.le_refl _) (Nat.le_refl _) hK.1 hK.2 x0 res hf hP (fun pc ls hE hd => eRO_i S.1 S.2.1 hr rfl hlk hE hd) ls hl)
def f_X1_childOf (x0 : Int32) : Option (Int32) := some ((x0 >>> (10 &&& 31)) &&& 1)
def w_X1_childOf (cI cB cZ : ClassId) : va_W := []
set_option maxHeartbeats 4000000 in
set_option maxRecDepth 100000 in
theorem b_X1_childOf {p : Program} {l : Launch} {e : Env} {R : Room} {s : State} {m : MethodId} {args : Array Value} {below : List Frame} {meth : Method} {c : Code} {Q : State → Prop} {D : va_G} {cI cB cZ : ClassId} (hx : p.tables.exec = Jvm.exec) (hb : c.code = cX1_childOf) (hml : c.maxLocals = 1) (hown : s.vm.findClass RX1 = some m.cls) (hT : ∀ w ∈ TB, w.before args s = true) (hRf : (0) ≤ R.frames) (hRl : (0) ≤ R.locals) (hK : va_K D vwCl (tyL cI cB cZ) s) (hN : NW s)  (x0 : Int32) (res : Int32) (hf : f_X1_childOf x0 = some res) (hP : va_P D vwCl (w_X1_childOf cI cB cZ ) s.heap) (hQ : ∀ (pc : Nat) (ls : Array Slot), True → decode cX1_childOf pc = .ok (.ireturn, 1) → W p l e R s m args below meth c s.heap [] 0 0 Q (F0 m pc ls [.int res])) (ls : Array Slot) (hl : lv_has ls 1 [(0, .int x0)]) : W p l e R s m args below meth c s.heap [] 0 0 Q (F0 m 0 ls []) := by
  unfold f_X1_childOf at hf
  refine lv_iload_n hx hb dX1_childOf_0 rfl (lv_at hl 0 rfl) ?_
  refine lv_bipush (v := 10) hx hb dX1_childOf_1 (by decide) ?_
  refine lv_ishr hx hb dX1_childOf_3 ?_
  refine lv_iconst (v := 1) hx hb dX1_childOf_4 (by decide) ?_
  refine lv_iand hx hb dX1_childOf_5 ?_
  obtain rfl := Option.some.inj hf
  exact hQ 6 ls trivial dX1_childOf_6
theorem hd_X1_childOf : (yX1_childOf).cls ≠ "java/lang/invoke/MethodHandle" ∧ (yX1_childOf).cls ≠ "java/lang/invoke/VarHandle" ∧ (parseMethodDescriptor (yX1_childOf).desc).map (fun d => d.parameters.length) = some 1 := by decide +kernel
theorem c_X1_childOf (l : Launch) (D : va_G) (cI cB cZ : ClassId) (x0 : Int32) (res : Int32) (hf : f_X1_childOf x0 = some res) : Met l yX1_childOf (.code yX1_childOf cX1_childOf 1 (some .int) :: TB) (rmk (0) (0)) (pRO [.int x0] D cI cB cZ (w_X1_childOf cI cB cZ )) (qRO (some (.int res)) True) 0 0 (fun _ => False) :=
  mkRO (by decide +kernel) (Nat.le_of_ble_eq_true rfl) (fun p e s m below meth c ls S hr hlk hK hP hl => b_X1_childOf S.1 S.2.1 S.2.2.1 S.2.2.2.1 S.2.2.2.2 (Nat.le_refl _) (Nat.le_refl _) hK.1 hK.2 x0 res hf hP (fun pc ls hE hd => eRO_i S.1 S.2.1 hr rfl hlk hE hd) ls hl)
def f_X1_singerOf (x0 : Int32) : Option (Int32) := some ((x0 >>> (11 &&& 31)) &&& 1)
def w_X1_singerOf (cI cB cZ : ClassId) : va_W := []
set_option maxHeartbeats 4000000 in
set_option maxRecDepth 100000 in
theorem b_X1_singerOf {p : Program} {l : Launch} {e : Env} {R : Room} {s : State} {m : MethodId} {args : Array Value} {below : List Frame} {meth : Method} {c : Code} {Q : State → Prop} {D : va_G} {cI cB cZ : ClassId} (hx : p.tables.exec = Jvm.exec) (hb : c.code = cX1_singerOf) (hml : c.maxLocals = 1) (hown : s.vm.findClass RX1 = some m.cls) (hT : ∀ w ∈ TB, w.before args s = true) (hRf : (0) ≤ R.frames) (hRl : (0) ≤ R.locals) (hK : va_K D vwCl (tyL cI cB cZ) s) (hN : NW s)  (x0 : Int32) (res : Int32) (hf : f_X1_singerOf x0 = some res) (hP : va_P D vwCl (w_X1_singerOf cI cB cZ ) s.heap) (hQ : ∀ (pc : Nat) (ls : Array Slot), True → decode cX1_singerOf pc = .ok (.ireturn, 1) → W p l e R s m args below meth c s.heap [] 0 0 Q (F0 m pc ls [.int res])) (ls : Array Slot) (hl : lv_has ls 1 [(0, .int x0)]) : W p l e R s m args below meth c s.heap [] 0 0 Q (F0 m 0 ls []) := by
  unfold f_X1_singerOf at hf
  refine lv_iload_n hx hb dX1_singerOf_0 rfl (lv_at hl 0 rfl) ?_
  refine lv_bipush (v := 11) hx hb dX1_singerOf_1 (by decide) ?_
  refine lv_ishr hx hb dX1_singerOf_3 ?_
  refine lv_iconst (v := 1) hx hb dX1_singerOf_4 (by decide) ?_
  refine lv_iand hx hb dX1_singerOf_5 ?_
  obtain rfl := Option.some.inj hf
  exact hQ 6 ls trivial dX1_singerOf_6
theorem hd_X1_singerOf : (yX1_singerOf).cls ≠ "java/lang/invoke/MethodHandle" ∧ (yX1_singerOf).cls ≠ "java/lang/invoke/VarHandle" ∧ (parseMethodDescriptor (yX1_singerOf).desc).map (fun d => d.parameters.length) = some 1 := by decide +kernel
theorem c_X1_singerOf (l : Launch) (D : va_G) (cI cB cZ : ClassId) (x0 : Int32) (res : Int32) (hf : f_X1_singerOf x0 = some res) : Met l yX1_singerOf (.code yX1_singerOf cX1_singerOf 1 (some .int) :: TB) (rmk (0) (0)) (pRO [.int x0] D cI cB cZ (w_X1_singerOf cI cB cZ )) (qRO (some (.int res)) True) 0 0 (fun _ => False) :=
  mkRO (by decide +kernel) (Nat.le_of_ble_eq_true rfl) (fun p e s m below meth c ls S hr hlk hK hP hl => b_X1_singerOf S.1 S.2.1 S.2.2.1 S.2.2.2.1 S.2.2.2.2 (Nat.le_refl _) (Nat.le_refl _) hK.1 hK.2 x0 res hf hP (fun pc ls hE hd => eRO_i S.1 S.2.1 hr rfl hlk hE hd) ls hl)
