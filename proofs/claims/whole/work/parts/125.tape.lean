def f_X8_hasRoomForFive (t_length : Int32) : Option (Int32) := (if 260 < (t_length + 20) then some (0) else some (1))
def w_X8_hasRoomForFive (cI cB cZ : ClassId) (a_t : Nat) (a_t_bytes : Nat) (t_length : Int32) : va_W := [(a_t, .inr (7, [.ref a_t_bytes, .int t_length]))]
set_option maxHeartbeats 4000000 in
set_option maxRecDepth 100000 in
theorem b_X8_hasRoomForFive {p : Program} {l : Launch} {e : Env} {R : Room} {s : State} {m : MethodId} {args : Array Value} {below : List Frame} {meth : Method} {c : Code} {Q : State → Prop} {D : va_G} {cI cB cZ : ClassId} (hx : p.tables.exec = Jvm.exec) (hb : c.code = cX8_hasRoomForFive) (hml : c.maxLocals = 1) (hown : s.vm.findClass RX8 = some m.cls) (hT : ∀ w ∈ TB, w.before args s = true) (hRf : (0) ≤ R.frames) (hRl : (0) ≤ R.locals) (hK : va_K D vwCl (tyL cI cB cZ) s) (hN : NW s)  (a_t : Nat) (a_t_bytes : Nat) (t_length : Int32) (res : Int32) (hf : f_X8_hasRoomForFive t_length = some res) (hP : va_P D vwCl (w_X8_hasRoomForFive cI cB cZ a_t a_t_bytes t_length) s.heap) (hQ : ∀ (pc : Nat) (ls : Array Slot), (res = 0 ∨ res = 1) → decode cX8_hasRoomForFive pc = .ok (.ireturn, 1) → W p l e R s m args below meth c s.heap [] 0 0 Q (F0 m pc ls [.int res])) (ls : Array Slot) (hl : lv_has ls 1 [(0, .ref a_t)]) : W p l e R s m args below meth c s.heap [] 0 0 Q (F0 m 0 ls []) := by
  unfold f_X8_hasRoomForFive at hf
  refine lv_aload_n hx hb dX8_hasRoomForFive_0 rfl (lv_at hl 0 rfl) ?_
  refine va_get (D := D) (ci := 7) (v := .int t_length) (C := RX8) (T := TX8) (N := 2) hx hb hT inX8 hown hK hP 0 rfl rfl 1 (by decide) (hT _ tb_123) (fun _ h9 => h9) rfl dX8_hasRoomForFive_1 ?_
  refine lv_bipush (v := 20) hx hb dX8_hasRoomForFive_4 (by decide) ?_
  refine lv_iadd hx hb dX8_hasRoomForFive_6 ?_
  refine lv_sipush (v := 260) hx hb dX8_hasRoomForFive_7 (by decide) ?_
  refine lv_icmp_gt (tgt := 17) hx hb dX8_hasRoomForFive_10 (by decide) (fun hc_10 => ?_) (fun hc_10 => ?_)
  · have hf := it_pos hc_10 hf
    refine lv_iconst (v := 0) hx hb dX8_hasRoomForFive_17 (by decide) ?_
    obtain rfl := Option.some.inj hf
    exact hQ 18 ls (Or.inl rfl) dX8_hasRoomForFive_18
  · have hf := it_neg hc_10 hf
    refine lv_iconst (v := 1) hx hb dX8_hasRoomForFive_13 (by decide) ?_
    refine lv_goto (tgt := 18) hx hb dX8_hasRoomForFive_14 (by decide) ?_
    obtain rfl := Option.some.inj hf
    exact hQ 18 ls (Or.inr rfl) dX8_hasRoomForFive_18
theorem hd_X8_hasRoomForFive : (yX8_hasRoomForFive).cls = RX8 ∧ (yX8_hasRoomForFive).cls ≠ "java/lang/invoke/MethodHandle" ∧ (yX8_hasRoomForFive).cls ≠ "java/lang/invoke/VarHandle" ∧ (parseMethodDescriptor (yX8_hasRoomForFive).desc).map (fun d => d.parameters.length) = some 0 := by decide +kernel
theorem c_X8_hasRoomForFive (l : Launch) (D : va_G) (cI cB cZ : ClassId) (a_t : Nat) (a_t_bytes : Nat) (t_length : Int32) (res : Int32) (hf : f_X8_hasRoomForFive t_length = some res) : Met l yX8_hasRoomForFive (.code yX8_hasRoomForFive cX8_hasRoomForFive 1 (some .boolean) :: TB) (rmk (0) (0)) (pRO [.ref a_t] D cI cB cZ (w_X8_hasRoomForFive cI cB cZ a_t a_t_bytes t_length)) (qRO (some (.int res)) (res = 0 ∨ res = 1)) 0 0 (fun _ => False) :=
  mkRO (by decide +kernel) (Nat.le_of_ble_eq_true rfl) (fun p e s m below meth c ls S hr hlk hK hP hl => b_X8_hasRoomForFive S.1 S.2.1 S.2.2.1 S.2.2.2.1 S.2.2.2.2 (Nat.le_refl _) (Nat.le_refl _) hK.1 hK.2 a_t a_t_bytes t_length res hf hP (fun pc ls hE hd => eRO_i S.1 S.2.1 hr (nz_ok hE) hlk hE hd) ls hl)
def f_X8_append_3 : Nat → Int32 → Int32 → Int32 → (Nat → Int32) → Option (Int32 × (Nat → Int32))
  | 0, _, _, _, _ => none
  | n + 1, x1, x2, t_length, t_bytes => (if x2 < 0 then some (t_length, t_bytes) else (if 260 ≤ t_length then some (t_length, t_bytes) else ix 260 t_length ((f_X8_append_3 n) x1 (x2 + (-8)) (t_length + 1) (upd t_bytes t_length.toNatClampNeg ((jushr x1 x2) &&& 255)))))
def f_X8_append (t_length : Int32) (t_bytes : (Nat → Int32)) (x1 : Int32) : Option (Int32 × (Nat → Int32)) := f_X8_append_3 FU x1 24 t_length t_bytes
def w_X8_append (cI cB cZ : ClassId) (a_t : Nat) (a_t_bytes : Nat) (t_length : Int32) (t_bytes : (Nat → Int32)) : va_W := [(a_t, .inr (7, [.ref a_t_bytes, .int t_length])), (a_t_bytes, .inl (cI, 260, .inl t_bytes))]
set_option maxHeartbeats 4000000 in
set_option maxRecDepth 100000 in
theorem b_X8_append {p : Program} {l : Launch} {e : Env} {R : Room} {s : State} {m : MethodId} {args : Array Value} {below : List Frame} {meth : Method} {c : Code} {Q : State → Prop} {D : va_G} {cI cB cZ : ClassId} (hx : p.tables.exec = Jvm.exec) (hb : c.code = cX8_append) (hml : c.maxLocals = 3) (hown : s.vm.findClass RX8 = some m.cls) (hT : ∀ w ∈ TB, w.before args s = true) (hRf : (0) ≤ R.frames) (hRl : (0) ≤ R.locals) (hK : va_K D vwCl (tyL cI cB cZ) s) (hN : NW s) {A : Nat → Prop} (hA : ∀ q : Nat, s.heap.size ≤ q → A q) (H : Heap) (locs : List Loc)  (a_t : Nat) (a_t_bytes : Nat) (t_length : Int32) (t_bytes : (Nat → Int32)) (x1 : Int32) (res : Int32 × (Nat → Int32)) (hf : f_X8_append t_length t_bytes x1 = some res) (hP : va_P D vwCl (w_X8_append cI cB cZ a_t a_t_bytes t_length t_bytes) H) (hD : va_D A (w_X8_append cI cB cZ a_t a_t_bytes t_length t_bytes)) (hS : va_S A s.heap H locs) (hQ : ∀ (H : Heap) (locs : List Loc) (pc : Nat) (ls : Array Slot), va_P D vwCl (w_X8_append cI cB cZ a_t a_t_bytes res.1 res.2) H → va_D A (w_X8_append cI cB cZ a_t a_t_bytes res.1 res.2) → va_S A s.heap H locs → True → decode cX8_append pc = .ok (.return_, 1) → W p l e R s m args below meth c H locs 0 0 Q (F0 m pc ls [])) (ls : Array Slot) (hl : lv_has ls 3 [(0, .ref a_t), (1, .int x1)]) : W p l e R s m args below meth c H locs 0 0 Q (F0 m 0 ls []) := by
  unfold f_X8_append at hf
  refine lv_bipush (v := 24) hx hb dX8_append_0 (by decide) ?_
  have J_3 : ∀ (n_3 : Nat) (x1 : Int32) (x2 : Int32) (t_length : Int32) (t_bytes : (Nat → Int32)) (H : Heap) (locs : List Loc) (ls : Array Slot), f_X8_append_3 n_3 x1 x2 t_length t_bytes = some res → va_P D vwCl (w_X8_append cI cB cZ a_t a_t_bytes t_length t_bytes) H → va_D A (w_X8_append cI cB cZ a_t a_t_bytes t_length t_bytes) → va_S A s.heap H locs → lv_has ls 3 [(0, .ref a_t), (1, .int x1), (2, .int x2)] → W p l e R s m args below meth c H locs 0 0 Q (F0 m 3 ls []) := by
    intro n_3
    induction n_3 with
    | zero =>
      intro x1 x2 t_length t_bytes H locs ls hf hP hD hS hl
      cases hf
    | succ n_3 ih_3 =>
      intro x1 x2 t_length t_bytes H locs ls hf hP hD hS hl
      unfold f_X8_append_3 at hf
      refine lv_iload_n hx hb dX8_append_3 rfl (lv_at hl 2 rfl) ?_
      refine lv_if_lt (tgt := 49) hx hb dX8_append_4 (by decide) (fun hc_4 => ?_) (fun hc_4 => ?_)
      · have hf := it_pos hc_4 hf
        obtain rfl := Option.some.inj hf
        exact hQ H locs 49 ls hP hD hS trivial dX8_append_49
      · have hf := it_neg hc_4 hf
        refine lv_aload_n hx hb dX8_append_7 rfl (lv_at hl 0 rfl) ?_
        refine va_get (D := D) (ci := 7) (v := .int t_length) (C := RX8) (T := TX8) (N := 2) hx hb hT inX8 hown hK hP 0 rfl rfl 1 (by decide) (hT _ tb_123) (fun _ h9 => h9) rfl dX8_append_8 ?_
        refine lv_sipush (v := 260) hx hb dX8_append_11 (by decide) ?_
        refine lv_icmp_ge (tgt := 49) hx hb dX8_append_14 (by decide) (fun hc_14 => ?_) (fun hc_14 => ?_)
        · have hf := it_pos hc_14 hf
          obtain rfl := Option.some.inj hf
          exact hQ H locs 49 ls hP hD hS trivial dX8_append_49
        · have hf := it_neg hc_14 hf
          refine lv_aload_n hx hb dX8_append_17 rfl (lv_at hl 0 rfl) ?_
          refine va_get (D := D) (ci := 7) (v := .ref a_t_bytes) (C := RX8) (T := TX8) (N := 2) hx hb hT inX8 hown hK hP 0 rfl rfl 0 (by decide) (hT _ tb_121) (fun _ h9 => h9) rfl dX8_append_18 ?_
          refine lv_aload_n hx hb dX8_append_21 rfl (lv_at hl 0 rfl) ?_
          refine va_get (D := D) (ci := 7) (v := .int t_length) (C := RX8) (T := TX8) (N := 2) hx hb hT inX8 hown hK hP 0 rfl rfl 1 (by decide) (hT _ tb_123) (fun _ h9 => h9) rfl dX8_append_22 ?_
          refine lv_iload_n hx hb dX8_append_25 rfl (lv_at hl 1 rfl) ?_
          refine lv_iload_n hx hb dX8_append_26 rfl (lv_at hl 2 rfl) ?_
          refine lv_iushr hx hb dX8_append_27 rfl ?_
          refine lv_sipush (v := 255) hx hb dX8_append_28 (by decide) ?_
          refine lv_iand hx hb dX8_append_31 ?_
          obtain ⟨hi_32, hf⟩ := ix_some hf
          refine va_iast hx hb hK hP hD hS 1 0 rfl rfl hi_32 dX8_append_32 (fun H locs hP hD hS => ?_)
          have hP : va_P D vwCl (w_X8_append cI cB cZ a_t a_t_bytes t_length (upd t_bytes t_length.toNatClampNeg ((jushr x1 x2) &&& 255))) H := hP
          have hD : va_D A (w_X8_append cI cB cZ a_t a_t_bytes t_length (upd t_bytes t_length.toNatClampNeg ((jushr x1 x2) &&& 255))) := hD
          refine lv_aload_n hx hb dX8_append_33 rfl (lv_at hl 0 rfl) ?_
          refine lv_dup hx hb dX8_append_34 rfl ?_
          refine va_get (D := D) (ci := 7) (v := .int t_length) (C := RX8) (T := TX8) (N := 2) hx hb hT inX8 hown hK hP 0 rfl rfl 1 (by decide) (hT _ tb_123) (fun _ h9 => h9) rfl dX8_append_35 ?_
          refine lv_iconst (v := 1) hx hb dX8_append_38 (by decide) ?_
          refine lv_iadd hx hb dX8_append_39 ?_
          refine va_put (D := D) (ci := 7) (v := .int (t_length + 1)) (ty := (.int)) (C := RX8) (T := TX8) (N := 2) hx hb hT inX8 tyX8 tyX8_ok nmX8 hown hK hP hD hS 0 rfl rfl 1 (by decide) (hT _ tb_123) (fun _ h9 => h9) rfl (by decide +kernel) rfl rfl (Nat.le_of_ble_eq_true rfl) dX8_append_40 (fun H locs hP hD hS => ?_)
          have hP : va_P D vwCl (w_X8_append cI cB cZ a_t a_t_bytes (t_length + 1) (upd t_bytes t_length.toNatClampNeg ((jushr x1 x2) &&& 255))) H := hP
          have hD : va_D A (w_X8_append cI cB cZ a_t a_t_bytes (t_length + 1) (upd t_bytes t_length.toNatClampNeg ((jushr x1 x2) &&& 255))) := hD
          refine lv_iinc (v := x2 + (-8)) (lv' := [(2, .int (x2 + (-8))), (0, .ref a_t), (1, .int x1)]) hx hb dX8_append_43 hl (k := 2) rfl (congrArg (_ + ·) (by decide : Int32.ofInt (-8) = (-8))) (by decide) rfl (fun ls hl => ?_)
          refine lv_goto (tgt := 3) hx hb dX8_append_46 (by decide) ?_
          exact ih_3 _ _ _ _ _ _ _ hf hP hD hS (lv_sub hl [1, 2, 0] rfl)
  refine lv_istore_n (lv' := [(2, .int 24), (0, .ref a_t), (1, .int x1)]) hx hb dX8_append_2 rfl hl (by decide) rfl (fun ls hl => ?_)
  exact J_3 _ _ _ _ _ _ _ _ hf hP hD hS (lv_sub hl [1, 2, 0] rfl)
theorem hd_X8_append : (yX8_append).cls = RX8 ∧ (yX8_append).cls ≠ "java/lang/invoke/MethodHandle" ∧ (yX8_append).cls ≠ "java/lang/invoke/VarHandle" ∧ (parseMethodDescriptor (yX8_append).desc).map (fun d => d.parameters.length) = some 1 := by decide +kernel
theorem c_X8_append (l : Launch) (D : va_G) (cI cB cZ : ClassId) (a_t : Nat) (a_t_bytes : Nat) (t_length : Int32) (t_bytes : (Nat → Int32)) (x1 : Int32) (sz : Nat) (res : Int32 × (Nat → Int32)) (hf : f_X8_append t_length t_bytes x1 = some res) : Met l yX8_append (.code yX8_append cX8_append 3 none :: TB) (rmk (0) (0)) (pRW [.ref a_t, .int x1] D cI cB cZ (w_X8_append cI cB cZ a_t a_t_bytes t_length t_bytes) sz) (qRW none True D (w_X8_append cI cB cZ a_t a_t_bytes t_length t_bytes) sz (w_X8_append cI cB cZ a_t a_t_bytes res.1 res.2)) 0 0 (va_A (w_X8_append cI cB cZ a_t a_t_bytes t_length t_bytes) sz) :=
  mkRW (by decide +kernel) (Nat.le_of_ble_eq_true rfl) (fun p e s m below meth c ls A hAe S hr hlk hK hA hP hD hS hl => b_X8_append S.1 S.2.1 S.2.2.1 S.2.2.2.1 S.2.2.2.2 (Nat.le_refl _) (Nat.le_refl _) hK.1 hK.2 hA s.heap [] a_t a_t_bytes t_length t_bytes x1 res hf hP hD hS (fun H locs pc ls hP hD hS hE hd => eRW_v S.1 S.2.1 hr hlk hAe hP hD hS hE hd) ls hl)
def f_X8_holds (t_length : Int32) (x1 : Int32) (x2 : Int32) (x3 : Int32) : Option (Int32) := (f_X11_isWithin x1 x2 x3).bind (fun z3 => (if z3 = 0 then some (0) else (if t_length < x1 then some (0) else some (1))))
def w_X8_holds (cI cB cZ : ClassId) (a_t : Nat) (a_t_bytes : Nat) (t_length : Int32) : va_W := [(a_t, .inr (7, [.ref a_t_bytes, .int t_length]))]
set_option maxHeartbeats 4000000 in
set_option maxRecDepth 100000 in
theorem b_X8_holds {p : Program} {l : Launch} {e : Env} {R : Room} {s : State} {m : MethodId} {args : Array Value} {below : List Frame} {meth : Method} {c : Code} {Q : State → Prop} {D : va_G} {cI cB cZ : ClassId} (hx : p.tables.exec = Jvm.exec) (hb : c.code = cX8_holds) (hml : c.maxLocals = 4) (hown : s.vm.findClass RX8 = some m.cls) (hT : ∀ w ∈ TB, w.before args s = true) (hRf : (1) ≤ R.frames) (hRl : (22) ≤ R.locals) (hK : va_K D vwCl (tyL cI cB cZ) s) (hN : NW s)  (a_t : Nat) (a_t_bytes : Nat) (t_length : Int32) (x1 : Int32) (x2 : Int32) (x3 : Int32) (res : Int32) (hf : f_X8_holds t_length x1 x2 x3 = some res) (hP : va_P D vwCl (w_X8_holds cI cB cZ a_t a_t_bytes t_length) s.heap) (hQ : ∀ (pc : Nat) (ls : Array Slot), (res = 0 ∨ res = 1) → decode cX8_holds pc = .ok (.ireturn, 1) → W p l e R s m args below meth c s.heap [] 0 0 Q (F0 m pc ls [.int res])) (ls : Array Slot) (hl : lv_has ls 4 [(0, .ref a_t), (1, .int x1), (2, .int x2), (3, .int x3)]) : W p l e R s m args below meth c s.heap [] 0 0 Q (F0 m 0 ls []) := by
  unfold f_X8_holds at hf
  refine lv_iload_n hx hb dX8_holds_0 rfl (lv_at hl 1 rfl) ?_
  refine lv_iload_n hx hb dX8_holds_1 rfl (lv_at hl 2 rfl) ?_
  refine lv_iload_n hx hb dX8_holds_2 rfl (lv_at hl 3 rfl) ?_
  obtain ⟨z3, e3, hf⟩ := bd_some hf
  refine rSN_RO (As := [.int x1, .int x2, .int x3]) (rest := []) ⟨hx, hb, hml, hown, hT⟩ (hN _ (List.mem_of_getElem? (i := 0) rfl)) tb_393 tb_85 tb_394 hd_X11_isWithin (c_X11_isWithin l D cI cB cZ x1 x2 x3 z3 e3) ⟨rfl, rfl⟩ ⟨Nat.le_trans (by decide) hRf, Nat.le_trans (by decide) hRl⟩ ⟨hK, hN⟩ hP [] rfl rfl hl.1 rfl (Nat.le_of_ble_eq_true rfl) ⟨Nat.zero_le _, Nat.zero_le _⟩ dX8_holds_3 (fun hz_3 => ?_)
  refine lv_if_eq (tgt := 21) hx hb dX8_holds_6 (by decide) (fun hc_6 => ?_) (fun hc_6 => ?_)
  · have hf := it_pos hc_6 hf
    refine lv_iconst (v := 0) hx hb dX8_holds_21 (by decide) ?_
    obtain rfl := Option.some.inj hf
    exact hQ 22 ls (Or.inl rfl) dX8_holds_22
  · have hf := it_neg hc_6 hf
    refine lv_iload_n hx hb dX8_holds_9 rfl (lv_at hl 1 rfl) ?_
    refine lv_aload_n hx hb dX8_holds_10 rfl (lv_at hl 0 rfl) ?_
    refine va_get (D := D) (ci := 7) (v := .int t_length) (C := RX8) (T := TX8) (N := 2) hx hb hT inX8 hown hK hP 0 rfl rfl 1 (by decide) (hT _ tb_123) (fun _ h9 => h9) rfl dX8_holds_11 ?_
    refine lv_icmp_gt (tgt := 21) hx hb dX8_holds_14 (by decide) (fun hc_14 => ?_) (fun hc_14 => ?_)
    · have hf := it_pos hc_14 hf
      refine lv_iconst (v := 0) hx hb dX8_holds_21 (by decide) ?_
      obtain rfl := Option.some.inj hf
      exact hQ 22 ls (Or.inl rfl) dX8_holds_22
    · have hf := it_neg hc_14 hf
      refine lv_iconst (v := 1) hx hb dX8_holds_17 (by decide) ?_
      refine lv_goto (tgt := 22) hx hb dX8_holds_18 (by decide) ?_
      obtain rfl := Option.some.inj hf
      exact hQ 22 ls (Or.inr rfl) dX8_holds_22
theorem hd_X8_holds : (yX8_holds).cls = RX8 ∧ (yX8_holds).cls ≠ "java/lang/invoke/MethodHandle" ∧ (yX8_holds).cls ≠ "java/lang/invoke/VarHandle" ∧ (parseMethodDescriptor (yX8_holds).desc).map (fun d => d.parameters.length) = some 3 := by decide +kernel
theorem c_X8_holds (l : Launch) (D : va_G) (cI cB cZ : ClassId) (a_t : Nat) (a_t_bytes : Nat) (t_length : Int32) (x1 : Int32) (x2 : Int32) (x3 : Int32) (res : Int32) (hf : f_X8_holds t_length x1 x2 x3 = some res) : Met l yX8_holds (.code yX8_holds cX8_holds 4 (some .boolean) :: TB) (rmk (1) (22)) (pRO [.ref a_t, .int x1, .int x2, .int x3] D cI cB cZ (w_X8_holds cI cB cZ a_t a_t_bytes t_length)) (qRO (some (.int res)) (res = 0 ∨ res = 1)) 0 0 (fun _ => False) :=
  mkRO (by decide +kernel) (Nat.le_of_ble_eq_true rfl) (fun p e s m below meth c ls S hr hlk hK hP hl => b_X8_holds S.1 S.2.1 S.2.2.1 S.2.2.2.1 S.2.2.2.2 (Nat.le_refl _) (Nat.le_refl _) hK.1 hK.2 a_t a_t_bytes t_length x1 x2 x3 res hf hP (fun pc ls hE hd => eRO_i S.1 S.2.1 hr (nz_ok hE) hlk hE hd) ls hl)
def f_X8_byteAt (t_length : Int32) (t_bytes : (Nat → Int32)) (x1 : Int32) : Option (Int32) := (if x1 < 0 then some (0) else (if t_length ≤ x1 then some (0) else ix 260 x1 (some (t_bytes x1.toNatClampNeg))))
def w_X8_byteAt (cI cB cZ : ClassId) (a_t : Nat) (a_t_bytes : Nat) (t_length : Int32) (t_bytes : (Nat → Int32)) : va_W := [(a_t, .inr (7, [.ref a_t_bytes, .int t_length])), (a_t_bytes, .inl (cI, 260, .inl t_bytes))]
set_option maxHeartbeats 4000000 in
set_option maxRecDepth 100000 in
theorem b_X8_byteAt {p : Program} {l : Launch} {e : Env} {R : Room} {s : State} {m : MethodId} {args : Array Value} {below : List Frame} {meth : Method} {c : Code} {Q : State → Prop} {D : va_G} {cI cB cZ : ClassId} (hx : p.tables.exec = Jvm.exec) (hb : c.code = cX8_byteAt) (hml : c.maxLocals = 2) (hown : s.vm.findClass RX8 = some m.cls) (hT : ∀ w ∈ TB, w.before args s = true) (hRf : (0) ≤ R.frames) (hRl : (0) ≤ R.locals) (hK : va_K D vwCl (tyL cI cB cZ) s) (hN : NW s)  (a_t : Nat) (a_t_bytes : Nat) (t_length : Int32) (t_bytes : (Nat → Int32)) (x1 : Int32) (res : Int32) (hf : f_X8_byteAt t_length t_bytes x1 = some res) (hP : va_P D vwCl (w_X8_byteAt cI cB cZ a_t a_t_bytes t_length t_bytes) s.heap) (hQ : ∀ (pc : Nat) (ls : Array Slot), True → decode cX8_byteAt pc = .ok (.ireturn, 1) → W p l e R s m args below meth c s.heap [] 0 0 Q (F0 m pc ls [.int res])) (ls : Array Slot) (hl : lv_has ls 2 [(0, .ref a_t), (1, .int x1)]) : W p l e R s m args below meth c s.heap [] 0 0 Q (F0 m 0 ls []) := by
  unfold f_X8_byteAt at hf
  refine lv_iload_n hx hb dX8_byteAt_0 rfl (lv_at hl 1 rfl) ?_
  refine lv_if_lt (tgt := 21) hx hb dX8_byteAt_1 (by decide) (fun hc_1 => ?_) (fun hc_1 => ?_)
  · have hf := it_pos hc_1 hf
    refine lv_iconst (v := 0) hx hb dX8_byteAt_21 (by decide) ?_
    obtain rfl := Option.some.inj hf
    exact hQ 22 ls trivial dX8_byteAt_22
  · have hf := it_neg hc_1 hf
    refine lv_iload_n hx hb dX8_byteAt_4 rfl (lv_at hl 1 rfl) ?_
    refine lv_aload_n hx hb dX8_byteAt_5 rfl (lv_at hl 0 rfl) ?_
    refine va_get (D := D) (ci := 7) (v := .int t_length) (C := RX8) (T := TX8) (N := 2) hx hb hT inX8 hown hK hP 0 rfl rfl 1 (by decide) (hT _ tb_123) (fun _ h9 => h9) rfl dX8_byteAt_6 ?_
    refine lv_icmp_ge (tgt := 21) hx hb dX8_byteAt_9 (by decide) (fun hc_9 => ?_) (fun hc_9 => ?_)
    · have hf := it_pos hc_9 hf
      refine lv_iconst (v := 0) hx hb dX8_byteAt_21 (by decide) ?_
      obtain rfl := Option.some.inj hf
      exact hQ 22 ls trivial dX8_byteAt_22
    · have hf := it_neg hc_9 hf
      refine lv_aload_n hx hb dX8_byteAt_12 rfl (lv_at hl 0 rfl) ?_
      refine va_get (D := D) (ci := 7) (v := .ref a_t_bytes) (C := RX8) (T := TX8) (N := 2) hx hb hT inX8 hown hK hP 0 rfl rfl 0 (by decide) (hT _ tb_121) (fun _ h9 => h9) rfl dX8_byteAt_13 ?_
      refine lv_iload_n hx hb dX8_byteAt_16 rfl (lv_at hl 1 rfl) ?_
      obtain ⟨hi_17, hf⟩ := ix_some hf
      refine va_iald hx hb hK hP 1 0 rfl rfl hi_17 dX8_byteAt_17 ?_
      refine lv_goto (tgt := 22) hx hb dX8_byteAt_18 (by decide) ?_
      obtain rfl := Option.some.inj hf
      exact hQ 22 ls trivial dX8_byteAt_22
theorem hd_X8_byteAt : (yX8_byteAt).cls = RX8 ∧ (yX8_byteAt).cls ≠ "java/lang/invoke/MethodHandle" ∧ (yX8_byteAt).cls ≠ "java/lang/invoke/VarHandle" ∧ (parseMethodDescriptor (yX8_byteAt).desc).map (fun d => d.parameters.length) = some 1 := by decide +kernel
theorem c_X8_byteAt (l : Launch) (D : va_G) (cI cB cZ : ClassId) (a_t : Nat) (a_t_bytes : Nat) (t_length : Int32) (t_bytes : (Nat → Int32)) (x1 : Int32) (res : Int32) (hf : f_X8_byteAt t_length t_bytes x1 = some res) : Met l yX8_byteAt (.code yX8_byteAt cX8_byteAt 2 (some .int) :: TB) (rmk (0) (0)) (pRO [.ref a_t, .int x1] D cI cB cZ (w_X8_byteAt cI cB cZ a_t a_t_bytes t_length t_bytes)) (qRO (some (.int res)) True) 0 0 (fun _ => False) :=
  mkRO (by decide +kernel) (Nat.le_of_ble_eq_true rfl) (fun p e s m below meth c ls S hr hlk hK hP hl => b_X8_byteAt S.1 S.2.1 S.2.2.1 S.2.2.2.1 S.2.2.2.2 (Nat.le_refl _) (Nat.le_refl _) hK.1 hK.2 a_t a_t_bytes t_length t_bytes x1 res hf hP (fun pc ls hE hd => eRO_i S.1 S.2.1 hr rfl hlk hE hd) ls hl)
def f_X8_clear (t_length : Int32) : Option (Int32) := some (0)
def w_X8_clear (cI cB cZ : ClassId) (a_t : Nat) (a_t_bytes : Nat) (t_length : Int32) : va_W := [(a_t, .inr (7, [.ref a_t_bytes, .int t_length]))]
set_option maxHeartbeats 4000000 in
set_option maxRecDepth 100000 in
theorem b_X8_clear {p : Program} {l : Launch} {e : Env} {R : Room} {s : State} {m : MethodId} {args : Array Value} {below : List Frame} {meth : Method} {c : Code} {Q : State → Prop} {D : va_G} {cI cB cZ : ClassId} (hx : p.tables.exec = Jvm.exec) (hb : c.code = cX8_clear) (hml : c.maxLocals = 1) (hown : s.vm.findClass RX8 = some m.cls) (hT : ∀ w ∈ TB, w.before args s = true) (hRf : (0) ≤ R.frames) (hRl : (0) ≤ R.locals) (hK : va_K D vwCl (tyL cI cB cZ) s) (hN : NW s) {A : Nat → Prop} (hA : ∀ q : Nat, s.heap.size ≤ q → A q) (H : Heap) (locs : List Loc)  (a_t : Nat) (a_t_bytes : Nat) (t_length : Int32) (res : Int32) (hf : f_X8_clear t_length = some res) (hP : va_P D vwCl (w_X8_clear cI cB cZ a_t a_t_bytes t_length) H) (hD : va_D A (w_X8_clear cI cB cZ a_t a_t_bytes t_length)) (hS : va_S A s.heap H locs) (hQ : ∀ (H : Heap) (locs : List Loc) (pc : Nat) (ls : Array Slot), va_P D vwCl (w_X8_clear cI cB cZ a_t a_t_bytes res) H → va_D A (w_X8_clear cI cB cZ a_t a_t_bytes res) → va_S A s.heap H locs → True → decode cX8_clear pc = .ok (.return_, 1) → W p l e R s m args below meth c H locs 0 0 Q (F0 m pc ls [])) (ls : Array Slot) (hl : lv_has ls 1 [(0, .ref a_t)]) : W p l e R s m args below meth c H locs 0 0 Q (F0 m 0 ls []) := by
  unfold f_X8_clear at hf
  refine lv_aload_n hx hb dX8_clear_0 rfl (lv_at hl 0 rfl) ?_
  refine lv_iconst (v := 0) hx hb dX8_clear_1 (by decide) ?_
  refine va_put (D := D) (ci := 7) (v := .int 0) (ty := (.int)) (C := RX8) (T := TX8) (N := 2) hx hb hT inX8 tyX8 tyX8_ok nmX8 hown hK hP hD hS 0 rfl rfl 1 (by decide) (hT _ tb_123) (fun _ h9 => h9) rfl (by decide +kernel) rfl rfl (Nat.le_of_ble_eq_true rfl) dX8_clear_2 (fun H locs hP hD hS => ?_)
  have hP : va_P D vwCl (w_X8_clear cI cB cZ a_t a_t_bytes 0) H := hP
  have hD : va_D A (w_X8_clear cI cB cZ a_t a_t_bytes 0) := hD
  obtain rfl := Option.some.inj hf
  exact hQ H locs 5 ls hP hD hS trivial dX8_clear_5
theorem hd_X8_clear : (yX8_clear).cls = RX8 ∧ (yX8_clear).cls ≠ "java/lang/invoke/MethodHandle" ∧ (yX8_clear).cls ≠ "java/lang/invoke/VarHandle" ∧ (parseMethodDescriptor (yX8_clear).desc).map (fun d => d.parameters.length) = some 0 := by decide +kernel
theorem c_X8_clear (l : Launch) (D : va_G) (cI cB cZ : ClassId) (a_t : Nat) (a_t_bytes : Nat) (t_length : Int32) (sz : Nat) (res : Int32) (hf : f_X8_clear t_length = some res) : Met l yX8_clear (.code yX8_clear cX8_clear 1 none :: TB) (rmk (0) (0)) (pRW [.ref a_t] D cI cB cZ (w_X8_clear cI cB cZ a_t a_t_bytes t_length) sz) (qRW none True D (w_X8_clear cI cB cZ a_t a_t_bytes t_length) sz (w_X8_clear cI cB cZ a_t a_t_bytes res)) 0 0 (va_A (w_X8_clear cI cB cZ a_t a_t_bytes t_length) sz) :=
  mkRW (by decide +kernel) (Nat.le_of_ble_eq_true rfl) (fun p e s m below meth c ls A hAe S hr hlk hK hA hP hD hS hl => b_X8_clear S.1 S.2.1 S.2.2.1 S.2.2.2.1 S.2.2.2.2 (Nat.le_refl _) (Nat.le_refl _) hK.1 hK.2 hA s.heap [] a_t a_t_bytes t_length res hf hP hD hS (fun H locs pc ls hP hD hS hE hd => eRW_v S.1 S.2.1 hr hlk hAe hP hD hS hE hd) ls hl)
