def f_X7_fillSums_29 (t_tape_length : Int32) (t_tape_bytes : (Nat → Int32)) (k7 : Int32 → Int32 → Int32 → (Nat → Int32) → Option ((Nat → Int32))) : Nat → Int32 → Int32 → Int32 → Int32 → Int32 → (Nat → Int32) → Option ((Nat → Int32))
  | 0, _, _, _, _, _, _ => none
  | n + 1, x1, x2, x4, x5, x6, p3 => (if x5 ≤ x6 then k7 x1 x2 (x4 + 1) p3 else ix 64 x6 ((f_X8_byteAt t_tape_length t_tape_bytes (x1 + x4)).bind (fun z54 => ix 64 (x5 + x6) ((f_X7_fillSums_29 t_tape_length t_tape_bytes k7 n) x1 x2 x4 x5 (x6 + 1) (upd p3 (x5 + x6).toNatClampNeg ((p3 x6.toNatClampNeg) + z54))))))
def f_X7_fillSums_7 (t_tape_length : Int32) (t_tape_bytes : (Nat → Int32)) : Nat → Int32 → Int32 → Int32 → (Nat → Int32) → Option ((Nat → Int32))
  | 0, _, _, _, _ => none
  | n + 1, x1, x2, x4, p3 => (if x2 ≤ x4 then some (p3) else (if 6 ≤ x4 then some (p3) else f_X7_fillSums_29 t_tape_length t_tape_bytes (f_X7_fillSums_7 t_tape_length t_tape_bytes n) FU x1 x2 x4 (1 <<< (x4 &&& 31)) 0 p3))
def f_X7_fillSums (t_tape_length : Int32) (t_tape_bytes : (Nat → Int32)) (p3 : (Nat → Int32)) (x1 : Int32) (x2 : Int32) : Option ((Nat → Int32)) := ix 64 0 (f_X7_fillSums_7 t_tape_length t_tape_bytes FU x1 x2 0 (upd p3 (0 : Int32).toNatClampNeg 0))
def w_X7_fillSums (cI cB cZ : ClassId) (a_t : Nat) (a_t_tape : Nat) (a_t_tape_bytes : Nat) (a_p3 : Nat) (a_t_lowSums : Nat) (a_t_highSums : Nat) (a_t_freeAt : Nat) (a_t_rising : Nat) (a_t_used : Nat) (t_tape_length : Int32) (t_tape_bytes : (Nat → Int32)) (p3 : (Nat → Int32)) : va_W := [(a_t, .inr (6, [.ref a_t_tape, .ref a_t_lowSums, .ref a_t_highSums, .ref a_t_freeAt, .ref a_t_rising, .ref a_t_used])), (a_t_tape, .inr (7, [.ref a_t_tape_bytes, .int t_tape_length])), (a_t_tape_bytes, .inl (cI, 260, .inl t_tape_bytes)), (a_p3, .inl (cI, 64, .inl p3))]
set_option maxHeartbeats 4000000 in
set_option maxRecDepth 100000 in
theorem b_X7_fillSums {p : Program} {l : Launch} {e : Env} {R : Room} {s : State} {m : MethodId} {args : Array Value} {below : List Frame} {meth : Method} {c : Code} {Q : State → Prop} {D : va_G} {cI cB cZ : ClassId} (hx : p.tables.exec = Jvm.exec) (hb : c.code = cX7_fillSums) (hml : c.maxLocals = 7) (hown : s.vm.findClass RX7 = some m.cls) (hT : ∀ w ∈ TB, w.before args s = true) (hRf : (1) ≤ R.frames) (hRl : (21) ≤ R.locals) (hK : va_K D vwCl (tyL cI cB cZ) s) (hN : NW s) {A : Nat → Prop} (hA : ∀ q : Nat, s.heap.size ≤ q → A q) (H : Heap) (locs : List Loc)  (a_t : Nat) (a_t_tape : Nat) (a_t_tape_bytes : Nat) (a_p3 : Nat) (a_t_lowSums : Nat) (a_t_highSums : Nat) (a_t_freeAt : Nat) (a_t_rising : Nat) (a_t_used : Nat) (t_tape_length : Int32) (t_tape_bytes : (Nat → Int32)) (p3 : (Nat → Int32)) (x1 : Int32) (x2 : Int32) (res : (Nat → Int32)) (hf : f_X7_fillSums t_tape_length t_tape_bytes p3 x1 x2 = some res) (hP : va_P D vwCl (w_X7_fillSums cI cB cZ a_t a_t_tape a_t_tape_bytes a_p3 a_t_lowSums a_t_highSums a_t_freeAt a_t_rising a_t_used t_tape_length t_tape_bytes p3) H) (hD : va_D A (w_X7_fillSums cI cB cZ a_t a_t_tape a_t_tape_bytes a_p3 a_t_lowSums a_t_highSums a_t_freeAt a_t_rising a_t_used t_tape_length t_tape_bytes p3)) (hS : va_S A s.heap H locs) (hQ : ∀ (H : Heap) (locs : List Loc) (pc : Nat) (ls : Array Slot), va_P D vwCl (w_X7_fillSums cI cB cZ a_t a_t_tape a_t_tape_bytes a_p3 a_t_lowSums a_t_highSums a_t_freeAt a_t_rising a_t_used t_tape_length t_tape_bytes res) H → va_D A (w_X7_fillSums cI cB cZ a_t a_t_tape a_t_tape_bytes a_p3 a_t_lowSums a_t_highSums a_t_freeAt a_t_rising a_t_used t_tape_length t_tape_bytes res) → va_S A s.heap H locs → True → decode cX7_fillSums pc = .ok (.return_, 1) → W p l e R s m args below meth c H locs 0 0 Q (F0 m pc ls [])) (ls : Array Slot) (hl : lv_has ls 7 [(0, .ref a_t), (1, .int x1), (2, .int x2), (3, .ref a_p3)]) : W p l e R s m args below meth c H locs 0 0 Q (F0 m 0 ls []) := by
  unfold f_X7_fillSums at hf
  refine lv_aload_n hx hb dX7_fillSums_0 rfl (lv_at hl 3 rfl) ?_
  refine lv_iconst (v := 0) hx hb dX7_fillSums_1 (by decide) ?_
  refine lv_iconst (v := 0) hx hb dX7_fillSums_2 (by decide) ?_
  obtain ⟨hi_3, hf⟩ := ix_some hf
  refine va_iast hx hb hK hP hD hS 3 0 rfl rfl hi_3 dX7_fillSums_3 (fun H locs hP hD hS => ?_)
  have hP : va_P D vwCl (w_X7_fillSums cI cB cZ a_t a_t_tape a_t_tape_bytes a_p3 a_t_lowSums a_t_highSums a_t_freeAt a_t_rising a_t_used t_tape_length t_tape_bytes (upd p3 (0 : Int32).toNatClampNeg 0)) H := hP
  have hD : va_D A (w_X7_fillSums cI cB cZ a_t a_t_tape a_t_tape_bytes a_p3 a_t_lowSums a_t_highSums a_t_freeAt a_t_rising a_t_used t_tape_length t_tape_bytes (upd p3 (0 : Int32).toNatClampNeg 0)) := hD
  refine lv_iconst (v := 0) hx hb dX7_fillSums_4 (by decide) ?_
  have J_7 : ∀ (n_7 : Nat) (x1 : Int32) (x2 : Int32) (x4 : Int32) (p3 : (Nat → Int32)) (H : Heap) (locs : List Loc) (ls : Array Slot), f_X7_fillSums_7 t_tape_length t_tape_bytes n_7 x1 x2 x4 p3 = some res → va_P D vwCl (w_X7_fillSums cI cB cZ a_t a_t_tape a_t_tape_bytes a_p3 a_t_lowSums a_t_highSums a_t_freeAt a_t_rising a_t_used t_tape_length t_tape_bytes p3) H → va_D A (w_X7_fillSums cI cB cZ a_t a_t_tape a_t_tape_bytes a_p3 a_t_lowSums a_t_highSums a_t_freeAt a_t_rising a_t_used t_tape_length t_tape_bytes p3) → va_S A s.heap H locs → lv_has ls 7 [(0, .ref a_t), (1, .int x1), (2, .int x2), (3, .ref a_p3), (4, .int x4)] → W p l e R s m args below meth c H locs 0 0 Q (F0 m 7 ls []) := by
    intro n_7
    induction n_7 with
    | zero =>
      intro x1 x2 x4 p3 H locs ls hf hP hD hS hl
      cases hf
    | succ n_7 ih_7 =>
      intro x1 x2 x4 p3 H locs ls hf hP hD hS hl
      unfold f_X7_fillSums_7 at hf
      refine lv_iload hx hb dX7_fillSums_7 (lv_at hl 4 rfl) ?_
      refine lv_iload_n hx hb dX7_fillSums_9 rfl (lv_at hl 2 rfl) ?_
      refine lv_icmp_ge (tgt := 71) hx hb dX7_fillSums_10 (by decide) (fun hc_10 => ?_) (fun hc_10 => ?_)
      · have hf := it_pos hc_10 hf
        obtain rfl := Option.some.inj hf
        exact hQ H locs 71 ls hP hD hS trivial dX7_fillSums_71
      · have hf := it_neg hc_10 hf
        refine lv_iload hx hb dX7_fillSums_13 (lv_at hl 4 rfl) ?_
        refine lv_bipush (v := 6) hx hb dX7_fillSums_15 (by decide) ?_
        refine lv_icmp_ge (tgt := 71) hx hb dX7_fillSums_17 (by decide) (fun hc_17 => ?_) (fun hc_17 => ?_)
        · have hf := it_pos hc_17 hf
          obtain rfl := Option.some.inj hf
          exact hQ H locs 71 ls hP hD hS trivial dX7_fillSums_71
        · have hf := it_neg hc_17 hf
          refine lv_iconst (v := 1) hx hb dX7_fillSums_20 (by decide) ?_
          refine lv_iload hx hb dX7_fillSums_21 (lv_at hl 4 rfl) ?_
          refine lv_ishl hx hb dX7_fillSums_23 ?_
          refine lv_istore (lv' := [(5, .int (1 <<< (x4 &&& 31))), (0, .ref a_t), (1, .int x1), (2, .int x2), (3, .ref a_p3), (4, .int x4)]) hx hb dX7_fillSums_24 hl (by decide) rfl (fun ls hl => ?_)
          refine lv_iconst (v := 0) hx hb dX7_fillSums_26 (by decide) ?_
          have J_29 : ∀ (n_29 : Nat) (x1 : Int32) (x2 : Int32) (x4 : Int32) (x5 : Int32) (x6 : Int32) (p3 : (Nat → Int32)) (H : Heap) (locs : List Loc) (ls : Array Slot), f_X7_fillSums_29 t_tape_length t_tape_bytes (f_X7_fillSums_7 t_tape_length t_tape_bytes n_7) n_29 x1 x2 x4 x5 x6 p3 = some res → va_P D vwCl (w_X7_fillSums cI cB cZ a_t a_t_tape a_t_tape_bytes a_p3 a_t_lowSums a_t_highSums a_t_freeAt a_t_rising a_t_used t_tape_length t_tape_bytes p3) H → va_D A (w_X7_fillSums cI cB cZ a_t a_t_tape a_t_tape_bytes a_p3 a_t_lowSums a_t_highSums a_t_freeAt a_t_rising a_t_used t_tape_length t_tape_bytes p3) → va_S A s.heap H locs → lv_has ls 7 [(0, .ref a_t), (1, .int x1), (2, .int x2), (3, .ref a_p3), (4, .int x4), (5, .int x5), (6, .int x6)] → W p l e R s m args below meth c H locs 0 0 Q (F0 m 29 ls []) := by
            intro n_29
            induction n_29 with
            | zero =>
              intro x1 x2 x4 x5 x6 p3 H locs ls hf hP hD hS hl
              cases hf
            | succ n_29 ih_29 =>
              intro x1 x2 x4 x5 x6 p3 H locs ls hf hP hD hS hl
              unfold f_X7_fillSums_29 at hf
              refine lv_iload hx hb dX7_fillSums_29 (lv_at hl 6 rfl) ?_
              refine lv_iload hx hb dX7_fillSums_31 (lv_at hl 5 rfl) ?_
              refine lv_icmp_ge (tgt := 65) hx hb dX7_fillSums_33 (by decide) (fun hc_33 => ?_) (fun hc_33 => ?_)
              · have hf := it_pos hc_33 hf
                refine lv_iinc (v := x4 + 1) (lv' := [(4, .int (x4 + 1)), (0, .ref a_t), (1, .int x1), (2, .int x2), (3, .ref a_p3), (5, .int x5), (6, .int x6)]) hx hb dX7_fillSums_65 hl (k := 4) rfl (congrArg (_ + ·) (by decide : Int32.ofInt 1 = 1)) (by decide) rfl (fun ls hl => ?_)
                refine lv_goto (tgt := 7) hx hb dX7_fillSums_68 (by decide) ?_
                exact ih_7 _ _ _ _ _ _ _ hf hP hD hS (lv_sub hl [1, 2, 3, 4, 0] rfl)
              · have hf := it_neg hc_33 hf
                refine lv_aload_n hx hb dX7_fillSums_36 rfl (lv_at hl 3 rfl) ?_
                refine lv_iload hx hb dX7_fillSums_37 (lv_at hl 5 rfl) ?_
                refine lv_iload hx hb dX7_fillSums_39 (lv_at hl 6 rfl) ?_
                refine lv_iadd hx hb dX7_fillSums_41 ?_
                refine lv_aload_n hx hb dX7_fillSums_42 rfl (lv_at hl 3 rfl) ?_
                refine lv_iload hx hb dX7_fillSums_43 (lv_at hl 6 rfl) ?_
                obtain ⟨hi_45, hf⟩ := ix_some hf
                refine va_iald hx hb hK hP 3 0 rfl rfl hi_45 dX7_fillSums_45 ?_
                refine lv_aload_n hx hb dX7_fillSums_46 rfl (lv_at hl 0 rfl) ?_
                refine va_get (D := D) (ci := 6) (v := .ref a_t_tape) (C := RX7) (T := TX7) (N := 6) hx hb hT inX7 hown hK hP 0 rfl rfl 0 (by decide) (hT _ tb_288) (fun _ h9 => h9) rfl dX7_fillSums_47 ?_
                refine lv_iload_n hx hb dX7_fillSums_50 rfl (lv_at hl 1 rfl) ?_
                refine lv_iload hx hb dX7_fillSums_51 (lv_at hl 4 rfl) ?_
                refine lv_iadd hx hb dX7_fillSums_53 ?_
                obtain ⟨z54, e54, hf⟩ := bd_some hf
                refine rV_RO (As := [.int (x1 + x4)]) (rest := [.int (p3 x6.toNatClampNeg), .int (x5 + x6), .ref a_p3]) ⟨hx, hb, hml, hown, hT⟩ (gdV tb_942 tb_943 tb_944 tb_86 tb_945) hd_X8_byteAt (c_X8_byteAt l D cI cB cZ a_t_tape a_t_tape_bytes t_tape_length t_tape_bytes (x1 + x4) z54 e54) ⟨rfl, rfl⟩ ⟨Nat.le_trans (by decide) hRf, Nat.le_trans (by decide) hRl⟩ ⟨hK, hN⟩ hP [1, 2] rfl 1 rfl rfl rfl hl.1 rfl (Nat.le_of_ble_eq_true rfl) ⟨Nat.zero_le _, Nat.zero_le _⟩ dX7_fillSums_54 (fun _ => ?_)
                refine lv_iadd hx hb dX7_fillSums_57 ?_
                obtain ⟨hi_58, hf⟩ := ix_some hf
                refine va_iast hx hb hK hP hD hS 3 0 rfl rfl hi_58 dX7_fillSums_58 (fun H locs hP hD hS => ?_)
                have hP : va_P D vwCl (w_X7_fillSums cI cB cZ a_t a_t_tape a_t_tape_bytes a_p3 a_t_lowSums a_t_highSums a_t_freeAt a_t_rising a_t_used t_tape_length t_tape_bytes (upd p3 (x5 + x6).toNatClampNeg ((p3 x6.toNatClampNeg) + z54))) H := hP
                have hD : va_D A (w_X7_fillSums cI cB cZ a_t a_t_tape a_t_tape_bytes a_p3 a_t_lowSums a_t_highSums a_t_freeAt a_t_rising a_t_used t_tape_length t_tape_bytes (upd p3 (x5 + x6).toNatClampNeg ((p3 x6.toNatClampNeg) + z54))) := hD
                refine lv_iinc (v := x6 + 1) (lv' := [(6, .int (x6 + 1)), (0, .ref a_t), (1, .int x1), (2, .int x2), (3, .ref a_p3), (4, .int x4), (5, .int x5)]) hx hb dX7_fillSums_59 hl (k := 6) rfl (congrArg (_ + ·) (by decide : Int32.ofInt 1 = 1)) (by decide) rfl (fun ls hl => ?_)
                refine lv_goto (tgt := 29) hx hb dX7_fillSums_62 (by decide) ?_
                exact ih_29 _ _ _ _ _ _ _ _ _ hf hP hD hS (lv_sub hl [1, 2, 3, 4, 5, 6, 0] rfl)
          refine lv_istore (lv' := [(6, .int 0), (5, .int (1 <<< (x4 &&& 31))), (0, .ref a_t), (1, .int x1), (2, .int x2), (3, .ref a_p3), (4, .int x4)]) hx hb dX7_fillSums_27 hl (by decide) rfl (fun ls hl => ?_)
          exact J_29 _ _ _ _ _ _ _ _ _ _ hf hP hD hS (lv_sub hl [2, 3, 4, 5, 6, 1, 0] rfl)
  refine lv_istore (lv' := [(4, .int 0), (0, .ref a_t), (1, .int x1), (2, .int x2), (3, .ref a_p3)]) hx hb dX7_fillSums_5 hl (by decide) rfl (fun ls hl => ?_)
  exact J_7 _ _ _ _ _ _ _ _ hf hP hD hS (lv_sub hl [1, 2, 3, 4, 0] rfl)
theorem hd_X7_fillSums : (yX7_fillSums).cls = RX7 ∧ (yX7_fillSums).cls ≠ "java/lang/invoke/MethodHandle" ∧ (yX7_fillSums).cls ≠ "java/lang/invoke/VarHandle" ∧ (parseMethodDescriptor (yX7_fillSums).desc).map (fun d => d.parameters.length) = some 3 := by decide +kernel
theorem c_X7_fillSums (l : Launch) (D : va_G) (cI cB cZ : ClassId) (a_t : Nat) (a_t_tape : Nat) (a_t_tape_bytes : Nat) (a_p3 : Nat) (a_t_lowSums : Nat) (a_t_highSums : Nat) (a_t_freeAt : Nat) (a_t_rising : Nat) (a_t_used : Nat) (t_tape_length : Int32) (t_tape_bytes : (Nat → Int32)) (p3 : (Nat → Int32)) (x1 : Int32) (x2 : Int32) (sz : Nat) (res : (Nat → Int32)) (hf : f_X7_fillSums t_tape_length t_tape_bytes p3 x1 x2 = some res) : Met l yX7_fillSums (.code yX7_fillSums cX7_fillSums 7 none :: TB) (rmk (1) (21)) (pRW [.ref a_t, .int x1, .int x2, .ref a_p3] D cI cB cZ (w_X7_fillSums cI cB cZ a_t a_t_tape a_t_tape_bytes a_p3 a_t_lowSums a_t_highSums a_t_freeAt a_t_rising a_t_used t_tape_length t_tape_bytes p3) sz) (qRW none True D (w_X7_fillSums cI cB cZ a_t a_t_tape a_t_tape_bytes a_p3 a_t_lowSums a_t_highSums a_t_freeAt a_t_rising a_t_used t_tape_length t_tape_bytes p3) sz (w_X7_fillSums cI cB cZ a_t a_t_tape a_t_tape_bytes a_p3 a_t_lowSums a_t_highSums a_t_freeAt a_t_rising a_t_used t_tape_length t_tape_bytes res)) 0 0 (va_A (w_X7_fillSums cI cB cZ a_t a_t_tape a_t_tape_bytes a_p3 a_t_lowSums a_t_highSums a_t_freeAt a_t_rising a_t_used t_tape_length t_tape_bytes p3) sz) :=
  mkRW (by decide +kernel) (Nat.le_of_ble_eq_true rfl) (fun p e s m below meth c ls A hAe S hr hlk hK hA hP hD hS hl => b_X7_fillSums S.1 S.2.1 S.2.2.1 S.2.2.2.1 S.2.2.2.2 (Nat.le_refl _) (Nat.le_refl _) hK.1 hK.2 hA s.heap [] a_t a_t_tape a_t_tape_bytes a_p3 a_t_lowSums a_t_highSums a_t_freeAt a_t_rising a_t_used t_tape_length t_tape_bytes p3 x1 x2 res hf hP hD hS (fun H locs pc ls hP hD hS hE hd => eRW_v S.1 S.2.1 hr hlk hAe hP hD hS hE hd) ls hl)
def f_X7_sumOfFirst_4 (t_tape_length : Int32) (t_tape_bytes : (Nat → Int32)) : Nat → Int32 → Int32 → Int32 → Option (Int32)
  | 0, _, _, _ => none
  | n + 1, x1, x2, x3 => (if x1 ≤ x3 then some (x2) else (f_X8_byteAt t_tape_length t_tape_bytes x3).bind (fun z15 => (f_X7_sumOfFirst_4 t_tape_length t_tape_bytes n) x1 (x2 + z15) (x3 + 1)))
def f_X7_sumOfFirst (t_tape_length : Int32) (t_tape_bytes : (Nat → Int32)) (x1 : Int32) : Option (Int32) := f_X7_sumOfFirst_4 t_tape_length t_tape_bytes FU x1 0 0
def w_X7_sumOfFirst (cI cB cZ : ClassId) (a_t : Nat) (a_t_tape : Nat) (a_t_tape_bytes : Nat) (a_t_lowSums : Nat) (a_t_highSums : Nat) (a_t_freeAt : Nat) (a_t_rising : Nat) (a_t_used : Nat) (t_tape_length : Int32) (t_tape_bytes : (Nat → Int32)) : va_W := [(a_t, .inr (6, [.ref a_t_tape, .ref a_t_lowSums, .ref a_t_highSums, .ref a_t_freeAt, .ref a_t_rising, .ref a_t_used])), (a_t_tape, .inr (7, [.ref a_t_tape_bytes, .int t_tape_length])), (a_t_tape_bytes, .inl (cI, 260, .inl t_tape_bytes))]
set_option maxHeartbeats 4000000 in
set_option maxRecDepth 100000 in
theorem b_X7_sumOfFirst {p : Program} {l : Launch} {e : Env} {R : Room} {s : State} {m : MethodId} {args : Array Value} {below : List Frame} {meth : Method} {c : Code} {Q : State → Prop} {D : va_G} {cI cB cZ : ClassId} (hx : p.tables.exec = Jvm.exec) (hb : c.code = cX7_sumOfFirst) (hml : c.maxLocals = 4) (hown : s.vm.findClass RX7 = some m.cls) (hT : ∀ w ∈ TB, w.before args s = true) (hRf : (1) ≤ R.frames) (hRl : (21) ≤ R.locals) (hK : va_K D vwCl (tyL cI cB cZ) s) (hN : NW s)  (a_t : Nat) (a_t_tape : Nat) (a_t_tape_bytes : Nat) (a_t_lowSums : Nat) (a_t_highSums : Nat) (a_t_freeAt : Nat) (a_t_rising : Nat) (a_t_used : Nat) (t_tape_length : Int32) (t_tape_bytes : (Nat → Int32)) (x1 : Int32) (res : Int32) (hf : f_X7_sumOfFirst t_tape_length t_tape_bytes x1 = some res) (hP : va_P D vwCl (w_X7_sumOfFirst cI cB cZ a_t a_t_tape a_t_tape_bytes a_t_lowSums a_t_highSums a_t_freeAt a_t_rising a_t_used t_tape_length t_tape_bytes) s.heap) (hQ : ∀ (pc : Nat) (ls : Array Slot), True → decode cX7_sumOfFirst pc = .ok (.ireturn, 1) → W p l e R s m args below meth c s.heap [] 0 0 Q (F0 m pc ls [.int res])) (ls : Array Slot) (hl : lv_has ls 4 [(0, .ref a_t), (1, .int x1)]) : W p l e R s m args below meth c s.heap [] 0 0 Q (F0 m 0 ls []) := by
  unfold f_X7_sumOfFirst at hf
  refine lv_iconst (v := 0) hx hb dX7_sumOfFirst_0 (by decide) ?_
  refine lv_istore_n (lv' := [(2, .int 0), (0, .ref a_t), (1, .int x1)]) hx hb dX7_sumOfFirst_1 rfl hl (by decide) rfl (fun ls hl => ?_)
  refine lv_iconst (v := 0) hx hb dX7_sumOfFirst_2 (by decide) ?_
  have J_4 : ∀ (n_4 : Nat) (x1 : Int32) (x2 : Int32) (x3 : Int32) (ls : Array Slot), f_X7_sumOfFirst_4 t_tape_length t_tape_bytes n_4 x1 x2 x3 = some res → lv_has ls 4 [(0, .ref a_t), (1, .int x1), (2, .int x2), (3, .int x3)] → W p l e R s m args below meth c s.heap [] 0 0 Q (F0 m 4 ls []) := by
    intro n_4
    induction n_4 with
    | zero =>
      intro x1 x2 x3 ls hf hl
      cases hf
    | succ n_4 ih_4 =>
      intro x1 x2 x3 ls hf hl
      unfold f_X7_sumOfFirst_4 at hf
      refine lv_iload_n hx hb dX7_sumOfFirst_4 rfl (lv_at hl 3 rfl) ?_
      refine lv_iload_n hx hb dX7_sumOfFirst_5 rfl (lv_at hl 1 rfl) ?_
      refine lv_icmp_ge (tgt := 26) hx hb dX7_sumOfFirst_6 (by decide) (fun hc_6 => ?_) (fun hc_6 => ?_)
      · have hf := it_pos hc_6 hf
        refine lv_iload_n hx hb dX7_sumOfFirst_26 rfl (lv_at hl 2 rfl) ?_
        obtain rfl := Option.some.inj hf
        exact hQ 27 ls trivial dX7_sumOfFirst_27
      · have hf := it_neg hc_6 hf
        refine lv_iload_n hx hb dX7_sumOfFirst_9 rfl (lv_at hl 2 rfl) ?_
        refine lv_aload_n hx hb dX7_sumOfFirst_10 rfl (lv_at hl 0 rfl) ?_
        refine va_get (D := D) (ci := 6) (v := .ref a_t_tape) (C := RX7) (T := TX7) (N := 6) hx hb hT inX7 hown hK hP 0 rfl rfl 0 (by decide) (hT _ tb_288) (fun _ h9 => h9) rfl dX7_sumOfFirst_11 ?_
        refine lv_iload_n hx hb dX7_sumOfFirst_14 rfl (lv_at hl 3 rfl) ?_
        obtain ⟨z15, e15, hf⟩ := bd_some hf
        refine rV_RO (As := [.int x3]) (rest := [.int x2]) ⟨hx, hb, hml, hown, hT⟩ (gdV tb_942 tb_943 tb_944 tb_86 tb_945) hd_X8_byteAt (c_X8_byteAt l D cI cB cZ a_t_tape a_t_tape_bytes t_tape_length t_tape_bytes x3 z15 e15) ⟨rfl, rfl⟩ ⟨Nat.le_trans (by decide) hRf, Nat.le_trans (by decide) hRl⟩ ⟨hK, hN⟩ hP [1, 2] rfl 1 rfl rfl rfl hl.1 rfl (Nat.le_of_ble_eq_true rfl) ⟨Nat.zero_le _, Nat.zero_le _⟩ dX7_sumOfFirst_15 (fun _ => ?_)
        refine lv_iadd hx hb dX7_sumOfFirst_18 ?_
        refine lv_istore_n (lv' := [(2, .int (x2 + z15)), (0, .ref a_t), (1, .int x1), (3, .int x3)]) hx hb dX7_sumOfFirst_19 rfl hl (by decide) rfl (fun ls hl => ?_)
        refine lv_iinc (v := x3 + 1) (lv' := [(3, .int (x3 + 1)), (2, .int (x2 + z15)), (0, .ref a_t), (1, .int x1)]) hx hb dX7_sumOfFirst_20 hl (k := 3) rfl (congrArg (_ + ·) (by decide : Int32.ofInt 1 = 1)) (by decide) rfl (fun ls hl => ?_)
        refine lv_goto (tgt := 4) hx hb dX7_sumOfFirst_23 (by decide) ?_
        exact ih_4 _ _ _ _ hf (lv_sub hl [2, 3, 1, 0] rfl)
  refine lv_istore_n (lv' := [(3, .int 0), (2, .int 0), (0, .ref a_t), (1, .int x1)]) hx hb dX7_sumOfFirst_3 rfl hl (by decide) rfl (fun ls hl => ?_)
  exact J_4 _ _ _ _ _ hf (lv_sub hl [2, 3, 1, 0] rfl)
theorem hd_X7_sumOfFirst : (yX7_sumOfFirst).cls = RX7 ∧ (yX7_sumOfFirst).cls ≠ "java/lang/invoke/MethodHandle" ∧ (yX7_sumOfFirst).cls ≠ "java/lang/invoke/VarHandle" ∧ (parseMethodDescriptor (yX7_sumOfFirst).desc).map (fun d => d.parameters.length) = some 1 := by decide +kernel
theorem c_X7_sumOfFirst (l : Launch) (D : va_G) (cI cB cZ : ClassId) (a_t : Nat) (a_t_tape : Nat) (a_t_tape_bytes : Nat) (a_t_lowSums : Nat) (a_t_highSums : Nat) (a_t_freeAt : Nat) (a_t_rising : Nat) (a_t_used : Nat) (t_tape_length : Int32) (t_tape_bytes : (Nat → Int32)) (x1 : Int32) (res : Int32) (hf : f_X7_sumOfFirst t_tape_length t_tape_bytes x1 = some res) : Met l yX7_sumOfFirst (.code yX7_sumOfFirst cX7_sumOfFirst 4 (some .int) :: TB) (rmk (1) (21)) (pRO [.ref a_t, .int x1] D cI cB cZ (w_X7_sumOfFirst cI cB cZ a_t a_t_tape a_t_tape_bytes a_t_lowSums a_t_highSums a_t_freeAt a_t_rising a_t_used t_tape_length t_tape_bytes)) (qRO (some (.int res)) True) 0 0 (fun _ => False) :=
  mkRO (by decide +kernel) (Nat.le_of_ble_eq_true rfl) (fun p e s m below meth c ls S hr hlk hK hP hl => b_X7_sumOfFirst S.1 S.2.1 S.2.2.1 S.2.2.2.1 S.2.2.2.2 (Nat.le_refl _) (Nat.le_refl _) hK.1 hK.2 a_t a_t_tape a_t_tape_bytes a_t_lowSums a_t_highSums a_t_freeAt a_t_rising a_t_used t_tape_length t_tape_bytes x1 res hf hP (fun pc ls hE hd => eRO_i S.1 S.2.1 hr rfl hlk hE hd) ls hl)
def f_X7_balance_132 (t_tape_length : Int32) (t_tape_bytes : (Nat → Int32)) (x4 : Int32) (x8 : Int32) (x9 : Int32) (t_lowSums : (Nat → Int32)) (t_highSums : (Nat → Int32)) : Option (Int32 × (Nat → Int32) × (Nat → Int32)) := (if x4 = 0 then some (x9, t_lowSums, t_highSums) else some (x8, t_lowSums, t_highSums))
def f_X7_balance_62 (t_tape_length : Int32) (t_tape_bytes : (Nat → Int32)) : Nat → Int32 → Int32 → Int32 → Int32 → Int32 → Int32 → Int32 → Int32 → (Nat → Int32) → (Nat → Int32) → Option (Int32 × (Nat → Int32) × (Nat → Int32))
  | 0, _, _, _, _, _, _, _, _, _, _ => none
  | n + 1, x1, x4, x5, x6, x7, x8, x9, x10, t_lowSums, t_highSums => (if (1 <<< (x1 &&& 31)) ≤ x10 then f_X7_balance_132 t_tape_length t_tape_bytes x4 x8 x9 t_lowSums t_highSums else (if 12 < x1 then f_X7_balance_132 t_tape_length t_tape_bytes x4 x8 x9 t_lowSums t_highSums else ix 64 (x10 &&& x7) (ix 64 (x10 >>> (x5 &&& 31)) ((if x9 ≤ (if 0 ≤ (x6 + (2 * ((t_lowSums (x10 &&& x7).toNatClampNeg) + (t_highSums (x10 >>> (x5 &&& 31)).toNatClampNeg)))) then (x6 + (2 * ((t_lowSums (x10 &&& x7).toNatClampNeg) + (t_highSums (x10 >>> (x5 &&& 31)).toNatClampNeg)))) else 0 - (x6 + (2 * ((t_lowSums (x10 &&& x7).toNatClampNeg) + (t_highSums (x10 >>> (x5 &&& 31)).toNatClampNeg))))) then (f_X7_balance_62 t_tape_length t_tape_bytes n) x1 x4 x5 x6 x7 x8 x9 (x10 + 1) t_lowSums t_highSums else (f_X7_balance_62 t_tape_length t_tape_bytes n) x1 x4 x5 x6 x7 x10 (if 0 ≤ (x6 + (2 * ((t_lowSums (x10 &&& x7).toNatClampNeg) + (t_highSums (x10 >>> (x5 &&& 31)).toNatClampNeg)))) then (x6 + (2 * ((t_lowSums (x10 &&& x7).toNatClampNeg) + (t_highSums (x10 >>> (x5 &&& 31)).toNatClampNeg)))) else 0 - (x6 + (2 * ((t_lowSums (x10 &&& x7).toNatClampNeg) + (t_highSums (x10 >>> (x5 &&& 31)).toNatClampNeg))))) (x10 + 1) t_lowSums t_highSums)))))
def f_X7_balance (t_tape_length : Int32) (t_tape_bytes : (Nat → Int32)) (t_lowSums : (Nat → Int32)) (t_highSums : (Nat → Int32)) (x1 : Int32) (x2 : Int32) (x3 : Int32) (x4 : Int32) : Option (Int32 × (Nat → Int32) × (Nat → Int32)) := (f_X7_fillSums t_tape_length t_tape_bytes t_lowSums 0 (if 6 < x1 then 6 else x1)).bind (fun z16 => (f_X7_fillSums t_tape_length t_tape_bytes t_highSums (if 6 < x1 then 6 else x1) (x1 - (if 6 < x1 then 6 else x1))).bind (fun z30 => (f_X7_sumOfFirst t_tape_length t_tape_bytes x1).bind (fun z38 => f_X7_balance_62 t_tape_length t_tape_bytes FU x1 x4 (if 6 < x1 then 6 else x1) ((x2 - x3) - z38) ((1 <<< ((if 6 < x1 then 6 else x1) &&& 31)) - 1) 0 1073741824 0 z16 z30)))
def w_X7_balance (cI cB cZ : ClassId) (a_t : Nat) (a_t_tape : Nat) (a_t_tape_bytes : Nat) (a_t_lowSums : Nat) (a_t_highSums : Nat) (a_t_freeAt : Nat) (a_t_rising : Nat) (a_t_used : Nat) (t_tape_length : Int32) (t_tape_bytes : (Nat → Int32)) (t_lowSums : (Nat → Int32)) (t_highSums : (Nat → Int32)) : va_W := [(a_t, .inr (6, [.ref a_t_tape, .ref a_t_lowSums, .ref a_t_highSums, .ref a_t_freeAt, .ref a_t_rising, .ref a_t_used])), (a_t_tape, .inr (7, [.ref a_t_tape_bytes, .int t_tape_length])), (a_t_tape_bytes, .inl (cI, 260, .inl t_tape_bytes)), (a_t_lowSums, .inl (cI, 64, .inl t_lowSums)), (a_t_highSums, .inl (cI, 64, .inl t_highSums))]
set_option maxHeartbeats 4000000 in
set_option maxRecDepth 100000 in
theorem b_X7_balance {p : Program} {l : Launch} {e : Env} {R : Room} {s : State} {m : MethodId} {args : Array Value} {below : List Frame} {meth : Method} {c : Code} {Q : State → Prop} {D : va_G} {cI cB cZ : ClassId} (hx : p.tables.exec = Jvm.exec) (hb : c.code = cX7_balance) (hml : c.maxLocals = 13) (hown : s.vm.findClass RX7 = some m.cls) (hT : ∀ w ∈ TB, w.before args s = true) (hRf : (2) ≤ R.frames) (hRl : (47) ≤ R.locals) (hK : va_K D vwCl (tyL cI cB cZ) s) (hN : NW s) {A : Nat → Prop} (hA : ∀ q : Nat, s.heap.size ≤ q → A q) (H : Heap) (locs : List Loc)  (a_t : Nat) (a_t_tape : Nat) (a_t_tape_bytes : Nat) (a_t_lowSums : Nat) (a_t_highSums : Nat) (a_t_freeAt : Nat) (a_t_rising : Nat) (a_t_used : Nat) (t_tape_length : Int32) (t_tape_bytes : (Nat → Int32)) (t_lowSums : (Nat → Int32)) (t_highSums : (Nat → Int32)) (x1 : Int32) (x2 : Int32) (x3 : Int32) (x4 : Int32) (res : Int32 × (Nat → Int32) × (Nat → Int32)) (hf : f_X7_balance t_tape_length t_tape_bytes t_lowSums t_highSums x1 x2 x3 x4 = some res) (hP : va_P D vwCl (w_X7_balance cI cB cZ a_t a_t_tape a_t_tape_bytes a_t_lowSums a_t_highSums a_t_freeAt a_t_rising a_t_used t_tape_length t_tape_bytes t_lowSums t_highSums) H) (hD : va_D A (w_X7_balance cI cB cZ a_t a_t_tape a_t_tape_bytes a_t_lowSums a_t_highSums a_t_freeAt a_t_rising a_t_used t_tape_length t_tape_bytes t_lowSums t_highSums)) (hS : va_S A s.heap H locs) (hQ : ∀ (H : Heap) (locs : List Loc) (pc : Nat) (ls : Array Slot), va_P D vwCl (w_X7_balance cI cB cZ a_t a_t_tape a_t_tape_bytes a_t_lowSums a_t_highSums a_t_freeAt a_t_rising a_t_used t_tape_length t_tape_bytes res.2.1 res.2.2) H → va_D A (w_X7_balance cI cB cZ a_t a_t_tape a_t_tape_bytes a_t_lowSums a_t_highSums a_t_freeAt a_t_rising a_t_used t_tape_length t_tape_bytes res.2.1 res.2.2) → va_S A s.heap H locs → True → decode cX7_balance pc = .ok (.ireturn, 1) → W p l e R s m args below meth c H locs 0 0 Q (F0 m pc ls [.int res.1])) (ls : Array Slot) (hl : lv_has ls 13 [(0, .ref a_t), (1, .int x1), (2, .int x2), (3, .int x3), (4, .int x4)]) : W p l e R s m args below meth c H locs 0 0 Q (F0 m 0 ls []) := by
  unfold f_X7_balance at hf
  refine lv_iload_n hx hb dX7_balance_0 rfl (lv_at hl 1 rfl) ?_
  refine lv_bipush (v := 6) hx hb dX7_balance_1 (by decide) ?_
  refine va_mmin hx hb (hml.trans hl.1.symm) hown (hT _ tb_937) (hT _ tb_421) (hT _ tb_98) (hT _ tb_422) (Nat.le_trans (by decide) hRf) (Nat.le_trans (Nat.le_of_ble_eq_true rfl) hRl) (Nat.zero_le _) (Nat.zero_le _) dX7_balance_3 ?_
  refine lv_istore (lv' := [(5, .int (if 6 < x1 then 6 else x1)), (0, .ref a_t), (1, .int x1), (2, .int x2), (3, .int x3), (4, .int x4)]) hx hb dX7_balance_6 hl (by decide) rfl (fun ls hl => ?_)
  refine lv_aload_n hx hb dX7_balance_8 rfl (lv_at hl 1 rfl) ?_
  refine lv_iconst (v := 0) hx hb dX7_balance_9 (by decide) ?_
  refine lv_iload hx hb dX7_balance_10 (lv_at hl 0 rfl) ?_
  refine lv_aload_n hx hb dX7_balance_12 rfl (lv_at hl 1 rfl) ?_
  refine va_get (D := D) (ci := 6) (v := .ref a_t_lowSums) (C := RX7) (T := TX7) (N := 6) hx hb hT inX7 hown hK hP 0 rfl rfl 1 (by decide) (hT _ tb_289) (fun _ h9 => h9) rfl dX7_balance_13 ?_
  obtain ⟨z16, e16, hf⟩ := bd_some hf
  refine rV_RW (As := [.int 0, .int (if 6 < x1 then 6 else x1), .ref a_t_lowSums]) (rest := []) (w2 := (w_X7_balance cI cB cZ a_t a_t_tape a_t_tape_bytes a_t_lowSums a_t_highSums a_t_freeAt a_t_rising a_t_used t_tape_length t_tape_bytes z16 t_highSums)) ⟨hx, hb, hml, hown, hT⟩ (gdV tb_938 tb_940 tb_20 tb_95 tb_941) hd_X7_fillSums (c_X7_fillSums l D cI cB cZ a_t a_t_tape a_t_tape_bytes a_t_lowSums a_t_lowSums a_t_highSums a_t_freeAt a_t_rising a_t_used t_tape_length t_tape_bytes t_lowSums 0 (if 6 < x1 then 6 else x1) H.size z16 e16) ⟨rfl, rfl⟩ ⟨Nat.le_trans (by decide) hRf, Nat.le_trans (by decide) hRl⟩ ⟨hK, hN⟩ hA hP hD hS [0, 1, 2, 3] [4] rfl (by decide) (wr := [_]) rfl (by decide) (by decide) [1, 2, 3, 4, 0] rfl (by decide) 0 rfl rfl rfl hl.1 rfl (Nat.le_of_ble_eq_true rfl) ⟨Nat.zero_le _, Nat.zero_le _⟩ dX7_balance_16 (fun H locs hP hD hS _ => ?_)
  refine lv_aload_n hx hb dX7_balance_19 rfl (lv_at hl 1 rfl) ?_
  refine lv_iload hx hb dX7_balance_20 (lv_at hl 0 rfl) ?_
  refine lv_iload_n hx hb dX7_balance_22 rfl (lv_at hl 2 rfl) ?_
  refine lv_iload hx hb dX7_balance_23 (lv_at hl 0 rfl) ?_
  refine lv_isub hx hb dX7_balance_25 ?_
  refine lv_aload_n hx hb dX7_balance_26 rfl (lv_at hl 1 rfl) ?_
  refine va_get (D := D) (ci := 6) (v := .ref a_t_highSums) (C := RX7) (T := TX7) (N := 6) hx hb hT inX7 hown hK hP 0 rfl rfl 2 (by decide) (hT _ tb_290) (fun _ h9 => h9) rfl dX7_balance_27 ?_
  obtain ⟨z30, e30, hf⟩ := bd_some hf
  refine rV_RW (As := [.int (if 6 < x1 then 6 else x1), .int (x1 - (if 6 < x1 then 6 else x1)), .ref a_t_highSums]) (rest := []) (w2 := (w_X7_balance cI cB cZ a_t a_t_tape a_t_tape_bytes a_t_lowSums a_t_highSums a_t_freeAt a_t_rising a_t_used t_tape_length t_tape_bytes z16 z30)) ⟨hx, hb, hml, hown, hT⟩ (gdV tb_938 tb_940 tb_20 tb_95 tb_941) hd_X7_fillSums (c_X7_fillSums l D cI cB cZ a_t a_t_tape a_t_tape_bytes a_t_highSums a_t_lowSums a_t_highSums a_t_freeAt a_t_rising a_t_used t_tape_length t_tape_bytes t_highSums (if 6 < x1 then 6 else x1) (x1 - (if 6 < x1 then 6 else x1)) H.size z30 e30) ⟨rfl, rfl⟩ ⟨Nat.le_trans (by decide) hRf, Nat.le_trans (by decide) hRl⟩ ⟨hK, hN⟩ hA hP hD hS [0, 1, 2, 4] [3] rfl (by decide) (wr := [_]) rfl (by decide) (by decide) [1, 2, 3, 0, 4] rfl (by decide) 0 rfl rfl rfl hl.1 rfl (Nat.le_of_ble_eq_true rfl) ⟨Nat.zero_le _, Nat.zero_le _⟩ dX7_balance_30 (fun H locs hP hD hS _ => ?_)
  refine lv_iload_n hx hb dX7_balance_33 rfl (lv_at hl 3 rfl) ?_
  refine lv_iload_n hx hb dX7_balance_34 rfl (lv_at hl 4 rfl) ?_
  refine lv_isub hx hb dX7_balance_35 ?_
  refine lv_aload_n hx hb dX7_balance_36 rfl (lv_at hl 1 rfl) ?_
  refine lv_iload_n hx hb dX7_balance_37 rfl (lv_at hl 2 rfl) ?_
  obtain ⟨z38, e38, hf⟩ := bd_some hf
  refine rV_RO (As := [.int x1]) (rest := [.int (x2 - x3)]) ⟨hx, hb, hml, hown, hT⟩ (gdV tb_946 tb_948 tb_21 tb_95 tb_949) hd_X7_sumOfFirst (c_X7_sumOfFirst l D cI cB cZ a_t a_t_tape a_t_tape_bytes a_t_lowSums a_t_highSums a_t_freeAt a_t_rising a_t_used t_tape_length t_tape_bytes x1 z38 e38) ⟨rfl, rfl⟩ ⟨Nat.le_trans (by decide) hRf, Nat.le_trans (by decide) hRl⟩ ⟨hK, hN⟩ hP [0, 1, 2] rfl 0 rfl rfl rfl hl.1 rfl (Nat.le_of_ble_eq_true rfl) ⟨Nat.zero_le _, Nat.zero_le _⟩ dX7_balance_38 (fun _ => ?_)
  refine lv_isub hx hb dX7_balance_41 ?_
  refine lv_istore (lv' := [(6, .int ((x2 - x3) - z38)), (5, .int (if 6 < x1 then 6 else x1)), (0, .ref a_t), (1, .int x1), (2, .int x2), (3, .int x3), (4, .int x4)]) hx hb dX7_balance_42 hl (by decide) rfl (fun ls hl => ?_)
  refine lv_iconst (v := 1) hx hb dX7_balance_44 (by decide) ?_
  refine lv_iload hx hb dX7_balance_45 (lv_at hl 1 rfl) ?_
  refine lv_ishl hx hb dX7_balance_47 ?_
  refine lv_iconst (v := 1) hx hb dX7_balance_48 (by decide) ?_
  refine lv_isub hx hb dX7_balance_49 ?_
  refine lv_istore (lv' := [(7, .int ((1 <<< ((if 6 < x1 then 6 else x1) &&& 31)) - 1)), (6, .int ((x2 - x3) - z38)), (5, .int (if 6 < x1 then 6 else x1)), (0, .ref a_t), (1, .int x1), (2, .int x2), (3, .int x3), (4, .int x4)]) hx hb dX7_balance_50 hl (by decide) rfl (fun ls hl => ?_)
  refine lv_iconst (v := 0) hx hb dX7_balance_52 (by decide) ?_
  refine lv_istore (lv' := [(8, .int 0), (7, .int ((1 <<< ((if 6 < x1 then 6 else x1) &&& 31)) - 1)), (6, .int ((x2 - x3) - z38)), (5, .int (if 6 < x1 then 6 else x1)), (0, .ref a_t), (1, .int x1), (2, .int x2), (3, .int x3), (4, .int x4)]) hx hb dX7_balance_53 hl (by decide) rfl (fun ls hl => ?_)
  refine lv_ldc (v := 1073741824) hx hb hown (hT _ tb_950) dX7_balance_55 ?_
  refine lv_istore (lv' := [(9, .int 1073741824), (8, .int 0), (7, .int ((1 <<< ((if 6 < x1 then 6 else x1) &&& 31)) - 1)), (6, .int ((x2 - x3) - z38)), (5, .int (if 6 < x1 then 6 else x1)), (0, .ref a_t), (1, .int x1), (2, .int x2), (3, .int x3), (4, .int x4)]) hx hb dX7_balance_57 hl (by decide) rfl (fun ls hl => ?_)
  refine lv_iconst (v := 0) hx hb dX7_balance_59 (by decide) ?_
  have J_62 : ∀ (n_62 : Nat) (x1 : Int32) (x4 : Int32) (x5 : Int32) (x6 : Int32) (x7 : Int32) (x8 : Int32) (x9 : Int32) (x10 : Int32) (t_lowSums : (Nat → Int32)) (t_highSums : (Nat → Int32)) (H : Heap) (locs : List Loc) (ls : Array Slot), f_X7_balance_62 t_tape_length t_tape_bytes n_62 x1 x4 x5 x6 x7 x8 x9 x10 t_lowSums t_highSums = some res → va_P D vwCl (w_X7_balance cI cB cZ a_t a_t_tape a_t_tape_bytes a_t_lowSums a_t_highSums a_t_freeAt a_t_rising a_t_used t_tape_length t_tape_bytes t_lowSums t_highSums) H → va_D A (w_X7_balance cI cB cZ a_t a_t_tape a_t_tape_bytes a_t_lowSums a_t_highSums a_t_freeAt a_t_rising a_t_used t_tape_length t_tape_bytes t_lowSums t_highSums) → va_S A s.heap H locs → lv_has ls 13 [(0, .ref a_t), (1, .int x1), (4, .int x4), (5, .int x5), (6, .int x6), (7, .int x7), (8, .int x8), (9, .int x9), (10, .int x10)] → W p l e R s m args below meth c H locs 0 0 Q (F0 m 62 ls []) := by
    intro n_62
    induction n_62 with
    | zero =>
      intro x1 x4 x5 x6 x7 x8 x9 x10 t_lowSums t_highSums H locs ls hf hP hD hS hl
      cases hf
    | succ n_62 ih_62 =>
      intro x1 x4 x5 x6 x7 x8 x9 x10 t_lowSums t_highSums H locs ls hf hP hD hS hl
      unfold f_X7_balance_62 at hf
      refine lv_iload hx hb dX7_balance_62 (lv_at hl 8 rfl) ?_
      refine lv_iconst (v := 1) hx hb dX7_balance_64 (by decide) ?_
      refine lv_iload_n hx hb dX7_balance_65 rfl (lv_at hl 1 rfl) ?_
      refine lv_ishl hx hb dX7_balance_66 ?_
      have J_132 : ∀ (x4 : Int32) (x8 : Int32) (x9 : Int32) (t_lowSums : (Nat → Int32)) (t_highSums : (Nat → Int32)) (H : Heap) (locs : List Loc) (ls : Array Slot), f_X7_balance_132 t_tape_length t_tape_bytes x4 x8 x9 t_lowSums t_highSums = some res → va_P D vwCl (w_X7_balance cI cB cZ a_t a_t_tape a_t_tape_bytes a_t_lowSums a_t_highSums a_t_freeAt a_t_rising a_t_used t_tape_length t_tape_bytes t_lowSums t_highSums) H → va_D A (w_X7_balance cI cB cZ a_t a_t_tape a_t_tape_bytes a_t_lowSums a_t_highSums a_t_freeAt a_t_rising a_t_used t_tape_length t_tape_bytes t_lowSums t_highSums) → va_S A s.heap H locs → lv_has ls 13 [(4, .int x4), (8, .int x8), (9, .int x9)] → W p l e R s m args below meth c H locs 0 0 Q (F0 m 132 ls []) := by
        intro x4 x8 x9 t_lowSums t_highSums H locs ls hf hP hD hS hl
        unfold f_X7_balance_132 at hf
        refine lv_iload hx hb dX7_balance_132 (lv_at hl 0 rfl) ?_
        refine lv_if_ne (tgt := 142) hx hb dX7_balance_134 (by decide) (fun hc_134 => ?_) (fun hc_134 => ?_)
        · have hf := it_neg hc_134 hf
          refine lv_iload hx hb dX7_balance_142 (lv_at hl 1 rfl) ?_
          obtain rfl := Option.some.inj hf
          exact hQ H locs 144 ls hP hD hS trivial dX7_balance_144
        · have hf := it_pos hc_134 hf
          refine lv_iload hx hb dX7_balance_137 (lv_at hl 2 rfl) ?_
          refine lv_goto (tgt := 144) hx hb dX7_balance_139 (by decide) ?_
          obtain rfl := Option.some.inj hf
          exact hQ H locs 144 ls hP hD hS trivial dX7_balance_144
      refine lv_icmp_ge (tgt := 132) hx hb dX7_balance_67 (by decide) (fun hc_67 => ?_) (fun hc_67 => ?_)
      · have hf := it_pos hc_67 hf
        exact J_132 _ _ _ _ _ _ _ _ hf hP hD hS (lv_sub hl [2, 6, 7] rfl)
      · have hf := it_neg hc_67 hf
        refine lv_iload_n hx hb dX7_balance_70 rfl (lv_at hl 1 rfl) ?_
        refine lv_bipush (v := 12) hx hb dX7_balance_71 (by decide) ?_
        refine lv_icmp_gt (tgt := 132) hx hb dX7_balance_73 (by decide) (fun hc_73 => ?_) (fun hc_73 => ?_)
        · have hf := it_pos hc_73 hf
          exact J_132 _ _ _ _ _ _ _ _ hf hP hD hS (lv_sub hl [2, 6, 7] rfl)
        · have hf := it_neg hc_73 hf
          refine lv_aload_n hx hb dX7_balance_76 rfl (lv_at hl 0 rfl) ?_
          refine va_get (D := D) (ci := 6) (v := .ref a_t_lowSums) (C := RX7) (T := TX7) (N := 6) hx hb hT inX7 hown hK hP 0 rfl rfl 1 (by decide) (hT _ tb_289) (fun _ h9 => h9) rfl dX7_balance_77 ?_
          refine lv_iload hx hb dX7_balance_80 (lv_at hl 8 rfl) ?_
          refine lv_iload hx hb dX7_balance_82 (lv_at hl 5 rfl) ?_
          refine lv_iand hx hb dX7_balance_84 ?_
          obtain ⟨hi_85, hf⟩ := ix_some hf
          refine va_iald hx hb hK hP 3 0 rfl rfl hi_85 dX7_balance_85 ?_
          refine lv_aload_n hx hb dX7_balance_86 rfl (lv_at hl 0 rfl) ?_
          refine va_get (D := D) (ci := 6) (v := .ref a_t_highSums) (C := RX7) (T := TX7) (N := 6) hx hb hT inX7 hown hK hP 0 rfl rfl 2 (by decide) (hT _ tb_290) (fun _ h9 => h9) rfl dX7_balance_87 ?_
          refine lv_iload hx hb dX7_balance_90 (lv_at hl 8 rfl) ?_
          refine lv_iload hx hb dX7_balance_92 (lv_at hl 3 rfl) ?_
          refine lv_ishr hx hb dX7_balance_94 ?_
          obtain ⟨hi_95, hf⟩ := ix_some hf
          refine va_iald hx hb hK hP 4 0 rfl rfl hi_95 dX7_balance_95 ?_
          refine lv_iadd hx hb dX7_balance_96 ?_
          refine lv_istore (lv' := [(11, .int ((t_lowSums (x10 &&& x7).toNatClampNeg) + (t_highSums (x10 >>> (x5 &&& 31)).toNatClampNeg))), (0, .ref a_t), (1, .int x1), (4, .int x4), (5, .int x5), (6, .int x6), (7, .int x7), (8, .int x8), (9, .int x9), (10, .int x10)]) hx hb dX7_balance_97 hl (by decide) rfl (fun ls hl => ?_)
          refine lv_iload hx hb dX7_balance_99 (lv_at hl 5 rfl) ?_
          refine lv_iconst (v := 2) hx hb dX7_balance_101 (by decide) ?_
          refine lv_iload hx hb dX7_balance_102 (lv_at hl 0 rfl) ?_
          refine lv_imul hx hb dX7_balance_104 ?_
          refine lv_iadd hx hb dX7_balance_105 ?_
          refine va_mabs hx hb (hml.trans hl.1.symm) hown (hT _ tb_951) (hT _ tb_952) (hT _ tb_98) (hT _ tb_953) (Nat.le_trans (by decide) hRf) (Nat.le_trans (Nat.le_of_ble_eq_true rfl) hRl) (Nat.zero_le _) (Nat.zero_le _) dX7_balance_106 ?_
          refine lv_istore (lv' := [(12, .int (if 0 ≤ (x6 + (2 * ((t_lowSums (x10 &&& x7).toNatClampNeg) + (t_highSums (x10 >>> (x5 &&& 31)).toNatClampNeg)))) then (x6 + (2 * ((t_lowSums (x10 &&& x7).toNatClampNeg) + (t_highSums (x10 >>> (x5 &&& 31)).toNatClampNeg)))) else 0 - (x6 + (2 * ((t_lowSums (x10 &&& x7).toNatClampNeg) + (t_highSums (x10 >>> (x5 &&& 31)).toNatClampNeg)))))), (11, .int ((t_lowSums (x10 &&& x7).toNatClampNeg) + (t_highSums (x10 >>> (x5 &&& 31)).toNatClampNeg))), (0, .ref a_t), (1, .int x1), (4, .int x4), (5, .int x5), (6, .int x6), (7, .int x7), (8, .int x8), (9, .int x9), (10, .int x10)]) hx hb dX7_balance_109 hl (by decide) rfl (fun ls hl => ?_)
          refine lv_iload hx hb dX7_balance_111 (lv_at hl 0 rfl) ?_
          refine lv_iload hx hb dX7_balance_113 (lv_at hl 9 rfl) ?_
          refine lv_icmp_ge (tgt := 126) hx hb dX7_balance_115 (by decide) (fun hc_115 => ?_) (fun hc_115 => ?_)
          · have hf := it_pos hc_115 hf
            refine lv_iinc (v := x10 + 1) (lv' := [(10, .int (x10 + 1)), (12, .int (if 0 ≤ (x6 + (2 * ((t_lowSums (x10 &&& x7).toNatClampNeg) + (t_highSums (x10 >>> (x5 &&& 31)).toNatClampNeg)))) then (x6 + (2 * ((t_lowSums (x10 &&& x7).toNatClampNeg) + (t_highSums (x10 >>> (x5 &&& 31)).toNatClampNeg)))) else 0 - (x6 + (2 * ((t_lowSums (x10 &&& x7).toNatClampNeg) + (t_highSums (x10 >>> (x5 &&& 31)).toNatClampNeg)))))), (11, .int ((t_lowSums (x10 &&& x7).toNatClampNeg) + (t_highSums (x10 >>> (x5 &&& 31)).toNatClampNeg))), (0, .ref a_t), (1, .int x1), (4, .int x4), (5, .int x5), (6, .int x6), (7, .int x7), (8, .int x8), (9, .int x9)]) hx hb dX7_balance_126 hl (k := 10) rfl (congrArg (_ + ·) (by decide : Int32.ofInt 1 = 1)) (by decide) rfl (fun ls hl => ?_)
            refine lv_goto (tgt := 62) hx hb dX7_balance_129 (by decide) ?_
            exact ih_62 _ _ _ _ _ _ _ _ _ _ _ _ _ hf hP hD hS (lv_sub hl [3, 4, 5, 6, 7, 8, 9, 10, 0] rfl)
          · have hf := it_neg hc_115 hf
            refine lv_iload hx hb dX7_balance_118 (lv_at hl 0 rfl) ?_
            refine lv_istore (lv' := [(9, .int (if 0 ≤ (x6 + (2 * ((t_lowSums (x10 &&& x7).toNatClampNeg) + (t_highSums (x10 >>> (x5 &&& 31)).toNatClampNeg)))) then (x6 + (2 * ((t_lowSums (x10 &&& x7).toNatClampNeg) + (t_highSums (x10 >>> (x5 &&& 31)).toNatClampNeg)))) else 0 - (x6 + (2 * ((t_lowSums (x10 &&& x7).toNatClampNeg) + (t_highSums (x10 >>> (x5 &&& 31)).toNatClampNeg)))))), (12, .int (if 0 ≤ (x6 + (2 * ((t_lowSums (x10 &&& x7).toNatClampNeg) + (t_highSums (x10 >>> (x5 &&& 31)).toNatClampNeg)))) then (x6 + (2 * ((t_lowSums (x10 &&& x7).toNatClampNeg) + (t_highSums (x10 >>> (x5 &&& 31)).toNatClampNeg)))) else 0 - (x6 + (2 * ((t_lowSums (x10 &&& x7).toNatClampNeg) + (t_highSums (x10 >>> (x5 &&& 31)).toNatClampNeg)))))), (11, .int ((t_lowSums (x10 &&& x7).toNatClampNeg) + (t_highSums (x10 >>> (x5 &&& 31)).toNatClampNeg))), (0, .ref a_t), (1, .int x1), (4, .int x4), (5, .int x5), (6, .int x6), (7, .int x7), (8, .int x8), (10, .int x10)]) hx hb dX7_balance_120 hl (by decide) rfl (fun ls hl => ?_)
            refine lv_iload hx hb dX7_balance_122 (lv_at hl 10 rfl) ?_
            refine lv_istore (lv' := [(8, .int x10), (9, .int (if 0 ≤ (x6 + (2 * ((t_lowSums (x10 &&& x7).toNatClampNeg) + (t_highSums (x10 >>> (x5 &&& 31)).toNatClampNeg)))) then (x6 + (2 * ((t_lowSums (x10 &&& x7).toNatClampNeg) + (t_highSums (x10 >>> (x5 &&& 31)).toNatClampNeg)))) else 0 - (x6 + (2 * ((t_lowSums (x10 &&& x7).toNatClampNeg) + (t_highSums (x10 >>> (x5 &&& 31)).toNatClampNeg)))))), (12, .int (if 0 ≤ (x6 + (2 * ((t_lowSums (x10 &&& x7).toNatClampNeg) + (t_highSums (x10 >>> (x5 &&& 31)).toNatClampNeg)))) then (x6 + (2 * ((t_lowSums (x10 &&& x7).toNatClampNeg) + (t_highSums (x10 >>> (x5 &&& 31)).toNatClampNeg)))) else 0 - (x6 + (2 * ((t_lowSums (x10 &&& x7).toNatClampNeg) + (t_highSums (x10 >>> (x5 &&& 31)).toNatClampNeg)))))), (11, .int ((t_lowSums (x10 &&& x7).toNatClampNeg) + (t_highSums (x10 >>> (x5 &&& 31)).toNatClampNeg))), (0, .ref a_t), (1, .int x1), (4, .int x4), (5, .int x5), (6, .int x6), (7, .int x7), (10, .int x10)]) hx hb dX7_balance_124 hl (by decide) rfl (fun ls hl => ?_)
            refine lv_iinc (v := x10 + 1) (lv' := [(10, .int (x10 + 1)), (8, .int x10), (9, .int (if 0 ≤ (x6 + (2 * ((t_lowSums (x10 &&& x7).toNatClampNeg) + (t_highSums (x10 >>> (x5 &&& 31)).toNatClampNeg)))) then (x6 + (2 * ((t_lowSums (x10 &&& x7).toNatClampNeg) + (t_highSums (x10 >>> (x5 &&& 31)).toNatClampNeg)))) else 0 - (x6 + (2 * ((t_lowSums (x10 &&& x7).toNatClampNeg) + (t_highSums (x10 >>> (x5 &&& 31)).toNatClampNeg)))))), (12, .int (if 0 ≤ (x6 + (2 * ((t_lowSums (x10 &&& x7).toNatClampNeg) + (t_highSums (x10 >>> (x5 &&& 31)).toNatClampNeg)))) then (x6 + (2 * ((t_lowSums (x10 &&& x7).toNatClampNeg) + (t_highSums (x10 >>> (x5 &&& 31)).toNatClampNeg)))) else 0 - (x6 + (2 * ((t_lowSums (x10 &&& x7).toNatClampNeg) + (t_highSums (x10 >>> (x5 &&& 31)).toNatClampNeg)))))), (11, .int ((t_lowSums (x10 &&& x7).toNatClampNeg) + (t_highSums (x10 >>> (x5 &&& 31)).toNatClampNeg))), (0, .ref a_t), (1, .int x1), (4, .int x4), (5, .int x5), (6, .int x6), (7, .int x7)]) hx hb dX7_balance_126 hl (k := 10) rfl (congrArg (_ + ·) (by decide : Int32.ofInt 1 = 1)) (by decide) rfl (fun ls hl => ?_)
            refine lv_goto (tgt := 62) hx hb dX7_balance_129 (by decide) ?_
            exact ih_62 _ _ _ _ _ _ _ _ _ _ _ _ _ hf hP hD hS (lv_sub hl [5, 6, 7, 8, 9, 10, 1, 2, 0] rfl)
  refine lv_istore (lv' := [(10, .int 0), (9, .int 1073741824), (8, .int 0), (7, .int ((1 <<< ((if 6 < x1 then 6 else x1) &&& 31)) - 1)), (6, .int ((x2 - x3) - z38)), (5, .int (if 6 < x1 then 6 else x1)), (0, .ref a_t), (1, .int x1), (2, .int x2), (3, .int x3), (4, .int x4)]) hx hb dX7_balance_60 hl (by decide) rfl (fun ls hl => ?_)
  exact J_62 _ _ _ _ _ _ _ _ _ _ _ _ _ _ hf hP hD hS (lv_sub hl [6, 7, 10, 5, 4, 3, 2, 1, 0] rfl)
theorem hd_X7_balance : (yX7_balance).cls = RX7 ∧ (yX7_balance).cls ≠ "java/lang/invoke/MethodHandle" ∧ (yX7_balance).cls ≠ "java/lang/invoke/VarHandle" ∧ (parseMethodDescriptor (yX7_balance).desc).map (fun d => d.parameters.length) = some 4 := by decide +kernel
theorem c_X7_balance (l : Launch) (D : va_G) (cI cB cZ : ClassId) (a_t : Nat) (a_t_tape : Nat) (a_t_tape_bytes : Nat) (a_t_lowSums : Nat) (a_t_highSums : Nat) (a_t_freeAt : Nat) (a_t_rising : Nat) (a_t_used : Nat) (t_tape_length : Int32) (t_tape_bytes : (Nat → Int32)) (t_lowSums : (Nat → Int32)) (t_highSums : (Nat → Int32)) (x1 : Int32) (x2 : Int32) (x3 : Int32) (x4 : Int32) (sz : Nat) (res : Int32 × (Nat → Int32) × (Nat → Int32)) (hf : f_X7_balance t_tape_length t_tape_bytes t_lowSums t_highSums x1 x2 x3 x4 = some res) : Met l yX7_balance (.code yX7_balance cX7_balance 13 (some .int) :: TB) (rmk (2) (47)) (pRW [.ref a_t, .int x1, .int x2, .int x3, .int x4] D cI cB cZ (w_X7_balance cI cB cZ a_t a_t_tape a_t_tape_bytes a_t_lowSums a_t_highSums a_t_freeAt a_t_rising a_t_used t_tape_length t_tape_bytes t_lowSums t_highSums) sz) (qRW (some (.int res.1)) True D (w_X7_balance cI cB cZ a_t a_t_tape a_t_tape_bytes a_t_lowSums a_t_highSums a_t_freeAt a_t_rising a_t_used t_tape_length t_tape_bytes t_lowSums t_highSums) sz (w_X7_balance cI cB cZ a_t a_t_tape a_t_tape_bytes a_t_lowSums a_t_highSums a_t_freeAt a_t_rising a_t_used t_tape_length t_tape_bytes res.2.1 res.2.2)) 0 0 (va_A (w_X7_balance cI cB cZ a_t a_t_tape a_t_tape_bytes a_t_lowSums a_t_highSums a_t_freeAt a_t_rising a_t_used t_tape_length t_tape_bytes t_lowSums t_highSums) sz) :=
  mkRW (by decide +kernel) (Nat.le_of_ble_eq_true rfl) (fun p e s m below meth c ls A hAe S hr hlk hK hA hP hD hS hl => b_X7_balance S.1 S.2.1 S.2.2.1 S.2.2.2.1 S.2.2.2.2 (Nat.le_refl _) (Nat.le_refl _) hK.1 hK.2 hA s.heap [] a_t a_t_tape a_t_tape_bytes a_t_lowSums a_t_highSums a_t_freeAt a_t_rising a_t_used t_tape_length t_tape_bytes t_lowSums t_highSums x1 x2 x3 x4 res hf hP hD hS (fun H locs pc ls hP hD hS hE hd => eRW_i S.1 S.2.1 hr rfl hlk hAe hP hD hS hE hd) ls hl)
def f_X7_withOnePewMore_66 (t_lowSums : (Nat → Int32)) (k6 : Int64 → Int32 → Int32 → Int64 → Int32 → Option (Int64)) (k37 : Int64 → Int32 → Int32 → Int64 → Int32 → Int32 → Int32 → Option (Int64)) (x1 : Int64) (x3 : Int32) (x4 : Int32) (x5 : Int64) (x7 : Int32) (x8 : Int32) (x9 : Int32) : Option (Int64) := k37 x1 x3 x4 x5 x7 x8 ((x9 - 1) &&& x8)
def f_X7_withOnePewMore_37 (t_lowSums : (Nat → Int32)) (k6 : Int64 → Int32 → Int32 → Int64 → Int32 → Option (Int64)) : Nat → Int64 → Int32 → Int32 → Int64 → Int32 → Int32 → Int32 → Option (Int64)
  | 0, _, _, _, _, _, _, _ => none
  | n + 1, x1, x3, x4, x5, x7, x8, x9 => (if x9 ≤ 0 then k6 x1 x3 x4 x5 (x7 + 1) else ix 64 x9 ((if x4 < (t_lowSums x9.toNatClampNeg) then f_X7_withOnePewMore_66 t_lowSums k6 (f_X7_withOnePewMore_37 t_lowSums k6 n) x1 x3 x4 x5 x7 x8 x9 else f_X7_withOnePewMore_66 t_lowSums k6 (f_X7_withOnePewMore_37 t_lowSums k6 n) x1 x3 x4 (x5 ||| (1 <<< ((x7 ||| x9).toInt64 &&& 63))) x7 x8 x9)))
def f_X7_withOnePewMore_31 (t_lowSums : (Nat → Int32)) (k6 : Int64 → Int32 → Int32 → Int64 → Int32 → Option (Int64)) (x1 : Int64) (x3 : Int32) (x4 : Int32) (x5 : Int64) (x7 : Int32) (y0 : Int32) : Option (Int64) := f_X7_withOnePewMore_37 t_lowSums k6 FU x1 x3 x4 x5 x7 y0 y0
def f_X7_withOnePewMore_6 (t_lowSums : (Nat → Int32)) : Nat → Int64 → Int32 → Int32 → Int64 → Int32 → Option (Int64)
  | 0, _, _, _, _, _ => none
  | n + 1, x1, x3, x4, x5, x7 => (if x3 < x7 then some (x5) else (if (lg_cmp ((x1 >>> (x7.toInt64 &&& 63)) &&& 1) 0) = 0 then f_X7_withOnePewMore_31 t_lowSums (f_X7_withOnePewMore_6 t_lowSums n) x1 x3 x4 x5 x7 0 else f_X7_withOnePewMore_31 t_lowSums (f_X7_withOnePewMore_6 t_lowSums n) x1 x3 x4 x5 x7 (x3 - x7)))
def f_X7_withOnePewMore (t_lowSums : (Nat → Int32)) (x1 : Int64) (x3 : Int32) (x4 : Int32) : Option (Int64) := f_X7_withOnePewMore_6 t_lowSums FU x1 x3 x4 x1 0
def w_X7_withOnePewMore (cI cB cZ : ClassId) (a_t : Nat) (a_t_lowSums : Nat) (a_t_tape : Nat) (a_t_highSums : Nat) (a_t_freeAt : Nat) (a_t_rising : Nat) (a_t_used : Nat) (t_lowSums : (Nat → Int32)) : va_W := [(a_t, .inr (6, [.ref a_t_tape, .ref a_t_lowSums, .ref a_t_highSums, .ref a_t_freeAt, .ref a_t_rising, .ref a_t_used])), (a_t_lowSums, .inl (cI, 64, .inl t_lowSums))]
set_option maxHeartbeats 4000000 in
set_option maxRecDepth 100000 in
theorem b_X7_withOnePewMore {p : Program} {l : Launch} {e : Env} {R : Room} {s : State} {m : MethodId} {args : Array Value} {below : List Frame} {meth : Method} {c : Code} {Q : State → Prop} {D : va_G} {cI cB cZ : ClassId} (hx : p.tables.exec = Jvm.exec) (hb : c.code = cX7_withOnePewMore) (hml : c.maxLocals = 10) (hown : s.vm.findClass RX7 = some m.cls) (hT : ∀ w ∈ TB, w.before args s = true) (hRf : (0) ≤ R.frames) (hRl : (0) ≤ R.locals) (hK : va_K D vwCl (tyL cI cB cZ) s) (hN : NW s)  (a_t : Nat) (a_t_lowSums : Nat) (a_t_tape : Nat) (a_t_highSums : Nat) (a_t_freeAt : Nat) (a_t_rising : Nat) (a_t_used : Nat) (t_lowSums : (Nat → Int32)) (x1 : Int64) (x3 : Int32) (x4 : Int32) (res : Int64) (hf : f_X7_withOnePewMore t_lowSums x1 x3 x4 = some res) (hP : va_P D vwCl (w_X7_withOnePewMore cI cB cZ a_t a_t_lowSums a_t_tape a_t_highSums a_t_freeAt a_t_rising a_t_used t_lowSums) s.heap) (hQ : ∀ (pc : Nat) (ls : Array Slot), True → decode cX7_withOnePewMore pc = .ok (.lreturn, 1) → W p l e R s m args below meth c s.heap [] 0 0 Q (F0 m pc ls [.long res])) (ls : Array Slot) (hl : lv_has ls 10 [(0, .ref a_t), (1, .long x1), (3, .int x3), (4, .int x4)]) : W p l e R s m args below meth c s.heap [] 0 0 Q (F0 m 0 ls []) := by
  unfold f_X7_withOnePewMore at hf
  refine lv_lload_n hx hb dX7_withOnePewMore_0 rfl (lv_at hl 1 rfl) ?_
  refine lv_lstore (lv' := [(5, .long x1), (0, .ref a_t), (1, .long x1), (3, .int x3), (4, .int x4)]) hx hb dX7_withOnePewMore_1 hl (by decide) rfl (fun ls hl => ?_)
  refine lv_iconst (v := 0) hx hb dX7_withOnePewMore_3 (by decide) ?_
  have J_6 : ∀ (n_6 : Nat) (x1 : Int64) (x3 : Int32) (x4 : Int32) (x5 : Int64) (x7 : Int32) (ls : Array Slot), f_X7_withOnePewMore_6 t_lowSums n_6 x1 x3 x4 x5 x7 = some res → lv_has ls 10 [(0, .ref a_t), (1, .long x1), (3, .int x3), (4, .int x4), (5, .long x5), (7, .int x7)] → W p l e R s m args below meth c s.heap [] 0 0 Q (F0 m 6 ls []) := by
    intro n_6
    induction n_6 with
    | zero =>
      intro x1 x3 x4 x5 x7 ls hf hl
      cases hf
    | succ n_6 ih_6 =>
      intro x1 x3 x4 x5 x7 ls hf hl
      unfold f_X7_withOnePewMore_6 at hf
      refine lv_iload hx hb dX7_withOnePewMore_6 (lv_at hl 5 rfl) ?_
      refine lv_iload_n hx hb dX7_withOnePewMore_8 rfl (lv_at hl 2 rfl) ?_
      refine lv_icmp_gt (tgt := 84) hx hb dX7_withOnePewMore_9 (by decide) (fun hc_9 => ?_) (fun hc_9 => ?_)
      · have hf := it_pos hc_9 hf
        refine lv_lload hx hb dX7_withOnePewMore_84 (lv_at hl 4 rfl) ?_
        obtain rfl := Option.some.inj hf
        exact hQ 86 ls trivial dX7_withOnePewMore_86
      · have hf := it_neg hc_9 hf
        refine lv_lload_n hx hb dX7_withOnePewMore_12 rfl (lv_at hl 1 rfl) ?_
        refine lv_iload hx hb dX7_withOnePewMore_13 (lv_at hl 5 rfl) ?_
        refine lv_lshr hx hb dX7_withOnePewMore_15 rfl ?_
        refine lv_lconst (v := 1) hx hb dX7_withOnePewMore_16 (by decide) ?_
        refine lv_land hx hb dX7_withOnePewMore_17 ?_
        refine lv_lconst (v := 0) hx hb dX7_withOnePewMore_18 (by decide) ?_
        refine W.lcmp hx hb dX7_withOnePewMore_19 ?_
        have J_31 : ∀ (x1 : Int64) (x3 : Int32) (x4 : Int32) (x5 : Int64) (x7 : Int32) (y0 : Int32) (ls : Array Slot), f_X7_withOnePewMore_31 t_lowSums (f_X7_withOnePewMore_6 t_lowSums n_6) x1 x3 x4 x5 x7 y0 = some res → lv_has ls 10 [(0, .ref a_t), (1, .long x1), (3, .int x3), (4, .int x4), (5, .long x5), (7, .int x7)] → W p l e R s m args below meth c s.heap [] 0 0 Q (F0 m 31 ls [.int y0]) := by
          intro x1 x3 x4 x5 x7 y0 ls hf hl
          unfold f_X7_withOnePewMore_31 at hf
          refine lv_istore (lv' := [(8, .int y0), (0, .ref a_t), (1, .long x1), (3, .int x3), (4, .int x4), (5, .long x5), (7, .int x7)]) hx hb dX7_withOnePewMore_31 hl (by decide) rfl (fun ls hl => ?_)
          refine lv_iload hx hb dX7_withOnePewMore_33 (lv_at hl 0 rfl) ?_
          have J_37 : ∀ (n_37 : Nat) (x1 : Int64) (x3 : Int32) (x4 : Int32) (x5 : Int64) (x7 : Int32) (x8 : Int32) (x9 : Int32) (ls : Array Slot), f_X7_withOnePewMore_37 t_lowSums (f_X7_withOnePewMore_6 t_lowSums n_6) n_37 x1 x3 x4 x5 x7 x8 x9 = some res → lv_has ls 10 [(0, .ref a_t), (1, .long x1), (3, .int x3), (4, .int x4), (5, .long x5), (7, .int x7), (8, .int x8), (9, .int x9)] → W p l e R s m args below meth c s.heap [] 0 0 Q (F0 m 37 ls []) := by
            intro n_37
            induction n_37 with
            | zero =>
              intro x1 x3 x4 x5 x7 x8 x9 ls hf hl
              cases hf
            | succ n_37 ih_37 =>
              intro x1 x3 x4 x5 x7 x8 x9 ls hf hl
              unfold f_X7_withOnePewMore_37 at hf
              refine lv_iload hx hb dX7_withOnePewMore_37 (lv_at hl 7 rfl) ?_
              refine lv_if_le (tgt := 78) hx hb dX7_withOnePewMore_39 (by decide) (fun hc_39 => ?_) (fun hc_39 => ?_)
              · have hf := it_pos hc_39 hf
                refine lv_iinc (v := x7 + 1) (lv' := [(7, .int (x7 + 1)), (0, .ref a_t), (1, .long x1), (3, .int x3), (4, .int x4), (5, .long x5), (8, .int x8), (9, .int x9)]) hx hb dX7_withOnePewMore_78 hl (k := 5) rfl (congrArg (_ + ·) (by decide : Int32.ofInt 1 = 1)) (by decide) rfl (fun ls hl => ?_)
                refine lv_goto (tgt := 6) hx hb dX7_withOnePewMore_81 (by decide) ?_
                exact ih_6 _ _ _ _ _ _ hf (lv_sub hl [1, 2, 3, 4, 5, 0] rfl)
              · have hf := it_neg hc_39 hf
                refine lv_aload_n hx hb dX7_withOnePewMore_42 rfl (lv_at hl 0 rfl) ?_
                refine va_get (D := D) (ci := 6) (v := .ref a_t_lowSums) (C := RX7) (T := TX7) (N := 6) hx hb hT inX7 hown hK hP 0 rfl rfl 1 (by decide) (hT _ tb_289) (fun _ h9 => h9) rfl dX7_withOnePewMore_43 ?_
                refine lv_iload hx hb dX7_withOnePewMore_46 (lv_at hl 7 rfl) ?_
                obtain ⟨hi_48, hf⟩ := ix_some hf
                refine va_iald hx hb hK hP 1 0 rfl rfl hi_48 dX7_withOnePewMore_48 ?_
                refine lv_iload hx hb dX7_withOnePewMore_49 (lv_at hl 3 rfl) ?_
                have J_66 : ∀ (x1 : Int64) (x3 : Int32) (x4 : Int32) (x5 : Int64) (x7 : Int32) (x8 : Int32) (x9 : Int32) (ls : Array Slot), f_X7_withOnePewMore_66 t_lowSums (f_X7_withOnePewMore_6 t_lowSums n_6) (f_X7_withOnePewMore_37 t_lowSums (f_X7_withOnePewMore_6 t_lowSums n_6) n_37) x1 x3 x4 x5 x7 x8 x9 = some res → lv_has ls 10 [(0, .ref a_t), (1, .long x1), (3, .int x3), (4, .int x4), (5, .long x5), (7, .int x7), (8, .int x8), (9, .int x9)] → W p l e R s m args below meth c s.heap [] 0 0 Q (F0 m 66 ls []) := by
                  intro x1 x3 x4 x5 x7 x8 x9 ls hf hl
                  unfold f_X7_withOnePewMore_66 at hf
                  refine lv_iload hx hb dX7_withOnePewMore_66 (lv_at hl 7 rfl) ?_
                  refine lv_iconst (v := 1) hx hb dX7_withOnePewMore_68 (by decide) ?_
                  refine lv_isub hx hb dX7_withOnePewMore_69 ?_
                  refine lv_iload hx hb dX7_withOnePewMore_70 (lv_at hl 6 rfl) ?_
                  refine lv_iand hx hb dX7_withOnePewMore_72 ?_
                  refine lv_istore (lv' := [(9, .int ((x9 - 1) &&& x8)), (0, .ref a_t), (1, .long x1), (3, .int x3), (4, .int x4), (5, .long x5), (7, .int x7), (8, .int x8)]) hx hb dX7_withOnePewMore_73 hl (by decide) rfl (fun ls hl => ?_)
                  refine lv_goto (tgt := 37) hx hb dX7_withOnePewMore_75 (by decide) ?_
                  exact ih_37 _ _ _ _ _ _ _ _ hf (lv_sub hl [1, 2, 3, 4, 5, 6, 7, 0] rfl)
                refine lv_icmp_gt (tgt := 66) hx hb dX7_withOnePewMore_51 (by decide) (fun hc_51 => ?_) (fun hc_51 => ?_)
                · have hf := it_pos hc_51 hf
                  exact J_66 _ _ _ _ _ _ _ _ hf (lv_sub hl [0, 1, 2, 3, 4, 5, 6, 7] rfl)
                · have hf := it_neg hc_51 hf
                  refine lv_lload hx hb dX7_withOnePewMore_54 (lv_at hl 4 rfl) ?_
                  refine lv_lconst (v := 1) hx hb dX7_withOnePewMore_56 (by decide) ?_
                  refine lv_iload hx hb dX7_withOnePewMore_57 (lv_at hl 5 rfl) ?_
                  refine lv_iload hx hb dX7_withOnePewMore_59 (lv_at hl 7 rfl) ?_
                  refine lv_ior hx hb dX7_withOnePewMore_61 ?_
                  refine lv_lshl hx hb dX7_withOnePewMore_62 rfl ?_
                  refine lv_lor hx hb dX7_withOnePewMore_63 ?_
                  refine lv_lstore (lv' := [(5, .long (x5 ||| (1 <<< ((x7 ||| x9).toInt64 &&& 63)))), (0, .ref a_t), (1, .long x1), (3, .int x3), (4, .int x4), (7, .int x7), (8, .int x8), (9, .int x9)]) hx hb dX7_withOnePewMore_64 hl (by decide) rfl (fun ls hl => ?_)
                  exact J_66 _ _ _ _ _ _ _ _ hf (lv_sub hl [1, 2, 3, 4, 0, 5, 6, 7] rfl)
          refine lv_istore (lv' := [(9, .int y0), (8, .int y0), (0, .ref a_t), (1, .long x1), (3, .int x3), (4, .int x4), (5, .long x5), (7, .int x7)]) hx hb dX7_withOnePewMore_35 hl (by decide) rfl (fun ls hl => ?_)
          exact J_37 _ _ _ _ _ _ _ _ _ hf (lv_sub hl [2, 3, 4, 5, 6, 7, 1, 0] rfl)
        refine lv_if_eq (tgt := 30) hx hb dX7_withOnePewMore_20 (by decide) (fun hc_20 => ?_) (fun hc_20 => ?_)
        · have hf := it_pos hc_20 hf
          refine lv_iconst (v := 0) hx hb dX7_withOnePewMore_30 (by decide) ?_
          exact J_31 _ _ _ _ _ _ _ hf (lv_sub hl [0, 1, 2, 3, 4, 5] rfl)
        · have hf := it_neg hc_20 hf
          refine lv_iload_n hx hb dX7_withOnePewMore_23 rfl (lv_at hl 2 rfl) ?_
          refine lv_iload hx hb dX7_withOnePewMore_24 (lv_at hl 5 rfl) ?_
          refine lv_isub hx hb dX7_withOnePewMore_26 ?_
          refine lv_goto (tgt := 31) hx hb dX7_withOnePewMore_27 (by decide) ?_
          exact J_31 _ _ _ _ _ _ _ hf (lv_sub hl [0, 1, 2, 3, 4, 5] rfl)
  refine lv_istore (lv' := [(7, .int 0), (5, .long x1), (0, .ref a_t), (1, .long x1), (3, .int x3), (4, .int x4)]) hx hb dX7_withOnePewMore_4 hl (by decide) rfl (fun ls hl => ?_)
  exact J_6 _ _ _ _ _ _ _ hf (lv_sub hl [2, 3, 4, 5, 1, 0] rfl)
theorem hd_X7_withOnePewMore : (yX7_withOnePewMore).cls = RX7 ∧ (yX7_withOnePewMore).cls ≠ "java/lang/invoke/MethodHandle" ∧ (yX7_withOnePewMore).cls ≠ "java/lang/invoke/VarHandle" ∧ (parseMethodDescriptor (yX7_withOnePewMore).desc).map (fun d => d.parameters.length) = some 3 := by decide +kernel
theorem c_X7_withOnePewMore (l : Launch) (D : va_G) (cI cB cZ : ClassId) (a_t : Nat) (a_t_lowSums : Nat) (a_t_tape : Nat) (a_t_highSums : Nat) (a_t_freeAt : Nat) (a_t_rising : Nat) (a_t_used : Nat) (t_lowSums : (Nat → Int32)) (x1 : Int64) (x3 : Int32) (x4 : Int32) (res : Int64) (hf : f_X7_withOnePewMore t_lowSums x1 x3 x4 = some res) : Met l yX7_withOnePewMore (.code yX7_withOnePewMore cX7_withOnePewMore 10 (some .long) :: TB) (rmk (0) (0)) (pRO [.ref a_t, .long x1, .int x3, .int x4] D cI cB cZ (w_X7_withOnePewMore cI cB cZ a_t a_t_lowSums a_t_tape a_t_highSums a_t_freeAt a_t_rising a_t_used t_lowSums)) (qRO (some (.long res)) True) 0 0 (fun _ => False) :=
  mkRO (by decide +kernel) (Nat.le_of_ble_eq_true rfl) (fun p e s m below meth c ls S hr hlk hK hP hl => b_X7_withOnePewMore S.1 S.2.1 S.2.2.1 S.2.2.2.1 S.2.2.2.2 (Nat.le_refl _) (Nat.le_refl _) hK.1 hK.2 a_t a_t_lowSums a_t_tape a_t_highSums a_t_freeAt a_t_rising a_t_used t_lowSums x1 x3 x4 res hf hP (fun pc ls hE hd => eRO_l S.1 S.2.1 hr hlk hE hd) ls hl)
def f_X7_fitFamilies_97 (t_tape_length : Int32) (t_tape_bytes : (Nat → Int32)) (p1_guests : (Nat → Int32)) : Nat → Int32 → Int32 → Int64 → Int32 → Int32 → (Nat → Int32) → Option (Int32 × (Nat → Int32))
  | 0, _, _, _, _, _, _ => none
  | n + 1, x3, x4, x5, x7, x8, t_lowSums => (if x4 < x8 then (if x3 = 0 then (f_J6_bitCount_0f7a4 x7).bind (fun z145 => some (z145, t_lowSums)) else some (x7, t_lowSums)) else (if (lg_cmp ((x5 >>> (x8.toInt64 &&& 63)) &&& 1) 0) = 0 then (f_X7_fitFamilies_97 t_tape_length t_tape_bytes p1_guests n) x3 x4 x5 x7 (x8 + 1) t_lowSums else (f_J6_bitCount_0f7a4 x8).bind (fun z118 => (f_J6_bitCount_0f7a4 x7).bind (fun z123 => (if z118 ≤ z123 then (f_X7_fitFamilies_97 t_tape_length t_tape_bytes p1_guests n) x3 x4 x5 x7 (x8 + 1) t_lowSums else (f_X7_fitFamilies_97 t_tape_length t_tape_bytes p1_guests n) x3 x4 x5 x8 (x8 + 1) t_lowSums)))))
def f_X7_fitFamilies_59 (t_tape_length : Int32) (t_tape_bytes : (Nat → Int32)) (p1_guests : (Nat → Int32)) : Nat → Int32 → Int32 → Int64 → Int32 → (Nat → Int32) → Option (Int32 × (Nat → Int32))
  | 0, _, _, _, _, _ => none
  | n + 1, x3, x4, x5, x7, t_lowSums => (if 16 ≤ x7 then f_X7_fitFamilies_97 t_tape_length t_tape_bytes p1_guests FU x3 x4 x5 0 0 t_lowSums else (f_X0_sittingIn p1_guests x7).bind (fun z76 => (f_X7_withOnePewMore t_lowSums x5 x4 (9 - z76)).bind (fun z80 => (f_X7_fitFamilies_59 t_tape_length t_tape_bytes p1_guests n) x3 x4 z80 (x7 + 1) t_lowSums)))
def f_X7_fitFamilies_3 (t_tape_length : Int32) (t_tape_bytes : (Nat → Int32)) (p1_guests : (Nat → Int32)) : Nat → Int32 → Int32 → Int32 → (Nat → Int32) → Option (Int32 × (Nat → Int32))
  | 0, _, _, _, _ => none
  | n + 1, x2, x3, x4, t_lowSums => (if x2 ≤ x4 then (f_X7_fillSums t_tape_length t_tape_bytes t_lowSums 0 x2).bind (fun z43 => f_X7_fitFamilies_59 t_tape_length t_tape_bytes p1_guests FU x3 ((1 <<< (x2 &&& 31)) - 1) 1 0 z43) else (f_X8_byteAt t_tape_length t_tape_bytes x4).bind (fun z15 => (f_X11_isWithin z15 1 9).bind (fun z21 => (if z21 = 0 then some ((-2), t_lowSums) else (f_X7_fitFamilies_3 t_tape_length t_tape_bytes p1_guests n) x2 x3 (x4 + 1) t_lowSums))))
def f_X7_fitFamilies (t_tape_length : Int32) (t_tape_bytes : (Nat → Int32)) (t_lowSums : (Nat → Int32)) (p1_guests : (Nat → Int32)) (x2 : Int32) (x3 : Int32) : Option (Int32 × (Nat → Int32)) := f_X7_fitFamilies_3 t_tape_length t_tape_bytes p1_guests FU x2 x3 0 t_lowSums
def w_X7_fitFamilies (cI cB cZ : ClassId) (a_t : Nat) (a_t_tape : Nat) (a_t_tape_bytes : Nat) (a_t_lowSums : Nat) (a_p1 : Nat) (a_p1_guests : Nat) (a_t_highSums : Nat) (a_t_freeAt : Nat) (a_t_rising : Nat) (a_t_used : Nat) (a_p1_numbers : Nat) (a_p1_coats : Nat) (a_p1_line : Nat) (t_tape_length : Int32) (t_tape_bytes : (Nat → Int32)) (t_lowSums : (Nat → Int32)) (p1_waiting : Int32) (p1_arrived : Int32) (p1_standing : Int32) (p1_climbed : Int32) (p1_drawn : Int32) (p1_guests : (Nat → Int32)) : va_W := [(a_t, .inr (6, [.ref a_t_tape, .ref a_t_lowSums, .ref a_t_highSums, .ref a_t_freeAt, .ref a_t_rising, .ref a_t_used])), (a_t_tape, .inr (7, [.ref a_t_tape_bytes, .int t_tape_length])), (a_t_tape_bytes, .inl (cI, 260, .inl t_tape_bytes)), (a_t_lowSums, .inl (cI, 64, .inl t_lowSums)), (a_p1, .inr (0, [.ref a_p1_guests, .ref a_p1_numbers, .ref a_p1_coats, .ref a_p1_line, .int p1_waiting, .int p1_arrived, .int p1_standing, .int p1_climbed, .int p1_drawn])), (a_p1_guests, .inl (cI, 144, .inl p1_guests))]
set_option maxHeartbeats 4000000 in
set_option maxRecDepth 100000 in
theorem b_X7_fitFamilies {p : Program} {l : Launch} {e : Env} {R : Room} {s : State} {m : MethodId} {args : Array Value} {below : List Frame} {meth : Method} {c : Code} {Q : State → Prop} {D : va_G} {cI cB cZ : ClassId} (hx : p.tables.exec = Jvm.exec) (hb : c.code = cX7_fitFamilies) (hml : c.maxLocals = 9) (hown : s.vm.findClass RX7 = some m.cls) (hT : ∀ w ∈ TB, w.before args s = true) (hRf : (3) ≤ R.frames) (hRl : (85) ≤ R.locals) (hK : va_K D vwCl (tyL cI cB cZ) s) (hN : NW s) {A : Nat → Prop} (hA : ∀ q : Nat, s.heap.size ≤ q → A q) (H : Heap) (locs : List Loc)  (a_t : Nat) (a_t_tape : Nat) (a_t_tape_bytes : Nat) (a_t_lowSums : Nat) (a_p1 : Nat) (a_p1_guests : Nat) (a_t_highSums : Nat) (a_t_freeAt : Nat) (a_t_rising : Nat) (a_t_used : Nat) (a_p1_numbers : Nat) (a_p1_coats : Nat) (a_p1_line : Nat) (t_tape_length : Int32) (t_tape_bytes : (Nat → Int32)) (t_lowSums : (Nat → Int32)) (p1_waiting : Int32) (p1_arrived : Int32) (p1_standing : Int32) (p1_climbed : Int32) (p1_drawn : Int32) (p1_guests : (Nat → Int32)) (x2 : Int32) (x3 : Int32) (res : Int32 × (Nat → Int32)) (hf : f_X7_fitFamilies t_tape_length t_tape_bytes t_lowSums p1_guests x2 x3 = some res) (hP : va_P D vwCl (w_X7_fitFamilies cI cB cZ a_t a_t_tape a_t_tape_bytes a_t_lowSums a_p1 a_p1_guests a_t_highSums a_t_freeAt a_t_rising a_t_used a_p1_numbers a_p1_coats a_p1_line t_tape_length t_tape_bytes t_lowSums p1_waiting p1_arrived p1_standing p1_climbed p1_drawn p1_guests) H) (hD : va_D A (w_X7_fitFamilies cI cB cZ a_t a_t_tape a_t_tape_bytes a_t_lowSums a_p1 a_p1_guests a_t_highSums a_t_freeAt a_t_rising a_t_used a_p1_numbers a_p1_coats a_p1_line t_tape_length t_tape_bytes t_lowSums p1_waiting p1_arrived p1_standing p1_climbed p1_drawn p1_guests)) (hS : va_S A s.heap H locs) (hQ : ∀ (H : Heap) (locs : List Loc) (pc : Nat) (ls : Array Slot), va_P D vwCl (w_X7_fitFamilies cI cB cZ a_t a_t_tape a_t_tape_bytes a_t_lowSums a_p1 a_p1_guests a_t_highSums a_t_freeAt a_t_rising a_t_used a_p1_numbers a_p1_coats a_p1_line t_tape_length t_tape_bytes res.2 p1_waiting p1_arrived p1_standing p1_climbed p1_drawn p1_guests) H → va_D A (w_X7_fitFamilies cI cB cZ a_t a_t_tape a_t_tape_bytes a_t_lowSums a_p1 a_p1_guests a_t_highSums a_t_freeAt a_t_rising a_t_used a_p1_numbers a_p1_coats a_p1_line t_tape_length t_tape_bytes res.2 p1_waiting p1_arrived p1_standing p1_climbed p1_drawn p1_guests) → va_S A s.heap H locs → True → decode cX7_fitFamilies pc = .ok (.ireturn, 1) → W p l e R s m args below meth c H locs 0 0 Q (F0 m pc ls [.int res.1])) (ls : Array Slot) (hl : lv_has ls 9 [(0, .ref a_t), (1, .ref a_p1), (2, .int x2), (3, .int x3)]) : W p l e R s m args below meth c H locs 0 0 Q (F0 m 0 ls []) := by
  unfold f_X7_fitFamilies at hf
  refine lv_iconst (v := 0) hx hb dX7_fitFamilies_0 (by decide) ?_
  have J_3 : ∀ (n_3 : Nat) (x2 : Int32) (x3 : Int32) (x4 : Int32) (t_lowSums : (Nat → Int32)) (H : Heap) (locs : List Loc) (ls : Array Slot), f_X7_fitFamilies_3 t_tape_length t_tape_bytes p1_guests n_3 x2 x3 x4 t_lowSums = some res → va_P D vwCl (w_X7_fitFamilies cI cB cZ a_t a_t_tape a_t_tape_bytes a_t_lowSums a_p1 a_p1_guests a_t_highSums a_t_freeAt a_t_rising a_t_used a_p1_numbers a_p1_coats a_p1_line t_tape_length t_tape_bytes t_lowSums p1_waiting p1_arrived p1_standing p1_climbed p1_drawn p1_guests) H → va_D A (w_X7_fitFamilies cI cB cZ a_t a_t_tape a_t_tape_bytes a_t_lowSums a_p1 a_p1_guests a_t_highSums a_t_freeAt a_t_rising a_t_used a_p1_numbers a_p1_coats a_p1_line t_tape_length t_tape_bytes t_lowSums p1_waiting p1_arrived p1_standing p1_climbed p1_drawn p1_guests) → va_S A s.heap H locs → lv_has ls 9 [(0, .ref a_t), (1, .ref a_p1), (2, .int x2), (3, .int x3), (4, .int x4)] → W p l e R s m args below meth c H locs 0 0 Q (F0 m 3 ls []) := by
    intro n_3
    induction n_3 with
    | zero =>
      intro x2 x3 x4 t_lowSums H locs ls hf hP hD hS hl
      cases hf
    | succ n_3 ih_3 =>
      intro x2 x3 x4 t_lowSums H locs ls hf hP hD hS hl
      unfold f_X7_fitFamilies_3 at hf
      refine lv_iload hx hb dX7_fitFamilies_3 (lv_at hl 4 rfl) ?_
      refine lv_iload_n hx hb dX7_fitFamilies_5 rfl (lv_at hl 2 rfl) ?_
      refine lv_icmp_ge (tgt := 36) hx hb dX7_fitFamilies_6 (by decide) (fun hc_6 => ?_) (fun hc_6 => ?_)
      · have hf := it_pos hc_6 hf
        refine lv_aload_n hx hb dX7_fitFamilies_36 rfl (lv_at hl 0 rfl) ?_
        refine lv_iconst (v := 0) hx hb dX7_fitFamilies_37 (by decide) ?_
        refine lv_iload_n hx hb dX7_fitFamilies_38 rfl (lv_at hl 2 rfl) ?_
        refine lv_aload_n hx hb dX7_fitFamilies_39 rfl (lv_at hl 0 rfl) ?_
        refine va_get (D := D) (ci := 6) (v := .ref a_t_lowSums) (C := RX7) (T := TX7) (N := 6) hx hb hT inX7 hown hK hP 0 rfl rfl 1 (by decide) (hT _ tb_289) (fun _ h9 => h9) rfl dX7_fitFamilies_40 ?_
        obtain ⟨z43, e43, hf⟩ := bd_some hf
        refine rV_RW (As := [.int 0, .int x2, .ref a_t_lowSums]) (rest := []) (w2 := (w_X7_fitFamilies cI cB cZ a_t a_t_tape a_t_tape_bytes a_t_lowSums a_p1 a_p1_guests a_t_highSums a_t_freeAt a_t_rising a_t_used a_p1_numbers a_p1_coats a_p1_line t_tape_length t_tape_bytes z43 p1_waiting p1_arrived p1_standing p1_climbed p1_drawn p1_guests)) ⟨hx, hb, hml, hown, hT⟩ (gdV tb_938 tb_940 tb_20 tb_95 tb_941) hd_X7_fillSums (c_X7_fillSums l D cI cB cZ a_t a_t_tape a_t_tape_bytes a_t_lowSums a_t_lowSums a_t_highSums a_t_freeAt a_t_rising a_t_used t_tape_length t_tape_bytes t_lowSums 0 x2 H.size z43 e43) ⟨rfl, rfl⟩ ⟨Nat.le_trans (by decide) hRf, Nat.le_trans (by decide) hRl⟩ ⟨hK, hN⟩ hA hP hD hS [0, 1, 2, 3] [4, 5] rfl (by decide) (wr := [_, _]) rfl (by decide) (by decide) [2, 3, 4, 5, 0, 1] rfl (by decide) 0 rfl rfl rfl hl.1 rfl (Nat.le_of_ble_eq_true rfl) ⟨Nat.zero_le _, Nat.zero_le _⟩ dX7_fitFamilies_43 (fun H locs hP hD hS _ => ?_)
        refine lv_iconst (v := 1) hx hb dX7_fitFamilies_46 (by decide) ?_
        refine lv_iload_n hx hb dX7_fitFamilies_47 rfl (lv_at hl 2 rfl) ?_
        refine lv_ishl hx hb dX7_fitFamilies_48 ?_
        refine lv_iconst (v := 1) hx hb dX7_fitFamilies_49 (by decide) ?_
        refine lv_isub hx hb dX7_fitFamilies_50 ?_
        refine lv_istore (lv' := [(4, .int ((1 <<< (x2 &&& 31)) - 1)), (0, .ref a_t), (1, .ref a_p1), (2, .int x2), (3, .int x3)]) hx hb dX7_fitFamilies_51 hl (by decide) rfl (fun ls hl => ?_)
        refine lv_lconst (v := 1) hx hb dX7_fitFamilies_53 (by decide) ?_
        refine lv_lstore (lv' := [(5, .long 1), (4, .int ((1 <<< (x2 &&& 31)) - 1)), (0, .ref a_t), (1, .ref a_p1), (2, .int x2), (3, .int x3)]) hx hb dX7_fitFamilies_54 hl (by decide) rfl (fun ls hl => ?_)
        refine lv_iconst (v := 0) hx hb dX7_fitFamilies_56 (by decide) ?_
        have J_59 : ∀ (n_59 : Nat) (x3 : Int32) (x4 : Int32) (x5 : Int64) (x7 : Int32) (t_lowSums : (Nat → Int32)) (H : Heap) (locs : List Loc) (ls : Array Slot), f_X7_fitFamilies_59 t_tape_length t_tape_bytes p1_guests n_59 x3 x4 x5 x7 t_lowSums = some res → va_P D vwCl (w_X7_fitFamilies cI cB cZ a_t a_t_tape a_t_tape_bytes a_t_lowSums a_p1 a_p1_guests a_t_highSums a_t_freeAt a_t_rising a_t_used a_p1_numbers a_p1_coats a_p1_line t_tape_length t_tape_bytes t_lowSums p1_waiting p1_arrived p1_standing p1_climbed p1_drawn p1_guests) H → va_D A (w_X7_fitFamilies cI cB cZ a_t a_t_tape a_t_tape_bytes a_t_lowSums a_p1 a_p1_guests a_t_highSums a_t_freeAt a_t_rising a_t_used a_p1_numbers a_p1_coats a_p1_line t_tape_length t_tape_bytes t_lowSums p1_waiting p1_arrived p1_standing p1_climbed p1_drawn p1_guests) → va_S A s.heap H locs → lv_has ls 9 [(0, .ref a_t), (1, .ref a_p1), (3, .int x3), (4, .int x4), (5, .long x5), (7, .int x7)] → W p l e R s m args below meth c H locs 0 0 Q (F0 m 59 ls []) := by
          intro n_59
          induction n_59 with
          | zero =>
            intro x3 x4 x5 x7 t_lowSums H locs ls hf hP hD hS hl
            cases hf
          | succ n_59 ih_59 =>
            intro x3 x4 x5 x7 t_lowSums H locs ls hf hP hD hS hl
            unfold f_X7_fitFamilies_59 at hf
            refine lv_iload hx hb dX7_fitFamilies_59 (lv_at hl 5 rfl) ?_
            refine lv_bipush (v := 16) hx hb dX7_fitFamilies_61 (by decide) ?_
            refine lv_icmp_ge (tgt := 91) hx hb dX7_fitFamilies_63 (by decide) (fun hc_63 => ?_) (fun hc_63 => ?_)
            · have hf := it_pos hc_63 hf
              refine lv_iconst (v := 0) hx hb dX7_fitFamilies_91 (by decide) ?_
              refine lv_istore (lv' := [(7, .int 0), (0, .ref a_t), (1, .ref a_p1), (3, .int x3), (4, .int x4), (5, .long x5)]) hx hb dX7_fitFamilies_92 hl (by decide) rfl (fun ls hl => ?_)
              refine lv_iconst (v := 0) hx hb dX7_fitFamilies_94 (by decide) ?_
              have J_97 : ∀ (n_97 : Nat) (x3 : Int32) (x4 : Int32) (x5 : Int64) (x7 : Int32) (x8 : Int32) (t_lowSums : (Nat → Int32)) (H : Heap) (locs : List Loc) (ls : Array Slot), f_X7_fitFamilies_97 t_tape_length t_tape_bytes p1_guests n_97 x3 x4 x5 x7 x8 t_lowSums = some res → va_P D vwCl (w_X7_fitFamilies cI cB cZ a_t a_t_tape a_t_tape_bytes a_t_lowSums a_p1 a_p1_guests a_t_highSums a_t_freeAt a_t_rising a_t_used a_p1_numbers a_p1_coats a_p1_line t_tape_length t_tape_bytes t_lowSums p1_waiting p1_arrived p1_standing p1_climbed p1_drawn p1_guests) H → va_D A (w_X7_fitFamilies cI cB cZ a_t a_t_tape a_t_tape_bytes a_t_lowSums a_p1 a_p1_guests a_t_highSums a_t_freeAt a_t_rising a_t_used a_p1_numbers a_p1_coats a_p1_line t_tape_length t_tape_bytes t_lowSums p1_waiting p1_arrived p1_standing p1_climbed p1_drawn p1_guests) → va_S A s.heap H locs → lv_has ls 9 [(3, .int x3), (4, .int x4), (5, .long x5), (7, .int x7), (8, .int x8)] → W p l e R s m args below meth c H locs 0 0 Q (F0 m 97 ls []) := by
                intro n_97
                induction n_97 with
                | zero =>
                  intro x3 x4 x5 x7 x8 t_lowSums H locs ls hf hP hD hS hl
                  cases hf
                | succ n_97 ih_97 =>
                  intro x3 x4 x5 x7 x8 t_lowSums H locs ls hf hP hD hS hl
                  unfold f_X7_fitFamilies_97 at hf
                  refine lv_iload hx hb dX7_fitFamilies_97 (lv_at hl 4 rfl) ?_
                  refine lv_iload hx hb dX7_fitFamilies_99 (lv_at hl 1 rfl) ?_
                  refine lv_icmp_gt (tgt := 139) hx hb dX7_fitFamilies_101 (by decide) (fun hc_101 => ?_) (fun hc_101 => ?_)
                  · have hf := it_pos hc_101 hf
                    refine lv_iload_n hx hb dX7_fitFamilies_139 rfl (lv_at hl 0 rfl) ?_
                    refine lv_if_ne (tgt := 151) hx hb dX7_fitFamilies_140 (by decide) (fun hc_140 => ?_) (fun hc_140 => ?_)
                    · have hf := it_neg hc_140 hf
                      refine lv_iload hx hb dX7_fitFamilies_151 (lv_at hl 3 rfl) ?_
                      obtain rfl := Option.some.inj hf
                      exact hQ H locs 153 ls hP hD hS trivial dX7_fitFamilies_153
                    · have hf := it_pos hc_140 hf
                      refine lv_iload hx hb dX7_fitFamilies_143 (lv_at hl 3 rfl) ?_
                      obtain ⟨z145, e145, hf⟩ := bd_some hf
                      refine rS_RO (As := [.int x7]) (rest := []) ⟨hx, hb, hml, hown, hT⟩ (gdS tb_976 tb_977 tb_106 tb_978) hd_J6_bitCount_0f7a4 (c_J6_bitCount_0f7a4 l D cI cB cZ x7 z145 e145) ⟨rfl, rfl⟩ ⟨Nat.le_trans (by decide) hRf, Nat.le_trans (by decide) hRl⟩ ⟨hK, hN⟩ hP [] rfl rfl hl.1 rfl (Nat.le_of_ble_eq_true rfl) ⟨Nat.zero_le _, Nat.zero_le _⟩ dX7_fitFamilies_145 (fun _ => ?_)
                      refine lv_goto (tgt := 153) hx hb dX7_fitFamilies_148 (by decide) ?_
                      obtain rfl := Option.some.inj hf
                      exact hQ H locs 153 ls hP hD hS trivial dX7_fitFamilies_153
                  · have hf := it_neg hc_101 hf
                    refine lv_lload hx hb dX7_fitFamilies_104 (lv_at hl 2 rfl) ?_
                    refine lv_iload hx hb dX7_fitFamilies_106 (lv_at hl 4 rfl) ?_
                    refine lv_lshr hx hb dX7_fitFamilies_108 rfl ?_
                    refine lv_lconst (v := 1) hx hb dX7_fitFamilies_109 (by decide) ?_
                    refine lv_land hx hb dX7_fitFamilies_110 ?_
                    refine lv_lconst (v := 0) hx hb dX7_fitFamilies_111 (by decide) ?_
                    refine W.lcmp hx hb dX7_fitFamilies_112 ?_
                    refine lv_if_eq (tgt := 133) hx hb dX7_fitFamilies_113 (by decide) (fun hc_113 => ?_) (fun hc_113 => ?_)
                    · have hf := it_pos hc_113 hf
                      refine lv_iinc (v := x8 + 1) (lv' := [(8, .int (x8 + 1)), (3, .int x3), (4, .int x4), (5, .long x5), (7, .int x7)]) hx hb dX7_fitFamilies_133 hl (k := 4) rfl (congrArg (_ + ·) (by decide : Int32.ofInt 1 = 1)) (by decide) rfl (fun ls hl => ?_)
                      refine lv_goto (tgt := 97) hx hb dX7_fitFamilies_136 (by decide) ?_
                      exact ih_97 _ _ _ _ _ _ _ _ _ hf hP hD hS (lv_sub hl [1, 2, 3, 4, 0] rfl)
                    · have hf := it_neg hc_113 hf
                      refine lv_iload hx hb dX7_fitFamilies_116 (lv_at hl 4 rfl) ?_
                      obtain ⟨z118, e118, hf⟩ := bd_some hf
                      refine rS_RO (As := [.int x8]) (rest := []) ⟨hx, hb, hml, hown, hT⟩ (gdS tb_976 tb_977 tb_106 tb_978) hd_J6_bitCount_0f7a4 (c_J6_bitCount_0f7a4 l D cI cB cZ x8 z118 e118) ⟨rfl, rfl⟩ ⟨Nat.le_trans (by decide) hRf, Nat.le_trans (by decide) hRl⟩ ⟨hK, hN⟩ hP [] rfl rfl hl.1 rfl (Nat.le_of_ble_eq_true rfl) ⟨Nat.zero_le _, Nat.zero_le _⟩ dX7_fitFamilies_118 (fun _ => ?_)
                      refine lv_iload hx hb dX7_fitFamilies_121 (lv_at hl 3 rfl) ?_
                      obtain ⟨z123, e123, hf⟩ := bd_some hf
                      refine rS_RO (As := [.int x7]) (rest := [.int z118]) ⟨hx, hb, hml, hown, hT⟩ (gdS tb_976 tb_977 tb_106 tb_978) hd_J6_bitCount_0f7a4 (c_J6_bitCount_0f7a4 l D cI cB cZ x7 z123 e123) ⟨rfl, rfl⟩ ⟨Nat.le_trans (by decide) hRf, Nat.le_trans (by decide) hRl⟩ ⟨hK, hN⟩ hP [] rfl rfl hl.1 rfl (Nat.le_of_ble_eq_true rfl) ⟨Nat.zero_le _, Nat.zero_le _⟩ dX7_fitFamilies_123 (fun _ => ?_)
                      refine lv_icmp_le (tgt := 133) hx hb dX7_fitFamilies_126 (by decide) (fun hc_126 => ?_) (fun hc_126 => ?_)
                      · have hf := it_pos hc_126 hf
                        refine lv_iinc (v := x8 + 1) (lv' := [(8, .int (x8 + 1)), (3, .int x3), (4, .int x4), (5, .long x5), (7, .int x7)]) hx hb dX7_fitFamilies_133 hl (k := 4) rfl (congrArg (_ + ·) (by decide : Int32.ofInt 1 = 1)) (by decide) rfl (fun ls hl => ?_)
                        refine lv_goto (tgt := 97) hx hb dX7_fitFamilies_136 (by decide) ?_
                        exact ih_97 _ _ _ _ _ _ _ _ _ hf hP hD hS (lv_sub hl [1, 2, 3, 4, 0] rfl)
                      · have hf := it_neg hc_126 hf
                        refine lv_iload hx hb dX7_fitFamilies_129 (lv_at hl 4 rfl) ?_
                        refine lv_istore (lv' := [(7, .int x8), (3, .int x3), (4, .int x4), (5, .long x5), (8, .int x8)]) hx hb dX7_fitFamilies_131 hl (by decide) rfl (fun ls hl => ?_)
                        refine lv_iinc (v := x8 + 1) (lv' := [(8, .int (x8 + 1)), (7, .int x8), (3, .int x3), (4, .int x4), (5, .long x5)]) hx hb dX7_fitFamilies_133 hl (k := 4) rfl (congrArg (_ + ·) (by decide : Int32.ofInt 1 = 1)) (by decide) rfl (fun ls hl => ?_)
                        refine lv_goto (tgt := 97) hx hb dX7_fitFamilies_136 (by decide) ?_
                        exact ih_97 _ _ _ _ _ _ _ _ _ hf hP hD hS (lv_sub hl [2, 3, 4, 1, 0] rfl)
              refine lv_istore (lv' := [(8, .int 0), (7, .int 0), (0, .ref a_t), (1, .ref a_p1), (3, .int x3), (4, .int x4), (5, .long x5)]) hx hb dX7_fitFamilies_95 hl (by decide) rfl (fun ls hl => ?_)
              exact J_97 _ _ _ _ _ _ _ _ _ _ hf hP hD hS (lv_sub hl [4, 5, 6, 1, 0] rfl)
            · have hf := it_neg hc_63 hf
              refine lv_aload_n hx hb dX7_fitFamilies_66 rfl (lv_at hl 0 rfl) ?_
              refine lv_lload hx hb dX7_fitFamilies_67 (lv_at hl 4 rfl) ?_
              refine lv_iload hx hb dX7_fitFamilies_69 (lv_at hl 3 rfl) ?_
              refine lv_bipush (v := 9) hx hb dX7_fitFamilies_71 (by decide) ?_
              refine lv_aload_n hx hb dX7_fitFamilies_73 rfl (lv_at hl 1 rfl) ?_
              refine lv_iload hx hb dX7_fitFamilies_74 (lv_at hl 5 rfl) ?_
              obtain ⟨z76, e76, hf⟩ := bd_some hf
              refine rV_RO (As := [.int x7]) (rest := [.int 9, .int x4, .long x5, .ref a_t]) ⟨hx, hb, hml, hown, hT⟩ (gdV tb_971 tb_774 tb_775 tb_88 tb_776) hd_X0_sittingIn (c_X0_sittingIn l D cI cB cZ a_p1 a_p1_guests a_p1_numbers a_p1_coats a_p1_line p1_waiting p1_arrived p1_standing p1_climbed p1_drawn p1_guests x7 z76 e76) ⟨rfl, rfl⟩ ⟨Nat.le_trans (by decide) hRf, Nat.le_trans (by decide) hRl⟩ ⟨hK, hN⟩ hP [4, 5] rfl 4 rfl rfl rfl hl.1 rfl (Nat.le_of_ble_eq_true rfl) ⟨Nat.zero_le _, Nat.zero_le _⟩ dX7_fitFamilies_76 (fun _ => ?_)
              refine lv_isub hx hb dX7_fitFamilies_79 ?_
              obtain ⟨z80, e80, hf⟩ := bd_some hf
              refine rV_RO (As := [.long x5, .int x4, .int (9 - z76)]) (rest := []) ⟨hx, hb, hml, hown, hT⟩ (gdV tb_972 tb_974 tb_22 tb_95 tb_975) hd_X7_withOnePewMore (c_X7_withOnePewMore l D cI cB cZ a_t a_t_lowSums a_t_tape a_t_highSums a_t_freeAt a_t_rising a_t_used t_lowSums x5 x4 (9 - z76) z80 e80) ⟨rfl, rfl⟩ ⟨Nat.le_trans (by decide) hRf, Nat.le_trans (by decide) hRl⟩ ⟨hK, hN⟩ hP [0, 3] rfl 0 rfl rfl rfl hl.1 rfl (Nat.le_of_ble_eq_true rfl) ⟨Nat.zero_le _, Nat.zero_le _⟩ dX7_fitFamilies_80 (fun _ => ?_)
              refine lv_lstore (lv' := [(5, .long z80), (0, .ref a_t), (1, .ref a_p1), (3, .int x3), (4, .int x4), (7, .int x7)]) hx hb dX7_fitFamilies_83 hl (by decide) rfl (fun ls hl => ?_)
              refine lv_iinc (v := x7 + 1) (lv' := [(7, .int (x7 + 1)), (5, .long z80), (0, .ref a_t), (1, .ref a_p1), (3, .int x3), (4, .int x4)]) hx hb dX7_fitFamilies_85 hl (k := 5) rfl (congrArg (_ + ·) (by decide : Int32.ofInt 1 = 1)) (by decide) rfl (fun ls hl => ?_)
              refine lv_goto (tgt := 59) hx hb dX7_fitFamilies_88 (by decide) ?_
              exact ih_59 _ _ _ _ _ _ _ _ hf hP hD hS (lv_sub hl [2, 3, 4, 5, 1, 0] rfl)
        refine lv_istore (lv' := [(7, .int 0), (5, .long 1), (4, .int ((1 <<< (x2 &&& 31)) - 1)), (0, .ref a_t), (1, .ref a_p1), (2, .int x2), (3, .int x3)]) hx hb dX7_fitFamilies_57 hl (by decide) rfl (fun ls hl => ?_)
        exact J_59 _ _ _ _ _ _ _ _ _ hf hP hD hS (lv_sub hl [3, 4, 6, 2, 1, 0] rfl)
      · have hf := it_neg hc_6 hf
        refine lv_aload_n hx hb dX7_fitFamilies_9 rfl (lv_at hl 0 rfl) ?_
        refine va_get (D := D) (ci := 6) (v := .ref a_t_tape) (C := RX7) (T := TX7) (N := 6) hx hb hT inX7 hown hK hP 0 rfl rfl 0 (by decide) (hT _ tb_288) (fun _ h9 => h9) rfl dX7_fitFamilies_10 ?_
        refine lv_iload hx hb dX7_fitFamilies_13 (lv_at hl 4 rfl) ?_
        obtain ⟨z15, e15, hf⟩ := bd_some hf
        refine rV_RO (As := [.int x4]) (rest := []) ⟨hx, hb, hml, hown, hT⟩ (gdV tb_942 tb_943 tb_944 tb_86 tb_945) hd_X8_byteAt (c_X8_byteAt l D cI cB cZ a_t_tape a_t_tape_bytes t_tape_length t_tape_bytes x4 z15 e15) ⟨rfl, rfl⟩ ⟨Nat.le_trans (by decide) hRf, Nat.le_trans (by decide) hRl⟩ ⟨hK, hN⟩ hP [1, 2] rfl 1 rfl rfl rfl hl.1 rfl (Nat.le_of_ble_eq_true rfl) ⟨Nat.zero_le _, Nat.zero_le _⟩ dX7_fitFamilies_15 (fun _ => ?_)
        refine lv_iconst (v := 1) hx hb dX7_fitFamilies_18 (by decide) ?_
        refine lv_bipush (v := 9) hx hb dX7_fitFamilies_19 (by decide) ?_
        obtain ⟨z21, e21, hf⟩ := bd_some hf
        refine rSN_RO (As := [.int z15, .int 1, .int 9]) (rest := []) ⟨hx, hb, hml, hown, hT⟩ (hN _ (List.mem_of_getElem? (i := 3) rfl)) tb_393 tb_85 tb_394 hd_X11_isWithin (c_X11_isWithin l D cI cB cZ z15 1 9 z21 e21) ⟨rfl, rfl⟩ ⟨Nat.le_trans (by decide) hRf, Nat.le_trans (by decide) hRl⟩ ⟨hK, hN⟩ hP [] rfl rfl hl.1 rfl (Nat.le_of_ble_eq_true rfl) ⟨Nat.zero_le _, Nat.zero_le _⟩ dX7_fitFamilies_21 (fun hz_21 => ?_)
        refine lv_if_ne (tgt := 30) hx hb dX7_fitFamilies_24 (by decide) (fun hc_24 => ?_) (fun hc_24 => ?_)
        · have hf := it_neg hc_24 hf
          refine lv_iinc (v := x4 + 1) (lv' := [(4, .int (x4 + 1)), (0, .ref a_t), (1, .ref a_p1), (2, .int x2), (3, .int x3)]) hx hb dX7_fitFamilies_30 hl (k := 4) rfl (congrArg (_ + ·) (by decide : Int32.ofInt 1 = 1)) (by decide) rfl (fun ls hl => ?_)
          refine lv_goto (tgt := 3) hx hb dX7_fitFamilies_33 (by decide) ?_
          exact ih_3 _ _ _ _ _ _ _ hf hP hD hS (lv_sub hl [1, 2, 3, 4, 0] rfl)
        · have hf := it_pos hc_24 hf
          refine lv_bipush (v := (-2)) hx hb dX7_fitFamilies_27 (by decide) ?_
          obtain rfl := Option.some.inj hf
          exact hQ H locs 29 ls hP hD hS trivial dX7_fitFamilies_29
  refine lv_istore (lv' := [(4, .int 0), (0, .ref a_t), (1, .ref a_p1), (2, .int x2), (3, .int x3)]) hx hb dX7_fitFamilies_1 hl (by decide) rfl (fun ls hl => ?_)
  exact J_3 _ _ _ _ _ _ _ _ hf hP hD hS (lv_sub hl [1, 2, 3, 4, 0] rfl)
theorem hd_X7_fitFamilies : (yX7_fitFamilies).cls = RX7 ∧ (yX7_fitFamilies).cls ≠ "java/lang/invoke/MethodHandle" ∧ (yX7_fitFamilies).cls ≠ "java/lang/invoke/VarHandle" ∧ (parseMethodDescriptor (yX7_fitFamilies).desc).map (fun d => d.parameters.length) = some 3 := by decide +kernel
theorem c_X7_fitFamilies (l : Launch) (D : va_G) (cI cB cZ : ClassId) (a_t : Nat) (a_t_tape : Nat) (a_t_tape_bytes : Nat) (a_t_lowSums : Nat) (a_p1 : Nat) (a_p1_guests : Nat) (a_t_highSums : Nat) (a_t_freeAt : Nat) (a_t_rising : Nat) (a_t_used : Nat) (a_p1_numbers : Nat) (a_p1_coats : Nat) (a_p1_line : Nat) (t_tape_length : Int32) (t_tape_bytes : (Nat → Int32)) (t_lowSums : (Nat → Int32)) (p1_waiting : Int32) (p1_arrived : Int32) (p1_standing : Int32) (p1_climbed : Int32) (p1_drawn : Int32) (p1_guests : (Nat → Int32)) (x2 : Int32) (x3 : Int32) (sz : Nat) (res : Int32 × (Nat → Int32)) (hf : f_X7_fitFamilies t_tape_length t_tape_bytes t_lowSums p1_guests x2 x3 = some res) : Met l yX7_fitFamilies (.code yX7_fitFamilies cX7_fitFamilies 9 (some .int) :: TB) (rmk (3) (85)) (pRW [.ref a_t, .ref a_p1, .int x2, .int x3] D cI cB cZ (w_X7_fitFamilies cI cB cZ a_t a_t_tape a_t_tape_bytes a_t_lowSums a_p1 a_p1_guests a_t_highSums a_t_freeAt a_t_rising a_t_used a_p1_numbers a_p1_coats a_p1_line t_tape_length t_tape_bytes t_lowSums p1_waiting p1_arrived p1_standing p1_climbed p1_drawn p1_guests) sz) (qRW (some (.int res.1)) True D (w_X7_fitFamilies cI cB cZ a_t a_t_tape a_t_tape_bytes a_t_lowSums a_p1 a_p1_guests a_t_highSums a_t_freeAt a_t_rising a_t_used a_p1_numbers a_p1_coats a_p1_line t_tape_length t_tape_bytes t_lowSums p1_waiting p1_arrived p1_standing p1_climbed p1_drawn p1_guests) sz (w_X7_fitFamilies cI cB cZ a_t a_t_tape a_t_tape_bytes a_t_lowSums a_p1 a_p1_guests a_t_highSums a_t_freeAt a_t_rising a_t_used a_p1_numbers a_p1_coats a_p1_line t_tape_length t_tape_bytes res.2 p1_waiting p1_arrived p1_standing p1_climbed p1_drawn p1_guests)) 0 0 (va_A (w_X7_fitFamilies cI cB cZ a_t a_t_tape a_t_tape_bytes a_t_lowSums a_p1 a_p1_guests a_t_highSums a_t_freeAt a_t_rising a_t_used a_p1_numbers a_p1_coats a_p1_line t_tape_length t_tape_bytes t_lowSums p1_waiting p1_arrived p1_standing p1_climbed p1_drawn p1_guests) sz) :=
  mkRW (by decide +kernel) (Nat.le_of_ble_eq_true rfl) (fun p e s m below meth c ls A hAe S hr hlk hK hA hP hD hS hl => b_X7_fitFamilies S.1 S.2.1 S.2.2.1 S.2.2.2.1 S.2.2.2.2 (Nat.le_refl _) (Nat.le_refl _) hK.1 hK.2 hA s.heap [] a_t a_t_tape a_t_tape_bytes a_t_lowSums a_p1 a_p1_guests a_t_highSums a_t_freeAt a_t_rising a_t_used a_p1_numbers a_p1_coats a_p1_line t_tape_length t_tape_bytes t_lowSums p1_waiting p1_arrived p1_standing p1_climbed p1_drawn p1_guests x2 x3 res hf hP hD hS (fun H locs pc ls hP hD hS hE hd => eRW_i S.1 S.2.1 hr rfl hlk hAe hP hD hS hE hd) ls hl)
def f_X7_firstFree_4 (t_freeAt : (Nat → Int32)) : Nat → Int32 → Int32 → Int32 → Option (Int32)
  | 0, _, _, _ => none
  | n + 1, x1, x2, x3 => (if x1 ≤ x3 then some (x2) else (if 8 ≤ x3 then some (x2) else ix 8 x3 (ix 8 x2 ((if (t_freeAt x2.toNatClampNeg) ≤ (t_freeAt x3.toNatClampNeg) then (f_X7_firstFree_4 t_freeAt n) x1 x2 (x3 + 1) else (f_X7_firstFree_4 t_freeAt n) x1 x3 (x3 + 1))))))
def f_X7_firstFree (t_freeAt : (Nat → Int32)) (x1 : Int32) : Option (Int32) := f_X7_firstFree_4 t_freeAt FU x1 0 1
def w_X7_firstFree (cI cB cZ : ClassId) (a_t : Nat) (a_t_freeAt : Nat) (a_t_tape : Nat) (a_t_lowSums : Nat) (a_t_highSums : Nat) (a_t_rising : Nat) (a_t_used : Nat) (t_freeAt : (Nat → Int32)) : va_W := [(a_t, .inr (6, [.ref a_t_tape, .ref a_t_lowSums, .ref a_t_highSums, .ref a_t_freeAt, .ref a_t_rising, .ref a_t_used])), (a_t_freeAt, .inl (cI, 8, .inl t_freeAt))]
set_option maxHeartbeats 4000000 in
set_option maxRecDepth 100000 in
theorem b_X7_firstFree {p : Program} {l : Launch} {e : Env} {R : Room} {s : State} {m : MethodId} {args : Array Value} {below : List Frame} {meth : Method} {c : Code} {Q : State → Prop} {D : va_G} {cI cB cZ : ClassId} (hx : p.tables.exec = Jvm.exec) (hb : c.code = cX7_firstFree) (hml : c.maxLocals = 4) (hown : s.vm.findClass RX7 = some m.cls) (hT : ∀ w ∈ TB, w.before args s = true) (hRf : (0) ≤ R.frames) (hRl : (0) ≤ R.locals) (hK : va_K D vwCl (tyL cI cB cZ) s) (hN : NW s)  (a_t : Nat) (a_t_freeAt : Nat) (a_t_tape : Nat) (a_t_lowSums : Nat) (a_t_highSums : Nat) (a_t_rising : Nat) (a_t_used : Nat) (t_freeAt : (Nat → Int32)) (x1 : Int32) (res : Int32) (hf : f_X7_firstFree t_freeAt x1 = some res) (hP : va_P D vwCl (w_X7_firstFree cI cB cZ a_t a_t_freeAt a_t_tape a_t_lowSums a_t_highSums a_t_rising a_t_used t_freeAt) s.heap) (hQ : ∀ (pc : Nat) (ls : Array Slot), True → decode cX7_firstFree pc = .ok (.ireturn, 1) → W p l e R s m args below meth c s.heap [] 0 0 Q (F0 m pc ls [.int res])) (ls : Array Slot) (hl : lv_has ls 4 [(0, .ref a_t), (1, .int x1)]) : W p l e R s m args below meth c s.heap [] 0 0 Q (F0 m 0 ls []) := by
  unfold f_X7_firstFree at hf
  refine lv_iconst (v := 0) hx hb dX7_firstFree_0 (by decide) ?_
  refine lv_istore_n (lv' := [(2, .int 0), (0, .ref a_t), (1, .int x1)]) hx hb dX7_firstFree_1 rfl hl (by decide) rfl (fun ls hl => ?_)
  refine lv_iconst (v := 1) hx hb dX7_firstFree_2 (by decide) ?_
  have J_4 : ∀ (n_4 : Nat) (x1 : Int32) (x2 : Int32) (x3 : Int32) (ls : Array Slot), f_X7_firstFree_4 t_freeAt n_4 x1 x2 x3 = some res → lv_has ls 4 [(0, .ref a_t), (1, .int x1), (2, .int x2), (3, .int x3)] → W p l e R s m args below meth c s.heap [] 0 0 Q (F0 m 4 ls []) := by
    intro n_4
    induction n_4 with
    | zero =>
      intro x1 x2 x3 ls hf hl
      cases hf
    | succ n_4 ih_4 =>
      intro x1 x2 x3 ls hf hl
      unfold f_X7_firstFree_4 at hf
      refine lv_iload_n hx hb dX7_firstFree_4 rfl (lv_at hl 3 rfl) ?_
      refine lv_iload_n hx hb dX7_firstFree_5 rfl (lv_at hl 1 rfl) ?_
      refine lv_icmp_ge (tgt := 38) hx hb dX7_firstFree_6 (by decide) (fun hc_6 => ?_) (fun hc_6 => ?_)
      · have hf := it_pos hc_6 hf
        refine lv_iload_n hx hb dX7_firstFree_38 rfl (lv_at hl 2 rfl) ?_
        obtain rfl := Option.some.inj hf
        exact hQ 39 ls trivial dX7_firstFree_39
      · have hf := it_neg hc_6 hf
        refine lv_iload_n hx hb dX7_firstFree_9 rfl (lv_at hl 3 rfl) ?_
        refine lv_bipush (v := 8) hx hb dX7_firstFree_10 (by decide) ?_
        refine lv_icmp_ge (tgt := 38) hx hb dX7_firstFree_12 (by decide) (fun hc_12 => ?_) (fun hc_12 => ?_)
        · have hf := it_pos hc_12 hf
          refine lv_iload_n hx hb dX7_firstFree_38 rfl (lv_at hl 2 rfl) ?_
          obtain rfl := Option.some.inj hf
          exact hQ 39 ls trivial dX7_firstFree_39
        · have hf := it_neg hc_12 hf
          refine lv_aload_n hx hb dX7_firstFree_15 rfl (lv_at hl 0 rfl) ?_
          refine va_get (D := D) (ci := 6) (v := .ref a_t_freeAt) (C := RX7) (T := TX7) (N := 6) hx hb hT inX7 hown hK hP 0 rfl rfl 3 (by decide) (hT _ tb_291) (fun _ h9 => h9) rfl dX7_firstFree_16 ?_
          refine lv_iload_n hx hb dX7_firstFree_19 rfl (lv_at hl 3 rfl) ?_
          obtain ⟨hi_20, hf⟩ := ix_some hf
          refine va_iald hx hb hK hP 1 0 rfl rfl hi_20 dX7_firstFree_20 ?_
          refine lv_aload_n hx hb dX7_firstFree_21 rfl (lv_at hl 0 rfl) ?_
          refine va_get (D := D) (ci := 6) (v := .ref a_t_freeAt) (C := RX7) (T := TX7) (N := 6) hx hb hT inX7 hown hK hP 0 rfl rfl 3 (by decide) (hT _ tb_291) (fun _ h9 => h9) rfl dX7_firstFree_22 ?_
          refine lv_iload_n hx hb dX7_firstFree_25 rfl (lv_at hl 2 rfl) ?_
          obtain ⟨hi_26, hf⟩ := ix_some hf
          refine va_iald hx hb hK hP 1 0 rfl rfl hi_26 dX7_firstFree_26 ?_
          refine lv_icmp_ge (tgt := 32) hx hb dX7_firstFree_27 (by decide) (fun hc_27 => ?_) (fun hc_27 => ?_)
          · have hf := it_pos hc_27 hf
            refine lv_iinc (v := x3 + 1) (lv' := [(3, .int (x3 + 1)), (0, .ref a_t), (1, .int x1), (2, .int x2)]) hx hb dX7_firstFree_32 hl (k := 3) rfl (congrArg (_ + ·) (by decide : Int32.ofInt 1 = 1)) (by decide) rfl (fun ls hl => ?_)
            refine lv_goto (tgt := 4) hx hb dX7_firstFree_35 (by decide) ?_
            exact ih_4 _ _ _ _ hf (lv_sub hl [1, 2, 3, 0] rfl)
          · have hf := it_neg hc_27 hf
            refine lv_iload_n hx hb dX7_firstFree_30 rfl (lv_at hl 3 rfl) ?_
            refine lv_istore_n (lv' := [(2, .int x3), (0, .ref a_t), (1, .int x1), (3, .int x3)]) hx hb dX7_firstFree_31 rfl hl (by decide) rfl (fun ls hl => ?_)
            refine lv_iinc (v := x3 + 1) (lv' := [(3, .int (x3 + 1)), (2, .int x3), (0, .ref a_t), (1, .int x1)]) hx hb dX7_firstFree_32 hl (k := 3) rfl (congrArg (_ + ·) (by decide : Int32.ofInt 1 = 1)) (by decide) rfl (fun ls hl => ?_)
            refine lv_goto (tgt := 4) hx hb dX7_firstFree_35 (by decide) ?_
            exact ih_4 _ _ _ _ hf (lv_sub hl [2, 3, 1, 0] rfl)
  refine lv_istore_n (lv' := [(3, .int 1), (2, .int 0), (0, .ref a_t), (1, .int x1)]) hx hb dX7_firstFree_3 rfl hl (by decide) rfl (fun ls hl => ?_)
  exact J_4 _ _ _ _ _ hf (lv_sub hl [2, 3, 1, 0] rfl)
theorem hd_X7_firstFree : (yX7_firstFree).cls = RX7 ∧ (yX7_firstFree).cls ≠ "java/lang/invoke/MethodHandle" ∧ (yX7_firstFree).cls ≠ "java/lang/invoke/VarHandle" ∧ (parseMethodDescriptor (yX7_firstFree).desc).map (fun d => d.parameters.length) = some 1 := by decide +kernel
theorem c_X7_firstFree (l : Launch) (D : va_G) (cI cB cZ : ClassId) (a_t : Nat) (a_t_freeAt : Nat) (a_t_tape : Nat) (a_t_lowSums : Nat) (a_t_highSums : Nat) (a_t_rising : Nat) (a_t_used : Nat) (t_freeAt : (Nat → Int32)) (x1 : Int32) (res : Int32) (hf : f_X7_firstFree t_freeAt x1 = some res) : Met l yX7_firstFree (.code yX7_firstFree cX7_firstFree 4 (some .int) :: TB) (rmk (0) (0)) (pRO [.ref a_t, .int x1] D cI cB cZ (w_X7_firstFree cI cB cZ a_t a_t_freeAt a_t_tape a_t_lowSums a_t_highSums a_t_rising a_t_used t_freeAt)) (qRO (some (.int res)) True) 0 0 (fun _ => False) :=
  mkRO (by decide +kernel) (Nat.le_of_ble_eq_true rfl) (fun p e s m below meth c ls S hr hlk hK hP hl => b_X7_firstFree S.1 S.2.1 S.2.2.1 S.2.2.2.1 S.2.2.2.2 (Nat.le_refl _) (Nat.le_refl _) hK.1 hK.2 a_t a_t_freeAt a_t_tape a_t_lowSums a_t_highSums a_t_rising a_t_used t_freeAt x1 res hf hP (fun pc ls hE hd => eRO_i S.1 S.2.1 hr rfl hlk hE hd) ls hl)
def f_X7_leadInRow_14 (t_tape_length : Int32) (t_tape_bytes : (Nat → Int32)) : Nat → Int32 → Int32 → Int32 → Int32 → Int32 → (Nat → Int32) → Option (Int32 × (Nat → Int32))
  | 0, _, _, _, _, _, _ => none
  | n + 1, x1, x2, x3, x4, x5, t_freeAt => (if x1 ≤ x5 then some (x4, t_freeAt) else (f_X7_firstFree t_freeAt x2).bind (fun z22 => (if x5 = x3 then ix 8 z22 (some (t_freeAt z22.toNatClampNeg, t_freeAt)) else ix 8 z22 ((f_X8_byteAt t_tape_length t_tape_bytes x5).bind (fun z55 => ix 8 z22 (ix 8 z22 ((f_X7_leadInRow_14 t_tape_length t_tape_bytes n) x1 x2 x3 (if x4 < ((upd t_freeAt z22.toNatClampNeg ((t_freeAt z22.toNatClampNeg) + z55)) z22.toNatClampNeg) then ((upd t_freeAt z22.toNatClampNeg ((t_freeAt z22.toNatClampNeg) + z55)) z22.toNatClampNeg) else x4) (x5 + 1) (upd t_freeAt z22.toNatClampNeg ((t_freeAt z22.toNatClampNeg) + z55)))))))))
def f_X7_leadInRow (t_tape_length : Int32) (t_tape_bytes : (Nat → Int32)) (t_freeAt : (Nat → Int32)) (x1 : Int32) (x2 : Int32) (x3 : Int32) : Option (Int32 × (Nat → Int32)) := (f_J7_fill_53178 8 t_freeAt 0).bind (fun z5 => f_X7_leadInRow_14 t_tape_length t_tape_bytes FU x1 x2 x3 0 0 z5)
def w_X7_leadInRow (cI cB cZ : ClassId) (a_t : Nat) (a_t_tape : Nat) (a_t_tape_bytes : Nat) (a_t_freeAt : Nat) (a_t_lowSums : Nat) (a_t_highSums : Nat) (a_t_rising : Nat) (a_t_used : Nat) (t_tape_length : Int32) (t_tape_bytes : (Nat → Int32)) (t_freeAt : (Nat → Int32)) : va_W := [(a_t, .inr (6, [.ref a_t_tape, .ref a_t_lowSums, .ref a_t_highSums, .ref a_t_freeAt, .ref a_t_rising, .ref a_t_used])), (a_t_tape, .inr (7, [.ref a_t_tape_bytes, .int t_tape_length])), (a_t_tape_bytes, .inl (cI, 260, .inl t_tape_bytes)), (a_t_freeAt, .inl (cI, 8, .inl t_freeAt))]
set_option maxHeartbeats 4000000 in
set_option maxRecDepth 100000 in
theorem b_X7_leadInRow {p : Program} {l : Launch} {e : Env} {R : Room} {s : State} {m : MethodId} {args : Array Value} {below : List Frame} {meth : Method} {c : Code} {Q : State → Prop} {D : va_G} {cI cB cZ : ClassId} (hx : p.tables.exec = Jvm.exec) (hb : c.code = cX7_leadInRow) (hml : c.maxLocals = 7) (hown : s.vm.findClass RX7 = some m.cls) (hT : ∀ w ∈ TB, w.before args s = true) (hRf : (1) ≤ R.frames) (hRl : (40) ≤ R.locals) (hK : va_K D vwCl (tyL cI cB cZ) s) (hN : NW s) {A : Nat → Prop} (hA : ∀ q : Nat, s.heap.size ≤ q → A q) (H : Heap) (locs : List Loc)  (a_t : Nat) (a_t_tape : Nat) (a_t_tape_bytes : Nat) (a_t_freeAt : Nat) (a_t_lowSums : Nat) (a_t_highSums : Nat) (a_t_rising : Nat) (a_t_used : Nat) (t_tape_length : Int32) (t_tape_bytes : (Nat → Int32)) (t_freeAt : (Nat → Int32)) (x1 : Int32) (x2 : Int32) (x3 : Int32) (res : Int32 × (Nat → Int32)) (hf : f_X7_leadInRow t_tape_length t_tape_bytes t_freeAt x1 x2 x3 = some res) (hP : va_P D vwCl (w_X7_leadInRow cI cB cZ a_t a_t_tape a_t_tape_bytes a_t_freeAt a_t_lowSums a_t_highSums a_t_rising a_t_used t_tape_length t_tape_bytes t_freeAt) H) (hD : va_D A (w_X7_leadInRow cI cB cZ a_t a_t_tape a_t_tape_bytes a_t_freeAt a_t_lowSums a_t_highSums a_t_rising a_t_used t_tape_length t_tape_bytes t_freeAt)) (hS : va_S A s.heap H locs) (hQ : ∀ (H : Heap) (locs : List Loc) (pc : Nat) (ls : Array Slot), va_P D vwCl (w_X7_leadInRow cI cB cZ a_t a_t_tape a_t_tape_bytes a_t_freeAt a_t_lowSums a_t_highSums a_t_rising a_t_used t_tape_length t_tape_bytes res.2) H → va_D A (w_X7_leadInRow cI cB cZ a_t a_t_tape a_t_tape_bytes a_t_freeAt a_t_lowSums a_t_highSums a_t_rising a_t_used t_tape_length t_tape_bytes res.2) → va_S A s.heap H locs → True → decode cX7_leadInRow pc = .ok (.ireturn, 1) → W p l e R s m args below meth c H locs 0 0 Q (F0 m pc ls [.int res.1])) (ls : Array Slot) (hl : lv_has ls 7 [(0, .ref a_t), (1, .int x1), (2, .int x2), (3, .int x3)]) : W p l e R s m args below meth c H locs 0 0 Q (F0 m 0 ls []) := by
  unfold f_X7_leadInRow at hf
  refine lv_aload_n hx hb dX7_leadInRow_0 rfl (lv_at hl 0 rfl) ?_
  refine va_get (D := D) (ci := 6) (v := .ref a_t_freeAt) (C := RX7) (T := TX7) (N := 6) hx hb hT inX7 hown hK hP 0 rfl rfl 3 (by decide) (hT _ tb_291) (fun _ h9 => h9) rfl dX7_leadInRow_1 ?_
  refine lv_iconst (v := 0) hx hb dX7_leadInRow_4 (by decide) ?_
  obtain ⟨z5, e5, hf⟩ := bd_some hf
  refine rS_RW (As := [.ref a_t_freeAt, .int 0]) (rest := []) (w2 := (w_X7_leadInRow cI cB cZ a_t a_t_tape a_t_tape_bytes a_t_freeAt a_t_lowSums a_t_highSums a_t_rising a_t_used t_tape_length t_tape_bytes z5)) ⟨hx, hb, hml, hown, hT⟩ (gdS tb_1055 tb_167 tb_89 tb_168) hd_J7_fill_53178 (c_J7_fill_53178 l D cI cB cZ 8 a_t_freeAt t_freeAt 0 H.size z5 e5) ⟨rfl, rfl⟩ ⟨Nat.le_trans (by decide) hRf, Nat.le_trans (by decide) hRl⟩ ⟨hK, hN⟩ hA hP hD hS [3] [0, 1, 2] rfl (by decide) (wr := [_, _, _]) rfl (by decide) (by decide) [0, 1, 2, 3] rfl (by decide) rfl hl.1 rfl (Nat.le_of_ble_eq_true rfl) ⟨Nat.zero_le _, Nat.zero_le _⟩ dX7_leadInRow_5 (fun H locs hP hD hS _ => ?_)
  refine lv_iconst (v := 0) hx hb dX7_leadInRow_8 (by decide) ?_
  refine lv_istore (lv' := [(4, .int 0), (0, .ref a_t), (1, .int x1), (2, .int x2), (3, .int x3)]) hx hb dX7_leadInRow_9 hl (by decide) rfl (fun ls hl => ?_)
  refine lv_iconst (v := 0) hx hb dX7_leadInRow_11 (by decide) ?_
  have J_14 : ∀ (n_14 : Nat) (x1 : Int32) (x2 : Int32) (x3 : Int32) (x4 : Int32) (x5 : Int32) (t_freeAt : (Nat → Int32)) (H : Heap) (locs : List Loc) (ls : Array Slot), f_X7_leadInRow_14 t_tape_length t_tape_bytes n_14 x1 x2 x3 x4 x5 t_freeAt = some res → va_P D vwCl (w_X7_leadInRow cI cB cZ a_t a_t_tape a_t_tape_bytes a_t_freeAt a_t_lowSums a_t_highSums a_t_rising a_t_used t_tape_length t_tape_bytes t_freeAt) H → va_D A (w_X7_leadInRow cI cB cZ a_t a_t_tape a_t_tape_bytes a_t_freeAt a_t_lowSums a_t_highSums a_t_rising a_t_used t_tape_length t_tape_bytes t_freeAt) → va_S A s.heap H locs → lv_has ls 7 [(0, .ref a_t), (1, .int x1), (2, .int x2), (3, .int x3), (4, .int x4), (5, .int x5)] → W p l e R s m args below meth c H locs 0 0 Q (F0 m 14 ls []) := by
    intro n_14
    induction n_14 with
    | zero =>
      intro x1 x2 x3 x4 x5 t_freeAt H locs ls hf hP hD hS hl
      cases hf
    | succ n_14 ih_14 =>
      intro x1 x2 x3 x4 x5 t_freeAt H locs ls hf hP hD hS hl
      unfold f_X7_leadInRow_14 at hf
      refine lv_iload hx hb dX7_leadInRow_14 (lv_at hl 5 rfl) ?_
      refine lv_iload_n hx hb dX7_leadInRow_16 rfl (lv_at hl 1 rfl) ?_
      refine lv_icmp_ge (tgt := 80) hx hb dX7_leadInRow_17 (by decide) (fun hc_17 => ?_) (fun hc_17 => ?_)
      · have hf := it_pos hc_17 hf
        refine lv_iload hx hb dX7_leadInRow_80 (lv_at hl 4 rfl) ?_
        obtain rfl := Option.some.inj hf
        exact hQ H locs 82 ls hP hD hS trivial dX7_leadInRow_82
      · have hf := it_neg hc_17 hf
        refine lv_aload_n hx hb dX7_leadInRow_20 rfl (lv_at hl 0 rfl) ?_
        refine lv_iload_n hx hb dX7_leadInRow_21 rfl (lv_at hl 2 rfl) ?_
        obtain ⟨z22, e22, hf⟩ := bd_some hf
        refine rV_RO (As := [.int x2]) (rest := []) ⟨hx, hb, hml, hown, hT⟩ (gdV tb_1056 tb_1058 tb_26 tb_95 tb_1059) hd_X7_firstFree (c_X7_firstFree l D cI cB cZ a_t a_t_freeAt a_t_tape a_t_lowSums a_t_highSums a_t_rising a_t_used t_freeAt x2 z22 e22) ⟨rfl, rfl⟩ ⟨Nat.le_trans (by decide) hRf, Nat.le_trans (by decide) hRl⟩ ⟨hK, hN⟩ hP [0, 3] rfl 0 rfl rfl rfl hl.1 rfl (Nat.le_of_ble_eq_true rfl) ⟨Nat.zero_le _, Nat.zero_le _⟩ dX7_leadInRow_22 (fun _ => ?_)
        refine lv_istore (lv' := [(6, .int z22), (0, .ref a_t), (1, .int x1), (2, .int x2), (3, .int x3), (4, .int x4), (5, .int x5)]) hx hb dX7_leadInRow_25 hl (by decide) rfl (fun ls hl => ?_)
        refine lv_iload hx hb dX7_leadInRow_27 (lv_at hl 6 rfl) ?_
        refine lv_iload_n hx hb dX7_leadInRow_29 rfl (lv_at hl 4 rfl) ?_
        refine lv_icmp_ne (tgt := 41) hx hb dX7_leadInRow_30 (by decide) (fun hc_30 => ?_) (fun hc_30 => ?_)
        · have hf := it_neg hc_30 hf
          refine lv_aload_n hx hb dX7_leadInRow_41 rfl (lv_at hl 1 rfl) ?_
          refine va_get (D := D) (ci := 6) (v := .ref a_t_freeAt) (C := RX7) (T := TX7) (N := 6) hx hb hT inX7 hown hK hP 0 rfl rfl 3 (by decide) (hT _ tb_291) (fun _ h9 => h9) rfl dX7_leadInRow_42 ?_
          refine lv_iload hx hb dX7_leadInRow_45 (lv_at hl 0 rfl) ?_
          refine lv_dup2_11 hx hb dX7_leadInRow_47 rfl rfl ?_
          obtain ⟨hi_48, hf⟩ := ix_some hf
          refine va_iald hx hb hK hP 3 0 rfl rfl hi_48 dX7_leadInRow_48 ?_
          refine lv_aload_n hx hb dX7_leadInRow_49 rfl (lv_at hl 1 rfl) ?_
          refine va_get (D := D) (ci := 6) (v := .ref a_t_tape) (C := RX7) (T := TX7) (N := 6) hx hb hT inX7 hown hK hP 0 rfl rfl 0 (by decide) (hT _ tb_288) (fun _ h9 => h9) rfl dX7_leadInRow_50 ?_
          refine lv_iload hx hb dX7_leadInRow_53 (lv_at hl 6 rfl) ?_
          obtain ⟨z55, e55, hf⟩ := bd_some hf
          refine rV_RO (As := [.int x5]) (rest := [.int (t_freeAt z22.toNatClampNeg), .int z22, .ref a_t_freeAt]) ⟨hx, hb, hml, hown, hT⟩ (gdV tb_942 tb_943 tb_944 tb_86 tb_945) hd_X8_byteAt (c_X8_byteAt l D cI cB cZ a_t_tape a_t_tape_bytes t_tape_length t_tape_bytes x5 z55 e55) ⟨rfl, rfl⟩ ⟨Nat.le_trans (by decide) hRf, Nat.le_trans (by decide) hRl⟩ ⟨hK, hN⟩ hP [1, 2] rfl 1 rfl rfl rfl hl.1 rfl (Nat.le_of_ble_eq_true rfl) ⟨Nat.zero_le _, Nat.zero_le _⟩ dX7_leadInRow_55 (fun _ => ?_)
          refine lv_iadd hx hb dX7_leadInRow_58 ?_
          obtain ⟨hi_59, hf⟩ := ix_some hf
          refine va_iast hx hb hK hP hD hS 3 0 rfl rfl hi_59 dX7_leadInRow_59 (fun H locs hP hD hS => ?_)
          have hP : va_P D vwCl (w_X7_leadInRow cI cB cZ a_t a_t_tape a_t_tape_bytes a_t_freeAt a_t_lowSums a_t_highSums a_t_rising a_t_used t_tape_length t_tape_bytes (upd t_freeAt z22.toNatClampNeg ((t_freeAt z22.toNatClampNeg) + z55))) H := hP
          have hD : va_D A (w_X7_leadInRow cI cB cZ a_t a_t_tape a_t_tape_bytes a_t_freeAt a_t_lowSums a_t_highSums a_t_rising a_t_used t_tape_length t_tape_bytes (upd t_freeAt z22.toNatClampNeg ((t_freeAt z22.toNatClampNeg) + z55))) := hD
          refine lv_iload hx hb dX7_leadInRow_60 (lv_at hl 5 rfl) ?_
          refine lv_aload_n hx hb dX7_leadInRow_62 rfl (lv_at hl 1 rfl) ?_
          refine va_get (D := D) (ci := 6) (v := .ref a_t_freeAt) (C := RX7) (T := TX7) (N := 6) hx hb hT inX7 hown hK hP 0 rfl rfl 3 (by decide) (hT _ tb_291) (fun _ h9 => h9) rfl dX7_leadInRow_63 ?_
          refine lv_iload hx hb dX7_leadInRow_66 (lv_at hl 0 rfl) ?_
          obtain ⟨hi_68, hf⟩ := ix_some hf
          refine va_iald hx hb hK hP 3 0 rfl rfl hi_68 dX7_leadInRow_68 ?_
          refine va_mmax hx hb (hml.trans hl.1.symm) hown (hT _ tb_1060) (hT _ tb_477) (hT _ tb_98) (hT _ tb_478) (Nat.le_trans (by decide) hRf) (Nat.le_trans (Nat.le_of_ble_eq_true rfl) hRl) (Nat.zero_le _) (Nat.zero_le _) dX7_leadInRow_69 ?_
          refine lv_istore (lv' := [(4, .int (if x4 < ((upd t_freeAt z22.toNatClampNeg ((t_freeAt z22.toNatClampNeg) + z55)) z22.toNatClampNeg) then ((upd t_freeAt z22.toNatClampNeg ((t_freeAt z22.toNatClampNeg) + z55)) z22.toNatClampNeg) else x4)), (6, .int z22), (0, .ref a_t), (1, .int x1), (2, .int x2), (3, .int x3), (5, .int x5)]) hx hb dX7_leadInRow_72 hl (by decide) rfl (fun ls hl => ?_)
          refine lv_iinc (v := x5 + 1) (lv' := [(5, .int (x5 + 1)), (4, .int (if x4 < ((upd t_freeAt z22.toNatClampNeg ((t_freeAt z22.toNatClampNeg) + z55)) z22.toNatClampNeg) then ((upd t_freeAt z22.toNatClampNeg ((t_freeAt z22.toNatClampNeg) + z55)) z22.toNatClampNeg) else x4)), (6, .int z22), (0, .ref a_t), (1, .int x1), (2, .int x2), (3, .int x3)]) hx hb dX7_leadInRow_74 hl (k := 6) rfl (congrArg (_ + ·) (by decide : Int32.ofInt 1 = 1)) (by decide) rfl (fun ls hl => ?_)
          refine lv_goto (tgt := 14) hx hb dX7_leadInRow_77 (by decide) ?_
          exact ih_14 _ _ _ _ _ _ _ _ _ hf hP hD hS (lv_sub hl [3, 4, 5, 6, 1, 0] rfl)
        · have hf := it_pos hc_30 hf
          refine lv_aload_n hx hb dX7_leadInRow_33 rfl (lv_at hl 1 rfl) ?_
          refine va_get (D := D) (ci := 6) (v := .ref a_t_freeAt) (C := RX7) (T := TX7) (N := 6) hx hb hT inX7 hown hK hP 0 rfl rfl 3 (by decide) (hT _ tb_291) (fun _ h9 => h9) rfl dX7_leadInRow_34 ?_
          refine lv_iload hx hb dX7_leadInRow_37 (lv_at hl 0 rfl) ?_
          obtain ⟨hi_39, hf⟩ := ix_some hf
          refine va_iald hx hb hK hP 3 0 rfl rfl hi_39 dX7_leadInRow_39 ?_
          obtain rfl := Option.some.inj hf
          exact hQ H locs 40 ls hP hD hS trivial dX7_leadInRow_40
  refine lv_istore (lv' := [(5, .int 0), (4, .int 0), (0, .ref a_t), (1, .int x1), (2, .int x2), (3, .int x3)]) hx hb dX7_leadInRow_12 hl (by decide) rfl (fun ls hl => ?_)
  exact J_14 _ _ _ _ _ _ _ _ _ _ hf hP hD hS (lv_sub hl [2, 3, 4, 5, 1, 0] rfl)
theorem hd_X7_leadInRow : (yX7_leadInRow).cls = RX7 ∧ (yX7_leadInRow).cls ≠ "java/lang/invoke/MethodHandle" ∧ (yX7_leadInRow).cls ≠ "java/lang/invoke/VarHandle" ∧ (parseMethodDescriptor (yX7_leadInRow).desc).map (fun d => d.parameters.length) = some 3 := by decide +kernel
theorem c_X7_leadInRow (l : Launch) (D : va_G) (cI cB cZ : ClassId) (a_t : Nat) (a_t_tape : Nat) (a_t_tape_bytes : Nat) (a_t_freeAt : Nat) (a_t_lowSums : Nat) (a_t_highSums : Nat) (a_t_rising : Nat) (a_t_used : Nat) (t_tape_length : Int32) (t_tape_bytes : (Nat → Int32)) (t_freeAt : (Nat → Int32)) (x1 : Int32) (x2 : Int32) (x3 : Int32) (sz : Nat) (res : Int32 × (Nat → Int32)) (hf : f_X7_leadInRow t_tape_length t_tape_bytes t_freeAt x1 x2 x3 = some res) : Met l yX7_leadInRow (.code yX7_leadInRow cX7_leadInRow 7 (some .int) :: TB) (rmk (1) (40)) (pRW [.ref a_t, .int x1, .int x2, .int x3] D cI cB cZ (w_X7_leadInRow cI cB cZ a_t a_t_tape a_t_tape_bytes a_t_freeAt a_t_lowSums a_t_highSums a_t_rising a_t_used t_tape_length t_tape_bytes t_freeAt) sz) (qRW (some (.int res.1)) True D (w_X7_leadInRow cI cB cZ a_t a_t_tape a_t_tape_bytes a_t_freeAt a_t_lowSums a_t_highSums a_t_rising a_t_used t_tape_length t_tape_bytes t_freeAt) sz (w_X7_leadInRow cI cB cZ a_t a_t_tape a_t_tape_bytes a_t_freeAt a_t_lowSums a_t_highSums a_t_rising a_t_used t_tape_length t_tape_bytes res.2)) 0 0 (va_A (w_X7_leadInRow cI cB cZ a_t a_t_tape a_t_tape_bytes a_t_freeAt a_t_lowSums a_t_highSums a_t_rising a_t_used t_tape_length t_tape_bytes t_freeAt) sz) :=
  mkRW (by decide +kernel) (Nat.le_of_ble_eq_true rfl) (fun p e s m below meth c ls A hAe S hr hlk hK hA hP hD hS hl => b_X7_leadInRow S.1 S.2.1 S.2.2.1 S.2.2.2.1 S.2.2.2.2 (Nat.le_refl _) (Nat.le_refl _) hK.1 hK.2 hA s.heap [] a_t a_t_tape a_t_tape_bytes a_t_freeAt a_t_lowSums a_t_highSums a_t_rising a_t_used t_tape_length t_tape_bytes t_freeAt x1 x2 x3 res hf hP hD hS (fun H locs pc ls hP hD hS hE hd => eRW_i S.1 S.2.1 hr rfl hlk hAe hP hD hS hE hd) ls hl)
def f_X7_withOneMore (x0 : Int32) (x1 : Int32) (x2 : Int32) : Option (Int32) := (if x2 < ((jrem x0 4096) + x1) then some ((((x0 / 4096) + 1) * 4096) + x1) else some (x0 + x1))
def w_X7_withOneMore (cI cB cZ : ClassId) : va_W := []
set_option maxHeartbeats 4000000 in
set_option maxRecDepth 100000 in
theorem b_X7_withOneMore {p : Program} {l : Launch} {e : Env} {R : Room} {s : State} {m : MethodId} {args : Array Value} {below : List Frame} {meth : Method} {c : Code} {Q : State → Prop} {D : va_G} {cI cB cZ : ClassId} (hx : p.tables.exec = Jvm.exec) (hb : c.code = cX7_withOneMore) (hml : c.maxLocals = 3) (hown : s.vm.findClass RX7 = some m.cls) (hT : ∀ w ∈ TB, w.before args s = true) (hRf : (0) ≤ R.frames) (hRl : (0) ≤ R.locals) (hK : va_K D vwCl (tyL cI cB cZ) s) (hN : NW s)  (x0 : Int32) (x1 : Int32) (x2 : Int32) (res : Int32) (hf : f_X7_withOneMore x0 x1 x2 = some res) (hP : va_P D vwCl (w_X7_withOneMore cI cB cZ ) s.heap) (hQ : ∀ (pc : Nat) (ls : Array Slot), True → decode cX7_withOneMore pc = .ok (.ireturn, 1) → W p l e R s m args below meth c s.heap [] 0 0 Q (F0 m pc ls [.int res])) (ls : Array Slot) (hl : lv_has ls 3 [(0, .int x0), (1, .int x1), (2, .int x2)]) : W p l e R s m args below meth c s.heap [] 0 0 Q (F0 m 0 ls []) := by
  unfold f_X7_withOneMore at hf
  refine lv_iload_n hx hb dX7_withOneMore_0 rfl (lv_at hl 0 rfl) ?_
  refine lv_sipush (v := 4096) hx hb dX7_withOneMore_1 (by decide) ?_
  refine lv_irem hx hb dX7_withOneMore_4 (by decide) ?_
  refine lv_iload_n hx hb dX7_withOneMore_5 rfl (lv_at hl 1 rfl) ?_
  refine lv_iadd hx hb dX7_withOneMore_6 ?_
  refine lv_iload_n hx hb dX7_withOneMore_7 rfl (lv_at hl 2 rfl) ?_
  refine lv_icmp_gt (tgt := 15) hx hb dX7_withOneMore_8 (by decide) (fun hc_8 => ?_) (fun hc_8 => ?_)
  · have hf := it_pos hc_8 hf
    refine lv_iload_n hx hb dX7_withOneMore_15 rfl (lv_at hl 0 rfl) ?_
    refine lv_sipush (v := 4096) hx hb dX7_withOneMore_16 (by decide) ?_
    refine lv_idiv hx hb dX7_withOneMore_19 (by decide) ?_
    refine lv_iconst (v := 1) hx hb dX7_withOneMore_20 (by decide) ?_
    refine lv_iadd hx hb dX7_withOneMore_21 ?_
    refine lv_sipush (v := 4096) hx hb dX7_withOneMore_22 (by decide) ?_
    refine lv_imul hx hb dX7_withOneMore_25 ?_
    refine lv_iload_n hx hb dX7_withOneMore_26 rfl (lv_at hl 1 rfl) ?_
    refine lv_iadd hx hb dX7_withOneMore_27 ?_
    obtain rfl := Option.some.inj hf
    exact hQ 28 ls trivial dX7_withOneMore_28
  · have hf := it_neg hc_8 hf
    refine lv_iload_n hx hb dX7_withOneMore_11 rfl (lv_at hl 0 rfl) ?_
    refine lv_iload_n hx hb dX7_withOneMore_12 rfl (lv_at hl 1 rfl) ?_
    refine lv_iadd hx hb dX7_withOneMore_13 ?_
    obtain rfl := Option.some.inj hf
    exact hQ 14 ls trivial dX7_withOneMore_14
theorem hd_X7_withOneMore : (yX7_withOneMore).cls ≠ "java/lang/invoke/MethodHandle" ∧ (yX7_withOneMore).cls ≠ "java/lang/invoke/VarHandle" ∧ (parseMethodDescriptor (yX7_withOneMore).desc).map (fun d => d.parameters.length) = some 3 := by decide +kernel
theorem c_X7_withOneMore (l : Launch) (D : va_G) (cI cB cZ : ClassId) (x0 : Int32) (x1 : Int32) (x2 : Int32) (res : Int32) (hf : f_X7_withOneMore x0 x1 x2 = some res) : Met l yX7_withOneMore (.code yX7_withOneMore cX7_withOneMore 3 (some .int) :: TB) (rmk (0) (0)) (pRO [.int x0, .int x1, .int x2] D cI cB cZ (w_X7_withOneMore cI cB cZ )) (qRO (some (.int res)) True) 0 0 (fun _ => False) :=
  mkRO (by decide +kernel) (Nat.le_of_ble_eq_true rfl) (fun p e s m below meth c ls S hr hlk hK hP hl => b_X7_withOneMore S.1 S.2.1 S.2.2.1 S.2.2.2.1 S.2.2.2.2 (Nat.le_refl _) (Nat.le_refl _) hK.1 hK.2 x0 x1 x2 res hf hP (fun pc ls hE hd => eRO_i S.1 S.2.1 hr rfl hlk hE hd) ls hl)
def f_X7_ushersFor_36 (t_tape_length : Int32) (t_tape_bytes : (Nat → Int32)) (k9 : Int32 → Int32 → Int32 → (Nat → Int32) → Option (Int32 × (Nat → Int32))) : Nat → Int32 → Int32 → Int32 → Int32 → (Nat → Int32) → Option (Int32 × (Nat → Int32))
  | 0, _, _, _, _, _ => none
  | n + 1, x1, x2, x3, x4, t_used => (if x1 ≤ x4 then k9 x1 x2 (x3 + 1) t_used else (if ((x3 >>> (x4 &&& 31)) &&& 1) = 1 then ix 1024 (x3 - (1 <<< (x4 &&& 31))) (ix 1024 x3 ((f_X8_byteAt t_tape_length t_tape_bytes x4).bind (fun z84 => (f_X7_withOneMore (t_used (x3 - (1 <<< (x4 &&& 31))).toNatClampNeg) z84 x2).bind (fun z88 => ix 1024 x3 ((f_X7_ushersFor_36 t_tape_length t_tape_bytes k9 n) x1 x2 x3 (x4 + 1) (upd t_used x3.toNatClampNeg (if z88 < (t_used x3.toNatClampNeg) then z88 else (t_used x3.toNatClampNeg)))))))) else (f_X7_ushersFor_36 t_tape_length t_tape_bytes k9 n) x1 x2 x3 (x4 + 1) t_used))
def f_X7_ushersFor_107 (t_tape_length : Int32) (t_tape_bytes : (Nat → Int32)) (x1 : Int32) (t_used : (Nat → Int32)) : Option (Int32 × (Nat → Int32)) := ix 1024 ((1 <<< (x1 &&& 31)) - 1) ((if (jrem (t_used ((1 <<< (x1 &&& 31)) - 1).toNatClampNeg) 4096) ≤ 0 then some (((t_used ((1 <<< (x1 &&& 31)) - 1).toNatClampNeg) / 4096) + 0, t_used) else some (((t_used ((1 <<< (x1 &&& 31)) - 1).toNatClampNeg) / 4096) + 1, t_used)))
def f_X7_ushersFor_9 (t_tape_length : Int32) (t_tape_bytes : (Nat → Int32)) : Nat → Int32 → Int32 → Int32 → (Nat → Int32) → Option (Int32 × (Nat → Int32))
  | 0, _, _, _, _ => none
  | n + 1, x1, x2, x3, t_used => (if (1 <<< (x1 &&& 31)) ≤ x3 then f_X7_ushersFor_107 t_tape_length t_tape_bytes x1 t_used else (if 1024 ≤ x3 then f_X7_ushersFor_107 t_tape_length t_tape_bytes x1 t_used else ix 1024 x3 (f_X7_ushersFor_36 t_tape_length t_tape_bytes (f_X7_ushersFor_9 t_tape_length t_tape_bytes n) FU x1 x2 x3 0 (upd t_used x3.toNatClampNeg 1073741824))))
def f_X7_ushersFor (t_tape_length : Int32) (t_tape_bytes : (Nat → Int32)) (t_used : (Nat → Int32)) (x1 : Int32) (x2 : Int32) : Option (Int32 × (Nat → Int32)) := ix 1024 0 (f_X7_ushersFor_9 t_tape_length t_tape_bytes FU x1 x2 1 (upd t_used (0 : Int32).toNatClampNeg 0))
def w_X7_ushersFor (cI cB cZ : ClassId) (a_t : Nat) (a_t_tape : Nat) (a_t_tape_bytes : Nat) (a_t_used : Nat) (a_t_lowSums : Nat) (a_t_highSums : Nat) (a_t_freeAt : Nat) (a_t_rising : Nat) (t_tape_length : Int32) (t_tape_bytes : (Nat → Int32)) (t_used : (Nat → Int32)) : va_W := [(a_t, .inr (6, [.ref a_t_tape, .ref a_t_lowSums, .ref a_t_highSums, .ref a_t_freeAt, .ref a_t_rising, .ref a_t_used])), (a_t_tape, .inr (7, [.ref a_t_tape_bytes, .int t_tape_length])), (a_t_tape_bytes, .inl (cI, 260, .inl t_tape_bytes)), (a_t_used, .inl (cI, 1024, .inl t_used))]
set_option maxHeartbeats 4000000 in
set_option maxRecDepth 100000 in
theorem b_X7_ushersFor {p : Program} {l : Launch} {e : Env} {R : Room} {s : State} {m : MethodId} {args : Array Value} {below : List Frame} {meth : Method} {c : Code} {Q : State → Prop} {D : va_G} {cI cB cZ : ClassId} (hx : p.tables.exec = Jvm.exec) (hb : c.code = cX7_ushersFor) (hml : c.maxLocals = 6) (hown : s.vm.findClass RX7 = some m.cls) (hT : ∀ w ∈ TB, w.before args s = true) (hRf : (1) ≤ R.frames) (hRl : (40) ≤ R.locals) (hK : va_K D vwCl (tyL cI cB cZ) s) (hN : NW s) {A : Nat → Prop} (hA : ∀ q : Nat, s.heap.size ≤ q → A q) (H : Heap) (locs : List Loc)  (a_t : Nat) (a_t_tape : Nat) (a_t_tape_bytes : Nat) (a_t_used : Nat) (a_t_lowSums : Nat) (a_t_highSums : Nat) (a_t_freeAt : Nat) (a_t_rising : Nat) (t_tape_length : Int32) (t_tape_bytes : (Nat → Int32)) (t_used : (Nat → Int32)) (x1 : Int32) (x2 : Int32) (res : Int32 × (Nat → Int32)) (hf : f_X7_ushersFor t_tape_length t_tape_bytes t_used x1 x2 = some res) (hP : va_P D vwCl (w_X7_ushersFor cI cB cZ a_t a_t_tape a_t_tape_bytes a_t_used a_t_lowSums a_t_highSums a_t_freeAt a_t_rising t_tape_length t_tape_bytes t_used) H) (hD : va_D A (w_X7_ushersFor cI cB cZ a_t a_t_tape a_t_tape_bytes a_t_used a_t_lowSums a_t_highSums a_t_freeAt a_t_rising t_tape_length t_tape_bytes t_used)) (hS : va_S A s.heap H locs) (hQ : ∀ (H : Heap) (locs : List Loc) (pc : Nat) (ls : Array Slot), va_P D vwCl (w_X7_ushersFor cI cB cZ a_t a_t_tape a_t_tape_bytes a_t_used a_t_lowSums a_t_highSums a_t_freeAt a_t_rising t_tape_length t_tape_bytes res.2) H → va_D A (w_X7_ushersFor cI cB cZ a_t a_t_tape a_t_tape_bytes a_t_used a_t_lowSums a_t_highSums a_t_freeAt a_t_rising t_tape_length t_tape_bytes res.2) → va_S A s.heap H locs → True → decode cX7_ushersFor pc = .ok (.ireturn, 1) → W p l e R s m args below meth c H locs 0 0 Q (F0 m pc ls [.int res.1])) (ls : Array Slot) (hl : lv_has ls 6 [(0, .ref a_t), (1, .int x1), (2, .int x2)]) : W p l e R s m args below meth c H locs 0 0 Q (F0 m 0 ls []) := by
  unfold f_X7_ushersFor at hf
  refine lv_aload_n hx hb dX7_ushersFor_0 rfl (lv_at hl 0 rfl) ?_
  refine va_get (D := D) (ci := 6) (v := .ref a_t_used) (C := RX7) (T := TX7) (N := 6) hx hb hT inX7 hown hK hP 0 rfl rfl 5 (by decide) (hT _ tb_293) (fun _ h9 => h9) rfl dX7_ushersFor_1 ?_
  refine lv_iconst (v := 0) hx hb dX7_ushersFor_4 (by decide) ?_
  refine lv_iconst (v := 0) hx hb dX7_ushersFor_5 (by decide) ?_
  obtain ⟨hi_6, hf⟩ := ix_some hf
  refine va_iast hx hb hK hP hD hS 3 0 rfl rfl hi_6 dX7_ushersFor_6 (fun H locs hP hD hS => ?_)
  have hP : va_P D vwCl (w_X7_ushersFor cI cB cZ a_t a_t_tape a_t_tape_bytes a_t_used a_t_lowSums a_t_highSums a_t_freeAt a_t_rising t_tape_length t_tape_bytes (upd t_used (0 : Int32).toNatClampNeg 0)) H := hP
  have hD : va_D A (w_X7_ushersFor cI cB cZ a_t a_t_tape a_t_tape_bytes a_t_used a_t_lowSums a_t_highSums a_t_freeAt a_t_rising t_tape_length t_tape_bytes (upd t_used (0 : Int32).toNatClampNeg 0)) := hD
  refine lv_iconst (v := 1) hx hb dX7_ushersFor_7 (by decide) ?_
  have J_9 : ∀ (n_9 : Nat) (x1 : Int32) (x2 : Int32) (x3 : Int32) (t_used : (Nat → Int32)) (H : Heap) (locs : List Loc) (ls : Array Slot), f_X7_ushersFor_9 t_tape_length t_tape_bytes n_9 x1 x2 x3 t_used = some res → va_P D vwCl (w_X7_ushersFor cI cB cZ a_t a_t_tape a_t_tape_bytes a_t_used a_t_lowSums a_t_highSums a_t_freeAt a_t_rising t_tape_length t_tape_bytes t_used) H → va_D A (w_X7_ushersFor cI cB cZ a_t a_t_tape a_t_tape_bytes a_t_used a_t_lowSums a_t_highSums a_t_freeAt a_t_rising t_tape_length t_tape_bytes t_used) → va_S A s.heap H locs → lv_has ls 6 [(0, .ref a_t), (1, .int x1), (2, .int x2), (3, .int x3)] → W p l e R s m args below meth c H locs 0 0 Q (F0 m 9 ls []) := by
    intro n_9
    induction n_9 with
    | zero =>
      intro x1 x2 x3 t_used H locs ls hf hP hD hS hl
      cases hf
    | succ n_9 ih_9 =>
      intro x1 x2 x3 t_used H locs ls hf hP hD hS hl
      unfold f_X7_ushersFor_9 at hf
      refine lv_iload_n hx hb dX7_ushersFor_9 rfl (lv_at hl 3 rfl) ?_
      refine lv_iconst (v := 1) hx hb dX7_ushersFor_10 (by decide) ?_
      refine lv_iload_n hx hb dX7_ushersFor_11 rfl (lv_at hl 1 rfl) ?_
      refine lv_ishl hx hb dX7_ushersFor_12 ?_
      have J_107 : ∀ (x1 : Int32) (t_used : (Nat → Int32)) (H : Heap) (locs : List Loc) (ls : Array Slot), f_X7_ushersFor_107 t_tape_length t_tape_bytes x1 t_used = some res → va_P D vwCl (w_X7_ushersFor cI cB cZ a_t a_t_tape a_t_tape_bytes a_t_used a_t_lowSums a_t_highSums a_t_freeAt a_t_rising t_tape_length t_tape_bytes t_used) H → va_D A (w_X7_ushersFor cI cB cZ a_t a_t_tape a_t_tape_bytes a_t_used a_t_lowSums a_t_highSums a_t_freeAt a_t_rising t_tape_length t_tape_bytes t_used) → va_S A s.heap H locs → lv_has ls 6 [(0, .ref a_t), (1, .int x1)] → W p l e R s m args below meth c H locs 0 0 Q (F0 m 107 ls []) := by
        intro x1 t_used H locs ls hf hP hD hS hl
        unfold f_X7_ushersFor_107 at hf
        refine lv_aload_n hx hb dX7_ushersFor_107 rfl (lv_at hl 0 rfl) ?_
        refine va_get (D := D) (ci := 6) (v := .ref a_t_used) (C := RX7) (T := TX7) (N := 6) hx hb hT inX7 hown hK hP 0 rfl rfl 5 (by decide) (hT _ tb_293) (fun _ h9 => h9) rfl dX7_ushersFor_108 ?_
        refine lv_iconst (v := 1) hx hb dX7_ushersFor_111 (by decide) ?_
        refine lv_iload_n hx hb dX7_ushersFor_112 rfl (lv_at hl 1 rfl) ?_
        refine lv_ishl hx hb dX7_ushersFor_113 ?_
        refine lv_iconst (v := 1) hx hb dX7_ushersFor_114 (by decide) ?_
        refine lv_isub hx hb dX7_ushersFor_115 ?_
        obtain ⟨hi_116, hf⟩ := ix_some hf
        refine va_iald hx hb hK hP 3 0 rfl rfl hi_116 dX7_ushersFor_116 ?_
        refine lv_istore_n (lv' := [(3, .int (t_used ((1 <<< (x1 &&& 31)) - 1).toNatClampNeg)), (0, .ref a_t), (1, .int x1)]) hx hb dX7_ushersFor_117 rfl hl (by decide) rfl (fun ls hl => ?_)
        refine lv_iload_n hx hb dX7_ushersFor_118 rfl (lv_at hl 0 rfl) ?_
        refine lv_sipush (v := 4096) hx hb dX7_ushersFor_119 (by decide) ?_
        refine lv_idiv hx hb dX7_ushersFor_122 (by decide) ?_
        refine lv_iload_n hx hb dX7_ushersFor_123 rfl (lv_at hl 0 rfl) ?_
        refine lv_sipush (v := 4096) hx hb dX7_ushersFor_124 (by decide) ?_
        refine lv_irem hx hb dX7_ushersFor_127 (by decide) ?_
        refine lv_if_le (tgt := 135) hx hb dX7_ushersFor_128 (by decide) (fun hc_128 => ?_) (fun hc_128 => ?_)
        · have hf := it_pos hc_128 hf
          refine lv_iconst (v := 0) hx hb dX7_ushersFor_135 (by decide) ?_
          refine lv_iadd hx hb dX7_ushersFor_136 ?_
          obtain rfl := Option.some.inj hf
          exact hQ H locs 137 ls hP hD hS trivial dX7_ushersFor_137
        · have hf := it_neg hc_128 hf
          refine lv_iconst (v := 1) hx hb dX7_ushersFor_131 (by decide) ?_
          refine lv_goto (tgt := 136) hx hb dX7_ushersFor_132 (by decide) ?_
          refine lv_iadd hx hb dX7_ushersFor_136 ?_
          obtain rfl := Option.some.inj hf
          exact hQ H locs 137 ls hP hD hS trivial dX7_ushersFor_137
      refine lv_icmp_ge (tgt := 107) hx hb dX7_ushersFor_13 (by decide) (fun hc_13 => ?_) (fun hc_13 => ?_)
      · have hf := it_pos hc_13 hf
        exact J_107 _ _ _ _ _ hf hP hD hS (lv_sub hl [0, 1] rfl)
      · have hf := it_neg hc_13 hf
        refine lv_iload_n hx hb dX7_ushersFor_16 rfl (lv_at hl 3 rfl) ?_
        refine lv_aload_n hx hb dX7_ushersFor_17 rfl (lv_at hl 0 rfl) ?_
        refine va_get (D := D) (ci := 6) (v := .ref a_t_used) (C := RX7) (T := TX7) (N := 6) hx hb hT inX7 hown hK hP 0 rfl rfl 5 (by decide) (hT _ tb_293) (fun _ h9 => h9) rfl dX7_ushersFor_18 ?_
        refine va_alen (v := 1024) hx hb hK hP 3 0 rfl rfl (by rfl) dX7_ushersFor_21 ?_
        refine lv_icmp_ge (tgt := 107) hx hb dX7_ushersFor_22 (by decide) (fun hc_22 => ?_) (fun hc_22 => ?_)
        · have hf := it_pos hc_22 hf
          exact J_107 _ _ _ _ _ hf hP hD hS (lv_sub hl [0, 1] rfl)
        · have hf := it_neg hc_22 hf
          refine lv_aload_n hx hb dX7_ushersFor_25 rfl (lv_at hl 0 rfl) ?_
          refine va_get (D := D) (ci := 6) (v := .ref a_t_used) (C := RX7) (T := TX7) (N := 6) hx hb hT inX7 hown hK hP 0 rfl rfl 5 (by decide) (hT _ tb_293) (fun _ h9 => h9) rfl dX7_ushersFor_26 ?_
          refine lv_iload_n hx hb dX7_ushersFor_29 rfl (lv_at hl 3 rfl) ?_
          refine lv_ldc (v := 1073741824) hx hb hown (hT _ tb_950) dX7_ushersFor_30 ?_
          obtain ⟨hi_32, hf⟩ := ix_some hf
          refine va_iast hx hb hK hP hD hS 3 0 rfl rfl hi_32 dX7_ushersFor_32 (fun H locs hP hD hS => ?_)
          have hP : va_P D vwCl (w_X7_ushersFor cI cB cZ a_t a_t_tape a_t_tape_bytes a_t_used a_t_lowSums a_t_highSums a_t_freeAt a_t_rising t_tape_length t_tape_bytes (upd t_used x3.toNatClampNeg 1073741824)) H := hP
          have hD : va_D A (w_X7_ushersFor cI cB cZ a_t a_t_tape a_t_tape_bytes a_t_used a_t_lowSums a_t_highSums a_t_freeAt a_t_rising t_tape_length t_tape_bytes (upd t_used x3.toNatClampNeg 1073741824)) := hD
          refine lv_iconst (v := 0) hx hb dX7_ushersFor_33 (by decide) ?_
          have J_36 : ∀ (n_36 : Nat) (x1 : Int32) (x2 : Int32) (x3 : Int32) (x4 : Int32) (t_used : (Nat → Int32)) (H : Heap) (locs : List Loc) (ls : Array Slot), f_X7_ushersFor_36 t_tape_length t_tape_bytes (f_X7_ushersFor_9 t_tape_length t_tape_bytes n_9) n_36 x1 x2 x3 x4 t_used = some res → va_P D vwCl (w_X7_ushersFor cI cB cZ a_t a_t_tape a_t_tape_bytes a_t_used a_t_lowSums a_t_highSums a_t_freeAt a_t_rising t_tape_length t_tape_bytes t_used) H → va_D A (w_X7_ushersFor cI cB cZ a_t a_t_tape a_t_tape_bytes a_t_used a_t_lowSums a_t_highSums a_t_freeAt a_t_rising t_tape_length t_tape_bytes t_used) → va_S A s.heap H locs → lv_has ls 6 [(0, .ref a_t), (1, .int x1), (2, .int x2), (3, .int x3), (4, .int x4)] → W p l e R s m args below meth c H locs 0 0 Q (F0 m 36 ls []) := by
            intro n_36
            induction n_36 with
            | zero =>
              intro x1 x2 x3 x4 t_used H locs ls hf hP hD hS hl
              cases hf
            | succ n_36 ih_36 =>
              intro x1 x2 x3 x4 t_used H locs ls hf hP hD hS hl
              unfold f_X7_ushersFor_36 at hf
              refine lv_iload hx hb dX7_ushersFor_36 (lv_at hl 4 rfl) ?_
              refine lv_iload_n hx hb dX7_ushersFor_38 rfl (lv_at hl 1 rfl) ?_
              refine lv_icmp_ge (tgt := 101) hx hb dX7_ushersFor_39 (by decide) (fun hc_39 => ?_) (fun hc_39 => ?_)
              · have hf := it_pos hc_39 hf
                refine lv_iinc (v := x3 + 1) (lv' := [(3, .int (x3 + 1)), (0, .ref a_t), (1, .int x1), (2, .int x2), (4, .int x4)]) hx hb dX7_ushersFor_101 hl (k := 3) rfl (congrArg (_ + ·) (by decide : Int32.ofInt 1 = 1)) (by decide) rfl (fun ls hl => ?_)
                refine lv_goto (tgt := 9) hx hb dX7_ushersFor_104 (by decide) ?_
                exact ih_9 _ _ _ _ _ _ _ hf hP hD hS (lv_sub hl [1, 2, 3, 0] rfl)
              · have hf := it_neg hc_39 hf
                refine lv_iload_n hx hb dX7_ushersFor_42 rfl (lv_at hl 3 rfl) ?_
                refine lv_iload hx hb dX7_ushersFor_43 (lv_at hl 4 rfl) ?_
                refine lv_ishr hx hb dX7_ushersFor_45 ?_
                refine lv_iconst (v := 1) hx hb dX7_ushersFor_46 (by decide) ?_
                refine lv_iand hx hb dX7_ushersFor_47 ?_
                refine lv_iconst (v := 1) hx hb dX7_ushersFor_48 (by decide) ?_
                refine lv_icmp_ne (tgt := 95) hx hb dX7_ushersFor_49 (by decide) (fun hc_49 => ?_) (fun hc_49 => ?_)
                · have hf := it_neg hc_49 hf
                  refine lv_iinc (v := x4 + 1) (lv' := [(4, .int (x4 + 1)), (0, .ref a_t), (1, .int x1), (2, .int x2), (3, .int x3)]) hx hb dX7_ushersFor_95 hl (k := 4) rfl (congrArg (_ + ·) (by decide : Int32.ofInt 1 = 1)) (by decide) rfl (fun ls hl => ?_)
                  refine lv_goto (tgt := 36) hx hb dX7_ushersFor_98 (by decide) ?_
                  exact ih_36 _ _ _ _ _ _ _ _ hf hP hD hS (lv_sub hl [1, 2, 3, 4, 0] rfl)
                · have hf := it_pos hc_49 hf
                  refine lv_aload_n hx hb dX7_ushersFor_52 rfl (lv_at hl 0 rfl) ?_
                  refine va_get (D := D) (ci := 6) (v := .ref a_t_used) (C := RX7) (T := TX7) (N := 6) hx hb hT inX7 hown hK hP 0 rfl rfl 5 (by decide) (hT _ tb_293) (fun _ h9 => h9) rfl dX7_ushersFor_53 ?_
                  refine lv_iload_n hx hb dX7_ushersFor_56 rfl (lv_at hl 3 rfl) ?_
                  refine lv_iconst (v := 1) hx hb dX7_ushersFor_57 (by decide) ?_
                  refine lv_iload hx hb dX7_ushersFor_58 (lv_at hl 4 rfl) ?_
                  refine lv_ishl hx hb dX7_ushersFor_60 ?_
                  refine lv_isub hx hb dX7_ushersFor_61 ?_
                  obtain ⟨hi_62, hf⟩ := ix_some hf
                  refine va_iald hx hb hK hP 3 0 rfl rfl hi_62 dX7_ushersFor_62 ?_
                  refine lv_istore (lv' := [(5, .int (t_used (x3 - (1 <<< (x4 &&& 31))).toNatClampNeg)), (0, .ref a_t), (1, .int x1), (2, .int x2), (3, .int x3), (4, .int x4)]) hx hb dX7_ushersFor_63 hl (by decide) rfl (fun ls hl => ?_)
                  refine lv_aload_n hx hb dX7_ushersFor_65 rfl (lv_at hl 1 rfl) ?_
                  refine va_get (D := D) (ci := 6) (v := .ref a_t_used) (C := RX7) (T := TX7) (N := 6) hx hb hT inX7 hown hK hP 0 rfl rfl 5 (by decide) (hT _ tb_293) (fun _ h9 => h9) rfl dX7_ushersFor_66 ?_
                  refine lv_iload_n hx hb dX7_ushersFor_69 rfl (lv_at hl 4 rfl) ?_
                  refine lv_aload_n hx hb dX7_ushersFor_70 rfl (lv_at hl 1 rfl) ?_
                  refine va_get (D := D) (ci := 6) (v := .ref a_t_used) (C := RX7) (T := TX7) (N := 6) hx hb hT inX7 hown hK hP 0 rfl rfl 5 (by decide) (hT _ tb_293) (fun _ h9 => h9) rfl dX7_ushersFor_71 ?_
                  refine lv_iload_n hx hb dX7_ushersFor_74 rfl (lv_at hl 4 rfl) ?_
                  obtain ⟨hi_75, hf⟩ := ix_some hf
                  refine va_iald hx hb hK hP 3 0 rfl rfl hi_75 dX7_ushersFor_75 ?_
                  refine lv_iload hx hb dX7_ushersFor_76 (lv_at hl 0 rfl) ?_
                  refine lv_aload_n hx hb dX7_ushersFor_78 rfl (lv_at hl 1 rfl) ?_
                  refine va_get (D := D) (ci := 6) (v := .ref a_t_tape) (C := RX7) (T := TX7) (N := 6) hx hb hT inX7 hown hK hP 0 rfl rfl 0 (by decide) (hT _ tb_288) (fun _ h9 => h9) rfl dX7_ushersFor_79 ?_
                  refine lv_iload hx hb dX7_ushersFor_82 (lv_at hl 5 rfl) ?_
                  obtain ⟨z84, e84, hf⟩ := bd_some hf
                  refine rV_RO (As := [.int x4]) (rest := [.int (t_used (x3 - (1 <<< (x4 &&& 31))).toNatClampNeg), .int (t_used x3.toNatClampNeg), .int x3, .ref a_t_used]) ⟨hx, hb, hml, hown, hT⟩ (gdV tb_942 tb_943 tb_944 tb_86 tb_945) hd_X8_byteAt (c_X8_byteAt l D cI cB cZ a_t_tape a_t_tape_bytes t_tape_length t_tape_bytes x4 z84 e84) ⟨rfl, rfl⟩ ⟨Nat.le_trans (by decide) hRf, Nat.le_trans (by decide) hRl⟩ ⟨hK, hN⟩ hP [1, 2] rfl 1 rfl rfl rfl hl.1 rfl (Nat.le_of_ble_eq_true rfl) ⟨Nat.zero_le _, Nat.zero_le _⟩ dX7_ushersFor_84 (fun _ => ?_)
                  refine lv_iload_n hx hb dX7_ushersFor_87 rfl (lv_at hl 3 rfl) ?_
                  obtain ⟨z88, e88, hf⟩ := bd_some hf
                  refine rS_RO (As := [.int (t_used (x3 - (1 <<< (x4 &&& 31))).toNatClampNeg), .int z84, .int x2]) (rest := [.int (t_used x3.toNatClampNeg), .int x3, .ref a_t_used]) ⟨hx, hb, hml, hown, hT⟩ (gdS tb_1073 tb_1074 tb_95 tb_1075) hd_X7_withOneMore (c_X7_withOneMore l D cI cB cZ (t_used (x3 - (1 <<< (x4 &&& 31))).toNatClampNeg) z84 x2 z88 e88) ⟨rfl, rfl⟩ ⟨Nat.le_trans (by decide) hRf, Nat.le_trans (by decide) hRl⟩ ⟨hK, hN⟩ hP [] rfl rfl hl.1 rfl (Nat.le_of_ble_eq_true rfl) ⟨Nat.zero_le _, Nat.zero_le _⟩ dX7_ushersFor_88 (fun _ => ?_)
                  refine va_mmin hx hb (hml.trans hl.1.symm) hown (hT _ tb_937) (hT _ tb_421) (hT _ tb_98) (hT _ tb_422) (Nat.le_trans (by decide) hRf) (Nat.le_trans (Nat.le_of_ble_eq_true rfl) hRl) (Nat.zero_le _) (Nat.zero_le _) dX7_ushersFor_91 ?_
                  obtain ⟨hi_94, hf⟩ := ix_some hf
                  refine va_iast hx hb hK hP hD hS 3 0 rfl rfl hi_94 dX7_ushersFor_94 (fun H locs hP hD hS => ?_)
                  have hP : va_P D vwCl (w_X7_ushersFor cI cB cZ a_t a_t_tape a_t_tape_bytes a_t_used a_t_lowSums a_t_highSums a_t_freeAt a_t_rising t_tape_length t_tape_bytes (upd t_used x3.toNatClampNeg (if z88 < (t_used x3.toNatClampNeg) then z88 else (t_used x3.toNatClampNeg)))) H := hP
                  have hD : va_D A (w_X7_ushersFor cI cB cZ a_t a_t_tape a_t_tape_bytes a_t_used a_t_lowSums a_t_highSums a_t_freeAt a_t_rising t_tape_length t_tape_bytes (upd t_used x3.toNatClampNeg (if z88 < (t_used x3.toNatClampNeg) then z88 else (t_used x3.toNatClampNeg)))) := hD
                  refine lv_iinc (v := x4 + 1) (lv' := [(4, .int (x4 + 1)), (5, .int (t_used (x3 - (1 <<< (x4 &&& 31))).toNatClampNeg)), (0, .ref a_t), (1, .int x1), (2, .int x2), (3, .int x3)]) hx hb dX7_ushersFor_95 hl (k := 5) rfl (congrArg (_ + ·) (by decide : Int32.ofInt 1 = 1)) (by decide) rfl (fun ls hl => ?_)
                  refine lv_goto (tgt := 36) hx hb dX7_ushersFor_98 (by decide) ?_
                  exact ih_36 _ _ _ _ _ _ _ _ hf hP hD hS (lv_sub hl [2, 3, 4, 5, 0] rfl)
          refine lv_istore (lv' := [(4, .int 0), (0, .ref a_t), (1, .int x1), (2, .int x2), (3, .int x3)]) hx hb dX7_ushersFor_34 hl (by decide) rfl (fun ls hl => ?_)
          exact J_36 _ _ _ _ _ _ _ _ _ hf hP hD hS (lv_sub hl [1, 2, 3, 4, 0] rfl)
  refine lv_istore_n (lv' := [(3, .int 1), (0, .ref a_t), (1, .int x1), (2, .int x2)]) hx hb dX7_ushersFor_8 rfl hl (by decide) rfl (fun ls hl => ?_)
  exact J_9 _ _ _ _ _ _ _ _ hf hP hD hS (lv_sub hl [1, 2, 3, 0] rfl)
theorem hd_X7_ushersFor : (yX7_ushersFor).cls = RX7 ∧ (yX7_ushersFor).cls ≠ "java/lang/invoke/MethodHandle" ∧ (yX7_ushersFor).cls ≠ "java/lang/invoke/VarHandle" ∧ (parseMethodDescriptor (yX7_ushersFor).desc).map (fun d => d.parameters.length) = some 2 := by decide +kernel
theorem c_X7_ushersFor (l : Launch) (D : va_G) (cI cB cZ : ClassId) (a_t : Nat) (a_t_tape : Nat) (a_t_tape_bytes : Nat) (a_t_used : Nat) (a_t_lowSums : Nat) (a_t_highSums : Nat) (a_t_freeAt : Nat) (a_t_rising : Nat) (t_tape_length : Int32) (t_tape_bytes : (Nat → Int32)) (t_used : (Nat → Int32)) (x1 : Int32) (x2 : Int32) (sz : Nat) (res : Int32 × (Nat → Int32)) (hf : f_X7_ushersFor t_tape_length t_tape_bytes t_used x1 x2 = some res) : Met l yX7_ushersFor (.code yX7_ushersFor cX7_ushersFor 6 (some .int) :: TB) (rmk (1) (40)) (pRW [.ref a_t, .int x1, .int x2] D cI cB cZ (w_X7_ushersFor cI cB cZ a_t a_t_tape a_t_tape_bytes a_t_used a_t_lowSums a_t_highSums a_t_freeAt a_t_rising t_tape_length t_tape_bytes t_used) sz) (qRW (some (.int res.1)) True D (w_X7_ushersFor cI cB cZ a_t a_t_tape a_t_tape_bytes a_t_used a_t_lowSums a_t_highSums a_t_freeAt a_t_rising t_tape_length t_tape_bytes t_used) sz (w_X7_ushersFor cI cB cZ a_t a_t_tape a_t_tape_bytes a_t_used a_t_lowSums a_t_highSums a_t_freeAt a_t_rising t_tape_length t_tape_bytes res.2)) 0 0 (va_A (w_X7_ushersFor cI cB cZ a_t a_t_tape a_t_tape_bytes a_t_used a_t_lowSums a_t_highSums a_t_freeAt a_t_rising t_tape_length t_tape_bytes t_used) sz) :=
  mkRW (by decide +kernel) (Nat.le_of_ble_eq_true rfl) (fun p e s m below meth c ls A hAe S hr hlk hK hA hP hD hS hl => b_X7_ushersFor S.1 S.2.1 S.2.2.1 S.2.2.2.1 S.2.2.2.2 (Nat.le_refl _) (Nat.le_refl _) hK.1 hK.2 hA s.heap [] a_t a_t_tape a_t_tape_bytes a_t_used a_t_lowSums a_t_highSums a_t_freeAt a_t_rising t_tape_length t_tape_bytes t_used x1 x2 res hf hP hD hS (fun H locs pc ls hP hD hS hE hd => eRW_i S.1 S.2.1 hr rfl hlk hAe hP hD hS hE hd) ls hl)
def f_X7_leadInBestRow_44 (t_tape_length : Int32) (t_tape_bytes : (Nat → Int32)) : Nat → Int32 → Int32 → Int32 → Int32 → Int32 → (Nat → Int32) → Option (Int32 × (Nat → Int32))
  | 0, _, _, _, _, _, _ => none
  | n + 1, x1, x2, x4, x5, x6, t_used => (if 32 ≤ x6 then some (x4, t_used) else (if x5 ≤ x4 then some (x4, t_used) else (f_X7_ushersFor t_tape_length t_tape_bytes t_used x1 ((x4 + x5) / 2)).bind (fun z71 => (if x2 < z71.1 then (f_X7_leadInBestRow_44 t_tape_length t_tape_bytes n) x1 x2 (((x4 + x5) / 2) + 1) x5 (x6 + 1) z71.2 else (f_X7_leadInBestRow_44 t_tape_length t_tape_bytes n) x1 x2 x4 ((x4 + x5) / 2) (x6 + 1) z71.2))))
def f_X7_leadInBestRow_5 (t_tape_length : Int32) (t_tape_bytes : (Nat → Int32)) : Nat → Int32 → Int32 → Int32 → Int32 → (Nat → Int32) → Option (Int32 × (Nat → Int32))
  | 0, _, _, _, _, _ => none
  | n + 1, x1, x2, x3, x4, t_used => (if x1 ≤ x4 then (f_X7_sumOfFirst t_tape_length t_tape_bytes x1).bind (fun z36 => f_X7_leadInBestRow_44 t_tape_length t_tape_bytes FU x1 x2 x3 z36 0 t_used) else (f_X8_byteAt t_tape_length t_tape_bytes x4).bind (fun z18 => (f_X7_leadInBestRow_5 t_tape_length t_tape_bytes n) x1 x2 (if x3 < z18 then z18 else x3) (x4 + 1) t_used))
def f_X7_leadInBestRow (t_tape_length : Int32) (t_tape_bytes : (Nat → Int32)) (t_used : (Nat → Int32)) (x1 : Int32) (x2 : Int32) : Option (Int32 × (Nat → Int32)) := f_X7_leadInBestRow_5 t_tape_length t_tape_bytes FU x1 x2 0 0 t_used
def w_X7_leadInBestRow (cI cB cZ : ClassId) (a_t : Nat) (a_t_tape : Nat) (a_t_tape_bytes : Nat) (a_t_used : Nat) (a_t_lowSums : Nat) (a_t_highSums : Nat) (a_t_freeAt : Nat) (a_t_rising : Nat) (t_tape_length : Int32) (t_tape_bytes : (Nat → Int32)) (t_used : (Nat → Int32)) : va_W := [(a_t, .inr (6, [.ref a_t_tape, .ref a_t_lowSums, .ref a_t_highSums, .ref a_t_freeAt, .ref a_t_rising, .ref a_t_used])), (a_t_tape, .inr (7, [.ref a_t_tape_bytes, .int t_tape_length])), (a_t_tape_bytes, .inl (cI, 260, .inl t_tape_bytes)), (a_t_used, .inl (cI, 1024, .inl t_used))]
set_option maxHeartbeats 4000000 in
set_option maxRecDepth 100000 in
theorem b_X7_leadInBestRow {p : Program} {l : Launch} {e : Env} {R : Room} {s : State} {m : MethodId} {args : Array Value} {below : List Frame} {meth : Method} {c : Code} {Q : State → Prop} {D : va_G} {cI cB cZ : ClassId} (hx : p.tables.exec = Jvm.exec) (hb : c.code = cX7_leadInBestRow) (hml : c.maxLocals = 8) (hown : s.vm.findClass RX7 = some m.cls) (hT : ∀ w ∈ TB, w.before args s = true) (hRf : (2) ≤ R.frames) (hRl : (65) ≤ R.locals) (hK : va_K D vwCl (tyL cI cB cZ) s) (hN : NW s) {A : Nat → Prop} (hA : ∀ q : Nat, s.heap.size ≤ q → A q) (H : Heap) (locs : List Loc)  (a_t : Nat) (a_t_tape : Nat) (a_t_tape_bytes : Nat) (a_t_used : Nat) (a_t_lowSums : Nat) (a_t_highSums : Nat) (a_t_freeAt : Nat) (a_t_rising : Nat) (t_tape_length : Int32) (t_tape_bytes : (Nat → Int32)) (t_used : (Nat → Int32)) (x1 : Int32) (x2 : Int32) (res : Int32 × (Nat → Int32)) (hf : f_X7_leadInBestRow t_tape_length t_tape_bytes t_used x1 x2 = some res) (hP : va_P D vwCl (w_X7_leadInBestRow cI cB cZ a_t a_t_tape a_t_tape_bytes a_t_used a_t_lowSums a_t_highSums a_t_freeAt a_t_rising t_tape_length t_tape_bytes t_used) H) (hD : va_D A (w_X7_leadInBestRow cI cB cZ a_t a_t_tape a_t_tape_bytes a_t_used a_t_lowSums a_t_highSums a_t_freeAt a_t_rising t_tape_length t_tape_bytes t_used)) (hS : va_S A s.heap H locs) (hQ : ∀ (H : Heap) (locs : List Loc) (pc : Nat) (ls : Array Slot), va_P D vwCl (w_X7_leadInBestRow cI cB cZ a_t a_t_tape a_t_tape_bytes a_t_used a_t_lowSums a_t_highSums a_t_freeAt a_t_rising t_tape_length t_tape_bytes res.2) H → va_D A (w_X7_leadInBestRow cI cB cZ a_t a_t_tape a_t_tape_bytes a_t_used a_t_lowSums a_t_highSums a_t_freeAt a_t_rising t_tape_length t_tape_bytes res.2) → va_S A s.heap H locs → True → decode cX7_leadInBestRow pc = .ok (.ireturn, 1) → W p l e R s m args below meth c H locs 0 0 Q (F0 m pc ls [.int res.1])) (ls : Array Slot) (hl : lv_has ls 8 [(0, .ref a_t), (1, .int x1), (2, .int x2)]) : W p l e R s m args below meth c H locs 0 0 Q (F0 m 0 ls []) := by
  unfold f_X7_leadInBestRow at hf
  refine lv_iconst (v := 0) hx hb dX7_leadInBestRow_0 (by decide) ?_
  refine lv_istore_n (lv' := [(3, .int 0), (0, .ref a_t), (1, .int x1), (2, .int x2)]) hx hb dX7_leadInBestRow_1 rfl hl (by decide) rfl (fun ls hl => ?_)
  refine lv_iconst (v := 0) hx hb dX7_leadInBestRow_2 (by decide) ?_
  have J_5 : ∀ (n_5 : Nat) (x1 : Int32) (x2 : Int32) (x3 : Int32) (x4 : Int32) (t_used : (Nat → Int32)) (H : Heap) (locs : List Loc) (ls : Array Slot), f_X7_leadInBestRow_5 t_tape_length t_tape_bytes n_5 x1 x2 x3 x4 t_used = some res → va_P D vwCl (w_X7_leadInBestRow cI cB cZ a_t a_t_tape a_t_tape_bytes a_t_used a_t_lowSums a_t_highSums a_t_freeAt a_t_rising t_tape_length t_tape_bytes t_used) H → va_D A (w_X7_leadInBestRow cI cB cZ a_t a_t_tape a_t_tape_bytes a_t_used a_t_lowSums a_t_highSums a_t_freeAt a_t_rising t_tape_length t_tape_bytes t_used) → va_S A s.heap H locs → lv_has ls 8 [(0, .ref a_t), (1, .int x1), (2, .int x2), (3, .int x3), (4, .int x4)] → W p l e R s m args below meth c H locs 0 0 Q (F0 m 5 ls []) := by
    intro n_5
    induction n_5 with
    | zero =>
      intro x1 x2 x3 x4 t_used H locs ls hf hP hD hS hl
      cases hf
    | succ n_5 ih_5 =>
      intro x1 x2 x3 x4 t_used H locs ls hf hP hD hS hl
      unfold f_X7_leadInBestRow_5 at hf
      refine lv_iload hx hb dX7_leadInBestRow_5 (lv_at hl 4 rfl) ?_
      refine lv_iload_n hx hb dX7_leadInBestRow_7 rfl (lv_at hl 1 rfl) ?_
      refine lv_icmp_ge (tgt := 31) hx hb dX7_leadInBestRow_8 (by decide) (fun hc_8 => ?_) (fun hc_8 => ?_)
      · have hf := it_pos hc_8 hf
        refine lv_iload_n hx hb dX7_leadInBestRow_31 rfl (lv_at hl 3 rfl) ?_
        refine lv_istore (lv' := [(4, .int x3), (0, .ref a_t), (1, .int x1), (2, .int x2), (3, .int x3)]) hx hb dX7_leadInBestRow_32 hl (by decide) rfl (fun ls hl => ?_)
        refine lv_aload_n hx hb dX7_leadInBestRow_34 rfl (lv_at hl 1 rfl) ?_
        refine lv_iload_n hx hb dX7_leadInBestRow_35 rfl (lv_at hl 2 rfl) ?_
        obtain ⟨z36, e36, hf⟩ := bd_some hf
        refine rV_RO (As := [.int x1]) (rest := []) ⟨hx, hb, hml, hown, hT⟩ (gdV tb_946 tb_948 tb_21 tb_95 tb_949) hd_X7_sumOfFirst (c_X7_sumOfFirst l D cI cB cZ a_t a_t_tape a_t_tape_bytes a_t_lowSums a_t_highSums a_t_freeAt a_t_rising a_t_used t_tape_length t_tape_bytes x1 z36 e36) ⟨rfl, rfl⟩ ⟨Nat.le_trans (by decide) hRf, Nat.le_trans (by decide) hRl⟩ ⟨hK, hN⟩ hP [0, 1, 2] rfl 0 rfl rfl rfl hl.1 rfl (Nat.le_of_ble_eq_true rfl) ⟨Nat.zero_le _, Nat.zero_le _⟩ dX7_leadInBestRow_36 (fun _ => ?_)
        refine lv_istore (lv' := [(5, .int z36), (4, .int x3), (0, .ref a_t), (1, .int x1), (2, .int x2), (3, .int x3)]) hx hb dX7_leadInBestRow_39 hl (by decide) rfl (fun ls hl => ?_)
        refine lv_iconst (v := 0) hx hb dX7_leadInBestRow_41 (by decide) ?_
        have J_44 : ∀ (n_44 : Nat) (x1 : Int32) (x2 : Int32) (x4 : Int32) (x5 : Int32) (x6 : Int32) (t_used : (Nat → Int32)) (H : Heap) (locs : List Loc) (ls : Array Slot), f_X7_leadInBestRow_44 t_tape_length t_tape_bytes n_44 x1 x2 x4 x5 x6 t_used = some res → va_P D vwCl (w_X7_leadInBestRow cI cB cZ a_t a_t_tape a_t_tape_bytes a_t_used a_t_lowSums a_t_highSums a_t_freeAt a_t_rising t_tape_length t_tape_bytes t_used) H → va_D A (w_X7_leadInBestRow cI cB cZ a_t a_t_tape a_t_tape_bytes a_t_used a_t_lowSums a_t_highSums a_t_freeAt a_t_rising t_tape_length t_tape_bytes t_used) → va_S A s.heap H locs → lv_has ls 8 [(0, .ref a_t), (1, .int x1), (2, .int x2), (4, .int x4), (5, .int x5), (6, .int x6)] → W p l e R s m args below meth c H locs 0 0 Q (F0 m 44 ls []) := by
          intro n_44
          induction n_44 with
          | zero =>
            intro x1 x2 x4 x5 x6 t_used H locs ls hf hP hD hS hl
            cases hf
          | succ n_44 ih_44 =>
            intro x1 x2 x4 x5 x6 t_used H locs ls hf hP hD hS hl
            unfold f_X7_leadInBestRow_44 at hf
            refine lv_iload hx hb dX7_leadInBestRow_44 (lv_at hl 5 rfl) ?_
            refine lv_bipush (v := 32) hx hb dX7_leadInBestRow_46 (by decide) ?_
            refine lv_icmp_ge (tgt := 97) hx hb dX7_leadInBestRow_48 (by decide) (fun hc_48 => ?_) (fun hc_48 => ?_)
            · have hf := it_pos hc_48 hf
              refine lv_iload hx hb dX7_leadInBestRow_97 (lv_at hl 3 rfl) ?_
              obtain rfl := Option.some.inj hf
              exact hQ H locs 99 ls hP hD hS trivial dX7_leadInBestRow_99
            · have hf := it_neg hc_48 hf
              refine lv_iload hx hb dX7_leadInBestRow_51 (lv_at hl 3 rfl) ?_
              refine lv_iload hx hb dX7_leadInBestRow_53 (lv_at hl 4 rfl) ?_
              refine lv_icmp_ge (tgt := 97) hx hb dX7_leadInBestRow_55 (by decide) (fun hc_55 => ?_) (fun hc_55 => ?_)
              · have hf := it_pos hc_55 hf
                refine lv_iload hx hb dX7_leadInBestRow_97 (lv_at hl 3 rfl) ?_
                obtain rfl := Option.some.inj hf
                exact hQ H locs 99 ls hP hD hS trivial dX7_leadInBestRow_99
              · have hf := it_neg hc_55 hf
                refine lv_iload hx hb dX7_leadInBestRow_58 (lv_at hl 3 rfl) ?_
                refine lv_iload hx hb dX7_leadInBestRow_60 (lv_at hl 4 rfl) ?_
                refine lv_iadd hx hb dX7_leadInBestRow_62 ?_
                refine lv_iconst (v := 2) hx hb dX7_leadInBestRow_63 (by decide) ?_
                refine lv_idiv hx hb dX7_leadInBestRow_64 (by decide) ?_
                refine lv_istore (lv' := [(7, .int ((x4 + x5) / 2)), (0, .ref a_t), (1, .int x1), (2, .int x2), (4, .int x4), (5, .int x5), (6, .int x6)]) hx hb dX7_leadInBestRow_65 hl (by decide) rfl (fun ls hl => ?_)
                refine lv_aload_n hx hb dX7_leadInBestRow_67 rfl (lv_at hl 1 rfl) ?_
                refine lv_iload_n hx hb dX7_leadInBestRow_68 rfl (lv_at hl 2 rfl) ?_
                refine lv_iload hx hb dX7_leadInBestRow_69 (lv_at hl 0 rfl) ?_
                obtain ⟨z71, e71, hf⟩ := bd_some hf
                refine rV_RW (As := [.int x1, .int ((x4 + x5) / 2)]) (rest := []) (w2 := (w_X7_leadInBestRow cI cB cZ a_t a_t_tape a_t_tape_bytes a_t_used a_t_lowSums a_t_highSums a_t_freeAt a_t_rising t_tape_length t_tape_bytes z71.2)) ⟨hx, hb, hml, hown, hT⟩ (gdV tb_1069 tb_1071 tb_27 tb_95 tb_1072) hd_X7_ushersFor (c_X7_ushersFor l D cI cB cZ a_t a_t_tape a_t_tape_bytes a_t_used a_t_lowSums a_t_highSums a_t_freeAt a_t_rising t_tape_length t_tape_bytes t_used x1 ((x4 + x5) / 2) H.size z71 e71) ⟨rfl, rfl⟩ ⟨Nat.le_trans (by decide) hRf, Nat.le_trans (by decide) hRl⟩ ⟨hK, hN⟩ hA hP hD hS [0, 1, 2, 3] [] rfl (by decide) (wr := []) rfl (by decide) (by decide) [0, 1, 2, 3] rfl (by decide) 0 rfl rfl rfl hl.1 rfl (Nat.le_of_ble_eq_true rfl) ⟨Nat.zero_le _, Nat.zero_le _⟩ dX7_leadInBestRow_71 (fun H locs hP hD hS _ => ?_)
                refine lv_iload_n hx hb dX7_leadInBestRow_74 rfl (lv_at hl 3 rfl) ?_
                refine lv_icmp_gt (tgt := 85) hx hb dX7_leadInBestRow_75 (by decide) (fun hc_75 => ?_) (fun hc_75 => ?_)
                · have hf := it_pos hc_75 hf
                  refine lv_iload hx hb dX7_leadInBestRow_85 (lv_at hl 0 rfl) ?_
                  refine lv_iconst (v := 1) hx hb dX7_leadInBestRow_87 (by decide) ?_
                  refine lv_iadd hx hb dX7_leadInBestRow_88 ?_
                  refine lv_istore (lv' := [(4, .int (((x4 + x5) / 2) + 1)), (7, .int ((x4 + x5) / 2)), (0, .ref a_t), (1, .int x1), (2, .int x2), (5, .int x5), (6, .int x6)]) hx hb dX7_leadInBestRow_89 hl (by decide) rfl (fun ls hl => ?_)
                  refine lv_iinc (v := x6 + 1) (lv' := [(6, .int (x6 + 1)), (4, .int (((x4 + x5) / 2) + 1)), (7, .int ((x4 + x5) / 2)), (0, .ref a_t), (1, .int x1), (2, .int x2), (5, .int x5)]) hx hb dX7_leadInBestRow_91 hl (k := 6) rfl (congrArg (_ + ·) (by decide : Int32.ofInt 1 = 1)) (by decide) rfl (fun ls hl => ?_)
                  refine lv_goto (tgt := 44) hx hb dX7_leadInBestRow_94 (by decide) ?_
                  exact ih_44 _ _ _ _ _ _ _ _ _ hf hP hD hS (lv_sub hl [3, 4, 5, 1, 6, 0] rfl)
                · have hf := it_neg hc_75 hf
                  refine lv_iload hx hb dX7_leadInBestRow_78 (lv_at hl 0 rfl) ?_
                  refine lv_istore (lv' := [(5, .int ((x4 + x5) / 2)), (7, .int ((x4 + x5) / 2)), (0, .ref a_t), (1, .int x1), (2, .int x2), (4, .int x4), (6, .int x6)]) hx hb dX7_leadInBestRow_80 hl (by decide) rfl (fun ls hl => ?_)
                  refine lv_goto (tgt := 91) hx hb dX7_leadInBestRow_82 (by decide) ?_
                  refine lv_iinc (v := x6 + 1) (lv' := [(6, .int (x6 + 1)), (5, .int ((x4 + x5) / 2)), (7, .int ((x4 + x5) / 2)), (0, .ref a_t), (1, .int x1), (2, .int x2), (4, .int x4)]) hx hb dX7_leadInBestRow_91 hl (k := 6) rfl (congrArg (_ + ·) (by decide : Int32.ofInt 1 = 1)) (by decide) rfl (fun ls hl => ?_)
                  refine lv_goto (tgt := 44) hx hb dX7_leadInBestRow_94 (by decide) ?_
                  exact ih_44 _ _ _ _ _ _ _ _ _ hf hP hD hS (lv_sub hl [3, 4, 5, 6, 1, 0] rfl)
        refine lv_istore (lv' := [(6, .int 0), (5, .int z36), (4, .int x3), (0, .ref a_t), (1, .int x1), (2, .int x2), (3, .int x3)]) hx hb dX7_leadInBestRow_42 hl (by decide) rfl (fun ls hl => ?_)
        exact J_44 _ _ _ _ _ _ _ _ _ _ hf hP hD hS (lv_sub hl [3, 4, 5, 2, 1, 0] rfl)
      · have hf := it_neg hc_8 hf
        refine lv_iload_n hx hb dX7_leadInBestRow_11 rfl (lv_at hl 3 rfl) ?_
        refine lv_aload_n hx hb dX7_leadInBestRow_12 rfl (lv_at hl 0 rfl) ?_
        refine va_get (D := D) (ci := 6) (v := .ref a_t_tape) (C := RX7) (T := TX7) (N := 6) hx hb hT inX7 hown hK hP 0 rfl rfl 0 (by decide) (hT _ tb_288) (fun _ h9 => h9) rfl dX7_leadInBestRow_13 ?_
        refine lv_iload hx hb dX7_leadInBestRow_16 (lv_at hl 4 rfl) ?_
        obtain ⟨z18, e18, hf⟩ := bd_some hf
        refine rV_RO (As := [.int x4]) (rest := [.int x3]) ⟨hx, hb, hml, hown, hT⟩ (gdV tb_942 tb_943 tb_944 tb_86 tb_945) hd_X8_byteAt (c_X8_byteAt l D cI cB cZ a_t_tape a_t_tape_bytes t_tape_length t_tape_bytes x4 z18 e18) ⟨rfl, rfl⟩ ⟨Nat.le_trans (by decide) hRf, Nat.le_trans (by decide) hRl⟩ ⟨hK, hN⟩ hP [1, 2] rfl 1 rfl rfl rfl hl.1 rfl (Nat.le_of_ble_eq_true rfl) ⟨Nat.zero_le _, Nat.zero_le _⟩ dX7_leadInBestRow_18 (fun _ => ?_)
        refine va_mmax hx hb (hml.trans hl.1.symm) hown (hT _ tb_1060) (hT _ tb_477) (hT _ tb_98) (hT _ tb_478) (Nat.le_trans (by decide) hRf) (Nat.le_trans (Nat.le_of_ble_eq_true rfl) hRl) (Nat.zero_le _) (Nat.zero_le _) dX7_leadInBestRow_21 ?_
        refine lv_istore_n (lv' := [(3, .int (if x3 < z18 then z18 else x3)), (0, .ref a_t), (1, .int x1), (2, .int x2), (4, .int x4)]) hx hb dX7_leadInBestRow_24 rfl hl (by decide) rfl (fun ls hl => ?_)
        refine lv_iinc (v := x4 + 1) (lv' := [(4, .int (x4 + 1)), (3, .int (if x3 < z18 then z18 else x3)), (0, .ref a_t), (1, .int x1), (2, .int x2)]) hx hb dX7_leadInBestRow_25 hl (k := 4) rfl (congrArg (_ + ·) (by decide : Int32.ofInt 1 = 1)) (by decide) rfl (fun ls hl => ?_)
        refine lv_goto (tgt := 5) hx hb dX7_leadInBestRow_28 (by decide) ?_
        exact ih_5 _ _ _ _ _ _ _ _ hf hP hD hS (lv_sub hl [2, 3, 4, 1, 0] rfl)
  refine lv_istore (lv' := [(4, .int 0), (3, .int 0), (0, .ref a_t), (1, .int x1), (2, .int x2)]) hx hb dX7_leadInBestRow_3 hl (by decide) rfl (fun ls hl => ?_)
  exact J_5 _ _ _ _ _ _ _ _ _ hf hP hD hS (lv_sub hl [2, 3, 4, 1, 0] rfl)
theorem hd_X7_leadInBestRow : (yX7_leadInBestRow).cls = RX7 ∧ (yX7_leadInBestRow).cls ≠ "java/lang/invoke/MethodHandle" ∧ (yX7_leadInBestRow).cls ≠ "java/lang/invoke/VarHandle" ∧ (parseMethodDescriptor (yX7_leadInBestRow).desc).map (fun d => d.parameters.length) = some 2 := by decide +kernel
theorem c_X7_leadInBestRow (l : Launch) (D : va_G) (cI cB cZ : ClassId) (a_t : Nat) (a_t_tape : Nat) (a_t_tape_bytes : Nat) (a_t_used : Nat) (a_t_lowSums : Nat) (a_t_highSums : Nat) (a_t_freeAt : Nat) (a_t_rising : Nat) (t_tape_length : Int32) (t_tape_bytes : (Nat → Int32)) (t_used : (Nat → Int32)) (x1 : Int32) (x2 : Int32) (sz : Nat) (res : Int32 × (Nat → Int32)) (hf : f_X7_leadInBestRow t_tape_length t_tape_bytes t_used x1 x2 = some res) : Met l yX7_leadInBestRow (.code yX7_leadInBestRow cX7_leadInBestRow 8 (some .int) :: TB) (rmk (2) (65)) (pRW [.ref a_t, .int x1, .int x2] D cI cB cZ (w_X7_leadInBestRow cI cB cZ a_t a_t_tape a_t_tape_bytes a_t_used a_t_lowSums a_t_highSums a_t_freeAt a_t_rising t_tape_length t_tape_bytes t_used) sz) (qRW (some (.int res.1)) True D (w_X7_leadInBestRow cI cB cZ a_t a_t_tape a_t_tape_bytes a_t_used a_t_lowSums a_t_highSums a_t_freeAt a_t_rising t_tape_length t_tape_bytes t_used) sz (w_X7_leadInBestRow cI cB cZ a_t a_t_tape a_t_tape_bytes a_t_used a_t_lowSums a_t_highSums a_t_freeAt a_t_rising t_tape_length t_tape_bytes res.2)) 0 0 (va_A (w_X7_leadInBestRow cI cB cZ a_t a_t_tape a_t_tape_bytes a_t_used a_t_lowSums a_t_highSums a_t_freeAt a_t_rising t_tape_length t_tape_bytes t_used) sz) :=
  mkRW (by decide +kernel) (Nat.le_of_ble_eq_true rfl) (fun p e s m below meth c ls A hAe S hr hlk hK hA hP hD hS hl => b_X7_leadInBestRow S.1 S.2.1 S.2.2.1 S.2.2.2.1 S.2.2.2.2 (Nat.le_refl _) (Nat.le_refl _) hK.1 hK.2 hA s.heap [] a_t a_t_tape a_t_tape_bytes a_t_used a_t_lowSums a_t_highSums a_t_freeAt a_t_rising t_tape_length t_tape_bytes t_used x1 x2 res hf hP hD hS (fun H locs pc ls hP hD hS hE hd => eRW_i S.1 S.2.1 hr rfl hlk hAe hP hD hS hE hd) ls hl)
def f_X7_longestRising_25 (t_tape_length : Int32) (t_tape_bytes : (Nat → Int32)) (k4 : Int32 → Int32 → Int32 → (Nat → Int32) → Option (Int32 × (Nat → Int32))) : Nat → Int32 → Int32 → Int32 → Int32 → (Nat → Int32) → Option (Int32 × (Nat → Int32))
  | 0, _, _, _, _, _ => none
  | n + 1, x1, x2, x3, x4, t_rising => (if x3 ≤ x4 then ix 12 x3 (k4 x1 (if x2 < (t_rising x3.toNatClampNeg) then (t_rising x3.toNatClampNeg) else x2) (x3 + 1) t_rising) else (f_X8_byteAt t_tape_length t_tape_bytes x4).bind (fun z37 => (f_X8_byteAt t_tape_length t_tape_bytes x3).bind (fun z45 => (if z45 ≤ z37 then (f_X7_longestRising_25 t_tape_length t_tape_bytes k4 n) x1 x2 x3 (x4 + 1) t_rising else ix 12 x3 (ix 12 x4 (ix 12 x3 ((f_X7_longestRising_25 t_tape_length t_tape_bytes k4 n) x1 x2 x3 (x4 + 1) (upd t_rising x3.toNatClampNeg (if (t_rising x3.toNatClampNeg) < ((t_rising x4.toNatClampNeg) + 1) then ((t_rising x4.toNatClampNeg) + 1) else (t_rising x3.toNatClampNeg))))))))))
def f_X7_longestRising_4 (t_tape_length : Int32) (t_tape_bytes : (Nat → Int32)) : Nat → Int32 → Int32 → Int32 → (Nat → Int32) → Option (Int32 × (Nat → Int32))
  | 0, _, _, _, _ => none
  | n + 1, x1, x2, x3, t_rising => (if x1 ≤ x3 then some (x2, t_rising) else (if 12 ≤ x3 then some (x2, t_rising) else ix 12 x3 (f_X7_longestRising_25 t_tape_length t_tape_bytes (f_X7_longestRising_4 t_tape_length t_tape_bytes n) FU x1 x2 x3 0 (upd t_rising x3.toNatClampNeg 1))))
def f_X7_longestRising (t_tape_length : Int32) (t_tape_bytes : (Nat → Int32)) (t_rising : (Nat → Int32)) (x1 : Int32) : Option (Int32 × (Nat → Int32)) := f_X7_longestRising_4 t_tape_length t_tape_bytes FU x1 0 0 t_rising
def w_X7_longestRising (cI cB cZ : ClassId) (a_t : Nat) (a_t_tape : Nat) (a_t_tape_bytes : Nat) (a_t_rising : Nat) (a_t_lowSums : Nat) (a_t_highSums : Nat) (a_t_freeAt : Nat) (a_t_used : Nat) (t_tape_length : Int32) (t_tape_bytes : (Nat → Int32)) (t_rising : (Nat → Int32)) : va_W := [(a_t, .inr (6, [.ref a_t_tape, .ref a_t_lowSums, .ref a_t_highSums, .ref a_t_freeAt, .ref a_t_rising, .ref a_t_used])), (a_t_tape, .inr (7, [.ref a_t_tape_bytes, .int t_tape_length])), (a_t_tape_bytes, .inl (cI, 260, .inl t_tape_bytes)), (a_t_rising, .inl (cI, 12, .inl t_rising))]
set_option maxHeartbeats 4000000 in
set_option maxRecDepth 100000 in
theorem b_X7_longestRising {p : Program} {l : Launch} {e : Env} {R : Room} {s : State} {m : MethodId} {args : Array Value} {below : List Frame} {meth : Method} {c : Code} {Q : State → Prop} {D : va_G} {cI cB cZ : ClassId} (hx : p.tables.exec = Jvm.exec) (hb : c.code = cX7_longestRising) (hml : c.maxLocals = 5) (hown : s.vm.findClass RX7 = some m.cls) (hT : ∀ w ∈ TB, w.before args s = true) (hRf : (1) ≤ R.frames) (hRl : (40) ≤ R.locals) (hK : va_K D vwCl (tyL cI cB cZ) s) (hN : NW s) {A : Nat → Prop} (hA : ∀ q : Nat, s.heap.size ≤ q → A q) (H : Heap) (locs : List Loc)  (a_t : Nat) (a_t_tape : Nat) (a_t_tape_bytes : Nat) (a_t_rising : Nat) (a_t_lowSums : Nat) (a_t_highSums : Nat) (a_t_freeAt : Nat) (a_t_used : Nat) (t_tape_length : Int32) (t_tape_bytes : (Nat → Int32)) (t_rising : (Nat → Int32)) (x1 : Int32) (res : Int32 × (Nat → Int32)) (hf : f_X7_longestRising t_tape_length t_tape_bytes t_rising x1 = some res) (hP : va_P D vwCl (w_X7_longestRising cI cB cZ a_t a_t_tape a_t_tape_bytes a_t_rising a_t_lowSums a_t_highSums a_t_freeAt a_t_used t_tape_length t_tape_bytes t_rising) H) (hD : va_D A (w_X7_longestRising cI cB cZ a_t a_t_tape a_t_tape_bytes a_t_rising a_t_lowSums a_t_highSums a_t_freeAt a_t_used t_tape_length t_tape_bytes t_rising)) (hS : va_S A s.heap H locs) (hQ : ∀ (H : Heap) (locs : List Loc) (pc : Nat) (ls : Array Slot), va_P D vwCl (w_X7_longestRising cI cB cZ a_t a_t_tape a_t_tape_bytes a_t_rising a_t_lowSums a_t_highSums a_t_freeAt a_t_used t_tape_length t_tape_bytes res.2) H → va_D A (w_X7_longestRising cI cB cZ a_t a_t_tape a_t_tape_bytes a_t_rising a_t_lowSums a_t_highSums a_t_freeAt a_t_used t_tape_length t_tape_bytes res.2) → va_S A s.heap H locs → True → decode cX7_longestRising pc = .ok (.ireturn, 1) → W p l e R s m args below meth c H locs 0 0 Q (F0 m pc ls [.int res.1])) (ls : Array Slot) (hl : lv_has ls 5 [(0, .ref a_t), (1, .int x1)]) : W p l e R s m args below meth c H locs 0 0 Q (F0 m 0 ls []) := by
  unfold f_X7_longestRising at hf
  refine lv_iconst (v := 0) hx hb dX7_longestRising_0 (by decide) ?_
  refine lv_istore_n (lv' := [(2, .int 0), (0, .ref a_t), (1, .int x1)]) hx hb dX7_longestRising_1 rfl hl (by decide) rfl (fun ls hl => ?_)
  refine lv_iconst (v := 0) hx hb dX7_longestRising_2 (by decide) ?_
  have J_4 : ∀ (n_4 : Nat) (x1 : Int32) (x2 : Int32) (x3 : Int32) (t_rising : (Nat → Int32)) (H : Heap) (locs : List Loc) (ls : Array Slot), f_X7_longestRising_4 t_tape_length t_tape_bytes n_4 x1 x2 x3 t_rising = some res → va_P D vwCl (w_X7_longestRising cI cB cZ a_t a_t_tape a_t_tape_bytes a_t_rising a_t_lowSums a_t_highSums a_t_freeAt a_t_used t_tape_length t_tape_bytes t_rising) H → va_D A (w_X7_longestRising cI cB cZ a_t a_t_tape a_t_tape_bytes a_t_rising a_t_lowSums a_t_highSums a_t_freeAt a_t_used t_tape_length t_tape_bytes t_rising) → va_S A s.heap H locs → lv_has ls 5 [(0, .ref a_t), (1, .int x1), (2, .int x2), (3, .int x3)] → W p l e R s m args below meth c H locs 0 0 Q (F0 m 4 ls []) := by
    intro n_4
    induction n_4 with
    | zero =>
      intro x1 x2 x3 t_rising H locs ls hf hP hD hS hl
      cases hf
    | succ n_4 ih_4 =>
      intro x1 x2 x3 t_rising H locs ls hf hP hD hS hl
      unfold f_X7_longestRising_4 at hf
      refine lv_iload_n hx hb dX7_longestRising_4 rfl (lv_at hl 3 rfl) ?_
      refine lv_iload_n hx hb dX7_longestRising_5 rfl (lv_at hl 1 rfl) ?_
      refine lv_icmp_ge (tgt := 98) hx hb dX7_longestRising_6 (by decide) (fun hc_6 => ?_) (fun hc_6 => ?_)
      · have hf := it_pos hc_6 hf
        refine lv_iload_n hx hb dX7_longestRising_98 rfl (lv_at hl 2 rfl) ?_
        obtain rfl := Option.some.inj hf
        exact hQ H locs 99 ls hP hD hS trivial dX7_longestRising_99
      · have hf := it_neg hc_6 hf
        refine lv_iload_n hx hb dX7_longestRising_9 rfl (lv_at hl 3 rfl) ?_
        refine lv_bipush (v := 12) hx hb dX7_longestRising_10 (by decide) ?_
        refine lv_icmp_ge (tgt := 98) hx hb dX7_longestRising_12 (by decide) (fun hc_12 => ?_) (fun hc_12 => ?_)
        · have hf := it_pos hc_12 hf
          refine lv_iload_n hx hb dX7_longestRising_98 rfl (lv_at hl 2 rfl) ?_
          obtain rfl := Option.some.inj hf
          exact hQ H locs 99 ls hP hD hS trivial dX7_longestRising_99
        · have hf := it_neg hc_12 hf
          refine lv_aload_n hx hb dX7_longestRising_15 rfl (lv_at hl 0 rfl) ?_
          refine va_get (D := D) (ci := 6) (v := .ref a_t_rising) (C := RX7) (T := TX7) (N := 6) hx hb hT inX7 hown hK hP 0 rfl rfl 4 (by decide) (hT _ tb_292) (fun _ h9 => h9) rfl dX7_longestRising_16 ?_
          refine lv_iload_n hx hb dX7_longestRising_19 rfl (lv_at hl 3 rfl) ?_
          refine lv_iconst (v := 1) hx hb dX7_longestRising_20 (by decide) ?_
          obtain ⟨hi_21, hf⟩ := ix_some hf
          refine va_iast hx hb hK hP hD hS 3 0 rfl rfl hi_21 dX7_longestRising_21 (fun H locs hP hD hS => ?_)
          have hP : va_P D vwCl (w_X7_longestRising cI cB cZ a_t a_t_tape a_t_tape_bytes a_t_rising a_t_lowSums a_t_highSums a_t_freeAt a_t_used t_tape_length t_tape_bytes (upd t_rising x3.toNatClampNeg 1)) H := hP
          have hD : va_D A (w_X7_longestRising cI cB cZ a_t a_t_tape a_t_tape_bytes a_t_rising a_t_lowSums a_t_highSums a_t_freeAt a_t_used t_tape_length t_tape_bytes (upd t_rising x3.toNatClampNeg 1)) := hD
          refine lv_iconst (v := 0) hx hb dX7_longestRising_22 (by decide) ?_
          have J_25 : ∀ (n_25 : Nat) (x1 : Int32) (x2 : Int32) (x3 : Int32) (x4 : Int32) (t_rising : (Nat → Int32)) (H : Heap) (locs : List Loc) (ls : Array Slot), f_X7_longestRising_25 t_tape_length t_tape_bytes (f_X7_longestRising_4 t_tape_length t_tape_bytes n_4) n_25 x1 x2 x3 x4 t_rising = some res → va_P D vwCl (w_X7_longestRising cI cB cZ a_t a_t_tape a_t_tape_bytes a_t_rising a_t_lowSums a_t_highSums a_t_freeAt a_t_used t_tape_length t_tape_bytes t_rising) H → va_D A (w_X7_longestRising cI cB cZ a_t a_t_tape a_t_tape_bytes a_t_rising a_t_lowSums a_t_highSums a_t_freeAt a_t_used t_tape_length t_tape_bytes t_rising) → va_S A s.heap H locs → lv_has ls 5 [(0, .ref a_t), (1, .int x1), (2, .int x2), (3, .int x3), (4, .int x4)] → W p l e R s m args below meth c H locs 0 0 Q (F0 m 25 ls []) := by
            intro n_25
            induction n_25 with
            | zero =>
              intro x1 x2 x3 x4 t_rising H locs ls hf hP hD hS hl
              cases hf
            | succ n_25 ih_25 =>
              intro x1 x2 x3 x4 t_rising H locs ls hf hP hD hS hl
              unfold f_X7_longestRising_25 at hf
              refine lv_iload hx hb dX7_longestRising_25 (lv_at hl 4 rfl) ?_
              refine lv_iload_n hx hb dX7_longestRising_27 rfl (lv_at hl 3 rfl) ?_
              refine lv_icmp_ge (tgt := 81) hx hb dX7_longestRising_28 (by decide) (fun hc_28 => ?_) (fun hc_28 => ?_)
              · have hf := it_pos hc_28 hf
                refine lv_iload_n hx hb dX7_longestRising_81 rfl (lv_at hl 2 rfl) ?_
                refine lv_aload_n hx hb dX7_longestRising_82 rfl (lv_at hl 0 rfl) ?_
                refine va_get (D := D) (ci := 6) (v := .ref a_t_rising) (C := RX7) (T := TX7) (N := 6) hx hb hT inX7 hown hK hP 0 rfl rfl 4 (by decide) (hT _ tb_292) (fun _ h9 => h9) rfl dX7_longestRising_83 ?_
                refine lv_iload_n hx hb dX7_longestRising_86 rfl (lv_at hl 3 rfl) ?_
                obtain ⟨hi_87, hf⟩ := ix_some hf
                refine va_iald hx hb hK hP 3 0 rfl rfl hi_87 dX7_longestRising_87 ?_
                refine va_mmax hx hb (hml.trans hl.1.symm) hown (hT _ tb_1060) (hT _ tb_477) (hT _ tb_98) (hT _ tb_478) (Nat.le_trans (by decide) hRf) (Nat.le_trans (Nat.le_of_ble_eq_true rfl) hRl) (Nat.zero_le _) (Nat.zero_le _) dX7_longestRising_88 ?_
                refine lv_istore_n (lv' := [(2, .int (if x2 < (t_rising x3.toNatClampNeg) then (t_rising x3.toNatClampNeg) else x2)), (0, .ref a_t), (1, .int x1), (3, .int x3), (4, .int x4)]) hx hb dX7_longestRising_91 rfl hl (by decide) rfl (fun ls hl => ?_)
                refine lv_iinc (v := x3 + 1) (lv' := [(3, .int (x3 + 1)), (2, .int (if x2 < (t_rising x3.toNatClampNeg) then (t_rising x3.toNatClampNeg) else x2)), (0, .ref a_t), (1, .int x1), (4, .int x4)]) hx hb dX7_longestRising_92 hl (k := 3) rfl (congrArg (_ + ·) (by decide : Int32.ofInt 1 = 1)) (by decide) rfl (fun ls hl => ?_)
                refine lv_goto (tgt := 4) hx hb dX7_longestRising_95 (by decide) ?_
                exact ih_4 _ _ _ _ _ _ _ hf hP hD hS (lv_sub hl [2, 3, 1, 0] rfl)
              · have hf := it_neg hc_28 hf
                refine lv_aload_n hx hb dX7_longestRising_31 rfl (lv_at hl 0 rfl) ?_
                refine va_get (D := D) (ci := 6) (v := .ref a_t_tape) (C := RX7) (T := TX7) (N := 6) hx hb hT inX7 hown hK hP 0 rfl rfl 0 (by decide) (hT _ tb_288) (fun _ h9 => h9) rfl dX7_longestRising_32 ?_
                refine lv_iload hx hb dX7_longestRising_35 (lv_at hl 4 rfl) ?_
                obtain ⟨z37, e37, hf⟩ := bd_some hf
                refine rV_RO (As := [.int x4]) (rest := []) ⟨hx, hb, hml, hown, hT⟩ (gdV tb_942 tb_943 tb_944 tb_86 tb_945) hd_X8_byteAt (c_X8_byteAt l D cI cB cZ a_t_tape a_t_tape_bytes t_tape_length t_tape_bytes x4 z37 e37) ⟨rfl, rfl⟩ ⟨Nat.le_trans (by decide) hRf, Nat.le_trans (by decide) hRl⟩ ⟨hK, hN⟩ hP [1, 2] rfl 1 rfl rfl rfl hl.1 rfl (Nat.le_of_ble_eq_true rfl) ⟨Nat.zero_le _, Nat.zero_le _⟩ dX7_longestRising_37 (fun _ => ?_)
                refine lv_aload_n hx hb dX7_longestRising_40 rfl (lv_at hl 0 rfl) ?_
                refine va_get (D := D) (ci := 6) (v := .ref a_t_tape) (C := RX7) (T := TX7) (N := 6) hx hb hT inX7 hown hK hP 0 rfl rfl 0 (by decide) (hT _ tb_288) (fun _ h9 => h9) rfl dX7_longestRising_41 ?_
                refine lv_iload_n hx hb dX7_longestRising_44 rfl (lv_at hl 3 rfl) ?_
                obtain ⟨z45, e45, hf⟩ := bd_some hf
                refine rV_RO (As := [.int x3]) (rest := [.int z37]) ⟨hx, hb, hml, hown, hT⟩ (gdV tb_942 tb_943 tb_944 tb_86 tb_945) hd_X8_byteAt (c_X8_byteAt l D cI cB cZ a_t_tape a_t_tape_bytes t_tape_length t_tape_bytes x3 z45 e45) ⟨rfl, rfl⟩ ⟨Nat.le_trans (by decide) hRf, Nat.le_trans (by decide) hRl⟩ ⟨hK, hN⟩ hP [1, 2] rfl 1 rfl rfl rfl hl.1 rfl (Nat.le_of_ble_eq_true rfl) ⟨Nat.zero_le _, Nat.zero_le _⟩ dX7_longestRising_45 (fun _ => ?_)
                refine lv_icmp_ge (tgt := 75) hx hb dX7_longestRising_48 (by decide) (fun hc_48 => ?_) (fun hc_48 => ?_)
                · have hf := it_pos hc_48 hf
                  refine lv_iinc (v := x4 + 1) (lv' := [(4, .int (x4 + 1)), (0, .ref a_t), (1, .int x1), (2, .int x2), (3, .int x3)]) hx hb dX7_longestRising_75 hl (k := 4) rfl (congrArg (_ + ·) (by decide : Int32.ofInt 1 = 1)) (by decide) rfl (fun ls hl => ?_)
                  refine lv_goto (tgt := 25) hx hb dX7_longestRising_78 (by decide) ?_
                  exact ih_25 _ _ _ _ _ _ _ _ hf hP hD hS (lv_sub hl [1, 2, 3, 4, 0] rfl)
                · have hf := it_neg hc_48 hf
                  refine lv_aload_n hx hb dX7_longestRising_51 rfl (lv_at hl 0 rfl) ?_
                  refine va_get (D := D) (ci := 6) (v := .ref a_t_rising) (C := RX7) (T := TX7) (N := 6) hx hb hT inX7 hown hK hP 0 rfl rfl 4 (by decide) (hT _ tb_292) (fun _ h9 => h9) rfl dX7_longestRising_52 ?_
                  refine lv_iload_n hx hb dX7_longestRising_55 rfl (lv_at hl 3 rfl) ?_
                  refine lv_aload_n hx hb dX7_longestRising_56 rfl (lv_at hl 0 rfl) ?_
                  refine va_get (D := D) (ci := 6) (v := .ref a_t_rising) (C := RX7) (T := TX7) (N := 6) hx hb hT inX7 hown hK hP 0 rfl rfl 4 (by decide) (hT _ tb_292) (fun _ h9 => h9) rfl dX7_longestRising_57 ?_
                  refine lv_iload_n hx hb dX7_longestRising_60 rfl (lv_at hl 3 rfl) ?_
                  obtain ⟨hi_61, hf⟩ := ix_some hf
                  refine va_iald hx hb hK hP 3 0 rfl rfl hi_61 dX7_longestRising_61 ?_
                  refine lv_aload_n hx hb dX7_longestRising_62 rfl (lv_at hl 0 rfl) ?_
                  refine va_get (D := D) (ci := 6) (v := .ref a_t_rising) (C := RX7) (T := TX7) (N := 6) hx hb hT inX7 hown hK hP 0 rfl rfl 4 (by decide) (hT _ tb_292) (fun _ h9 => h9) rfl dX7_longestRising_63 ?_
                  refine lv_iload hx hb dX7_longestRising_66 (lv_at hl 4 rfl) ?_
                  obtain ⟨hi_68, hf⟩ := ix_some hf
                  refine va_iald hx hb hK hP 3 0 rfl rfl hi_68 dX7_longestRising_68 ?_
                  refine lv_iconst (v := 1) hx hb dX7_longestRising_69 (by decide) ?_
                  refine lv_iadd hx hb dX7_longestRising_70 ?_
                  refine va_mmax hx hb (hml.trans hl.1.symm) hown (hT _ tb_1060) (hT _ tb_477) (hT _ tb_98) (hT _ tb_478) (Nat.le_trans (by decide) hRf) (Nat.le_trans (Nat.le_of_ble_eq_true rfl) hRl) (Nat.zero_le _) (Nat.zero_le _) dX7_longestRising_71 ?_
                  obtain ⟨hi_74, hf⟩ := ix_some hf
                  refine va_iast hx hb hK hP hD hS 3 0 rfl rfl hi_74 dX7_longestRising_74 (fun H locs hP hD hS => ?_)
                  have hP : va_P D vwCl (w_X7_longestRising cI cB cZ a_t a_t_tape a_t_tape_bytes a_t_rising a_t_lowSums a_t_highSums a_t_freeAt a_t_used t_tape_length t_tape_bytes (upd t_rising x3.toNatClampNeg (if (t_rising x3.toNatClampNeg) < ((t_rising x4.toNatClampNeg) + 1) then ((t_rising x4.toNatClampNeg) + 1) else (t_rising x3.toNatClampNeg)))) H := hP
                  have hD : va_D A (w_X7_longestRising cI cB cZ a_t a_t_tape a_t_tape_bytes a_t_rising a_t_lowSums a_t_highSums a_t_freeAt a_t_used t_tape_length t_tape_bytes (upd t_rising x3.toNatClampNeg (if (t_rising x3.toNatClampNeg) < ((t_rising x4.toNatClampNeg) + 1) then ((t_rising x4.toNatClampNeg) + 1) else (t_rising x3.toNatClampNeg)))) := hD
                  refine lv_iinc (v := x4 + 1) (lv' := [(4, .int (x4 + 1)), (0, .ref a_t), (1, .int x1), (2, .int x2), (3, .int x3)]) hx hb dX7_longestRising_75 hl (k := 4) rfl (congrArg (_ + ·) (by decide : Int32.ofInt 1 = 1)) (by decide) rfl (fun ls hl => ?_)
                  refine lv_goto (tgt := 25) hx hb dX7_longestRising_78 (by decide) ?_
                  exact ih_25 _ _ _ _ _ _ _ _ hf hP hD hS (lv_sub hl [1, 2, 3, 4, 0] rfl)
          refine lv_istore (lv' := [(4, .int 0), (0, .ref a_t), (1, .int x1), (2, .int x2), (3, .int x3)]) hx hb dX7_longestRising_23 hl (by decide) rfl (fun ls hl => ?_)
          exact J_25 _ _ _ _ _ _ _ _ _ hf hP hD hS (lv_sub hl [1, 2, 3, 4, 0] rfl)
  refine lv_istore_n (lv' := [(3, .int 0), (2, .int 0), (0, .ref a_t), (1, .int x1)]) hx hb dX7_longestRising_3 rfl hl (by decide) rfl (fun ls hl => ?_)
  exact J_4 _ _ _ _ _ _ _ _ hf hP hD hS (lv_sub hl [2, 3, 1, 0] rfl)
theorem hd_X7_longestRising : (yX7_longestRising).cls = RX7 ∧ (yX7_longestRising).cls ≠ "java/lang/invoke/MethodHandle" ∧ (yX7_longestRising).cls ≠ "java/lang/invoke/VarHandle" ∧ (parseMethodDescriptor (yX7_longestRising).desc).map (fun d => d.parameters.length) = some 1 := by decide +kernel
theorem c_X7_longestRising (l : Launch) (D : va_G) (cI cB cZ : ClassId) (a_t : Nat) (a_t_tape : Nat) (a_t_tape_bytes : Nat) (a_t_rising : Nat) (a_t_lowSums : Nat) (a_t_highSums : Nat) (a_t_freeAt : Nat) (a_t_used : Nat) (t_tape_length : Int32) (t_tape_bytes : (Nat → Int32)) (t_rising : (Nat → Int32)) (x1 : Int32) (sz : Nat) (res : Int32 × (Nat → Int32)) (hf : f_X7_longestRising t_tape_length t_tape_bytes t_rising x1 = some res) : Met l yX7_longestRising (.code yX7_longestRising cX7_longestRising 5 (some .int) :: TB) (rmk (1) (40)) (pRW [.ref a_t, .int x1] D cI cB cZ (w_X7_longestRising cI cB cZ a_t a_t_tape a_t_tape_bytes a_t_rising a_t_lowSums a_t_highSums a_t_freeAt a_t_used t_tape_length t_tape_bytes t_rising) sz) (qRW (some (.int res.1)) True D (w_X7_longestRising cI cB cZ a_t a_t_tape a_t_tape_bytes a_t_rising a_t_lowSums a_t_highSums a_t_freeAt a_t_used t_tape_length t_tape_bytes t_rising) sz (w_X7_longestRising cI cB cZ a_t a_t_tape a_t_tape_bytes a_t_rising a_t_lowSums a_t_highSums a_t_freeAt a_t_used t_tape_length t_tape_bytes res.2)) 0 0 (va_A (w_X7_longestRising cI cB cZ a_t a_t_tape a_t_tape_bytes a_t_rising a_t_lowSums a_t_highSums a_t_freeAt a_t_used t_tape_length t_tape_bytes t_rising) sz) :=
  mkRW (by decide +kernel) (Nat.le_of_ble_eq_true rfl) (fun p e s m below meth c ls A hAe S hr hlk hK hA hP hD hS hl => b_X7_longestRising S.1 S.2.1 S.2.2.1 S.2.2.2.1 S.2.2.2.2 (Nat.le_refl _) (Nat.le_refl _) hK.1 hK.2 hA s.heap [] a_t a_t_tape a_t_tape_bytes a_t_rising a_t_lowSums a_t_highSums a_t_freeAt a_t_used t_tape_length t_tape_bytes t_rising x1 res hf hP hD hS (fun H locs pc ls hP hD hS hE hd => eRW_i S.1 S.2.1 hr rfl hlk hAe hP hD hS hE hd) ls hl)
def f_X7_seenFromFront_7 (t_tape_length : Int32) (t_tape_bytes : (Nat → Int32)) : Nat → Int32 → Int32 → Int32 → Int32 → Option (Int32)
  | 0, _, _, _, _ => none
  | n + 1, x1, x2, x3, x4 => (if x1 ≤ x4 then some (x2) else (f_X8_byteAt t_tape_length t_tape_bytes x4).bind (fun z19 => (if z19 ≤ x3 then (f_X7_seenFromFront_7 t_tape_length t_tape_bytes n) x1 x2 x3 (x4 + 1) else (f_X8_byteAt t_tape_length t_tape_bytes x4).bind (fun z32 => (f_X7_seenFromFront_7 t_tape_length t_tape_bytes n) x1 (x2 + 1) z32 (x4 + 1)))))
def f_X7_seenFromFront (t_tape_length : Int32) (t_tape_bytes : (Nat → Int32)) (x1 : Int32) : Option (Int32) := f_X7_seenFromFront_7 t_tape_length t_tape_bytes FU x1 0 (-1) 0
def w_X7_seenFromFront (cI cB cZ : ClassId) (a_t : Nat) (a_t_tape : Nat) (a_t_tape_bytes : Nat) (a_t_lowSums : Nat) (a_t_highSums : Nat) (a_t_freeAt : Nat) (a_t_rising : Nat) (a_t_used : Nat) (t_tape_length : Int32) (t_tape_bytes : (Nat → Int32)) : va_W := [(a_t, .inr (6, [.ref a_t_tape, .ref a_t_lowSums, .ref a_t_highSums, .ref a_t_freeAt, .ref a_t_rising, .ref a_t_used])), (a_t_tape, .inr (7, [.ref a_t_tape_bytes, .int t_tape_length])), (a_t_tape_bytes, .inl (cI, 260, .inl t_tape_bytes))]
set_option maxHeartbeats 4000000 in
set_option maxRecDepth 100000 in
theorem b_X7_seenFromFront {p : Program} {l : Launch} {e : Env} {R : Room} {s : State} {m : MethodId} {args : Array Value} {below : List Frame} {meth : Method} {c : Code} {Q : State → Prop} {D : va_G} {cI cB cZ : ClassId} (hx : p.tables.exec = Jvm.exec) (hb : c.code = cX7_seenFromFront) (hml : c.maxLocals = 5) (hown : s.vm.findClass RX7 = some m.cls) (hT : ∀ w ∈ TB, w.before args s = true) (hRf : (1) ≤ R.frames) (hRl : (21) ≤ R.locals) (hK : va_K D vwCl (tyL cI cB cZ) s) (hN : NW s)  (a_t : Nat) (a_t_tape : Nat) (a_t_tape_bytes : Nat) (a_t_lowSums : Nat) (a_t_highSums : Nat) (a_t_freeAt : Nat) (a_t_rising : Nat) (a_t_used : Nat) (t_tape_length : Int32) (t_tape_bytes : (Nat → Int32)) (x1 : Int32) (res : Int32) (hf : f_X7_seenFromFront t_tape_length t_tape_bytes x1 = some res) (hP : va_P D vwCl (w_X7_seenFromFront cI cB cZ a_t a_t_tape a_t_tape_bytes a_t_lowSums a_t_highSums a_t_freeAt a_t_rising a_t_used t_tape_length t_tape_bytes) s.heap) (hQ : ∀ (pc : Nat) (ls : Array Slot), True → decode cX7_seenFromFront pc = .ok (.ireturn, 1) → W p l e R s m args below meth c s.heap [] 0 0 Q (F0 m pc ls [.int res])) (ls : Array Slot) (hl : lv_has ls 5 [(0, .ref a_t), (1, .int x1)]) : W p l e R s m args below meth c s.heap [] 0 0 Q (F0 m 0 ls []) := by
  unfold f_X7_seenFromFront at hf
  refine lv_iconst (v := 0) hx hb dX7_seenFromFront_0 (by decide) ?_
  refine lv_istore_n (lv' := [(2, .int 0), (0, .ref a_t), (1, .int x1)]) hx hb dX7_seenFromFront_1 rfl hl (by decide) rfl (fun ls hl => ?_)
  refine lv_iconst (v := (-1)) hx hb dX7_seenFromFront_2 (by decide) ?_
  refine lv_istore_n (lv' := [(3, .int (-1)), (2, .int 0), (0, .ref a_t), (1, .int x1)]) hx hb dX7_seenFromFront_3 rfl hl (by decide) rfl (fun ls hl => ?_)
  refine lv_iconst (v := 0) hx hb dX7_seenFromFront_4 (by decide) ?_
  have J_7 : ∀ (n_7 : Nat) (x1 : Int32) (x2 : Int32) (x3 : Int32) (x4 : Int32) (ls : Array Slot), f_X7_seenFromFront_7 t_tape_length t_tape_bytes n_7 x1 x2 x3 x4 = some res → lv_has ls 5 [(0, .ref a_t), (1, .int x1), (2, .int x2), (3, .int x3), (4, .int x4)] → W p l e R s m args below meth c s.heap [] 0 0 Q (F0 m 7 ls []) := by
    intro n_7
    induction n_7 with
    | zero =>
      intro x1 x2 x3 x4 ls hf hl
      cases hf
    | succ n_7 ih_7 =>
      intro x1 x2 x3 x4 ls hf hl
      unfold f_X7_seenFromFront_7 at hf
      refine lv_iload hx hb dX7_seenFromFront_7 (lv_at hl 4 rfl) ?_
      refine lv_iload_n hx hb dX7_seenFromFront_9 rfl (lv_at hl 1 rfl) ?_
      refine lv_icmp_ge (tgt := 45) hx hb dX7_seenFromFront_10 (by decide) (fun hc_10 => ?_) (fun hc_10 => ?_)
      · have hf := it_pos hc_10 hf
        refine lv_iload_n hx hb dX7_seenFromFront_45 rfl (lv_at hl 2 rfl) ?_
        obtain rfl := Option.some.inj hf
        exact hQ 46 ls trivial dX7_seenFromFront_46
      · have hf := it_neg hc_10 hf
        refine lv_aload_n hx hb dX7_seenFromFront_13 rfl (lv_at hl 0 rfl) ?_
        refine va_get (D := D) (ci := 6) (v := .ref a_t_tape) (C := RX7) (T := TX7) (N := 6) hx hb hT inX7 hown hK hP 0 rfl rfl 0 (by decide) (hT _ tb_288) (fun _ h9 => h9) rfl dX7_seenFromFront_14 ?_
        refine lv_iload hx hb dX7_seenFromFront_17 (lv_at hl 4 rfl) ?_
        obtain ⟨z19, e19, hf⟩ := bd_some hf
        refine rV_RO (As := [.int x4]) (rest := []) ⟨hx, hb, hml, hown, hT⟩ (gdV tb_942 tb_943 tb_944 tb_86 tb_945) hd_X8_byteAt (c_X8_byteAt l D cI cB cZ a_t_tape a_t_tape_bytes t_tape_length t_tape_bytes x4 z19 e19) ⟨rfl, rfl⟩ ⟨Nat.le_trans (by decide) hRf, Nat.le_trans (by decide) hRl⟩ ⟨hK, hN⟩ hP [1, 2] rfl 1 rfl rfl rfl hl.1 rfl (Nat.le_of_ble_eq_true rfl) ⟨Nat.zero_le _, Nat.zero_le _⟩ dX7_seenFromFront_19 (fun _ => ?_)
        refine lv_iload_n hx hb dX7_seenFromFront_22 rfl (lv_at hl 3 rfl) ?_
        refine lv_icmp_le (tgt := 39) hx hb dX7_seenFromFront_23 (by decide) (fun hc_23 => ?_) (fun hc_23 => ?_)
        · have hf := it_pos hc_23 hf
          refine lv_iinc (v := x4 + 1) (lv' := [(4, .int (x4 + 1)), (0, .ref a_t), (1, .int x1), (2, .int x2), (3, .int x3)]) hx hb dX7_seenFromFront_39 hl (k := 4) rfl (congrArg (_ + ·) (by decide : Int32.ofInt 1 = 1)) (by decide) rfl (fun ls hl => ?_)
          refine lv_goto (tgt := 7) hx hb dX7_seenFromFront_42 (by decide) ?_
          exact ih_7 _ _ _ _ _ hf (lv_sub hl [1, 2, 3, 4, 0] rfl)
        · have hf := it_neg hc_23 hf
          refine lv_aload_n hx hb dX7_seenFromFront_26 rfl (lv_at hl 0 rfl) ?_
          refine va_get (D := D) (ci := 6) (v := .ref a_t_tape) (C := RX7) (T := TX7) (N := 6) hx hb hT inX7 hown hK hP 0 rfl rfl 0 (by decide) (hT _ tb_288) (fun _ h9 => h9) rfl dX7_seenFromFront_27 ?_
          refine lv_iload hx hb dX7_seenFromFront_30 (lv_at hl 4 rfl) ?_
          obtain ⟨z32, e32, hf⟩ := bd_some hf
          refine rV_RO (As := [.int x4]) (rest := []) ⟨hx, hb, hml, hown, hT⟩ (gdV tb_942 tb_943 tb_944 tb_86 tb_945) hd_X8_byteAt (c_X8_byteAt l D cI cB cZ a_t_tape a_t_tape_bytes t_tape_length t_tape_bytes x4 z32 e32) ⟨rfl, rfl⟩ ⟨Nat.le_trans (by decide) hRf, Nat.le_trans (by decide) hRl⟩ ⟨hK, hN⟩ hP [1, 2] rfl 1 rfl rfl rfl hl.1 rfl (Nat.le_of_ble_eq_true rfl) ⟨Nat.zero_le _, Nat.zero_le _⟩ dX7_seenFromFront_32 (fun _ => ?_)
          refine lv_istore_n (lv' := [(3, .int z32), (0, .ref a_t), (1, .int x1), (2, .int x2), (4, .int x4)]) hx hb dX7_seenFromFront_35 rfl hl (by decide) rfl (fun ls hl => ?_)
          refine lv_iinc (v := x2 + 1) (lv' := [(2, .int (x2 + 1)), (3, .int z32), (0, .ref a_t), (1, .int x1), (4, .int x4)]) hx hb dX7_seenFromFront_36 hl (k := 3) rfl (congrArg (_ + ·) (by decide : Int32.ofInt 1 = 1)) (by decide) rfl (fun ls hl => ?_)
          refine lv_iinc (v := x4 + 1) (lv' := [(4, .int (x4 + 1)), (2, .int (x2 + 1)), (3, .int z32), (0, .ref a_t), (1, .int x1)]) hx hb dX7_seenFromFront_39 hl (k := 4) rfl (congrArg (_ + ·) (by decide : Int32.ofInt 1 = 1)) (by decide) rfl (fun ls hl => ?_)
          refine lv_goto (tgt := 7) hx hb dX7_seenFromFront_42 (by decide) ?_
          exact ih_7 _ _ _ _ _ hf (lv_sub hl [3, 4, 1, 2, 0] rfl)
  refine lv_istore (lv' := [(4, .int 0), (3, .int (-1)), (2, .int 0), (0, .ref a_t), (1, .int x1)]) hx hb dX7_seenFromFront_5 hl (by decide) rfl (fun ls hl => ?_)
  exact J_7 _ _ _ _ _ _ hf (lv_sub hl [3, 4, 2, 1, 0] rfl)
theorem hd_X7_seenFromFront : (yX7_seenFromFront).cls = RX7 ∧ (yX7_seenFromFront).cls ≠ "java/lang/invoke/MethodHandle" ∧ (yX7_seenFromFront).cls ≠ "java/lang/invoke/VarHandle" ∧ (parseMethodDescriptor (yX7_seenFromFront).desc).map (fun d => d.parameters.length) = some 1 := by decide +kernel
theorem c_X7_seenFromFront (l : Launch) (D : va_G) (cI cB cZ : ClassId) (a_t : Nat) (a_t_tape : Nat) (a_t_tape_bytes : Nat) (a_t_lowSums : Nat) (a_t_highSums : Nat) (a_t_freeAt : Nat) (a_t_rising : Nat) (a_t_used : Nat) (t_tape_length : Int32) (t_tape_bytes : (Nat → Int32)) (x1 : Int32) (res : Int32) (hf : f_X7_seenFromFront t_tape_length t_tape_bytes x1 = some res) : Met l yX7_seenFromFront (.code yX7_seenFromFront cX7_seenFromFront 5 (some .int) :: TB) (rmk (1) (21)) (pRO [.ref a_t, .int x1] D cI cB cZ (w_X7_seenFromFront cI cB cZ a_t a_t_tape a_t_tape_bytes a_t_lowSums a_t_highSums a_t_freeAt a_t_rising a_t_used t_tape_length t_tape_bytes)) (qRO (some (.int res)) True) 0 0 (fun _ => False) :=
  mkRO (by decide +kernel) (Nat.le_of_ble_eq_true rfl) (fun p e s m below meth c ls S hr hlk hK hP hl => b_X7_seenFromFront S.1 S.2.1 S.2.2.1 S.2.2.2.1 S.2.2.2.2 (Nat.le_refl _) (Nat.le_refl _) hK.1 hK.2 a_t a_t_tape a_t_tape_bytes a_t_lowSums a_t_highSums a_t_freeAt a_t_rising a_t_used t_tape_length t_tape_bytes x1 res hf hP (fun pc ls hE hd => eRO_i S.1 S.2.1 hr rfl hlk hE hd) ls hl)
def f_X7_changesTillRising_12 (t_tape_length : Int32) (t_tape_bytes : (Nat → Int32)) (k4 : Int32 → Int32 → Int32 → Option (Int32)) : Nat → Int32 → Int32 → Int32 → Int32 → Option (Int32)
  | 0, _, _, _, _ => none
  | n + 1, x1, x2, x3, x4 => (if x3 ≤ x4 then k4 x1 x2 (x3 + 1) else (f_X8_byteAt t_tape_length t_tape_bytes x3).bind (fun z23 => (f_X8_byteAt t_tape_length t_tape_bytes x4).bind (fun z32 => (if z32 ≤ z23 then (f_X7_changesTillRising_12 t_tape_length t_tape_bytes k4 n) x1 x2 x3 (x4 + 1) else (f_X7_changesTillRising_12 t_tape_length t_tape_bytes k4 n) x1 (x2 + 1) x3 (x4 + 1)))))
def f_X7_changesTillRising_4 (t_tape_length : Int32) (t_tape_bytes : (Nat → Int32)) : Nat → Int32 → Int32 → Int32 → Option (Int32)
  | 0, _, _, _ => none
  | n + 1, x1, x2, x3 => (if x1 ≤ x3 then some (x2) else f_X7_changesTillRising_12 t_tape_length t_tape_bytes (f_X7_changesTillRising_4 t_tape_length t_tape_bytes n) FU x1 x2 x3 0)
def f_X7_changesTillRising (t_tape_length : Int32) (t_tape_bytes : (Nat → Int32)) (x1 : Int32) : Option (Int32) := f_X7_changesTillRising_4 t_tape_length t_tape_bytes FU x1 0 0
def w_X7_changesTillRising (cI cB cZ : ClassId) (a_t : Nat) (a_t_tape : Nat) (a_t_tape_bytes : Nat) (a_t_lowSums : Nat) (a_t_highSums : Nat) (a_t_freeAt : Nat) (a_t_rising : Nat) (a_t_used : Nat) (t_tape_length : Int32) (t_tape_bytes : (Nat → Int32)) : va_W := [(a_t, .inr (6, [.ref a_t_tape, .ref a_t_lowSums, .ref a_t_highSums, .ref a_t_freeAt, .ref a_t_rising, .ref a_t_used])), (a_t_tape, .inr (7, [.ref a_t_tape_bytes, .int t_tape_length])), (a_t_tape_bytes, .inl (cI, 260, .inl t_tape_bytes))]
set_option maxHeartbeats 4000000 in
set_option maxRecDepth 100000 in
theorem b_X7_changesTillRising {p : Program} {l : Launch} {e : Env} {R : Room} {s : State} {m : MethodId} {args : Array Value} {below : List Frame} {meth : Method} {c : Code} {Q : State → Prop} {D : va_G} {cI cB cZ : ClassId} (hx : p.tables.exec = Jvm.exec) (hb : c.code = cX7_changesTillRising) (hml : c.maxLocals = 5) (hown : s.vm.findClass RX7 = some m.cls) (hT : ∀ w ∈ TB, w.before args s = true) (hRf : (1) ≤ R.frames) (hRl : (21) ≤ R.locals) (hK : va_K D vwCl (tyL cI cB cZ) s) (hN : NW s)  (a_t : Nat) (a_t_tape : Nat) (a_t_tape_bytes : Nat) (a_t_lowSums : Nat) (a_t_highSums : Nat) (a_t_freeAt : Nat) (a_t_rising : Nat) (a_t_used : Nat) (t_tape_length : Int32) (t_tape_bytes : (Nat → Int32)) (x1 : Int32) (res : Int32) (hf : f_X7_changesTillRising t_tape_length t_tape_bytes x1 = some res) (hP : va_P D vwCl (w_X7_changesTillRising cI cB cZ a_t a_t_tape a_t_tape_bytes a_t_lowSums a_t_highSums a_t_freeAt a_t_rising a_t_used t_tape_length t_tape_bytes) s.heap) (hQ : ∀ (pc : Nat) (ls : Array Slot), True → decode cX7_changesTillRising pc = .ok (.ireturn, 1) → W p l e R s m args below meth c s.heap [] 0 0 Q (F0 m pc ls [.int res])) (ls : Array Slot) (hl : lv_has ls 5 [(0, .ref a_t), (1, .int x1)]) : W p l e R s m args below meth c s.heap [] 0 0 Q (F0 m 0 ls []) := by
  unfold f_X7_changesTillRising at hf
  refine lv_iconst (v := 0) hx hb dX7_changesTillRising_0 (by decide) ?_
  refine lv_istore_n (lv' := [(2, .int 0), (0, .ref a_t), (1, .int x1)]) hx hb dX7_changesTillRising_1 rfl hl (by decide) rfl (fun ls hl => ?_)
  refine lv_iconst (v := 0) hx hb dX7_changesTillRising_2 (by decide) ?_
  have J_4 : ∀ (n_4 : Nat) (x1 : Int32) (x2 : Int32) (x3 : Int32) (ls : Array Slot), f_X7_changesTillRising_4 t_tape_length t_tape_bytes n_4 x1 x2 x3 = some res → lv_has ls 5 [(0, .ref a_t), (1, .int x1), (2, .int x2), (3, .int x3)] → W p l e R s m args below meth c s.heap [] 0 0 Q (F0 m 4 ls []) := by
    intro n_4
    induction n_4 with
    | zero =>
      intro x1 x2 x3 ls hf hl
      cases hf
    | succ n_4 ih_4 =>
      intro x1 x2 x3 ls hf hl
      unfold f_X7_changesTillRising_4 at hf
      refine lv_iload_n hx hb dX7_changesTillRising_4 rfl (lv_at hl 3 rfl) ?_
      refine lv_iload_n hx hb dX7_changesTillRising_5 rfl (lv_at hl 1 rfl) ?_
      refine lv_icmp_ge (tgt := 53) hx hb dX7_changesTillRising_6 (by decide) (fun hc_6 => ?_) (fun hc_6 => ?_)
      · have hf := it_pos hc_6 hf
        refine lv_iload_n hx hb dX7_changesTillRising_53 rfl (lv_at hl 2 rfl) ?_
        obtain rfl := Option.some.inj hf
        exact hQ 54 ls trivial dX7_changesTillRising_54
      · have hf := it_neg hc_6 hf
        refine lv_iconst (v := 0) hx hb dX7_changesTillRising_9 (by decide) ?_
        have J_12 : ∀ (n_12 : Nat) (x1 : Int32) (x2 : Int32) (x3 : Int32) (x4 : Int32) (ls : Array Slot), f_X7_changesTillRising_12 t_tape_length t_tape_bytes (f_X7_changesTillRising_4 t_tape_length t_tape_bytes n_4) n_12 x1 x2 x3 x4 = some res → lv_has ls 5 [(0, .ref a_t), (1, .int x1), (2, .int x2), (3, .int x3), (4, .int x4)] → W p l e R s m args below meth c s.heap [] 0 0 Q (F0 m 12 ls []) := by
          intro n_12
          induction n_12 with
          | zero =>
            intro x1 x2 x3 x4 ls hf hl
            cases hf
          | succ n_12 ih_12 =>
            intro x1 x2 x3 x4 ls hf hl
            unfold f_X7_changesTillRising_12 at hf
            refine lv_iload hx hb dX7_changesTillRising_12 (lv_at hl 4 rfl) ?_
            refine lv_iload_n hx hb dX7_changesTillRising_14 rfl (lv_at hl 3 rfl) ?_
            refine lv_icmp_ge (tgt := 47) hx hb dX7_changesTillRising_15 (by decide) (fun hc_15 => ?_) (fun hc_15 => ?_)
            · have hf := it_pos hc_15 hf
              refine lv_iinc (v := x3 + 1) (lv' := [(3, .int (x3 + 1)), (0, .ref a_t), (1, .int x1), (2, .int x2), (4, .int x4)]) hx hb dX7_changesTillRising_47 hl (k := 3) rfl (congrArg (_ + ·) (by decide : Int32.ofInt 1 = 1)) (by decide) rfl (fun ls hl => ?_)
              refine lv_goto (tgt := 4) hx hb dX7_changesTillRising_50 (by decide) ?_
              exact ih_4 _ _ _ _ hf (lv_sub hl [1, 2, 3, 0] rfl)
            · have hf := it_neg hc_15 hf
              refine lv_aload_n hx hb dX7_changesTillRising_18 rfl (lv_at hl 0 rfl) ?_
              refine va_get (D := D) (ci := 6) (v := .ref a_t_tape) (C := RX7) (T := TX7) (N := 6) hx hb hT inX7 hown hK hP 0 rfl rfl 0 (by decide) (hT _ tb_288) (fun _ h9 => h9) rfl dX7_changesTillRising_19 ?_
              refine lv_iload_n hx hb dX7_changesTillRising_22 rfl (lv_at hl 3 rfl) ?_
              obtain ⟨z23, e23, hf⟩ := bd_some hf
              refine rV_RO (As := [.int x3]) (rest := []) ⟨hx, hb, hml, hown, hT⟩ (gdV tb_942 tb_943 tb_944 tb_86 tb_945) hd_X8_byteAt (c_X8_byteAt l D cI cB cZ a_t_tape a_t_tape_bytes t_tape_length t_tape_bytes x3 z23 e23) ⟨rfl, rfl⟩ ⟨Nat.le_trans (by decide) hRf, Nat.le_trans (by decide) hRl⟩ ⟨hK, hN⟩ hP [1, 2] rfl 1 rfl rfl rfl hl.1 rfl (Nat.le_of_ble_eq_true rfl) ⟨Nat.zero_le _, Nat.zero_le _⟩ dX7_changesTillRising_23 (fun _ => ?_)
              refine lv_aload_n hx hb dX7_changesTillRising_26 rfl (lv_at hl 0 rfl) ?_
              refine va_get (D := D) (ci := 6) (v := .ref a_t_tape) (C := RX7) (T := TX7) (N := 6) hx hb hT inX7 hown hK hP 0 rfl rfl 0 (by decide) (hT _ tb_288) (fun _ h9 => h9) rfl dX7_changesTillRising_27 ?_
              refine lv_iload hx hb dX7_changesTillRising_30 (lv_at hl 4 rfl) ?_
              obtain ⟨z32, e32, hf⟩ := bd_some hf
              refine rV_RO (As := [.int x4]) (rest := [.int z23]) ⟨hx, hb, hml, hown, hT⟩ (gdV tb_942 tb_943 tb_944 tb_86 tb_945) hd_X8_byteAt (c_X8_byteAt l D cI cB cZ a_t_tape a_t_tape_bytes t_tape_length t_tape_bytes x4 z32 e32) ⟨rfl, rfl⟩ ⟨Nat.le_trans (by decide) hRf, Nat.le_trans (by decide) hRl⟩ ⟨hK, hN⟩ hP [1, 2] rfl 1 rfl rfl rfl hl.1 rfl (Nat.le_of_ble_eq_true rfl) ⟨Nat.zero_le _, Nat.zero_le _⟩ dX7_changesTillRising_32 (fun _ => ?_)
              refine lv_icmp_ge (tgt := 41) hx hb dX7_changesTillRising_35 (by decide) (fun hc_35 => ?_) (fun hc_35 => ?_)
              · have hf := it_pos hc_35 hf
                refine lv_iinc (v := x4 + 1) (lv' := [(4, .int (x4 + 1)), (0, .ref a_t), (1, .int x1), (2, .int x2), (3, .int x3)]) hx hb dX7_changesTillRising_41 hl (k := 4) rfl (congrArg (_ + ·) (by decide : Int32.ofInt 1 = 1)) (by decide) rfl (fun ls hl => ?_)
                refine lv_goto (tgt := 12) hx hb dX7_changesTillRising_44 (by decide) ?_
                exact ih_12 _ _ _ _ _ hf (lv_sub hl [1, 2, 3, 4, 0] rfl)
              · have hf := it_neg hc_35 hf
                refine lv_iinc (v := x2 + 1) (lv' := [(2, .int (x2 + 1)), (0, .ref a_t), (1, .int x1), (3, .int x3), (4, .int x4)]) hx hb dX7_changesTillRising_38 hl (k := 2) rfl (congrArg (_ + ·) (by decide : Int32.ofInt 1 = 1)) (by decide) rfl (fun ls hl => ?_)
                refine lv_iinc (v := x4 + 1) (lv' := [(4, .int (x4 + 1)), (2, .int (x2 + 1)), (0, .ref a_t), (1, .int x1), (3, .int x3)]) hx hb dX7_changesTillRising_41 hl (k := 4) rfl (congrArg (_ + ·) (by decide : Int32.ofInt 1 = 1)) (by decide) rfl (fun ls hl => ?_)
                refine lv_goto (tgt := 12) hx hb dX7_changesTillRising_44 (by decide) ?_
                exact ih_12 _ _ _ _ _ hf (lv_sub hl [2, 3, 1, 4, 0] rfl)
        refine lv_istore (lv' := [(4, .int 0), (0, .ref a_t), (1, .int x1), (2, .int x2), (3, .int x3)]) hx hb dX7_changesTillRising_10 hl (by decide) rfl (fun ls hl => ?_)
        exact J_12 _ _ _ _ _ _ hf (lv_sub hl [1, 2, 3, 4, 0] rfl)
  refine lv_istore_n (lv' := [(3, .int 0), (2, .int 0), (0, .ref a_t), (1, .int x1)]) hx hb dX7_changesTillRising_3 rfl hl (by decide) rfl (fun ls hl => ?_)
  exact J_4 _ _ _ _ _ hf (lv_sub hl [2, 3, 1, 0] rfl)
theorem hd_X7_changesTillRising : (yX7_changesTillRising).cls = RX7 ∧ (yX7_changesTillRising).cls ≠ "java/lang/invoke/MethodHandle" ∧ (yX7_changesTillRising).cls ≠ "java/lang/invoke/VarHandle" ∧ (parseMethodDescriptor (yX7_changesTillRising).desc).map (fun d => d.parameters.length) = some 1 := by decide +kernel
theorem c_X7_changesTillRising (l : Launch) (D : va_G) (cI cB cZ : ClassId) (a_t : Nat) (a_t_tape : Nat) (a_t_tape_bytes : Nat) (a_t_lowSums : Nat) (a_t_highSums : Nat) (a_t_freeAt : Nat) (a_t_rising : Nat) (a_t_used : Nat) (t_tape_length : Int32) (t_tape_bytes : (Nat → Int32)) (x1 : Int32) (res : Int32) (hf : f_X7_changesTillRising t_tape_length t_tape_bytes x1 = some res) : Met l yX7_changesTillRising (.code yX7_changesTillRising cX7_changesTillRising 5 (some .int) :: TB) (rmk (1) (21)) (pRO [.ref a_t, .int x1] D cI cB cZ (w_X7_changesTillRising cI cB cZ a_t a_t_tape a_t_tape_bytes a_t_lowSums a_t_highSums a_t_freeAt a_t_rising a_t_used t_tape_length t_tape_bytes)) (qRO (some (.int res)) True) 0 0 (fun _ => False) :=
  mkRO (by decide +kernel) (Nat.le_of_ble_eq_true rfl) (fun p e s m below meth c ls S hr hlk hK hP hl => b_X7_changesTillRising S.1 S.2.1 S.2.2.1 S.2.2.2.1 S.2.2.2.2 (Nat.le_refl _) (Nat.le_refl _) hK.1 hK.2 a_t a_t_tape a_t_tape_bytes a_t_lowSums a_t_highSums a_t_freeAt a_t_rising a_t_used t_tape_length t_tape_bytes x1 res hf hP (fun pc ls hE hd => eRO_i S.1 S.2.1 hr rfl hlk hE hd) ls hl)
def f_X7_heightsInRow (t_tape_length : Int32) (t_tape_bytes : (Nat → Int32)) (t_rising : (Nat → Int32)) (x1 : Int32) (x2 : Int32) : Option (Int32 × (Nat → Int32)) := (if x2 = 0 then (f_X7_seenFromFront t_tape_length t_tape_bytes x1).bind (fun z6 => some (z6, t_rising)) else (if x2 = 1 then (f_X7_changesTillRising t_tape_length t_tape_bytes x1).bind (fun z17 => some (z17, t_rising)) else (f_X7_longestRising t_tape_length t_tape_bytes t_rising x1).bind (fun z26 => some (x1 - z26.1, z26.2))))
def w_X7_heightsInRow (cI cB cZ : ClassId) (a_t : Nat) (a_t_tape : Nat) (a_t_tape_bytes : Nat) (a_t_rising : Nat) (a_t_lowSums : Nat) (a_t_highSums : Nat) (a_t_freeAt : Nat) (a_t_used : Nat) (t_tape_length : Int32) (t_tape_bytes : (Nat → Int32)) (t_rising : (Nat → Int32)) : va_W := [(a_t, .inr (6, [.ref a_t_tape, .ref a_t_lowSums, .ref a_t_highSums, .ref a_t_freeAt, .ref a_t_rising, .ref a_t_used])), (a_t_tape, .inr (7, [.ref a_t_tape_bytes, .int t_tape_length])), (a_t_tape_bytes, .inl (cI, 260, .inl t_tape_bytes)), (a_t_rising, .inl (cI, 12, .inl t_rising))]
set_option maxHeartbeats 4000000 in
set_option maxRecDepth 100000 in
theorem b_X7_heightsInRow {p : Program} {l : Launch} {e : Env} {R : Room} {s : State} {m : MethodId} {args : Array Value} {below : List Frame} {meth : Method} {c : Code} {Q : State → Prop} {D : va_G} {cI cB cZ : ClassId} (hx : p.tables.exec = Jvm.exec) (hb : c.code = cX7_heightsInRow) (hml : c.maxLocals = 3) (hown : s.vm.findClass RX7 = some m.cls) (hT : ∀ w ∈ TB, w.before args s = true) (hRf : (2) ≤ R.frames) (hRl : (64) ≤ R.locals) (hK : va_K D vwCl (tyL cI cB cZ) s) (hN : NW s) {A : Nat → Prop} (hA : ∀ q : Nat, s.heap.size ≤ q → A q) (H : Heap) (locs : List Loc)  (a_t : Nat) (a_t_tape : Nat) (a_t_tape_bytes : Nat) (a_t_rising : Nat) (a_t_lowSums : Nat) (a_t_highSums : Nat) (a_t_freeAt : Nat) (a_t_used : Nat) (t_tape_length : Int32) (t_tape_bytes : (Nat → Int32)) (t_rising : (Nat → Int32)) (x1 : Int32) (x2 : Int32) (res : Int32 × (Nat → Int32)) (hf : f_X7_heightsInRow t_tape_length t_tape_bytes t_rising x1 x2 = some res) (hP : va_P D vwCl (w_X7_heightsInRow cI cB cZ a_t a_t_tape a_t_tape_bytes a_t_rising a_t_lowSums a_t_highSums a_t_freeAt a_t_used t_tape_length t_tape_bytes t_rising) H) (hD : va_D A (w_X7_heightsInRow cI cB cZ a_t a_t_tape a_t_tape_bytes a_t_rising a_t_lowSums a_t_highSums a_t_freeAt a_t_used t_tape_length t_tape_bytes t_rising)) (hS : va_S A s.heap H locs) (hQ : ∀ (H : Heap) (locs : List Loc) (pc : Nat) (ls : Array Slot), va_P D vwCl (w_X7_heightsInRow cI cB cZ a_t a_t_tape a_t_tape_bytes a_t_rising a_t_lowSums a_t_highSums a_t_freeAt a_t_used t_tape_length t_tape_bytes res.2) H → va_D A (w_X7_heightsInRow cI cB cZ a_t a_t_tape a_t_tape_bytes a_t_rising a_t_lowSums a_t_highSums a_t_freeAt a_t_used t_tape_length t_tape_bytes res.2) → va_S A s.heap H locs → True → decode cX7_heightsInRow pc = .ok (.ireturn, 1) → W p l e R s m args below meth c H locs 0 0 Q (F0 m pc ls [.int res.1])) (ls : Array Slot) (hl : lv_has ls 3 [(0, .ref a_t), (1, .int x1), (2, .int x2)]) : W p l e R s m args below meth c H locs 0 0 Q (F0 m 0 ls []) := by
  unfold f_X7_heightsInRow at hf
  refine lv_iload_n hx hb dX7_heightsInRow_0 rfl (lv_at hl 2 rfl) ?_
  refine lv_if_ne (tgt := 10) hx hb dX7_heightsInRow_1 (by decide) (fun hc_1 => ?_) (fun hc_1 => ?_)
  · have hf := it_neg hc_1 hf
    refine lv_iload_n hx hb dX7_heightsInRow_10 rfl (lv_at hl 2 rfl) ?_
    refine lv_iconst (v := 1) hx hb dX7_heightsInRow_11 (by decide) ?_
    refine lv_icmp_ne (tgt := 23) hx hb dX7_heightsInRow_12 (by decide) (fun hc_12 => ?_) (fun hc_12 => ?_)
    · have hf := it_neg hc_12 hf
      refine lv_iload_n hx hb dX7_heightsInRow_23 rfl (lv_at hl 1 rfl) ?_
      refine lv_aload_n hx hb dX7_heightsInRow_24 rfl (lv_at hl 0 rfl) ?_
      refine lv_iload_n hx hb dX7_heightsInRow_25 rfl (lv_at hl 1 rfl) ?_
      obtain ⟨z26, e26, hf⟩ := bd_some hf
      refine rV_RW (As := [.int x1]) (rest := [.int x1]) (w2 := (w_X7_heightsInRow cI cB cZ a_t a_t_tape a_t_tape_bytes a_t_rising a_t_lowSums a_t_highSums a_t_freeAt a_t_used t_tape_length t_tape_bytes z26.2)) ⟨hx, hb, hml, hown, hT⟩ (gdV tb_1110 tb_1112 tb_31 tb_95 tb_1113) hd_X7_longestRising (c_X7_longestRising l D cI cB cZ a_t a_t_tape a_t_tape_bytes a_t_rising a_t_lowSums a_t_highSums a_t_freeAt a_t_used t_tape_length t_tape_bytes t_rising x1 H.size z26 e26) ⟨rfl, rfl⟩ ⟨Nat.le_trans (by decide) hRf, Nat.le_trans (by decide) hRl⟩ ⟨hK, hN⟩ hA hP hD hS [0, 1, 2, 3] [] rfl (by decide) (wr := []) rfl (by decide) (by decide) [0, 1, 2, 3] rfl (by decide) 0 rfl rfl rfl hl.1 rfl (Nat.le_of_ble_eq_true rfl) ⟨Nat.zero_le _, Nat.zero_le _⟩ dX7_heightsInRow_26 (fun H locs hP hD hS _ => ?_)
      refine lv_isub hx hb dX7_heightsInRow_29 ?_
      obtain rfl := Option.some.inj hf
      exact hQ H locs 30 ls hP hD hS trivial dX7_heightsInRow_30
    · have hf := it_pos hc_12 hf
      refine lv_aload_n hx hb dX7_heightsInRow_15 rfl (lv_at hl 0 rfl) ?_
      refine lv_iload_n hx hb dX7_heightsInRow_16 rfl (lv_at hl 1 rfl) ?_
      obtain ⟨z17, e17, hf⟩ := bd_some hf
      refine rV_RO (As := [.int x1]) (rest := []) ⟨hx, hb, hml, hown, hT⟩ (gdV tb_1106 tb_1108 tb_30 tb_95 tb_1109) hd_X7_changesTillRising (c_X7_changesTillRising l D cI cB cZ a_t a_t_tape a_t_tape_bytes a_t_lowSums a_t_highSums a_t_freeAt a_t_rising a_t_used t_tape_length t_tape_bytes x1 z17 e17) ⟨rfl, rfl⟩ ⟨Nat.le_trans (by decide) hRf, Nat.le_trans (by decide) hRl⟩ ⟨hK, hN⟩ hP [0, 1, 2] rfl 0 rfl rfl rfl hl.1 rfl (Nat.le_of_ble_eq_true rfl) ⟨Nat.zero_le _, Nat.zero_le _⟩ dX7_heightsInRow_17 (fun _ => ?_)
      refine lv_goto (tgt := 30) hx hb dX7_heightsInRow_20 (by decide) ?_
      obtain rfl := Option.some.inj hf
      exact hQ H locs 30 ls hP hD hS trivial dX7_heightsInRow_30
  · have hf := it_pos hc_1 hf
    refine lv_aload_n hx hb dX7_heightsInRow_4 rfl (lv_at hl 0 rfl) ?_
    refine lv_iload_n hx hb dX7_heightsInRow_5 rfl (lv_at hl 1 rfl) ?_
    obtain ⟨z6, e6, hf⟩ := bd_some hf
    refine rV_RO (As := [.int x1]) (rest := []) ⟨hx, hb, hml, hown, hT⟩ (gdV tb_1102 tb_1104 tb_29 tb_95 tb_1105) hd_X7_seenFromFront (c_X7_seenFromFront l D cI cB cZ a_t a_t_tape a_t_tape_bytes a_t_lowSums a_t_highSums a_t_freeAt a_t_rising a_t_used t_tape_length t_tape_bytes x1 z6 e6) ⟨rfl, rfl⟩ ⟨Nat.le_trans (by decide) hRf, Nat.le_trans (by decide) hRl⟩ ⟨hK, hN⟩ hP [0, 1, 2] rfl 0 rfl rfl rfl hl.1 rfl (Nat.le_of_ble_eq_true rfl) ⟨Nat.zero_le _, Nat.zero_le _⟩ dX7_heightsInRow_6 (fun _ => ?_)
    obtain rfl := Option.some.inj hf
    exact hQ H locs 9 ls hP hD hS trivial dX7_heightsInRow_9
theorem hd_X7_heightsInRow : (yX7_heightsInRow).cls = RX7 ∧ (yX7_heightsInRow).cls ≠ "java/lang/invoke/MethodHandle" ∧ (yX7_heightsInRow).cls ≠ "java/lang/invoke/VarHandle" ∧ (parseMethodDescriptor (yX7_heightsInRow).desc).map (fun d => d.parameters.length) = some 2 := by decide +kernel
theorem c_X7_heightsInRow (l : Launch) (D : va_G) (cI cB cZ : ClassId) (a_t : Nat) (a_t_tape : Nat) (a_t_tape_bytes : Nat) (a_t_rising : Nat) (a_t_lowSums : Nat) (a_t_highSums : Nat) (a_t_freeAt : Nat) (a_t_used : Nat) (t_tape_length : Int32) (t_tape_bytes : (Nat → Int32)) (t_rising : (Nat → Int32)) (x1 : Int32) (x2 : Int32) (sz : Nat) (res : Int32 × (Nat → Int32)) (hf : f_X7_heightsInRow t_tape_length t_tape_bytes t_rising x1 x2 = some res) : Met l yX7_heightsInRow (.code yX7_heightsInRow cX7_heightsInRow 3 (some .int) :: TB) (rmk (2) (64)) (pRW [.ref a_t, .int x1, .int x2] D cI cB cZ (w_X7_heightsInRow cI cB cZ a_t a_t_tape a_t_tape_bytes a_t_rising a_t_lowSums a_t_highSums a_t_freeAt a_t_used t_tape_length t_tape_bytes t_rising) sz) (qRW (some (.int res.1)) True D (w_X7_heightsInRow cI cB cZ a_t a_t_tape a_t_tape_bytes a_t_rising a_t_lowSums a_t_highSums a_t_freeAt a_t_used t_tape_length t_tape_bytes t_rising) sz (w_X7_heightsInRow cI cB cZ a_t a_t_tape a_t_tape_bytes a_t_rising a_t_lowSums a_t_highSums a_t_freeAt a_t_used t_tape_length t_tape_bytes res.2)) 0 0 (va_A (w_X7_heightsInRow cI cB cZ a_t a_t_tape a_t_tape_bytes a_t_rising a_t_lowSums a_t_highSums a_t_freeAt a_t_used t_tape_length t_tape_bytes t_rising) sz) :=
  mkRW (by decide +kernel) (Nat.le_of_ble_eq_true rfl) (fun p e s m below meth c ls A hAe S hr hlk hK hA hP hD hS hl => b_X7_heightsInRow S.1 S.2.1 S.2.2.1 S.2.2.2.1 S.2.2.2.2 (Nat.le_refl _) (Nat.le_refl _) hK.1 hK.2 hA s.heap [] a_t a_t_tape a_t_tape_bytes a_t_rising a_t_lowSums a_t_highSums a_t_freeAt a_t_used t_tape_length t_tape_bytes t_rising x1 x2 res hf hP hD hS (fun H locs pc ls hP hD hS hE hd => eRW_i S.1 S.2.1 hr rfl hlk hAe hP hD hS hE hd) ls hl)
