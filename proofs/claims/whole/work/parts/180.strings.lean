/-! the texts that the readers ask with, and String.indexOf of them -/
def sOwn : List String := [RX3, RX3, RX3, RX3, RX3, RX4, RX4, RX4, RX4, RX6]
def sIx : List Nat := [37, 115, 104, 99, 94, 35, 44, 46, 48, 47]
def sTx : List String := ["eyo", "sftcgdwqrnmk", "*/%", "+-", "<>=", "23456789", "hgb", "abcdefghijklmnop", "0123456789", ">=!"]
def sByt : List (List Int32) := [[101, 121, 111], [115, 102, 116, 99, 103, 100, 119, 113, 114, 110, 109, 107], [42, 47, 37], [43, 45], [60, 62, 61], [50, 51, 52, 53, 54, 55, 56, 57], [104, 103, 98], [97, 98, 99, 100, 101, 102, 103, 104, 105, 106, 107, 108, 109, 110, 111, 112], [48, 49, 50, 51, 52, 53, 54, 55, 56, 57], [62, 61, 33]]
def sLen : List Nat := [3, 12, 3, 2, 3, 8, 3, 16, 10, 3]
theorem sLen_ok : ∀ k, k < 10 → sLen.getD k 0 = (sByt.getD k []).length ∧ 0 < sLen.getD k 0 ∧ sLen.getD k 0 < 100 := by decide +kernel
def sFind : List Int32 → Int32 → Nat → Int32
  | [], _, _ => -1
  | x :: r, c, i => if x = c then nI i else sFind r c (i + 1)
def sIdx (k : Nat) (ch : Int32) : Int32 := if ch < 0 then -1 else if 255 < ch then -1 else sFind (sByt.getD k []) ch.toInt8.toInt32 0
def SK (adK adV : Nat → Nat) (A : Nat → Prop) (U : State) : Prop := vk_S 10 sLen sByt adK adV A U U.heap ∧ va_Z "java/lang/String" "COMPACT_STRINGS" "Z" (.int 1) A U U.heap ∧ ∀ i : Nat, i < 10 → vk_R (sOwn.getD i "") (sIx.getD i 0) (sTx.getD i "") (adK i) U
theorem SK.call {adK adV : Nat → Nat} {A B : Nat → Prop} {s U : State} {H : Heap} {locs : List Loc} (h : SK adK adV A s) (hS : va_S A s.heap H locs) (hAB : ∀ q, B q → A q) (hU : U.heap = H) (hW : s.WarmedH U.vm) : SK adK adV B U := by
  subst hU
  exact ⟨((h.1.kept hS.2.1).moved hW.alike).narrow hAB, ((h.2.1.kept hS.2.1).moved hW.alike).narrow hAB, fun i hi => (h.2.2 i hi).warm hW⟩
theorem SK.calls {adK adV : Nat → Nat} {A : Nat → Prop} {U : State} {g : JFrame} {mk : MethodId} {a : Array Value} (h : SK adK adV A U) : SK adK adV A (U.calling g mk a) :=
  ⟨vk_S.moved (u := U) (U := U.calling g mk a) (Vm.Alike.refl U.vm) h.1, va_Z.moved (u := U) (U := U.calling g mk a) (Vm.Alike.refl U.vm) h.2.1, fun i hi => vk_R.same (u := U) (U := U.calling g mk a) rfl (h.2.2 i hi)⟩
def pSt (av : List Value) (D : va_G) (cI cB cZ : ClassId) (adK adV : Nat → Nat) (A : Nat → Prop) : Array Value → State → Prop := va_Pc av (fun U => SK adK adV A U ∧ KK D cI cB cZ U)
theorem pSt_blind {av : List Value} {D : va_G} {cI cB cZ : ClassId} {adK adV : Nat → Nat} {A : Nat → Prop} : FrameBlind (pSt av D cI cB cZ adK adV A) := fun a U g mk q => ⟨q.1, q.2.1.calls, q.2.2.calls⟩
theorem mkSt {l : Launch} {y : MethodName} {cc : ByteArray} {maxL : Nat} {ret : Option FieldType} {av : List Value} {v : Option Value} {E : Prop} {rm : Room} {D : va_G} {cI cB cZ : ClassId} {adK adV : Nat → Nat} {A : Nat → Prop} (hy : plainName y.cls = true) (hsl : (lg_sl av).length ≤ maxL)
    (body : ∀ (p : Program) (e : Env) (s : State) (m : MethodId) (below : List Frame) (meth : Method) (c : Code) (ls : Array Slot), CallFix p m c cc maxL s av.toArray TB y.cls → meth.sig.returnType = ret → meth.locks = false → SK adK adV A s → KK D cI cB cZ s → lv_has ls maxL (lv_args 0 av) →
      W p l e rm s m av.toArray below meth c s.heap [] 0 0 (MQ below (qRO v E) av.toArray s 0 0 (fun _ => False)) (F0 m 0 ls [])) : Met l y (.code y cc maxL ret :: TB) rm (pSt av D cI cB cZ adK adV A) (qRO v E) 0 0 (fun _ => False) := by
  refine Met.ofW (cc := cc) (maxL := maxL) (ret := ret) hy rfl ?_
  intro p e s m args below meth c s₁ B hml hv
  obtain ⟨rfl, hZ, hK⟩ := hv
  have hts := atoms_spec (ws := .code y cc maxL ret :: TB) B.pre
  rw [lg_entry_eq]
  exact body p e s m below meth c _ ⟨B.exec, B.bytes, hml, findClass_of_methodNamed B.named, fun w h => hts w (List.mem_cons_of_mem _ h)⟩ B.returns B.notSynchronized hZ hK (lv_entry av hsl)
section STRC
variable {p : Program} {l : Launch} {e : Env} {R : Room} {s : State} {m : MethodId} {args : Array Value} {below : List Frame} {meth : Method} {c : Code} {locs : List Loc} {cells slots : Nat} {Q : State → Prop}
variable {pc : Nat} {ls : Array Slot} {rest st0 As : List Value} {A : Nat → Prop} {v : Option Value} {E : Prop} {adK adV : Nat → Nat} {D : va_G} {cI cB cZ : ClassId}
variable {own C : String} {index n maxL nL k : Nat} {y : MethodName} {bytes cc : ByteArray} {ret : Option FieldType} {rm : Room}
theorem rV_St (S : CallFix p m c cc nL s args TB own) (hG : GoodIn TB (wsV own index "java/lang/String" y (.code y bytes maxL ret :: TB))) (hd : y.cls = "java/lang/String" ∧ y.cls ≠ "java/lang/invoke/MethodHandle" ∧ y.cls ≠ "java/lang/invoke/VarHandle" ∧ (parseMethodDescriptor y.desc).map (fun d => d.parameters.length) = some n)
    (hM : Met l y (.code y bytes maxL ret :: TB) rm (pSt (.ref (adK k) :: As) D cI cB cZ adK adV A) (qRO v E) 0 0 (fun _ => False)) (hrm : rm.cells = 0 ∧ rm.slots = 0) (hR : rm.frames + 1 ≤ R.frames ∧ 8 + (maxL + 11) + rm.locals ≤ R.locals)
    (hZ : SK adK adV A s) (hK : KK D cI cB cZ s) (hk : k < 10)
    (hn : As.length = n) (hsize : ls.size = nL) (hst : st0 = As.reverse ++ .ref (adK k) :: rest) (hW : (rest.map fun v => v.category).sum ≤ 8) (hcs : cells ≤ R.cells ∧ slots ≤ R.slots) (hdg : decode cc pc = .ok (.invokevirtual index, 3))
    (kk : E → W p l e R s m args below meth c s.heap locs cells slots Q (F0 m (pc + 3) ls (v.toList ++ rest))) : W p l e R s m args below meth c s.heap locs cells slots Q (F0 m pc ls st0) := by
  subst hst
  exact cRO (va_runV (As := As) (rest := rest) S hM (cwV n S.2.2.2.2 hG rfl hrm.1 hrm.2 hd hR) ⟨pSt_blind, vk_recv hZ.1 hk (va_S.rf (A := A)), fun U hU hW => ⟨rfl, hZ.call (va_S.rf (A := A)) (fun _ h => h) hU hW, hK.warm hW⟩⟩ rfl hn hsize rfl (lv_room hW) hdg hcs) kk
theorem rS_St (S : CallFix p m c cc nL s args TB own) (hG : GoodIn TB (va_wsS own index y (.code y bytes maxL ret :: TB))) (hd : y.cls ≠ "java/lang/invoke/MethodHandle" ∧ y.cls ≠ "java/lang/invoke/VarHandle" ∧ (parseMethodDescriptor y.desc).map (fun d => d.parameters.length) = some n)
    (hM : Met l y (.code y bytes maxL ret :: TB) rm (pSt As D cI cB cZ adK adV A) (qRO v E) 0 0 (fun _ => False)) (hrm : rm.cells = 0 ∧ rm.slots = 0) (hR : rm.frames + 1 ≤ R.frames ∧ 8 + (maxL + 11) + rm.locals ≤ R.locals)
    (hZ : SK adK adV A s) (hK : KK D cI cB cZ s)
    (hn : As.length = n) (hsize : ls.size = nL) (hst : st0 = As.reverse ++ rest) (hW : (rest.map fun v => v.category).sum ≤ 8) (hcs : cells ≤ R.cells ∧ slots ≤ R.slots) (hdg : decode cc pc = .ok (.invokestatic index, 3))
    (kk : E → W p l e R s m args below meth c s.heap locs cells slots Q (F0 m (pc + 3) ls (v.toList ++ rest))) : W p l e R s m args below meth c s.heap locs cells slots Q (F0 m pc ls st0) := by
  subst hst
  exact cRO (va_runS (As := As) (rest := rest) S hM (va_cwS n S.2.2.2.2 hG rfl hrm.1 hrm.2 hd hR) ⟨pSt_blind, fun U hU hW => ⟨rfl, hZ.call (va_S.rf (A := A)) (fun _ h => h) hU hW, hK.warm hW⟩⟩ rfl hn hsize rfl (lv_room hW) hdg hcs) kk
end STRC
theorem hd_J1_indexOfChar : (yJ1_indexOfChar_4cfef).cls ≠ "java/lang/invoke/MethodHandle" ∧ (yJ1_indexOfChar_4cfef).cls ≠ "java/lang/invoke/VarHandle" ∧ (parseMethodDescriptor (yJ1_indexOfChar_4cfef).desc).map (fun d => d.parameters.length) = some 4 := by decide +kernel
theorem hd_J1_indexOf : (yJ1_indexOf_4cfef).cls ≠ "java/lang/invoke/MethodHandle" ∧ (yJ1_indexOf_4cfef).cls ≠ "java/lang/invoke/VarHandle" ∧ (parseMethodDescriptor (yJ1_indexOf_4cfef).desc).map (fun d => d.parameters.length) = some 4 := by decide +kernel
theorem hd_J0_coder : (yJ0_coder_7d493).cls = "java/lang/String" ∧ (yJ0_coder_7d493).cls ≠ "java/lang/invoke/MethodHandle" ∧ (yJ0_coder_7d493).cls ≠ "java/lang/invoke/VarHandle" ∧ (parseMethodDescriptor (yJ0_coder_7d493).desc).map (fun d => d.parameters.length) = some 0 := by decide +kernel
theorem hd_J0_length : (yJ0_length_8abf5).cls = "java/lang/String" ∧ (yJ0_length_8abf5).cls ≠ "java/lang/invoke/MethodHandle" ∧ (yJ0_length_8abf5).cls ≠ "java/lang/invoke/VarHandle" ∧ (parseMethodDescriptor (yJ0_length_8abf5).desc).map (fun d => d.parameters.length) = some 0 := by decide +kernel
theorem hd_J0_isLatin1 : (yJ0_isLatin1_aae02).cls = "java/lang/String" ∧ (yJ0_isLatin1_aae02).cls ≠ "java/lang/invoke/MethodHandle" ∧ (yJ0_isLatin1_aae02).cls ≠ "java/lang/invoke/VarHandle" ∧ (parseMethodDescriptor (yJ0_isLatin1_aae02).desc).map (fun d => d.parameters.length) = some 0 := by decide +kernel
theorem hd_J0_indexOf2 : (yJ0_indexOf_7cf53).cls = "java/lang/String" ∧ (yJ0_indexOf_7cf53).cls ≠ "java/lang/invoke/MethodHandle" ∧ (yJ0_indexOf_7cf53).cls ≠ "java/lang/invoke/VarHandle" ∧ (parseMethodDescriptor (yJ0_indexOf_7cf53).desc).map (fun d => d.parameters.length) = some 2 := by decide +kernel
theorem hd_J0_indexOf1 : (yJ0_indexOf_0f7a4).cls = "java/lang/String" ∧ (yJ0_indexOf_0f7a4).cls ≠ "java/lang/invoke/MethodHandle" ∧ (yJ0_indexOf_0f7a4).cls ≠ "java/lang/invoke/VarHandle" ∧ (parseMethodDescriptor (yJ0_indexOf_0f7a4).desc).map (fun d => d.parameters.length) = some 1 := by decide +kernel
set_option maxHeartbeats 4000000 in
set_option maxRecDepth 100000 in
theorem c_J1_indexOfChar (l : Launch) (D : va_G) (cI cB cZ : ClassId) (adK adV : Nat → Nat) (A : Nat → Prop) (k : Nat) (hk : k < 10) (ch : Int32) : Met l yJ1_indexOfChar_4cfef (.code yJ1_indexOfChar_4cfef cJ1_indexOfChar_4cfef 6 (some .int) :: TB) (rmk 0 0) (pSt [.ref (adV k), .int ch, .int 0, .int (nI (sLen.getD k 0))] D cI cB cZ adK adV A) (qRO (some (.int (sFind (sByt.getD k []) ch.toInt8.toInt32 0))) True) 0 0 (fun _ => False) := by
  refine mkSt (by decide +kernel) (Nat.le_of_ble_eq_true rfl) (fun p e s m below meth c ls S hr hlk hZ hK hl => ?_)
  obtain ⟨hx, hb, hml, hown, hT⟩ := S
  obtain ⟨hN, h0, h1⟩ := sLen_ok k hk
  have hl : lv_has ls 6 [(0, .ref (adV k)), (1, .int ch), (2, .int 0), (3, .int (nI (sLen.getD k 0)))] := hl
  refine lv_iload_n hx hb dJ1_indexOfChar_4cfef_0 rfl (lv_at hl 1 rfl) ?_
  refine lv_i2b hx hb dJ1_indexOfChar_4cfef_1 rfl ?_
  generalize ch.toInt8.toInt32 = cb
  refine lv_istore (lv' := [(4, .int cb), (0, .ref (adV k)), (1, .int ch), (2, .int 0), (3, .int (nI (sLen.getD k 0)))]) hx hb dJ1_indexOfChar_4cfef_2 hl (by decide) rfl (fun ls hl => ?_)
  refine lv_iload_n hx hb dJ1_indexOfChar_4cfef_4 rfl (lv_at hl 3 rfl) ?_
  refine lv_istore (lv' := [(5, .int 0), (4, .int cb), (0, .ref (adV k)), (1, .int ch), (2, .int 0), (3, .int (nI (sLen.getD k 0)))]) hx hb dJ1_indexOfChar_4cfef_5 hl (by decide) rfl (fun ls hl => ?_)
  have hTt := (hZ.1.1 k hk).2.2.2
  have key : ∀ n i : Nat, i + n = sLen.getD k 0 → ∀ (r : Int32), sFind ((sByt.getD k []).drop i) cb i = r → ∀ ls : Array Slot, lv_has ls 6 [(5, .int (nI i)), (4, .int cb), (0, .ref (adV k)), (3, .int (nI (sLen.getD k 0)))] → W p l e (rmk 0 0) s m #[.ref (adV k), .int ch, .int 0, .int (nI (sLen.getD k 0))] below meth c s.heap [] 0 0 (MQ below (qRO (some (.int r)) True) #[.ref (adV k), .int ch, .int 0, .int (nI (sLen.getD k 0))] s 0 0 (fun _ => False)) (F0 m 7 ls []) := by
    intro n
    induction n with
    | zero =>
      intro i hi r hres ls hl
      have hiN : i = sLen.getD k 0 := by omega
      rw [hiN, hN, List.drop_length] at hres
      refine lv_iload hx hb dJ1_indexOfChar_4cfef_7 (lv_at hl 0 rfl) ?_
      refine lv_iload_n hx hb dJ1_indexOfChar_4cfef_9 rfl (lv_at hl 3 rfl) ?_
      refine lv_icmp_ge (tgt := 31) hx hb dJ1_indexOfChar_4cfef_10 (by decide) (fun hc => ?_) (fun hc => ?_)
      · refine lv_iconst (v := -1) hx hb dJ1_indexOfChar_4cfef_31 (by decide) ?_
        subst hres
        exact eRO_i hx hb hr rfl hlk trivial dJ1_indexOfChar_4cfef_32
      · exact absurd (nI_le (by omega) (by omega)) hc
    | succ n ih =>
      intro i hi r hres ls hl
      have hiL : i < (sByt.getD k []).length := by omega
      rw [List.drop_eq_getElem_cons hiL] at hres
      refine lv_iload hx hb dJ1_indexOfChar_4cfef_7 (lv_at hl 0 rfl) ?_
      refine lv_iload_n hx hb dJ1_indexOfChar_4cfef_9 rfl (lv_at hl 3 rfl) ?_
      refine lv_icmp_ge (tgt := 31) hx hb dJ1_indexOfChar_4cfef_10 (by decide) (fun hc => ?_) (fun hc => ?_)
      · exact absurd hc (nI_ge (by omega) (by omega))
      · refine lv_aload_n hx hb dJ1_indexOfChar_4cfef_13 rfl (lv_at hl 2 rfl) ?_
        refine lv_iload hx hb dJ1_indexOfChar_4cfef_14 (lv_at hl 0 rfl) ?_
        refine va_tb hx hb hTt (va_S.rf (A := A)) (vp_in_nI (by omega) (by omega)) (v := .int ((sByt.getD k [])[i])) ?_ dJ1_indexOfChar_4cfef_16 ?_
        · rw [nI_clamp (by omega), List.getD_eq_getElem?_getD, List.getElem?_eq_getElem hiL]
          rfl
        refine lv_iload hx hb dJ1_indexOfChar_4cfef_17 (lv_at hl 1 rfl) ?_
        refine lv_icmp_ne (tgt := 25) hx hb dJ1_indexOfChar_4cfef_19 (by decide) (fun hc => ?_) (fun hc => ?_)
        · refine lv_iinc (v := nI (i + 1)) (lv' := [(5, .int (nI (i + 1))), (4, .int cb), (0, .ref (adV k)), (3, .int (nI (sLen.getD k 0)))]) hx hb dJ1_indexOfChar_4cfef_25 hl (k := 0) rfl (nI_1 i) (by decide) rfl (fun ls hl => ?_)
          refine lv_goto (tgt := 7) hx hb dJ1_indexOfChar_4cfef_28 (by decide) ?_
          refine ih (i + 1) (by omega) r ?_ ls hl
          rw [sFind, if_neg hc] at hres
          exact hres
        · refine lv_iload hx hb dJ1_indexOfChar_4cfef_22 (lv_at hl 0 rfl) ?_
          rw [sFind, if_pos hc] at hres
          subst hres
          exact eRO_i hx hb hr rfl hlk trivial dJ1_indexOfChar_4cfef_24
  exact key (sLen.getD k 0) 0 (by omega) _ rfl ls (lv_sub hl [0, 1, 2, 5] rfl)
set_option maxHeartbeats 4000000 in
set_option maxRecDepth 100000 in
theorem c_J1_indexOf (l : Launch) (D : va_G) (cI cB cZ : ClassId) (adK adV : Nat → Nat) (A : Nat → Prop) (k : Nat) (hk : k < 10) (ch : Int32) : Met l yJ1_indexOf_4cfef (.code yJ1_indexOf_4cfef cJ1_indexOf_4cfef 4 (some .int) :: TB) (rmk 1 60) (pSt [.ref (adV k), .int ch, .int 0, .int (nI (sLen.getD k 0))] D cI cB cZ adK adV A) (qRO (some (.int (sIdx k ch))) True) 0 0 (fun _ => False) := by
  refine mkSt (by decide +kernel) (Nat.le_of_ble_eq_true rfl) (fun p e s m below meth c ls S hr hlk hZ hK hl => ?_)
  obtain ⟨hx, hb, hml, hown, hT⟩ := S
  obtain ⟨hN, h0, h1⟩ := sLen_ok k hk
  have hl : lv_has ls 4 [(0, .ref (adV k)), (1, .int ch), (2, .int 0), (3, .int (nI (sLen.getD k 0)))] := hl
  have hTt := (hZ.1.1 k hk).2.2.2
  have hS : va_S A s.heap s.heap [] := va_S.rf
  have hce : ∀ z, f_J1_canEncode_9a6ad ch = some z → sIdx k ch = if z = 0 then -1 else sFind (sByt.getD k []) ch.toInt8.toInt32 0 := by
    intro z hz
    unfold f_J1_canEncode_9a6ad at hz
    unfold sIdx
    by_cases c1 : ch < 0
    · rw [if_pos c1] at hz ⊢
      cases hz
      rfl
    · rw [if_neg c1] at hz ⊢
      by_cases c2 : 255 < ch
      · rw [if_pos c2] at hz ⊢
        cases hz
        rfl
      · rw [if_neg c2] at hz ⊢
        cases hz
        rfl
  obtain ⟨z, hz⟩ : ∃ z, f_J1_canEncode_9a6ad ch = some z := by
    unfold f_J1_canEncode_9a6ad
    by_cases c1 : ch < 0
    · rw [if_pos c1]; exact ⟨_, rfl⟩
    · rw [if_neg c1]
      by_cases c2 : 255 < ch
      · rw [if_pos c2]; exact ⟨_, rfl⟩
      · rw [if_neg c2]; exact ⟨_, rfl⟩
  rw [hce z hz]
  refine lv_iload_n hx hb dJ1_indexOf_4cfef_0 rfl (lv_at hl 1 rfl) ?_
  have hP : va_P D vwCl [] s.heap := fun k q h => by simp at h
  refine rS_RO (As := [.int ch]) (rest := []) ⟨hx, hb, hml, hown, hT⟩ (gdS tb_473 tb_474 tb_100 tb_475) hd_J1_canEncode_9a6ad (c_J1_canEncode_9a6ad l D cI cB cZ ch z hz) ⟨rfl, rfl⟩ ⟨Nat.le_of_ble_eq_true rfl, Nat.le_of_ble_eq_true rfl⟩ hK hP [] rfl rfl hl.1 rfl (Nat.le_of_ble_eq_true rfl) ⟨Nat.zero_le _, Nat.zero_le _⟩ dJ1_indexOf_4cfef_1 (fun _ => ?_)
  refine lv_if_ne (tgt := 9) hx hb dJ1_indexOf_4cfef_4 (by decide) (fun hc => ?_) (fun hc => ?_)
  · rw [if_neg hc]
    refine lv_iload_n hx hb dJ1_indexOf_4cfef_9 rfl (lv_at hl 2 rfl) ?_
    refine lv_iconst (v := 0) hx hb dJ1_indexOf_4cfef_10 (by decide) ?_
    refine va_mmax hx hb (hml.trans hl.1.symm) hown (hT _ tb_476) (hT _ tb_477) (hT _ tb_98) (hT _ tb_478) (Nat.le_of_ble_eq_true rfl) (Nat.le_of_ble_eq_true rfl) (Nat.zero_le _) (Nat.zero_le _) dJ1_indexOf_4cfef_11 ?_
    rw [show (if (0 : Int32) < 0 then (0 : Int32) else 0) = 0 by rfl]
    refine lv_istore_n (lv' := [(2, .int 0), (0, .ref (adV k)), (1, .int ch), (3, .int (nI (sLen.getD k 0)))]) hx hb dJ1_indexOf_4cfef_14 rfl hl (by decide) rfl (fun ls hl => ?_)
    refine lv_iload_n hx hb dJ1_indexOf_4cfef_15 rfl (lv_at hl 3 rfl) ?_
    refine lv_aload_n hx hb dJ1_indexOf_4cfef_16 rfl (lv_at hl 1 rfl) ?_
    refine va_tlen hx hb hTt hS (v := nI (sLen.getD k 0)) rfl dJ1_indexOf_4cfef_17 ?_
    refine va_mmin hx hb (hml.trans hl.1.symm) hown (hT _ tb_479) (hT _ tb_421) (hT _ tb_98) (hT _ tb_422) (Nat.le_of_ble_eq_true rfl) (Nat.le_of_ble_eq_true rfl) (Nat.zero_le _) (Nat.zero_le _) dJ1_indexOf_4cfef_18 ?_
    rw [show (if nI (sLen.getD k 0) < nI (sLen.getD k 0) then nI (sLen.getD k 0) else nI (sLen.getD k 0)) = nI (sLen.getD k 0) by split <;> rfl]
    refine lv_istore_n (lv' := [(3, .int (nI (sLen.getD k 0))), (2, .int 0), (0, .ref (adV k)), (1, .int ch)]) hx hb dJ1_indexOf_4cfef_21 rfl hl (by decide) rfl (fun ls hl => ?_)
    refine lv_iload_n hx hb dJ1_indexOf_4cfef_22 rfl (lv_at hl 1 rfl) ?_
    refine lv_iload_n hx hb dJ1_indexOf_4cfef_23 rfl (lv_at hl 0 rfl) ?_
    refine lv_icmp_lt (tgt := 29) hx hb dJ1_indexOf_4cfef_24 (by decide) (fun hc2 => ?_) (fun hc2 => ?_)
    · refine lv_aload_n hx hb dJ1_indexOf_4cfef_29 rfl (lv_at hl 2 rfl) ?_
      refine lv_iload_n hx hb dJ1_indexOf_4cfef_30 rfl (lv_at hl 3 rfl) ?_
      refine lv_iload_n hx hb dJ1_indexOf_4cfef_31 rfl (lv_at hl 1 rfl) ?_
      refine lv_iload_n hx hb dJ1_indexOf_4cfef_32 rfl (lv_at hl 0 rfl) ?_
      refine rS_St (As := [.ref (adV k), .int ch, .int 0, .int (nI (sLen.getD k 0))]) (rest := []) ⟨hx, hb, hml, hown, hT⟩ (gdS tb_480 tb_481 tb_100 tb_482) hd_J1_indexOfChar (c_J1_indexOfChar l D cI cB cZ adK adV A k hk ch) ⟨rfl, rfl⟩ ⟨Nat.le_of_ble_eq_true rfl, Nat.le_of_ble_eq_true rfl⟩ hZ hK rfl hl.1 rfl (Nat.le_of_ble_eq_true rfl) ⟨Nat.zero_le _, Nat.zero_le _⟩ dJ1_indexOf_4cfef_33 (fun _ => ?_)
      exact eRO_i hx hb hr rfl hlk trivial dJ1_indexOf_4cfef_36
    · exact absurd (show (0 : Int32) < nI (sLen.getD k 0) from nI_lt (a := 0) h0 (by omega)) hc2
  · rw [if_pos hc]
    refine lv_iconst (v := -1) hx hb dJ1_indexOf_4cfef_7 (by decide) ?_
    exact eRO_i hx hb hr rfl hlk trivial dJ1_indexOf_4cfef_8
set_option maxHeartbeats 4000000 in
set_option maxRecDepth 100000 in
theorem c_J0_isLatin1 (l : Launch) (D : va_G) (cI cB cZ : ClassId) (adK adV : Nat → Nat) (A : Nat → Prop) (k : Nat) (hk : k < 10) : Met l yJ0_isLatin1_aae02 (.code yJ0_isLatin1_aae02 cJ0_isLatin1_aae02 1 (some .boolean) :: TB) (rmk 0 0) (pSt [.ref (adK k)] D cI cB cZ adK adV A) (qRO (some (.int 1)) True) 0 0 (fun _ => False) := by
  refine mkSt (by decide +kernel) (Nat.le_of_ble_eq_true rfl) (fun p e s m below meth c ls S hr hlk hZ hK hl => ?_)
  obtain ⟨hx, hb, hml, hown, hT⟩ := S
  have hS : va_S A s.heap s.heap [] := va_S.rf
  have hl : lv_has ls 1 [(0, .ref (adK k))] := hl
  refine va_gets hx hb hZ.2.1 hS hown (hT _ tb_460) (fun _ h => h) dJ0_isLatin1_aae02_0 ?_
  refine lv_if_eq (tgt := 17) hx hb dJ0_isLatin1_aae02_3 (by decide) (fun hc => absurd hc (by decide)) (fun hc => ?_)
  refine lv_aload_n hx hb dJ0_isLatin1_aae02_6 rfl (lv_at hl 0 rfl) ?_
  refine vk_getf hx hb (hZ.1.1 k hk).2.1 hS hown (hT _ tb_1656) (fun _ h => h) dJ0_isLatin1_aae02_7 ?_
  refine lv_if_ne (tgt := 17) hx hb dJ0_isLatin1_aae02_10 (by decide) (fun hc => absurd rfl hc) (fun hc => ?_)
  refine lv_iconst (v := 1) hx hb dJ0_isLatin1_aae02_13 (by decide) ?_
  refine lv_goto (tgt := 18) hx hb dJ0_isLatin1_aae02_14 (by decide) ?_
  exact eRO_i hx hb hr rfl hlk trivial dJ0_isLatin1_aae02_18
set_option maxHeartbeats 4000000 in
set_option maxRecDepth 100000 in
theorem c_J0_coder (l : Launch) (D : va_G) (cI cB cZ : ClassId) (adK adV : Nat → Nat) (A : Nat → Prop) (k : Nat) (hk : k < 10) : Met l yJ0_coder_7d493 (.code yJ0_coder_7d493 cJ0_coder_7d493 1 (some .byte) :: TB) (rmk 0 0) (pSt [.ref (adK k)] D cI cB cZ adK adV A) (qRO (some (.int 0)) True) 0 0 (fun _ => False) := by
  refine mkSt (by decide +kernel) (Nat.le_of_ble_eq_true rfl) (fun p e s m below meth c ls S hr hlk hZ hK hl => ?_)
  obtain ⟨hx, hb, hml, hown, hT⟩ := S
  have hS : va_S A s.heap s.heap [] := va_S.rf
  have hl : lv_has ls 1 [(0, .ref (adK k))] := hl
  refine va_gets hx hb hZ.2.1 hS hown (hT _ tb_460) (fun _ h => h) dJ0_coder_7d493_0 ?_
  refine lv_if_eq (tgt := 13) hx hb dJ0_coder_7d493_3 (by decide) (fun hc => absurd hc (by decide)) (fun hc => ?_)
  refine lv_aload_n hx hb dJ0_coder_7d493_6 rfl (lv_at hl 0 rfl) ?_
  refine vk_getf hx hb (hZ.1.1 k hk).2.1 hS hown (hT _ tb_1656) (fun _ h => h) dJ0_coder_7d493_7 ?_
  refine lv_goto (tgt := 14) hx hb dJ0_coder_7d493_10 (by decide) ?_
  exact eRO_i hx hb hr rfl hlk trivial dJ0_coder_7d493_14
set_option maxHeartbeats 4000000 in
set_option maxRecDepth 100000 in
theorem c_J0_length (l : Launch) (D : va_G) (cI cB cZ : ClassId) (adK adV : Nat → Nat) (A : Nat → Prop) (k : Nat) (hk : k < 10) : Met l yJ0_length_8abf5 (.code yJ0_length_8abf5 cJ0_length_8abf5 1 (some .int) :: TB) (rmk 1 20) (pSt [.ref (adK k)] D cI cB cZ adK adV A) (qRO (some (.int (nI (sLen.getD k 0)))) True) 0 0 (fun _ => False) := by
  refine mkSt (by decide +kernel) (Nat.le_of_ble_eq_true rfl) (fun p e s m below meth c ls S hr hlk hZ hK hl => ?_)
  obtain ⟨hx, hb, hml, hown, hT⟩ := S
  have hS : va_S A s.heap s.heap [] := va_S.rf
  have hl : lv_has ls 1 [(0, .ref (adK k))] := hl
  refine lv_aload_n hx hb dJ0_length_8abf5_0 rfl (lv_at hl 0 rfl) ?_
  refine vk_getf hx hb (hZ.1.1 k hk).2.2.1 hS hown (hT _ tb_1657) (fun _ h => h) dJ0_length_8abf5_1 ?_
  refine va_tlen hx hb (hZ.1.1 k hk).2.2.2 hS (v := nI (sLen.getD k 0)) rfl dJ0_length_8abf5_4 ?_
  refine lv_aload_n hx hb dJ0_length_8abf5_5 rfl (lv_at hl 0 rfl) ?_
  refine rV_St (As := []) (rest := [.int (nI (sLen.getD k 0))]) ⟨hx, hb, hml, hown, hT⟩ (gdV tb_466 tb_467 tb_468 tb_99 tb_469) hd_J0_coder (c_J0_coder l D cI cB cZ adK adV A k hk) ⟨rfl, rfl⟩ ⟨Nat.le_of_ble_eq_true rfl, Nat.le_of_ble_eq_true rfl⟩ hZ hK hk rfl hl.1 rfl (Nat.le_of_ble_eq_true rfl) ⟨Nat.zero_le _, Nat.zero_le _⟩ dJ0_length_8abf5_6 (fun _ => ?_)
  refine lv_ishr hx hb dJ0_length_8abf5_9 ?_
  rw [sb_shr0]
  exact eRO_i hx hb hr rfl hlk trivial dJ0_length_8abf5_10
set_option maxHeartbeats 4000000 in
set_option maxRecDepth 100000 in
theorem c_J0_indexOf2 (l : Launch) (D : va_G) (cI cB cZ : ClassId) (adK adV : Nat → Nat) (A : Nat → Prop) (k : Nat) (hk : k < 10) (ch : Int32) : Met l yJ0_indexOf_7cf53 (.code yJ0_indexOf_7cf53 cJ0_indexOf_7cf53 3 (some .int) :: TB) (rmk 2 90) (pSt [.ref (adK k), .int ch, .int 0] D cI cB cZ adK adV A) (qRO (some (.int (sIdx k ch))) True) 0 0 (fun _ => False) := by
  refine mkSt (by decide +kernel) (Nat.le_of_ble_eq_true rfl) (fun p e s m below meth c ls S hr hlk hZ hK hl => ?_)
  obtain ⟨hx, hb, hml, hown, hT⟩ := S
  have hS : va_S A s.heap s.heap [] := va_S.rf
  have hl : lv_has ls 3 [(0, .ref (adK k)), (1, .int ch), (2, .int 0)] := hl
  refine lv_aload_n hx hb dJ0_indexOf_7cf53_0 rfl (lv_at hl 0 rfl) ?_
  refine rV_St (As := []) (rest := []) ⟨hx, hb, hml, hown, hT⟩ (gdV tb_456 tb_457 tb_458 tb_99 tb_459) hd_J0_isLatin1 (c_J0_isLatin1 l D cI cB cZ adK adV A k hk) ⟨rfl, rfl⟩ ⟨Nat.le_of_ble_eq_true rfl, Nat.le_of_ble_eq_true rfl⟩ hZ hK hk rfl hl.1 rfl (Nat.le_of_ble_eq_true rfl) ⟨Nat.zero_le _, Nat.zero_le _⟩ dJ0_indexOf_7cf53_1 (fun _ => ?_)
  refine lv_if_eq (tgt := 23) hx hb dJ0_indexOf_7cf53_4 (by decide) (fun hc => absurd hc (by decide)) (fun hc => ?_)
  refine lv_aload_n hx hb dJ0_indexOf_7cf53_7 rfl (lv_at hl 0 rfl) ?_
  refine vk_getf hx hb (hZ.1.1 k hk).2.2.1 hS hown (hT _ tb_1657) (fun _ h => h) dJ0_indexOf_7cf53_8 ?_
  refine lv_iload_n hx hb dJ0_indexOf_7cf53_11 rfl (lv_at hl 1 rfl) ?_
  refine lv_iload_n hx hb dJ0_indexOf_7cf53_12 rfl (lv_at hl 2 rfl) ?_
  refine lv_aload_n hx hb dJ0_indexOf_7cf53_13 rfl (lv_at hl 0 rfl) ?_
  refine rV_St (As := []) (rest := [.int 0, .int ch, .ref (adV k)]) ⟨hx, hb, hml, hown, hT⟩ (gdV tb_462 tb_463 tb_464 tb_99 tb_465) hd_J0_length (c_J0_length l D cI cB cZ adK adV A k hk) ⟨rfl, rfl⟩ ⟨Nat.le_of_ble_eq_true rfl, Nat.le_of_ble_eq_true rfl⟩ hZ hK hk rfl hl.1 rfl (Nat.le_of_ble_eq_true rfl) ⟨Nat.zero_le _, Nat.zero_le _⟩ dJ0_indexOf_7cf53_14 (fun _ => ?_)
  refine rS_St (As := [.ref (adV k), .int ch, .int 0, .int (nI (sLen.getD k 0))]) (rest := []) ⟨hx, hb, hml, hown, hT⟩ (gdS tb_470 tb_471 tb_100 tb_472) hd_J1_indexOf (c_J1_indexOf l D cI cB cZ adK adV A k hk ch) ⟨rfl, rfl⟩ ⟨Nat.le_of_ble_eq_true rfl, Nat.le_of_ble_eq_true rfl⟩ hZ hK rfl hl.1 rfl (Nat.le_of_ble_eq_true rfl) ⟨Nat.zero_le _, Nat.zero_le _⟩ dJ0_indexOf_7cf53_17 (fun _ => ?_)
  refine lv_goto (tgt := 36) hx hb dJ0_indexOf_7cf53_20 (by decide) ?_
  exact eRO_i hx hb hr rfl hlk trivial dJ0_indexOf_7cf53_36
set_option maxHeartbeats 4000000 in
set_option maxRecDepth 100000 in
theorem c_J0_indexOf1 (l : Launch) (D : va_G) (cI cB cZ : ClassId) (adK adV : Nat → Nat) (A : Nat → Prop) (k : Nat) (hk : k < 10) (ch : Int32) : Met l yJ0_indexOf_0f7a4 (.code yJ0_indexOf_0f7a4 cJ0_indexOf_0f7a4 2 (some .int) :: TB) (rmk 3 120) (pSt [.ref (adK k), .int ch] D cI cB cZ adK adV A) (qRO (some (.int (sIdx k ch))) True) 0 0 (fun _ => False) := by
  refine mkSt (by decide +kernel) (Nat.le_of_ble_eq_true rfl) (fun p e s m below meth c ls S hr hlk hZ hK hl => ?_)
  obtain ⟨hx, hb, hml, hown, hT⟩ := S
  have hl : lv_has ls 2 [(0, .ref (adK k)), (1, .int ch)] := hl
  refine lv_aload_n hx hb dJ0_indexOf_0f7a4_0 rfl (lv_at hl 0 rfl) ?_
  refine lv_iload_n hx hb dJ0_indexOf_0f7a4_1 rfl (lv_at hl 1 rfl) ?_
  refine lv_iconst (v := 0) hx hb dJ0_indexOf_0f7a4_2 (by decide) ?_
  refine rV_St (As := [.int ch, .int 0]) (rest := []) ⟨hx, hb, hml, hown, hT⟩ (gdV tb_452 tb_453 tb_454 tb_99 tb_455) hd_J0_indexOf2 (c_J0_indexOf2 l D cI cB cZ adK adV A k hk ch) ⟨rfl, rfl⟩ ⟨Nat.le_of_ble_eq_true rfl, Nat.le_of_ble_eq_true rfl⟩ hZ hK hk rfl hl.1 rfl (Nat.le_of_ble_eq_true rfl) ⟨Nat.zero_le _, Nat.zero_le _⟩ dJ0_indexOf_0f7a4_3 (fun _ => ?_)
  exact eRO_i hx hb hr rfl hlk trivial dJ0_indexOf_0f7a4_6
