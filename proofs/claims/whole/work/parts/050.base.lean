/-! small words for the functions that are read off the code -/
def FU : Nat := 10000
def ix {α : Type} (n : Nat) (i : Int32) (k : Option α) : Option α := if i < 0 ∨ n ≤ i.toNatClampNeg then none else k
def dv {α : Type} (y : Int32) (k : Option α) : Option α := if y = 0 then none else k
abbrev jrem (x y : Int32) : Int32 := x - x / y * y
abbrev jushr (x y : Int32) : Int32 := (x.toUInt32 >>> (y.toUInt32 &&& Int32.toUInt32 31)).toInt32
theorem ix_some {α : Type} {n : Nat} {i : Int32} {k : Option α} {r : α} (h : ix n i k = some r) : vp_in i n ∧ k = some r := by
  unfold ix at h
  by_cases c : i < 0 ∨ n ≤ i.toNatClampNeg
  · rw [if_pos c] at h; cases h
  · rw [if_neg c] at h; exact ⟨c, h⟩
theorem dv_some {α : Type} {y : Int32} {k : Option α} {r : α} (h : dv y k = some r) : ¬ y = 0 ∧ k = some r := by
  unfold dv at h
  by_cases c : y = 0
  · rw [if_pos c] at h; cases h
  · rw [if_neg c] at h; exact ⟨c, h⟩
theorem bd_some {α β : Type} {x : Option α} {k : α → Option β} {r : β} (h : x.bind k = some r) : ∃ z, x = some z ∧ k z = some r := by
  cases x with
  | none => cases h
  | some z => exact ⟨z, rfl, h⟩
theorem it_pos {α : Type} {c : Prop} [Decidable c] {a b : Option α} {r : α} (hc : c) (h : (if c then a else b) = some r) : a = some r := by rw [if_pos hc] at h; exact h
theorem it_neg {α : Type} {c : Prop} [Decidable c] {a b : Option α} {r : α} (hc : ¬ c) (h : (if c then a else b) = some r) : b = some r := by rw [if_neg hc] at h; exact h
theorem fm_of_map {α : Type} : ∀ {is : List Nat} {f : Nat → Option α} {l : List α}, is.map f = l.map some → is.filterMap f = l
  | [], _, [], _ => rfl
  | [], _, _ :: _, h => by cases h
  | _ :: _, _, [], h => by cases h
  | i :: is, f, a :: l, h => by
    simp only [List.map_cons, List.cons.injEq] at h
    rw [List.filterMap_cons, h.1, fm_of_map h.2]
/-! contracts: nothing changes (RO), or the world does (RW) -/
def NWs : List Cond := [Cond.methodLinkNest RX8 17 yX11_isWithin "WeddingPews", Cond.methodLinkNest RX0 87 yX11_isSeat "WeddingPews", Cond.methodLinkNest RX2 59 yX11_isWithin "WeddingPews", Cond.methodLinkNest RX7 54 yX11_isWithin "WeddingPews", Cond.methodLinkNest RX5 119 yX11_pewOf "WeddingPews", Cond.methodLinkNest RX11 11 yX8_init "WeddingPews", Cond.methodLinkNest RX11 63 yX10_init "WeddingPews", Cond.methodLinkNest RX11 70 yX5_init "WeddingPews", Cond.methodLinkNest RX11 84 yX2_init "WeddingPews", Cond.fieldLinkNest RX9 27 "WeddingPews$Tape" "bytes" "[I" "WeddingPews"]
def NW (U : State) : Prop := ∀ w ∈ NWs, va_Nw w U
theorem NW.warm {s U : State} (hW : s.WarmedH U.vm) (h : NW s) : NW U := by
  intro w hw
  have h1 := h w hw
  simp only [NWs, List.mem_cons, List.not_mem_nil, or_false] at hw
  rcases hw with rfl | rfl | rfl | rfl | rfl | rfl | rfl | rfl | rfl | rfl <;> first | exact va_Nw.warmM hW h1 | exact va_Nw.warmF hW h1
theorem NW.same {u U : State} (hv : u.vm = U.vm) (h : NW u) : NW U := by
  intro w hw
  have h1 := h w hw
  simp only [NWs, List.mem_cons, List.not_mem_nil, or_false] at hw
  rcases hw with rfl | rfl | rfl | rfl | rfl | rfl | rfl | rfl | rfl | rfl <;> exact va_Nw.same rfl hv h1
abbrev tyL (cI cB cZ : ClassId) : List (ClassId × FieldType) := [(cI, .int), (cB, .byte), (cZ, .boolean)]
def KK (D : va_G) (cI cB cZ : ClassId) (U : State) : Prop := va_K D vwCl (tyL cI cB cZ) U ∧ NW U
theorem KK.warm {D : va_G} {cI cB cZ : ClassId} {s U : State} (hW : s.WarmedH U.vm) (h : KK D cI cB cZ s) : KK D cI cB cZ U := ⟨va_K.moved hW.alike h.1, h.2.warm hW⟩
theorem KK.calls {D : va_G} {cI cB cZ : ClassId} {U : State} {g : JFrame} {mk : MethodId} {a : Array Value} (h : KK D cI cB cZ U) : KK D cI cB cZ (U.calling g mk a) := ⟨va_K.moved (u := U) (U := U.calling g mk a) (Vm.Alike.refl U.vm) h.1, NW.same (u := U) (U := U.calling g mk a) rfl h.2⟩
abbrev rmk (f L : Nat) : Room := { frames := f, cells := 0, slots := 0, locals := L }
def cpk {α : Type} (n0 n1 : Nat) (sp dp n : Int32) (k : Option α) : Option α := if ¬ sp < 0 ∧ ¬ dp < 0 ∧ ¬ n < 0 ∧ sp.toNatClampNeg + n.toNatClampNeg ≤ n0 ∧ dp.toNatClampNeg + n.toNatClampNeg ≤ n1 then k else none
theorem cpk_some {α : Type} {n0 n1 : Nat} {sp dp n : Int32} {k : Option α} {r : α} (h : cpk n0 n1 sp dp n k = some r) : (¬ sp < 0 ∧ ¬ dp < 0 ∧ ¬ n < 0 ∧ sp.toNatClampNeg + n.toNatClampNeg ≤ n0 ∧ dp.toNatClampNeg + n.toNatClampNeg ≤ n1) ∧ k = some r := by
  unfold cpk at h
  by_cases c : ¬ sp < 0 ∧ ¬ dp < 0 ∧ ¬ n < 0 ∧ sp.toNatClampNeg + n.toNatClampNeg ≤ n0 ∧ dp.toNatClampNeg + n.toNatClampNeg ≤ n1
  · rw [if_pos c] at h; exact ⟨c, h⟩
  · rw [if_neg c] at h; cases h
theorem ts_out {x : Int32} (lo n : Nat) {lo' hi' : Int} (e1 : (lo : Int) = lo') (e2 : ((lo + n : Nat) : Int) - 1 = hi') (h : ∀ k : Nat, k < n → ¬ x = Int32.ofNat (lo + k)) (hb : lo + n < 2 ^ 31 := by decide) : x.toInt < lo' ∨ hi' < x.toInt := by
  subst e1 e2
  rcases Int.lt_or_le x.toInt lo with h1 | h1
  · exact Or.inl h1
  · rcases Int.lt_or_le (((lo + n : Nat) : Int) - 1) x.toInt with h2 | h2
    · exact Or.inr h2
    · exfalso
      refine h (x.toInt.toNat - lo) (by omega) ?_
      have e1 : lo + (x.toInt.toNat - lo) = x.toInt.toNat := by omega
      rw [e1]
      apply Int32.toInt_inj.mp
      rw [Int32.toInt_ofNat_of_lt (by omega)]
      omega
def pRO (av : List Value) (D : va_G) (cI cB cZ : ClassId) (ws : va_W) : Array Value → State → Prop := va_Pc av (fun U => va_P D vwCl ws U.heap ∧ KK D cI cB cZ U)
def qRO (v : Option Value) (E : Prop) : Array Value → State → Outcome → State → Prop := fun _ st o t => o = .returned v ∧ t.heap = st.heap ∧ E
def pRW (av : List Value) (D : va_G) (cI cB cZ : ClassId) (ws : va_W) (sz : Nat) : Array Value → State → Prop := va_Pc av (fun U => U.heap.size = sz ∧ va_P D vwCl ws U.heap ∧ KK D cI cB cZ U ∧ va_D (fun _ => True) ws)
def qRW (v : Option Value) (E : Prop) (D : va_G) (ws : va_W) (sz : Nat) (w1 : va_W) : Array Value → State → Outcome → State → Prop := fun _ st o t => o = .returned v ∧ va_P D vwCl w1 t.heap ∧ va_D (va_A ws sz) w1 ∧ va_F (va_A ws sz) st t ∧ E
theorem pRO_blind {av : List Value} {D : va_G} {cI cB cZ : ClassId} {ws : va_W} : FrameBlind (pRO av D cI cB cZ ws) := fun a U g mk q => by
  obtain ⟨q0, qP, qK⟩ := q
  exact ⟨q0, qP, qK.calls⟩
theorem pRW_blind {av : List Value} {D : va_G} {cI cB cZ : ClassId} {ws : va_W} {sz : Nat} : FrameBlind (pRW av D cI cB cZ ws sz) := fun a U g mk q => by
  obtain ⟨q0, q1, qP, qK, qD⟩ := q
  exact ⟨q0, q1, qP, qK.calls, qD⟩
theorem gdV {own C : String} {index maxL : Nat} {y : MethodName} {bytes : ByteArray} {ret : Option FieldType} (h1 : Cond.methodLink own index y ∈ TB) (h2 : Cond.instanceMethod y ∈ TB) (h3 : Cond.selects C y y ∈ TB) (h4 : Cond.initialized C ∈ TB) (h5 : Cond.code y bytes maxL ret ∈ TB) : GoodIn TB (wsV own index C y (.code y bytes maxL ret :: TB)) := by
  intro w hw
  have hm : w ∈ TB := by
    simp only [wsV, List.cons_append, List.nil_append, List.mem_cons] at hw
    rcases hw with rfl | rfl | rfl | rfl | rfl | h
    · exact h1
    · exact h2
    · exact h3
    · exact h4
    · exact h5
    · exact h
  exact ⟨hm, TB_good w hm⟩
theorem gdS {own : String} {index maxL : Nat} {y : MethodName} {bytes : ByteArray} {ret : Option FieldType} (h1 : Cond.methodLink own index y ∈ TB) (h2 : Cond.static y ∈ TB) (h4 : Cond.initialized y.cls ∈ TB) (h5 : Cond.code y bytes maxL ret ∈ TB) : GoodIn TB (va_wsS own index y (.code y bytes maxL ret :: TB)) := by
  intro w hw
  have hm : w ∈ TB := by
    simp only [va_wsS, List.cons_append, List.nil_append, List.mem_cons] at hw
    rcases hw with rfl | rfl | rfl | rfl | h
    · exact h1
    · exact h2
    · exact h4
    · exact h5
    · exact h
  exact ⟨hm, TB_good w hm⟩
theorem gdC {maxL : Nat} {y : MethodName} {bytes : ByteArray} {ret : Option FieldType} (h5 : Cond.code y bytes maxL ret ∈ TB) : GoodIn TB (.code y bytes maxL ret :: TB) := by
  intro w hw
  have hm : w ∈ TB := by
    simp only [List.mem_cons] at hw
    rcases hw with rfl | h
    · exact h5
    · exact h
  exact ⟨hm, TB_good w hm⟩
section BASE
variable {p : Program} {l : Launch} {e : Env} {R : Room} {s : State} {m : MethodId} {args : Array Value} {below : List Frame} {meth : Method} {c : Code} {H : Heap} {locs : List Loc} {cells slots : Nat} {Q : State → Prop}
variable {pc : Nat} {ls : Array Slot} {rest st0 As : List Value} {A : Nat → Prop} {H0 : Heap} {D : va_G} {cI cB cZ : ClassId} {ws wc wr w1 w2 : va_W} {v : Option Value} {E : Prop}
variable {own C host : String} {index n maxL nL ci b N : Nat} {T : u_T} {fs : List Value} {y : MethodName} {bytes cc : ByteArray} {ret : Option FieldType} {rm : Room}
/-- behind a call that changes nothing -/
theorem cRO {a : Array Value} (hr : va_Run p l e R s m args below meth c H locs cells slots 0 0 (F0 m pc ls st0) rest (qRO v E a) (fun _ => False))
    (kk : E → W p l e R s m args below meth c H locs cells slots Q (F0 m (pc + 3) ls (v.toList ++ rest))) : W p l e R s m args below meth c H locs cells slots Q (F0 m pc ls st0) := by
  intro T hT X
  obtain ⟨v', st₀, t, T', L, h0, X', hL, e1, e2, ⟨hv, hh, hE⟩, st⟩ := hr T hT X
  cases hv
  obtain ⟨t2, a1, b1⟩ := kk hE T' (by rw [e1, hh, h0]) (Stand.forget X' (fun q h => (hL q h).elim))
  exact ⟨t2, st t2 a1, b1⟩
/-- behind a call that changes its world -/
theorem cRW {a : Array Value} (hr : va_Run p l e R s m args below meth c H locs cells slots 0 0 (F0 m pc ls st0) rest (qRW v E D wc H.size w1 a) (va_A wc H.size)) (hA : ∀ q, H0.size ≤ q → A q)
    (hP : va_P D vwCl ws H) (hD : va_D A ws) (hS : va_S A H0 H locs) (isC isR : List Nat) (hC : isC.map (fun i => ws[i]?) = wc.map some) (hR : isR.map (fun i => ws[i]?) = wr.map some) (hn : va_nd isR = true) (hdis : ∀ i ∈ isR, i ∉ isC) (pm : List Nat) (hp : pm.map (fun i => (wr ++ w1)[i]?) = w2.map some) (hpn : va_nd pm = true)
    (kk : ∀ (H1 : Heap) (locs1 : List Loc), va_P D vwCl w2 H1 → va_D A w2 → va_S A H0 H1 locs1 → E → W p l e R s m args below meth c H1 locs1 cells slots Q (F0 m (pc + 3) ls (v.toList ++ rest))) : W p l e R s m args below meth c H locs cells slots Q (F0 m pc ls st0) := by
  intro T hT X
  obtain ⟨v', st₀, t, T', L, h0, X', hL, e1, e2, ⟨hv, hP1, hD1, ⟨hz, hk⟩, hE⟩, st⟩ := hr T hT X
  cases hv
  rw [h0] at hz hk
  have hF := va_free hD hS hA isC hC
  obtain ⟨gP, gD⟩ := va_join hP hD isC isR hC hR hn hdis hk hF hP1 hD1
  obtain ⟨t2, a1, b1⟩ := kk T'.heap (locs ++ L) (by rw [e1]; exact gP.sub pm (fm_of_map hp)) (gD.sub pm hpn hp)
    ⟨Nat.le_trans hS.1 (by rw [e1]; exact hz), fun q h1 h2 => by rw [e1, hk q (Nat.lt_of_lt_of_le h1 hS.1) (fun z => h2 (hF q z))]; exact hS.2.1 q h1 h2, fun q hq => by
      rcases List.mem_append.mp hq with h | h
      · exact hS.2.2 q h
      · exact hF _ (hL q h)⟩ hE T' rfl X'
  exact ⟨t2, st t2 a1, b1⟩
theorem rV_RO (S : CallFix p m c cc nL s args TB own) (hG : GoodIn TB (wsV own index C y (.code y bytes maxL ret :: TB))) (hd : y.cls = C ∧ y.cls ≠ "java/lang/invoke/MethodHandle" ∧ y.cls ≠ "java/lang/invoke/VarHandle" ∧ (parseMethodDescriptor y.desc).map (fun d => d.parameters.length) = some n)
    (hM : Met l y (.code y bytes maxL ret :: TB) rm (pRO (.ref b :: As) D cI cB cZ wc) (qRO v E) 0 0 (fun _ => False)) (hrm : rm.cells = 0 ∧ rm.slots = 0) (hR : rm.frames + 1 ≤ R.frames ∧ 8 + (maxL + 11) + rm.locals ≤ R.locals)
    (hK : KK D cI cB cZ s) (hP : va_P D vwCl ws H) (is : List Nat) (hC : is.filterMap (fun i => ws[i]?) = wc) (q0 : Nat) (he : ws[q0]? = some (b, .inr (ci, fs))) (hc : vwCl[ci]? = some (C, T, N))
    (hn : As.length = n) (hsize : ls.size = nL) (hst : st0 = As.reverse ++ .ref b :: rest) (hW : (rest.map fun v => v.category).sum ≤ 8) (hcs : cells ≤ R.cells ∧ slots ≤ R.slots) (hdg : decode cc pc = .ok (.invokevirtual index, 3))
    (kk : E → W p l e R s m args below meth c H locs cells slots Q (F0 m (pc + 3) ls (v.toList ++ rest))) : W p l e R s m args below meth c H locs cells slots Q (F0 m pc ls st0) := by
  subst hst
  subst hC
  exact cRO (va_runV (As := As) (rest := rest) S hM (cwV n S.2.2.2.2 hG rfl hrm.1 hrm.2 hd hR) ⟨pRO_blind, va_recv hK.1 hP hc he, fun U hU hW => ⟨rfl, by rw [hU]; exact hP.sub is rfl, hK.warm hW⟩⟩ rfl hn hsize rfl (lv_room hW) hdg hcs) kk
theorem rS_RO (S : CallFix p m c cc nL s args TB own) (hG : GoodIn TB (va_wsS own index y (.code y bytes maxL ret :: TB))) (hd : y.cls ≠ "java/lang/invoke/MethodHandle" ∧ y.cls ≠ "java/lang/invoke/VarHandle" ∧ (parseMethodDescriptor y.desc).map (fun d => d.parameters.length) = some n)
    (hM : Met l y (.code y bytes maxL ret :: TB) rm (pRO As D cI cB cZ wc) (qRO v E) 0 0 (fun _ => False)) (hrm : rm.cells = 0 ∧ rm.slots = 0) (hR : rm.frames + 1 ≤ R.frames ∧ 8 + (maxL + 11) + rm.locals ≤ R.locals)
    (hK : KK D cI cB cZ s) (hP : va_P D vwCl ws H) (is : List Nat) (hC : is.filterMap (fun i => ws[i]?) = wc)
    (hn : As.length = n) (hsize : ls.size = nL) (hst : st0 = As.reverse ++ rest) (hW : (rest.map fun v => v.category).sum ≤ 8) (hcs : cells ≤ R.cells ∧ slots ≤ R.slots) (hdg : decode cc pc = .ok (.invokestatic index, 3))
    (kk : E → W p l e R s m args below meth c H locs cells slots Q (F0 m (pc + 3) ls (v.toList ++ rest))) : W p l e R s m args below meth c H locs cells slots Q (F0 m pc ls st0) := by
  subst hst
  subst hC
  exact cRO (va_runS (As := As) (rest := rest) S hM (va_cwS n S.2.2.2.2 hG rfl hrm.1 hrm.2 hd hR) ⟨pRO_blind, fun U hU hW => ⟨rfl, by rw [hU]; exact hP.sub is rfl, hK.warm hW⟩⟩ rfl hn hsize rfl (lv_room hW) hdg hcs) kk
theorem rSN_RO (S : CallFix p m c cc nL s args TB own) (hl : va_Nw (.methodLinkNest own index y host) s) (hst2 : Cond.static y ∈ TB) (hini : Cond.initialized y.cls ∈ TB) (hcd : Cond.code y bytes maxL ret ∈ TB) (hd : y.cls ≠ "java/lang/invoke/MethodHandle" ∧ y.cls ≠ "java/lang/invoke/VarHandle" ∧ (parseMethodDescriptor y.desc).map (fun d => d.parameters.length) = some n)
    (hM : Met l y (.code y bytes maxL ret :: TB) rm (pRO As D cI cB cZ wc) (qRO v E) 0 0 (fun _ => False)) (hrm : rm.cells = 0 ∧ rm.slots = 0) (hR : rm.frames + 1 ≤ R.frames ∧ 8 + (maxL + 11) + rm.locals ≤ R.locals)
    (hK : KK D cI cB cZ s) (hP : va_P D vwCl ws H) (is : List Nat) (hC : is.filterMap (fun i => ws[i]?) = wc)
    (hn : As.length = n) (hsize : ls.size = nL) (hst : st0 = As.reverse ++ rest) (hW : (rest.map fun v => v.category).sum ≤ 8) (hcs : cells ≤ R.cells ∧ slots ≤ R.slots) (hdg : decode cc pc = .ok (.invokestatic index, 3))
    (kk : E → W p l e R s m args below meth c H locs cells slots Q (F0 m (pc + 3) ls (v.toList ++ rest))) : W p l e R s m args below meth c H locs cells slots Q (F0 m pc ls st0) := by
  subst hst
  subst hC
  have hT := S.2.2.2.2
  exact cRO (va_runSN (As := As) (rest := rest) S hM ⟨va_cnB n hT (gdC hcd) rfl hrm.1 hrm.2 hl (hT _ hini) hd hR, hT _ hst2, trivial⟩ ⟨pRO_blind, fun U hU hW => ⟨rfl, by rw [hU]; exact hP.sub is rfl, hK.warm hW⟩⟩ rfl hn hsize rfl (lv_room hW) hdg hcs) kk
theorem rV_RW (S : CallFix p m c cc nL s args TB own) (hG : GoodIn TB (wsV own index C y (.code y bytes maxL ret :: TB))) (hd : y.cls = C ∧ y.cls ≠ "java/lang/invoke/MethodHandle" ∧ y.cls ≠ "java/lang/invoke/VarHandle" ∧ (parseMethodDescriptor y.desc).map (fun d => d.parameters.length) = some n)
    (hM : Met l y (.code y bytes maxL ret :: TB) rm (pRW (.ref b :: As) D cI cB cZ wc H.size) (qRW v E D wc H.size w1) 0 0 (va_A wc H.size)) (hrm : rm.cells = 0 ∧ rm.slots = 0) (hR : rm.frames + 1 ≤ R.frames ∧ 8 + (maxL + 11) + rm.locals ≤ R.locals)
    (hK : KK D cI cB cZ s) (hA : ∀ q, H0.size ≤ q → A q) (hP : va_P D vwCl ws H) (hD : va_D A ws) (hS : va_S A H0 H locs) (isC isR : List Nat) (hC : isC.map (fun i => ws[i]?) = wc.map some) (hCn : va_nd isC = true) (hRr : isR.map (fun i => ws[i]?) = wr.map some) (hnr : va_nd isR = true) (hdis : ∀ i ∈ isR, i ∉ isC) (pm : List Nat) (hp : pm.map (fun i => (wr ++ w1)[i]?) = w2.map some) (hpn : va_nd pm = true)
    (q0 : Nat) (he : ws[q0]? = some (b, .inr (ci, fs))) (hc : vwCl[ci]? = some (C, T, N))
    (hn : As.length = n) (hsize : ls.size = nL) (hst : st0 = As.reverse ++ .ref b :: rest) (hW : (rest.map fun v => v.category).sum ≤ 8) (hcs : cells ≤ R.cells ∧ slots ≤ R.slots) (hdg : decode cc pc = .ok (.invokevirtual index, 3))
    (kk : ∀ (H1 : Heap) (locs1 : List Loc), va_P D vwCl w2 H1 → va_D A w2 → va_S A H0 H1 locs1 → E → W p l e R s m args below meth c H1 locs1 cells slots Q (F0 m (pc + 3) ls (v.toList ++ rest))) : W p l e R s m args below meth c H locs cells slots Q (F0 m pc ls st0) := by
  subst hst
  exact cRW (va_runV (As := As) (rest := rest) S hM (cwV n S.2.2.2.2 hG rfl hrm.1 hrm.2 hd hR) ⟨pRW_blind, va_recv hK.1 hP hc he, fun U hU hW => ⟨rfl, by rw [hU], by rw [hU]; exact hP.sub isC (fm_of_map hC), hK.warm hW, (hD.sub isC hCn hC).weaken (fun _ _ _ _ => trivial)⟩⟩ rfl hn hsize rfl (lv_room hW) hdg hcs) hA hP hD hS isC isR hC hRr hnr hdis pm hp hpn kk
theorem rS_RW (S : CallFix p m c cc nL s args TB own) (hG : GoodIn TB (va_wsS own index y (.code y bytes maxL ret :: TB))) (hd : y.cls ≠ "java/lang/invoke/MethodHandle" ∧ y.cls ≠ "java/lang/invoke/VarHandle" ∧ (parseMethodDescriptor y.desc).map (fun d => d.parameters.length) = some n)
    (hM : Met l y (.code y bytes maxL ret :: TB) rm (pRW As D cI cB cZ wc H.size) (qRW v E D wc H.size w1) 0 0 (va_A wc H.size)) (hrm : rm.cells = 0 ∧ rm.slots = 0) (hR : rm.frames + 1 ≤ R.frames ∧ 8 + (maxL + 11) + rm.locals ≤ R.locals)
    (hK : KK D cI cB cZ s) (hA : ∀ q, H0.size ≤ q → A q) (hP : va_P D vwCl ws H) (hD : va_D A ws) (hS : va_S A H0 H locs) (isC isR : List Nat) (hC : isC.map (fun i => ws[i]?) = wc.map some) (hCn : va_nd isC = true) (hRr : isR.map (fun i => ws[i]?) = wr.map some) (hnr : va_nd isR = true) (hdis : ∀ i ∈ isR, i ∉ isC) (pm : List Nat) (hp : pm.map (fun i => (wr ++ w1)[i]?) = w2.map some) (hpn : va_nd pm = true)
    (hn : As.length = n) (hsize : ls.size = nL) (hst : st0 = As.reverse ++ rest) (hW : (rest.map fun v => v.category).sum ≤ 8) (hcs : cells ≤ R.cells ∧ slots ≤ R.slots) (hdg : decode cc pc = .ok (.invokestatic index, 3))
    (kk : ∀ (H1 : Heap) (locs1 : List Loc), va_P D vwCl w2 H1 → va_D A w2 → va_S A H0 H1 locs1 → E → W p l e R s m args below meth c H1 locs1 cells slots Q (F0 m (pc + 3) ls (v.toList ++ rest))) : W p l e R s m args below meth c H locs cells slots Q (F0 m pc ls st0) := by
  subst hst
  exact cRW (va_runS (As := As) (rest := rest) S hM (va_cwS n S.2.2.2.2 hG rfl hrm.1 hrm.2 hd hR) ⟨pRW_blind, fun U hU hW => ⟨rfl, by rw [hU], by rw [hU]; exact hP.sub isC (fm_of_map hC), hK.warm hW, (hD.sub isC hCn hC).weaken (fun _ _ _ _ => trivial)⟩⟩ rfl hn hsize rfl (lv_room hW) hdg hcs) hA hP hD hS isC isR hC hRr hnr hdis pm hp hpn kk
end BASE
/-! what holds at a method's entry -/
def Cx (p : Program) (s : State) (m : MethodId) (args : Array Value) (c : Code) (cc : ByteArray) (nL : Nat) (own : String) : Prop := CallFix p m c cc nL s args TB own
theorem mkRO {l : Launch} {y : MethodName} {cc : ByteArray} {maxL : Nat} {ret : Option FieldType} {av : List Value} {v : Option Value} {E : Prop} {rm : Room} {D : va_G} {cI cB cZ : ClassId} {ws : va_W} (hy : plainName y.cls = true) (hsl : (lg_sl av).length ≤ maxL)
    (body : ∀ (p : Program) (e : Env) (s : State) (m : MethodId) (below : List Frame) (meth : Method) (c : Code) (ls : Array Slot), CallFix p m c cc maxL s av.toArray TB y.cls → meth.sig.returnType = ret → meth.locks = false → KK D cI cB cZ s → va_P D vwCl ws s.heap → lv_has ls maxL (lv_args 0 av) →
      W p l e rm s m av.toArray below meth c s.heap [] 0 0 (MQ below (qRO v E) av.toArray s 0 0 (fun _ => False)) (F0 m 0 ls [])) : Met l y (.code y cc maxL ret :: TB) rm (pRO av D cI cB cZ ws) (qRO v E) 0 0 (fun _ => False) := by
  refine Met.ofW (cc := cc) (maxL := maxL) (ret := ret) hy rfl ?_
  intro p e s m args below meth c s₁ B hml hv
  obtain ⟨rfl, hP, hK⟩ := hv
  have hts := atoms_spec (ws := .code y cc maxL ret :: TB) B.pre
  rw [lg_entry_eq]
  exact body p e s m below meth c _ ⟨B.exec, B.bytes, hml, findClass_of_methodNamed B.named, fun w h => hts w (List.mem_cons_of_mem _ h)⟩ B.returns B.notSynchronized hK hP (lv_entry av hsl)
theorem mkRW {l : Launch} {y : MethodName} {cc : ByteArray} {maxL : Nat} {ret : Option FieldType} {av : List Value} {v : Option Value} {E : Prop} {rm : Room} {D : va_G} {cI cB cZ : ClassId} {ws w1 : va_W} {sz : Nat} (hy : plainName y.cls = true) (hsl : (lg_sl av).length ≤ maxL)
    (body : ∀ (p : Program) (e : Env) (s : State) (m : MethodId) (below : List Frame) (meth : Method) (c : Code) (ls : Array Slot) (A : Nat → Prop), va_A ws s.heap.size = A → CallFix p m c cc maxL s av.toArray TB y.cls → meth.sig.returnType = ret → meth.locks = false → KK D cI cB cZ s → (∀ q : Nat, s.heap.size ≤ q → A q) → va_P D vwCl ws s.heap → va_D A ws → va_S A s.heap s.heap [] → lv_has ls maxL (lv_args 0 av) →
      W p l e rm s m av.toArray below meth c s.heap [] 0 0 (MQ below (qRW v E D ws s.heap.size w1) av.toArray s 0 0 A) (F0 m 0 ls [])) : Met l y (.code y cc maxL ret :: TB) rm (pRW av D cI cB cZ ws sz) (qRW v E D ws sz w1) 0 0 (va_A ws sz) := by
  refine Met.ofW (cc := cc) (maxL := maxL) (ret := ret) hy rfl ?_
  intro p e s m args below meth c s₁ B hml hv
  obtain ⟨rfl, hsz, hP, hK, hD0⟩ := hv
  subst hsz
  have hts := atoms_spec (ws := .code y cc maxL ret :: TB) B.pre
  rw [lg_entry_eq]
  exact body p e s m below meth c _ _ rfl ⟨B.exec, B.bytes, hml, findClass_of_methodNamed B.named, fun w h => hts w (List.mem_cons_of_mem _ h)⟩ B.returns B.notSynchronized hK (fun q h => Or.inr h) hP (hD0.self) va_S.rf (lv_entry av hsl)
section RETS
variable {p : Program} {l : Launch} {e : Env} {R : Room} {s : State} {m : MethodId} {args : Array Value} {below : List Frame} {meth : Method} {c : Code} {H : Heap} {locs : List Loc} {A : Nat → Prop} {D : va_G} {ws w1 : va_W} {E : Prop} {cc : ByteArray} {pc : Nat} {ls : Array Slot}
theorem nz_ok {r : Int32} (h : r = 0 ∨ r = 1) : narrow .boolean (.int r) = .int r := by rcases h with rfl | rfl <;> rfl
theorem eRO_i {ty : FieldType} {r : Int32} (hx : p.tables.exec = Jvm.exec) (hb : c.code = cc) (hr : meth.sig.returnType = some ty) (hn : narrow ty (.int r) = .int r) (hlocks : meth.locks = false) (hE : E) (hdg : decode cc pc = .ok (.ireturn, 1)) : W p l e R s m args below meth c s.heap [] 0 0 (MQ below (qRO (some (.int r)) E) args s 0 0 (fun _ => False)) (F0 m pc ls [.int r]) :=
  W.zret (ty := ty) hx hb hr hn (fun t ht _ => ⟨rfl, ht, hE⟩) (fun q h => by cases h) hdg hlocks
theorem eRO_l {r : Int64} (hx : p.tables.exec = Jvm.exec) (hb : c.code = cc) (hr : meth.sig.returnType = some .long) (hlocks : meth.locks = false) (hE : E) (hdg : decode cc pc = .ok (.lreturn, 1)) : W p l e R s m args below meth c s.heap [] 0 0 (MQ below (qRO (some (.long r)) E) args s 0 0 (fun _ => False)) (F0 m pc ls [.long r]) :=
  W.lret hx hb hr (fun t ht _ => ⟨rfl, ht, hE⟩) (fun q h => by cases h) hdg hlocks
theorem eRW_i {ty : FieldType} {r : Int32} (hx : p.tables.exec = Jvm.exec) (hb : c.code = cc) (hr : meth.sig.returnType = some ty) (hn : narrow ty (.int r) = .int r) (hlocks : meth.locks = false) (hAe : va_A ws s.heap.size = A) (hP : va_P D vwCl w1 H) (hD : va_D A w1) (hS : va_S A s.heap H locs) (hE : E) (hdg : decode cc pc = .ok (.ireturn, 1)) : W p l e R s m args below meth c H locs 0 0 (MQ below (qRW (some (.int r)) E D ws s.heap.size w1) args s 0 0 A) (F0 m pc ls [.int r]) := by
  subst hAe
  exact W.zret (ty := ty) hx hb hr hn (fun t ht _ => ⟨rfl, by rw [ht]; exact hP, hD, hS.F ht, hE⟩) hS.2.2 hdg hlocks
theorem eRW_v (hx : p.tables.exec = Jvm.exec) (hb : c.code = cc) (hr : meth.sig.returnType = none) (hlocks : meth.locks = false) (hAe : va_A ws s.heap.size = A) (hP : va_P D vwCl w1 H) (hD : va_D A w1) (hS : va_S A s.heap H locs) (hE : E) (hdg : decode cc pc = .ok (.return_, 1)) : W p l e R s m args below meth c H locs 0 0 (MQ below (qRW none E D ws s.heap.size w1) args s 0 0 A) (F0 m pc ls []) := by
  subst hAe
  exact W.vret hx hb hr (fun t ht _ => ⟨rfl, by rw [ht]; exact hP, hD, hS.F ht, hE⟩) hS.2.2 hdg hlocks
end RETS
