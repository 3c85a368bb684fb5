/-! contracts of methods that ask with texts -/
def pROs (av : List Value) (D : va_G) (cI cB cZ : ClassId) (ws : va_W) (adK adV : Nat → Nat) (A : Nat → Prop) : Array Value → State → Prop := va_Pc av (fun U => va_P D vwCl ws U.heap ∧ KK D cI cB cZ U ∧ SK adK adV A U)
def pRWs (av : List Value) (D : va_G) (cI cB cZ : ClassId) (ws : va_W) (sz : Nat) (adK adV : Nat → Nat) : Array Value → State → Prop := va_Pc av (fun U => U.heap.size = sz ∧ va_P D vwCl ws U.heap ∧ KK D cI cB cZ U ∧ va_D (fun _ => True) ws ∧ SK adK adV (va_A ws sz) U)
theorem pROs_blind {av : List Value} {D : va_G} {cI cB cZ : ClassId} {ws : va_W} {adK adV : Nat → Nat} {A : Nat → Prop} : FrameBlind (pROs av D cI cB cZ ws adK adV A) := fun a U g mk q => by
  obtain ⟨q0, qP, qK, qZ⟩ := q
  exact ⟨q0, qP, qK.calls, qZ.calls⟩
theorem pRWs_blind {av : List Value} {D : va_G} {cI cB cZ : ClassId} {ws : va_W} {sz : Nat} {adK adV : Nat → Nat} : FrameBlind (pRWs av D cI cB cZ ws sz adK adV) := fun a U g mk q => by
  obtain ⟨q0, q1, qP, qK, qD, qZ⟩ := q
  exact ⟨q0, q1, qP, qK.calls, qD, qZ.calls⟩
section BASE2
variable {p : Program} {l : Launch} {e : Env} {R : Room} {s : State} {m : MethodId} {args : Array Value} {below : List Frame} {meth : Method} {c : Code} {H : Heap} {locs : List Loc} {cells slots : Nat} {Q : State → Prop}
variable {pc : Nat} {ls : Array Slot} {rest st0 As : List Value} {A : Nat → Prop} {D : va_G} {cI cB cZ : ClassId} {ws wc wr w1 w2 : va_W} {v : Option Value} {E : Prop} {adK adV : Nat → Nat}
variable {own C host : String} {index n maxL nL ci b N : Nat} {T : u_T} {fs : List Value} {y : MethodName} {bytes cc : ByteArray} {ret : Option FieldType} {rm : Room}
theorem rV_ROs (S : CallFix p m c cc nL s args TB own) (hG : GoodIn TB (wsV own index C y (.code y bytes maxL ret :: TB))) (hd : y.cls = C ∧ y.cls ≠ "java/lang/invoke/MethodHandle" ∧ y.cls ≠ "java/lang/invoke/VarHandle" ∧ (parseMethodDescriptor y.desc).map (fun d => d.parameters.length) = some n)
    (hM : Met l y (.code y bytes maxL ret :: TB) rm (pROs (.ref b :: As) D cI cB cZ wc adK adV A) (qRO v E) 0 0 (fun _ => False)) (hrm : rm.cells = 0 ∧ rm.slots = 0) (hR : rm.frames + 1 ≤ R.frames ∧ 8 + (maxL + 11) + rm.locals ≤ R.locals)
    (hZ : SK adK adV A s) (hS : va_S A s.heap H locs) (hK : KK D cI cB cZ s) (hP : va_P D vwCl ws H) (is : List Nat) (hC : is.filterMap (fun i => ws[i]?) = wc) (q0 : Nat) (he : ws[q0]? = some (b, .inr (ci, fs))) (hc : vwCl[ci]? = some (C, T, N))
    (hn : As.length = n) (hsize : ls.size = nL) (hst : st0 = As.reverse ++ .ref b :: rest) (hW : (rest.map fun v => v.category).sum ≤ 8) (hcs : cells ≤ R.cells ∧ slots ≤ R.slots) (hdg : decode cc pc = .ok (.invokevirtual index, 3))
    (kk : E → W p l e R s m args below meth c H locs cells slots Q (F0 m (pc + 3) ls (v.toList ++ rest))) : W p l e R s m args below meth c H locs cells slots Q (F0 m pc ls st0) := by
  subst hst
  subst hC
  exact cRO (va_runV (As := As) (rest := rest) S hM (cwV n S.2.2.2.2 hG rfl hrm.1 hrm.2 hd hR) ⟨pROs_blind, va_recv hK.1 hP hc he, fun U hU hW => ⟨rfl, by rw [hU]; exact hP.sub is rfl, hK.warm hW, hZ.call hS (fun _ h => h) hU hW⟩⟩ rfl hn hsize rfl (lv_room hW) hdg hcs) kk
theorem rV_RWs (S : CallFix p m c cc nL s args TB own) (hG : GoodIn TB (wsV own index C y (.code y bytes maxL ret :: TB))) (hd : y.cls = C ∧ y.cls ≠ "java/lang/invoke/MethodHandle" ∧ y.cls ≠ "java/lang/invoke/VarHandle" ∧ (parseMethodDescriptor y.desc).map (fun d => d.parameters.length) = some n)
    (hM : Met l y (.code y bytes maxL ret :: TB) rm (pRWs (.ref b :: As) D cI cB cZ wc H.size adK adV) (qRW v E D wc H.size w1) 0 0 (va_A wc H.size)) (hrm : rm.cells = 0 ∧ rm.slots = 0) (hR : rm.frames + 1 ≤ R.frames ∧ 8 + (maxL + 11) + rm.locals ≤ R.locals)
    (hZ : SK adK adV A s) (hK : KK D cI cB cZ s) (hA : ∀ q, s.heap.size ≤ q → A q) (hP : va_P D vwCl ws H) (hD : va_D A ws) (hS : va_S A s.heap H locs) (isC isR : List Nat) (hC : isC.map (fun i => ws[i]?) = wc.map some) (hCn : va_nd isC = true) (hRr : isR.map (fun i => ws[i]?) = wr.map some) (hnr : va_nd isR = true) (hdis : ∀ i ∈ isR, i ∉ isC) (pm : List Nat) (hp : pm.map (fun i => (wr ++ w1)[i]?) = w2.map some) (hpn : va_nd pm = true)
    (q0 : Nat) (he : ws[q0]? = some (b, .inr (ci, fs))) (hc : vwCl[ci]? = some (C, T, N))
    (hn : As.length = n) (hsize : ls.size = nL) (hst : st0 = As.reverse ++ .ref b :: rest) (hW : (rest.map fun v => v.category).sum ≤ 8) (hcs : cells ≤ R.cells ∧ slots ≤ R.slots) (hdg : decode cc pc = .ok (.invokevirtual index, 3))
    (kk : ∀ (H1 : Heap) (locs1 : List Loc), va_P D vwCl w2 H1 → va_D A w2 → va_S A s.heap H1 locs1 → E → W p l e R s m args below meth c H1 locs1 cells slots Q (F0 m (pc + 3) ls (v.toList ++ rest))) : W p l e R s m args below meth c H locs cells slots Q (F0 m pc ls st0) := by
  subst hst
  exact cRW (va_runV (As := As) (rest := rest) S hM (cwV n S.2.2.2.2 hG rfl hrm.1 hrm.2 hd hR) ⟨pRWs_blind, va_recv hK.1 hP hc he, fun U hU hW => ⟨rfl, by rw [hU], by rw [hU]; exact hP.sub isC (fm_of_map hC), hK.warm hW, (hD.sub isC hCn hC).weaken (fun _ _ _ _ => trivial), hZ.call hS (va_free hD hS hA isC hC) hU hW⟩⟩ rfl hn hsize rfl (lv_room hW) hdg hcs) hA hP hD hS isC isR hC hRr hnr hdis pm hp hpn kk
end BASE2
theorem mkROs {l : Launch} {y : MethodName} {cc : ByteArray} {maxL : Nat} {ret : Option FieldType} {av : List Value} {v : Option Value} {E : Prop} {rm : Room} {D : va_G} {cI cB cZ : ClassId} {ws : va_W} {adK adV : Nat → Nat} {A : Nat → Prop} (hy : plainName y.cls = true) (hsl : (lg_sl av).length ≤ maxL)
    (body : ∀ (p : Program) (e : Env) (s : State) (m : MethodId) (below : List Frame) (meth : Method) (c : Code) (ls : Array Slot), CallFix p m c cc maxL s av.toArray TB y.cls → meth.sig.returnType = ret → meth.locks = false → KK D cI cB cZ s → va_P D vwCl ws s.heap → SK adK adV A s → lv_has ls maxL (lv_args 0 av) →
      W p l e rm s m av.toArray below meth c s.heap [] 0 0 (MQ below (qRO v E) av.toArray s 0 0 (fun _ => False)) (F0 m 0 ls [])) : Met l y (.code y cc maxL ret :: TB) rm (pROs av D cI cB cZ ws adK adV A) (qRO v E) 0 0 (fun _ => False) := by
  refine Met.ofW (cc := cc) (maxL := maxL) (ret := ret) hy rfl ?_
  intro p e s m args below meth c s₁ B hml hv
  obtain ⟨rfl, hP, hK, hZ⟩ := hv
  have hts := atoms_spec (ws := .code y cc maxL ret :: TB) B.pre
  rw [lg_entry_eq]
  exact body p e s m below meth c _ ⟨B.exec, B.bytes, hml, findClass_of_methodNamed B.named, fun w h => hts w (List.mem_cons_of_mem _ h)⟩ B.returns B.notSynchronized hK hP hZ (lv_entry av hsl)
theorem mkRWs {l : Launch} {y : MethodName} {cc : ByteArray} {maxL : Nat} {ret : Option FieldType} {av : List Value} {v : Option Value} {E : Prop} {rm : Room} {D : va_G} {cI cB cZ : ClassId} {ws w1 : va_W} {sz : Nat} {adK adV : Nat → Nat} (hy : plainName y.cls = true) (hsl : (lg_sl av).length ≤ maxL)
    (body : ∀ (p : Program) (e : Env) (s : State) (m : MethodId) (below : List Frame) (meth : Method) (c : Code) (ls : Array Slot) (A : Nat → Prop), va_A ws s.heap.size = A → CallFix p m c cc maxL s av.toArray TB y.cls → meth.sig.returnType = ret → meth.locks = false → KK D cI cB cZ s → (∀ q : Nat, s.heap.size ≤ q → A q) → va_P D vwCl ws s.heap → va_D A ws → va_S A s.heap s.heap [] → SK adK adV A s → lv_has ls maxL (lv_args 0 av) →
      W p l e rm s m av.toArray below meth c s.heap [] 0 0 (MQ below (qRW v E D ws s.heap.size w1) av.toArray s 0 0 A) (F0 m 0 ls [])) : Met l y (.code y cc maxL ret :: TB) rm (pRWs av D cI cB cZ ws sz adK adV) (qRW v E D ws sz w1) 0 0 (va_A ws sz) := by
  refine Met.ofW (cc := cc) (maxL := maxL) (ret := ret) hy rfl ?_
  intro p e s m args below meth c s₁ B hml hv
  obtain ⟨rfl, hsz, hP, hK, hD0, hZ⟩ := hv
  subst hsz
  have hts := atoms_spec (ws := .code y cc maxL ret :: TB) B.pre
  rw [lg_entry_eq]
  exact body p e s m below meth c _ _ rfl ⟨B.exec, B.bytes, hml, findClass_of_methodNamed B.named, fun w h => hts w (List.mem_cons_of_mem _ h)⟩ B.returns B.notSynchronized hK (fun q h => Or.inr h) hP (hD0.self) va_S.rf hZ (lv_entry av hsl)
