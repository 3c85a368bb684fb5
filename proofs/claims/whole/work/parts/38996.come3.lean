section
/-! one comes, in both -/
theorem bnd3 {α β β' γ δ : Type} (A : Option α) (B : α → Option β) (C : α → β → Option γ) (g : β → β') (D : γ → β' → α → Option δ) : A.bind (fun z3 => (B z3).bind (fun z12 => (C z3 z12).bind (fun z15 => D z15 (g z12) z3))) = (A.bind (fun z3 => (B z3).bind (fun z12 => (C z3 z12).bind (fun z15 => some (z15, g z12, z3))))).bind (fun q => D q.1 q.2.1 q.2.2) := by
  cases A with
  | none => rfl
  | some a =>
    rw [bs, bs]
    cases B a with
    | none => rfl
    | some b =>
      rw [bs, bs]
      cases C a b with
      | none => rfl
      | some c => rfl
theorem sits_eq {clauses ls cn m : Int32} {now codes clauseOf ch ct' sm fm : Nat → Int32} {p : Int32} : f_X12_sits clauses ls cn now codes clauseOf ch ct' sm fm m p = ((f_X12_feelsPew now fm m p).bind (fun z3 => (f_X12_holdsAny clauses codes clauseOf ch ct' sm z3 111).bind (fun z12 => (f_X12_seatIn now p m z12.1).bind (fun z15 => some (z15, z12.2, z3))))).bind (fun q => f_X12_sits_25 clauses codes clauseOf ch ct' FU m q.1 (9 * p) ls cn now q.2.1 q.2.2) := by
  unfold f_X12_sits
  exact bnd3 (f_X12_feelsPew now fm m p) (fun z3 => f_X12_holdsAny clauses codes clauseOf ch ct' sm z3 111) (fun _ z12 => f_X12_seatIn now p m z12.1) (fun z => z.2) (fun a b c => f_X12_sits_25 clauses codes clauseOf ch ct' FU m a (9 * p) ls cn now b c)
theorem tail2 {gu nu co li n2 deeds values kinds ss ts te codes clauseOf cf ch ct' fx fm : Nat → Int32} {rules clauses : Int32} (hL : LwR deeds values kinds ss ts te rules codes clauseOf cf ch ct' clauses) {w j : Nat} {ar st cl d cn c0 : Int32} (hw : w ≤ 200) (hC : ChI gu nu co li w j ar st cl d n2 cn c0) {x m f v : Int32} (hg : GR x m) (hf : faM m = f) (hF : FR fx fm) (hv : goodP gu co f v) (sx sm : Nat → Int32) (sn ls : Int32) :
    T2 (f_X10_leadOne_60 co rules deeds values kinds ss ts te x f v fx ar st cl d gu nu sx) (f_X12_oneComes_139 clauses codes clauseOf cf ch ct' m v sn ls cn n2 sm fm)
      (fun a b => a.1 = b.2.1 ∧ ChI a.2.2.2.2.2.2.1 a.2.2.2.2.2.2.2.1 co li w j a.2.2.1 a.2.2.2.1 a.2.2.2.2.1 a.2.2.2.2.2.1 b.2.2.2.1 b.2.2.1 c0 ∧ ∀ s0 : Int32, st = s0 + sn → a.2.2.2.1 = s0 + b.1) := by
  obtain ⟨hA, hn, hc, ⟨h632, hl⟩, har, hst, ⟨hc0, hcl⟩, hdr⟩ := hC
  unfold f_X10_leadOne_60 f_X12_oneComes_139
  rcases hv with hv | ⟨b, hb, hv, hh⟩
  · rw [if_pos hv, if_pos hv]
    unfold f_X10_leadOne_83 f_X10_leadOne_112 f_X12_oneComes_188
    rw [if_pos rfl, ixq 637 634 (by decide), ixq 637 634 (by decide), ixq 637 633 (by decide), ixq 637 633 (by decide)]
    refine T2.ret ⟨rfl, ⟨?_, ?_, ?_, ⟨?_, ?_⟩, ?_, ?_, ⟨?_, ?_⟩, ?_⟩, ?_⟩
    all_goals simp only [show (634 : Int32).toNatClampNeg = 634 from rfl, show (633 : Int32).toNatClampNeg = 633 from rfl]
    · intro k hk
      rw [upd_n (by omega), upd_n (by omega)]; exact hA k hk
    · intro k hk
      rw [upd_n (by omega), upd_n (by omega)]; exact hn k hk
    · intro k hk
      rw [upd_n (by omega), upd_n (by omega)]; exact hc k hk
    · rw [upd_n (by decide), upd_n (by decide)]; exact h632
    · intro k hk
      rw [upd_n (by omega), upd_n (by omega)]; exact hl k hk
    · rw [upd_s, upd_n (by decide), har]
    · rw [upd_n (by decide), upd_s, hst]
    · rw [upd_n (by decide), upd_n (by decide)]; exact hc0
    · exact hcl
    · rw [upd_n (by decide), upd_n (by decide)]; exact hdr
    · intro s0 h0
      rw [h0, Int32.add_assoc]
  · rw [hv, if_neg (nI_nm1 (by omega)), if_neg (nI_nm1 (by omega)), sits_eq, Option.bind_assoc]
    refine T2.bind (seatc hL hA hc hf hF sx sm hb hh) (fun a q hq => ?_)
    obtain ⟨q1, ⟨i, hi, q2, q3⟩, q4⟩ := hq
    rw [← q1, q2, m9'', sits25 n2 q.2.1 q.2.2 m ls cn hb hi, bs]
    unfold f_X10_leadOne_83
    rw [if_neg (nI_nm2 (by omega))]
    unfold f_X0_sitDown
    rw [isSeat_eq, (wi1 (n := 143) (j := 9 * b + i) (by omega) (by decide)).1, bs, if_neg i10, aisle gu hb hi, bs, ixn (by omega) (by decide), ixn (by omega) (by decide), bs, nI_clamp (by omega)]
    unfold f_X10_leadOne_112 f_X12_oneComes_188
    rw [ixq 637 633 (by decide), ixq 637 633 (by decide)]
    refine T2.ret ⟨rfl, ⟨?_, ?_, ?_, ⟨?_, ?_⟩, ?_, ?_, ⟨?_, ?_⟩, ?_⟩, ?_⟩
    all_goals simp only [show (633 : Int32).toNatClampNeg = 633 from rfl]
    · intro k hk
      rw [upd_n (show k ≠ 633 by omega), upd_n (show k ≠ 144 + (9 * b + i) by omega)]
      by_cases e : k = 9 * b + i
      · rw [e, upd_s, upd_s]; exact Or.inr hg
      · rw [upd_n e, upd_n e]; exact hA k hk
    · intro k hk
      rw [upd_n (show 144 + k ≠ 633 by omega)]
      by_cases e : k = 9 * b + i
      · rw [e, upd_s, upd_s]; exact har
      · rw [upd_n e, upd_n (by omega), upd_n (by omega)]; exact hn k hk
    · intro k hk
      rw [upd_n (by omega), upd_n (by omega), upd_n (by omega)]; exact hc k hk
    · rw [upd_n (by decide), upd_n (by omega), upd_n (by omega)]; exact h632
    · intro k hk
      rw [upd_n (by omega), upd_n (by omega), upd_n (by omega)]; exact hl k hk
    · rw [upd_s, upd_n (by omega), upd_n (by omega), har]
    · rw [upd_n (by decide), upd_n (by omega), upd_n (by omega)]; exact hst
    · rw [upd_n (by decide), upd_n (by omega), upd_n (by omega)]; exact hc0
    · rw [hcl, Al_ct hA (show 9 * b + i ≤ 144 by omega), Int32.add_assoc]
    · rw [upd_n (by decide), upd_n (by omega), upd_n (by omega)]; exact hdr
    · intro s0 h0
      exact h0
theorem one2 {gu nu co li now deeds values kinds ss ts te codes clauseOf cf ch ct' : Nat → Int32} {rules clauses : Int32} (hL : LwR deeds values kinds ss ts te rules codes clauseOf cf ch ct' clauses) {w i : Nat} {ar st cl dr cn c0 : Int32} (hC : ChI gu nu co li w i ar st cl dr now cn c0) (hi : i < w) (hw : w ≤ 200) (fx fm sx sm : Nat → Int32) (sn ls : Int32) :
    T2 (f_X10_leadOne fx ar st cl dr gu nu co rules deeds values kinds ss ts te sx (li i)) (f_X12_oneComes clauses sn ls cn now codes clauseOf cf ch ct' sm fm)
      (fun a b => a.1 = b.2.1 ∧ ChI a.2.2.2.2.2.2.1 a.2.2.2.2.2.2.2.1 co li w (i + 1) a.2.2.1 a.2.2.2.1 a.2.2.2.2.1 a.2.2.2.2.2.1 b.2.2.2.1 b.2.2.1 c0 ∧ ∀ s0 : Int32, st = s0 + sn → a.2.2.2.1 = s0 + b.1) := by
  obtain ⟨hA, hn, hc, ⟨h632, hl⟩, har, hst, hc0, hdr⟩ := hC
  have hg : GR (li i) (now 432) := hl 0 (by omega)
  obtain ⟨s, f, hh, c, ii, _, _, _, _, _, ⟨_, a2, _⟩, ⟨_, b2, _⟩, _⟩ := hg.dec
  have hf : faM (now 432) = nI f := Option.some.inj b2
  obtain ⟨F, now', e, p1, p2⟩ := shift (clauses := clauses) (codes := codes) (clauseOf := clauseOf) (cf := cf) (ch := ch) (ct' := ct') now sm fm (now 432) sn ls cn (show 1 ≤ w - i by omega) (by omega) h632
  unfold f_X12_oneComes
  rw [ixq 637 432 (by decide), show now (432 : Int32).toNatClampNeg = now 432 from rfl, e, f_X12_oneComes_11, ixq 637 632 (by decide), show now' (632 : Int32).toNatClampNeg = nI (w - i) by rw [← h632]; exact p1 632 (by omega), if_pos (nI_le (Nat.le_refl _) (by omega)), ixq 637 632 (by decide), ixq 637 632 (by decide), show nI (w - i) - 1 = nI (w - (i + 1)) by rw [show w - i = (w - (i + 1)) + 1 by omega]; exact nI_pred _, show (632 : Int32).toNatClampNeg = 632 from rfl, show (636 : Int32).toNatClampNeg = 636 from rfl]
  generalize hn1 : upd now' 632 (nI (w - (i + 1))) = n1
  have q1 : ∀ k : Nat, k < 432 ∨ 633 ≤ k → n1 k = now k := fun k hk => by rw [← hn1, upd_n (by omega)]; exact p1 k (by omega)
  have q2 : n1 632 = nI (w - (i + 1)) := by rw [← hn1, upd_s]
  have q3 : ∀ k : Nat, k < w - (i + 1) → n1 (432 + k) = now (432 + (k + 1)) := fun k hk => by rw [← hn1, upd_n (by omega)]; exact p2 k (by omega)
  rw [q1 636 (by omega), ← hdr]
  generalize hd : jrem (25173 * dr + 13849) 65536 = d
  generalize hn2 : upd n1 636 d = n2
  have r1 : ∀ k : Nat, k < 432 ∨ (633 ≤ k ∧ k ≠ 636) → n2 k = now k := fun k hk => by rw [← hn2, upd_n (by omega)]; exact q1 k (by omega)
  have hA1 : Al gu n1 := fun k hk => by rw [q1 k (by omega)]; exact hA k hk
  have hC2 : ChI gu nu co li w (i + 1) ar st cl d n2 cn c0 := by
    refine ⟨fun k hk => ?_, fun k hk => ?_, fun k hk => ?_, ⟨?_, fun k hk => ?_⟩, ?_, ?_, ⟨?_, ?_⟩, ?_⟩
    · rw [r1 k (by omega)]; exact hA k hk
    · rw [r1 _ (by omega)]; exact hn k hk
    · rw [r1 _ (by omega)]; exact hc k hk
    · rw [← hn2, upd_n (by decide)]; exact q2
    · rw [← hn2, upd_n (by omega), q3 k hk, show i + 1 + k = i + (k + 1) by omega]; exact hl (k + 1) (by omega)
    · rw [r1 633 (by omega)]; exact har
    · rw [r1 634 (by omega)]; exact hst
    · rw [r1 635 (by omega)]; exact hc0.1
    · exact hc0.2
    · rw [← hn2, upd_s]
  have h636 : n2 636 = d := hC2.2.2.2.2.2.2.2.symm
  unfold f_X10_leadOne f_X0_draw
  rw [a2, bs]
  refine T2.bind (guest2 hA1 (show ar = n1 633 by rw [q1 633 (by omega)]; exact har) hg fx fm) (fun x9 y9 hF => ?_)
  rw [bs, hd]
  refine T2.bind (worth2 hL hF (Or.inr ⟨rfl, rfl⟩) (by decide) sx sm) (fun x24 y24 hxy => ?_)
  rw [ixq 637 636 (by decide), ixq 637 636 (by decide), ixq 637 636 (by decide), h636, ← hxy]
  unfold f_X10_leadOne_35
  by_cases cc : x24.1 ≤ jrem d 10
  · rw [if_pos cc, if_pos cc, if_pos rfl]
    refine T2.bind (fitc hL hC2.1 hC2.2.2.1 hf hF x24.2 y24.2) (fun a b hab => ?_)
    rw [← hab.1]
    exact tail2 hL hw hC2 hg hf hab.2.2 hab.2.1 _ _ sn ls
  · rw [if_neg cc, if_neg cc, if_neg i10]
    refine T2.bind (empt2 hC2.1 hC2.2.2.1 hf) (fun a b hab => ?_)
    rw [← hab.1]
    exact tail2 hL hw hC2 hg hf hF hab.2 _ _ sn ls
theorem leave1 (li : Nat → Int32) {w n : Nat} (hn : n ≤ w) (hw : w ≤ 200) : ∃ li', f_X0_leaveLine (nI w) li (nI n) = some (nI (w - n), li') ∧ ∀ k : Nat, k < w - n → li' k = li (n + k) := by
  unfold f_X0_leaveLine
  by_cases h0 : n = 0
  · rw [h0, if_pos (show nI 0 ≤ 0 by decide)]
    exact ⟨li, rfl, fun k _ => by rw [Nat.zero_add]⟩
  · rw [if_neg (nI_nle (by omega) (by omega)), if_neg (nI_nlt hn (by omega)), if_neg (show ¬ (200 : Int32) < nI w from nI_nlt (a := 200) hw (by decide)), pk_sub hn]
    unfold cpk
    rw [if_pos ⟨nI_pos (by omega), by decide, nI_pos (by omega), by rw [nI_clamp (by omega), nI_clamp (by omega)]; omega, by rw [nI_clamp (by omega)]; show 0 + (w - n) ≤ 200; omega⟩, nI_clamp (by omega), nI_clamp (by omega)]
    refine ⟨_, rfl, fun k hk => ?_⟩
    rw [show (0 : Int32).toNatClampNeg = 0 from rfl, pk_cpy_in (Nat.zero_le _) (by omega)]
    rfl
theorem many2 {gu nu co li now deeds values kinds ss ts te codes clauseOf cf ch ct' : Nat → Int32} {rules clauses : Int32} (hL : LwR deeds values kinds ss ts te rules codes clauseOf cf ch ct' clauses) {wa ar st cl dr : Int32} (hC : ChR gu nu co li wa ar st cl dr now) (lx sn ls cn : Int32) (fx fm sx sm : Nat → Int32) {n : Nat} (hn : n ≤ 200) :
    T2 (f_X10_leadMany lx fx wa ar st cl dr gu nu co li rules deeds values kinds ss ts te sx (nI n)) (f_X12_theyCome clauses sn ls cn now codes clauseOf cf ch ct' sm fm (nI n))
      (fun a b => a.1 = b.2.2.1 ∧ a.2.1 = b.2.1 ∧ ChR a.2.2.2.2.2.2.2.2.1 a.2.2.2.2.2.2.2.2.2.1 co a.2.2.2.2.2.2.2.2.2.2.1 a.2.2.2.1 a.2.2.2.2.1 a.2.2.2.2.2.1 a.2.2.2.2.2.2.1 a.2.2.2.2.2.2.2.1 b.2.2.2.1 ∧ a.2.2.2.2.2.1 = st + b.1) := by
  obtain ⟨hA, hnu, hc, ⟨w, hw, hwa, h632, hl⟩, har, hst, hcl, hdr⟩ := hC
  subst hwa
  unfold f_X10_leadMany f_X12_theyCome
  obtain ⟨N, hN, hN1, hN2, hN3⟩ : ∃ N : Nat, (if nI w < nI n then nI w else nI n) = nI N ∧ N ≤ w ∧ N ≤ n ∧ (N = w ∨ N = n) := by
    by_cases c : nI w < nI n
    · have := (nI_ltI (by omega) (by omega)).mp c
      exact ⟨w, by rw [if_pos c], Nat.le_refl _, by omega, Or.inl rfl⟩
    · have : n ≤ w := by
        rcases Nat.lt_or_ge w n with q | q
        · exact absurd (nI_lt q (by omega)) c
        · exact q
      exact ⟨n, by rw [if_neg c], this, Nat.le_refl _, Or.inr rfl⟩
  rw [hN]
  refine loop2 N (fun i (s : Int32 × (Nat → Int32) × Int32 × Int32 × Int32 × Int32 × (Nat → Int32) × (Nat → Int32) × (Nat → Int32)) (t : Int32 × Int32 × Int32 × (Nat → Int32) × (Nat → Int32) × (Nat → Int32)) => s.1 = t.2.1 ∧ ChI s.2.2.2.2.2.2.1 s.2.2.2.2.2.2.2.1 co li w i s.2.2.1 s.2.2.2.1 s.2.2.2.2.1 s.2.2.2.2.2.1 t.2.2.2.1 t.2.2.1 cl ∧ s.2.2.2.1 = st + t.1)
    (fun F i s => f_X10_leadMany_25 co rules deeds values kinds ss ts te F (nI N) cl (nI i) s.1 s.2.1 (nI w) s.2.2.1 s.2.2.2.1 s.2.2.2.2.1 s.2.2.2.2.2.1 s.2.2.2.2.2.2.1 s.2.2.2.2.2.2.2.1 li s.2.2.2.2.2.2.2.2)
    (fun F i t => f_X12_theyCome_18 clauses codes clauseOf cf ch ct' F (nI n) (nI i) t.1 t.2.1 t.2.2.1 t.2.2.2.1 t.2.2.2.2.1 t.2.2.2.2.2)
    (fun a b => a.1 = b.2.2.1 ∧ a.2.1 = b.2.1 ∧ ChR a.2.2.2.2.2.2.2.2.1 a.2.2.2.2.2.2.2.2.2.1 co a.2.2.2.2.2.2.2.2.2.2.1 a.2.2.2.1 a.2.2.2.2.1 a.2.2.2.2.2.1 a.2.2.2.2.2.2.1 a.2.2.2.2.2.2.2.1 b.2.2.2.1 ∧ a.2.2.2.2.2.1 = st + b.1)
    ?_ ?_ N 0 (-2, fx, ar, st, cl, dr, gu, nu, sx) (0, -2, 0, now, sm, fm) FU FU (by omega) (FU_big (by omega)) (FU_big (by omega)) ⟨rfl, ⟨hA, hnu, hc, ⟨h632, fun k hk => by rw [Nat.zero_add]; exact hl k hk⟩, har, hst, ⟨hcl.symm, (Int32.add_zero cl).symm⟩, hdr⟩, (Int32.add_zero st).symm⟩
  · intro F F' s t hI
    obtain ⟨s1, s2, s3, s4, s5, s6, s7, s8, s9⟩ := s
    obtain ⟨t1, t2, t3, t4, t5, t6⟩ := t
    obtain ⟨i1, ⟨jA, jn, jc, ⟨j632, jl⟩, jar, jst, ⟨jc0, jcl⟩, jdr⟩, i3⟩ := hI
    dsimp only at i1 i3 jA jn jc j632 jl jar jst jc0 jcl jdr
    show T2 (f_X10_leadMany_25 co rules deeds values kinds ss ts te (F + 1) (nI N) cl (nI N) s1 s2 (nI w) s3 s4 s5 s6 s7 s8 li s9) (f_X12_theyCome_18 clauses codes clauseOf cf ch ct' (F' + 1) (nI n) (nI N) t1 t2 t3 t4 t5 t6) _
    obtain ⟨li', e1, e2⟩ := leave1 li hN1 hw
    have eM : f_X12_theyCome_18 clauses codes clauseOf cf ch ct' (F' + 1) (nI n) (nI N) t1 t2 t3 t4 t5 t6 = some (t1, t2, t3, upd t4 635 (t4 635 + t3), t5, t6) := by
      have e44 : f_X12_theyCome_44 clauses codes clauseOf cf ch ct' t1 t2 t3 t4 t5 t6 = some (t1, t2, t3, upd t4 635 (t4 635 + t3), t5, t6) := by
        unfold f_X12_theyCome_44
        rw [ixq 637 635 (by decide), ixq 637 635 (by decide)]
        rfl
      rw [f_X12_theyCome_18]
      by_cases c : nI n ≤ nI N
      · rw [if_pos c]; exact e44
      · have : N = w := by
          rcases hN3 with q | q
          · exact q
          · exact absurd (by rw [q]; exact nI_le (Nat.le_refl _) (by omega)) c
        rw [if_neg c, ixq 637 632 (by decide), show t4 (632 : Int32).toNatClampNeg = nI (w - N) from j632, this, Nat.sub_self, if_pos (show nI 0 ≤ 0 by decide)]
        exact e44
    rw [f_X10_leadMany_25, if_pos (nI_le (Nat.le_refl _) (by omega)), e1, bs, eM]
    refine T2.ret ⟨?_, i1, ⟨?_, ?_, ?_, ⟨w - N, by omega, rfl, ?_, ?_⟩, ?_, ?_, ?_, ?_⟩, i3⟩
    · show s5 - cl = t3
      rw [jcl, Int32.add_comm, Int32.add_sub_cancel]
    · intro k hk
      show SR (s7 k) (upd t4 635 (t4 635 + t3) k)
      rw [upd_n (by omega)]; exact jA k hk
    · intro k hk
      show s8 k = upd t4 635 (t4 635 + t3) (144 + k)
      rw [upd_n (by omega)]; exact jn k hk
    · intro k hk
      show co k = upd t4 635 (t4 635 + t3) (288 + k)
      rw [upd_n (by omega)]; exact jc k hk
    · show upd t4 635 (t4 635 + t3) 632 = _
      rw [upd_n (by decide)]; exact j632
    · intro k hk
      show GR (li' k) (upd t4 635 (t4 635 + t3) (432 + k))
      rw [upd_n (by omega), e2 k hk]; exact jl k hk
    · show s3 = upd t4 635 (t4 635 + t3) 633
      rw [upd_n (by decide)]; exact jar
    · show s4 = upd t4 635 (t4 635 + t3) 634
      rw [upd_n (by decide)]; exact jst
    · show s5 = upd t4 635 (t4 635 + t3) 635
      rw [upd_s, jc0]; exact jcl
    · show s6 = upd t4 635 (t4 635 + t3) 636
      rw [upd_n (by decide)]; exact jdr
  · intro F F' i s t hi hI ih
    obtain ⟨s1, s2, s3, s4, s5, s6, s7, s8, s9⟩ := s
    obtain ⟨t1, t2, t3, t4, t5, t6⟩ := t
    obtain ⟨i1, i2, i3⟩ := hI
    dsimp only at i1 i2 i3
    show T2 (f_X10_leadMany_25 co rules deeds values kinds ss ts te (F + 1) (nI N) cl (nI i) s1 s2 (nI w) s3 s4 s5 s6 s7 s8 li s9) (f_X12_theyCome_18 clauses codes clauseOf cf ch ct' (F' + 1) (nI n) (nI i) t1 t2 t3 t4 t5 t6) _
    rw [f_X10_leadMany_25, f_X12_theyCome_18, if_neg (nI_ge hi (by omega)), if_neg (nI_ge (show i < n by omega) (by omega)), ixn (show i < 200 by omega) (by decide), ixq 637 632 (by decide), show t4 (632 : Int32).toNatClampNeg = nI (w - i) from i2.2.2.2.1.1, if_neg (nI_nle (by omega) (by omega)), nI_clamp (by omega), nI_1]
    refine T2.bind (one2 hL i2 (by omega) hw s2 t6 s9 t5 t1 t2) (fun a b hab => ?_)
    exact ih a b ⟨hab.1, hab.2.1, hab.2.2 st i3⟩
theorem wi200 (x : Int32) : (f_X11_isWithin x 1 200 = some 0 ∧ f_X12_in x 1 200 = some 0) ∨ ∃ n : Nat, 1 ≤ n ∧ n ≤ 200 ∧ x = nI n ∧ f_X11_isWithin x 1 200 = some 1 ∧ f_X12_in x 1 200 = some 1 := by
  rw [same_in]
  rcases wi01 x 1 200 with h | h
  · exact Or.inl ⟨h, h⟩
  · refine Or.inr ?_
    have h' := h
    unfold f_X11_isWithin at h'
    by_cases c : x < 1
    · rw [if_pos c] at h'; exact absurd h' (by decide)
    · rw [if_neg c] at h'
      by_cases c2 : (200 : Int32) < x
      · rw [if_pos c2] at h'; exact absurd h' (by decide)
      · have c0 : ¬ x < 0 := fun q => c (by rw [Int32.lt_iff_toInt_lt] at q ⊢; have e0 : (0 : Int32).toInt = 0 := by decide
                                            have e1 : (1 : Int32).toInt = 1 := by decide
                                            omega)
        obtain ⟨n, hn, rfl⟩ := nI_of c0
        have n2 : n ≤ 200 := by
          rcases Nat.lt_or_ge 200 n with q | q
          · exact absurd (show nI 200 < nI n from nI_lt q hn) c2
          · exact q
        have n1 : 1 ≤ n := by
          rcases Nat.lt_or_ge n 1 with q | q
          · exact absurd (show nI n < nI 1 from nI_lt q (by decide)) c
          · exact q
        exact ⟨n, n1, n2, rfl, h, h⟩
end
