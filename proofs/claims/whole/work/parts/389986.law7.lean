section
/-! the whole law in both -/
abbrev LTy : Type := Int32 × Int32 × Int32 × Int32 × Int32 × Int32 × Int32 × Int32 × Int32 × Int32 × Int32 × (Nat → Int32) × (Nat → Int32) × (Nat → Int32) × (Nat → Int32) × (Nat → Int32) × (Nat → Int32) × (Nat → Int32) × (Nat → Int32) × (Nat → Int32) × (Nat → Int32) × (Nat → Int32)
def RuQ (de va ki ss ts te sl sf sh st : Nat → Int32) (c q : Nat) : Prop := ∃ a b e : Nat, a ≤ b ∧ b < e ∧ e ≤ c ∧ ss q = nI a ∧ sf q = nI a ∧ ts q = nI b ∧ sh q = nI b ∧ te q = nI e ∧ st q = nI e ∧ ((ki q = 0 ∧ sl q = 101) ∨ (ki q = 1 ∧ sl q = 121) ∨ (ki q = 2 ∧ sl q = 111)) ∧ (ki q = 2 → a = b) ∧ (ki q ≠ 2 → Ty de va a b 0 1) ∧ Ty de va b e 0 100
theorem RuQ.lw {de va ki ss ts te sd sl sf sh st co ca cf ch ct : Nat → Int32} {c r : Nat} (hr : r ≤ 16) (hc : c ≤ 240) (hC : CR de va sd c) (h : ∀ q : Nat, q < r → RuQ de va ki ss ts te sl sf sh st c q) (h1 : ∀ k : Nat, k < c → co k = sd k) (h2 : ∀ q : Nat, q < r → ca q = sl q ∧ cf q = sf q ∧ ch q = sh q ∧ ct q = st q) : LwR de va ki ss ts te (nI r) co ca cf ch ct (nI r) := by
  refine ⟨r, hr, rfl, rfl, fun q hq => ?_⟩
  obtain ⟨a, b, e, a1, a2, a3, a4, a5, a6, a7, a8, a9, a10, a11, a12, u, u1, u2, u3⟩ := h q hq
  obtain ⟨e1, e2, e3, e4⟩ := h2 q hq
  have hop : ∀ k : Nat, a ≤ k → k < e → opR (de k) (va k) (co k) := fun k _ hk => by rw [h1 k (by omega)]; exact hC k (by omega)
  by_cases k2 : ki q = 2
  · exact ⟨a, b, e, fun _ => 0, a1, a2, by omega, a4, by rw [e2]; exact a5, a6, by rw [e3]; exact a7, a8, by rw [e4]; exact a9, by rw [e1]; exact a10, hop, a11, fun z => absurd k2 z, u, u1, u2, u3⟩
  · obtain ⟨t, t1, t2, t3⟩ := a12 k2
    exact ⟨a, b, e, t, a1, a2, by omega, a4, by rw [e2]; exact a5, a6, by rw [e3]; exact a7, a8, by rw [e4]; exact a9, by rw [e1]; exact a10, hop, a11, fun _ => ⟨t1, t2, t3⟩, u, u1, u2, u3⟩
theorem RuQ.keep {de va ki ss ts te sl sf sh st de' va' : Nat → Int32} {c c' q r : Nat} (h : RuQ de va ki ss ts te sl sf sh st c q) (hq : q < r) (hc : c ≤ c') (e : ∀ k : Nat, k < c → de' k = de k ∧ va' k = va k) (x1 x2 x3 x4 x5 x6 x7 x8 : Int32) : RuQ de' va' (upd ki r x1) (upd ss r x2) (upd ts r x3) (upd te r x4) (upd sl r x5) (upd sf r x6) (upd sh r x7) (upd st r x8) c' q := by
  obtain ⟨a, b, e', a1, a2, a3, a4, a5, a6, a7, a8, a9, a10, a11, a12, a13⟩ := h
  have hne : q ≠ r := by omega
  unfold RuQ
  simp only [upd_n hne]
  exact ⟨a, b, e', a1, a2, by omega, a4, a5, a6, a7, a8, a9, a10, a11, fun z => (a12 z).cong (fun k _ hk => e k (by omega)), a13.cong (fun k _ hk => e k (by omega))⟩
theorem law123 {tp : Nat → Int32} {r : Nat} (hr : r ≤ 16) (a1 a2 a3 a4 a5 a6 a7 a8 a9 : Int32) (sd wa sl sf sh st co ca cf ch ct : Nat → Int32) :
    ∃ ca' cf' ch' ct' : Nat → Int32, f_X12_law_123 tp FU 0 a1 a2 a3 a4 a5 a6 a7 a8 (nI r) a9 sd wa sl sf sh st co ca cf ch ct = some (nI r, a1, a2, a3, a4, a5, a6, a7, a8, nI r, a9, sd, wa, sl, sf, sh, st, co, ca', cf', ch', ct') ∧ ∀ q : Nat, q < r → ca' q = sl q ∧ cf' q = sf q ∧ ch' q = sh q ∧ ct' q = st q := by
  have key := loop1 r (fun j (s : (Nat → Int32) × (Nat → Int32) × (Nat → Int32) × (Nat → Int32)) => ∀ q : Nat, q < j → s.1 q = sl q ∧ s.2.1 q = sf q ∧ s.2.2.1 q = sh q ∧ s.2.2.2 q = st q) (fun F j s => f_X12_law_123 tp F (nI j) a1 a2 a3 a4 a5 a6 a7 a8 (nI r) a9 sd wa sl sf sh st co s.1 s.2.1 s.2.2.1 s.2.2.2) (fun o => ∃ ca' cf' ch' ct' : Nat → Int32, o = some (nI r, a1, a2, a3, a4, a5, a6, a7, a8, nI r, a9, sd, wa, sl, sf, sh, st, co, ca', cf', ch', ct') ∧ ∀ q : Nat, q < r → ca' q = sl q ∧ cf' q = sf q ∧ ch' q = sh q ∧ ct' q = st q) ?_ ?_ r 0 (ca, cf, ch, ct) FU (by omega) (FU_big (by omega)) (fun q hq => absurd hq (Nat.not_lt_zero q))
  · exact key
  · intro F s hI
    refine ⟨s.1, s.2.1, s.2.2.1, s.2.2.2, ?_, hI⟩
    show f_X12_law_123 tp (F + 1) (nI r) a1 a2 a3 a4 a5 a6 a7 a8 (nI r) a9 sd wa sl sf sh st co s.1 s.2.1 s.2.2.1 s.2.2.2 = _
    rw [f_X12_law_123, if_pos (nI_le (Nat.le_refl _) (by omega))]
  · intro F j s hj hI ih
    have e : f_X12_law_123 tp (F + 1) (nI j) a1 a2 a3 a4 a5 a6 a7 a8 (nI r) a9 sd wa sl sf sh st co s.1 s.2.1 s.2.2.1 s.2.2.2 = f_X12_law_123 tp F (nI (j + 1)) a1 a2 a3 a4 a5 a6 a7 a8 (nI r) a9 sd wa sl sf sh st co (upd s.1 j (sl j)) (upd s.2.1 j (sf j)) (upd s.2.2.1 j (sh j)) (upd s.2.2.2 j (st j)) := by
      rw [f_X12_law_123, if_neg (nI_ge hj (by omega))]
      simp only [ixn (show j < 16 by omega) (show 16 < 2 ^ 31 by decide), nI_clamp (show j < 2 ^ 31 by omega), nI_1]
    show ∃ ca' cf' ch' ct' : Nat → Int32, f_X12_law_123 tp (F + 1) (nI j) a1 a2 a3 a4 a5 a6 a7 a8 (nI r) a9 sd wa sl sf sh st co s.1 s.2.1 s.2.2.1 s.2.2.2 = _ ∧ _
    rw [e]
    refine ih (upd s.1 j (sl j), upd s.2.1 j (sf j), upd s.2.2.1 j (sh j), upd s.2.2.2 j (st j)) (fun q hq => ?_)
    show upd s.1 j (sl j) q = _ ∧ upd s.2.1 j (sf j) q = _ ∧ upd s.2.2.1 j (sh j) q = _ ∧ upd s.2.2.2 j (st j) q = _
    by_cases z : q = j
    · rw [z, upd_s, upd_s, upd_s, upd_s]; exact ⟨rfl, rfl, rfl, rfl⟩
    · rw [upd_n z, upd_n z, upd_n z, upd_n z]; exact hI q (by omega)
theorem law95 {tp : Nat → Int32} {r c : Nat} (hr : r ≤ 16) (hc : c ≤ 240) (a1 a2 a3 a4 a5 a6 a8 a9 : Int32) (sd wa sl sf sh st co ca cf ch ct : Nat → Int32) :
    ∃ co' ca' cf' ch' ct' : Nat → Int32, f_X12_law_95 tp FU 0 a1 a2 a3 a4 a5 a6 (nI c) a8 (nI r) a9 sd wa sl sf sh st co ca cf ch ct = some (nI r, a1, a2, a3, a4, a5, a6, nI c, a8, nI r, a9, sd, wa, sl, sf, sh, st, co', ca', cf', ch', ct') ∧ (∀ k : Nat, k < c → co' k = sd k) ∧ ∀ q : Nat, q < r → ca' q = sl q ∧ cf' q = sf q ∧ ch' q = sh q ∧ ct' q = st q := by
  have key := loop1 c (fun j (s : Nat → Int32) => ∀ k : Nat, k < j → s k = sd k) (fun F j s => f_X12_law_95 tp F (nI j) a1 a2 a3 a4 a5 a6 (nI c) a8 (nI r) a9 sd wa sl sf sh st s ca cf ch ct) (fun o => ∃ co' ca' cf' ch' ct' : Nat → Int32, o = some (nI r, a1, a2, a3, a4, a5, a6, nI c, a8, nI r, a9, sd, wa, sl, sf, sh, st, co', ca', cf', ch', ct') ∧ (∀ k : Nat, k < c → co' k = sd k) ∧ ∀ q : Nat, q < r → ca' q = sl q ∧ cf' q = sf q ∧ ch' q = sh q ∧ ct' q = st q) ?_ ?_ c 0 co FU (by omega) (FU_big (by omega)) (fun q hq => absurd hq (Nat.not_lt_zero q))
  · exact key
  · intro F s hI
    obtain ⟨ca', cf', ch', ct', e1, e2⟩ := law123 (tp := tp) hr a1 a2 a3 a4 a5 a6 (nI c) a8 a9 sd wa sl sf sh st s ca cf ch ct
    refine ⟨s, ca', cf', ch', ct', ?_, hI, e2⟩
    show f_X12_law_95 tp (F + 1) (nI c) a1 a2 a3 a4 a5 a6 (nI c) a8 (nI r) a9 sd wa sl sf sh st s ca cf ch ct = _
    rw [f_X12_law_95, if_pos (nI_le (Nat.le_refl _) (by omega))]
    exact e1
  · intro F j s hj hI ih
    have e : f_X12_law_95 tp (F + 1) (nI j) a1 a2 a3 a4 a5 a6 (nI c) a8 (nI r) a9 sd wa sl sf sh st s ca cf ch ct = f_X12_law_95 tp F (nI (j + 1)) a1 a2 a3 a4 a5 a6 (nI c) a8 (nI r) a9 sd wa sl sf sh st (upd s j (sd j)) ca cf ch ct := by
      rw [f_X12_law_95, if_neg (nI_ge hj (by omega)), ixn (show j < 260 by omega) (by decide), ixn (show j < 260 by omega) (by decide), nI_clamp (by omega), nI_1]
    show ∃ co' ca' cf' ch' ct' : Nat → Int32, f_X12_law_95 tp (F + 1) (nI j) a1 a2 a3 a4 a5 a6 (nI c) a8 (nI r) a9 sd wa sl sf sh st s ca cf ch ct = _ ∧ _
    rw [e]
    refine ih _ (fun q hq => ?_)
    by_cases z : q = j
    · rw [z, upd_s]
    · rw [upd_n z]; exact hI q (by omega)
def LOut (X : Option XRy) (M : Option LTy) (cl : Int32) (co ca cf ch ct : Nat → Int32) : Prop :=
  (∃ (f fp : Int32) (z : Int32 × Int32 × Int32 × Int32 × (Nat → Int32) × (Nat → Int32) × (Nat → Int32) × (Nat → Int32) × (Nat → Int32) × (Nat → Int32)) (r2 r3 r4 r5 r6 r7 r8 r9 : Int32) (s1 s2 s3 s4 s5 s6 : Nat → Int32), f ≠ 0 ∧ X = some (f, fp, z) ∧ M = some ((-1000) * f - fp, 0, r2, r3, r4, r5, r6, r7, r8, r9, cl, s1, s2, s3, s4, s5, s6, co, ca, cf, ch, ct)) ∨
  ∃ (r : Nat) (x1 x2 x3 x4 r2 r3 r4 r5 r6 r7 r8 r9 : Int32) (de va ki ss ts te s1 s2 s3 s4 s5 s6 co' ca' cf' ch' ct' : Nat → Int32), X = some (0, x1, x2, x3, x4, nI r, de, va, ki, ss, ts, te) ∧ M = some (nI r, 0, r2, r3, r4, r5, r6, r7, r8, r9, nI r, s1, s2, s3, s4, s5, s6, co', ca', cf', ch', ct') ∧ LwR de va ki ss ts te (nI r) co' ca' cf' ch' ct' (nI r)
theorem in11N {f : Int32} (hf : f ≠ 0) (e : Int32) (bt : Nat → Int32) (F : Nat) (x fp : Int32) (z : Int32 × Int32 × Int32 × Int32 × (Nat → Int32) × (Nat → Int32) × (Nat → Int32) × (Nat → Int32) × (Nat → Int32) × (Nat → Int32)) : f_X3_readInto_11 e bt (F + 1) x f fp z.1 z.2.1 z.2.2.1 z.2.2.2.1 z.2.2.2.2.1 z.2.2.2.2.2.1 z.2.2.2.2.2.2.1 z.2.2.2.2.2.2.2.1 z.2.2.2.2.2.2.2.2.1 z.2.2.2.2.2.2.2.2.2 = some (f, fp, z) := by
  have e41 : f_X3_readInto_41 e bt f fp z.1 z.2.1 z.2.2.1 z.2.2.2.1 z.2.2.2.2.1 z.2.2.2.2.2.1 z.2.2.2.2.2.2.1 z.2.2.2.2.2.2.2.1 z.2.2.2.2.2.2.2.2.1 z.2.2.2.2.2.2.2.2.2 = some (f, fp, z) := by
    unfold f_X3_readInto_41 f_X9_expectEnd
    rw [faN hf, bs]
    by_cases q : e ≤ z.1
    · rw [if_pos q]; rfl
    · rw [if_neg q]; rfl
  rw [f_X3_readInto_11, paN hf, bs, if_pos rfl, e41]
  split <;> rfl
theorem l31N {tp : Nat → Int32} (F : Nat) (a1 a2 a3 a4 a5 a6 a7 a8 a9 a10 : Int32) (sd wa sl sf sh st co ca cf ch ct : Nat → Int32) : f_X12_law_31 tp (F + 1) 0 a1 a2 a3 a4 a5 a6 a7 a8 a9 a10 sd wa sl sf sh st co ca cf ch ct = some (a4, 0, a2, a3, a4, a5, a6, a7, a8, a9, a10, sd, wa, sl, sf, sh, st, co, ca, cf, ch, ct) := by
  rw [f_X12_law_31, if_pos rfl]
  unfold f_X12_law_71
  rw [if_pos rfl]
theorem lawL {bt tp : Nat → Int32} (hb : ∀ k : Nat, k < 260 → bt k = tp k &&& 255) (hB : BY bt) {n : Nat} (hn : n ≤ 240) (tn cl : Int32) (co ca cf ch ct : Nat → Int32) (fp ft : Int32) :
    ∀ (j p i c r FX F : Nat) (num op wt : Int32) (de va ki ss ts te sd wa sl sf sh st : Nat → Int32), n - p ≤ j → p ≤ n → i < p → n - p < FX → n - p + 1 < F → c ≤ p → r ≤ 16 → CR de va sd c → (∀ q : Nat, q < r → RuQ de va ki ss ts te sl sf sh st c q) →
    LOut (f_X3_readInto_11 (nI n) bt FX (nI i) 0 fp (nI p) (sg bt n p) (nI c) (nI r) de va ki ss ts te) (f_X12_law_31 tp F 1 tn (nI p) (nI n) ft num op (nI c) wt (nI r) cl sd wa sl sf sh st co ca cf ch ct) cl co ca cf ch ct := by
  have hn' : n ≤ 260 := by omega
  intro j
  induction j with
  | zero =>
    intro p i c r FX F num op wt de va ki ss ts te sd wa sl sf sh st h1 h2 h3 h4 h5 h6 h7 h8 h9
    obtain ⟨FX, rfl⟩ : ∃ G, FX = G + 1 := ⟨FX - 1, by omega⟩
    obtain ⟨F, rfl⟩ : ∃ G, F = G + 1 := ⟨F - 1, by omega⟩
    have hs : ¬ sg bt n p = 59 := fun z => by
      have : p < n := sg_lt (bt := bt) (by rw [z]; decide)
      omega
    obtain ⟨co', ca', cf', ch', ct', e1, e2, e3⟩ := law95 (tp := tp) h7 (show c ≤ 240 by omega) 0 (nI p) (nI n) ft num op wt (nI r) sd wa sl sf sh st co ca cf ch ct
    rw [f_X3_readInto_11, if_neg (show ¬ (240 : Int32) ≤ nI i from nI_ge (b := 240) (by omega) (by decide)), pa0 hn' p (by decide), if_neg hs, bs, if_pos rfl, f_X12_law_31, if_neg i10, if_pos (nI_le (show n ≤ p by omega) (by omega))]
    unfold f_X3_readInto_41 f_X9_expectEnd f_X12_law_71
    rw [if_pos (nI_le (show n ≤ p by omega) (by omega)), bs, if_neg i10, e1]
    exact Or.inr ⟨r, _, _, _, _, _, _, _, _, _, _, _, _, _, _, _, _, _, _, _, _, _, _, _, _, _, _, _, _, _, rfl, rfl, RuQ.lw h7 (by omega) h8 h9 e2 e3⟩
  | succ j ih =>
    intro p i c r FX F num op wt de va ki ss ts te sd wa sl sf sh st h1 h2 h3 h4 h5 h6 h7 h8 h9
    by_cases hj : n - p ≤ j
    · exact ih p i c r FX F num op wt de va ki ss ts te sd wa sl sf sh st hj h2 h3 h4 h5 h6 h7 h8 h9
    obtain ⟨FX, rfl⟩ : ∃ G, FX = G + 1 := ⟨FX - 1, by omega⟩
    obtain ⟨F, rfl⟩ : ∃ G, F = G + 1 := ⟨F - 1, by omega⟩
    rw [f_X3_readInto_11, if_neg (show ¬ (240 : Int32) ≤ nI i from nI_ge (b := 240) (by omega) (by decide)), pa0 hn' p (by decide), f_X12_law_31, if_neg i10, if_neg (nI_ge (show p < n by omega) (by omega))]
    unfold f_X12_takes
    rw [here1 hb hn' (by omega), bs]
    by_cases hs : sg bt n p = 59
    · rw [if_pos hs, if_pos hs, bs, bs, if_neg i10, if_neg i10, nI_1 p, nI_1 i]
      dsimp only
      rcases ruleC hb hB hn h7 (show p + 1 ≤ n by omega) (show c ≤ p + 1 by omega) fp ft num op wt de va ki ss ts te sd wa sl sf sh st h8 with ⟨f, fp', z, rr, f0, k1, k2, k3, k4⟩ | ⟨p', c', b, m, num', op', wt', lt, de', va', sd', wa', g1, g2, g3, g4, g5, g6, g7, g8, g9, g10, g11, g12, g13, g14⟩
      · left
        obtain ⟨FX, rfl⟩ : ∃ G, FX = G + 1 := ⟨FX - 1, by omega⟩
        obtain ⟨F, rfl⟩ : ∃ G, F = G + 1 := ⟨F - 1, by omega⟩
        rw [k1, bs, k2, bs, if_pos k3, l31N, k4]
        exact ⟨f, fp', z, _, _, _, _, _, _, _, _, _, _, _, _, _, _, f0, in11N f0 _ _ _ _ _ z, rfl⟩
      · rw [g7, bs, g8, bs, if_neg i10]
        dsimp only
        refine ih p' (i + 1) c' (r + 1) FX F num' op' wt' de' va' _ _ _ _ sd' wa' _ _ _ _ (by omega) g2 (by omega) (by omega) (by omega) (by omega) (by omega) g10 (fun q hq => ?_)
        by_cases z : q = r
        · rw [z]
          unfold RuQ
          simp only [upd_s]
          refine ⟨c, b, c', g3, g4, Nat.le_refl _, rfl, rfl, rfl, rfl, rfl, rfl, ?_, fun y => g12 ?_, fun y => g13 (fun e => y ?_), g14⟩
          · rcases g11 with ⟨rfl, rfl⟩ | ⟨rfl, rfl⟩ | ⟨rfl, rfl⟩
            · exact Or.inl ⟨rfl, rfl⟩
            · exact Or.inr (Or.inl ⟨rfl, rfl⟩)
            · exact Or.inr (Or.inr ⟨rfl, rfl⟩)
          · rcases g11 with ⟨rfl, _⟩ | ⟨rfl, _⟩ | ⟨rfl, _⟩
            · exact absurd y (by decide)
            · exact absurd y (by decide)
            · rfl
          · rw [e]; rfl
        · exact (h9 q (by omega)).keep (by omega) (by omega) g9 _ _ _ _ _ _ _ _
    · left
      obtain ⟨F, rfl⟩ : ∃ G, F = G + 1 := ⟨F - 1, by omega⟩
      rw [if_neg hs, if_neg hs, bs, if_pos rfl, show f_X12_wrongAt ft 1 (nI p) = some (0, (-1000) * 1 - nI p) from rfl, bs, bs, if_pos rfl, l31N]
      unfold f_X3_readInto_41 f_X9_expectEnd
      rw [if_neg (nI_ge (show p < n by omega) (by omega)), fa0, bs, bs]
      exact ⟨1, nI p, _, _, _, _, _, _, _, _, _, _, _, _, _, _, _, by decide, rfl, rfl⟩
theorem pm_law {XA : Nat → Nat → Int32} {XI : Nat → Int32} {MA : Nat → Nat → Int32} {MI : Nat → Int32} (h : Inv XA XI MA MI) (inF dr : Nat) (x1 : Int32) : ∃ (rX : Int32 × Nat × Nat × Int32 × Int32 × Int32 × Int32 × Int32 × Int32 × Int32 × Int32 × (Nat → Int32) × (Nat → Int32) × (Nat → Int32) × (Nat → Int32) × (Nat → Int32) × (Nat → Int32)) (rM : Int32 × Int32 × Int32 × Int32 × Int32 × Int32 × Int32 × Int32 × Int32 × Int32 × Int32 × (Nat → Int32) × (Nat → Int32) × (Nat → Int32) × (Nat → Int32) × (Nat → Int32) × (Nat → Int32) × (Nat → Int32) × (Nat → Int32) × (Nat → Int32) × (Nat → Int32) × (Nat → Int32)), f_X11_law inF dr (XI 1) (XA 0) (XI 2) (XI 3) (XI 4) (XI 5) (XI 6) (XI 27) (XI 28) (XA 29) (XA 30) (XA 31) (XA 32) (XA 33) (XA 34) x1 = some rX ∧ f_X12_law (MI 0) (MI 1) (MI 2) (MI 3) (MI 4) (MI 5) (MI 6) (MI 7) (MI 8) (MI 9) (MA 3) (MA 4) (MA 5) (MA 6) (MA 7) (MA 8) (MA 9) (MA 10) (MA 11) (MA 12) (MA 13) (MA 14) x1 = some rM ∧ rX.1 = rM.1 ∧ ((rX.2.1 = inF ∧ rX.2.2.1 = dr ∧ Inv (va_up (va_up (va_up (va_up (va_up (va_up XA 29 rX.2.2.2.2.2.2.2.2.2.2.2.1) 30 rX.2.2.2.2.2.2.2.2.2.2.2.2.1) 31 rX.2.2.2.2.2.2.2.2.2.2.2.2.2.1) 32 rX.2.2.2.2.2.2.2.2.2.2.2.2.2.2.1) 33 rX.2.2.2.2.2.2.2.2.2.2.2.2.2.2.2.1) 34 rX.2.2.2.2.2.2.2.2.2.2.2.2.2.2.2.2) (va_up (va_up (va_up (va_up (va_up (va_up (va_up (va_up XI 1 rX.2.2.2.1) 2 rX.2.2.2.2.1) 3 rX.2.2.2.2.2.1) 4 rX.2.2.2.2.2.2.1) 5 rX.2.2.2.2.2.2.2.1) 6 rX.2.2.2.2.2.2.2.2.1) 27 rX.2.2.2.2.2.2.2.2.2.1) 28 rX.2.2.2.2.2.2.2.2.2.2.1) (va_up (va_up (va_up (va_up (va_up (va_up (va_up (va_up (va_up (va_up (va_up MA 4 rM.2.2.2.2.2.2.2.2.2.2.2.1) 5 rM.2.2.2.2.2.2.2.2.2.2.2.2.1) 6 rM.2.2.2.2.2.2.2.2.2.2.2.2.2.1) 7 rM.2.2.2.2.2.2.2.2.2.2.2.2.2.2.1) 8 rM.2.2.2.2.2.2.2.2.2.2.2.2.2.2.2.1) 9 rM.2.2.2.2.2.2.2.2.2.2.2.2.2.2.2.2.1) 10 rM.2.2.2.2.2.2.2.2.2.2.2.2.2.2.2.2.2.1) 11 rM.2.2.2.2.2.2.2.2.2.2.2.2.2.2.2.2.2.2.1) 12 rM.2.2.2.2.2.2.2.2.2.2.2.2.2.2.2.2.2.2.2.1) 13 rM.2.2.2.2.2.2.2.2.2.2.2.2.2.2.2.2.2.2.2.2.1) 14 rM.2.2.2.2.2.2.2.2.2.2.2.2.2.2.2.2.2.2.2.2.2) (va_up (va_up (va_up (va_up (va_up (va_up (va_up (va_up (va_up (va_up MI 0 rM.2.1) 1 rM.2.2.1) 2 rM.2.2.2.1) 3 rM.2.2.2.2.1) 4 rM.2.2.2.2.2.1) 5 rM.2.2.2.2.2.2.1) 6 rM.2.2.2.2.2.2.2.1) 7 rM.2.2.2.2.2.2.2.2.1) 8 rM.2.2.2.2.2.2.2.2.2.1) 9 rM.2.2.2.2.2.2.2.2.2.2.1)) ∨ (rX.2.1 = dr ∧ rX.2.2.1 = inF ∧ Inv (swA (va_up (va_up (va_up (va_up (va_up (va_up XA 29 rX.2.2.2.2.2.2.2.2.2.2.2.1) 30 rX.2.2.2.2.2.2.2.2.2.2.2.2.1) 31 rX.2.2.2.2.2.2.2.2.2.2.2.2.2.1) 32 rX.2.2.2.2.2.2.2.2.2.2.2.2.2.2.1) 33 rX.2.2.2.2.2.2.2.2.2.2.2.2.2.2.2.1) 34 rX.2.2.2.2.2.2.2.2.2.2.2.2.2.2.2.2)) (swI (va_up (va_up (va_up (va_up (va_up (va_up (va_up (va_up XI 1 rX.2.2.2.1) 2 rX.2.2.2.2.1) 3 rX.2.2.2.2.2.1) 4 rX.2.2.2.2.2.2.1) 5 rX.2.2.2.2.2.2.2.1) 6 rX.2.2.2.2.2.2.2.2.1) 27 rX.2.2.2.2.2.2.2.2.2.1) 28 rX.2.2.2.2.2.2.2.2.2.2.1)) (va_up (va_up (va_up (va_up (va_up (va_up (va_up (va_up (va_up (va_up (va_up MA 4 rM.2.2.2.2.2.2.2.2.2.2.2.1) 5 rM.2.2.2.2.2.2.2.2.2.2.2.2.1) 6 rM.2.2.2.2.2.2.2.2.2.2.2.2.2.1) 7 rM.2.2.2.2.2.2.2.2.2.2.2.2.2.2.1) 8 rM.2.2.2.2.2.2.2.2.2.2.2.2.2.2.2.1) 9 rM.2.2.2.2.2.2.2.2.2.2.2.2.2.2.2.2.1) 10 rM.2.2.2.2.2.2.2.2.2.2.2.2.2.2.2.2.2.1) 11 rM.2.2.2.2.2.2.2.2.2.2.2.2.2.2.2.2.2.2.1) 12 rM.2.2.2.2.2.2.2.2.2.2.2.2.2.2.2.2.2.2.2.1) 13 rM.2.2.2.2.2.2.2.2.2.2.2.2.2.2.2.2.2.2.2.2.1) 14 rM.2.2.2.2.2.2.2.2.2.2.2.2.2.2.2.2.2.2.2.2.2) (va_up (va_up (va_up (va_up (va_up (va_up (va_up (va_up (va_up (va_up MI 0 rM.2.1) 1 rM.2.2.1) 2 rM.2.2.2.1) 3 rM.2.2.2.2.1) 4 rM.2.2.2.2.2.1) 5 rM.2.2.2.2.2.2.1) 6 rM.2.2.2.2.2.2.2.1) 7 rM.2.2.2.2.2.2.2.2.1) 8 rM.2.2.2.2.2.2.2.2.2.1) 9 rM.2.2.2.2.2.2.2.2.2.2.1))) := by
  obtain ⟨hT, hC, hk, hkk, hL⟩ := h
  obtain ⟨⟨n, hn, e1, e2⟩, hb⟩ := hT
  have hB : BY (XA 0) := fun k hk => by
    rw [hb k hk]
    exact pk_andE (MA 3 k) 8 (by decide)
  unfold f_X11_law f_X12_law f_X8_clear
  rw [e1, e2]
  have samT : TpR (nI n) (XA 0) (nI n) (MA 3) := ⟨⟨n, hn, rfl, rfl⟩, hb⟩
  have zT : TpR 0 (XA 0) 0 (MA 3) := ⟨⟨0, by decide, rfl, rfl⟩, hb⟩
  rcases holds_eq hn x1 1 240 (by decide) (by decide) with ⟨d1, d2⟩ | ⟨j, j1, j2, j3, rfl, d1, d2, d3, d4⟩
  · have d1 : f_X8_holds (nI n) x1 1 240 = some 0 := d1
    rw [d1, bs, if_pos rfl]
    rcases d2 with d2 | ⟨d2, d3, -⟩
    · have d2 : f_X12_in x1 1 240 = some 0 := d2
      rw [d2, bs, if_pos rfl]
      exact ⟨_, _, rfl, rfl, rfl, Or.inl ⟨rfl, rfl, samT, hC, hk, hkk, hL⟩⟩
    · have d2 : f_X12_in x1 1 240 = some 1 := d2
      rw [d2, bs, if_neg i10, if_neg d3]
      exact ⟨_, _, rfl, rfl, rfl, Or.inl ⟨rfl, rfl, samT, hC, hk, hkk, hL⟩⟩
  · have d1 : f_X8_holds (nI n) (nI j) 1 240 = some 1 := d1
    have d2 : f_X12_in (nI j) 1 240 = some 1 := d2
    rw [d1, d2, bs, bs, if_neg i10, if_neg i10, if_pos d3, opn _ _ _ _ _ _ j1 (by omega), bs]
    unfold f_X3_readInto f_X12_beginsText f_X2_clear
    rw [bs, bs]
    dsimp only
    have key : LOut ((f_X3_readRule (nI j) 0 0 0 (sg (XA 0) j 0) (XA 0) 0 0 (XA 29) (XA 30) (XA 31) (XA 32) (XA 33) (XA 34)).bind (fun z6 => f_X3_readInto_11 (nI j) (XA 0) FU 0 z6.1 z6.2.1 z6.2.2.1 z6.2.2.2.1 z6.2.2.2.2.1 z6.2.2.2.2.2.1 z6.2.2.2.2.2.2.1 z6.2.2.2.2.2.2.2.1 z6.2.2.2.2.2.2.2.2.1 z6.2.2.2.2.2.2.2.2.2.1 z6.2.2.2.2.2.2.2.2.2.2.1 z6.2.2.2.2.2.2.2.2.2.2.2)) ((f_X12_readsRule 0 (nI j) (MI 3) (MI 4) (MI 5) 0 (MI 7) 0 (MA 3) (MA 4) (MA 5) (MA 6) (MA 7) (MA 8) (MA 9)).bind (fun z27 => f_X12_law_31 (MA 3) FU z27.1 (nI n) z27.2.1 (nI j) z27.2.2.1 z27.2.2.2.1 z27.2.2.2.2.1 z27.2.2.2.2.2.1 z27.2.2.2.2.2.2.1 z27.2.2.2.2.2.2.2.1 (MI 9) z27.2.2.2.2.2.2.2.2.1 z27.2.2.2.2.2.2.2.2.2.1 z27.2.2.2.2.2.2.2.2.2.2.1 z27.2.2.2.2.2.2.2.2.2.2.2.1 z27.2.2.2.2.2.2.2.2.2.2.2.2.1 z27.2.2.2.2.2.2.2.2.2.2.2.2.2 (MA 10) (MA 11) (MA 12) (MA 13) (MA 14))) (MI 9) (MA 10) (MA 11) (MA 12) (MA 13) (MA 14) := by
      rcases ruleC hb hB (show j ≤ 240 by omega) (r := 0) (by omega) (p := 0) (c := 0) (Nat.zero_le _) (Nat.le_refl _) 0 (MI 3) (MI 4) (MI 5) (MI 7) (XA 29) (XA 30) (XA 31) (XA 32) (XA 33) (XA 34) (MA 4) (MA 5) (MA 6) (MA 7) (MA 8) (MA 9) (fun k hk => absurd hk (Nat.not_lt_zero k)) with ⟨f, fp', z, rr, f0, k1, k2, k3, k4⟩ | ⟨p', c', b, m, num', op', wt', lt, de', va', sd', wa', g1, g2, g3, g4, g5, g6, g7, g8, g9, g10, g11, g12, g13, g14⟩
      · left
        rw [show f_X3_readRule (nI j) 0 0 0 (sg (XA 0) j 0) (XA 0) 0 0 (XA 29) (XA 30) (XA 31) (XA 32) (XA 33) (XA 34) = _ from k1, show f_X12_readsRule 0 (nI j) (MI 3) (MI 4) (MI 5) 0 (MI 7) 0 (MA 3) (MA 4) (MA 5) (MA 6) (MA 7) (MA 8) (MA 9) = _ from k2, bs, bs, k3, show FU = 9999 + 1 from rfl, l31N, k4]
        exact ⟨f, fp', z, _, _, _, _, _, _, _, _, _, _, _, _, _, _, f0, in11N f0 _ _ _ _ _ z, rfl⟩
      · rw [show f_X3_readRule (nI j) 0 0 0 (sg (XA 0) j 0) (XA 0) 0 0 (XA 29) (XA 30) (XA 31) (XA 32) (XA 33) (XA 34) = _ from g7, show f_X12_readsRule 0 (nI j) (MI 3) (MI 4) (MI 5) 0 (MI 7) 0 (MA 3) (MA 4) (MA 5) (MA 6) (MA 7) (MA 8) (MA 9) = _ from g8, bs, bs]
        dsimp only
        refine lawL hb hB (show j ≤ 240 by omega) (nI n) (MI 9) (MA 10) (MA 11) (MA 12) (MA 13) (MA 14) 0 (MI 3) (j - p') p' 0 c' (0 + 1) FU FU num' op' wt' de' va' _ _ _ _ sd' wa' _ _ _ _ (Nat.le_refl _) g2 (by omega) (by unfold FU; omega) (by unfold FU; omega) (by omega) (by omega) g10 (fun q hq => ?_)
        obtain rfl : q = 0 := by omega
        unfold RuQ
        simp only [upd_s]
        refine ⟨0, b, c', g3, g4, Nat.le_refl _, rfl, rfl, rfl, rfl, rfl, rfl, ?_, fun y => g12 ?_, fun y => g13 (fun e => y ?_), g14⟩
        · rcases g11 with ⟨rfl, rfl⟩ | ⟨rfl, rfl⟩ | ⟨rfl, rfl⟩
          · exact Or.inl ⟨rfl, rfl⟩
          · exact Or.inr (Or.inl ⟨rfl, rfl⟩)
          · exact Or.inr (Or.inr ⟨rfl, rfl⟩)
        · rcases g11 with ⟨rfl, _⟩ | ⟨rfl, _⟩ | ⟨rfl, _⟩
          · exact absurd y (by decide)
          · exact absurd y (by decide)
          · rfl
        · rw [e]; rfl
    rcases key with ⟨f, fp, z, r2, r3, r4, r5, r6, r7, r8, r9, s1, s2, s3, s4, s5, s6, f0, k1, k2⟩ | ⟨r, y1, y2, y3, y4, r2, r3, r4, r5, r6, r7, r8, r9, de, va, ki, ss, ts, te, s1, s2, s3, s4, s5, s6, co', ca', cf', ch', ct', k1, k2, k3⟩
    · rw [k1, k2, bs, bs, hfN f0, bs, if_neg i10]
      exact ⟨_, _, rfl, rfl, rfl, Or.inl ⟨rfl, rfl, zT, hC, hk, hkk, hL⟩⟩
    · rw [k1, k2, bs, bs, hf0, bs, if_pos rfl]
      exact ⟨_, _, rfl, rfl, rfl, Or.inr ⟨rfl, rfl, zT, hC, hk, hkk, k3⟩⟩
end
