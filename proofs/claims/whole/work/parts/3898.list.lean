/-! the list, whole -/
theorem opn (a b c d e : Int32) (bt : Nat → Int32) {n : Nat} (h0 : 1 ≤ n) (hn : n ≤ 240) : f_X9_open a b c d e bt (nI n) = some (nI n, 0, 0, 0, sg bt n 0) := by
  unfold f_X9_open f_X9_open_46 sg
  have z : ¬ (260 : Int32) < nI n := nI_nlt (a := 260) (by omega) (by decide)
  rw [if_neg z, if_neg (nI_nle (by omega) (by omega)), show ∀ o : Option (Int32 × Int32 × Int32 × Int32 × Int32), ix 260 0 o = o from fun o => ixn (j := 0) (by decide) (by decide), if_pos (by omega)]
  rfl
abbrev LR := Int32 × Int32 × Int32 × Int32 × Int32 × Int32 × (Nat → Int32)
abbrev LM := Int32 × Int32 × Int32 × Int32 × Int32 × Int32 × Int32 × Int32 × (Nat → Int32) × (Nat → Int32)
def LiP (w : Nat) (line0 now : Nat → Int32) (x : LR) (y : LM) : Prop :=
  (x.2.2.1 ≠ 0 ∧ y.1 = (-1000) * x.2.2.1 - x.2.2.2.1 ∧ y.2.2.2.2.2.2.2.2.1 = now ∧ y.2.1 = 0 ∧ ∀ q : Nat, q < w → x.2.2.2.2.2.2 q = line0 q) ∨
  (x.2.2.1 = 0 ∧ ∃ a : Nat, w + a ≤ 200 ∧ x.1 = nI a ∧ y.1 = nI a ∧ y.2.1 = 0 ∧ (∀ q : Nat, q < w → x.2.2.2.2.2.2 q = line0 q) ∧ (∀ i : Nat, i < a → GR (x.2.2.2.2.2.2 (w + i)) (y.2.2.2.2.2.2.2.2.1 (432 + w + i))) ∧ y.2.2.2.2.2.2.2.2.1 632 = nI (w + a) ∧ ∀ k : Nat, (k < 432 + w ∨ 632 < k) → y.2.2.2.2.2.2.2.2.1 k = now k)
theorem l91 {tp now nl : Nat → Int32} {w a : Nat} (hw : w + a ≤ 200) (hnow : now 632 = nI w) (p0 n0 ft cm sm : Int32) :
    ∃ now', f_X12_list_91 tp FU 0 0 p0 n0 ft cm sm (nI a) now nl = some (nI a, 0, p0, n0, ft, cm, sm, nI a, now', nl) ∧ (∀ i : Nat, i < a → now' (432 + w + i) = nl i) ∧ now' 632 = nI (w + a) ∧ ∀ k : Nat, (k < 432 + w ∨ 632 < k) → now' k = now k := by
  refine loop1 a (fun i (u : Nat → Int32) => u 632 = nI w ∧ (∀ j : Nat, j < i → u (432 + w + j) = nl j) ∧ ∀ k : Nat, (k < 432 + w ∨ 632 < k) → u k = now k) (fun F i u => f_X12_list_91 tp F (nI i) 0 p0 n0 ft cm sm (nI a) u nl) (fun o => ∃ now', o = some (nI a, 0, p0, n0, ft, cm, sm, nI a, now', nl) ∧ (∀ i : Nat, i < a → now' (432 + w + i) = nl i) ∧ now' 632 = nI (w + a) ∧ ∀ k : Nat, (k < 432 + w ∨ 632 < k) → now' k = now k) ?_ ?_ a 0 now FU (by omega) (by unfold FU; omega) ⟨hnow, fun j hj => by omega, fun _ _ => rfl⟩
  · rintro F u ⟨u1, u2, u3⟩
    show ∃ now', f_X12_list_91 tp (F + 1) (nI a) 0 p0 n0 ft cm sm (nI a) u nl = _ ∧ _
    rw [f_X12_list_91, if_pos (nI_le (Nat.le_refl _) (by omega)), lit_632, lit_632, clamp_632, u1, la]
    refine ⟨_, rfl, fun i hi => ?_, upd_s, fun k hk => ?_⟩
    · rw [upd_n (by omega)]; exact u2 i hi
    · rw [upd_n (by omega)]; exact u3 k hk
  · rintro F i u hi ⟨u1, u2, u3⟩ ih
    show ∃ now', f_X12_list_91 tp (F + 1) (nI i) 0 p0 n0 ft cm sm (nI a) u nl = _ ∧ _
    rw [f_X12_list_91, if_neg (nI_ge (by omega) (by omega)), lit_632, clamp_632, u1, c432, la, ixn (by omega) (by decide), ixn (by omega) (by decide), nI_clamp (by omega), nI_clamp (by omega), nI_1]
    refine ih _ ⟨?_, fun j hj => ?_, fun k hk => ?_⟩
    · rw [upd_n (by omega)]; exact u1
    · by_cases e : j = i
      · rw [e, upd_s]
      · rw [upd_n (by omega)]; exact u2 j (by omega)
    · rw [upd_n (by omega)]; exact u3 k hk
theorem lLoop {bt tp now : Nat → Int32} (hb : ∀ k : Nat, k < 260 → bt k = tp k &&& 255) (hB : BY bt) {n w : Nat} (hn : n ≤ 120) (hnow : now 632 = nI w) (line0 : Nat → Int32) (ft0 cm sm : Int32) :
    ∀ (F F' i p a : Nat) (fp ft : Int32) (line nl : Nat → Int32), n - p < F → n - p + 1 < F' → i ≤ p → p ≤ n → w + a ≤ 200 → (∀ q : Nat, q < w → line q = line0 q) → (∀ i : Nat, i < a → GR (line (w + i)) (nl i)) →
      T2 (f_X4_readBehindLine_12 (nI n) bt (nI w) F (nI i) (nI a) 0 fp (nI p) (sg bt n p) line) (f_X12_list_35 tp F' 1 ft0 (nI p) (nI n) ft cm sm (nI a) now nl) (LiP w line0 now) := by
  intro F
  induction F with
  | zero => intro F' i p a fp ft line nl h; omega
  | succ F ih =>
    intro F' i p a fp ft line nl hF hF' hip hp hw hl hg
    obtain ⟨F', rfl⟩ : ∃ G, F' = G + 1 + 1 := ⟨F' - 2, by omega⟩
    have fault : ∀ (x : LR) (q : Int32) (pm : Int32) (nm : Int32) (nl' : Nat → Int32), x.2.2.1 ≠ 0 → (∀ q : Nat, q < w → x.2.2.2.2.2.2 q = line0 q) → T2 (some x) (f_X12_list_35 tp (F' + 1) 0 ft0 pm (nI n) ((-1000) * x.2.2.1 - x.2.2.2.1) cm sm nm now nl') (LiP w line0 now) := by
      intro x q pm nm nl' hx hq
      rw [f_X12_list_35, if_pos rfl]
      unfold f_X12_list_75
      rw [if_pos rfl]
      exact T2.ret (Or.inl ⟨hx, rfl, rfl, rfl, hq⟩)
    rw [f_X4_readBehindLine_12, if_neg (show ¬ (240 : Int32) ≤ nI i from nI_ge (b := 240) (by omega) (by decide)), pa0 (by omega) p (by decide), f_X12_list_35, if_neg i10]
    unfold f_X4_readBehindLine_42 f_X9_expectEnd
    by_cases e : n ≤ p
    · have e' : p = n := by omega
      rw [if_pos (nI_le e (by omega)), if_neg (show ¬ sg bt n p = 44 from by unfold sg; rw [if_neg (by omega)]; decide), bs, if_pos rfl, if_pos (nI_le e (by omega)), bs]
      unfold f_X12_list_75
      rw [if_neg i10]
      obtain ⟨now', m1, m2, m3, m4⟩ := l91 (tp := tp) (nl := nl) hw hnow (nI p) (nI n) ft cm sm
      rw [m1]
      exact T2.ret (Or.inr ⟨rfl, a, hw, rfl, rfl, rfl, hl, fun i hi => by show GR (line (w + i)) (now' (432 + w + i)); rw [m2 i hi]; exact hg i hi, m3, m4⟩)
    · rw [if_neg (nI_ge (by omega) (by omega))]
      unfold f_X12_takes
      rw [here1 hb (by omega) (by omega), bs]
      by_cases z : sg bt n p = 44
      · rw [if_pos z, if_pos z, bs, bs, if_neg i10, if_neg i10, nI_1, nI_1]
        rcases ldp0 hb hB (show n ≤ 260 by omega) hnow hw (show p + 1 ≤ n by omega) fp ft line nl with ⟨k, p', line', nl', x1, x2, x3, x4, x5, x6, x7, x8⟩ | ⟨f, q, pl, s, pm, hf, x1, x2⟩
        · rw [x1, x2, bs, bs, if_neg i10]
          refine ih (F' + 1) (i + 1) p' (a + k) fp ft line' nl' (by omega) (by omega) (by omega) x4 x5 (fun q hq => by rw [x7 q (by omega)]; exact hl q hq) (fun j hj => ?_)
          rcases Nat.lt_or_ge j a with y | y
          · rw [x7 (w + j) (by omega), x8 j y]; exact hg j y
          · obtain ⟨d, rfl⟩ : ∃ d, j = a + d := ⟨j - a, by omega⟩
            rw [show w + (a + d) = w + a + d by omega]
            exact x6 d (by omega)
        · rw [x1, x2, bs, bs, if_pos rfl]
          obtain ⟨F, rfl⟩ : ∃ G, F = G + 1 := ⟨F - 1, by omega⟩
          rw [f_X4_readBehindLine_12, paN hf, bs, if_pos rfl]
          unfold f_X4_readBehindLine_42 f_X9_expectEnd
          rw [faN hf, bs]
          have fin : ∀ o : Option (Int32 × Int32), o = some (f, q) → T2 (o.bind (fun z46 => some (nI a, nI a, z46.1, z46.2, pl, s, line))) (f_X12_list_35 tp (F' + 1) 0 ft0 pm (nI n) (-1000 * f - q) cm sm (nI a) now nl) (LiP w line0 now) := by
            rintro o rfl
            exact fault (nI a, nI a, f, q, pl, s, line) q pm (nI a) nl hf hl
          by_cases y : (240 : Int32) ≤ nI (i + 1)
          · rw [if_pos y]
            refine fin _ ?_
            split <;> rfl
          · rw [if_neg y]
            refine fin _ ?_
            split <;> rfl
      · rw [if_neg z, if_neg z, bs, if_pos rfl, if_neg (nI_ge (by omega) (by omega)), fa0, bs, bs]
        unfold f_X12_wrongAt
        rw [bs, bs, if_pos rfl]
        exact fault (nI a, nI a, 1, nI p, nI p, sg bt n p, line) 0 (nI p) (nI a) nl (show (1 : Int32) ≠ 0 by decide) hl
theorem pm_list {XA : Nat → Nat → Int32} {XI : Nat → Int32} {MA : Nat → Nat → Int32} {MI : Nat → Int32} (h : Inv XA XI MA MI) (x1 : Int32) : ∃ (rX : Int32 × Int32 × Int32 × Int32 × Int32 × Int32 × Int32 × Int32 × (Nat → Int32) × Int32) (rM : Int32 × Int32 × Int32 × Int32 × Int32 × Int32 × Int32 × Int32 × (Nat → Int32) × (Nat → Int32)), f_X11_list (XI 1) (XA 0) (XI 2) (XI 3) (XI 4) (XI 5) (XI 6) (XI 7) (XA 4) (XI 22) x1 = some rX ∧ f_X12_list (MI 0) (MI 1) (MI 2) (MI 3) (MI 6) (MI 8) (MI 10) (MA 0) (MA 3) (MA 17) x1 = some rM ∧ rX.1 = rM.1 ∧ Inv (va_up XA 4 rX.2.2.2.2.2.2.2.2.1) (va_up (va_up (va_up (va_up (va_up (va_up (va_up (va_up XI 1 rX.2.1) 2 rX.2.2.1) 3 rX.2.2.2.1) 4 rX.2.2.2.2.1) 5 rX.2.2.2.2.2.1) 6 rX.2.2.2.2.2.2.1) 7 rX.2.2.2.2.2.2.2.1) 22 rX.2.2.2.2.2.2.2.2.2) (va_up (va_up MA 0 rM.2.2.2.2.2.2.2.2.1) 17 rM.2.2.2.2.2.2.2.2.2) (va_up (va_up (va_up (va_up (va_up (va_up (va_up MI 0 rM.2.1) 1 rM.2.2.1) 2 rM.2.2.2.1) 3 rM.2.2.2.2.1) 6 rM.2.2.2.2.2.1) 8 rM.2.2.2.2.2.2.1) 10 rM.2.2.2.2.2.2.2.1) := by
  obtain ⟨⟨⟨n, hn, e1, e2⟩, hb⟩, hC, hk, hkk, hL⟩ := h
  obtain ⟨C1, C2, C3, ⟨w, hw, w1, w2, wG⟩, C5, C6, C7, C8⟩ := hC
  have hB : BY (XA 0) := fun k hk => by rw [hb k hk]; exact and255 _
  unfold f_X11_list f_X12_list f_X8_clear
  rw [e1, e2, w1]
  have samT : TpR (nI n) (XA 0) (nI n) (MA 3) := ⟨⟨n, hn, rfl, rfl⟩, hb⟩
  have sameC : ChR (XA 1) (XA 2) (XA 3) (XA 4) (nI w) (XI 8) (XI 9) (XI 10) (XI 11) (MA 0) := ⟨C1, C2, C3, ⟨w, hw, rfl, w2, wG⟩, C5, C6, C7, C8⟩
  have zT : TpR 0 (XA 0) 0 (MA 3) := ⟨⟨0, by decide, rfl, rfl⟩, hb⟩
  rcases holds_eq hn x1 1 120 (by decide) (by decide) with ⟨d1, d2⟩ | ⟨j, j1, j2, j3, rfl, d1, d2, d3, d4⟩
  · have d1 : f_X8_holds (nI n) x1 1 120 = some 0 := d1
    rw [d1, bs, if_pos rfl]
    rcases d2 with d2 | ⟨d2, d3, -⟩
    · have d2 : f_X12_in x1 1 120 = some 0 := d2
      rw [d2, bs, if_pos rfl]
      exact ⟨_, _, rfl, rfl, rfl, samT, sameC, hk, hkk, hL⟩
    · have d2 : f_X12_in x1 1 120 = some 1 := d2
      rw [d2, bs, if_neg i10, if_neg d3]
      exact ⟨_, _, rfl, rfl, rfl, samT, sameC, hk, hkk, hL⟩
  · have d1 : f_X8_holds (nI n) (nI j) 1 120 = some 1 := d1
    have d2 : f_X12_in (nI j) 1 120 = some 1 := d2
    rw [d1, d2, bs, bs, if_neg i10, if_neg i10, if_pos d3, opn _ _ _ _ _ _ j1 (by omega), bs]
    unfold f_X4_readBehindLine f_X12_beginsText
    rw [bs]
    suffices key : T2 ((f_X4_readPart 0 (nI j) 0 0 0 (sg (XA 0) j 0) (XA 0) (nI w) (XA 4)).bind (fun z7 => f_X4_readBehindLine_12 (nI j) (XA 0) (nI w) FU 0 z7.1 z7.2.1 z7.2.2.1 z7.2.2.2.1 z7.2.2.2.2.1 z7.2.2.2.2.2)) ((f_X12_readsPart 0 (nI j) (MI 3) 0 (MA 0) (MA 3) (MA 17)).bind (fun z31 => f_X12_list_35 (MA 3) FU z31.1 (nI n) z31.2.1 (nI j) z31.2.2.1 0 0 z31.2.2.2.1 (MA 0) z31.2.2.2.2)) (LiP w (XA 4) (MA 0)) by
      obtain ⟨⟨u1, u2, u3, u4, u5, u6, u7⟩, ⟨v1, v2, v3, v4, v5, v6, v7, v8, v9, v10⟩, p1, p2, p3⟩ := key
      rw [p1, p2, bs, bs]
      unfold f_X9_faultAnswer
      rcases p3 with ⟨g1, g2, g3, g4, g5⟩ | ⟨g1, a, g2, g3, g4, g5, g6, g7, g8, g9⟩
      · simp only at g1 g2 g3 g4 g5
        subst g2 g3 g4
        rw [hfN g1, bs, if_neg i10, bs]
        exact ⟨_, _, rfl, rfl, rfl, zT, ⟨C1, C2, C3, ⟨w, hw, rfl, w2, fun k hk => by show GR (u7 k) _; rw [g5 k hk]; exact wG k hk⟩, C5, C6, C7, C8⟩, hk, hkk, hL⟩
      · simp only at g1 g2 g3 g4 g5 g6 g7 g8 g9
        subst g1 g3 g4 g5
        rw [hf0, bs, if_pos rfl, la]
        refine ⟨_, _, rfl, rfl, rfl, zT, ⟨fun k hk => ?_, fun k hk => ?_, fun k hk => ?_, ⟨w + a, g2, rfl, g8, fun k hk => ?_⟩, ?_, ?_, ?_, ?_⟩, hk, hkk, hL⟩
        · show SR (XA 1 k) (v9 k); rw [g9 k (by omega)]; exact C1 k hk
        · show XA 2 k = v9 (144 + k); rw [g9 _ (by omega)]; exact C2 k hk
        · show XA 3 k = v9 (288 + k); rw [g9 _ (by omega)]; exact C3 k hk
        · show GR (u7 k) (v9 (432 + k))
          rcases Nat.lt_or_ge k w with y | y
          · rw [g6 k y, g9 _ (by omega)]; exact wG k y
          · obtain ⟨i, rfl⟩ : ∃ i, k = w + i := ⟨k - w, by omega⟩
            have := g7 i (by omega)
            rw [show 432 + (w + i) = 432 + w + i by omega]
            exact this
        · show XI 8 = v9 633; rw [g9 _ (by omega)]; exact C5
        · show XI 9 = v9 634; rw [g9 _ (by omega)]; exact C6
        · show XI 10 = v9 635; rw [g9 _ (by omega)]; exact C7
        · show XI 11 = v9 636; rw [g9 _ (by omega)]; exact C8
    rcases ldp0 hb hB (show j ≤ 260 by omega) w2 (show w + 0 ≤ 200 by omega) (Nat.zero_le j) 0 (MI 3) (XA 4) (MA 17) with ⟨k, p', line', nl', x1, x2, x3, x4, x5, x6, x7, x8⟩ | ⟨f, q, pl, s, pm, hf, x1, x2⟩
    · rw [show f_X4_readPart 0 (nI j) 0 0 0 (sg (XA 0) j 0) (XA 0) (nI w) (XA 4) = _ from x1, show f_X12_readsPart 0 (nI j) (MI 3) 0 (MA 0) (MA 3) (MA 17) = _ from x2, bs, bs]
      exact lLoop hb hB j2 w2 (XA 4) (nI n) 0 0 FU FU 0 p' (0 + k) 0 (MI 3) line' nl' (by unfold FU; omega) (by unfold FU; omega) (by omega) x4 x5 (fun q hq => x7 q (by omega)) (fun i hi => by
        have := x6 i (by omega)
        rw [Nat.add_zero, Nat.zero_add] at this
        exact this)
    · rw [show f_X4_readPart 0 (nI j) 0 0 0 (sg (XA 0) j 0) (XA 0) (nI w) (XA 4) = _ from x1, show f_X12_readsPart 0 (nI j) (MI 3) 0 (MA 0) (MA 3) (MA 17) = _ from x2, bs, bs]
      rw [show FU = 9999 + 1 from rfl, f_X4_readBehindLine_12, f_X12_list_35, if_pos rfl, if_neg (show ¬ (240 : Int32) ≤ 0 by decide), paN hf, bs, if_pos rfl]
      unfold f_X4_readBehindLine_42 f_X9_expectEnd f_X12_list_75
      rw [faN hf, bs, if_pos rfl]
      refine ⟨(nI 0, nI 0, f, q, pl, s, XA 4), _, ?_, rfl, Or.inl ⟨hf, rfl, rfl, rfl, fun _ _ => rfl⟩⟩
      split <;> rfl
