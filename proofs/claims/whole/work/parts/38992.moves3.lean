/-! moves, whole -/
abbrev MvX := Int32 × Int32 × Int32 × Int32 × Int32 × Int32 × Int32 × (Nat → Int32) × (Nat → Int32)
abbrev MvM := Int32 × Int32 × Int32 × Int32 × Int32 × Int32 × Int32 × Int32 × Int32 × (Nat → Int32) × (Nat → Int32)
def MvP (now0 aside : Nat → Int32) (x : MvX) (y : MvM) : Prop :=
  (x.2.2.1 ≠ 0 ∧ y.1 = (-1000) * x.2.2.1 - x.2.2.2.1 ∧ y.2.1 = 0 ∧ ∀ k : Nat, k < 637 → y.2.2.2.2.2.2.2.2.2.1 k = aside k) ∨
  (x.2.2.1 = 0 ∧ y.1 = x.1 ∧ y.2.1 = 0 ∧ MR x.2.2.2.2.2.2.2.1 x.2.2.2.2.2.2.2.2 x.2.2.2.2.2.2.1 y.2.2.2.2.2.2.2.2.2.1 now0)
theorem mvLoop {bt tp : Nat → Int32} (hb : ∀ k : Nat, k < 260 → bt k = tp k &&& 255) (hB : BY bt) {n : Nat} (hn : n ≤ 120) (now0 aside : Nat → Int32) (ft0 cm sm : Int32) :
    ∀ (F F' i p li : Nat) (fp ft nu0 st : Int32) (g nu now : Nat → Int32), n - p < F → n - p + 1 < F' → i ≤ p → p ≤ n → li ≤ 20 → MR g nu st now now0 →
      T2 (f_X6_readAndMove_12 (nI n) bt F (nI i) (nI li) 0 fp (nI p) (sg bt n p) st g nu) (f_X12_moves_46 tp F' 1 ft0 (nI p) (nI n) ft nu0 cm sm (nI li) now aside) (MvP now0 aside) := by
  intro F
  induction F with
  | zero => intro F' i p li fp ft nu0 st g nu now h; omega
  | succ F ih =>
    intro F' i p li fp ft nu0 st g nu now hF hF' hip hp hli hR
    obtain ⟨F', rfl⟩ : ∃ G, F' = G + 1 + 1 := ⟨F' - 2, by omega⟩
    have fault : ∀ (x : MvX) (pm nm lm : Int32) (now' : Nat → Int32), x.2.2.1 ≠ 0 → T2 (some x) (f_X12_moves_46 tp (F' + 1) 0 ft0 pm (nI n) ((-1000) * x.2.2.1 - x.2.2.2.1) nm cm sm lm now' aside) (MvP now0 aside) := by
      intro x pm nm lm now' hx
      rw [f_X12_moves_46, if_pos rfl]
      unfold f_X12_moves_86
      obtain ⟨z, ez, hz⟩ := copies_eq aside now'
      rw [if_pos rfl, ez, bs]
      exact T2.ret (Or.inl ⟨hx, rfl, rfl, hz⟩)
    rw [f_X6_readAndMove_12, if_neg (show ¬ (240 : Int32) ≤ nI i from nI_ge (b := 240) (by omega) (by decide)), pa0 (by omega) p (by decide), f_X12_moves_46, if_neg i10]
    unfold f_X6_readAndMove_42 f_X9_expectEnd
    by_cases e : n ≤ p
    · rw [if_pos (nI_le e (by omega)), if_neg (show ¬ sg bt n p = 59 from by unfold sg; rw [if_neg (by omega)]; decide), bs, if_pos rfl, if_pos (nI_le e (by omega)), bs]
      unfold f_X12_moves_86
      rw [if_neg i10]
      exact T2.ret (Or.inr ⟨rfl, rfl, rfl, hR⟩)
    · rw [if_neg (nI_ge (by omega) (by omega))]
      unfold f_X12_takes
      rw [here1 hb (by omega) (by omega), bs]
      by_cases z : sg bt n p = 59
      · rw [if_pos z, if_pos z, bs, bs, if_neg i10, if_neg i10, nI_1, nI_1]
        rcases mvLine hb hB (show n ≤ 260 by omega) (show p + 1 ≤ n by omega) hli fp ft nu0 hR with ⟨p', nm, st', g', nu', now', x1, x2, x3, x4, x5, x6⟩ | ⟨li', f, q, pl, s, st', g', nu', pm, nm, lm, now', hf, x1, x2⟩
        · rw [x1, x2, bs, bs, if_neg i10]
          exact ih (F' + 1) (i + 1) p' (li + 1) fp ft nm st' g' nu' now' (by omega) (by omega) (by omega) x4 x5 x6
        · rw [x1, x2, bs, bs, if_pos rfl]
          obtain ⟨F, rfl⟩ : ∃ G, F = G + 1 := ⟨F - 1, by omega⟩
          rw [f_X6_readAndMove_12, paN hf, bs, if_pos rfl]
          unfold f_X6_readAndMove_42 f_X9_expectEnd
          rw [faN hf, bs]
          have fin : ∀ o : Option (Int32 × Int32), o = some (f, q) → T2 (o.bind (fun z46 => some (li', li', z46.1, z46.2, pl, s, st', g', nu'))) (f_X12_moves_46 tp (F' + 1) 0 ft0 pm (nI n) (-1000 * f - q) nm cm sm lm now' aside) (MvP now0 aside) := by
            rintro o rfl
            exact fault (li', li', f, q, pl, s, st', g', nu') pm nm lm now' hf
          by_cases y : (240 : Int32) ≤ nI (i + 1)
          · rw [if_pos y]
            refine fin _ ?_
            split <;> rfl
          · rw [if_neg y]
            refine fin _ ?_
            split <;> rfl
      · rw [if_neg z, if_neg z, bs, if_pos rfl, if_neg (nI_ge (by omega) (by omega)), fa0, bs, bs]
        unfold f_X12_wrongAt
        rw [bs, bs, if_pos rfl]
        exact fault (nI li, nI li, 1, nI p, nI p, sg bt n p, st, g, nu) (nI p) nu0 (nI li) now (show (1 : Int32) ≠ 0 by decide)
theorem pm_moves {XA : Nat → Nat → Int32} {XI : Nat → Int32} {MA : Nat → Nat → Int32} {MI : Nat → Int32} (h : Inv XA XI MA MI) (x1 : Int32) : ∃ (rX : Int32 × Int32 × Int32 × Int32 × Int32 × Int32 × Int32 × Int32 × Int32 × Int32 × Int32 × Int32 × (Nat → Int32) × (Nat → Int32) × (Nat → Int32) × (Nat → Int32) × Int32 × Int32 × Int32 × Int32 × Int32 × (Nat → Int32) × (Nat → Int32) × (Nat → Int32) × (Nat → Int32) × Int32) (rM : Int32 × Int32 × Int32 × Int32 × Int32 × Int32 × Int32 × Int32 × Int32 × (Nat → Int32) × (Nat → Int32)), f_X11_moves (XI 1) (XA 0) (XI 2) (XI 3) (XI 4) (XI 5) (XI 6) (XI 7) (XI 8) (XI 9) (XI 10) (XI 11) (XA 1) (XA 2) (XA 3) (XA 4) (XI 17) (XI 18) (XI 19) (XI 20) (XI 21) (XA 9) (XA 10) (XA 11) (XA 12) (XI 23) x1 = some rX ∧ f_X12_moves (MI 0) (MI 1) (MI 2) (MI 3) (MI 4) (MI 6) (MI 8) (MI 11) (MA 0) (MA 1) (MA 3) x1 = some rM ∧ rX.1 = rM.1 ∧ Inv (va_up (va_up (va_up (va_up (va_up (va_up (va_up (va_up XA 1 rX.2.2.2.2.2.2.2.2.2.2.2.2.1) 2 rX.2.2.2.2.2.2.2.2.2.2.2.2.2.1) 3 rX.2.2.2.2.2.2.2.2.2.2.2.2.2.2.1) 4 rX.2.2.2.2.2.2.2.2.2.2.2.2.2.2.2.1) 9 rX.2.2.2.2.2.2.2.2.2.2.2.2.2.2.2.2.2.2.2.2.2.1) 10 rX.2.2.2.2.2.2.2.2.2.2.2.2.2.2.2.2.2.2.2.2.2.2.1) 11 rX.2.2.2.2.2.2.2.2.2.2.2.2.2.2.2.2.2.2.2.2.2.2.2.1) 12 rX.2.2.2.2.2.2.2.2.2.2.2.2.2.2.2.2.2.2.2.2.2.2.2.2.1) (va_up (va_up (va_up (va_up (va_up (va_up (va_up (va_up (va_up (va_up (va_up (va_up (va_up (va_up (va_up (va_up (va_up XI 1 rX.2.1) 2 rX.2.2.1) 3 rX.2.2.2.1) 4 rX.2.2.2.2.1) 5 rX.2.2.2.2.2.1) 6 rX.2.2.2.2.2.2.1) 7 rX.2.2.2.2.2.2.2.1) 8 rX.2.2.2.2.2.2.2.2.1) 9 rX.2.2.2.2.2.2.2.2.2.1) 10 rX.2.2.2.2.2.2.2.2.2.2.1) 11 rX.2.2.2.2.2.2.2.2.2.2.2.1) 17 rX.2.2.2.2.2.2.2.2.2.2.2.2.2.2.2.2.1) 18 rX.2.2.2.2.2.2.2.2.2.2.2.2.2.2.2.2.2.1) 19 rX.2.2.2.2.2.2.2.2.2.2.2.2.2.2.2.2.2.2.1) 20 rX.2.2.2.2.2.2.2.2.2.2.2.2.2.2.2.2.2.2.2.1) 21 rX.2.2.2.2.2.2.2.2.2.2.2.2.2.2.2.2.2.2.2.2.1) 23 rX.2.2.2.2.2.2.2.2.2.2.2.2.2.2.2.2.2.2.2.2.2.2.2.2.2) (va_up (va_up MA 0 rM.2.2.2.2.2.2.2.2.2.1) 1 rM.2.2.2.2.2.2.2.2.2.2) (va_up (va_up (va_up (va_up (va_up (va_up (va_up (va_up MI 0 rM.2.1) 1 rM.2.2.1) 2 rM.2.2.2.1) 3 rM.2.2.2.2.1) 4 rM.2.2.2.2.2.1) 6 rM.2.2.2.2.2.2.1) 8 rM.2.2.2.2.2.2.2.1) 11 rM.2.2.2.2.2.2.2.2.1) := by
  obtain ⟨⟨⟨n, hn, e1, e2⟩, hb⟩, hC, hk, hkk, hL⟩ := h
  have hB : BY (XA 0) := fun k hk => by rw [hb k hk]; exact and255 _
  have hC0 := hC
  obtain ⟨C1, C2, C3, ⟨w, hw, w1, w2, wG⟩, C5, C6, C7, C8⟩ := hC
  unfold f_X11_moves f_X12_moves f_X8_clear
  rw [e1, e2]
  have samT : TpR (nI n) (XA 0) (nI n) (MA 3) := ⟨⟨n, hn, rfl, rfl⟩, hb⟩
  have zT : TpR 0 (XA 0) 0 (MA 3) := ⟨⟨0, by decide, rfl, rfl⟩, hb⟩
  rcases holds_eq hn x1 1 120 (by decide) (by decide) with ⟨d1, d2⟩ | ⟨j, j1, j2, j3, rfl, d1, d2, d3, d4⟩
  · have d1 : f_X8_holds (nI n) x1 1 120 = some 0 := d1
    rw [d1, bs, if_pos rfl]
    rcases d2 with d2 | ⟨d2, d3, -⟩
    · have d2 : f_X12_in x1 1 120 = some 0 := d2
      rw [d2, bs, if_pos rfl]
      exact ⟨_, _, rfl, rfl, rfl, samT, hC0, hk, hkk, hL⟩
    · have d2 : f_X12_in x1 1 120 = some 1 := d2
      rw [d2, bs, if_neg i10, if_neg d3]
      exact ⟨_, _, rfl, rfl, rfl, samT, hC0, hk, hkk, hL⟩
  · have d1 : f_X8_holds (nI n) (nI j) 1 120 = some 1 := d1
    have d2 : f_X12_in (nI j) 1 120 = some 1 := d2
    obtain ⟨aside, ea, ha⟩ := copies_eq (MA 0) (MA 1)
    rw [d1, d2, bs, bs, if_neg i10, if_neg i10, if_pos d3, opn _ _ _ _ _ _ j1 (by omega), bs, copyFrom_eq, bs]
    unfold f_X6_readAndMove f_X12_beginsText
    rw [bs, ea, bs]
    have hR : MR (va_cpy (XA 1) (XA 9) 0 0 144) (va_cpy (XA 2) (XA 10) 0 0 144) (XI 9) (MA 0) (MA 0) := ⟨fun k hk => by rw [cpy_in _ _ hk]; exact C1 k hk, fun k hk => by rw [cpy_in _ _ hk]; exact C2 k hk, C6, fun _ _ _ => rfl⟩
    generalize va_cpy (XA 1) (XA 9) 0 0 144 = g0 at hR
    generalize va_cpy (XA 2) (XA 10) 0 0 144 = n0 at hR
    suffices key : T2 ((f_X6_readLine 0 (nI j) 0 0 0 (sg (XA 0) j 0) (XA 0) (XI 9) g0 n0).bind (fun z7 => f_X6_readAndMove_12 (nI j) (XA 0) FU 0 z7.1 z7.2.1 z7.2.2.1 z7.2.2.2.1 z7.2.2.2.2.1 z7.2.2.2.2.2.1 z7.2.2.2.2.2.2.1 z7.2.2.2.2.2.2.2)) ((f_X12_readsMove 0 (nI j) (MI 3) (MI 4) 0 (MA 0) (MA 3)).bind (fun z42 => f_X12_moves_46 (MA 3) FU z42.1 (nI n) z42.2.1 (nI j) z42.2.2.1 z42.2.2.2.1 0 0 z42.2.2.2.2.1 z42.2.2.2.2.2 aside)) (MvP (MA 0) aside) by
      obtain ⟨⟨u1, u2, u3, u4, u5, u6, u7, u8, u9⟩, ⟨v1, v2, v3, v4, v5, v6, v7, v8, v9, v10, v11⟩, p1, p2, p3⟩ := key
      rw [p1, p2, bs, bs]
      unfold f_X9_faultAnswer
      rcases p3 with ⟨g1, g2, g3, g4⟩ | ⟨g1, g2, g3, g4⟩
      · simp only at g1 g2 g3 g4
        subst g2 g3
        rw [hfN g1, bs, if_neg i10, bs]
        exact ⟨_, _, rfl, rfl, rfl, zT, hC0.cong (fun _ _ => rfl) (fun _ _ => rfl) (fun _ _ => rfl) (fun _ _ => rfl) (fun k hk => by show v10 k = _; rw [g4 k hk, ha k hk]), hk, hkk, hL⟩
      · simp only at g1 g2 g3 g4
        subst g1 g2 g3
        obtain ⟨q1, q2, q3, q4⟩ := g4
        rw [hf0, bs, if_pos rfl, copyFrom_eq, bs]
        refine ⟨_, _, rfl, rfl, rfl, zT, ⟨fun k hk => ?_, fun k hk => ?_, fun k hk => ?_, ⟨w, hw, w1, ?_, fun k hk => ?_⟩, ?_, ?_, ?_, ?_⟩, hk, hkk, hL⟩
        · show SR (va_cpy u8 (XA 1) 0 0 144 k) (v10 k); rw [cpy_in _ _ hk]; exact q1 k hk
        · show va_cpy u9 (XA 2) 0 0 144 k = v10 (144 + k); rw [cpy_in _ _ hk]; exact q2 k hk
        · show va_cpy (va_cpy (XA 3) (XA 11) 0 0 144) (XA 3) 0 0 144 k = v10 (288 + k); rw [cpy_in _ _ hk, cpy_in _ _ hk, q4 _ (by omega) (by omega)]; exact C3 k hk
        · show v10 632 = nI w; rw [q4 _ (by omega) (by omega)]; exact w2
        · show GR (va_cpy (va_cpy (XA 4) (XA 12) 0 0 200) (XA 4) 0 0 200 k) (v10 (432 + k)); rw [cpy_in _ _ (by omega), cpy_in _ _ (by omega), q4 _ (by omega) (by omega)]; exact wG k hk
        · show XI 8 = v10 633; rw [q4 _ (by omega) (by omega)]; exact C5
        · exact q3
        · show XI 10 = v10 635; rw [q4 _ (by omega) (by omega)]; exact C7
        · show XI 11 = v10 636; rw [q4 _ (by omega) (by omega)]; exact C8
    rcases mvLine hb hB (show j ≤ 260 by omega) (Nat.zero_le j) (show 0 ≤ 20 by omega) 0 (MI 3) (MI 4) hR with ⟨p', nm, st', g', nu', now', x1, x2, x3, x4, x5, x6⟩ | ⟨li', f, q, pl, s, st', g', nu', pm, nm, lm, now', hf, x1, x2⟩
    · rw [show f_X6_readLine 0 (nI j) 0 0 0 (sg (XA 0) j 0) (XA 0) (XI 9) g0 n0 = _ from x1, show f_X12_readsMove 0 (nI j) (MI 3) (MI 4) 0 (MA 0) (MA 3) = _ from x2, bs, bs]
      exact mvLoop hb hB j2 (MA 0) aside (nI n) 0 0 FU FU 0 p' (0 + 1) 0 (MI 3) nm st' g' nu' now' (by unfold FU; omega) (by unfold FU; omega) (by omega) x4 x5 x6
    · rw [show f_X6_readLine 0 (nI j) 0 0 0 (sg (XA 0) j 0) (XA 0) (XI 9) g0 n0 = _ from x1, show f_X12_readsMove 0 (nI j) (MI 3) (MI 4) 0 (MA 0) (MA 3) = _ from x2, bs, bs]
      obtain ⟨z, ez, hz⟩ := copies_eq aside now'
      rw [show FU = 9999 + 1 from rfl, f_X6_readAndMove_12, f_X12_moves_46, if_pos rfl, if_neg (show ¬ (240 : Int32) ≤ 0 by decide), paN hf, bs, if_pos rfl]
      unfold f_X6_readAndMove_42 f_X9_expectEnd f_X12_moves_86
      rw [faN hf, bs, if_pos rfl, ez, bs]
      refine ⟨(li', li', f, q, pl, s, st', g', nu'), _, ?_, rfl, Or.inl ⟨hf, rfl, rfl, hz⟩⟩
      split <;> rfl
