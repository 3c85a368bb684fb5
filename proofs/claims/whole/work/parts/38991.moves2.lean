/-! moves, the lines -/
def MR (g nu : Nat → Int32) (st : Int32) (now now0 : Nat → Int32) : Prop := (∀ k : Nat, k < 144 → SR (g k) (now k)) ∧ (∀ k : Nat, k < 144 → nu k = now (144 + k)) ∧ st = now 634 ∧ ∀ k : Nat, 288 ≤ k → k ≠ 634 → now k = now0 k
theorem rsN {f : Int32} (h : f ≠ 0) (e fp pl s : Int32) (bt g : Nat → Int32) (x2 : Int32) : f_X6_readSeat e f fp pl s bt g x2 = some (0, f, fp, pl, s) := by
  unfold f_X6_readSeat
  rw [hfN h, bs, if_neg i10]
theorem rl76N {f : Int32} (h : f ≠ 0) (e : Int32) (bt : Nat → Int32) (x2 y0 li fp pl s st : Int32) (g nu : Nat → Int32) : f_X6_readLine_76 e bt x2 y0 li f fp pl s st g nu = some (li + 1, f, fp, pl, s, st, g, nu) := by
  unfold f_X6_readLine_76 f_X6_readLine_98
  rw [rsN h, bs, hfN h, bs, if_neg i10]
theorem rl34N {f : Int32} (h : f ≠ 0) (e : Int32) (bt : Nat → Int32) (li fp pl s st : Int32) (g nu : Nat → Int32) : f_X6_readLine_34 e bt li f fp pl s st g nu = some (li + 1, f, fp, pl, s, st, g, nu) := by
  unfold f_X6_readLine_34
  rw [rsN h, bs, chN h, bs, if_neg (show ¬ (-1 : Int32) = 2 by decide), if_neg (show ¬ (-1 : Int32) = 1 by decide), rl76N h]
/-- behind a seat with a fault -/
theorem rl34F {e fp pl s : Int32} {bt : Nat → Int32} {v f q pl' s' : Int32} (li st : Int32) (g nu : Nat → Int32) (h : f ≠ 0) (hs : f_X6_readSeat e 0 fp pl s bt g 1 = some (v, f, q, pl', s')) : f_X6_readLine_34 e bt li 0 fp pl s st g nu = some (li + 1, f, q, pl', s', st, g, nu) := by
  unfold f_X6_readLine_34
  rw [hs, bs, chN h, bs, if_neg (show ¬ (-1 : Int32) = 2 by decide), if_neg (show ¬ (-1 : Int32) = 1 by decide), rl76N h]
abbrev MoX := Option (Int32 × Int32 × Int32 × Int32 × Int32 × Int32 × (Nat → Int32) × (Nat → Int32))
abbrev MoM := Option (Int32 × Int32 × Int32 × Int32 × Int32 × (Nat → Int32))
def MO (X : MoX) (M : MoM) (bt : Nat → Int32) (n p li : Nat) (fp ft : Int32) (now0 : Nat → Int32) : Prop :=
  (∃ p' nm st' g' nu' now', X = some (nI (li + 1), 0, fp, nI p', sg bt n p', st', g', nu') ∧ M = some (1, nI p', ft, nm, nI (li + 1), now') ∧ p < p' ∧ p' ≤ n ∧ li + 1 ≤ 20 ∧ MR g' nu' st' now' now0) ∨
  (∃ li' f q pl s st' g' nu' pm nm lm now', f ≠ 0 ∧ X = some (li', f, q, pl, s, st', g', nu') ∧ M = some (0, pm, (-1000) * f - q, nm, lm, now'))
theorem c33 {c : Nat} (h : c < 256) : (wh 9 (nI c) = -1 ∧ nI c ≠ 62 ∧ nI c ≠ 61 ∧ nI c ≠ 33) ∨ (wh 9 (nI c) = 0 ∧ nI c = 62) ∨ (wh 9 (nI c) = 1 ∧ nI c = 61) ∨ (wh 9 (nI c) = 2 ∧ nI c = 33) := by
  have e := (wh_b h).2.2.2.2
  by_cases a : c = 62
  · rw [if_pos a] at e; exact Or.inr (Or.inl ⟨e, by rw [a]; rfl⟩)
  · rw [if_neg a] at e
    by_cases b : c = 61
    · rw [if_pos b] at e; exact Or.inr (Or.inr (Or.inl ⟨e, by rw [b]; rfl⟩))
    · rw [if_neg b] at e
      by_cases d : c = 33
      · rw [if_pos d] at e; exact Or.inr (Or.inr (Or.inr ⟨e, by rw [d]; rfl⟩))
      · rw [if_neg d] at e
        exact Or.inl ⟨e, fun q => a ((nlit h 62 (by decide)).mp q), fun q => b ((nlit h 61 (by decide)).mp q), fun q => d ((nlit h 33 (by decide)).mp q)⟩
theorem xch {g nu now now0 : Nat → Int32} {st : Int32} (h : MR g nu st now now0) {a b : Nat} (ha : a < 144) (hb : b < 144) (e : Int32) (bt tp : Nat → Int32) (li fp pl s pm ft : Int32) (lm : Int32) (n0 : Int32) :
    ∃ g' nu' now', (f_X0_exchange g nu (nI a) (nI b)).bind (fun z95 => f_X6_readLine_98 e bt li 0 fp pl s st z95.1 z95.2) = some (li + 1, 0, fp, pl, s, st, g', nu') ∧ f_X12_readsMove_223 n0 tp (nI a) pm ft (nI b) lm now = some (1, pm, ft, nI b, lm, now') ∧ MR g' nu' st now' now0 := by
  have sa : f_X11_isSeat (nI a) = some 1 := by rw [isSeat_eq]; exact (wi1 (n := 143) (by omega) (by decide)).1
  have sb : f_X11_isSeat (nI b) = some 1 := by rw [isSeat_eq]; exact (wi1 (n := 143) (by omega) (by decide)).1
  unfold f_X0_exchange f_X6_readLine_98 f_X12_readsMove_223 f_X12_swaps
  rw [sa, sb, bs, bs, if_neg i10, if_neg i10, Int32.zero_add, Int32.zero_add, show (144 : Int32) + nI a = nI (144 + a) from la 144 a, show (144 : Int32) + nI b = nI (144 + b) from la 144 b]
  simp only [ixn (show a < 144 by omega) (show 144 < 2 ^ 31 by decide), ixn (show b < 144 by omega) (show 144 < 2 ^ 31 by decide), ixn (show a < 637 by omega) (show 637 < 2 ^ 31 by decide), ixn (show b < 637 by omega) (show 637 < 2 ^ 31 by decide), ixn (show 144 + a < 637 by omega) (show 637 < 2 ^ 31 by decide), ixn (show 144 + b < 637 by omega) (show 637 < 2 ^ 31 by decide), nI_clamp (show a < 2 ^ 31 by omega), nI_clamp (show b < 2 ^ 31 by omega), nI_clamp (show 144 + a < 2 ^ 31 by omega), nI_clamp (show 144 + b < 2 ^ 31 by omega), bs]
  obtain ⟨h1, h2, h3, h4⟩ := h
  refine ⟨_, _, _, rfl, rfl, fun k hk => ?_, fun k hk => ?_, ?_, fun k hk hk2 => ?_⟩
  · rw [upd_n (show k ≠ 144 + b by omega), upd_n (show k ≠ 144 + a by omega)]
    by_cases e1 : k = b
    · rw [e1, upd_s, upd_s]; exact h1 a ha
    · rw [upd_n e1, upd_n e1]
      by_cases e2 : k = a
      · rw [e2, upd_s, upd_s]; exact h1 b hb
      · rw [upd_n e2, upd_n e2]; exact h1 k hk
  · have na : (upd (upd now a (now b)) b (now a)) (144 + a) = now (144 + a) := by rw [upd_n (by omega), upd_n (by omega)]
    have nb : (upd (upd now a (now b)) b (now a)) (144 + b) = now (144 + b) := by rw [upd_n (by omega), upd_n (by omega)]
    rw [na, nb]
    by_cases e1 : k = b
    · rw [e1, upd_s, upd_s, h2 a ha]
    · rw [upd_n e1, upd_n (show 144 + k ≠ 144 + b by omega)]
      by_cases e2 : k = a
      · rw [e2, upd_s, upd_s, h2 b hb]
      · rw [upd_n e2, upd_n (show 144 + k ≠ 144 + a by omega), upd_n (show 144 + k ≠ b by omega), upd_n (show 144 + k ≠ a by omega)]; exact h2 k hk
  · rw [upd_n (show 634 ≠ 144 + b by omega), upd_n (show 634 ≠ 144 + a by omega), upd_n (show 634 ≠ b by omega), upd_n (show 634 ≠ a by omega)]; exact h3
  · rw [upd_n (show k ≠ 144 + b by omega), upd_n (show k ≠ 144 + a by omega), upd_n (show k ≠ b by omega), upd_n (show k ≠ a by omega)]; exact h4 k hk hk2
theorem mvLine {bt tp : Nat → Int32} (hb : ∀ k : Nat, k < 260 → bt k = tp k &&& 255) (hB : BY bt) {n p li : Nat} (hn : n ≤ 260) (hp : p ≤ n) (hli : li ≤ 20) (fp ft nu0 : Int32) {g nu now now0 : Nat → Int32} {st : Int32} (h : MR g nu st now now0) :
    MO (f_X6_readLine (nI li) (nI n) 0 fp (nI p) (sg bt n p) bt st g nu) (f_X12_readsMove (nI p) (nI n) ft nu0 (nI li) now tp) bt n p li fp ft now0 := by
  have bad : ∀ {li' f q pl s st' : Int32} {g' nu' : Nat → Int32} {pm nm lm : Int32} {now' : Nat → Int32}, f ≠ 0 → MO (some (li', f, q, pl, s, st', g', nu')) (some (0, pm, (-1000) * f - q, nm, lm, now')) bt n p li fp ft now0 := fun hf => Or.inr ⟨_, _, _, _, _, _, _, _, _, _, _, _, hf, rfl, rfl⟩
  have tkx : ∀ v : Nat, v < 144 → f_X12_isTaken now (nI v) = some (if g v = -1 then 0 else 1) := fun v hv => by
    rw [mT now (by omega)]
    by_cases e : g v = -1
    · rw [if_pos e, if_pos ((h.1 v hv).iff.mp e)]
    · rw [if_neg e, if_neg (fun z => e ((h.1 v hv).iff.mpr z))]
  unfold f_X6_readLine f_X12_readsMove
  by_cases l20 : li = 20
  · subst l20
    rw [if_neg (by decide)]
    rcases digC hb hB hn (q := p) (by omega) with ⟨a, c, c2⟩ | ⟨_, _, c, c2, _⟩
    · rw [c, c2, bs, bs, if_pos rfl, if_pos rfl]
      rcases seat2 hb hB hn hp fp ft nu0 1 (Or.inr rfl) g with ⟨v, f, q, pl, s, pm, nm, hf, x1, x2⟩ | ⟨v, p', _, _, _, x2, _⟩
      · rw [rl34F _ _ _ _ hf x1]
        unfold f_X12_readsSeat at x2
        rw [c, bs, if_pos rfl] at x2
        unfold f_X12_wrongAt at x2 ⊢
        have e2 := congrArg (fun o => o.map (fun z : Int32 × Int32 × Int32 × Int32 => z.2.2.1)) x2
        have e3 : (-1000 : Int32) * 1 - nI p = (-1000) * f - q := Option.some.inj e2
        rw [bs]
        show MO _ (some (0, nI p, (-1000) * 1 - nI p, nu0, nI 20, now)) _ _ _ _ _ _ _
        rw [e3]
        exact bad hf
      · unfold f_X12_readsSeat at x2
        rw [c, bs, if_pos rfl] at x2
        unfold f_X12_wrongAt at x2
        have e2 : (0 : Int32) = 1 := congrArg (fun o => (o.getD (5, 5, 5, 5)).1) x2
        exact absurd e2 (by decide)
    · rw [c, c2, bs, bs, if_neg i10, if_neg i10, fa0, bs, rl34N (show (4 : Int32) ≠ 0 by decide), if_pos (show nI 20 = 20 from rfl)]
      exact bad (show (4 : Int32) ≠ 0 by decide)
  · rw [if_pos (show nI li < 20 from nI_lt (b := 20) (by omega) (by decide))]
    rcases seat2 hb hB hn hp fp ft nu0 1 (Or.inr rfl) g with ⟨v, f, q, pl, s, pm, nm, hf, x1, x2⟩ | ⟨v, p', hv, hp', hpn, x2, x1⟩
    · rw [rl34F _ _ _ _ hf x1]
      rcases digC hb hB hn (q := p) (by omega) with ⟨a, c, c2⟩ | ⟨_, _, c, c2, _⟩
      · unfold f_X12_readsSeat at x2
        rw [c, bs, if_pos rfl] at x2
        unfold f_X12_wrongAt at x2 ⊢
        have e2 := congrArg (fun o => o.map (fun z : Int32 × Int32 × Int32 × Int32 => z.2.2.1)) x2
        have e3 : (-1000 : Int32) * 1 - nI p = (-1000) * f - q := Option.some.inj e2
        rw [c, bs, if_pos rfl, bs]
        show MO _ (some (0, nI p, (-1000) * 1 - nI p, nu0, nI li, now)) _ _ _ _ _ _ _
        rw [e3]
        exact bad hf
      · rw [c, bs, if_neg i10, if_neg (show ¬ nI li = 20 from fun z => l20 (nI_inj (by omega) (by decide) (show nI li = nI 20 from z))), x2, bs, if_pos rfl]
        exact bad hf
    · have c : f_X12_isDigit (nI p) (nI n) tp = some 1 := by
        rcases digC hb hB hn (q := p) (by omega) with ⟨a, c, c2⟩ | ⟨_, _, c, c2, _⟩
        · unfold f_X12_readsSeat at x2
          rw [c, bs, if_pos rfl] at x2
          unfold f_X12_wrongAt at x2
          have e2 : (0 : Int32) = 1 := congrArg (fun o => (o.getD (5, 5, 5, 5)).1) x2
          exact absurd e2 (by decide)
        · exact c
      rw [c, bs, if_neg i10, if_neg (show ¬ nI li = 20 from fun z => l20 (nI_inj (by omega) (by decide) (show nI li = nI 20 from z))), x2, bs, if_neg i10, tkx v hv, bs]
      by_cases t : g v = -1
      · rw [if_pos t] at x1 ⊢
        rw [if_neg (show ¬ (0 : Int32) = 1 by decide), if_neg i10] at x1
        rw [if_pos rfl, rl34F _ _ _ _ (show (7 : Int32) ≠ 0 by decide) x1]
        exact bad (show (7 : Int32) ≠ 0 by decide)
      · rw [if_neg t] at x1 ⊢
        rw [if_pos rfl] at x1
        rw [if_neg i10, here1 hb hn (by omega), bs]
        unfold f_X6_readLine_34
        rw [x1, bs, ch0 hn]
        rcases sgC hB hn p' with ⟨e, _⟩ | ⟨cc, hc, e, hq⟩
        · rw [e, whm, if_pos rfl, bs, if_neg (show ¬ (-1 : Int32) = 2 by decide), if_neg (show ¬ (-1 : Int32) = 1 by decide), rl76N (show (1 : Int32) ≠ 0 by decide), if_neg (by decide), if_neg (by decide), if_neg (by decide)]
          exact bad (show (1 : Int32) ≠ 0 by decide)
        · rw [e]
          rcases c33 hc with ⟨k1, k2, k3, k4⟩ | ⟨k1, k2⟩ | ⟨k1, k2⟩ | ⟨k1, k2⟩
          · rw [k1, if_pos rfl, bs, if_neg (show ¬ (-1 : Int32) = 2 by decide), if_neg (show ¬ (-1 : Int32) = 1 by decide), rl76N (show (1 : Int32) ≠ 0 by decide), if_neg k2, if_neg k3, if_neg k4]
            exact bad (show (1 : Int32) ≠ 0 by decide)
          · -- to a free seat
            rw [k1, k2, if_neg (show ¬ (0 : Int32) = -1 by decide), bs, if_neg (show ¬ (0 : Int32) = 2 by decide), if_neg (show ¬ (0 : Int32) = 1 by decide), if_pos rfl]
            unfold f_X6_readLine_76 f_X12_readsMove_104
            rw [if_neg (show ¬ (62 : Int32) = 33 by decide), nI_1, nI_1]
            rcases seat2 hb hB hn (show p' + 1 ≤ n by omega) fp ft (nI v) 0 (Or.inl rfl) g with ⟨v', f, q, pl, s, pm, nm, hf, y1, y2⟩ | ⟨v', q', hv', hq1, hq2, y2, y1⟩
            · rw [y1, y2, bs, bs, if_pos rfl, hfN hf, bs, if_neg i10]
              exact bad hf
            · rw [y2, bs, if_neg i10, if_neg (show ¬ (62 : Int32) = 61 by decide)]
              unfold f_X12_readsMove_198
              rw [if_pos rfl, tkx v' hv', bs]
              by_cases t' : g v' = -1
              · rw [if_pos t', if_pos rfl] at y1
                rw [y1, bs, hf0, bs, if_pos rfl, if_pos t', if_pos rfl]
                obtain ⟨g', nu', now', z1, z2, z3⟩ := xch h hv hv' (nI n) bt tp (nI li) fp (nI q') (sg bt n q') (nI q') ft (nI (li + 1)) (nI n)
                rw [z1, z2]
                exact Or.inl ⟨q', _, st, g', nu', now', by rw [nI_1], rfl, by omega, hq2, by omega, z3⟩
              · rw [if_neg t', if_neg (show ¬ (1 : Int32) = 0 by decide), if_pos rfl] at y1
                rw [y1, bs, show f_X9_hasFault 8 = some 1 from rfl, bs, if_neg i10, if_neg t', if_neg i10]
                exact bad (show (8 : Int32) ≠ 0 by decide)
          · -- with one who sits
            rw [k1, k2, if_neg (show ¬ (1 : Int32) = -1 by decide), bs, if_neg (show ¬ (1 : Int32) = 2 by decide), if_pos rfl, if_neg (show ¬ (61 : Int32) = 62 by decide), if_pos rfl]
            unfold f_X6_readLine_76 f_X12_readsMove_104
            rw [if_neg (show ¬ (61 : Int32) = 33 by decide), nI_1, nI_1]
            rcases seat2 hb hB hn (show p' + 1 ≤ n by omega) fp ft (nI v) 1 (Or.inr rfl) g with ⟨v', f, q, pl, s, pm, nm, hf, y1, y2⟩ | ⟨v', q', hv', hq1, hq2, y2, y1⟩
            · rw [y1, y2, bs, bs, if_pos rfl, hfN hf, bs, if_neg i10]
              exact bad hf
            · rw [y2, bs, if_neg i10, if_pos (show (61 : Int32) = 61 from rfl), tkx v' hv', bs]
              by_cases t' : g v' = -1
              · rw [if_pos t', if_neg (show ¬ (0 : Int32) = 1 by decide), if_neg i10] at y1
                rw [y1, bs, show f_X9_hasFault 7 = some 1 from rfl, bs, if_neg i10, if_pos t', if_pos rfl]
                exact bad (show (7 : Int32) ≠ 0 by decide)
              · rw [if_neg t', if_pos rfl] at y1
                rw [y1, bs, hf0, bs, if_pos rfl, if_neg t', if_neg i10]
                unfold f_X12_readsMove_198
                rw [if_neg (show ¬ (61 : Int32) = 62 by decide)]
                obtain ⟨g', nu', now', z1, z2, z3⟩ := xch h hv hv' (nI n) bt tp (nI li) fp (nI q') (sg bt n q') (nI q') ft (nI (li + 1)) (nI n)
                rw [z1, z2]
                exact Or.inl ⟨q', _, st, g', nu', now', by rw [nI_1], rfl, by omega, hq2, by omega, z3⟩
          · -- back to the line's end
            rw [k1, k2, if_neg (show ¬ (2 : Int32) = -1 by decide), bs, if_pos rfl, if_neg (show ¬ (33 : Int32) = 62 by decide), if_neg (show ¬ (33 : Int32) = 61 by decide), if_pos rfl]
            unfold f_X0_sendBack f_X12_readsMove_104 f_X6_readLine_98
            rw [show f_X11_isSeat (nI v) = some 1 from by rw [isSeat_eq]; exact (wi1 (n := 143) (by omega) (by decide)).1, bs, if_neg i10, if_pos rfl, Int32.zero_add, ixn hv (by decide), ixn (by omega) (by decide), show ∀ o : MoM, ix 637 634 o = o from fun o => ixn (j := 634) (by decide) (by decide), show ∀ o : MoM, ix 637 634 o = o from fun o => ixn (j := 634) (by decide) (by decide), nI_clamp (by omega), show (634 : Int32).toNatClampNeg = 634 from nI_clamp (n := 634) (by decide), bs, nI_1, nI_1]
            obtain ⟨h1, h2, h3, h4⟩ := h
            refine Or.inl ⟨p' + 1, _, _, _, _, _, rfl, rfl, by omega, by omega, by omega, fun k hk => ?_, fun k hk => ?_, ?_, fun k hk hk2 => ?_⟩
            · show SR (upd g v (-1) k) _
              rw [upd_n (show k ≠ 634 by omega)]
              by_cases e1 : k = v
              · rw [e1, upd_s, upd_s]; exact Or.inl ⟨rfl, rfl⟩
              · rw [upd_n e1, upd_n e1]; exact h1 k hk
            · rw [upd_n (show 144 + k ≠ 634 by omega), upd_n (show 144 + k ≠ v by omega)]; exact h2 k hk
            · rw [upd_s, upd_n (show 634 ≠ v by omega), h3]
            · rw [upd_n hk2, upd_n (show k ≠ v by omega)]; exact h4 k hk hk2
