section
/-! a rule in both -/
abbrev XRy : Type := Int32 × Int32 × Int32 × Int32 × Int32 × Int32 × (Nat → Int32) × (Nat → Int32) × (Nat → Int32) × (Nat → Int32) × (Nat → Int32) × (Nat → Int32)
abbrev MRy : Type := Int32 × Int32 × Int32 × Int32 × Int32 × Int32 × Int32 × Int32 × (Nat → Int32) × (Nat → Int32) × (Nat → Int32) × (Nat → Int32) × (Nat → Int32) × (Nat → Int32)
def BadR (o : Option XRy) (m : Option MRy) : Prop := ∃ (f fp : Int32) (z : Int32 × Int32 × Int32 × Int32 × (Nat → Int32) × (Nat → Int32) × (Nat → Int32) × (Nat → Int32) × (Nat → Int32) × (Nat → Int32)) (r : MRy), f ≠ 0 ∧ o = some (f, fp, z) ∧ m = some r ∧ r.1 = 0 ∧ r.2.2.1 = (-1000) * f - fp
theorem full0 {r : Nat} (h : r < 16) : f_X2_isFull (nI r) = some 0 := by
  unfold f_X2_isFull
  rw [if_pos (show nI r < 16 from nI_lt (b := 16) h (by decide))]
theorem full1 : f_X2_isFull (nI 16) = some 1 := rfl
theorem opR0 {r : Nat} (h : r < 16) (c x : Int32) (ki ss : Nat → Int32) : f_X2_openRule c (nI r) ki ss x = some (upd ki r x, upd ss r c) := by
  unfold f_X2_openRule
  rw [full0 h, bs, if_pos rfl, ixn h (by decide), ixn h (by decide), nI_clamp (by omega)]
theorem opT0 {r : Nat} (h : r < 16) (c : Int32) (ts : Nat → Int32) : f_X2_openTest c (nI r) ts = some (upd ts r c) := by
  unfold f_X2_openTest
  rw [full0 h, bs, if_pos rfl, ixn h (by decide), nI_clamp (by omega)]
theorem clR0 {r : Nat} (h : r < 16) (c : Int32) (te : Nat → Int32) : f_X2_closeRule c (nI r) te = some (nI (r + 1), upd te r c) := by
  unfold f_X2_closeRule
  rw [full0 h, bs, if_pos rfl, ixn h (by decide), nI_clamp (by omega), nI_1]
theorem opRG {r : Nat} (h : r ≤ 16) (c x : Int32) (ki ss : Nat → Int32) : ∃ z, f_X2_openRule c (nI r) ki ss x = some z := by
  rcases Nat.lt_or_ge r 16 with q | q
  · exact ⟨_, opR0 q c x ki ss⟩
  · rw [show r = 16 by omega]
    exact ⟨_, rfl⟩
theorem opTG {r : Nat} (h : r ≤ 16) (c : Int32) (ts : Nat → Int32) : ∃ z, f_X2_openTest c (nI r) ts = some z := by
  rcases Nat.lt_or_ge r 16 with q | q
  · exact ⟨_, opT0 q c ts⟩
  · rw [show r = 16 by omega]
    exact ⟨_, rfl⟩
theorem clRG {r : Nat} (h : r ≤ 16) (c : Int32) (te : Nat → Int32) : ∃ z, f_X2_closeRule c (nI r) te = some z := by
  rcases Nat.lt_or_ge r 16 with q | q
  · exact ⟨_, clR0 q c te⟩
  · rw [show r = 16 by omega]
    exact ⟨_, rfl⟩
theorem r93G {r : Nat} (h : r ≤ 16) (e : Int32) (bt : Nat → Int32) (f fp pl s c : Int32) (de va ki ss ts te : Nat → Int32) : ∃ z, f_X3_readRule_93 e bt f fp pl s c (nI r) de va ki ss ts te = some (f, fp, z) := by
  obtain ⟨z, ez⟩ := clRG h c te
  unfold f_X3_readRule_93
  rw [ez, bs]
  exact ⟨_, rfl⟩
theorem r61N {f : Int32} (hf : f ≠ 0) {r : Nat} (h : r ≤ 16) (e : Int32) (bt : Nat → Int32) (fp pl s c : Int32) (de va ki ss ts te : Nat → Int32) : ∃ z, f_X3_readRule_61 e bt f fp pl s c (nI r) de va ki ss ts te = some (f, fp, z) := by
  obtain ⟨z, ez⟩ := opTG h c ts
  unfold f_X3_readRule_61
  rw [ez, bs, exN hf, bs, if_pos rfl]
  exact r93G h _ _ _ _ _ _ _ _ _ _ _ _ _
theorem r41N {bt tp : Nat → Int32} (hb : ∀ k : Nat, k < 260 → bt k = tp k &&& 255) (hB : BY bt) {n : Nat} (hn : n ≤ 240) {f : Int32} (hf : f ≠ 0) {r : Nat} (h : r ≤ 16) {p c : Nat} (hp : p ≤ n) (hc : c ≤ 240) (fp : Int32) (de va ki ss ts te : Nat → Int32) :
    ∃ z, (f_X2_openRule (nI c) (nI r) ki ss (-1)).bind (fun z47 => (if (-1 : Int32) = 2 then f_X3_readRule_61 (nI n) bt f fp (nI p) (sg bt n p) (nI c) (nI r) de va z47.1 z47.2 ts te else (F_X3_readSum 8 (nI n) f fp (nI p) (sg bt n p) bt (nI c) de va 0).bind (fun z58 => f_X3_readRule_61 (nI n) bt z58.1 z58.2.1 z58.2.2.1 z58.2.2.2.1 z58.2.2.2.2.1 (nI r) z58.2.2.2.2.2.1 z58.2.2.2.2.2.2 z47.1 z47.2 ts te))) = some (f, fp, z) := by
  obtain ⟨z, ez⟩ := opRG h (nI c) (-1) ki ss
  obtain ⟨p2, c2, de2, va2, q1, q2, q3⟩ := xfS hb hB (show n ≤ 260 by omega) hf fp (F_X3_readSum 7) hp hc de va 0
  rw [ez, bs, if_neg (show ¬ (-1 : Int32) = 2 by decide), show F_X3_readSum 8 (nI n) f fp (nI p) (sg bt n p) bt (nI c) de va 0 = _ from q3, bs]
  exact r61N hf h _ _ _ _ _ _ _ _ _ _ _ _
theorem condC {bt tp : Nat → Int32} (hb : ∀ k : Nat, k < 260 → bt k = tp k &&& 255) (hB : BY bt) {n : Nat} (hn : n ≤ 240) {r : Nat} (hr : r < 16) {p c : Nat} (hp : p ≤ n) (hc : c ≤ p) (fp ft num op wt : Int32) (de va ki ss ts te sd wa sl sf sh st : Nat → Int32) (hC : CR de va sd c) :
    BadR (f_X3_readRule_61 (nI n) bt 0 fp (nI p) (sg bt n p) (nI c) (nI r) de va ki ss ts te) (f_X12_readsRule_110 (nI n) tp (nI p) ft num op (nI c) wt (nI r) sd wa sl sf sh st) ∨
    ∃ (p' c' : Nat) (num' op' wt' : Int32) (de' va' sd' wa' : Nat → Int32), p < p' ∧ p' ≤ n ∧ c < c' ∧ c' + p ≤ c + p' ∧
      f_X3_readRule_61 (nI n) bt 0 fp (nI p) (sg bt n p) (nI c) (nI r) de va ki ss ts te = some (0, fp, nI p', sg bt n p', nI c', nI (r + 1), de', va', ki, ss, upd ts r (nI c), upd te r (nI c')) ∧
      f_X12_readsRule_110 (nI n) tp (nI p) ft num op (nI c) wt (nI r) sd wa sl sf sh st = some (1, nI p', ft, num', op', nI c', wt', nI (r + 1), sd', wa', sl, sf, upd sh r (nI c), upd st r (nI c')) ∧
      (∀ k : Nat, k < c → de' k = de k ∧ va' k = va k) ∧ CR de' va' sd' c' ∧ Ty de' va' c c' 0 100 := by
  have hn' : n ≤ 260 := by omega
  unfold f_X3_readRule_61 f_X12_readsRule_110 f_X12_readsCondition
  rw [opT0 hr, bs, ex0 hn' p fp (by decide), ixn hr (by decide), here1 hb hn' (by omega), bs, nI_clamp (by omega)]
  by_cases s40 : sg bt n p = 40
  · have hpn : p < n := sg_lt (bt := bt) (by rw [s40]; decide)
    rw [if_pos s40, if_pos s40, bs, if_neg i10, show f_X12_opens (nI p) ft 0 0 wa 13 = _ from opnM (p := p) (d := 0) (w := 0) (q := 13) (by decide) (by decide) ft wa, bs, if_neg i10]
    dsimp only
    have hst : tpv (upd wa 0 (nI (1048576 * 13))) 1 = nI 13 := tpv_s (w := 0) (q := 13) (r := 0) upd_s (by decide) (by decide)
    rcases anyC hb hB hn (F_X3_readTest 8) (testAll hb hB hn 5 1 7 (by decide) (by decide)) FU (p + 1) c 1 fp ft num de va sd (upd wa 0 (nI (1048576 * 13))) (by omega) (by unfold FU; omega) (by omega) (by omega) (by omega) hC hst with hbad | ⟨p1, c1, w', w0', F1, G1, num1, de1, va1, sd1, sdA, sdB, wa1, g1, g2, g3, g4, g5, g5', g6, g7, g8, g9, g10, g11, g12, g12', g13, g14, g15⟩
    · left
      obtain ⟨f, fp', rr, f0, ⟨p', c', de', va', k1, k2, k3⟩, k4, k5, k6⟩ := hbad
      obtain ⟨z, ez⟩ := r93G (show r ≤ 16 by omega) (nI n) bt f fp' (nI p') (sg bt n p') (nI c') de' va' ki ss (upd ts r (nI c)) te
      rw [show f_X3_readAnyOf (F_X3_readTest 8) (nI n) 0 fp (nI (p + 1)) (sg bt n (p + 1)) bt (nI c) de va 1 = _ from k3, bs, exN f0, bs, show f_X12_readsCondition_40 (nI n) tp FU (nI (p + 1)) ft num (nI (0 + 1)) (nI c) (nI (0 + 1)) sd (upd wa 0 (nI (1048576 * 13))) = _ from k4, bs, if_pos k5]
      exact ⟨f, fp', z, _, f0, ez, rfl, rfl, k6⟩
    · obtain ⟨G1, rfl⟩ : ∃ G, G1 = G + 1 := ⟨G1 - 1, by omega⟩
      have hst1 : tpv wa1 1 = nI 13 := by rw [tpv_c (wa := upd wa 0 (nI (1048576 * 13))) g10]; exact hst
      rw [show f_X3_readAnyOf (F_X3_readTest 8) (nI n) 0 fp (nI (p + 1)) (sg bt n (p + 1)) bt (nI c) de va 1 = _ from g7, bs, ex0 hn' p1 fp (by decide), show f_X12_readsCondition_40 (nI n) tp FU (nI (p + 1)) ft num (nI (0 + 1)) (nI c) (nI (0 + 1)) sd (upd wa 0 (nI (1048576 * 13))) = _ from g8]
      unfold C92
      rw [f_X12_readsCondition_92, here1 hb hn' (by omega), bs]
      by_cases s41 : sg bt n p1 = 41
      · have hpn1 : p1 < n := sg_lt (bt := bt) (by rw [s41]; decide)
        right
        rw [if_pos s41, if_pos s41, bs, lands1 (by omega) (by omega) g12 g12' (by rw [hst1]; decide) (by rw [hst1]; decide), bs, if_pos (show nI 1 - 1 = 0 from rfl), bs, if_neg i10, ixn hr (by decide), nI_1, nI_1]
        unfold f_X3_readRule_93
        rw [clR0 hr, bs]
        exact ⟨p1 + 1, c1, num1, _, _, de1, va1, sdB, wa1, by omega, by omega, by omega, by omega, rfl, rfl, g9, g11, g13⟩
      · left
        rw [if_neg s41, if_neg s41, bs, bs, if_neg g14, bs, if_neg g15]
        obtain ⟨z, ez⟩ := r93G (show r ≤ 16 by omega) (nI n) bt 1 (nI p1) (nI p1) (sg bt n p1) (nI c1) de1 va1 ki ss (upd ts r (nI c)) te
        exact ⟨1, nI p1, z, _, by decide, ez, rfl, rfl, rfl⟩
  · left
    rw [if_neg s40, if_neg s40, bs, if_pos rfl]
    obtain ⟨z, ez⟩ := r93G (show r ≤ 16 by omega) (nI n) bt 1 (nI p) (nI p) (sg bt n p) (nI c) de va ki ss (upd ts r (nI c)) te
    exact ⟨1, nI p, z, _, by decide, ez, rfl, rfl, rfl⟩
theorem ruleC {bt tp : Nat → Int32} (hb : ∀ k : Nat, k < 260 → bt k = tp k &&& 255) (hB : BY bt) {n : Nat} (hn : n ≤ 240) {r : Nat} (hr : r ≤ 16) {p c : Nat} (hp : p ≤ n) (hc : c ≤ p) (fp ft num op wt : Int32) (de va ki ss ts te sd wa sl sf sh st : Nat → Int32) (hC : CR de va sd c) :
    BadR (f_X3_readRule (nI n) 0 fp (nI p) (sg bt n p) bt (nI c) (nI r) de va ki ss ts te) (f_X12_readsRule (nI p) (nI n) ft num op (nI c) wt (nI r) tp sd wa sl sf sh st) ∨
    ∃ (p' c' b m : Nat) (num' op' wt' lt : Int32) (de' va' sd' wa' : Nat → Int32), p < p' ∧ p' ≤ n ∧ c ≤ b ∧ b < c' ∧ c' + p ≤ c + p' ∧ r < 16 ∧
      f_X3_readRule (nI n) 0 fp (nI p) (sg bt n p) bt (nI c) (nI r) de va ki ss ts te = some (0, fp, nI p', sg bt n p', nI c', nI (r + 1), de', va', upd ki r (nI m), upd ss r (nI c), upd ts r (nI b), upd te r (nI c')) ∧
      f_X12_readsRule (nI p) (nI n) ft num op (nI c) wt (nI r) tp sd wa sl sf sh st = some (1, nI p', ft, num', op', nI c', wt', nI (r + 1), sd', wa', upd sl r lt, upd sf r (nI c), upd sh r (nI b), upd st r (nI c')) ∧
      (∀ k : Nat, k < c → de' k = de k ∧ va' k = va k) ∧ CR de' va' sd' c' ∧ ((m = 0 ∧ lt = 101) ∨ (m = 1 ∧ lt = 121) ∨ (m = 2 ∧ lt = 111)) ∧ (m = 2 → c = b) ∧ (m ≠ 2 → Ty de' va' c b 0 1) ∧ Ty de' va' b c' 0 100 := by
  have hn' : n ≤ 260 := by omega
  unfold f_X3_readRule f_X12_readsRule
  rw [here1 hb hn' (by omega), bs]
  rcases Nat.lt_or_ge r 16 with r16 | r16
  · rw [full0 r16, bs, if_pos rfl]
    unfold f_X3_readRule_35
    rw [ch0 hn']
    have rest : ∀ (m : Nat) (lt : Int32), m < 3 → wh 0 (sg bt n p) = nI m → ((m = 0 ∧ lt = 101) ∨ (m = 1 ∧ lt = 121) ∨ (m = 2 ∧ lt = 111)) →
        BadR ((if wh 0 (sg bt n p) = -1 then some (-1, 1, nI p, nI p, sg bt n p) else some (wh 0 (sg bt n p), 0, fp, nI (p + 1), sg bt n (p + 1))).bind (fun z41 => (f_X2_openRule (nI c) (nI r) ki ss z41.1).bind (fun z47 => (if z41.1 = 2 then f_X3_readRule_61 (nI n) bt z41.2.1 z41.2.2.1 z41.2.2.2.1 z41.2.2.2.2 (nI c) (nI r) de va z47.1 z47.2 ts te else (F_X3_readSum 8 (nI n) z41.2.1 z41.2.2.1 z41.2.2.2.1 z41.2.2.2.2 bt (nI c) de va 0).bind (fun z58 => f_X3_readRule_61 (nI n) bt z58.1 z58.2.1 z58.2.2.1 z58.2.2.2.1 z58.2.2.2.2.1 (nI r) z58.2.2.2.2.2.1 z58.2.2.2.2.2.2 z47.1 z47.2 ts te))))) (f_X12_readsRule_33 (nI n) tp lt (nI p) ft num op (nI c) wt (nI r) sd wa sl sf sh st) ∨
        ∃ (p' c' b m : Nat) (num' op' wt' lt' : Int32) (de' va' sd' wa' : Nat → Int32), p < p' ∧ p' ≤ n ∧ c ≤ b ∧ b < c' ∧ c' + p ≤ c + p' ∧ r < 16 ∧
          (if wh 0 (sg bt n p) = -1 then some (-1, 1, nI p, nI p, sg bt n p) else some (wh 0 (sg bt n p), 0, fp, nI (p + 1), sg bt n (p + 1))).bind (fun z41 => (f_X2_openRule (nI c) (nI r) ki ss z41.1).bind (fun z47 => (if z41.1 = 2 then f_X3_readRule_61 (nI n) bt z41.2.1 z41.2.2.1 z41.2.2.2.1 z41.2.2.2.2 (nI c) (nI r) de va z47.1 z47.2 ts te else (F_X3_readSum 8 (nI n) z41.2.1 z41.2.2.1 z41.2.2.2.1 z41.2.2.2.2 bt (nI c) de va 0).bind (fun z58 => f_X3_readRule_61 (nI n) bt z58.1 z58.2.1 z58.2.2.1 z58.2.2.2.1 z58.2.2.2.2.1 (nI r) z58.2.2.2.2.2.1 z58.2.2.2.2.2.2 z47.1 z47.2 ts te)))) = some (0, fp, nI p', sg bt n p', nI c', nI (r + 1), de', va', upd ki r (nI m), upd ss r (nI c), upd ts r (nI b), upd te r (nI c')) ∧
          f_X12_readsRule_33 (nI n) tp lt (nI p) ft num op (nI c) wt (nI r) sd wa sl sf sh st = some (1, nI p', ft, num', op', nI c', wt', nI (r + 1), sd', wa', upd sl r lt', upd sf r (nI c), upd sh r (nI b), upd st r (nI c')) ∧
          (∀ k : Nat, k < c → de' k = de k ∧ va' k = va k) ∧ CR de' va' sd' c' ∧ ((m = 0 ∧ lt' = 101) ∨ (m = 1 ∧ lt' = 121) ∨ (m = 2 ∧ lt' = 111)) ∧ (m = 2 → c = b) ∧ (m ≠ 2 → Ty de' va' c b 0 1) ∧ Ty de' va' b c' 0 100 := by
      intro m lt m3 hm hml
      have hpn : p < n := wh_lt hm (by omega)
      unfold f_X12_readsRule_33
      rw [hm, if_neg (nI_nm1 (by omega)), bs, if_neg (show ¬ nI r = 16 from ne (c := 16) (by omega) (by decide) (by omega)), ixn r16 (by decide), ixn r16 (by decide), nI_clamp (by omega), nI_1]
      dsimp only
      rw [opR0 r16, bs]
      dsimp only
      by_cases m2 : m = 2
      · have hlt : lt = 111 := by rcases hml with ⟨a, _⟩ | ⟨a, _⟩ | ⟨_, b⟩ <;> first | exact b | omega
        rw [if_pos (show nI m = 2 by rw [m2]; rfl), if_pos hlt]
        rcases condC hb hB hn r16 (show p + 1 ≤ n by omega) (show c ≤ p + 1 by omega) fp ft num 0 0 de va (upd ki r (nI m)) (upd ss r (nI c)) ts te sd wa (upd sl r lt) (upd sf r (nI c)) sh st hC with hbad | ⟨p', c', num', op', wt', de', va', sd', wa', g1, g2, g3, g4, g5, g6, g7, g8, g9⟩
        · exact Or.inl hbad
        · exact Or.inr ⟨p', c', c, m, num', op', wt', lt, de', va', sd', wa', by omega, g2, Nat.le_refl _, g3, by omega, r16, g5, g6, g7, g8, hml, fun _ => rfl, fun z => absurd m2 z, g9⟩
      · have hlt : ¬ lt = 111 := by rcases hml with ⟨_, b⟩ | ⟨_, b⟩ | ⟨a, _⟩; rw [b]; decide; rw [b]; decide; omega
        rw [if_neg (show ¬ nI m = 2 from ne (c := 2) (by omega) (by decide) m2), if_neg hlt]
        rcases sumT hb hB hn (d := 0) (by decide) (p + 1) c 0 0 fp ft num de va sd wa (by omega) (by omega) (by omega) (by omega) hC (Or.inl rfl) with hbad | ⟨p1, c1, num1, de1, va1, sd1, wa1, g1, g2, g3, g4, g7, g8, g9, g10, g11, g13⟩
        · left
          obtain ⟨f, fp', rr, f0, ⟨p', c', de', va', k1, k2, k3⟩, k4, k5, k6⟩ := hbad
          obtain ⟨z, ez⟩ := r61N f0 (show r ≤ 16 by omega) (nI n) bt fp' (nI p') (sg bt n p') (nI c') de' va' (upd ki r (nI m)) (upd ss r (nI c)) ts te
          rw [show F_X3_readSum 8 (nI n) 0 fp (nI (p + 1)) (sg bt n (p + 1)) bt (nI c) de va 0 = _ from k3, bs, show f_X12_readsSum (nI (p + 1)) (nI n) ft num 0 (nI c) 0 tp sd wa = _ from k4, bs, if_pos k5]
          exact ⟨f, fp', z, _, f0, ez, rfl, rfl, k6⟩
        · rw [show F_X3_readSum 8 (nI n) 0 fp (nI (p + 1)) (sg bt n (p + 1)) bt (nI c) de va 0 = _ from g7, bs, show f_X12_readsSum (nI (p + 1)) (nI n) ft num 0 (nI c) 0 tp sd wa = _ from g8, bs, if_neg i10]
          dsimp only
          rcases condC hb hB hn r16 g2 (show c1 ≤ p1 by omega) fp ft num1 (nI 0) (nI 0) de1 va1 (upd ki r (nI m)) (upd ss r (nI c)) ts te sd1 wa1 (upd sl r lt) (upd sf r (nI c)) sh st g11 with hbad | ⟨p', c', num', op', wt', de', va', sd', wa', x1, x2, x3, x4, x5, x6, x7, x8, x9⟩
          · exact Or.inl hbad
          · exact Or.inr ⟨p', c', c1, m, num', op', wt', lt, de', va', sd', wa', by omega, x2, by omega, x3, by omega, r16, x5, x6, fun k hk => ⟨(x7 k (by omega)).1.trans (g9 k hk).1, (x7 k (by omega)).2.trans (g9 k hk).2⟩, x8, hml, fun z => absurd z m2, fun _ => g13.cong (fun k _ hk => x7 k hk), x9⟩
    rcases rulS hB hn' p with ⟨y1, y2, y3, y4⟩ | ⟨y1, y2⟩ | ⟨y1, y2⟩ | ⟨y1, y2⟩
    · left
      rw [if_pos y1, bs, if_neg y2, if_neg y3, if_neg y4]
      obtain ⟨z, ez⟩ := r41N hb hB hn (show (1 : Int32) ≠ 0 by decide) hr hp (show c ≤ 240 by omega) (nI p) de va ki ss ts te
      exact ⟨1, nI p, z, _, by decide, ez, rfl, rfl, rfl⟩
    · have := rest 0 101 (by decide) y1 (Or.inl ⟨rfl, rfl⟩)
      rw [y2, if_pos rfl]
      rw [y2] at this
      exact this
    · have := rest 1 121 (by decide) y1 (Or.inr (Or.inl ⟨rfl, rfl⟩))
      rw [y2, if_neg (show ¬ (121 : Int32) = 101 by decide), if_pos rfl]
      rw [y2] at this
      exact this
    · have := rest 2 111 (by decide) y1 (Or.inr (Or.inr ⟨rfl, rfl⟩))
      rw [y2, if_neg (show ¬ (111 : Int32) = 101 by decide), if_neg (show ¬ (111 : Int32) = 121 by decide), if_pos rfl]
      rw [y2] at this
      exact this
  · left
    have e16 : r = 16 := by omega
    subst e16
    rw [full1, bs, if_neg i10, wh0, bs]
    unfold f_X3_readRule_35
    have m33 : ∀ x : Int32, f_X12_readsRule_33 (nI n) tp x (nI p) ft num op (nI c) wt (nI 16) sd wa sl sf sh st = some (0, nI p, (-1000) * 4 - nI p, num, op, nI c, wt, nI 16, sd, wa, sl, sf, sh, st) := by
      intro x
      unfold f_X12_readsRule_33
      rw [if_pos (show nI 16 = 16 from rfl)]
      rfl
    rcases rulS hB hn' p with ⟨y1, y2, y3, y4⟩ | hy
    · rw [if_pos y1, ch0 hn', if_pos y1, bs, if_neg y2, if_neg y3, if_neg y4]
      obtain ⟨z, ez⟩ := r41N hb hB hn (show (1 : Int32) ≠ 0 by decide) hr hp (show c ≤ 240 by omega) (nI p) de va ki ss ts te
      exact ⟨1, nI p, z, _, by decide, ez, rfl, rfl, rfl⟩
    · have hne : ¬ wh 0 (sg bt n p) = -1 := by
        rcases hy with ⟨y1, _⟩ | ⟨y1, _⟩ | ⟨y1, _⟩ <;> (rw [y1]; decide)
      obtain ⟨z, ez⟩ := r41N hb hB hn (show (4 : Int32) ≠ 0 by decide) hr hp (show c ≤ 240 by omega) (nI p) de va ki ss ts te
      rw [if_neg hne, fa0, bs, chN (show (4 : Int32) ≠ 0 by decide), bs, m33]
      refine ⟨4, nI p, z, (0, nI p, (-1000) * 4 - nI p, num, op, nI c, wt, nI 16, sd, wa, sl, sf, sh, st), by decide, ez, ?_, rfl, rfl⟩
      rcases hy with ⟨_, y2⟩ | ⟨_, y2⟩ | ⟨_, y2⟩
      · rw [if_pos y2]
      · rw [if_neg (show ¬ sg bt n p = 101 by rw [y2]; decide), if_pos y2]
      · rw [if_neg (show ¬ sg bt n p = 101 by rw [y2]; decide), if_neg (show ¬ sg bt n p = 121 by rw [y2]; decide), if_pos y2]
end
