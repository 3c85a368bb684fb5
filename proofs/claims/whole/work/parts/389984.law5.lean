section
/-! a condition in both: one of which must hold -/
theorem anyL {bt tp : Nat → Int32} (hb : ∀ k : Nat, k < 260 → bt k = tp k &&& 255) (hB : BY bt) {n : Nat} (hn : n ≤ 240) (rt : RTy) {d : Nat} (hrt : TestOK bt tp n rt d) (w1 : Nat) (fp ft : Int32) :
    ∀ (j p i c w w0 FX F G : Nat) (num : Int32) (de va sd sd1 sd2 wa : Nat → Int32), n - p ≤ j → p ≤ n → i < p → n - p < FX → n - p < F → n - p < G → c ≤ p → w ≤ p → CR de va sd2 c → Ld 11 wa c w w0 sd sd1 → Ld 12 wa c w0 w1 sd1 sd2 → tpv wa w1 = nI 13 → ¬ sg bt n p = 38 →
    Bad bt n (f_X3_readAnyOf_8 rt (nI n) bt FX (nI d) (nI i) 0 fp (nI p) (sg bt n p) (nI c) de va) (C92 tp n F G p ft num d c w sd wa) ∨
    ∃ (p' c' w' w0' F' G' : Nat) (num' : Int32) (de' va' sd' sd1' sd2' wa' : Nat → Int32), p ≤ p' ∧ p' ≤ n ∧ c ≤ c' ∧ c' + p ≤ c + p' ∧ n - p' < F' ∧ n - p' < G' ∧ w' ≤ p' ∧
      f_X3_readAnyOf_8 rt (nI n) bt FX (nI d) (nI i) 0 fp (nI p) (sg bt n p) (nI c) de va = some (0, fp, nI p', sg bt n p', nI c', de', va') ∧ C92 tp n F G p ft num d c w sd wa = C92 tp n F' G' p' ft num' d c' w' sd' wa' ∧
      (∀ k : Nat, k < c → de' k = de k ∧ va' k = va k) ∧ (∀ k : Nat, k < w1 → wa' k = wa k) ∧ CR de' va' sd2' c' ∧ Ld 11 wa' c' w' w0' sd' sd1' ∧ Ld 12 wa' c' w0' w1 sd1' sd2' ∧ Ty de' va' c c' 100 100 ∧ ¬ sg bt n p' = 38 ∧ ¬ sg bt n p' = 124 := by
  have hn' : n ≤ 260 := by omega
  intro j
  induction j with
  | zero =>
    intro p i c w w0 FX F G num de va sd sd1 sd2 wa h1 h2 h3 h4 h5 h5' h6 h7 h8 h9 h9' h10 h11
    obtain ⟨FX, rfl⟩ : ∃ G, FX = G + 1 := ⟨FX - 1, by omega⟩
    by_cases hs : sg bt n p = 124
    · have : p < n := sg_lt (bt := bt) (by rw [hs]; decide)
      omega
    · right
      refine ⟨p, c, w, w0, F, G, num, de, va, sd, sd1, sd2, wa, Nat.le_refl _, h2, Nat.le_refl _, Nat.le_refl _, h5, h5', h7, ?_, rfl, fun _ _ => ⟨rfl, rfl⟩, fun _ _ => rfl, h8, h9, h9', Ty.nil, h11, hs⟩
      rw [f_X3_readAnyOf_8, if_neg (show ¬ (240 : Int32) ≤ nI i from nI_ge (b := 240) (by omega) (by decide)), pa0 hn' p (by decide), if_neg hs, bs, if_pos rfl]
  | succ j ih =>
    intro p i c w w0 FX F G num de va sd sd1 sd2 wa h1 h2 h3 h4 h5 h5' h6 h7 h8 h9 h9' h10 h11
    obtain ⟨FX, rfl⟩ : ∃ G, FX = G + 1 := ⟨FX - 1, by omega⟩
    obtain ⟨G, rfl⟩ : ∃ G', G = G' + 1 := ⟨G - 1, by omega⟩
    rw [f_X3_readAnyOf_8, if_neg (show ¬ (240 : Int32) ≤ nI i from nI_ge (b := 240) (by omega) (by decide)), pa0 hn' p (by decide)]
    by_cases hs : sg bt n p = 124
    · have hpn : p < n := sg_lt (bt := bt) (by rw [hs]; decide)
      have hle := h9.le
      have hle' := h9'.le
      have t11 : ¬ tpv wa w1 = 11 := by rw [h10]; decide
      have t12 : ¬ tpv wa w1 = 12 := by rw [h10]; decide
      have eM : C92 tp n F (G + 1) p ft num d c w sd wa = C40 tp n F (p + 1) ft num d (c + 1) (w1 + 1) (upd sd2 c (nI (1048576 * 12))) (upd wa w1 (nI (1048576 * 12 + c))) := by
        unfold C92
        rw [f_X12_readsCondition_92, here1 hb hn' (by omega), bs, hs, if_neg (show ¬ (124 : Int32) = 41 by decide), bs, if_neg (show ¬ (124 : Int32) = 38 by decide), bs, if_pos rfl]
        unfold f_X12_readsCondition_180 f_X12_readsCondition_195
        rw [here1 hb hn' (by omega), bs, hs, if_pos rfl, lands1 (by omega) (by omega) h9 h9' t11 t12, bs, bs, if_neg (show ¬ (124 : Int32) = 38 by decide)]
        exact jmp (q := 12) (by omega) (by omega)
      rw [if_pos hs, bs, if_neg i10, add1 (by omega), bs, eM]
      dsimp only
      unfold f_X3_readAllOf
      have hst : tpv (upd wa w1 (nI (1048576 * 12 + c))) (w1 + 1) = nI 12 := tpv_s (q := 12) (r := c) upd_s (by decide) (by omega)
      have hwa1 : ∀ k : Nat, k < w1 → upd wa w1 (nI (1048576 * 12 + c)) k = wa k := fun k hk => upd_n (by omega)
      rcases hrt F (p + 1) (c + 1) (w1 + 1) fp ft num (upd de c 4) (upd va c 0) (upd sd2 c (nI (1048576 * 12))) (upd wa w1 (nI (1048576 * 12 + c))) (by omega) (by omega) (by omega) (by omega) (by omega) (CR.leap (o := 4) (q := 12) (Or.inr ⟨rfl, rfl⟩) h8) (by rw [hst]; exact Or.inr ⟨12, by decide, by decide, rfl⟩) with hbad | ⟨p1, c1, E, F1, G1, num1, de1, va1, sdA, wa1, g1, g2, g3, g4, g5, g6, g6', g7, g8, g9, g10, g11, g13⟩
      · left
        obtain ⟨f, fp', r, f0, ⟨p', c', de', va', k1, k2, k3⟩, k4, k5, k6⟩ := hbad
        obtain ⟨va2, z2⟩ := landG k1 va' (nI c)
        obtain ⟨FX, rfl⟩ : ∃ G, FX = G + 1 := ⟨FX - 1, by omega⟩
        rw [k3, bs, show FU = 9999 + 1 from rfl, xfA8 f0, bs, z2, bs, xfB8 f0, k4]
        exact ⟨f, fp', r, f0, ⟨p', c', de', va2, k1, k2, rfl⟩, rfl, k5, k6⟩
      · have hst1 : tpv wa1 (w1 + 1) = nI 12 := by rw [tpv_c (wa := upd wa w1 (nI (1048576 * 12 + c))) g10]; exact hst
        rw [g7, bs, g8, EPc.stop (by omega) (by omega) (by rw [hst1]; decide)]
        dsimp only
        rcases allL hb hB hn rt hrt (w1 + 1) fp ft (n - p1) p1 0 c1 (w1 + 1) FU F1 G1 num1 de1 va1 sdA sdA wa1 (Nat.le_refl _) g2 (by omega) (by unfold FU; omega) g6 g6' (by omega) (by omega) g11 (Or.inl ⟨rfl, rfl⟩) (by rw [hst1]; decide) with hbad | ⟨p2, c2, w2, F2, G2, num2, de2, va2, sdB, sdB1, wa2, x1, x2, x3, x4, x5, x5', x6, x7, x8, x9, x10, x11, x12, x13, x14⟩
        · left
          obtain ⟨f, fp', r, f0, ⟨p', c', de', va', k1, k2, k3⟩, k4, k5, k6⟩ := hbad
          obtain ⟨va2, z2⟩ := landG k1 va' (nI c)
          obtain ⟨FX, rfl⟩ : ∃ G, FX = G + 1 := ⟨FX - 1, by omega⟩
          rw [show f_X3_readAllOf_8 rt (nI n) bt FU (nI d) 0 0 fp (nI p1) (sg bt n p1) (nI c1) de1 va1 = _ from k3, bs, z2, bs, xfB8 f0, k4]
          exact ⟨f, fp', r, f0, ⟨p', c', de', va2, k1, k2, rfl⟩, rfl, k5, k6⟩
        · rw [show f_X3_readAllOf_8 rt (nI n) bt FU (nI d) 0 0 fp (nI p1) (sg bt n p1) (nI c1) de1 va1 = _ from x7, bs, landX (show c < c2 by omega) (by omega), bs, x8, nI_1]
          dsimp only
          have hdc : de2 c = nI 4 := by rw [(x9 c (by omega)).1, (g9 c (by omega)).1, upd_s]; rfl
          obtain ⟨r, r1, r2⟩ := opU (o := 4) (q := 12) (Or.inr ⟨rfl, rfl⟩) (x11 c (by omega)) hdc
          have hw1 : wa2 w1 = nI (1048576 * 12 + c) := by rw [x10 w1 (by omega), g10 w1 (by omega), upd_s]
          have hld : Ld 12 wa2 c2 (w1 + 1) w1 sdB1 (upd sdB1 c (nI (1048576 * 12 + c2))) := Or.inr ⟨c, r, by omega, rfl, hw1, r1, r2, rfl⟩
          have hwa2 : ∀ k : Nat, k < w1 → wa2 k = wa k := fun k hk => (x10 k (by omega)).trans ((g10 k (by omega)).trans (hwa1 k hk))
          have htp : tpv wa2 w1 = nI 13 := by rw [tpv_c (wa := wa) hwa2]; exact h10
          rcases ih p2 (i + 1) c2 w2 (w1 + 1) FX F2 G2 num2 de2 (upd va2 c (nI c2)) sdB sdB1 (upd sdB1 c (nI (1048576 * 12 + c2))) wa2 (by omega) x2 (by omega) (by omega) x5 x5' (by omega) (by omega) (leapR (o := 4) (q := 12) (Or.inr ⟨rfl, rfl⟩) (by omega) (by omega) hdc x11 rfl) x12 hld htp x14 with hbad | ⟨p', c', w', w0', F', G', num', de', va', sd', sd1', sd2', wa', y1, y2, y3, y4, y5, y5', y6, y7, y8, y9, y10, y11, y12, y12', y13, y14, y15⟩
          · exact Or.inl hbad
          · right
            have kk : ∀ k : Nat, k < c2 → k ≠ c → de' k = de2 k ∧ va' k = va2 k := fun k hk hne => ⟨(y9 k hk).1, (y9 k hk).2.trans (upd_n hne)⟩
            have kk1 : ∀ k : Nat, k < c1 → k ≠ c → de' k = de1 k ∧ va' k = va1 k := fun k hk hne => ⟨(kk k (by omega) hne).1.trans (x9 k hk).1, (kk k (by omega) hne).2.trans (x9 k hk).2⟩
            refine ⟨p', c', w', w0', F', G', num', de', va', sd', sd1', sd2', wa', by omega, y2, by omega, by omega, y5, y5', y6, y7, y8, fun k hk => ⟨(kk1 k (by omega) (by omega)).1.trans ((g9 k (by omega)).1.trans (upd_n (by omega))), (kk1 k (by omega) (by omega)).2.trans ((g9 k (by omega)).2.trans (upd_n (by omega)))⟩, fun k hk => (y10 k hk).trans (hwa2 k hk), y11, y12, y12', ?_, y14, y15⟩
            refine Ty.app (b := c2) (by omega) (by omega) (Ty.leap (Or.inr ?_) ?_ (by omega) (Ty.app (b := c1) (by omega) (by omega) (g13.cong (fun k a b => kk1 k b (by omega))) (x13.cong (fun k a b => kk k b (by omega))))) y13
            · rw [(y9 c (by omega)).1]; exact hdc
            · rw [(y9 c (by omega)).2, upd_s]
    · right
      rw [if_neg hs, bs, if_pos rfl]
      exact ⟨p, c, w, w0, F, G + 1, num, de, va, sd, sd1, sd2, wa, Nat.le_refl _, h2, Nat.le_refl _, Nat.le_refl _, h5, h5', h7, rfl, rfl, fun _ _ => ⟨rfl, rfl⟩, fun _ _ => rfl, h8, h9, h9', Ty.nil, h11, hs⟩
def AnyOK (bt tp : Nat → Int32) (n : Nat) (rt : RTy) (d : Nat) : Prop := ∀ (F p c w : Nat) (fp ft num : Int32) (de va sd wa : Nat → Int32), p ≤ n → n - p < F → c ≤ p → 1 ≤ w → w ≤ p → CR de va sd c → tpv wa w = nI 13 →
  Bad bt n (f_X3_readAnyOf rt (nI n) 0 fp (nI p) (sg bt n p) bt (nI c) de va (nI d)) (C40 tp n F p ft num d c w sd wa) ∨
  ∃ (p' c' w' w0' F' G' : Nat) (num' : Int32) (de' va' sd' sd1' sd2' wa' : Nat → Int32), p < p' ∧ p' ≤ n ∧ c < c' ∧ c' + p ≤ c + p' ∧ n - p' < F' ∧ n - p' < G' ∧ w' ≤ p' ∧
    f_X3_readAnyOf rt (nI n) 0 fp (nI p) (sg bt n p) bt (nI c) de va (nI d) = some (0, fp, nI p', sg bt n p', nI c', de', va') ∧ C40 tp n F p ft num d c w sd wa = C92 tp n F' G' p' ft num' d c' w' sd' wa' ∧
    (∀ k : Nat, k < c → de' k = de k ∧ va' k = va k) ∧ (∀ k : Nat, k < w → wa' k = wa k) ∧ CR de' va' sd2' c' ∧ Ld 11 wa' c' w' w0' sd' sd1' ∧ Ld 12 wa' c' w0' w sd1' sd2' ∧ Ty de' va' c c' 0 100 ∧ ¬ sg bt n p' = 38 ∧ ¬ sg bt n p' = 124
theorem anyC {bt tp : Nat → Int32} (hb : ∀ k : Nat, k < 260 → bt k = tp k &&& 255) (hB : BY bt) {n : Nat} (hn : n ≤ 240) (rt : RTy) {d : Nat} (hrt : TestOK bt tp n rt d) : AnyOK bt tp n rt d := by
  intro F p c w fp ft num de va sd wa h1 h2 h3 h4 h5 h6 h7
  unfold f_X3_readAnyOf f_X3_readAllOf
  rcases hrt F p c w fp ft num de va sd wa h1 h2 h3 h4 h5 h6 (by rw [h7]; exact Or.inr ⟨13, by decide, by decide, rfl⟩) with hbad | ⟨p1, c1, E, F1, G1, num1, de1, va1, sdA, wa1, g1, g2, g3, g4, g5, g6, g6', g7, g8, g9, g10, g11, g13⟩
  · left
    obtain ⟨f, fp', r, f0, ⟨p', c', de', va', k1, k2, k3⟩, k4, k5, k6⟩ := hbad
    rw [k3, bs, show FU = 9999 + 1 from rfl, xfA8 f0, bs, xfB8 f0, k4]
    exact ⟨f, fp', r, f0, ⟨p', c', de', va', k1, k2, rfl⟩, rfl, k5, k6⟩
  · have hst1 : tpv wa1 w = nI 13 := by rw [tpv_c (wa := wa) g10]; exact h7
    rw [g7, bs, g8, EPc.stop (by omega) (by omega) (by rw [hst1]; decide)]
    dsimp only
    rcases allL hb hB hn rt hrt w fp ft (n - p1) p1 0 c1 w FU F1 G1 num1 de1 va1 sdA sdA wa1 (Nat.le_refl _) g2 (by omega) (by unfold FU; omega) g6 g6' (by omega) (by omega) g11 (Or.inl ⟨rfl, rfl⟩) (by rw [hst1]; decide) with hbad | ⟨p2, c2, w2, F2, G2, num2, de2, va2, sdB, sdB1, wa2, x1, x2, x3, x4, x5, x5', x6, x7, x8, x9, x10, x11, x12, x13, x14⟩
    · left
      obtain ⟨f, fp', r, f0, ⟨p', c', de', va', k1, k2, k3⟩, k4, k5, k6⟩ := hbad
      rw [show f_X3_readAllOf_8 rt (nI n) bt FU (nI d) 0 0 fp (nI p1) (sg bt n p1) (nI c1) de1 va1 = _ from k3, bs, show FU = 9999 + 1 from rfl, xfB8 f0, k4]
      exact ⟨f, fp', r, f0, ⟨p', c', de', va', k1, k2, rfl⟩, rfl, k5, k6⟩
    · rw [show f_X3_readAllOf_8 rt (nI n) bt FU (nI d) 0 0 fp (nI p1) (sg bt n p1) (nI c1) de1 va1 = _ from x7, bs, x8]
      dsimp only
      have hst2 : tpv wa2 w = nI 13 := by rw [tpv_c (wa := wa1) x10]; exact hst1
      rcases anyL hb hB hn rt hrt w fp ft (n - p2) p2 0 c2 w2 w FU F2 G2 num2 de2 va2 sdB sdB1 sdB1 wa2 (Nat.le_refl _) x2 (by omega) (by unfold FU; omega) x5 x5' (by omega) (by omega) x11 x12 (Or.inl ⟨rfl, rfl⟩) hst2 x14 with hbad | ⟨p', c', w', w0', F', G', num', de', va', sd', sd1', sd2', wa', y1, y2, y3, y4, y5, y5', y6, y7, y8, y9, y10, y11, y12, y12', y13, y14, y15⟩
      · exact Or.inl hbad
      · right
        have kk1 : ∀ k : Nat, k < c1 → de' k = de1 k ∧ va' k = va1 k := fun k hk => ⟨(y9 k (by omega)).1.trans (x9 k hk).1, (y9 k (by omega)).2.trans (x9 k hk).2⟩
        exact ⟨p', c', w', w0', F', G', num', de', va', sd', sd1', sd2', wa', by omega, y2, by omega, by omega, y5, y5', y6, y7, y8, fun k hk => ⟨(kk1 k (by omega)).1.trans (g9 k hk).1, (kk1 k (by omega)).2.trans (g9 k hk).2⟩, fun k hk => (y10 k hk).trans ((x10 k hk).trans (g10 k hk)), y11, y12, y12', Ty.app (b := c1) (by omega) (by omega) (g13.cong (fun k _ hk => kk1 k hk)) (Ty.app (b := c2) (by omega) (by omega) (x13.cong (fun k _ hk => y9 k hk)) y13), y14, y15⟩
/-! a test in both -/
theorem opnX {bt : Nat → Int32} {n : Nat} (hn : n ≤ 260) {p d : Nat} (hp : p < n) (hd : d < 6) (fp : Int32) : f_X3_opens (nI n) 0 fp (nI p) (sg bt n p) bt (nI d) = some (1, 0, fp, nI (p + 1), sg bt n (p + 1)) := by
  unfold f_X3_opens f_X3_opens_21
  rw [if_pos (show nI d < 6 from nI_lt (b := 6) (by omega) (by decide)), hf0, bs, if_pos rfl, skip1 bt hn hp, bs]
theorem opnX6 {bt : Nat → Int32} {n : Nat} {p : Nat} (fp : Int32) : f_X3_opens (nI n) 0 fp (nI p) (sg bt n p) bt (nI 6) = some (0, 5, nI p, nI p, sg bt n p) := by
  unfold f_X3_opens f_X3_opens_21
  rw [if_neg (show ¬ nI 6 < 6 by decide), fa0, bs, hfN (show (5 : Int32) ≠ 0 by decide), bs, if_neg i10]
theorem opnM {p d w q : Nat} (hd : d < 6) (hw : w < 260) (ft : Int32) (wa : Nat → Int32) : f_X12_opens (nI p) ft (nI d) (nI w) wa (nI q) = some (1, nI (p + 1), ft, nI (d + 1), nI (w + 1), upd wa w (nI (1048576 * q))) := by
  unfold f_X12_opens
  rw [if_neg (show ¬ nI d = 6 from ne (c := 6) (by omega) (by decide) (by omega)), ixn hw (by decide), nI_1, nI_1, nI_1, nI_clamp (by omega), show (1048576 : Int32) * nI q = nI (1048576 * q) from lm 1048576 q]
theorem opnM6 {p w q : Nat} (ft : Int32) (wa : Nat → Int32) : f_X12_opens (nI p) ft (nI 6) (nI w) wa (nI q) = some (0, nI p, (-1000) * 5 - nI p, nI 6, nI w, wa) := by
  unfold f_X12_opens
  rw [if_pos (show nI 6 = 6 from rfl)]
  rfl
theorem c75 {tp : Nat → Int32} {n F p d c w q : Nat} {ft num : Int32} {sd wa : Nat → Int32} (hd : d < 6) (hw : w < 260) : f_X12_readsCondition_75 (nI n) tp (f_X12_readsCondition_40 (nI n) tp F) (nI q) (nI p) ft num (nI d) (nI c) (nI w) sd wa = C40 tp n F (p + 1) ft num (d + 1) c (w + 1) sd (upd wa w (nI (1048576 * q))) := by
  unfold f_X12_readsCondition_75 C40
  rw [opnM hd hw, bs, if_neg i10]
theorem testC {bt tp : Nat → Int32} (hb : ∀ k : Nat, k < 260 → bt k = tp k &&& 255) (hB : BY bt) {n : Nat} (hn : n ≤ 240) (rt : RTy) {d : Nat} (hd : d ≤ 6) (hrt : d < 6 → TestOK bt tp n rt (d + 1)) : TestOK bt tp n (f_X3_readTest rt) d := by
  intro F p c w fp ft num de va sd wa h1 h2 h3 h4 h5 h6 h7
  have hn' : n ≤ 260 := by omega
  obtain ⟨F, rfl⟩ : ∃ G, F = G + 1 := ⟨F - 1, by omega⟩
  unfold f_X3_readTest
  by_cases s33 : sg bt n p = 33
  · have hpn : p < n := sg_lt (bt := bt) (by rw [s33]; decide)
    have e0 : C40 tp n (F + 1) p ft num d c w sd wa = f_X12_readsCondition_75 (nI n) tp (f_X12_readsCondition_40 (nI n) tp F) (nI 10) (nI p) ft num (nI d) (nI c) (nI w) sd wa := by
      unfold C40
      rw [f_X12_readsCondition_40, here1 hb hn' (by omega), bs, s33, if_pos rfl]
      unfold f_X12_readsCondition_58
      rw [here1 hb hn' (by omega), bs, s33, if_pos rfl]
      rfl
    rw [if_pos s33, e0]
    by_cases d6 : d = 6
    · left
      rw [d6, opnX6, bs, if_pos rfl]
      unfold f_X12_readsCondition_75
      rw [opnM6, bs, if_pos rfl]
      exact ⟨5, nI p, _, by decide, ⟨p, c, de, va, by omega, h1, rfl⟩, rfl, rfl, rfl⟩
    · rw [opnX hn' hpn (by omega), bs, if_neg i10, c75 (by omega) (by omega), nI_1]
      dsimp only
      have hst : tpv (upd wa w (nI (1048576 * 10))) (w + 1) = nI 10 := tpv_s (q := 10) (r := 0) upd_s (by decide) (by decide)
      rcases hrt (by omega) F (p + 1) c (w + 1) fp ft num de va sd (upd wa w (nI (1048576 * 10))) (by omega) (by omega) (by omega) (by omega) (by omega) h6 (by rw [hst]; exact Or.inr ⟨10, by decide, by decide, rfl⟩) with hbad | ⟨p1, c1, E, F1, G1, num1, de1, va1, sd1, wa1, g1, g2, g3, g4, g5, g6, g6', g7, g8, g9, g10, g11, g13⟩
      · left
        obtain ⟨f, fp', r, f0, ⟨p', c', de', va', k1, k2, k3⟩, k4, k5, k6⟩ := hbad
        obtain ⟨r', c2, de2, va2, z1, z2⟩ := addG k1 de' va' 2 0
        rw [k3, bs, z2, bs, k4]
        exact ⟨f, fp', r, f0, ⟨p', c2, de2, va2, z1, k2, rfl⟩, rfl, k5, k6⟩
      · right
        obtain ⟨E, rfl⟩ : ∃ G, E = G + 1 := ⟨E - 1, by omega⟩
        have hst1 : tpv wa1 (w + 1) = nI 10 := by rw [tpv_c (wa := upd wa w (nI (1048576 * 10))) g10]; exact hst
        rw [g7, bs, add1 (by omega), bs, g8]
        have hd2 : ∀ k : Nat, k < c1 → upd de1 c1 2 k = de1 k ∧ upd va1 c1 0 k = va1 k := fun k hk => ⟨upd_n (by omega), upd_n (by omega)⟩
        refine ⟨p1, c1 + 1, E, F1, G1, num1, upd de1 c1 2, upd va1 c1 0, upd sd1 c1 (nI (1048576 * 10)), wa1, by omega, g2, by omega, by omega, by omega, g6, g6', rfl, ?_, fun k hk => ⟨(hd2 k (by omega)).1.trans (g9 k hk).1, (hd2 k (by omega)).2.trans (g9 k hk).2⟩, fun k hk => (g10 k (by omega)).trans (upd_n (by omega)), ?_, ?_⟩
        · unfold EPc
          rw [f_X12_endsPiece_0, wTop wa1 (by omega), bs, hst1, if_pos (show nI 10 = 10 from rfl), show f_X12_notes (nI c1) sd1 10 0 = _ from note1 (m := 10) (by omega) sd1, bs, nI_pred, nI_pred]
        · intro k hk
          by_cases z : k = c1
          · rw [z, upd_s, upd_s, upd_s]
            exact ⟨2, 10, 0, 0, rfl, rfl, rfl, by decide, Or.inr (Or.inr (Or.inl ⟨rfl, rfl⟩))⟩
          · rw [upd_n z, upd_n z, upd_n z]; exact g11 k (by omega)
        · exact Ty.app (b := c1) (by omega) (by omega) (g13.cong (fun k _ hk => hd2 k hk)) (Ty.one (Or.inr (Or.inl ⟨upd_s, rfl, rfl⟩)))
  · rw [if_neg s33]
    by_cases s40 : sg bt n p = 40
    · have hpn : p < n := sg_lt (bt := bt) (by rw [s40]; decide)
      have e0 : C40 tp n (F + 1) p ft num d c w sd wa = f_X12_readsCondition_75 (nI n) tp (f_X12_readsCondition_40 (nI n) tp F) (nI 13) (nI p) ft num (nI d) (nI c) (nI w) sd wa := by
        unfold C40
        rw [f_X12_readsCondition_40, here1 hb hn' (by omega), bs, s40, if_neg (show ¬ (40 : Int32) = 33 by decide), bs, if_pos rfl]
        unfold f_X12_readsCondition_58
        rw [here1 hb hn' (by omega), bs, s40, if_neg (show ¬ (40 : Int32) = 33 by decide)]
        rfl
      rw [if_pos s40, e0]
      by_cases d6 : d = 6
      · left
        rw [d6, opnX6, bs, if_pos rfl]
        unfold f_X12_readsCondition_75
        rw [opnM6, bs, if_pos rfl]
        exact ⟨5, nI p, _, by decide, ⟨p, c, de, va, by omega, h1, rfl⟩, rfl, rfl, rfl⟩
      · rw [opnX hn' hpn (by omega), bs, if_neg i10, c75 (by omega) (by omega), nI_1]
        dsimp only
        have hst : tpv (upd wa w (nI (1048576 * 13))) (w + 1) = nI 13 := tpv_s (q := 13) (r := 0) upd_s (by decide) (by decide)
        rcases anyC hb hB hn rt (hrt (by omega)) F (p + 1) c (w + 1) fp ft num de va sd (upd wa w (nI (1048576 * 13))) (by omega) (by omega) (by omega) (by omega) (by omega) h6 hst with hbad | ⟨p1, c1, w', w0', F1, G1, num1, de1, va1, sd1, sdA, sdB, wa1, g1, g2, g3, g4, g5, g5', g6, g7, g8, g9, g10, g11, g12, g12', g13, g14, g15⟩
        · left
          obtain ⟨f, fp', r, f0, ⟨p', c', de', va', k1, k2, k3⟩, k4, k5, k6⟩ := hbad
          rw [k3, bs, exN f0, bs, k4]
          exact ⟨f, fp', r, f0, ⟨p', c', de', va', k1, k2, rfl⟩, rfl, k5, k6⟩
        · obtain ⟨G1, rfl⟩ : ∃ G, G1 = G + 1 := ⟨G1 - 1, by omega⟩
          have hst1 : tpv wa1 (w + 1) = nI 13 := by rw [tpv_c (wa := upd wa w (nI (1048576 * 13))) g10]; exact hst
          rw [g7, bs, ex0 hn' p1 fp (by decide), g8]
          unfold C92
          rw [f_X12_readsCondition_92, here1 hb hn' (by omega), bs]
          by_cases s41 : sg bt n p1 = 41
          · have hpn1 : p1 < n := sg_lt (bt := bt) (by rw [s41]; decide)
            right
            rw [if_pos s41, if_pos s41, bs, lands1 (by omega) (by omega) g12 g12' (by rw [hst1]; decide) (by rw [hst1]; decide), bs, nI_pred, if_neg (nI_ne0 (by omega) (by omega)), nI_pred, nI_1]
            exact ⟨p1 + 1, c1, FU, F1, G1, num1, de1, va1, sdB, wa1, by omega, by omega, by omega, by omega, by unfold FU; omega, by omega, by omega, rfl, rfl, g9, fun k hk => (g10 k (by omega)).trans (upd_n (by omega)), g11, g13⟩
          · left
            rw [if_neg s41, if_neg s41, bs, bs, if_neg g14, bs, if_neg g15]
            exact ⟨1, nI p1, _, by decide, ⟨p1, c1, de1, va1, by omega, g2, rfl⟩, rfl, rfl, rfl⟩
    · rw [if_neg s40]
      have e0 : C40 tp n (F + 1) p ft num d c w sd wa = (f_X12_readsCompared (nI p) (nI n) ft num (nI d) (nI c) (nI w) tp sd wa).bind (fun z84 => (if z84.1 = 0 then some (0, z84.2.1, z84.2.2.1, z84.2.2.2.1, z84.2.2.2.2.1, z84.2.2.2.2.2.1, z84.2.2.2.2.2.2.1, z84.2.2.2.2.2.2.2.1, z84.2.2.2.2.2.2.2.2) else f_X12_readsCondition_92 (nI n) tp (f_X12_readsCondition_40 (nI n) tp F) FU z84.2.1 z84.2.2.1 z84.2.2.2.1 z84.2.2.2.2.1 z84.2.2.2.2.2.1 z84.2.2.2.2.2.2.1 z84.2.2.2.2.2.2.2.1 z84.2.2.2.2.2.2.2.2)) := by
        unfold C40
        rw [f_X12_readsCondition_40, here1 hb hn' (by omega), bs, if_neg s33, bs, if_neg s40]
      rw [e0]
      unfold f_X12_readsCompared
      rcases sumT hb hB hn hd p c w 0 fp ft num de va sd wa h1 h3 h5 (by omega) h6 h7 with hbad | ⟨p1, c1, num1, de1, va1, sd1, wa1, g1, g2, g3, g4, g7, g8, g9, g10, g11, g13⟩
      · left
        obtain ⟨f, fp', r, f0, ⟨p', c', de', va', k1, k2, k3⟩, k4, k5, k6⟩ := hbad
        obtain ⟨p2, c2, de2, va2, q1, q2, q3⟩ := xfS hb hB hn' f0 fp' (F_X3_readSum 7) k2 k1 de' va' (nI d)
        obtain ⟨r', c3, de3, va3, z1, z2⟩ := addG q1 de2 va2 (10 + (-1)) 0
        rw [k3, bs, chN f0, bs, show F_X3_readSum 8 (nI n) f fp' (nI p') (sg bt n p') bt (nI c') de' va' (nI d) = _ from q3, bs, z2, bs, k4, bs, if_pos k5, bs, if_pos rfl]
        exact ⟨f, fp', _, f0, ⟨p2, c3, de3, va3, z1, q2, rfl⟩, rfl, rfl, k6⟩
      · rw [g7, bs, ch0 hn', g8, bs, if_neg i10, here1 hb hn' (by omega), bs, bs, bs]
        have rest : ∀ m : Nat, m < 3 → wh 4 (sg bt n p1) = nI m →
            Bad bt n ((if wh 4 (sg bt n p1) = -1 then some (-1, 1, nI p1, nI p1, sg bt n p1) else some (wh 4 (sg bt n p1), 0, fp, nI (p1 + 1), sg bt n (p1 + 1))).bind (fun z91 => (F_X3_readSum 8 (nI n) z91.2.1 z91.2.2.1 z91.2.2.2.1 z91.2.2.2.2 bt (nI c1) de1 va1 (nI d)).bind (fun z98 => (f_X2_add z98.2.2.2.2.1 z98.2.2.2.2.2.1 z98.2.2.2.2.2.2 (10 + z91.1) 0).bind (fun z107 => some (z98.1, z98.2.1, z98.2.2.1, z98.2.2.2.1, z107.2.1, z107.2.2.1, z107.2.2.2))))) ((f_X12_readsCompared_52 (nI n) tp (nI (m + 7)) (nI p1) ft num1 (nI d) (nI c1) (nI w) sd1 wa1).bind (fun z84 => (if z84.1 = 0 then some (0, z84.2.1, z84.2.2.1, z84.2.2.2.1, z84.2.2.2.2.1, z84.2.2.2.2.2.1, z84.2.2.2.2.2.2.1, z84.2.2.2.2.2.2.2.1, z84.2.2.2.2.2.2.2.2) else f_X12_readsCondition_92 (nI n) tp (f_X12_readsCondition_40 (nI n) tp F) FU z84.2.1 z84.2.2.1 z84.2.2.2.1 z84.2.2.2.2.1 z84.2.2.2.2.2.1 z84.2.2.2.2.2.2.1 z84.2.2.2.2.2.2.2.1 z84.2.2.2.2.2.2.2.2))) ∨
            ∃ (p' c' E F' G' : Nat) (num' : Int32) (de' va' sd' wa' : Nat → Int32), p < p' ∧ p' ≤ n ∧ c < c' ∧ c' + p ≤ c + p' ∧ w < E ∧ n - p' < F' ∧ n - p' < G' ∧
              (if wh 4 (sg bt n p1) = -1 then some (-1, 1, nI p1, nI p1, sg bt n p1) else some (wh 4 (sg bt n p1), 0, fp, nI (p1 + 1), sg bt n (p1 + 1))).bind (fun z91 => (F_X3_readSum 8 (nI n) z91.2.1 z91.2.2.1 z91.2.2.2.1 z91.2.2.2.2 bt (nI c1) de1 va1 (nI d)).bind (fun z98 => (f_X2_add z98.2.2.2.2.1 z98.2.2.2.2.2.1 z98.2.2.2.2.2.2 (10 + z91.1) 0).bind (fun z107 => some (z98.1, z98.2.1, z98.2.2.1, z98.2.2.2.1, z107.2.1, z107.2.2.1, z107.2.2.2)))) = some (0, fp, nI p', sg bt n p', nI c', de', va') ∧
              (f_X12_readsCompared_52 (nI n) tp (nI (m + 7)) (nI p1) ft num1 (nI d) (nI c1) (nI w) sd1 wa1).bind (fun z84 => (if z84.1 = 0 then some (0, z84.2.1, z84.2.2.1, z84.2.2.2.1, z84.2.2.2.2.1, z84.2.2.2.2.2.1, z84.2.2.2.2.2.2.1, z84.2.2.2.2.2.2.2.1, z84.2.2.2.2.2.2.2.2) else f_X12_readsCondition_92 (nI n) tp (f_X12_readsCondition_40 (nI n) tp F) FU z84.2.1 z84.2.2.1 z84.2.2.2.1 z84.2.2.2.2.1 z84.2.2.2.2.2.1 z84.2.2.2.2.2.2.1 z84.2.2.2.2.2.2.2.1 z84.2.2.2.2.2.2.2.2)) = EPc tp n E F' G' p' ft num' d c' w sd' wa' ∧
              (∀ k : Nat, k < c → de' k = de k ∧ va' k = va k) ∧ (∀ k : Nat, k < w → wa' k = wa k) ∧ CR de' va' sd' c' ∧ Ty de' va' c c' 0 100 := by
          intro m m3 hm
          have hpn1 : p1 < n := wh_lt hm (by omega)
          have hst1 : st1 (tpv wa1 w) := by rw [tpv_c (wa := wa) g10]; exact h7
          rw [hm, if_neg (nI_nm1 (by omega)), bs]
          unfold f_X12_readsCompared_52
          rw [if_neg (nI_nm1 (by omega)), nI_1]
          dsimp only
          rcases sumT hb hB hn hd (p1 + 1) c1 w 1 fp ft num1 de1 va1 sd1 wa1 (by omega) (by omega) (by omega) (by omega) g11 hst1 with hbad | ⟨p2, c2, num2, de2, va2, sd2, wa2, x1, x2, x3, x4, x7, x8, x9, x10, x11, x13⟩
          · left
            obtain ⟨f, fp', r, f0, ⟨p', c', de', va', k1, k2, k3⟩, k4, k5, k6⟩ := hbad
            obtain ⟨r', c3, de3, va3, z1, z2⟩ := addG k1 de' va' (10 + nI m) 0
            rw [k3, bs, z2, bs, k4, bs, if_pos k5, bs, if_pos rfl]
            exact ⟨f, fp', _, f0, ⟨p', c3, de3, va3, z1, k2, rfl⟩, rfl, rfl, k6⟩
          · right
            rw [x7, bs, add1 (by omega), bs, x8, bs, if_neg i10]
            dsimp only
            rw [note1 (by omega), bs]
            dsimp only
            have hd3 : ∀ k : Nat, k < c2 → upd de2 c2 (10 + nI m) k = de2 k ∧ upd va2 c2 0 k = va2 k := fun k hk => ⟨upd_n (by omega), upd_n (by omega)⟩
            have hdd : (10 : Int32) + nI m = nI (10 + m) := la 10 m
            refine ⟨p2, c2 + 1, FU, F, FU, num2, upd de2 c2 (10 + nI m), upd va2 c2 0, upd sd2 c2 (nI (1048576 * (m + 7))), wa2, by omega, x2, by omega, by omega, by unfold FU; omega, by omega, by unfold FU; omega, rfl, ?_, fun k hk => ⟨(hd3 k (by omega)).1.trans ((x9 k (by omega)).1.trans (g9 k hk).1), (hd3 k (by omega)).2.trans ((x9 k (by omega)).2.trans (g9 k hk).2)⟩, fun k hk => (x10 k hk).trans (g10 k hk), ?_, ?_⟩
            · unfold EPc f_X12_endsPiece
              cases f_X12_endsPiece_0 wa2 FU (nI d) (nI (c2 + 1)) (nI w) (upd sd2 c2 (nI (1048576 * (m + 7)))) with
              | none => rfl
              | some z =>
                rw [bs, bs, bs, if_neg i10]
            · exact (x11.cong hd3).add (by omega) (by omega) (by rw [upd_s, hdd]; congr 1; omega) upd_s
            · refine Ty.app (b := c1) (by omega) (by omega) (g13.cong (fun k _ hk => ⟨(hd3 k (by omega)).1.trans (x9 k hk).1, (hd3 k (by omega)).2.trans (x9 k hk).2⟩)) (Ty.app (b := c2) (by omega) (by omega) (x13.cong (fun k _ hk => hd3 k hk)) (Ty.one (Or.inr (Or.inr (Or.inr ⟨⟨10 + m, by omega, by omega, ?_⟩, rfl, rfl⟩)))))
              rw [upd_s]; exact hdd
        rcases cmpS hB hn' p1 with ⟨y1, y2, y3, y4⟩ | ⟨y1, y2⟩ | ⟨y1, y2⟩ | ⟨y1, y2⟩
        · left
          rw [if_pos y1, bs, if_neg y2, if_neg y3, if_neg y4]
          unfold f_X12_readsCompared_52
          rw [if_pos rfl, show f_X12_wrongAt ft 1 (nI p1) = some (0, (-1000) * 1 - nI p1) from rfl, bs, bs, if_pos rfl]
          obtain ⟨p2, c2, de2, va2, q1, q2, q3⟩ := xfS hb hB hn' (show (1 : Int32) ≠ 0 by decide) (nI p1) (F_X3_readSum 7) g2 (show c1 ≤ 240 by omega) de1 va1 (nI d)
          obtain ⟨r', c3, de3, va3, z1, z2⟩ := addG q1 de2 va2 (10 + (-1)) 0
          rw [show F_X3_readSum 8 (nI n) 1 (nI p1) (nI p1) (sg bt n p1) bt (nI c1) de1 va1 (nI d) = _ from q3, bs, z2, bs]
          exact ⟨1, nI p1, _, by decide, ⟨p2, c3, de3, va3, z1, q2, rfl⟩, rfl, rfl, rfl⟩
        · have := rest 0 (by decide) y1
          rw [if_pos y2]
          exact this
        · have := rest 1 (by decide) y1
          rw [if_neg (show ¬ sg bt n p1 = 60 by rw [y2]; decide), if_pos y2]
          exact this
        · have := rest 2 (by decide) y1
          rw [if_neg (show ¬ sg bt n p1 = 60 by rw [y2]; decide), if_neg (show ¬ sg bt n p1 = 62 by rw [y2]; decide), if_pos y2]
          exact this
theorem testAll {bt tp : Nat → Int32} (hb : ∀ k : Nat, k < 260 → bt k = tp k &&& 255) (hB : BY bt) {n : Nat} (hn : n ≤ 240) : ∀ (j d K : Nat), d + j = 6 → j ≤ K → TestOK bt tp n (F_X3_readTest (K + 1)) d := by
  intro j
  induction j with
  | zero =>
    intro d K h1 h2
    exact testC hb hB hn (F_X3_readTest K) (by omega) (fun h => by omega)
  | succ j ih =>
    intro d K h1 h2
    obtain ⟨K, rfl⟩ : ∃ K', K = K' + 1 := ⟨K - 1, by omega⟩
    exact testC hb hB hn (F_X3_readTest (K + 1)) (by omega) (fun _ => ih (d + 1) K (by omega) (by omega))
end
