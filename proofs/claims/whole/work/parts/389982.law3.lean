section
/-! a product, a sum in both -/
theorem PS.cong {de va de' va' wa : Nat → Int32} {cm w c w0 : Nat} (h : PS de va wa cm w c w0) (e : ∀ k : Nat, k < c → de' k = de k ∧ va' k = va k) : PS de' va' wa cm w c w0 := by
  rcases h with h | ⟨m, m1, m2, m3, m4, m5, m6, m7⟩
  · exact Or.inl h
  · exact Or.inr ⟨m, m1, m2, m3, m4, m5, (e cm (by omega)).1.trans m6, (e cm (by omega)).2.trans m7⟩
theorem CR.cong {de va de' va' sd : Nat → Int32} {cm : Nat} (h : CR de va sd cm) (e : ∀ k : Nat, k < cm → de' k = de k ∧ va' k = va k) : CR de' va' sd cm := fun k hk => by rw [(e k hk).1, (e k hk).2]; exact h k hk
theorem stepM {tp : Nat → Int32} {n F base p d cm w c w0 m : Nat} {ft num y : Int32} {sd wa sd1 : Nat → Int32} (hw : w0 < 260) (e : f_X12_closesSums (nI cm) (nI w) sd wa y = some (nI c, nI w0, sd1)) :
    f_X12_readsSum_38 (nI n) tp (f_X12_readsSum_14 (nI n) tp F) (nI base) (nI m) y (nI p) ft num (nI d) (nI cm) (nI w) sd wa = sMF tp n FU F base (p + 1) ft num d c (w0 + 1) sd1 (upd wa w0 (nI (1048576 * m))) := by
  unfold f_X12_readsSum_38 f_X12_readsFactor
  rw [e, bs, ixn hw (by decide), nI_clamp (by omega), nI_1, nI_1, show (1048576 : Int32) * nI m = nI (1048576 * m) from lm 1048576 m]
  rfl
theorem prodC {bt tp : Nat → Int32} (hb : ∀ k : Nat, k < 260 → bt k = tp k &&& 255) (hB : BY bt) {n : Nat} (hn : n ≤ 240) (rs : RTy) {d : Nat} (hd : d ≤ 6) (hrs : d < 6 → SumOK bt tp n rs (d + 1)) (base w0 h : Nat) (hbw : base ≤ w0) (hh : h ≤ 2 * d + 2) (fp ft : Int32) :
    ∀ (j p i c cm w FX F : Nat) (num : Int32) (de va sd wa : Nat → Int32), n - p ≤ j → p ≤ n → i < p → n - p < FX → n - p < F → c ≤ p → w ≤ p → CR de va sd cm → PS de va wa cm w c w0 → st0 (tpv wa w0) →
    Bad bt n (f_X3_readProduct_8 rs (nI n) bt FX (nI d) (nI i) 0 fp (nI p) (sg bt n p) (nI c) de va) (sLP tp n F base p ft num d cm w sd wa) ∨
    ∃ (p' c' cm' w' F' : Nat) (num' : Int32) (de' va' sd' wa' : Nat → Int32), p ≤ p' ∧ p' ≤ n ∧ c ≤ c' ∧ c' + p ≤ c + p' ∧ n - p' < F' ∧ w' ≤ p' ∧
      f_X3_readProduct_8 rs (nI n) bt FX (nI d) (nI i) 0 fp (nI p) (sg bt n p) (nI c) de va = some (0, fp, nI p', sg bt n p', nI c', de', va') ∧ sLP tp n F base p ft num d cm w sd wa = sLP tp n F' base p' ft num' d cm' w' sd' wa' ∧
      (∀ k : Nat, k < c → de' k = de k ∧ va' k = va k) ∧ (∀ k : Nat, k < w0 → wa' k = wa k) ∧ CR de' va' sd' cm' ∧ PS de' va' wa' cm' w' c' w0 ∧ Ty de' va' c c' (h + 1) (h + 1) ∧ wh 2 (sg bt n p') = -1 := by
  have hn' : n ≤ 260 := by omega
  intro j
  induction j with
  | zero =>
    intro p i c cm w FX F num de va sd wa h1 h2 h3 h4 h5 h6 h7 h8 h9 h10
    obtain ⟨FX, rfl⟩ : ∃ G, FX = G + 1 := ⟨FX - 1, by omega⟩
    rcases mulS hB hn' p with hm | ⟨m, _, _, _, hm⟩
    · right
      refine ⟨p, c, cm, w, F, num, de, va, sd, wa, Nat.le_refl _, h2, Nat.le_refl _, Nat.le_refl _, h5, h7, ?_, rfl, fun _ _ => ⟨rfl, rfl⟩, fun _ _ => rfl, h8, h9, Ty.nil, hm⟩
      rw [f_X3_readProduct_8, if_neg (show ¬ (240 : Int32) ≤ nI i from nI_ge (b := 240) (by omega) (by decide)), wh0, bs, if_pos hm]
    · omega
  | succ j ih =>
    intro p i c cm w FX F num de va sd wa h1 h2 h3 h4 h5 h6 h7 h8 h9 h10
    obtain ⟨FX, rfl⟩ : ∃ G, FX = G + 1 := ⟨FX - 1, by omega⟩
    obtain ⟨F, rfl⟩ : ∃ G, F = G + 1 := ⟨F - 1, by omega⟩
    rw [f_X3_readProduct_8, if_neg (show ¬ (240 : Int32) ≤ nI i from nI_ge (b := 240) (by omega) (by decide)), wh0, bs]
    rcases mulS hB hn' p with hm | ⟨m, m3, hm, hs, hpn⟩
    · right
      rw [if_pos hm]
      exact ⟨p, c, cm, w, F + 1, num, de, va, sd, wa, Nat.le_refl _, h2, Nat.le_refl _, Nat.le_refl _, h5, h7, rfl, rfl, fun _ _ => ⟨rfl, rfl⟩, fun _ _ => rfl, h8, h9, Ty.nil, hm⟩
    · have hwle : w0 ≤ w := by rcases h9 with ⟨z, _⟩ | ⟨_, _, _, z, _⟩ <;> omega
      obtain ⟨sd1, e1, e2⟩ := cs0 h9 h8 h10 (by omega) (by omega)
      have eM : sLP tp n (F + 1) base p ft num d cm w sd wa = sMF tp n FU F base (p + 1) ft num d c (w0 + 1) sd1 (upd wa w0 (nI (1048576 * (m + 4)))) := by
        unfold sLP
        rw [f_X12_readsSum_14, here1 hb hn' (by omega), bs, hs, bs, if_neg (nI_nm1 (by omega)), if_pos (show (4 : Int32) ≤ nI (m + 4) from nI_le (a := 4) (by omega) (by omega))]
        exact stepM (by omega) e1
      have hne : ¬ nI m = -1 := nI_nm1 (by omega)
      rw [eM, ch0 hn', hm, if_neg hne, if_neg hne, bs]
      dsimp only
      have hwa1 : ∀ k : Nat, k < w0 → upd wa w0 (nI (1048576 * (m + 4))) k = wa k := fun k hk => upd_n (by omega)
      rcases facC hb hB hn rs hd hrs FU F base (p + 1) c (w0 + 1) (h + 1) fp ft num de va sd1 (upd wa w0 (nI (1048576 * (m + 4)))) (by omega) (by unfold FU; omega) (by omega) (by omega) (by omega) (by omega) (by omega) e2 with hbad | ⟨p1, c1, F1, num1, de1, va1, sd1', wa1, g1, g2, g3, g4, g5, g7, g8, g9, g10, g11, g13⟩
      · left
        obtain ⟨f, fp', r, f0, ⟨p', c', de', va', k1, k2, k3⟩, k4, k5, k6⟩ := hbad
        obtain ⟨r', c2, de2, va2, z1, z2⟩ := addG k1 de' va' (7 + nI m) 0
        obtain ⟨FX, rfl⟩ : ∃ G, FX = G + 1 := ⟨FX - 1, by omega⟩
        rw [k3, bs, z2, bs, xfP8 f0, k4]
        exact ⟨f, fp', r, f0, ⟨p', c2, de2, va2, z1, k2, rfl⟩, rfl, k5, k6⟩
      · rw [g7, bs, add1 (by omega), bs, g8, nI_1]
        dsimp only
        have hw1 : wa1 w0 = nI (1048576 * (m + 4)) := by rw [g10 w0 (by omega), upd_s]
        have hd2 : ∀ k : Nat, k < c1 → upd de1 c1 (7 + nI m) k = de1 k ∧ upd va1 c1 0 k = va1 k := fun k hk => ⟨upd_n (by omega), upd_n (by omega)⟩
        have hps : PS (upd de1 c1 (7 + nI m)) (upd va1 c1 0) wa1 c1 (w0 + 1) (c1 + 1) w0 := Or.inr ⟨m + 4, by omega, by omega, rfl, hw1, rfl, by rw [upd_s, show (7 : Int32) + nI m = nI (7 + m) from la 7 m]; congr 1; omega, upd_s⟩
        have htp : st0 (tpv wa1 w0) := by rw [tpv_c (wa := wa) (fun k hk => by rw [g10 k (by omega)]; exact hwa1 k hk)]; exact h10
        rcases ih p1 (i + 1) (c1 + 1) c1 (w0 + 1) FX F1 num1 (upd de1 c1 (7 + nI m)) (upd va1 c1 0) sd1' wa1 (by omega) g2 (by omega) (by omega) g5 (by omega) (by omega) (g11.cong hd2) hps htp with hbad | ⟨p', c', cm', w', F', num', de', va', sd', wa', y1, y2, y3, y4, y5, y6, y7, y8, y9, y10, y11, y12, y13, y14⟩
        · exact Or.inl hbad
        · right
          have kk : ∀ k : Nat, k < c1 → de' k = de1 k ∧ va' k = va1 k := fun k hk => ⟨(y9 k (by omega)).1.trans (hd2 k hk).1, (y9 k (by omega)).2.trans (hd2 k hk).2⟩
          refine ⟨p', c', cm', w', F', num', de', va', sd', wa', by omega, y2, by omega, by omega, y5, y6, y7, y8, fun k hk => ⟨(kk k (by omega)).1.trans (g9 k hk).1, (kk k (by omega)).2.trans (g9 k hk).2⟩, fun k hk => (y10 k hk).trans ((g10 k (by omega)).trans (hwa1 k hk)), y11, y12, ?_, y14⟩
          refine Ty.app (b := c1) (by omega) (by omega) (g13.cong (fun k _ hk => kk k hk)) (Ty.app (b := c1 + 1) (by omega) (by omega) (Ty.one (Or.inr (Or.inr (Or.inl ⟨⟨7 + m, by omega, by omega, ?_⟩, by omega, by omega, by omega⟩)))) y13)
          rw [(y9 c1 (by omega)).1, upd_s]
          exact la 7 m
theorem sumL {bt tp : Nat → Int32} (hb : ∀ k : Nat, k < 260 → bt k = tp k &&& 255) (hB : BY bt) {n : Nat} (hn : n ≤ 240) (rs : RTy) {d : Nat} (hd : d ≤ 6) (hrs : d < 6 → SumOK bt tp n rs (d + 1)) (base w1 h : Nat) (hbw : base ≤ w1) (hh : h ≤ 2 * d + 1) (fp ft : Int32) :
    ∀ (j p i c cm w FX F : Nat) (num : Int32) (de va sd wa : Nat → Int32), n - p ≤ j → p ≤ n → i < p → n - p < FX → n - p < F → c ≤ p → w ≤ p → CR de va sd cm → SS de va wa cm w c w1 → st1 (tpv wa w1) → wh 2 (sg bt n p) = -1 →
    Bad bt n (f_X3_readSum_8 rs (nI n) bt FX (nI d) (nI i) 0 fp (nI p) (sg bt n p) (nI c) de va) (sLP tp n F base p ft num d cm w sd wa) ∨
    ∃ (p' c' cm' w' F' : Nat) (num' : Int32) (de' va' sd' wa' : Nat → Int32), p ≤ p' ∧ p' ≤ n ∧ c ≤ c' ∧ c' + p ≤ c + p' ∧ n - p' < F' ∧ w' ≤ p' ∧
      f_X3_readSum_8 rs (nI n) bt FX (nI d) (nI i) 0 fp (nI p) (sg bt n p) (nI c) de va = some (0, fp, nI p', sg bt n p', nI c', de', va') ∧ sLP tp n F base p ft num d cm w sd wa = sLP tp n F' base p' ft num' d cm' w' sd' wa' ∧
      (∀ k : Nat, k < c → de' k = de k ∧ va' k = va k) ∧ (∀ k : Nat, k < w1 → wa' k = wa k) ∧ CR de' va' sd' cm' ∧ SS de' va' wa' cm' w' c' w1 ∧ Ty de' va' c c' (h + 1) (h + 1) ∧ f_X12_sumSign (sg bt n p') = some (-1) := by
  have hn' : n ≤ 260 := by omega
  intro j
  induction j with
  | zero =>
    intro p i c cm w FX F num de va sd wa h1 h2 h3 h4 h5 h6 h7 h8 h9 h10 h11
    obtain ⟨FX, rfl⟩ : ∃ G, FX = G + 1 := ⟨FX - 1, by omega⟩
    rcases addS hB hn' p h11 with ⟨hm, hs⟩ | ⟨m, _, _, _, hm⟩
    · right
      refine ⟨p, c, cm, w, F, num, de, va, sd, wa, Nat.le_refl _, h2, Nat.le_refl _, Nat.le_refl _, h5, h7, ?_, rfl, fun _ _ => ⟨rfl, rfl⟩, fun _ _ => rfl, h8, h9, Ty.nil, hs⟩
      rw [f_X3_readSum_8, if_neg (show ¬ (240 : Int32) ≤ nI i from nI_ge (b := 240) (by omega) (by decide)), wh0, bs, if_pos hm]
    · omega
  | succ j ih =>
    intro p i c cm w FX F num de va sd wa h1 h2 h3 h4 h5 h6 h7 h8 h9 h10 h11
    obtain ⟨FX, rfl⟩ : ∃ G, FX = G + 1 := ⟨FX - 1, by omega⟩
    obtain ⟨F, rfl⟩ : ∃ G, F = G + 1 := ⟨F - 1, by omega⟩
    rw [f_X3_readSum_8, if_neg (show ¬ (240 : Int32) ≤ nI i from nI_ge (b := 240) (by omega) (by decide)), wh0, bs]
    rcases addS hB hn' p h11 with ⟨hm, hs⟩ | ⟨m, m3, hm, hs, hpn⟩
    · right
      rw [if_pos hm]
      exact ⟨p, c, cm, w, F + 1, num, de, va, sd, wa, Nat.le_refl _, h2, Nat.le_refl _, Nat.le_refl _, h5, h7, rfl, rfl, fun _ _ => ⟨rfl, rfl⟩, fun _ _ => rfl, h8, h9, Ty.nil, hs⟩
    · have hwle := h9.le
      obtain ⟨sd1, e1, e2⟩ := cs1 h9 h8 h10 (by omega) (by omega)
      have eM : sLP tp n (F + 1) base p ft num d cm w sd wa = sMF tp n FU F base (p + 1) ft num d c (w1 + 1) sd1 (upd wa w1 (nI (1048576 * (m + 2)))) := by
        unfold sLP
        rw [f_X12_readsSum_14, here1 hb hn' (by omega), bs, hs, bs, if_neg (nI_nm1 (by omega)), if_neg (show ¬ (4 : Int32) ≤ nI (m + 2) from nI_ge (b := 4) (by omega) (by decide))]
        exact stepM (by omega) e1
      have hne : ¬ nI m = -1 := nI_nm1 (by omega)
      rw [eM, ch0 hn', hm, if_neg hne, if_neg hne, bs]
      dsimp only
      unfold f_X3_readProduct
      have hwa1 : ∀ k : Nat, k < w1 → upd wa w1 (nI (1048576 * (m + 2))) k = wa k := fun k hk => upd_n (by omega)
      rcases facC hb hB hn rs hd hrs FU F base (p + 1) c (w1 + 1) (h + 1) fp ft num de va sd1 (upd wa w1 (nI (1048576 * (m + 2)))) (by omega) (by unfold FU; omega) (by omega) (by omega) (by omega) (by omega) (by omega) e2 with hbad | ⟨p1, c1, F1, num1, de1, va1, sd1', wa1, g1, g2, g3, g4, g5, g7, g8, g9, g10, g11, g13⟩
      · left
        obtain ⟨f, fp', r, f0, ⟨p', c', de', va', k1, k2, k3⟩, k4, k5, k6⟩ := hbad
        obtain ⟨r', c2, de2, va2, z1, z2⟩ := addG k1 de' va' (5 + nI m) 0
        obtain ⟨FX, rfl⟩ : ∃ G, FX = G + 1 := ⟨FX - 1, by omega⟩
        rw [k3, bs, show FU = 9999 + 1 from rfl, xfP8 f0, bs, z2, bs, xfS8 f0, ← show FU = 9999 + 1 from rfl, k4]
        exact ⟨f, fp', r, f0, ⟨p', c2, de2, va2, z1, k2, rfl⟩, rfl, k5, k6⟩
      · rw [g7, bs, g8]
        dsimp only
        have hw1 : wa1 w1 = nI (1048576 * (m + 2)) := by rw [g10 w1 (by omega), upd_s]
        have hst : st0 (tpv wa1 (w1 + 1)) := Or.inr ⟨m + 2, by omega, by omega, tpv_s (q := m + 2) (r := 0) hw1 (by omega) (by decide)⟩
        rcases prodC hb hB hn rs hd hrs base (w1 + 1) (h + 1) (by omega) (by omega) fp ft (n - p1) p1 0 c1 c1 (w1 + 1) FU F1 num1 de1 va1 sd1' wa1 (Nat.le_refl _) g2 (by omega) (by unfold FU; omega) g5 (by omega) (by omega) g11 (Or.inl ⟨rfl, rfl⟩) hst with hbad | ⟨p2, c2, cm2, w2, F2, num2, de2, va2, sd2, wa2, x1, x2, x3, x4, x5, x6, x7, x8, x9, x10, x11, x12, x13, x14⟩
        · left
          obtain ⟨f, fp', r, f0, ⟨p', c', de', va', k1, k2, k3⟩, k4, k5, k6⟩ := hbad
          obtain ⟨r', c2, de2, va2, z1, z2⟩ := addG k1 de' va' (5 + nI m) 0
          obtain ⟨FX, rfl⟩ : ∃ G, FX = G + 1 := ⟨FX - 1, by omega⟩
          rw [show f_X3_readProduct_8 rs (nI n) bt FU (nI d) 0 0 fp (nI p1) (sg bt n p1) (nI c1) de1 va1 = _ from k3, bs, z2, bs, xfS8 f0, k4]
          exact ⟨f, fp', r, f0, ⟨p', c2, de2, va2, z1, k2, rfl⟩, rfl, k5, k6⟩
        · rw [show f_X3_readProduct_8 rs (nI n) bt FU (nI d) 0 0 fp (nI p1) (sg bt n p1) (nI c1) de1 va1 = _ from x7, bs, add1 (by omega), bs, x8, nI_1]
          dsimp only
          have hd3 : ∀ k : Nat, k < c2 → upd de2 c2 (5 + nI m) k = de2 k ∧ upd va2 c2 0 k = va2 k := fun k hk => ⟨upd_n (by omega), upd_n (by omega)⟩
          have hcm : cm2 ≤ c2 := by rcases x12 with ⟨_, z⟩ | ⟨_, _, _, _, _, z, _⟩ <;> omega
          have hss : SS (upd de2 c2 (5 + nI m)) (upd va2 c2 0) wa2 cm2 w2 (c2 + 1) w1 := ⟨c2, w1 + 1, x12.cong hd3, Or.inr ⟨m + 2, by omega, by omega, rfl, by rw [x10 w1 (by omega)]; exact hw1, rfl, by rw [upd_s, show (5 : Int32) + nI m = nI (5 + m) from la 5 m]; congr 1; omega, upd_s⟩⟩
          have hwa2 : ∀ k : Nat, k < w1 → wa2 k = wa k := fun k hk => (x10 k (by omega)).trans ((g10 k (by omega)).trans (hwa1 k hk))
          have htp : st1 (tpv wa2 w1) := by rw [tpv_c (wa := wa) hwa2]; exact h10
          rcases ih p2 (i + 1) (c2 + 1) cm2 w2 FX F2 num2 (upd de2 c2 (5 + nI m)) (upd va2 c2 0) sd2 wa2 (by omega) x2 (by omega) (by omega) x5 (by omega) x6 (x11.cong (fun k hk => hd3 k (by omega))) hss htp x14 with hbad | ⟨p', c', cm', w', F', num', de', va', sd', wa', y1, y2, y3, y4, y5, y6, y7, y8, y9, y10, y11, y12, y13, y14⟩
          · exact Or.inl hbad
          · right
            have kk : ∀ k : Nat, k < c2 → de' k = de2 k ∧ va' k = va2 k := fun k hk => ⟨(y9 k (by omega)).1.trans (hd3 k hk).1, (y9 k (by omega)).2.trans (hd3 k hk).2⟩
            have kk1 : ∀ k : Nat, k < c1 → de' k = de1 k ∧ va' k = va1 k := fun k hk => ⟨(kk k (by omega)).1.trans (x9 k hk).1, (kk k (by omega)).2.trans (x9 k hk).2⟩
            refine ⟨p', c', cm', w', F', num', de', va', sd', wa', by omega, y2, by omega, by omega, y5, y6, y7, y8, fun k hk => ⟨(kk1 k (by omega)).1.trans (g9 k hk).1, (kk1 k (by omega)).2.trans (g9 k hk).2⟩, fun k hk => (y10 k hk).trans (hwa2 k hk), y11, y12, ?_, y14⟩
            refine Ty.app (b := c1) (by omega) (by omega) (g13.cong (fun k _ hk => kk1 k hk)) (Ty.app (b := c2) (by omega) (by omega) (x13.cong (fun k _ hk => kk k hk)) (Ty.app (b := c2 + 1) (by omega) (by omega) (Ty.one (Or.inr (Or.inr (Or.inl ⟨⟨5 + m, by omega, by omega, ?_⟩, by omega, by omega, by omega⟩)))) y13))
            rw [(y9 c2 (by omega)).1, upd_s]
            exact la 5 m
theorem sumOne {bt tp : Nat → Int32} (hb : ∀ k : Nat, k < 260 → bt k = tp k &&& 255) (hB : BY bt) {n : Nat} (hn : n ≤ 240) (rs : RTy) {d : Nat} (hd : d ≤ 6) (hrs : d < 6 → SumOK bt tp n rs (d + 1)) : SumOK bt tp n (f_X3_readSum rs) d := by
  intro G F base p c w h fp ft num de va sd wa h1 h2 h3 h4 h5 h6 h7 h8 h9
  unfold f_X3_readSum f_X3_readProduct
  rcases facC hb hB hn rs hd hrs G F base p c w h fp ft num de va sd wa h1 h2 h3 h4 h5 h6 (by omega) h8 with hbad | ⟨p1, c1, F1, num1, de1, va1, sd1, wa1, g1, g2, g3, g4, g5, g7, g8, g9, g10, g11, g13⟩
  · left
    obtain ⟨f, fp', r, f0, ⟨p', c', de', va', k1, k2, k3⟩, k4, k5, k6⟩ := hbad
    rw [k3, bs, show FU = 9999 + 1 from rfl, xfP8 f0, bs, xfS8 f0, k4]
    exact ⟨f, fp', r, f0, ⟨p', c', de', va', k1, k2, rfl⟩, rfl, k5, k6⟩
  · rw [g7, bs, g8]
    dsimp only
    have hst1 : st1 (tpv wa1 w) := by rw [tpv_c (wa := wa) g10]; exact h9
    rcases prodC hb hB hn rs hd hrs base w h (by omega) (by omega) fp ft (n - p1) p1 0 c1 c1 w FU F1 num1 de1 va1 sd1 wa1 (Nat.le_refl _) g2 (by omega) (by unfold FU; omega) g5 (by omega) (by omega) g11 (Or.inl ⟨rfl, rfl⟩) hst1.z with hbad | ⟨p2, c2, cm2, w2, F2, num2, de2, va2, sd2, wa2, x1, x2, x3, x4, x5, x6, x7, x8, x9, x10, x11, x12, x13, x14⟩
    · left
      obtain ⟨f, fp', r, f0, ⟨p', c', de', va', k1, k2, k3⟩, k4, k5, k6⟩ := hbad
      rw [show f_X3_readProduct_8 rs (nI n) bt FU (nI d) 0 0 fp (nI p1) (sg bt n p1) (nI c1) de1 va1 = _ from k3, bs, show FU = 9999 + 1 from rfl, xfS8 f0, k4]
      exact ⟨f, fp', r, f0, ⟨p', c', de', va', k1, k2, rfl⟩, rfl, k5, k6⟩
    · rw [show f_X3_readProduct_8 rs (nI n) bt FU (nI d) 0 0 fp (nI p1) (sg bt n p1) (nI c1) de1 va1 = _ from x7, bs, x8]
      dsimp only
      have hst2 : st1 (tpv wa2 w) := by rw [tpv_c (wa := wa1) x10]; exact hst1
      rcases sumL hb hB hn rs hd hrs base w h (by omega) h7 fp ft (n - p2) p2 0 c2 cm2 w2 FU F2 num2 de2 va2 sd2 wa2 (Nat.le_refl _) x2 (by omega) (by unfold FU; omega) x5 (by omega) x6 x11 ⟨c2, w, x12, Or.inl ⟨rfl, rfl⟩⟩ hst2 x14 with hbad | ⟨p', c', cm', w', F', num', de', va', sd', wa', y1, y2, y3, y4, y5, y6, y7, y8, y9, y10, y11, y12, y13, y14⟩
      · exact Or.inl hbad
      · right
        have kk1 : ∀ k : Nat, k < c1 → de' k = de1 k ∧ va' k = va1 k := fun k hk => ⟨(y9 k (by omega)).1.trans (x9 k hk).1, (y9 k (by omega)).2.trans (x9 k hk).2⟩
        exact ⟨p', c', cm', w', F', num', de', va', sd', wa', by omega, y2, by omega, by omega, y5, y6, y7, y8, fun k hk => ⟨(kk1 k (by omega)).1.trans (g9 k hk).1, (kk1 k (by omega)).2.trans (g9 k hk).2⟩, fun k hk => (y10 k hk).trans ((x10 k hk).trans (g10 k hk)), y11, y12, Ty.app (b := c1) (by omega) (by omega) (g13.cong (fun k _ hk => kk1 k hk)) (Ty.app (b := c2) (by omega) (by omega) (x13.cong (fun k _ hk => y9 k hk)) y13), y14⟩
theorem sumAll {bt tp : Nat → Int32} (hb : ∀ k : Nat, k < 260 → bt k = tp k &&& 255) (hB : BY bt) {n : Nat} (hn : n ≤ 240) : ∀ (j d K : Nat), d + j = 6 → j ≤ K → SumOK bt tp n (F_X3_readSum (K + 1)) d := by
  intro j
  induction j with
  | zero =>
    intro d K h1 h2
    exact sumOne hb hB hn (F_X3_readSum K) (by omega) (fun h => by omega)
  | succ j ih =>
    intro d K h1 h2
    obtain ⟨K, rfl⟩ : ∃ K', K = K' + 1 := ⟨K - 1, by omega⟩
    exact sumOne hb hB hn (F_X3_readSum (K + 1)) (by omega) (fun _ => ih (d + 1) K (by omega) (by omega))
/-- a whole sum in both -/
theorem sumT {bt tp : Nat → Int32} (hb : ∀ k : Nat, k < 260 → bt k = tp k &&& 255) (hB : BY bt) {n : Nat} (hn : n ≤ 240) {d : Nat} (hd : d ≤ 6) (p c w h : Nat) (fp ft num : Int32) (de va sd wa : Nat → Int32) (h1 : p ≤ n) (h4 : c ≤ p) (h5 : w ≤ p) (h7 : h ≤ 2 * d + 1) (h8 : CR de va sd c) (h9 : st1 (tpv wa w)) :
    Bad bt n (F_X3_readSum 8 (nI n) 0 fp (nI p) (sg bt n p) bt (nI c) de va (nI d)) (f_X12_readsSum (nI p) (nI n) ft num (nI d) (nI c) (nI w) tp sd wa) ∨
    ∃ (p' c' : Nat) (num' : Int32) (de' va' sd' wa' : Nat → Int32), p < p' ∧ p' ≤ n ∧ c < c' ∧ c' + p ≤ c + p' ∧
      F_X3_readSum 8 (nI n) 0 fp (nI p) (sg bt n p) bt (nI c) de va (nI d) = some (0, fp, nI p', sg bt n p', nI c', de', va') ∧ f_X12_readsSum (nI p) (nI n) ft num (nI d) (nI c) (nI w) tp sd wa = some (1, nI p', ft, num', nI d, nI c', nI w, sd', wa') ∧
      (∀ k : Nat, k < c → de' k = de k ∧ va' k = va k) ∧ (∀ k : Nat, k < w → wa' k = wa k) ∧ CR de' va' sd' c' ∧ Ty de' va' c c' h (h + 1) := by
  have hn' : n ≤ 260 := by omega
  have eM : f_X12_readsSum (nI p) (nI n) ft num (nI d) (nI c) (nI w) tp sd wa = sMF tp n FU FU w p ft num d c w sd wa := rfl
  rw [eM]
  rcases sumAll hb hB hn (6 - d) d 7 (by omega) (by omega) FU FU w p c w h fp ft num de va sd wa h1 (by unfold FU; omega) (by unfold FU; omega) h4 h5 (Nat.le_refl _) h7 h8 h9 with hbad | ⟨p', c', cm', w', F', num', de', va', sd', wa', y1, y2, y3, y4, y5, y6, y7, y8, y9, y10, y11, y12, y13, y14⟩
  · exact Or.inl hbad
  · right
    obtain ⟨F', rfl⟩ : ∃ G, F' = G + 1 := ⟨F' - 1, by omega⟩
    have hst : st1 (tpv wa' w) := by rw [tpv_c (wa := wa) y10]; exact h9
    obtain ⟨sd'', e1, e2⟩ := cs1 y12 y11 hst (by omega) (by omega)
    have hle := y12.le
    have hno : ∀ k : Nat, w ≤ k → k < w' → ¬ wa' k / 1048576 = 14 := by
      have dv : ∀ m : Nat, m < 7 → ¬ nI (1048576 * m) / 1048576 = 14 := fun m hm => by
        rw [show nI (1048576 * m) / 1048576 = nI (1048576 * m / 1048576) from dv_eq (by omega) (by decide) (by decide), Nat.mul_div_cancel_left m (by decide)]
        exact ne (c := 14) (by omega) (by decide) (by omega)
      obtain ⟨c0, w0, hps, hss⟩ := y12
      intro k k1 k2
      rcases hps with ⟨a1, a2⟩ | ⟨m, m1, m2, m3, m4, _⟩
      · rcases hss with ⟨b1, b2⟩ | ⟨m', q1, q2, q3, q4, _⟩
        · omega
        · rw [show k = w by omega, q4]; exact dv m' (by omega)
      · rcases hss with ⟨b1, b2⟩ | ⟨m', q1, q2, q3, q4, _⟩
        · rw [show k = w0 by omega, m4]; exact dv m (by omega)
        · by_cases e : k = w
          · rw [e, q4]; exact dv m' (by omega)
          · rw [show k = w0 by omega, m4]; exact dv m (by omega)
    have hos : f_X12_hasOpenSum (nI w') wa' (nI w) = some 0 := hos0 (by omega) w' FU w (by omega) (by omega) (FU_big (by omega)) hno
    have e138 : f_X12_readsSum_138 (nI n) tp (nI w) (nI p') ft num' (nI d) (nI cm') (nI w') sd' wa' = some (1, nI p', ft, num', nI d, nI c', nI w, sd'', wa') := by
      unfold f_X12_readsSum_138
      rw [hos, bs, if_pos rfl, e1, bs]
    refine ⟨p', c', num', de', va', sd'', wa', y1, y2, y3, y4, y7, ?_, y9, y10, e2, y13⟩
    rw [y8]
    unfold sLP
    rw [f_X12_readsSum_14, here1 hb hn' (by omega), bs, y14, bs, if_pos rfl, bs, hos, bs, if_pos rfl, e138]
    split <;> rfl
end
