section
/-! a condition in both: leaps that still wait to land -/
def Ld (q : Nat) (wa : Nat → Int32) (c w w0 : Nat) (sd sd1 : Nat → Int32) : Prop := (w = w0 ∧ sd1 = sd) ∨ ∃ k0 r : Nat, k0 < c ∧ w = w0 + 1 ∧ wa w0 = nI (1048576 * q + k0) ∧ r < 1048576 ∧ sd k0 = nI (1048576 * q + r) ∧ sd1 = upd sd k0 (nI (1048576 * q + c))
theorem Ld.le {q : Nat} {wa : Nat → Int32} {c w w0 : Nat} {sd sd1 : Nat → Int32} (h : Ld q wa c w w0 sd sd1) : w0 ≤ w := by
  rcases h with ⟨h, _⟩ | ⟨_, _, _, h, _⟩ <;> omega
theorem land22 {q : Nat} (hq : q < 100) {wa : Nat → Int32} {c w k0 r : Nat} (hc : c ≤ 250) (hw : w < 260) (hk : k0 < c) (h : wa w = nI (1048576 * q + k0)) (hr : r < 1048576) (sd : Nat → Int32) (hs : sd k0 = nI (1048576 * q + r)) (K : Int32 → Int32 → (Nat → Int32) → Option (Int32 × (Nat → Int32))) (x : Int32) : f_X12_lands_22 (nI c) wa K x (nI (w + 1)) sd = K x (nI w) (upd sd k0 (nI (1048576 * q + c))) := by
  unfold f_X12_lands_22
  have e1 : jrem (wa (nI w).toNatClampNeg) 1048576 = nI k0 := by
    rw [nI_clamp (by omega), h, show jrem (nI (1048576 * q + k0)) 1048576 = nI ((1048576 * q + k0) % 1048576) from rm_eq (by omega) (by decide) (by decide)]
    congr 1
    omega
  have e2 : (1048576 : Int32) * (sd k0 / 1048576) + nI c = nI (1048576 * q + c) := by
    rw [hs, show nI (1048576 * q + r) / 1048576 = nI ((1048576 * q + r) / 1048576) from dv_eq (by omega) (by decide) (by decide), show (1048576 * q + r) / 1048576 = q by omega, show (1048576 : Int32) * nI q = nI (1048576 * q) from lm 1048576 q, la]
  rw [nI_pred, ixn hw (by decide), e1, ixn (show k0 < 260 by omega) (by decide), ixn (show k0 < 260 by omega) (by decide), nI_clamp (show k0 < 2 ^ 31 by omega), e2]
theorem lands0 {wa : Nat → Int32} {c w w0 : Nat} {sd sd1 : Nat → Int32} (hc : c ≤ 250) (hw : w ≤ 250) (h : Ld 11 wa c w w0 sd sd1) (ht : ¬ tpv wa w0 = 11) : f_X12_lands (nI c) (nI w) sd wa 0 = some (nI w0, sd1) := by
  unfold f_X12_lands
  have stop : ∀ (F : Nat) (sd : Nat → Int32), w0 ≤ 250 → f_X12_lands_0 (nI c) wa (F + 1) 0 (nI w0) sd = some (nI w0, sd) := by
    intro F sd h0
    rw [f_X12_lands_0, wTop wa (by omega), bs, if_neg ht, if_pos rfl]
  rcases h with ⟨rfl, rfl⟩ | ⟨k0, r, h1, rfl, h3, h4, h5, rfl⟩
  · exact stop 9999 _ hw
  · rw [show FU = 9998 + 1 + 1 from rfl, f_X12_lands_0, wTop wa (by omega), bs, tpv_s (q := 11) h3 (by decide) (by omega), if_pos (show nI 11 = 11 from rfl), land22 (q := 11) (by decide) hc (by omega) h1 h3 h4 sd h5]
    exact stop 9998 _ (by omega)
theorem lands1 {wa : Nat → Int32} {c w w0 w1 : Nat} {sd sd1 sd2 : Nat → Int32} (hc : c ≤ 250) (hw : w ≤ 250) (h : Ld 11 wa c w w0 sd sd1) (h' : Ld 12 wa c w0 w1 sd1 sd2) (ht : ¬ tpv wa w1 = 11) (ht' : ¬ tpv wa w1 = 12) : f_X12_lands (nI c) (nI w) sd wa 1 = some (nI w1, sd2) := by
  unfold f_X12_lands
  have stop : ∀ (F : Nat) (sd : Nat → Int32), w1 ≤ 250 → f_X12_lands_0 (nI c) wa (F + 1) 1 (nI w1) sd = some (nI w1, sd) := by
    intro F sd h0
    rw [f_X12_lands_0, wTop wa (by omega), bs, if_neg ht, if_neg i10, bs, if_neg ht']
  have mid : ∀ (F : Nat), w0 ≤ 250 → f_X12_lands_0 (nI c) wa (F + 1 + 1) 1 (nI w0) sd1 = some (nI w1, sd2) := by
    intro F h0
    rcases h' with ⟨rfl, rfl⟩ | ⟨k0, r, h1, rfl, h3, h4, h5, rfl⟩
    · exact stop _ _ h0
    · rw [f_X12_lands_0, wTop wa (by omega), bs, bs, tpv_s (q := 12) h3 (by decide) (by omega), if_neg (show ¬ nI 12 = 11 by decide), if_neg i10, if_pos (show nI 12 = 12 from rfl), land22 (q := 12) (by decide) hc (by omega) h1 h3 h4 sd1 h5]
      exact stop _ _ (by omega)
  rcases h with ⟨rfl, rfl⟩ | ⟨k0, r, h1, rfl, h3, h4, h5, rfl⟩
  · exact mid 9998 hw
  · rw [show FU = 9997 + 1 + 1 + 1 from rfl, f_X12_lands_0, wTop wa (by omega), bs, tpv_s (q := 11) h3 (by decide) (by omega), if_pos (show nI 11 = 11 from rfl), land22 (q := 11) (by decide) hc (by omega) h1 h3 h4 sd h5]
    exact mid 9997 (by omega)
def C40 (tp : Nat → Int32) (n F p : Nat) (ft num : Int32) (d cm w : Nat) (sd wa : Nat → Int32) : Option MTy := f_X12_readsCondition_40 (nI n) tp F (nI p) ft num (nI d) (nI cm) (nI w) sd wa
def C92 (tp : Nat → Int32) (n F G p : Nat) (ft num : Int32) (d cm w : Nat) (sd wa : Nat → Int32) : Option MTy := f_X12_readsCondition_92 (nI n) tp (f_X12_readsCondition_40 (nI n) tp F) G (nI p) ft num (nI d) (nI cm) (nI w) sd wa
def EPc (tp : Nat → Int32) (n E F G p : Nat) (ft num : Int32) (d cm w : Nat) (sd wa : Nat → Int32) : Option MTy := (f_X12_endsPiece_0 wa E (nI d) (nI cm) (nI w) sd).bind (fun z => f_X12_readsCondition_92 (nI n) tp (f_X12_readsCondition_40 (nI n) tp F) G (nI p) ft num z.1 z.2.1 z.2.2.1 z.2.2.2 wa)
theorem EPc.stop {tp : Nat → Int32} {n E F G p : Nat} {ft num : Int32} {d cm w : Nat} {sd wa : Nat → Int32} (hE : 0 < E) (hw : w ≤ 260) (ht : ¬ tpv wa w = 10) : EPc tp n E F G p ft num d cm w sd wa = C92 tp n F G p ft num d cm w sd wa := by
  obtain ⟨E, rfl⟩ : ∃ E', E = E' + 1 := ⟨E - 1, by omega⟩
  unfold EPc C92
  rw [f_X12_endsPiece_0, wTop wa hw, bs, if_neg ht, bs]
def TestOK (bt tp : Nat → Int32) (n : Nat) (rt : RTy) (d : Nat) : Prop := ∀ (F p c w : Nat) (fp ft num : Int32) (de va sd wa : Nat → Int32), p ≤ n → n - p < F → c ≤ p → 1 ≤ w → w ≤ p → CR de va sd c → st1 (tpv wa w) →
  Bad bt n (rt (nI n) 0 fp (nI p) (sg bt n p) bt (nI c) de va (nI d)) (C40 tp n F p ft num d c w sd wa) ∨
  ∃ (p' c' E F' G' : Nat) (num' : Int32) (de' va' sd' wa' : Nat → Int32), p < p' ∧ p' ≤ n ∧ c < c' ∧ c' + p ≤ c + p' ∧ w < E ∧ n - p' < F' ∧ n - p' < G' ∧
    rt (nI n) 0 fp (nI p) (sg bt n p) bt (nI c) de va (nI d) = some (0, fp, nI p', sg bt n p', nI c', de', va') ∧ C40 tp n F p ft num d c w sd wa = EPc tp n E F' G' p' ft num' d c' w sd' wa' ∧
    (∀ k : Nat, k < c → de' k = de k ∧ va' k = va k) ∧ (∀ k : Nat, k < w → wa' k = wa k) ∧ CR de' va' sd' c' ∧ Ty de' va' c c' 0 100
theorem jmp {tp : Nat → Int32} {n F p c w q : Nat} {ft num : Int32} {d : Nat} {sd wa : Nat → Int32} (hw : w < 260) (hc : c < 260) : f_X12_readsCondition_215 (nI n) tp (f_X12_readsCondition_40 (nI n) tp F) (nI q) (nI p) ft num (nI d) (nI c) (nI w) sd wa = C40 tp n F (p + 1) ft num d (c + 1) (w + 1) (upd sd c (nI (1048576 * q))) (upd wa w (nI (1048576 * q + c))) := by
  unfold f_X12_readsCondition_215 f_X12_jumps C40
  rw [ixn hw (by decide), note1 hc, bs, bs, nI_1, nI_1, nI_clamp (by omega), show (1048576 : Int32) * nI q = nI (1048576 * q) from lm 1048576 q, la]
theorem opL {o q c : Nat} (h : (o = 3 ∧ q = 11) ∨ (o = 4 ∧ q = 12)) (hc : c < 1048576) : opR (nI o) (nI c) (nI (1048576 * q + c)) := ⟨o, q, c, c, rfl, rfl, rfl, hc, by rcases h with ⟨rfl, rfl⟩ | ⟨rfl, rfl⟩; exact Or.inr (Or.inr (Or.inr (Or.inl ⟨rfl, rfl, rfl⟩))); exact Or.inr (Or.inr (Or.inr (Or.inr (Or.inl ⟨rfl, rfl, rfl⟩))))⟩
theorem opU {o q : Nat} (h : (o = 3 ∧ q = 11) ∨ (o = 4 ∧ q = 12)) {d v s : Int32} (hr : opR d v s) (hd : d = nI o) : ∃ r : Nat, r < 1048576 ∧ s = nI (1048576 * q + r) := by
  obtain ⟨o', q', a, b, h1, h2, h3, h4, h5⟩ := hr
  have ho : o' ≤ 12 := by rcases h5 with z | z | z | z | z | z <;> omega
  have : o' = o := nI_inj (by omega) (by omega) (by rw [← h1, ← hd])
  refine ⟨b, h4, ?_⟩
  rw [h3]
  rcases h5 with z | z | z | z | z | z <;> rcases h with ⟨g1, g2⟩ | ⟨g1, g2⟩ <;> first | (exfalso; omega) | (congr 2; omega)
theorem landX {c c1 : Nat} (h : c < c1) (hc : c1 ≤ 240) (va : Nat → Int32) : f_X2_landHere (nI c1) va (nI c) = some (upd va c (nI c1)) := by
  unfold f_X2_landHere
  rw [if_neg (nI_pos (by omega)), if_neg (nI_ge h (by omega)), ixn (by omega) (by decide), nI_clamp (by omega)]
/-- one leap more, in both: it lands in the class, and waits to land in the reference -/
theorem leapR {o q : Nat} (h : (o = 3 ∧ q = 11) ∨ (o = 4 ∧ q = 12)) {de va sd sd1 : Nat → Int32} {c c1 : Nat} (hk : c < c1) (hc : c1 < 1048576) (hd : de c = nI o) (hC : CR de va sd c1) (e : sd1 = upd sd c (nI (1048576 * q + c1))) : CR de (upd va c (nI c1)) sd1 c1 := by
  intro k hk'
  by_cases z : k = c
  · rw [z, e, upd_s, upd_s, hd]; exact opL h hc
  · rw [e, upd_n z, upd_n z]; exact hC k hk'
theorem CR.leap {o q : Nat} (h : (o = 3 ∧ q = 11) ∨ (o = 4 ∧ q = 12)) {de va sd : Nat → Int32} {c : Nat} (hC : CR de va sd c) : CR (upd de c (nI o)) (upd va c 0) (upd sd c (nI (1048576 * q))) (c + 1) := by
  intro k hk'
  by_cases z : k = c
  · rw [z, upd_s, upd_s, upd_s]; exact opL (c := 0) h (by decide)
  · rw [upd_n z, upd_n z, upd_n z]; exact hC k (by omega)
theorem allL {bt tp : Nat → Int32} (hb : ∀ k : Nat, k < 260 → bt k = tp k &&& 255) (hB : BY bt) {n : Nat} (hn : n ≤ 240) (rt : RTy) {d : Nat} (hrt : TestOK bt tp n rt d) (w0 : Nat) (fp ft : Int32) :
    ∀ (j p i c w FX F G : Nat) (num : Int32) (de va sd sd1 wa : Nat → Int32), n - p ≤ j → p ≤ n → i < p → n - p < FX → n - p < F → n - p < G → c ≤ p → w ≤ p → CR de va sd1 c → Ld 11 wa c w w0 sd sd1 → ¬ tpv wa w0 = 11 →
    Bad bt n (f_X3_readAllOf_8 rt (nI n) bt FX (nI d) (nI i) 0 fp (nI p) (sg bt n p) (nI c) de va) (C92 tp n F G p ft num d c w sd wa) ∨
    ∃ (p' c' w' F' G' : Nat) (num' : Int32) (de' va' sd' sd1' wa' : Nat → Int32), p ≤ p' ∧ p' ≤ n ∧ c ≤ c' ∧ c' + p ≤ c + p' ∧ n - p' < F' ∧ n - p' < G' ∧ w' ≤ p' ∧
      f_X3_readAllOf_8 rt (nI n) bt FX (nI d) (nI i) 0 fp (nI p) (sg bt n p) (nI c) de va = some (0, fp, nI p', sg bt n p', nI c', de', va') ∧ C92 tp n F G p ft num d c w sd wa = C92 tp n F' G' p' ft num' d c' w' sd' wa' ∧
      (∀ k : Nat, k < c → de' k = de k ∧ va' k = va k) ∧ (∀ k : Nat, k < w0 → wa' k = wa k) ∧ CR de' va' sd1' c' ∧ Ld 11 wa' c' w' w0 sd' sd1' ∧ Ty de' va' c c' 100 100 ∧ ¬ sg bt n p' = 38 := by
  have hn' : n ≤ 260 := by omega
  intro j
  induction j with
  | zero =>
    intro p i c w FX F G num de va sd sd1 wa h1 h2 h3 h4 h5 h5' h6 h7 h8 h9 h10
    obtain ⟨FX, rfl⟩ : ∃ G, FX = G + 1 := ⟨FX - 1, by omega⟩
    by_cases hs : sg bt n p = 38
    · have : p < n := sg_lt (bt := bt) (by rw [hs]; decide)
      omega
    · right
      refine ⟨p, c, w, F, G, num, de, va, sd, sd1, wa, Nat.le_refl _, h2, Nat.le_refl _, Nat.le_refl _, h5, h5', h7, ?_, rfl, fun _ _ => ⟨rfl, rfl⟩, fun _ _ => rfl, h8, h9, Ty.nil, hs⟩
      rw [f_X3_readAllOf_8, if_neg (show ¬ (240 : Int32) ≤ nI i from nI_ge (b := 240) (by omega) (by decide)), pa0 hn' p (by decide), if_neg hs, bs, if_pos rfl]
  | succ j ih =>
    intro p i c w FX F G num de va sd sd1 wa h1 h2 h3 h4 h5 h5' h6 h7 h8 h9 h10
    obtain ⟨FX, rfl⟩ : ∃ G, FX = G + 1 := ⟨FX - 1, by omega⟩
    obtain ⟨G, rfl⟩ : ∃ G', G = G' + 1 := ⟨G - 1, by omega⟩
    rw [f_X3_readAllOf_8, if_neg (show ¬ (240 : Int32) ≤ nI i from nI_ge (b := 240) (by omega) (by decide)), pa0 hn' p (by decide)]
    by_cases hs : sg bt n p = 38
    · have hpn : p < n := sg_lt (bt := bt) (by rw [hs]; decide)
      have hle := h9.le
      have eM : C92 tp n F (G + 1) p ft num d c w sd wa = C40 tp n F (p + 1) ft num d (c + 1) (w0 + 1) (upd sd1 c (nI (1048576 * 11))) (upd wa w0 (nI (1048576 * 11 + c))) := by
        unfold C92
        rw [f_X12_readsCondition_92, here1 hb hn' (by omega), bs, hs, if_neg (show ¬ (38 : Int32) = 41 by decide), bs, if_pos rfl]
        unfold f_X12_readsCondition_180 f_X12_readsCondition_195
        rw [here1 hb hn' (by omega), bs, hs, if_neg (show ¬ (38 : Int32) = 124 by decide), lands0 (by omega) (by omega) h9 h10, bs, bs, if_pos rfl]
        exact jmp (q := 11) (by omega) (by omega)
      rw [if_pos hs, bs, if_neg i10, add1 (by omega), bs, eM]
      dsimp only
      have hst : tpv (upd wa w0 (nI (1048576 * 11 + c))) (w0 + 1) = nI 11 := tpv_s (q := 11) (r := c) upd_s (by decide) (by omega)
      have hwa1 : ∀ k : Nat, k < w0 → upd wa w0 (nI (1048576 * 11 + c)) k = wa k := fun k hk => upd_n (by omega)
      rcases hrt F (p + 1) (c + 1) (w0 + 1) fp ft num (upd de c 3) (upd va c 0) (upd sd1 c (nI (1048576 * 11))) (upd wa w0 (nI (1048576 * 11 + c))) (by omega) (by omega) (by omega) (by omega) (by omega) (CR.leap (o := 3) (q := 11) (Or.inl ⟨rfl, rfl⟩) h8) (by rw [hst]; exact Or.inr ⟨11, by decide, by decide, rfl⟩) with hbad | ⟨p1, c1, E, F1, G1, num1, de1, va1, sd2, wa1, g1, g2, g3, g4, g5, g6, g6', g7, g8, g9, g10, g11, g13⟩
      · left
        obtain ⟨f, fp', r, f0, ⟨p', c', de', va', k1, k2, k3⟩, k4, k5, k6⟩ := hbad
        obtain ⟨va2, z2⟩ := landG k1 va' (nI c)
        obtain ⟨FX, rfl⟩ : ∃ G, FX = G + 1 := ⟨FX - 1, by omega⟩
        rw [k3, bs, z2, bs, xfA8 f0, k4]
        exact ⟨f, fp', r, f0, ⟨p', c', de', va2, k1, k2, rfl⟩, rfl, k5, k6⟩
      · have hst1 : tpv wa1 (w0 + 1) = nI 11 := by rw [tpv_c (wa := upd wa w0 (nI (1048576 * 11 + c))) g10]; exact hst
        rw [g7, bs, landX (by omega) (by omega), bs, g8, EPc.stop (by omega) (by omega) (by rw [hst1]; decide), nI_1]
        dsimp only
        have hdc : de1 c = nI 3 := by rw [(g9 c (by omega)).1, upd_s]; rfl
        have hvc : va1 c = 0 := by rw [(g9 c (by omega)).2, upd_s]
        obtain ⟨r, r1, r2⟩ := opU (o := 3) (q := 11) (Or.inl ⟨rfl, rfl⟩) (g11 c (by omega)) hdc
        have hw1 : wa1 w0 = nI (1048576 * 11 + c) := by rw [g10 w0 (by omega), upd_s]
        have hld : Ld 11 wa1 c1 (w0 + 1) w0 sd2 (upd sd2 c (nI (1048576 * 11 + c1))) := Or.inr ⟨c, r, by omega, rfl, hw1, r1, r2, rfl⟩
        have htp : ¬ tpv wa1 w0 = 11 := by rw [tpv_c (wa := wa) (fun k hk => by rw [g10 k (by omega)]; exact hwa1 k hk)]; exact h10
        rcases ih p1 (i + 1) c1 (w0 + 1) FX F1 G1 num1 de1 (upd va1 c (nI c1)) sd2 (upd sd2 c (nI (1048576 * 11 + c1))) wa1 (by omega) g2 (by omega) (by omega) g6 g6' (by omega) (by omega) (leapR (o := 3) (q := 11) (Or.inl ⟨rfl, rfl⟩) (by omega) (by omega) hdc g11 rfl) hld htp with hbad | ⟨p', c', w', F', G', num', de', va', sd', sd1', wa', y1, y2, y3, y4, y5, y5', y6, y7, y8, y9, y10, y11, y12, y13, y14⟩
        · exact Or.inl hbad
        · right
          have kk : ∀ k : Nat, k < c1 → k ≠ c → de' k = de1 k ∧ va' k = va1 k := fun k hk hne => ⟨(y9 k hk).1, (y9 k hk).2.trans (upd_n hne)⟩
          refine ⟨p', c', w', F', G', num', de', va', sd', sd1', wa', by omega, y2, by omega, by omega, y5, y5', y6, y7, y8, fun k hk => ⟨(kk k (by omega) (by omega)).1.trans ((g9 k (by omega)).1.trans (upd_n (by omega))), (kk k (by omega) (by omega)).2.trans ((g9 k (by omega)).2.trans (upd_n (by omega)))⟩, fun k hk => (y10 k hk).trans ((g10 k (by omega)).trans (hwa1 k hk)), y11, y12, ?_, y14⟩
          refine Ty.app (b := c1) (by omega) (by omega) (Ty.leap (Or.inl ?_) ?_ (by omega) (g13.cong (fun k a b => kk k b (by omega)))) y13
          · rw [(y9 c (by omega)).1]; exact hdc
          · rw [(y9 c (by omega)).2, upd_s]
    · right
      rw [if_neg hs, bs, if_pos rfl]
      exact ⟨p, c, w, F, G + 1, num, de, va, sd, sd1, wa, Nat.le_refl _, h2, Nat.le_refl _, Nat.le_refl _, h5, h5', h7, rfl, rfl, fun _ _ => ⟨rfl, rfl⟩, fun _ _ => rfl, h8, h9, Ty.nil, hs⟩
end
