section
/-! the class's reader behind a fault -/
abbrev XTy : Type := Int32 × Int32 × Int32 × Int32 × Int32 × (Nat → Int32) × (Nat → Int32)
abbrev MTy : Type := Int32 × Int32 × Int32 × Int32 × Int32 × Int32 × Int32 × (Nat → Int32) × (Nat → Int32)
abbrev RTy : Type := Int32 → Int32 → Int32 → Int32 → Int32 → (Nat → Int32) → Int32 → (Nat → Int32) → (Nat → Int32) → Int32 → Option (Int32 × Int32 × Int32 × Int32 × Int32 × (Nat → Int32) × (Nat → Int32))
def XF (bt : Nat → Int32) (n : Nat) (f fp : Int32) (o : Option XTy) : Prop := ∃ (p' c' : Nat) (de' va' : Nat → Int32), c' ≤ 240 ∧ p' ≤ n ∧ o = some (f, fp, nI p', sg bt n p', nI c', de', va')
theorem add1 {c : Nat} (h : c < 240) (de va : Nat → Int32) (x y : Int32) : f_X2_add (nI c) de va x y = some (nI c, nI (c + 1), upd de c x, upd va c y) := by
  unfold f_X2_add
  rw [if_pos (show nI c < 240 from nI_lt (b := 240) h (by decide)), ixn h (by decide), ixn h (by decide), nI_1, nI_pred, nI_clamp (by omega)]
theorem addG {c : Nat} (h : c ≤ 240) (de va : Nat → Int32) (x y : Int32) : ∃ (r : Int32) (c' : Nat) (de' va' : Nat → Int32), c' ≤ 240 ∧ f_X2_add (nI c) de va x y = some (r, nI c', de', va') := by
  rcases Nat.lt_or_ge c 240 with q | q
  · exact ⟨_, _, _, _, by omega, add1 q de va x y⟩
  · refine ⟨-1, c, de, va, h, ?_⟩
    unfold f_X2_add
    rw [if_neg (show ¬ nI c < 240 from nI_nlt (b := 240) q (by omega))]
theorem landG {c : Nat} (h : c ≤ 240) (va : Nat → Int32) (x : Int32) : ∃ va', f_X2_landHere (nI c) va x = some va' := by
  unfold f_X2_landHere
  by_cases h0 : x < 0
  · exact ⟨va, by rw [if_pos h0]⟩
  · rw [if_neg h0]
    obtain ⟨j, hj, rfl⟩ := nI_of h0
    by_cases h1 : nI c ≤ nI j
    · exact ⟨va, by rw [if_pos h1]⟩
    · have : j < c := by
        rcases Nat.lt_or_ge j c with q | q
        · exact q
        · exact absurd (nI_le q hj) h1
      exact ⟨_, by rw [if_neg h1, ixn (by omega) (by decide)]⟩
theorem opN {f : Int32} (hf : f ≠ 0) (e fp pl s : Int32) (bt : Nat → Int32) (x : Int32) : f_X3_opens e f fp pl s bt x = some (0, f, fp, pl, s) := by
  have e1 : f_X3_opens_21 e bt f fp pl s = some (0, f, fp, pl, s) := by
    unfold f_X3_opens_21
    rw [hfN hf, bs, if_neg i10]
  unfold f_X3_opens
  rw [faN hf, bs]
  by_cases h : x < 6
  · rw [if_pos h]; exact e1
  · rw [if_neg h]; exact e1
theorem exN {f : Int32} (hf : f ≠ 0) (e fp pl s : Int32) (bt : Nat → Int32) (c : Int32) : f_X9_expects e f fp pl s bt c = some (0, f, fp, pl, s) := by
  unfold f_X9_expects f_X9_expects_15
  rw [hfN hf, bs, if_neg i10, faN hf, bs]
theorem ex0 {bt : Nat → Int32} {n : Nat} (hn : n ≤ 260) (p : Nat) (fp : Int32) {c : Int32} (hc : c ≠ -1) : f_X9_expects (nI n) 0 fp (nI p) (sg bt n p) bt c = if sg bt n p = c then some (1, 0, fp, nI (p + 1), sg bt n (p + 1)) else some (0, 1, nI p, nI p, sg bt n p) := by
  unfold f_X9_expects f_X9_expects_15
  rw [hf0, bs, if_pos rfl]
  by_cases e : sg bt n p = c
  · rw [if_pos e, if_pos e, skip1 bt hn (sg_lt (bt := bt) (by rw [e]; exact hc)), bs]
  · rw [if_neg e, if_neg e, fa0, bs]
theorem xfF {bt tp : Nat → Int32} (hb : ∀ k : Nat, k < 260 → bt k = tp k &&& 255) (hB : BY bt) {n : Nat} (hn : n ≤ 260) {f : Int32} (hf : f ≠ 0) (fp : Int32) (rs : RTy) {p : Nat} (hp : p ≤ n) {c : Nat} (hc : c ≤ 240) (de va : Nat → Int32) (x : Int32) :
    XF bt n f fp (f_X3_readFactor rs (nI n) f fp (nI p) (sg bt n p) bt (nI c) de va x) := by
  unfold f_X3_readFactor
  by_cases s91 : sg bt n p = 91
  · rw [if_pos s91, opN hf, bs, if_pos rfl]
    exact ⟨p, c, de, va, hc, hp, rfl⟩
  · rw [if_neg s91]
    rcases digC hb hB hn (q := p) (by omega) with ⟨a, _, cc⟩ | ⟨a, aq, _, cc, _⟩
    · obtain ⟨r, c', de', va', h1, h2⟩ := addG hc de va 1 (-1)
      rw [cc, bs, if_pos rfl, chN hf, bs, h2, bs]
      exact ⟨p, c', de', va', h1, hp, rfl⟩
    · obtain ⟨k, g1, g2, g3, g4, g5⟩ := numL hb hB (p := p) (D := 5) hn (by omega) f fp 5 0 FU (by omega) (by unfold FU; omega) hp (fun i hi => by omega)
      have e : f_X9_number (nI n) f fp (nI p) (sg bt n p) bt 5 = some (nI (dvl bt p k), f, fp, nI (p + k), sg bt n (p + k)) := by
        unfold f_X9_number f_X9_number_16
        rw [cc, bs, if_neg i10]
        rcases g5 with ⟨_, q⟩ | ⟨_, _, q⟩
        · exact q
        · exact q.trans (by rw [faN hf]; rfl)
      obtain ⟨r, c', de', va', h1, h2⟩ := addG hc de va 0 (nI (dvl bt p k))
      rw [cc, bs, if_neg i10, e, bs, h2, bs]
      exact ⟨p + k, c', de', va', h1, g3, rfl⟩
theorem xfP8 {f : Int32} (hf : f ≠ 0) (rs : RTy) (e : Int32) (bt : Nat → Int32) (F : Nat) (x x3 fp pl s st : Int32) (de va : Nat → Int32) : f_X3_readProduct_8 rs e bt (F + 1) x x3 f fp pl s st de va = some (f, fp, pl, s, st, de, va) := by
  rw [f_X3_readProduct_8, whN hf, bs, if_pos rfl]
  split <;> rfl
theorem xfS8 {f : Int32} (hf : f ≠ 0) (rs : RTy) (e : Int32) (bt : Nat → Int32) (F : Nat) (x x3 fp pl s st : Int32) (de va : Nat → Int32) : f_X3_readSum_8 rs e bt (F + 1) x x3 f fp pl s st de va = some (f, fp, pl, s, st, de, va) := by
  rw [f_X3_readSum_8, whN hf, bs, if_pos rfl]
  split <;> rfl
theorem xfP {bt tp : Nat → Int32} (hb : ∀ k : Nat, k < 260 → bt k = tp k &&& 255) (hB : BY bt) {n : Nat} (hn : n ≤ 260) {f : Int32} (hf : f ≠ 0) (fp : Int32) (rs : RTy) {p : Nat} (hp : p ≤ n) {c : Nat} (hc : c ≤ 240) (de va : Nat → Int32) (x : Int32) :
    XF bt n f fp (f_X3_readProduct rs (nI n) f fp (nI p) (sg bt n p) bt (nI c) de va x) := by
  obtain ⟨p', c', de', va', h1, h2, h3⟩ := xfF hb hB hn hf fp rs hp hc de va x
  unfold f_X3_readProduct
  rw [h3, bs]
  exact ⟨p', c', de', va', h1, h2, xfP8 hf rs _ _ 9999 _ _ _ _ _ _ _ _⟩
theorem xfS {bt tp : Nat → Int32} (hb : ∀ k : Nat, k < 260 → bt k = tp k &&& 255) (hB : BY bt) {n : Nat} (hn : n ≤ 260) {f : Int32} (hf : f ≠ 0) (fp : Int32) (rs : RTy) {p : Nat} (hp : p ≤ n) {c : Nat} (hc : c ≤ 240) (de va : Nat → Int32) (x : Int32) :
    XF bt n f fp (f_X3_readSum rs (nI n) f fp (nI p) (sg bt n p) bt (nI c) de va x) := by
  obtain ⟨p', c', de', va', h1, h2, h3⟩ := xfP hb hB hn hf fp rs hp hc de va x
  unfold f_X3_readSum
  rw [h3, bs]
  exact ⟨p', c', de', va', h1, h2, xfS8 hf rs _ _ 9999 _ _ _ _ _ _ _ _⟩
theorem xfT {bt tp : Nat → Int32} (hb : ∀ k : Nat, k < 260 → bt k = tp k &&& 255) (hB : BY bt) {n : Nat} (hn : n ≤ 260) {f : Int32} (hf : f ≠ 0) (fp : Int32) (rt : RTy) {p : Nat} (hp : p ≤ n) {c : Nat} (hc : c ≤ 240) (de va : Nat → Int32) (x : Int32) :
    XF bt n f fp (f_X3_readTest rt (nI n) f fp (nI p) (sg bt n p) bt (nI c) de va x) := by
  unfold f_X3_readTest
  by_cases s33 : sg bt n p = 33
  · rw [if_pos s33, opN hf, bs, if_pos rfl]
    exact ⟨p, c, de, va, hc, hp, rfl⟩
  · rw [if_neg s33]
    by_cases s40 : sg bt n p = 40
    · rw [if_pos s40, opN hf, bs, if_pos rfl]
      exact ⟨p, c, de, va, hc, hp, rfl⟩
    · rw [if_neg s40]
      obtain ⟨p1, c1, de1, va1, h1, h2, h3⟩ := xfS hb hB hn hf fp (F_X3_readSum 7) hp hc de va x
      rw [show F_X3_readSum 8 (nI n) f fp (nI p) (sg bt n p) bt (nI c) de va x = _ from h3, bs, chN hf, bs]
      obtain ⟨p2, c2, de2, va2, k1, k2, k3⟩ := xfS hb hB hn hf fp (F_X3_readSum 7) h2 h1 de1 va1 x
      rw [show F_X3_readSum 8 (nI n) f fp (nI p1) (sg bt n p1) bt (nI c1) de1 va1 x = _ from k3, bs]
      obtain ⟨r, c', de', va', g1, g2⟩ := addG k1 de2 va2 (10 + (-1)) 0
      rw [g2, bs]
      exact ⟨p2, c', de', va', g1, k2, rfl⟩
theorem xfA8 {f : Int32} (hf : f ≠ 0) (rt : RTy) (e : Int32) (bt : Nat → Int32) (F : Nat) (x x3 fp pl s st : Int32) (de va : Nat → Int32) : f_X3_readAllOf_8 rt e bt (F + 1) x x3 f fp pl s st de va = some (f, fp, pl, s, st, de, va) := by
  rw [f_X3_readAllOf_8, paN hf, bs, if_pos rfl]
  split <;> rfl
theorem xfB8 {f : Int32} (hf : f ≠ 0) (rt : RTy) (e : Int32) (bt : Nat → Int32) (F : Nat) (x x3 fp pl s st : Int32) (de va : Nat → Int32) : f_X3_readAnyOf_8 rt e bt (F + 1) x x3 f fp pl s st de va = some (f, fp, pl, s, st, de, va) := by
  rw [f_X3_readAnyOf_8, paN hf, bs, if_pos rfl]
  split <;> rfl
/-! a number in both -/
theorem numM {bt tp : Nat → Int32} (hb : ∀ k : Nat, k < 260 → bt k = tp k &&& 255) (hB : BY bt) {n p : Nat} (hn : n ≤ 260) (ft : Int32) {k : Nat} (hk : k ≤ 5) (hp : p + k ≤ n) (hd : ∀ i : Nat, i < k → isD bt n (p + i)) :
    ∀ (m j F : Nat), j + m = k → m < F → (¬ isD bt n (p + k) → f_X12_readsNumber_10 (nI n) tp F (nI p) (nI (p + j)) ft (nI (dvl bt p j)) = some (1, nI (p + k), ft, nI (dvl bt p k))) ∧ (k = 5 → isD bt n (p + k) → f_X12_readsNumber_10 (nI n) tp F (nI p) (nI (p + j)) ft (nI (dvl bt p j)) = some (0, nI (p + k), (-1000) * 2 - nI (p + k), nI (dvl bt p k))) := by
  intro m
  induction m with
  | zero =>
    intro j F hj hF
    obtain ⟨F, rfl⟩ : ∃ G, F = G + 1 := ⟨F - 1, by omega⟩
    rw [show j = k by omega, f_X12_readsNumber_10]
    rcases digC hb hB hn (q := p + k) (by omega) with ⟨a, c, _⟩ | ⟨a, aq, c, _⟩
    · refine ⟨fun _ => ?_, fun _ z => absurd z a⟩
      rw [c, bs, if_pos rfl]
    · refine ⟨fun z => absurd a z, fun h3 _ => ?_⟩
      rw [c, bs, if_neg i10, if_pos (show nI (p + k) = nI p + 5 from by rw [h3]; exact (la p 5).symm)]
      rfl
  | succ m ih =>
    intro j F hj hF
    obtain ⟨F, rfl⟩ : ∃ G, F = G + 1 := ⟨F - 1, by omega⟩
    rcases digC hb hB hn (q := p + j) (by omega) with ⟨a, _⟩ | ⟨a, aq, c, _, d, d1, d2, d3⟩
    · exact absurd (hd j (by omega)) a
    · have v : 10 * nI (dvl bt p j) + nI (48 + d) - 48 = nI (dvl bt p (j + 1)) := by
        rw [show (10 : Int32) * nI (dvl bt p j) = nI (10 * dvl bt p j) from lm 10 _, la, show (48 : Int32) = nI 48 from rfl, pk_sub (by omega)]
        show _ = nI (10 * dvl bt p j + ((bt (p + j)).toNatClampNeg - 48))
        rw [d3]
        congr 1
        omega
      rw [f_X12_readsNumber_10, c, bs, if_neg i10, if_neg (fun z => by have := nI_inj (by omega) (by omega) (show nI (p + j) = nI (p + 5) from by rw [z]; exact la p 5); omega), here1 hb hn (by omega), bs, d2, v, nI_1]
      exact ih (j + 1) F (by omega) (by omega)
/-! a factor in both -/
def sLP (tp : Nat → Int32) (n F base p : Nat) (ft num : Int32) (d cm w : Nat) (sd wa : Nat → Int32) : Option MTy := f_X12_readsSum_14 (nI n) tp F (nI base) (nI p) ft num (nI d) (nI cm) (nI w) sd wa
def skLP (tp : Nat → Int32) (n F base : Nat) (z : MTy) : Option MTy := if z.1 = 0 then some (0, z.2.1, z.2.2.1, z.2.2.2.1, z.2.2.2.2.1, z.2.2.2.2.2.1, z.2.2.2.2.2.2.1, z.2.2.2.2.2.2.2.1, z.2.2.2.2.2.2.2.2) else f_X12_readsSum_14 (nI n) tp F (nI base) z.2.1 z.2.2.1 z.2.2.2.1 z.2.2.2.2.1 z.2.2.2.2.2.1 z.2.2.2.2.2.2.1 z.2.2.2.2.2.2.2.1 z.2.2.2.2.2.2.2.2
def sMF (tp : Nat → Int32) (n G F base p : Nat) (ft num : Int32) (d cm w : Nat) (sd wa : Nat → Int32) : Option MTy := (f_X12_readsFactor_0 (nI n) tp G (nI p) ft num (nI d) (nI cm) (nI w) sd wa).bind (skLP tp n F base)
def Bad (bt : Nat → Int32) (n : Nat) (o : Option XTy) (m : Option MTy) : Prop := ∃ (f fp : Int32) (r : MTy), f ≠ 0 ∧ XF bt n f fp o ∧ m = some r ∧ r.1 = 0 ∧ r.2.2.1 = (-1000) * f - fp
def SumOK (bt tp : Nat → Int32) (n : Nat) (rs : RTy) (d : Nat) : Prop := ∀ (G F base p c w h : Nat) (fp ft num : Int32) (de va sd wa : Nat → Int32), p ≤ n → n - p < G → n - p < F → c ≤ p → w ≤ p → base ≤ w → h ≤ 2 * d + 1 → CR de va sd c → st1 (tpv wa w) →
  Bad bt n (rs (nI n) 0 fp (nI p) (sg bt n p) bt (nI c) de va (nI d)) (sMF tp n G F base p ft num d c w sd wa) ∨
  ∃ (p' c' cm' w' F' : Nat) (num' : Int32) (de' va' sd' wa' : Nat → Int32), p < p' ∧ p' ≤ n ∧ c < c' ∧ c' + p ≤ c + p' ∧ n - p' < F' ∧ w' ≤ p' ∧
    rs (nI n) 0 fp (nI p) (sg bt n p) bt (nI c) de va (nI d) = some (0, fp, nI p', sg bt n p', nI c', de', va') ∧ sMF tp n G F base p ft num d c w sd wa = sLP tp n F' base p' ft num' d cm' w' sd' wa' ∧
    (∀ k : Nat, k < c → de' k = de k ∧ va' k = va k) ∧ (∀ k : Nat, k < w → wa' k = wa k) ∧ CR de' va' sd' cm' ∧ SS de' va' wa' cm' w' c' w ∧ Ty de' va' c c' h (h + 1) ∧ f_X12_sumSign (sg bt n p') = some (-1)
theorem SS.le {de va wa : Nat → Int32} {cm w c w1 : Nat} (h : SS de va wa cm w c w1) : w1 ≤ w ∧ cm ≤ c := by
  obtain ⟨c0, w0, hp, h⟩ := h
  rcases hp with ⟨rfl, rfl⟩ | ⟨m, m1, m2, rfl, m4, rfl, m6, m7⟩ <;> rcases h with ⟨rfl, rfl⟩ | ⟨m', _, _, rfl, _, rfl, _⟩ <;> omega
theorem m14 : ((1048576 : Int32) * 14) = nI (1048576 * 14) := rfl
theorem div14 : nI (1048576 * 14) / 1048576 = 14 := by decide
theorem facC {bt tp : Nat → Int32} (hb : ∀ k : Nat, k < 260 → bt k = tp k &&& 255) (hB : BY bt) {n : Nat} (hn : n ≤ 240) (rs : RTy) {d : Nat} (hd : d ≤ 6) (hrs : d < 6 → SumOK bt tp n rs (d + 1)) (G F base p c w h : Nat) (fp ft num : Int32) (de va sd wa : Nat → Int32) (hp : p ≤ n) (hG : n - p < G) (hF : n - p < F) (hc : c ≤ p) (hw : w ≤ p) (hbw : base ≤ w) (hh : h ≤ 2 * d + 3) (hC : CR de va sd c) :
    Bad bt n (f_X3_readFactor rs (nI n) 0 fp (nI p) (sg bt n p) bt (nI c) de va (nI d)) (sMF tp n G F base p ft num d c w sd wa) ∨
    ∃ (p' c' F' : Nat) (num' : Int32) (de' va' sd' wa' : Nat → Int32), p < p' ∧ p' ≤ n ∧ c < c' ∧ c' + p ≤ c + p' ∧ n - p' < F' ∧
      f_X3_readFactor rs (nI n) 0 fp (nI p) (sg bt n p) bt (nI c) de va (nI d) = some (0, fp, nI p', sg bt n p', nI c', de', va') ∧ sMF tp n G F base p ft num d c w sd wa = sLP tp n F' base p' ft num' d c' w sd' wa' ∧
      (∀ k : Nat, k < c → de' k = de k ∧ va' k = va k) ∧ (∀ k : Nat, k < w → wa' k = wa k) ∧ CR de' va' sd' c' ∧ Ty de' va' c c' h (h + 1) := by
  obtain ⟨G, rfl⟩ : ∃ G', G = G' + 1 := ⟨G - 1, by omega⟩
  have hn' : n ≤ 260 := by omega
  unfold sMF
  rw [f_X12_readsFactor_0, here1 hb hn' (by omega), bs]
  unfold f_X3_readFactor
  by_cases s91 : sg bt n p = 91
  · have hpn : p < n := sg_lt (bt := bt) (by rw [s91]; decide)
    rw [if_pos s91, if_pos s91]
    unfold f_X3_opens f_X3_opens_21 f_X12_opens
    by_cases d6 : d = 6
    · left
      rw [d6, if_neg (show ¬ nI 6 < 6 by decide), if_pos (show nI 6 = 6 from rfl), fa0, bs, show f_X12_wrongAt ft 5 (nI p) = some (0, (-1000) * 5 - nI p) from rfl, bs, bs, if_pos rfl, bs, hfN (show (5 : Int32) ≠ 0 by decide), bs, if_neg i10, bs, if_pos rfl]
      exact ⟨5, nI p, _, by decide, ⟨p, c, de, va, by omega, hp, rfl⟩, rfl, rfl, rfl⟩
    · rw [if_pos (show nI d < 6 from nI_lt (b := 6) (by omega) (by decide)), if_neg (show ¬ nI d = 6 from ne (c := 6) (by omega) (by decide) d6), ixn (show w < 260 by omega) (by decide), bs, if_neg i10, hf0, bs, if_pos rfl, skip1 bt hn' hpn, bs, bs, if_neg i10, nI_clamp (by omega), nI_1, nI_1, nI_1, m14]
      have hs14 : st1 (tpv (upd wa w (nI (1048576 * 14))) (w + 1)) := Or.inr ⟨14, by decide, by decide, tpv_s (q := 14) (r := 0) upd_s (by decide) (by decide)⟩
      rcases hrs (by omega) G F base (p + 1) c (w + 1) h fp ft num de va sd (upd wa w (nI (1048576 * 14))) (by omega) (by omega) (by omega) (by omega) (by omega) (by omega) (by omega) hC hs14 with hbad | ⟨p', c', cm', w', F', num', de', va', sd', wa', g1, g2, g3, g4, g5, g6, g7, g8, g9, g10, g11, g12, g13, g14⟩
      · left
        obtain ⟨f, fp', r, f0, ⟨p', c', de', va', k1, k2, k3⟩, k4, k5, k6⟩ := hbad
        unfold sMF at k4
        rw [k3, bs, exN f0, bs, k4]
        exact ⟨f, fp', r, f0, ⟨p', c', de', va', k1, k2, rfl⟩, rfl, k5, k6⟩
      · obtain ⟨F', rfl⟩ : ∃ F'', F' = F'' + 1 := ⟨F' - 1, by omega⟩
        have hle := g12.le
        have hwa : wa' w = nI (1048576 * 14) := by rw [g10 w (by omega), upd_s]
        have hos : f_X12_hasOpenSum (nI w') wa' (nI base) = some 1 := hos1 (by omega) w' FU base w (by omega) (FU_big (by omega)) (by omega) (by omega) (by rw [hwa]; exact div14)
        have hst : st1 (tpv wa' (w + 1)) := by rw [tpv_c g10]; exact hs14
        obtain ⟨sd'', e1, e2⟩ := cs1 g12 g11 hst (by omega) (by omega)
        unfold sMF at g8
        rw [g7, bs, ex0 hn' p' fp (by decide), g8]
        unfold sLP
        rw [f_X12_readsSum_14, here1 hb hn' (by omega), bs, g14, bs, if_pos rfl, bs]
        by_cases s93 : sg bt n p' = 93
        · right
          have hpn' : p' < n := sg_lt (bt := bt) (by rw [s93]; decide)
          rw [if_pos s93, if_pos s93, hos, bs, bs, if_neg i10, e1, bs]
          refine ⟨p' + 1, c', F', num', de', va', sd'', wa', by omega, by omega, by omega, by omega, by omega, rfl, ?_, fun k hk => g9 k hk, fun k hk => ?_, e2, g13⟩
          · rw [nI_1, nI_pred, nI_pred]
          · rw [g10 k (by omega), upd_n (by omega)]
        · left
          rw [if_neg s93, if_neg s93, bs]
          unfold f_X12_readsSum_138
          rw [hos, bs, if_neg i10]
          exact ⟨1, nI p', _, by decide, ⟨p', c', de', va', by omega, g2, rfl⟩, rfl, rfl, rfl⟩
  · rw [if_neg s91, if_neg s91]
    rcases numX hb hB hn' (D := 5) (p := p) (by decide) (by decide) hp fp with ⟨nd, _⟩ | ⟨k, k1, k5, kn, kd, hk⟩
    · rcases digC hb hB hn' (q := p) (by omega) with ⟨_, x1, x2⟩ | ⟨a, _⟩
      · rw [x1, x2, bs, bs, if_pos rfl, if_pos rfl, bs, ch0 hn']
        rcases facS hB hn' p with ⟨y1, y2⟩ | ⟨a, ha, y1, y2, hpn⟩
        · left
          obtain ⟨r, c', de', va', z1, z2⟩ := addG (show c ≤ 240 by omega) de va 1 (-1)
          rw [y1, if_pos rfl, bs, y2, bs, if_pos rfl, z2, bs]
          exact ⟨1, nI p, _, by decide, ⟨p, c', de', va', z1, hp, rfl⟩, rfl, rfl, rfl⟩
        · right
          have hfm := fmap_lt a ha
          rw [y1, if_neg (nI_nm1 (by omega)), bs, y2, bs, if_neg (nI_nm1 (by omega)), add1 (by omega), bs]
          unfold f_X12_notes
          rw [ixn (show c < 260 by omega) (by decide), bs, bs, nI_clamp (by omega), nI_1, nI_1]
          refine ⟨p + 1, c + 1, F, num, upd de c 1, upd va c (nI a), upd sd c (1048576 * 1 + nI (fmap a)), wa, by omega, by omega, by omega, by omega, by omega, rfl, rfl, fun k hk => ⟨upd_n (by omega), upd_n (by omega)⟩, fun k _ => rfl, fun k hk => ?_, Ty.one (Or.inl ⟨Or.inr upd_s, by omega, rfl⟩)⟩
          by_cases e : k = c
          · rw [e, upd_s, upd_s, upd_s]
            exact ⟨1, 1, a, fmap a, rfl, rfl, la (1048576 * 1) (fmap a), by omega, Or.inr (Or.inl ⟨rfl, rfl, ha, rfl⟩)⟩
          · rw [upd_n e, upd_n e, upd_n e]; exact hC k (by omega)
      · exact absurd a nd
    · rcases digC hb hB hn' (q := p) (by omega) with ⟨nd, _⟩ | ⟨_, _, x1, x2, _⟩
      · exact absurd (kd 0 (by omega)) nd
      · rw [x1, x2, bs, bs, if_neg i10, if_neg i10]
        have hv : dvl bt p k < 100000 := by
          have := dvl_lt hb hB hn' k kn kd
          have : 10 ^ k ≤ 10 ^ 5 := Nat.pow_le_pow_right (by decide) k5
          omega
        unfold f_X12_readsNumber
        have hm := numM hb hB hn' ft k5 kn kd k 0 FU (by omega) (FU_big (by omega))
        rcases hk with ⟨q1, q2⟩ | ⟨q0, q1, q2⟩
        · right
          have e := hm.1 q1
          rw [show f_X9_number (nI n) 0 fp (nI p) (sg bt n p) bt 5 = _ from q2, bs, show f_X12_readsNumber_10 (nI n) tp FU (nI p) (nI p) ft 0 = _ from e, bs, if_neg i10, add1 (by omega), bs]
          unfold f_X12_notes
          rw [ixn (show c < 260 by omega) (by decide), bs, bs, nI_clamp (by omega), nI_1]
          refine ⟨p + k, c + 1, F, nI (dvl bt p k), upd de c 0, upd va c (nI (dvl bt p k)), upd sd c (1048576 * 0 + nI (dvl bt p k)), wa, by omega, by omega, by omega, by omega, by omega, rfl, rfl, fun k hk => ⟨upd_n (by omega), upd_n (by omega)⟩, fun k _ => rfl, fun k' hk => ?_, Ty.one (Or.inl ⟨Or.inl upd_s, by omega, rfl⟩)⟩
          by_cases e : k' = c
          · rw [e, upd_s, upd_s, upd_s]
            exact ⟨0, 0, dvl bt p k, dvl bt p k, rfl, rfl, la (1048576 * 0) _, by omega, Or.inl ⟨rfl, rfl, rfl, hv⟩⟩
          · rw [upd_n e, upd_n e, upd_n e]; exact hC k' (by omega)
        · left
          have e := hm.2 q0 q1
          obtain ⟨r, c', de', va', z1, z2⟩ := addG (show c ≤ 240 by omega) de va 0 (nI (dvl bt p k))
          rw [show f_X9_number (nI n) 0 fp (nI p) (sg bt n p) bt 5 = _ from q2, bs, show f_X12_readsNumber_10 (nI n) tp FU (nI p) (nI p) ft 0 = _ from e, bs, if_pos rfl, z2, bs, bs]
          exact ⟨2, nI (p + k), _, by decide, ⟨p + k, c', de', va', z1, kn, rfl⟩, rfl, rfl, rfl⟩
end
