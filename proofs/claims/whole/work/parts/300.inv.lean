/-! what ties the class's cells to the reference's -/
def eX (s f h c i : Nat) : Nat := s + 4 * f + 64 * h + 1024 * c + 2048 * i
def eM (s f h c i : Nat) : Nat := s + 3 * f + 48 * h + 480 * c + 960 * i
def GR (x m : Int32) : Prop := ∃ s f h c i : Nat, s < 3 ∧ f < 16 ∧ h < 10 ∧ c < 2 ∧ i < 2 ∧ x = nI (eX s f h c i) ∧ m = nI (eM s f h c i)
def SR (x m : Int32) : Prop := (x = -1 ∧ m = -1) ∨ GR x m
def ChR (gu nu co li : Nat → Int32) (wa ar st cl dr : Int32) (now : Nat → Int32) : Prop :=
  (∀ k : Nat, k < 144 → SR (gu k) (now k)) ∧ (∀ k : Nat, k < 144 → nu k = now (144 + k)) ∧ (∀ k : Nat, k < 144 → co k = now (288 + k)) ∧ (∃ w : Nat, w ≤ 200 ∧ wa = nI w ∧ now 632 = nI w ∧ ∀ k : Nat, k < w → GR (li k) (now (432 + k))) ∧ ar = now 633 ∧ st = now 634 ∧ cl = now 635 ∧ dr = now 636
def TpR (len : Int32) (by' : Nat → Int32) (taped : Int32) (tape : Nat → Int32) : Prop := (∃ n : Nat, n ≤ 260 ∧ len = nI n ∧ taped = nI n) ∧ ∀ k : Nat, k < 260 → by' k = tape k &&& 255
/-- the same step in both codes: its number here, there, and what goes with it -/
def opR (d v : Int32) (cd : Int32) : Prop := ∃ (o q a b : Nat), d = nI o ∧ v = nI a ∧ cd = nI (1048576 * q + b) ∧ b < 1048576 ∧
  ((o = 0 ∧ q = 0 ∧ a = b ∧ a < 100000) ∨ (o = 1 ∧ q = 1 ∧ a < 12 ∧ b = ([0, 1, 2, 3, 4, 10, 11, 5, 6, 7, 8, 9] : List Nat).getD a 0) ∨ (o = 2 ∧ q = 10) ∨ (o = 3 ∧ q = 11 ∧ a = b) ∨ (o = 4 ∧ q = 12 ∧ a = b) ∨ (5 ≤ o ∧ o ≤ 12 ∧ q = o - 3))
/-- a code from one place to another that is well typed: t k is how many numbers lie there ahead of step k; 100: one truth alone -/
def wtR (deeds values : Nat → Int32) (t : Nat → Nat) (a b : Nat) : Prop := ∀ k : Nat, a ≤ k → k < b →
  ((deeds k = 0 ∨ deeds k = 1) ∧ t k < 32 ∧ t (k + 1) = t k + 1) ∨ (deeds k = 2 ∧ t k = 100 ∧ t (k + 1) = 100) ∨ ((deeds k = 3 ∨ deeds k = 4) ∧ t k = 100 ∧ t (k + 1) = 0 ∧ ∃ v : Nat, values k = nI v ∧ k < v ∧ v ≤ b ∧ t v = 100) ∨
  ((∃ o : Nat, 5 ≤ o ∧ o ≤ 9 ∧ deeds k = nI o) ∧ 2 ≤ t k ∧ t k ≤ 32 ∧ t (k + 1) = t k - 1) ∨ ((∃ o : Nat, 10 ≤ o ∧ o ≤ 12 ∧ deeds k = nI o) ∧ t k = 2 ∧ t (k + 1) = 100)
def LwR (deeds values kinds ss ts te : Nat → Int32) (rules : Int32) (codes clauseOf cf ch ct : Nat → Int32) (clauses : Int32) : Prop :=
  ∃ r : Nat, r ≤ 16 ∧ rules = nI r ∧ clauses = nI r ∧ ∀ q : Nat, q < r → ∃ (a b c : Nat) (t : Nat → Nat), a ≤ b ∧ b < c ∧ c ≤ 240 ∧ ss q = nI a ∧ cf q = nI a ∧ ts q = nI b ∧ ch q = nI b ∧ te q = nI c ∧ ct q = nI c ∧ ((kinds q = 0 ∧ clauseOf q = 101) ∨ (kinds q = 1 ∧ clauseOf q = 121) ∨ (kinds q = 2 ∧ clauseOf q = 111)) ∧
    (∀ k : Nat, a ≤ k → k < c → opR (deeds k) (values k) (codes k)) ∧ (kinds q = 2 → a = b) ∧ (kinds q ≠ 2 → t a = 0 ∧ wtR deeds values t a b ∧ t b = 1) ∧ ∃ u : Nat → Nat, u b = 0 ∧ wtR deeds values u b c ∧ u c = 100
def Inv (XA : Nat → Nat → Int32) (XI : Nat → Int32) (MA : Nat → Nat → Int32) (MI : Nat → Int32) : Prop :=
  TpR (XI 1) (XA 0) (MI 0) (MA 3) ∧ ChR (XA 1) (XA 2) (XA 3) (XA 4) (XI 7) (XI 8) (XI 9) (XI 10) (XI 11) (MA 0) ∧ XI 0 = MI 15 ∧ (MI 15 = 0 ∨ (MI 15 = 1 ∧ ChR (XA 5) (XA 6) (XA 7) (XA 8) (XI 12) (XI 13) (XI 14) (XI 15) (XI 16) (MA 2))) ∧ LwR (XA 22) (XA 23) (XA 24) (XA 25) (XA 26) (XA 27) (XI 26) (MA 10) (MA 11) (MA 12) (MA 13) (MA 14) (MI 9)
def swA (f : Nat → (Nat → Int32)) : Nat → (Nat → Int32) := fun k => if k = 22 then f 29 else if k = 23 then f 30 else if k = 24 then f 31 else if k = 25 then f 32 else if k = 26 then f 33 else if k = 27 then f 34 else if k = 28 then f 35 else if k = 29 then f 22 else if k = 30 then f 23 else if k = 31 then f 24 else if k = 32 then f 25 else if k = 33 then f 26 else if k = 34 then f 27 else if k = 35 then f 28 else f k
def swI (f : Nat → Int32) : Nat → Int32 := fun k => if k = 25 then f 27 else if k = 26 then f 28 else if k = 27 then f 25 else if k = 28 then f 26 else f k
def swX (f : Nat → Nat) : Nat → Nat := fun k => if k = 34 then f 42 else if k = 35 then f 43 else if k = 36 then f 44 else if k = 37 then f 45 else if k = 38 then f 46 else if k = 39 then f 47 else if k = 40 then f 48 else if k = 41 then f 49 else if k = 42 then f 34 else if k = 43 then f 35 else if k = 44 then f 36 else if k = 45 then f 37 else if k = 46 then f 38 else if k = 47 then f 39 else if k = 48 then f 40 else if k = 49 then f 41 else f k
