def zMk (G : Int → Int) (a w v : Int) : Int → Int := fun x => if a ≤ x ∧ x < a + w then v else G x
/-- the grid behind a panel at p -/
def zGr (k w j : Int) (p : Int × Int × Int) (G : Int → Int) : Int → Int := if k < 2 then zMk G (24 * p.1 + (6 * p.2.1 + p.2.2)) w j else if k = 2 then zMk G (24 * p.1) 24 j else zMk (zMk G (24 * p.1) 24 j) (24 * (p.1 + 1)) 24 j
def zGrid (sg : Int) (K W T : Int → Int) : Nat → Int → Int
  | 0 => fun _ => -1
  | j + 1 => if (zSeq sg K W T (j + 1)).1 = true then zGr (K j) (W j) j (zPos sg K W T j) (zGrid sg K W T j) else zGrid sg K W T j
def zUs (c : Int → Int) : Nat → Int | 0 => 0 | k + 1 => if 0 < c k then (k : Int) + 1 else zUs c k
def zLo (P : Int → Int) : Nat → Int | 0 => 0 | k + 1 => zLo P k + if P k = -1 then 1 else 0
def zEm (G : Int → Int) (a : Int) : Nat → Int | 0 => 0 | k + 1 => zEm G a k + if G (a + k) = -1 then 1 else 0
def zEu (c G : Int → Int) : Nat → Int | 0 => 0 | k + 1 => zEu c G k + if 0 < c k then zEm G (24 * k) 24 else 0
def zPs (c : Int → Int) : Nat → Int | 0 => 0 | k + 1 => zPs c k + if 0 < c k then 1 else 0
/-- the least of the last m cells of a page -/
def zFo (G : Int → Int) (a : Int) : Nat → Int | 0 => -1 | k + 1 => if G (a + (23 - k)) ≠ -1 ∧ (zFo G a k = -1 ∨ G (a + (23 - k)) < zFo G a k) then G (a + (23 - k)) else zFo G a k
def zBo (K P : Int → Int) (p : Int) : Nat → Int | 0 => 0 | k + 1 => zBo K P p k + if K k = 1 ∧ P k = p then 1 else 0
def zMx (b : Int → Int) : Nat → Int | 0 => 0 | k + 1 => if zMx b k < b k then b k else zMx b k
def zAbs (x : Int) : Int := if x < 0 then -x else x
def zUn (b : Int → Int) (u : Int) : Nat → Int | 0 => 0 | k + 1 => if 2 * (k : Int) < u ∧ zUn b u k < zAbs (b (2 * k) - b (2 * k + 1)) then zAbs (b (2 * k) - b (2 * k + 1)) else zUn b u k
def zPgF (what v0 v1 v2 v3 v4 v5 : Int) : Int := if what = 0 then v0 else if what = 1 then v1 else if what = 2 then v2 else if what = 3 then v3 else if what = 4 then v4 else v5
def zCtF (what n us ps lo mb eu un sg sm : Int) : Int := if what = 0 then n else if what = 1 then us else if what = 2 then us - ps else if what = 3 then lo else if what = 4 then mb else if what = 5 then eu else if what = 6 then un else if what = 7 then sg else sm
def zWhl (K G : Int → Int) (p : Int) : Prop := G (24 * p) ≠ -1 ∧ 2 ≤ K (G (24 * p))
