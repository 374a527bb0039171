/-! ===== the law's own pouring, in pure words ===== -/
/-- page, unit of the page, beats, whether a panel is set on it, whether it goes on -/
abbrev ZS : Type := Int × Int × Int × Int × Int
def zLA (t sg a be st : Int) : Int := if st = 1 ∧ sg < be + t then 24 else a
def zLB (w a : Int) : Int := if 6 - a % 6 < w then a + (6 - a % 6) else a
def zLT (x : Int × Int × Int) : Int × Int × Int := if x.2.1 = 24 then (x.1 + 1, 0, 0) else x
def zLp (k pg a : Int) : Int := if k = 1 ∧ pg % 2 = 0 ∧ 0 < a % 6 then a + (6 - a % 6) else a
def zLC (k : Int) (x : Int × Int × Int) : Int × Int × Int := ((zLT x).1, zLp k (zLT x).1 (zLT x).2.1, (zLT x).2.2)
def zLD (k w pg a : Int) : Int := if k = 1 ∧ pg % 2 = 1 then a / 6 * 6 + 6 - w else a
def zL1 (k pg st : Int) : Int := if k = 3 ∧ (pg + st) % 2 = 1 then pg + st + 1 else pg + st
def zLg (go x : Int) : Int := if go = 1 ∧ x < 16 then 1 else 0
def zSel (g x : Int) : Int := if g = 1 then x else -1
/-- page, unit, beats where a plain or bleeding panel comes -/
def zLX (sg k w t : Int) (S : ZS) : Int × Int × Int := zLC k (zLC k (S.1, zLB w (zLA t sg S.2.1 S.2.2.1 S.2.2.2.1), S.2.2.1))
def zLR (sg k w t : Int) (S : ZS) : ZS := ((zLX sg k w t S).1, zLD k w (zLX sg k w t S).1 (zLX sg k w t S).2.1 + w, (zLX sg k w t S).2.2 + t, 1, zLg S.2.2.2.2 (zLX sg k w t S).1)
def zLW (k : Int) (S : ZS) : ZS := (zL1 k S.1 S.2.2.2.1 + (k - 1), 0, 0, 0, zLg S.2.2.2.2 (zL1 k S.1 S.2.2.2.1 + k - 2))
def zLN (sg k w t : Int) (S : ZS) : ZS := if 1 < k then zLW k S else zLR sg k w t S
/-- page, row, unit that the law writes down -/
def zLO (sg k w t : Int) (S : ZS) : Int × Int × Int :=
  if 1 < k then (zSel (zLW k S).2.2.2.2 (zL1 k S.1 S.2.2.2.1), -1, -1)
  else (zSel (zLR sg k w t S).2.2.2.2 (zLX sg k w t S).1, zSel (zLR sg k w t S).2.2.2.2 (zLD k w (zLX sg k w t S).1 (zLX sg k w t S).2.1 / 6), zSel (zLR sg k w t S).2.2.2.2 (zLD k w (zLX sg k w t S).1 (zLX sg k w t S).2.1 % 6))
def zLS (sg : Int) (K W T : Int → Int) : Nat → ZS
  | 0 => (0, 0, 0, 0, 1)
  | j + 1 => zLN sg (K j) (W j) (T j) (zLS sg K W T j)
theorem zLC_t {k p b : Int} : zLC k (p, 24, b) = (p + 1, 0, 0) := by
  have e : zLT (p, 24, b) = (p + 1, 0, 0) := if_pos rfl
  unfold zLC
  rw [e]
  show (p + 1, zLp k (p + 1) 0, (0 : Int)) = _
  unfold zLp
  rw [if_neg (by omega)]
theorem zLC_n {k p a b : Int} (h : a ≠ 24) : zLC k (p, a, b) = (p, zLp k p a, b) := by
  have e : zLT (p, a, b) = (p, a, b) := if_neg h
  unfold zLC
  rw [e]
theorem zLp_0 {k p a : Int} (h : a % 6 = 0) : zLp k p a = a := if_neg (by omega)
theorem zLCC_1 {k p b : Int} : zLC k (zLC k (p, 24, b)) = (p + 1, 0, 0) := by
  rw [zLC_t, zLC_n (by omega), zLp_0 (by omega)]
theorem zLCC_2 {k p a b : Int} (ha : a ≠ 24) (h : k = 1 ∧ p % 2 = 0 ∧ 0 < a % 6) (h2 : a + (6 - a % 6) = 24) : zLC k (zLC k (p, a, b)) = (p + 1, 0, 0) := by
  have e : zLp k p a = a + (6 - a % 6) := if_pos h
  rw [zLC_n ha, e, h2, zLC_t]
theorem zLCC_3 {k p a b : Int} (ha : a ≠ 24) (h : k = 1 ∧ p % 2 = 0 ∧ 0 < a % 6) (h2 : a + (6 - a % 6) ≠ 24) : zLC k (zLC k (p, a, b)) = (p, a + (6 - a % 6), b) := by
  have e : zLp k p a = a + (6 - a % 6) := if_pos h
  rw [zLC_n ha, e, zLC_n h2, zLp_0 (by omega)]
theorem zLCC_4 {k p a b : Int} (ha : a ≠ 24) (h : ¬ (k = 1 ∧ p % 2 = 0 ∧ 0 < a % 6)) : zLC k (zLC k (p, a, b)) = (p, a, b) := by
  have e : zLp k p a = a := if_neg h
  rw [zLC_n ha, e, zLC_n ha, e]
theorem zLCC_b {k p a b w : Int} (ha : 0 ≤ a ∧ a ≤ 24) (hw : 1 ≤ w ∧ a % 6 + w ≤ 6) (hb : 0 ≤ b) : (p ≤ (zLC k (zLC k (p, a, b))).1 ∧ (zLC k (zLC k (p, a, b))).1 ≤ p + 1) ∧ (0 ≤ (zLC k (zLC k (p, a, b))).2.1 ∧ (zLC k (zLC k (p, a, b))).2.1 ≤ 23 ∧ (zLC k (zLC k (p, a, b))).2.1 % 6 + w ≤ 6) ∧ (0 ≤ (zLC k (zLC k (p, a, b))).2.2 ∧ (zLC k (zLC k (p, a, b))).2.2 ≤ b) := by
  by_cases h1 : a = 24
  · subst h1; rw [zLCC_1]; dsimp only; omega
  · by_cases h2 : k = 1 ∧ p % 2 = 0 ∧ 0 < a % 6
    · by_cases h3 : a + (6 - a % 6) = 24
      · rw [zLCC_2 h1 h2 h3]; dsimp only; omega
      · rw [zLCC_3 h1 h2 h3]; dsimp only; omega
    · rw [zLCC_4 h1 h2]; dsimp only; omega
theorem zLA_b {t sg a be st : Int} (ha : 0 ≤ a ∧ a ≤ 24) : 0 ≤ zLA t sg a be st ∧ zLA t sg a be st ≤ 24 := by
  unfold zLA; split <;> omega
theorem zLB_b {w a : Int} (hw : 1 ≤ w ∧ w ≤ 6) (ha : 0 ≤ a ∧ a ≤ 24) : (0 ≤ zLB w a ∧ zLB w a ≤ 24) ∧ zLB w a % 6 + w ≤ 6 := by
  unfold zLB; split <;> omega
theorem zLX_b {sg k w t : Int} {S : ZS} (hw : 1 ≤ w ∧ w ≤ 6) (ha : 0 ≤ S.2.1 ∧ S.2.1 ≤ 24) (hb : 0 ≤ S.2.2.1) : (S.1 ≤ (zLX sg k w t S).1 ∧ (zLX sg k w t S).1 ≤ S.1 + 1) ∧ (0 ≤ (zLX sg k w t S).2.1 ∧ (zLX sg k w t S).2.1 ≤ 23 ∧ (zLX sg k w t S).2.1 % 6 + w ≤ 6) ∧ (0 ≤ (zLX sg k w t S).2.2 ∧ (zLX sg k w t S).2.2 ≤ S.2.2.1) := by
  have h1 := zLB_b hw (zLA_b (t := t) (sg := sg) (be := S.2.2.1) (st := S.2.2.2.1) ha)
  exact zLCC_b h1.1 ⟨hw.1, h1.2⟩ hb
theorem zLD_b {k w p a : Int} (hw : 1 ≤ w ∧ w ≤ 6) (ha : 0 ≤ a ∧ a ≤ 23 ∧ a % 6 + w ≤ 6) : 0 ≤ zLD k w p a ∧ zLD k w p a + w ≤ 24 := by
  unfold zLD; split <;> omega
theorem zLS_b {n sg : Int} {K W T : Int → Int} (hok : zOk n sg K W T) : ∀ j : Nat, (j : Int) ≤ n → (0 ≤ (zLS sg K W T j).1 ∧ (zLS sg K W T j).1 ≤ 4 * j) ∧ (0 ≤ (zLS sg K W T j).2.1 ∧ (zLS sg K W T j).2.1 ≤ 24) ∧ (0 ≤ (zLS sg K W T j).2.2.1 ∧ (zLS sg K W T j).2.2.1 ≤ 9 * j) ∧ ((zLS sg K W T j).2.2.2.1 = 0 ∨ (zLS sg K W T j).2.2.2.1 = 1) ∧ ((zLS sg K W T j).2.2.2.2 = 0 ∨ (zLS sg K W T j).2.2.2.2 = 1)
  | 0, _ => by
    have e : zLS sg K W T 0 = (0, 0, 0, 0, 1) := rfl
    rw [e]; dsimp only; omega
  | j + 1, h => by
    obtain ⟨i1, i2, i3, i4, i5⟩ := zLS_b hok j (by omega)
    obtain ⟨k1, k2, k3⟩ := hok.2.2 j (by omega) (by omega)
    have eg : ∀ go x : Int, zLg go x = 0 ∨ zLg go x = 1 := fun go x => by unfold zLg; split <;> omega
    rw [zLS]
    unfold zLN
    by_cases hk : 1 < K j
    · rw [if_pos hk]
      unfold zLW
      have e1 := eg (zLS sg K W T j).2.2.2.2 (zL1 (K j) (zLS sg K W T j).1 (zLS sg K W T j).2.2.2.1 + K j - 2)
      have e2 : 0 ≤ zL1 (K j) (zLS sg K W T j).1 (zLS sg K W T j).2.2.2.1 ∧ zL1 (K j) (zLS sg K W T j).1 (zLS sg K W T j).2.2.2.1 ≤ (zLS sg K W T j).1 + 2 := by unfold zL1; split <;> omega
      dsimp only
      exact ⟨by omega, by omega, by omega, Or.inl rfl, e1⟩
    · rw [if_neg hk]
      unfold zLR
      have e1 := eg (zLS sg K W T j).2.2.2.2 (zLX sg (K j) (W j) (T j) (zLS sg K W T j)).1
      have e2 := zLX_b (sg := sg) (k := K j) (t := T j) k2 i2 i3.1
      have e3 := zLD_b (k := K j) (p := (zLX sg (K j) (W j) (T j) (zLS sg K W T j)).1) k2 e2.2.1
      dsimp only
      exact ⟨by omega, by omega, by omega, Or.inr rfl, e1⟩
/-! ===== it is the class's ===== -/
theorem zLX_r {sg k w t pg rw un be st go : Int} {c b : Int → Int} (hw : 1 ≤ w ∧ w ≤ 6) (h2 : 0 ≤ rw ∧ rw ≤ 3) (h3 : 0 ≤ un ∧ un ≤ 6) (hst : (st = 1 ∧ pg < 16 ∧ 0 < c pg ∧ be = b pg) ∨ (st = 0 ∧ ¬ (pg < 16 ∧ 0 < c pg))) :
    zLX sg k w t (pg, 6 * rw + un, be, st, go) = ((zXr sg k w t pg rw un c b).1, 6 * (zXr sg k w t pg rw un c b).2.1 + (zXr sg k w t pg rw un c b).2.2, if (zXr sg k w t pg rw un c b).1 = pg then be else 0) := by
  show zLC k (zLC k (pg, zLB w (zLA t sg (6 * rw + un) be st), be)) = _
  unfold zXr
  by_cases hg : zGc c b pg t sg
  · rw [if_pos hg]
    have e1 : zLA t sg (6 * rw + un) be st = 24 := by
      unfold zGc at hg
      unfold zLA
      rw [if_pos]
      rcases hst with ⟨s1, s2, s3, s4⟩ | ⟨s1, s2⟩
      · rw [s4]; exact ⟨s1, hg.2⟩
      · exact absurd hg.1 s2
    have e2 : zLB w 24 = 24 := if_neg (by omega)
    have e3 : zX2 w (pg + 1, 0, 0) = (pg + 1, 0, 0) := if_neg (by dsimp only; omega)
    have e4 : zX3 k (pg + 1, 0, 0) = (pg + 1, 0, 0) := if_neg (fun h => h.2.2 rfl)
    rw [e1, e2, zLCC_1, e3, e4]
    dsimp only
    rw [if_neg (by omega)]
    rfl
  · rw [if_neg hg]
    have e1 : zLA t sg (6 * rw + un) be st = 6 * rw + un := by
      unfold zGc at hg
      unfold zLA
      rw [if_neg]
      rintro ⟨q1, q2⟩
      rcases hst with ⟨s1, s2, s3, s4⟩ | ⟨s1, s2⟩
      · rw [s4] at q2; exact hg ⟨⟨s2, s3⟩, q2⟩
      · omega
    rw [e1]
    by_cases h6 : 6 - un < w
    · have e2 : zLB w (6 * rw + un) = 6 * (rw + 1) := by
        unfold zLB
        split <;> omega
      have e3 : zX2 w (pg, rw, un) = (zRp pg rw, zRr rw, 0) := if_pos h6
      have e4 : zX3 k (zRp pg rw, zRr rw, 0) = (zRp pg rw, zRr rw, 0) := if_neg (fun h => h.2.2 rfl)
      rw [e2, e3, e4]
      dsimp only
      by_cases h7 : rw = 3
      · subst h7
        have e5 : zRp pg 3 = pg + 1 := if_pos rfl
        have e6 : zRr 3 = 0 := if_pos rfl
        rw [show (6 : Int) * (3 + 1) = 24 by omega, zLCC_1, e5, e6, if_neg (by omega)]
        rfl
      · have e5 : zRp pg rw = pg := if_neg h7
        have e6 : zRr rw = rw + 1 := if_neg h7
        rw [zLCC_4 (by omega) (by omega), e5, e6, if_pos rfl, Int.add_zero]
    · have e2 : zLB w (6 * rw + un) = 6 * rw + un := by
        unfold zLB
        split <;> omega
      have e3 : zX2 w (pg, rw, un) = (pg, rw, un) := if_neg h6
      rw [e2, e3]
      by_cases h8 : k = 1 ∧ pg % 2 = 0 ∧ un ≠ 0
      · have e4 : zX3 k (pg, rw, un) = (zRp pg rw, zRr rw, 0) := if_pos h8
        rw [e4]
        dsimp only
        by_cases h7 : rw = 3
        · subst h7
          have e5 : zRp pg 3 = pg + 1 := if_pos rfl
          have e6 : zRr 3 = 0 := if_pos rfl
          rw [zLCC_2 (by omega) (by omega) (by omega), e5, e6, if_neg (by omega)]
          rfl
        · have e5 : zRp pg rw = pg := if_neg h7
          have e6 : zRr rw = rw + 1 := if_neg h7
          rw [zLCC_3 (by omega) (by omega) (by omega), e5, e6, if_pos rfl, show 6 * rw + un + (6 - (6 * rw + un) % 6) = 6 * (rw + 1) + 0 by omega]
      · have e4 : zX3 k (pg, rw, un) = (pg, rw, un) := if_neg h8
        rw [e4]
        dsimp only
        rw [zLCC_4 (by omega) (by omega), if_pos rfl]
theorem zLD_r {k w p r u : Int} (hu : 0 ≤ u ∧ u ≤ 5) : zLD k w p (6 * r + u) = 6 * r + (if k = 1 ∧ p % 2 = 1 then 6 - w else u) := by
  unfold zLD
  split <;> omega
theorem zL1_F {k pg st : Int} {c : Int → Int} (hst : (st = 1 ∧ pg < 16 ∧ 0 < c pg) ∨ (st = 0 ∧ ¬ (pg < 16 ∧ 0 < c pg))) : zL1 k pg st = zFst c pg (k - 1) := by
  have e : zF0 c pg = pg + st := by
    unfold zF0
    rcases hst with ⟨s1, s2⟩ | ⟨s1, s2⟩
    · rw [if_pos s2, s1]
    · rw [if_neg s2, s1, Int.add_zero]
  unfold zL1 zFst
  rw [e]
  by_cases h : k = 3 ∧ (pg + st) % 2 = 1
  · rw [if_pos h, if_pos ⟨by omega, h.2⟩]
  · rw [if_neg h, if_neg (by omega)]
def zRl (L : ZL) (S : ZS) : Prop := S.1 = L.1 ∧ S.2.1 = 6 * L.2.1 + L.2.2.1 ∧ ((S.2.2.2.1 = 1 ∧ L.1 < 16 ∧ 0 < L.2.2.2.2.1 L.1 ∧ S.2.2.1 = L.2.2.2.2.2.1 L.1) ∨ (S.2.2.2.1 = 0 ∧ ¬ (L.1 < 16 ∧ 0 < L.2.2.2.2.1 L.1) ∧ S.2.2.1 = 0)) ∧ S.2.2.2.2 = 1
theorem zLg_1 {x : Int} (h : x < 16) : zLg 1 x = 1 := if_pos ⟨rfl, h⟩
theorem zLg_0 {go x : Int} (h : ¬ x < 16) : zLg go x = 0 := if_neg (fun q => h q.2)
theorem zRl_step {j sg k w t : Int} {R U W G : Int → Int} {L : ZL} {S : ZS} (hk : 0 ≤ k ∧ k ≤ 3) (hw : 1 ≤ w ∧ w ≤ 6) (hL : zLb j L) (h : zW j R U W L G) (hr : zRl L S) :
    ((zPlL sg k w t L).1 ≠ -1 → zRl (zNext sg k w t j L) (zLN sg k w t S)) ∧ ((zPlL sg k w t L).1 = -1 → (zLN sg k w t S).2.2.2.2 = 0) ∧ zLO sg k w t S = zPlL sg k w t L := by
  obtain ⟨pg, rw, un, e, c, b, f, s, us, be, fi⟩ := L
  obtain ⟨q1, q2, q3, q4, q5⟩ := S
  obtain ⟨hv, hfr, hus, hct⟩ := h
  obtain ⟨l1, l2, l3, l4, -⟩ := hL
  obtain ⟨r1, r2, r3, r4⟩ := hr
  dsimp only at hv hfr hus hct l1 l2 l3 l4 r1 r2 r3 r4
  subst r1; subst r2; subst r4
  have hc0 : ∀ p, q1 < p → p < 16 → c p = 0 ∧ b p = 0 := fun p p1 p2 => by
    have a := zV_high hv (p := p) ⟨by omega, p2⟩ (by omega)
    exact ⟨a, ((hv.2.1 p (by omega) p2).2.1 a).2.1⟩
  have hst : (q4 = 1 ∧ q1 < 16 ∧ 0 < c q1) ∨ (q4 = 0 ∧ ¬ (q1 < 16 ∧ 0 < c q1)) := by
    rcases r3 with ⟨a1, a2, a3, a4⟩ | ⟨a1, a2, a3⟩
    · exact Or.inl ⟨a1, a2, a3⟩
    · exact Or.inr ⟨a1, a2⟩
  by_cases hk2 : k < 2
  · have hk1 : ¬ 1 < k := by omega
    have eX := zLX_r (sg := sg) (k := k) (t := t) (go := 1) (c := c) (b := b) (be := q3) (st := q4) (pg := q1) hw l2 l3 (by
      rcases r3 with ⟨a1, a2, a3, a4⟩ | ⟨a1, a2, a3⟩
      · exact Or.inl ⟨a1, a2, a3, a4⟩
      · exact Or.inr ⟨a1, a2⟩)
    obtain ⟨x1, x2, x3⟩ := zXr_b (sg := sg) (k := k) (t := t) (c := c) (b := b) hw l1 l2 l3
    have xm := (zXr_m (sg := sg) (k := k) (t := t) (c := c) (b := b) hw l1 l2 l3).2
    have ePl : zPlL sg k w t (q1, rw, un, e, c, b, f, s, us, be, fi) = (if (zXr sg k w t q1 rw un c b).1 < 16 then ((zXr sg k w t q1 rw un c b).1, (zXr sg k w t q1 rw un c b).2.1, zXu k w (zXr sg k w t q1 rw un c b)) else (-1, -1, -1)) := by
      show zPlc sg k w t q1 rw un c b = _
      unfold zPlc
      rw [if_pos hk2]
    unfold zNext zLN zLO
    rw [if_pos hk2, if_neg hk1, if_neg hk1, ePl]
    unfold zLR
    dsimp only
    rw [eX]
    unfold zXu
    generalize (zXr sg k w t q1 rw un c b).1 = P at *
    generalize (zXr sg k w t q1 rw un c b).2.1 = r at *
    generalize (zXr sg k w t q1 rw un c b).2.2 = u at *
    dsimp only
    rw [zLD_r (by omega)]
    by_cases hP : P < 16
    · rw [if_pos hP, zLg_1 hP]
      dsimp only
      refine ⟨fun _ => ⟨rfl, by dsimp only; omega, Or.inl ⟨rfl, hP, ?_, ?_⟩, rfl⟩, fun q => by omega, ?_⟩
      · show 0 < zU c P (c P + 1) P
        rw [zU_eq]; have := (l4 P).1; omega
      · show (if P = q1 then q3 else 0) + t = zU b P (b P + t) P
        rw [zU_eq]
        by_cases ep : P = q1
        · rw [if_pos ep, ep]
          rcases r3 with ⟨a1, a2, a3, a4⟩ | ⟨a1, a2, a3⟩
          · rw [a4]
          · have c0 : c q1 = 0 := by have := (l4 q1).1; omega
            have b0 := ((hv.2.1 q1 l1.1 (by omega)).2.1 c0).2.1
            rw [a3, b0]
        · rw [if_neg ep, (hc0 P (by omega) hP).2]
      · have es : ∀ x : Int, zSel 1 x = x := fun x => if_pos rfl
        rw [es, es, es]
        by_cases hb : k = 1 ∧ P % 2 = 1
        · rw [if_pos hb]
          rw [show (6 * r + (6 - w)) / 6 = r by omega, show (6 * r + (6 - w)) % 6 = 6 - w by omega]
        · rw [if_neg hb]
          rw [show (6 * r + u) / 6 = r by omega, show (6 * r + u) % 6 = u by omega]
    · rw [if_neg hP, zLg_0 hP]
      dsimp only
      refine ⟨fun q => absurd rfl q, fun _ => rfl, ?_⟩
      have es : ∀ x : Int, zSel 0 x = -1 := fun x => if_neg (by omega)
      rw [es, es, es]
  · have hk1 : 1 < k := by omega
    have eF := zL1_F (k := k) hst
    have ePl : zPlL sg k w t (q1, rw, un, e, c, b, f, s, us, be, fi) = (if zFst c q1 (k - 1) + (k - 1) ≤ 16 then (zFst c q1 (k - 1), -1, -1) else (-1, -1, -1)) := by
      show zPlc sg k w t q1 rw un c b = _
      unfold zPlc
      rw [if_neg hk2]
    have fb := zFst_b (c := c) (tk := k - 1) l1
    have fm := (zFst_m (c := c) (pg := q1) (tk := k - 1)).1
    unfold zNext zLN zLO
    rw [if_neg hk2, if_pos hk1, if_pos hk1, ePl]
    unfold zLW
    dsimp only
    rw [eF]
    generalize zFst c q1 (k - 1) = F at *
    by_cases hP : F + (k - 1) ≤ 16
    · rw [if_pos hP, zLg_1 (show F + k - 2 < 16 by omega)]
      dsimp only
      refine ⟨fun _ => ⟨rfl, by show (0 : Int) = 6 * 0 + 0; omega, Or.inr ⟨rfl, ?_, rfl⟩, rfl⟩, fun q => by omega, ?_⟩
      · rintro ⟨g1, g2⟩
        dsimp only at g1 g2
        have z := (hc0 (F + (k - 1)) (by omega) g1).1
        unfold zWhole at g2
        by_cases h3 : k - 1 = 2
        · rw [if_pos h3] at g2
          have g3 : 0 < zU (zU c F (c F + 1)) (F + 1) (zU c F (c F + 1) (F + 1) + 1) (F + (k - 1)) := g2
          rw [zU_ne _ _ (by omega), zU_ne _ _ (by omega), z] at g3
          omega
        · rw [if_neg h3] at g2
          have g3 : 0 < zU c F (c F + 1) (F + (k - 1)) := g2
          rw [zU_ne _ _ (by omega), z] at g3
          omega
      · have es : zSel 1 F = F := if_pos rfl
        rw [es]
    · rw [if_neg hP, zLg_0 (show ¬ F + k - 2 < 16 by omega)]
      dsimp only
      refine ⟨fun q => absurd rfl q, fun _ => rfl, ?_⟩
      have es : zSel 0 F = -1 := if_neg (by omega)
      rw [es]
theorem zLN_0 {sg k w t : Int} {S : ZS} (h : S.2.2.2.2 = 0) : (zLN sg k w t S).2.2.2.2 = 0 ∧ zLO sg k w t S = (-1, -1, -1) := by
  have eg : ∀ x : Int, zLg S.2.2.2.2 x = 0 := fun x => if_neg (by omega)
  have es : ∀ x : Int, zSel 0 x = -1 := fun x => if_neg (by omega)
  unfold zLN zLO
  by_cases hk : 1 < k
  · rw [if_pos hk, if_pos hk]
    unfold zLW
    dsimp only
    rw [eg, es]
    exact ⟨rfl, rfl⟩
  · rw [if_neg hk, if_neg hk]
    unfold zLR
    dsimp only
    rw [eg, es, es, es]
    exact ⟨rfl, rfl⟩
theorem zLS_rel {n sg : Int} {K W T : Int → Int} (hok : zOk n sg K W T) : ∀ j : Nat, (j : Int) ≤ n → ((zSeq sg K W T j).1 = true → zRl (zSeq sg K W T j).2 (zLS sg K W T j)) ∧ ((zSeq sg K W T j).1 = false → (zLS sg K W T j).2.2.2.2 = 0)
  | 0, _ => ⟨fun _ => ⟨rfl, by show (0 : Int) = 6 * 0 + 0; omega, Or.inr ⟨rfl, fun q => absurd q.2 (by show ¬ (0 : Int) < 0; omega), rfl⟩, rfl⟩, fun q => absurd q (by simp [zSeq])⟩
  | j + 1, h => by
    obtain ⟨i1, i2⟩ := zLS_rel hok j (by omega)
    obtain ⟨k1, k2, k3⟩ := hok.2.2 j (by omega) (by omega)
    by_cases hs : (zSeq sg K W T j).1 = true
    · have st := zRl_step (sg := sg) (t := T j) k1 k2 (zSeq_b hok j (by omega)) (zW_all hok j (by omega) hs) (i1 hs)
      by_cases hp : (zPlL sg (K j) (W j) (T j) (zSeq sg K W T j).2).1 = -1
      · rw [zSeq_no (fun q => q.2 hp)]
        refine ⟨fun q => absurd q (by simp), fun _ => ?_⟩
        rw [zLS]
        exact st.2.1 hp
      · rw [zSeq_n hs hp]
        refine ⟨fun _ => ?_, fun q => absurd q (by simp)⟩
        rw [zLS]
        exact st.1 hp
    · rw [zSeq_no (fun q => hs q.1)]
      refine ⟨fun q => absurd q (by simp), fun _ => ?_⟩
      rw [zLS]
      have hf : (zSeq sg K W T j).1 = false := by
        cases hh : (zSeq sg K W T j).1 with
        | true => exact absurd hh hs
        | false => rfl
      exact (zLN_0 (i2 hf)).1
theorem zLO_pos {n sg : Int} {K W T : Int → Int} (hok : zOk n sg K W T) (j : Nat) (h : (j : Int) < n) : zLO sg (K j) (W j) (T j) (zLS sg K W T j) = zPos sg K W T j := by
  obtain ⟨i1, i2⟩ := zLS_rel hok j (by omega)
  obtain ⟨k1, k2, k3⟩ := hok.2.2 j (by omega) (by omega)
  by_cases hs : (zSeq sg K W T j).1 = true
  · have st := zRl_step (sg := sg) (t := T j) k1 k2 (zSeq_b hok j (by omega)) (zW_all hok j (by omega) hs) (i1 hs)
    rw [st.2.2]
    by_cases hp : (zPlL sg (K j) (W j) (T j) (zSeq sg K W T j).2).1 = -1
    · rw [zPos_no hs hp j (Nat.le_refl j)]
      have l := zSeq_b hok j (by omega)
      by_cases hk : K j < 2
      · unfold zPlL zPlc at hp ⊢
        rw [if_pos hk] at hp ⊢
        by_cases hx : (zXr sg (K j) (W j) (T j) (zSeq sg K W T j).2.1 (zSeq sg K W T j).2.2.1 (zSeq sg K W T j).2.2.2.1 (zSeq sg K W T j).2.2.2.2.2.1 (zSeq sg K W T j).2.2.2.2.2.2.1).1 < 16
        · rw [if_pos hx] at hp
          have := (zXr_b (sg := sg) (k := K j) (t := T j) (c := (zSeq sg K W T j).2.2.2.2.2.1) (b := (zSeq sg K W T j).2.2.2.2.2.2.1) k2 l.1 l.2.1 l.2.2.1).1.1
          dsimp only at hp
          omega
        · rw [if_neg hx]
      · unfold zPlL zPlc at hp ⊢
        rw [if_neg hk] at hp ⊢
        by_cases hx : zFst (zSeq sg K W T j).2.2.2.2.2.1 (zSeq sg K W T j).2.1 (K j - 1) + (K j - 1) ≤ 16
        · rw [if_pos hx] at hp
          have := (zFst_b (c := (zSeq sg K W T j).2.2.2.2.2.1) (tk := K j - 1) l.1).1
          dsimp only at hp
          omega
        · rw [if_neg hx]
    · rw [zPos_yes hs hp]
  · have hf : (zSeq sg K W T j).1 = false := by
      cases hh : (zSeq sg K W T j).1 with
      | true => exact absurd hh hs
      | false => rfl
    rw [(zLN_0 (i2 hf)).2]
    unfold zPos
    rw [zSeq_no (fun q => hs q.1), if_neg (by simp)]
