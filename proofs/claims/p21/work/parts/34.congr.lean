/-! ===== stories that agree below n ===== -/
section ZCG
variable {n sg : Int} {K W T K' W' T' : Int → Int}
theorem zSeq_c : ∀ j : Nat, (∀ x : Int, 0 ≤ x → x < j → K x = K' x ∧ W x = W' x ∧ T x = T' x) → zSeq sg K W T j = zSeq sg K' W' T' j
  | 0, _ => rfl
  | j + 1, h => by
    have ih := zSeq_c j (fun x h1 h2 => h x h1 (by omega))
    obtain ⟨e1, e2, e3⟩ := h j (by omega) (by omega)
    rw [zSeq, zSeq, ih, e1, e2, e3]
theorem zPos_c {j : Nat} (h : ∀ x : Int, 0 ≤ x → x < (j : Int) + 1 → K x = K' x ∧ W x = W' x ∧ T x = T' x) : zPos sg K W T j = zPos sg K' W' T' j := by
  have e := zSeq_c (sg := sg) (j + 1) (fun x h1 h2 => h x h1 (by omega))
  have e0 := zSeq_c (sg := sg) j (fun x h1 h2 => h x h1 (by omega))
  obtain ⟨e1, e2, e3⟩ := h j (by omega) (by omega)
  unfold zPos
  rw [e, e0, e1, e2, e3]
theorem zMany_c : ∀ j : Nat, (∀ x : Int, 0 ≤ x → x < j → K x = K' x ∧ W x = W' x ∧ T x = T' x) → zMany sg K W T j = zMany sg K' W' T' j
  | 0, _ => rfl
  | j + 1, h => by
    have ih := zMany_c j (fun x h1 h2 => h x h1 (by omega))
    have e := zSeq_c (sg := sg) (j + 1) h
    rw [zMany, zMany, ih, e]
theorem zGrid_c : ∀ j : Nat, (∀ x : Int, 0 ≤ x → x < j → K x = K' x ∧ W x = W' x ∧ T x = T' x) → zGrid sg K W T j = zGrid sg K' W' T' j
  | 0, _ => rfl
  | j + 1, h => by
    have ih := zGrid_c j (fun x h1 h2 => h x h1 (by omega))
    have e := zSeq_c (sg := sg) (j + 1) h
    have e2 := zPos_c (sg := sg) (j := j) (fun x h1 h2 => h x h1 (by omega))
    obtain ⟨e3, e4, e5⟩ := h j (by omega) (by omega)
    rw [zGrid, zGrid, ih, e, e2, e3, e4]
theorem zFin_c (h : ∀ x : Int, 0 ≤ x → x < n → K x = K' x ∧ W x = W' x ∧ T x = T' x) : zFin sg K W T n = zFin sg K' W' T' n := by
  unfold zFin
  rw [zSeq_c n.toNat (fun x h1 h2 => h x h1 (by omega))]
theorem zManyF_c (h : ∀ x : Int, 0 ≤ x → x < n → K x = K' x ∧ W x = W' x ∧ T x = T' x) : zMany sg K W T n.toNat = zMany sg K' W' T' n.toNat :=
  zMany_c n.toNat (fun x h1 h2 => h x h1 (by omega))
theorem zOk_c (h : ∀ x : Int, 0 ≤ x → x < n → K x = K' x ∧ W x = W' x ∧ T x = T' x) (hk : zOk n sg K W T) : zOk n sg K' W' T' := by
  refine ⟨hk.1, hk.2.1, fun x h1 h2 => ?_⟩
  obtain ⟨e1, e2, e3⟩ := h x h1 h2
  rw [← e1, ← e2, ← e3]
  exact hk.2.2 x h1 h2
end ZCG
/-- an exchange of p and p + 1 -/
def zEx (f : Int → Int) (p : Int) : Int → Int := zU (zU f p (f (p + 1))) (p + 1) (f p)
theorem zEx_at (f : Int → Int) (p x : Int) : zEx f p x = if x = p + 1 then f p else if x = p then f (p + 1) else f x := by
  unfold zEx zU
  rfl
theorem zEx_c {f g : Int → Int} {n p : Int} (hp : 0 ≤ p ∧ p + 1 < n) (h : ∀ x, 0 ≤ x → x < n → f x = g x) (x : Int) (h1 : 0 ≤ x) (h2 : x < n) : zEx f p x = zEx g p x := by
  rw [zEx_at, zEx_at, h x h1 h2, h p hp.1 (by omega), h (p + 1) (by omega) hp.2]
theorem zCp_at (f g : Int → Int) {n x : Int} (h1 : 0 ≤ x) (h2 : x < n) : zCp f g n x = f x := by
  unfold zCp
  rw [if_pos ⟨h1, h2⟩]
theorem zOk_ex {n sg p : Int} {K W T : Int → Int} (hk : zOk n sg K W T) (hp : 0 ≤ p ∧ p + 1 < n) : zOk n sg (zEx K p) (zEx W p) (zEx T p) := by
  refine ⟨hk.1, hk.2.1, fun x h1 h2 => ?_⟩
  rw [zEx_at, zEx_at, zEx_at]
  split
  · exact hk.2.2 p hp.1 (by omega)
  · split
    · exact hk.2.2 (p + 1) (by omega) hp.2
    · exact hk.2.2 x h1 h2
theorem zOk_w {n sg p w : Int} {K W T : Int → Int} (hk : zOk n sg K W T) (hw : 1 ≤ w ∧ w ≤ 6) : zOk n sg K (zU W p w) T := by
  refine ⟨hk.1, hk.2.1, fun x h1 h2 => ?_⟩
  obtain ⟨a, b, c⟩ := hk.2.2 x h1 h2
  refine ⟨a, ?_, c⟩
  unfold zU
  split
  · exact hw
  · exact b
theorem zOk_s {n sg sg' : Int} {K W T : Int → Int} (hk : zOk n sg K W T) (hs : 9 ≤ sg' ∧ sg' ≤ 60) : zOk n sg' K W T := ⟨hk.1, hs, hk.2.2⟩
/-- what is asked of what would be -/
def zUsed (L : ZL) : Int := L.2.2.2.2.2.2.2.2.1
def zEmp (L : ZL) : Int := L.2.2.2.2.2.2.2.2.2.1 * 24 - L.2.2.2.2.2.2.2.2.2.2
def zOut (n sg : Int) (K W T : Int → Int) : Int := n - zMany sg K W T n.toNat
/-- the least setting that serves, tried from s on -/
def zLeast (n sg : Int) (K W T : Int → Int) : Nat → Int
  | 0 => sg
  | m + 1 => if zUsed (zFin (sg - (m + 1)) K W T n) ≤ zUsed (zFin sg K W T n) ∧ zOut n (sg - (m + 1)) K W T ≤ zOut n sg K W T then sg - (m + 1) else zLeast n sg K W T m
/-- pages used, pages that bear, units: in bounds -/
def zLm (j : Int) (L : ZL) : Prop := (0 ≤ zUsed L ∧ zUsed L ≤ 16) ∧ (0 ≤ L.2.2.2.2.2.2.2.2.2.1 ∧ L.2.2.2.2.2.2.2.2.2.1 ≤ 2 * j) ∧ (0 ≤ L.2.2.2.2.2.2.2.2.2.2 ∧ L.2.2.2.2.2.2.2.2.2.2 ≤ 48 * j)
theorem zNext_m {sg k w t j i : Int} {L : ZL} (hk : 0 ≤ k ∧ k ≤ 3) (hw : 1 ≤ w ∧ w ≤ 6) (hL : zLb j L) (hm : zLm j L) (h : (zPlL sg k w t L).1 ≠ -1) : zLm (j + 1) (zNext sg k w t i L) := by
  obtain ⟨h1, h2, h3, -, -⟩ := hL
  obtain ⟨m1, m2, m3⟩ := hm
  unfold zUsed at m1
  unfold zPlL at h
  unfold zNext zPlL
  have hbe : ∀ (c : Int → Int) (b p : Int), zBe c b p = b ∨ zBe c b p = b + 1 := fun c b p => by
    unfold zBe; split <;> omega
  by_cases hk2 : k < 2
  · obtain ⟨e, a1, a2, a3⟩ := zPlc_r hk2 hw h1 h2 h3 h
    rw [if_pos hk2]
    generalize zPlc sg k w t L.1 L.2.1 L.2.2.1 L.2.2.2.2.1 L.2.2.2.2.2.1 = P at a1 a2 a3
    have := hbe L.2.2.2.2.1 L.2.2.2.2.2.2.2.2.2.1 P.1
    refine ⟨⟨?_, ?_⟩, ⟨?_, ?_⟩, ⟨?_, ?_⟩⟩
    · show 0 ≤ P.1 + 1; omega
    · show P.1 + 1 ≤ 16; omega
    · show 0 ≤ zBe L.2.2.2.2.1 L.2.2.2.2.2.2.2.2.2.1 P.1; omega
    · show zBe L.2.2.2.2.1 L.2.2.2.2.2.2.2.2.2.1 P.1 ≤ _; omega
    · show 0 ≤ L.2.2.2.2.2.2.2.2.2.2 + w; omega
    · show L.2.2.2.2.2.2.2.2.2.2 + w ≤ _; omega
  · obtain ⟨e, a1, a2⟩ := zPlc_w hk2 h1 h
    rw [if_neg hk2, e]
    dsimp only
    generalize zFst L.2.2.2.2.1 L.1 (k - 1) = F at a1 a2
    have q1 := hbe L.2.2.2.2.1 L.2.2.2.2.2.2.2.2.2.1 F
    unfold zWhole
    split
    · have q2 := hbe (zU L.2.2.2.2.1 F (L.2.2.2.2.1 F + 1)) (zBe L.2.2.2.2.1 L.2.2.2.2.2.2.2.2.2.1 F) (F + 1)
      refine ⟨⟨?_, ?_⟩, ⟨?_, ?_⟩, ⟨?_, ?_⟩⟩
      · show 0 ≤ F + 1 + 1; omega
      · show F + 1 + 1 ≤ 16; omega
      · show 0 ≤ zBe (zU L.2.2.2.2.1 F (L.2.2.2.2.1 F + 1)) (zBe L.2.2.2.2.1 L.2.2.2.2.2.2.2.2.2.1 F) (F + 1); omega
      · show zBe (zU L.2.2.2.2.1 F (L.2.2.2.2.1 F + 1)) (zBe L.2.2.2.2.1 L.2.2.2.2.2.2.2.2.2.1 F) (F + 1) ≤ _; omega
      · show 0 ≤ L.2.2.2.2.2.2.2.2.2.2 + 24 + 24; omega
      · show L.2.2.2.2.2.2.2.2.2.2 + 24 + 24 ≤ _; omega
    · refine ⟨⟨?_, ?_⟩, ⟨?_, ?_⟩, ⟨?_, ?_⟩⟩
      · show 0 ≤ F + 1; omega
      · show F + 1 ≤ 16; omega
      · show 0 ≤ zBe L.2.2.2.2.1 L.2.2.2.2.2.2.2.2.2.1 F; omega
      · show zBe L.2.2.2.2.1 L.2.2.2.2.2.2.2.2.2.1 F ≤ _; omega
      · show 0 ≤ L.2.2.2.2.2.2.2.2.2.2 + 24; omega
      · show L.2.2.2.2.2.2.2.2.2.2 + 24 ≤ _; omega
section ZSM
variable {n sg : Int} {K W T : Int → Int}
theorem zSeq_m (hok : zOk n sg K W T) : ∀ j : Nat, (j : Int) ≤ n → zLm j (zSeq sg K W T j).2
  | 0, _ => ⟨by simp [zSeq, zL0, zUsed], by simp [zSeq, zL0], by simp [zSeq, zL0]⟩
  | j + 1, h => by
    have ih := zSeq_m hok j (by omega)
    by_cases hc : (zSeq sg K W T j).1 = true ∧ (zPlL sg (K j) (W j) (T j) (zSeq sg K W T j).2).1 ≠ -1
    · rw [zSeq_n hc.1 hc.2]
      obtain ⟨b1, b2, b3⟩ := hok.2.2 j (by omega) (by omega)
      exact zNext_m b1 b2 (zSeq_b hok j (by omega)) ih hc.2
    · rw [zSeq_no hc]
      obtain ⟨h1, h2, h3⟩ := ih
      show zLm ((j + 1 : Nat) : Int) (zSeq sg K W T j).2
      exact ⟨h1, ⟨h2.1, Int.le_trans h2.2 (by omega)⟩, ⟨h3.1, Int.le_trans h3.2 (by omega)⟩⟩
theorem zMany_b : ∀ j : Nat, 0 ≤ zMany sg K W T j ∧ zMany sg K W T j ≤ j
  | 0 => by simp [zMany]
  | j + 1 => by
    have ih := zMany_b j
    rw [zMany]
    split <;> omega
theorem zFin_m (hok : zOk n sg K W T) : zLm 24 (zFin sg K W T n) := by
  have h := zSeq_m hok n.toNat (by have := hok.1; omega)
  have := hok.1
  exact ⟨h.1, ⟨h.2.1.1, Int.le_trans h.2.1.2 (by omega)⟩, ⟨h.2.2.1, Int.le_trans h.2.2.2 (by omega)⟩⟩
theorem zOut_b (hok : zOk n sg K W T) : 0 ≤ zOut n sg K W T ∧ zOut n sg K W T ≤ 24 := by
  have h := zMany_b (sg := sg) (K := K) (W := W) (T := T) n.toNat
  have := hok.1
  unfold zOut
  omega
end ZSM
/-- what a story costs, in the class's words and in the reference's -/
def zCost (n sg : Int) (K W T : Int → Int) : Int := (zOut n sg K W T * 17 + zUsed (zFin sg K W T n)) * 385 + zEmp (zFin sg K W T n)
def zCosM (n sg : Int) (K W T : Int → Int) : Int := 100000 * zOut n sg K W T + 1000 * zUsed (zFin sg K W T n) + zEmp (zFin sg K W T n)
/-- the first of 1 .. m with the least cost -/
def zBw (cf : Int → Int) : Nat → Int × Int
  | 0 => (-1, 0)
  | m + 1 => if (zBw cf m).1 = -1 ∨ cf (m + 1) < (zBw cf m).2 then ((m : Int) + 1, cf (m + 1)) else zBw cf m
/-- the panel at a unit: searched from j on, m panels -/
def zAt (R U W : Int → Int) (row unit : Int) : Nat → Int → Int
  | 0, _ => -1
  | m + 1, j => if R j = -1 ∨ (R j = row ∧ U j ≤ unit ∧ unit < U j + W j) then j else zAt R U W row unit m (j + 1)
/-- how full: the bits of the share -/
def zShr (fi be : Int) : UInt64 := if be * 24 ≤ 0 then FP.dconst1 else FP.ddiv (FP.i2d (zI fi)) (FP.i2d (zI (be * 24)))
