/-- how many panels are set among the first n -/
def zMany (sg : Int) (K W T : Int → Int) : Nat → Int
  | 0 => 0
  | j + 1 => if (zSeq sg K W T (j + 1)).1 = true then (j : Int) + 1 else zMany sg K W T j
def zFin (sg : Int) (K W T : Int → Int) (n : Int) : ZL := (zSeq sg K W T n.toNat).2
/-- a story's numbers -/
def zOk (n sg : Int) (K W T : Int → Int) : Prop := (0 ≤ n ∧ n ≤ 24) ∧ (9 ≤ sg ∧ sg ≤ 60) ∧ ∀ x, 0 ≤ x → x < n → (0 ≤ K x ∧ K x ≤ 3) ∧ (1 ≤ W x ∧ W x ≤ 6) ∧ (1 ≤ T x ∧ T x ≤ 9)
theorem zX2_b {w : Int} {x : Int × Int × Int} (hw : 1 ≤ w ∧ w ≤ 6) (h1 : 0 ≤ x.1 ∧ x.1 ≤ 16) (h2 : 0 ≤ x.2.1 ∧ x.2.1 ≤ 3) (h3 : 0 ≤ x.2.2 ∧ x.2.2 ≤ 6) : (0 ≤ (zX2 w x).1 ∧ (zX2 w x).1 ≤ 17) ∧ (0 ≤ (zX2 w x).2.1 ∧ (zX2 w x).2.1 ≤ 3) ∧ (0 ≤ (zX2 w x).2.2 ∧ (zX2 w x).2.2 + w ≤ 6) := by
  unfold zX2
  by_cases h : 6 - x.2.2 < w
  · rw [if_pos h]
    dsimp only
    unfold zRp zRr
    by_cases h4 : x.2.1 = 3
    · rw [if_pos h4, if_pos h4]; omega
    · rw [if_neg h4, if_neg h4]; omega
  · rw [if_neg h]; omega
theorem zX3_b {d w : Int} {x : Int × Int × Int} (hw : 1 ≤ w ∧ w ≤ 6) (h1 : 0 ≤ x.1 ∧ x.1 ≤ 17) (h2 : 0 ≤ x.2.1 ∧ x.2.1 ≤ 3) (h3 : 0 ≤ x.2.2 ∧ x.2.2 + w ≤ 6) : (0 ≤ (zX3 d x).1 ∧ (zX3 d x).1 ≤ 18) ∧ (0 ≤ (zX3 d x).2.1 ∧ (zX3 d x).2.1 ≤ 3) ∧ (0 ≤ (zX3 d x).2.2 ∧ (zX3 d x).2.2 + w ≤ 6) := by
  unfold zX3
  by_cases h : d = 1 ∧ x.1 % 2 = 0 ∧ x.2.2 ≠ 0
  · rw [if_pos h]
    dsimp only
    unfold zRp zRr
    by_cases h4 : x.2.1 = 3
    · rw [if_pos h4, if_pos h4]; omega
    · rw [if_neg h4, if_neg h4]; omega
  · rw [if_neg h]; omega
theorem zXr_b {sg k w t pg rw un : Int} {c b : Int → Int} (hw : 1 ≤ w ∧ w ≤ 6) (h1 : 0 ≤ pg ∧ pg ≤ 16) (h2 : 0 ≤ rw ∧ rw ≤ 3) (h3 : 0 ≤ un ∧ un ≤ 6) : (0 ≤ (zXr sg k w t pg rw un c b).1 ∧ (zXr sg k w t pg rw un c b).1 ≤ 18) ∧ (0 ≤ (zXr sg k w t pg rw un c b).2.1 ∧ (zXr sg k w t pg rw un c b).2.1 ≤ 3) ∧ (0 ≤ (zXr sg k w t pg rw un c b).2.2 ∧ (zXr sg k w t pg rw un c b).2.2 + w ≤ 6) := by
  unfold zXr
  by_cases h : zGc c b pg t sg
  · rw [if_pos h]
    obtain ⟨a1, a2, a3⟩ := zX2_b (x := (pg + 1, 0, 0)) hw (by dsimp only; unfold zGc at h; omega) (by dsimp only; omega) (by dsimp only; omega)
    exact zX3_b hw a1 a2 a3
  · rw [if_neg h]
    obtain ⟨a1, a2, a3⟩ := zX2_b (x := (pg, rw, un)) hw h1 h2 h3
    exact zX3_b hw a1 a2 a3
theorem zXu_b {d w : Int} {x : Int × Int × Int} (hw : 1 ≤ w ∧ w ≤ 6) (h3 : 0 ≤ x.2.2 ∧ x.2.2 + w ≤ 6) : 0 ≤ zXu d w x ∧ zXu d w x + w ≤ 6 := by
  unfold zXu
  split <;> omega
theorem zFst_b {c : Int → Int} {pg tk : Int} (h1 : 0 ≤ pg ∧ pg ≤ 16) : 0 ≤ zFst c pg tk ∧ zFst c pg tk ≤ 18 := by
  unfold zFst zF0
  split <;> split <;> omega
/-- what a place says -/
theorem zPlc_r {sg k w t pg rw un : Int} {c b : Int → Int} (hk : k < 2) (hw : 1 ≤ w ∧ w ≤ 6) (h1 : 0 ≤ pg ∧ pg ≤ 16) (h2 : 0 ≤ rw ∧ rw ≤ 3) (h3 : 0 ≤ un ∧ un ≤ 6) (h : (zPlc sg k w t pg rw un c b).1 ≠ -1) :
    zPlc sg k w t pg rw un c b = ((zXr sg k w t pg rw un c b).1, (zXr sg k w t pg rw un c b).2.1, zXu k w (zXr sg k w t pg rw un c b)) ∧ (0 ≤ (zPlc sg k w t pg rw un c b).1 ∧ (zPlc sg k w t pg rw un c b).1 < 16) ∧ (0 ≤ (zPlc sg k w t pg rw un c b).2.1 ∧ (zPlc sg k w t pg rw un c b).2.1 ≤ 3) ∧ (0 ≤ (zPlc sg k w t pg rw un c b).2.2 ∧ (zPlc sg k w t pg rw un c b).2.2 + w ≤ 6) := by
  obtain ⟨a1, a2, a3⟩ := zXr_b (sg := sg) (k := k) (t := t) (c := c) (b := b) hw h1 h2 h3
  have a4 := zXu_b (d := k) (x := zXr sg k w t pg rw un c b) hw a3
  by_cases hx : (zXr sg k w t pg rw un c b).1 < 16
  · have e : zPlc sg k w t pg rw un c b = ((zXr sg k w t pg rw un c b).1, (zXr sg k w t pg rw un c b).2.1, zXu k w (zXr sg k w t pg rw un c b)) := by unfold zPlc; rw [if_pos hk, if_pos hx]
    rw [e]
    exact ⟨rfl, ⟨a1.1, hx⟩, a2, a4⟩
  · exfalso
    apply h
    unfold zPlc
    rw [if_pos hk, if_neg hx]
theorem zPlc_w {sg k w t pg rw un : Int} {c b : Int → Int} (hk : ¬ k < 2) (h1 : 0 ≤ pg ∧ pg ≤ 16) (h : (zPlc sg k w t pg rw un c b).1 ≠ -1) :
    zPlc sg k w t pg rw un c b = (zFst c pg (k - 1), -1, -1) ∧ 0 ≤ zFst c pg (k - 1) ∧ zFst c pg (k - 1) + (k - 1) ≤ 16 := by
  have a1 := zFst_b (c := c) (tk := k - 1) h1
  by_cases hx : zFst c pg (k - 1) + (k - 1) ≤ 16
  · refine ⟨?_, a1.1, hx⟩
    unfold zPlc
    rw [if_neg hk, if_pos hx]
  · exfalso
    apply h
    unfold zPlc
    rw [if_neg hk, if_neg hx]
/-- the numbers of the pages, behind j panels -/
def zLb (j : Int) (L : ZL) : Prop := (0 ≤ L.1 ∧ L.1 ≤ 16) ∧ (0 ≤ L.2.1 ∧ L.2.1 ≤ 3) ∧ (0 ≤ L.2.2.1 ∧ L.2.2.1 ≤ 6) ∧ (∀ x, 0 ≤ L.2.2.2.2.1 x ∧ L.2.2.2.2.1 x ≤ j) ∧ (∀ x, 0 ≤ L.2.2.2.2.2.1 x ∧ L.2.2.2.2.2.1 x ≤ 9 * j)
theorem zNext_b {sg k w t j : Int} {L : ZL} (hk : 0 ≤ k ∧ k ≤ 3) (hw : 1 ≤ w ∧ w ≤ 6) (ht : 1 ≤ t ∧ t ≤ 9) (hL : zLb j L) (h : (zPlL sg k w t L).1 ≠ -1) : zLb (j + 1) (zNext sg k w t j L) := by
  obtain ⟨h1, h2, h3, h4, h5⟩ := hL
  unfold zPlL at h
  unfold zNext zPlL
  by_cases hk2 : k < 2
  · obtain ⟨e, a1, a2, a3⟩ := zPlc_r hk2 hw h1 h2 h3 h
    rw [if_pos hk2]
    generalize zPlc sg k w t L.1 L.2.1 L.2.2.1 L.2.2.2.2.1 L.2.2.2.2.2.1 = P at a1 a2 a3
    refine ⟨⟨a1.1, by dsimp only; omega⟩, a2, ⟨by dsimp only; omega, a3.2⟩, fun x => ?_, fun x => ?_⟩
    · show 0 ≤ zU L.2.2.2.2.1 P.1 (L.2.2.2.2.1 P.1 + 1) x ∧ zU L.2.2.2.2.1 P.1 (L.2.2.2.2.1 P.1 + 1) x ≤ j + 1
      have := h4 x; have := h4 P.1
      unfold zU; split <;> omega
    · show 0 ≤ zU L.2.2.2.2.2.1 P.1 (L.2.2.2.2.2.1 P.1 + t) x ∧ zU L.2.2.2.2.2.1 P.1 (L.2.2.2.2.2.1 P.1 + t) x ≤ 9 * (j + 1)
      have := h5 x; have := h5 P.1
      unfold zU; split <;> omega
  · obtain ⟨e, a1, a2⟩ := zPlc_w hk2 h1 h
    rw [if_neg hk2, e]
    dsimp only
    generalize zFst L.2.2.2.2.1 L.1 (k - 1) = F at a1 a2
    refine ⟨⟨by dsimp only; omega, a2⟩, ⟨by dsimp only; omega, by dsimp only; omega⟩, ⟨by dsimp only; omega, by dsimp only; omega⟩, fun x => ?_, fun x => ?_⟩
    · dsimp only
      unfold zWhole
      have := h4 x; have := h4 F; have := h4 (F + 1)
      split
      · show 0 ≤ zU (zU L.2.2.2.2.1 F (L.2.2.2.2.1 F + 1)) (F + 1) (zU L.2.2.2.2.1 F (L.2.2.2.2.1 F + 1) (F + 1) + 1) x ∧ zU (zU L.2.2.2.2.1 F (L.2.2.2.2.1 F + 1)) (F + 1) (zU L.2.2.2.2.1 F (L.2.2.2.2.1 F + 1) (F + 1) + 1) x ≤ j + 1
        rw [zU_ne _ _ (show F + 1 ≠ F by omega)]
        unfold zU
        split
        · omega
        · split <;> omega
      · show 0 ≤ zU L.2.2.2.2.1 F (L.2.2.2.2.1 F + 1) x ∧ zU L.2.2.2.2.1 F (L.2.2.2.2.1 F + 1) x ≤ j + 1
        unfold zU; split <;> omega
    · dsimp only
      unfold zWhole
      have := h5 x; have := h5 F; have := h5 (F + 1)
      split
      · show 0 ≤ zU (zU L.2.2.2.2.2.1 F (L.2.2.2.2.2.1 F + t)) (F + 1) (zU L.2.2.2.2.2.1 F (L.2.2.2.2.2.1 F + t) (F + 1) + 0) x ∧ zU (zU L.2.2.2.2.2.1 F (L.2.2.2.2.2.1 F + t)) (F + 1) (zU L.2.2.2.2.2.1 F (L.2.2.2.2.2.1 F + t) (F + 1) + 0) x ≤ 9 * (j + 1)
        rw [zU_ne _ _ (show F + 1 ≠ F by omega)]
        unfold zU
        split
        · omega
        · split <;> omega
      · show 0 ≤ zU L.2.2.2.2.2.1 F (L.2.2.2.2.2.1 F + t) x ∧ zU L.2.2.2.2.2.1 F (L.2.2.2.2.2.1 F + t) x ≤ 9 * (j + 1)
        unfold zU; split <;> omega
section ZSQ
variable {n sg : Int} {K W T : Int → Int}
theorem zSeq_s {j : Nat} (h : (zSeq sg K W T (j + 1)).1 = true) : (zSeq sg K W T j).1 = true ∧ (zPlL sg (K j) (W j) (T j) (zSeq sg K W T j).2).1 ≠ -1 ∧ (zSeq sg K W T (j + 1)).2 = zNext sg (K j) (W j) (T j) j (zSeq sg K W T j).2 := by
  unfold zSeq at h
  by_cases hc : (zSeq sg K W T j).1 = true ∧ (zPlL sg (K j) (W j) (T j) (zSeq sg K W T j).2).1 ≠ -1
  · refine ⟨hc.1, hc.2, ?_⟩
    rw [zSeq, if_pos hc]
  · rw [if_neg hc] at h
    exact absurd h (by simp)
theorem zSeq_n {j : Nat} (h1 : (zSeq sg K W T j).1 = true) (h2 : (zPlL sg (K j) (W j) (T j) (zSeq sg K W T j).2).1 ≠ -1) : zSeq sg K W T (j + 1) = (true, zNext sg (K j) (W j) (T j) j (zSeq sg K W T j).2) := by
  rw [zSeq, if_pos ⟨h1, h2⟩]
theorem zSeq_no {j : Nat} (h : ¬ ((zSeq sg K W T j).1 = true ∧ (zPlL sg (K j) (W j) (T j) (zSeq sg K W T j).2).1 ≠ -1)) : zSeq sg K W T (j + 1) = (false, (zSeq sg K W T j).2) := by
  rw [zSeq, if_neg h]
theorem zSeq_b (hok : zOk n sg K W T) : ∀ j : Nat, (j : Int) ≤ n → zLb j (zSeq sg K W T j).2
  | 0, _ => ⟨by simp [zSeq, zL0], by simp [zSeq, zL0], by simp [zSeq, zL0], fun x => by simp [zSeq, zL0], fun x => by simp [zSeq, zL0]⟩
  | j + 1, h => by
    have ih := zSeq_b hok j (by omega)
    by_cases hc : (zSeq sg K W T j).1 = true ∧ (zPlL sg (K j) (W j) (T j) (zSeq sg K W T j).2).1 ≠ -1
    · rw [zSeq_n hc.1 hc.2]
      obtain ⟨b1, b2, b3⟩ := hok.2.2 j (by omega) (by omega)
      have := zNext_b b1 b2 b3 ih hc.2
      exact this
    · rw [zSeq_no hc]
      obtain ⟨h1, h2, h3, h4, h5⟩ := ih
      show zLb ((j + 1 : Nat) : Int) (zSeq sg K W T j).2
      exact ⟨h1, h2, h3, fun x => ⟨(h4 x).1, Int.le_trans (h4 x).2 (by omega)⟩, fun x => ⟨(h5 x).1, Int.le_trans (h5 x).2 (by omega)⟩⟩
theorem zMany_t {m : Nat} (h1 : (zSeq sg K W T m).1 = true) : zMany sg K W T m = m := by
  cases m with
  | zero => rfl
  | succ m => rw [zMany, if_pos h1]; rfl
theorem zStop {m : Nat} (h1 : (zSeq sg K W T m).1 = true) : ∀ k : Nat, (k = 0 ∨ (zPlL sg (K m) (W m) (T m) (zSeq sg K W T m).2).1 = -1) → (zSeq sg K W T (m + k)).2 = (zSeq sg K W T m).2 ∧ zMany sg K W T (m + k) = m ∧ (0 < k → (zSeq sg K W T (m + k)).1 = false)
  | 0, _ => ⟨rfl, zMany_t h1, fun h => absurd h (by omega)⟩
  | k + 1, h2 => by
    have h3 : (zPlL sg (K m) (W m) (T m) (zSeq sg K W T m).2).1 = -1 := h2.resolve_left (by omega)
    obtain ⟨i1, i2, i3⟩ := zStop h1 k (Or.inr h3)
    have hf : zSeq sg K W T (m + k + 1) = (false, (zSeq sg K W T (m + k)).2) := by
      apply zSeq_no
      rintro ⟨c1, c2⟩
      cases k with
      | zero => exact c2 h3
      | succ k => rw [i3 (by omega)] at c1; exact absurd c1 (by simp)
    refine ⟨by rw [← Nat.add_assoc, hf]; exact i1, ?_, fun _ => by rw [← Nat.add_assoc, hf]⟩
    rw [← Nat.add_assoc, zMany, if_neg (by rw [hf]; simp)]
    exact i2
theorem zPos_no {m : Nat} (h1 : (zSeq sg K W T m).1 = true) (h2 : (zPlL sg (K m) (W m) (T m) (zSeq sg K W T m).2).1 = -1) (i : Nat) (hi : m ≤ i) : zPos sg K W T i = (-1, -1, -1) := by
  obtain ⟨k, rfl⟩ : ∃ k, i = m + k := ⟨i - m, by omega⟩
  obtain ⟨-, -, h⟩ := zStop h1 (k + 1) (Or.inr h2)
  unfold zPos
  rw [if_neg (by rw [Nat.add_assoc, h (by omega)]; simp)]
theorem zPos_yes {j : Nat} (h1 : (zSeq sg K W T j).1 = true) (h2 : (zPlL sg (K j) (W j) (T j) (zSeq sg K W T j).2).1 ≠ -1) : zPos sg K W T j = zPlL sg (K j) (W j) (T j) (zSeq sg K W T j).2 := by
  unfold zPos
  rw [zSeq_n h1 h2, if_pos rfl]
end ZSQ
theorem zPut3 {P R U : Int → Int} {po : Nat → Int × Int × Int} {j : Nat} {x y z : Int} (h : ∀ i : Nat, i < j → P i = (po i).1 ∧ R i = (po i).2.1 ∧ U i = (po i).2.2) (hj : po j = (x, y, z)) :
    ∀ i : Nat, i < j + 1 → zU P (j : Int) x i = (po i).1 ∧ zU R (j : Int) y i = (po i).2.1 ∧ zU U (j : Int) z i = (po i).2.2 := by
  intro i hi
  by_cases q : i = j
  · subst q
    rw [zU_eq, zU_eq, zU_eq, hj]
    exact ⟨rfl, rfl, rfl⟩
  · have q2 : (i : Int) ≠ (j : Int) := by omega
    rw [zU_ne _ _ q2, zU_ne _ _ q2, zU_ne _ _ q2]
    exact h i (by omega)
