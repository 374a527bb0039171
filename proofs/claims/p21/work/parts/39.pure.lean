def zSm (f : Int → Int) : Nat → Int | 0 => 0 | k + 1 => zSm f k + f k
def zCv (R U W : Int → Int) (k r u : Int) : Prop := R k = -1 ∨ (R k = r ∧ U k ≤ u ∧ u < U k + W k)
theorem zEm_same {G G' : Int → Int} {a : Int} : ∀ k : Nat, (∀ x, a ≤ x → x < a + k → G' x = G x) → zEm G' a k = zEm G a k
  | 0, _ => rfl
  | k + 1, h => by
    rw [zEm, zEm, zEm_same k (fun x h1 h2 => h x h1 (by omega)), h (a + k) (by omega) (by omega)]
theorem zEm_mk {G : Int → Int} {a b w v : Int} (hv : 0 ≤ v) (hab : b ≤ a) (hw : 0 ≤ w) (hf : ∀ x, a ≤ x → x < a + w → G x = -1) : ∀ k : Nat, zEm (zMk G a w v) b k = zEm G b k - (if b + k ≤ a then 0 else if b + k ≤ a + w then b + k - a else w)
  | 0 => by rw [zEm, zEm, if_pos (by omega)]; rfl
  | k + 1 => by
    rw [zEm, zEm, zEm_mk hv hab hw hf k]
    have e : zMk G a w v (b + k) = if a ≤ b + k ∧ b + k < a + w then v else G (b + k) := rfl
    rw [e]
    by_cases h : a ≤ b + k ∧ b + k < a + w
    · rw [if_pos h, hf _ h.1 h.2, if_neg (show ¬ v = -1 by omega), if_pos rfl]
      by_cases h1 : b + (k : Int) ≤ a
      · rw [if_pos h1, if_neg (by omega), if_pos (by omega)]; omega
      · rw [if_neg h1, if_pos (by omega), if_neg (by omega), if_pos (by omega)]; omega
    · rw [if_neg h]
      by_cases h1 : b + (k : Int) < a
      · rw [if_pos (show b + (k : Int) ≤ a by omega), if_pos (show b + ((k + 1 : Nat) : Int) ≤ a by omega)]; omega
      · rw [if_neg (show ¬ b + ((k + 1 : Nat) : Int) ≤ a by omega), if_neg (show ¬ b + ((k + 1 : Nat) : Int) ≤ a + w by omega)]
        by_cases h2 : b + (k : Int) ≤ a
        · rw [if_pos h2]; omega
        · rw [if_neg h2]
          by_cases h3 : b + (k : Int) ≤ a + w
          · rw [if_pos h3]; omega
          · rw [if_neg h3]; omega
theorem zEm_pos {G : Int → Int} {a x : Int} : ∀ k : Nat, a ≤ x → x < a + k → G x = -1 → 0 < zEm G a k
  | 0, h1, h2, _ => absurd h2 (by omega)
  | k + 1, h1, h2, h3 => by
    have h0 : ∀ m : Nat, 0 ≤ zEm G a m := fun m => by
      induction m with
      | zero => exact Int.le_refl 0
      | succ m ih => rw [zEm]; split <;> omega
    rw [zEm]
    by_cases h : x < a + k
    · have := zEm_pos k h1 h h3
      split <;> omega
    · have e : x = a + k := by omega
      rw [← e, if_pos h3]
      have := h0 k
      omega
theorem zUs_a {c : Int → Int} : ∀ (m k : Nat), k < m → 0 < c k → (k : Int) + 1 ≤ zUs c m
  | 0, _, h, _ => absurd h (by omega)
  | m + 1, k, h, hc => by
    rw [zUs]
    by_cases e : k = m
    · subst e; rw [if_pos hc]; exact Int.le_refl _
    · have := zUs_a m k (by omega) hc
      split <;> omega
theorem zUs_b {c : Int → Int} {k : Nat} (hc : 0 < c k) : ∀ m : Nat, k < m → (∀ i : Nat, k < i → i < m → ¬ 0 < c i) → zUs c m = (k : Int) + 1
  | 0, h, _ => absurd h (by omega)
  | m + 1, h, hn => by
    rw [zUs]
    by_cases e : k = m
    · subst e; rw [if_pos hc]
    · rw [if_neg (hn m (by omega) (by omega))]
      exact zUs_b hc m (by omega) (fun i h1 h2 => hn i h1 (by omega))
theorem zUs_r {c : Int → Int} : ∀ m : Nat, 0 ≤ zUs c m ∧ zUs c m ≤ m
  | 0 => ⟨Int.le_refl 0, Int.le_refl 0⟩
  | m + 1 => by have := zUs_r (c := c) m; rw [zUs]; split <;> omega
theorem zPs_u {c : Int → Int} {p : Nat} (hc : 0 ≤ c p) : ∀ m : Nat, zPs (zU c p (c p + 1)) m = zPs c m + (if p < m ∧ c p = 0 then 1 else 0)
  | 0 => by rw [zPs, zPs, if_neg (by omega)]; rfl
  | m + 1 => by
    rw [zPs, zPs, zPs_u hc m]
    by_cases e : m = p
    · subst e
      rw [zU_eq, if_pos (show 0 < c m + 1 by omega), if_neg (by omega)]
      by_cases h0 : c m = 0
      · rw [if_neg (show ¬ 0 < c m by omega), if_pos (show m < m + 1 ∧ c m = 0 from ⟨by omega, h0⟩)]
      · rw [if_pos (show 0 < c m by omega), if_neg (show ¬ (m < m + 1 ∧ c m = 0) from fun hh => h0 hh.2)]; omega
    · rw [zU_ne _ _ (by omega)]
      by_cases h0 : p < m ∧ c p = 0
      · rw [if_pos h0, if_pos (show p < m + 1 ∧ c p = 0 from ⟨by omega, h0.2⟩)]; omega
      · rw [if_neg h0, if_neg (show ¬ (p < m + 1 ∧ c p = 0) from fun hh => h0 ⟨by omega, hh.2⟩)]; omega
theorem zSm_u {f : Int → Int} {p : Nat} {w : Int} : ∀ m : Nat, zSm (zU f p (f p + w)) m = zSm f m + (if p < m then w else 0)
  | 0 => by rw [zSm, zSm, if_neg (by omega)]; rfl
  | m + 1 => by
    rw [zSm, zSm, zSm_u m]
    by_cases e : m = p
    · subst e
      rw [zU_eq, if_neg (by omega), if_pos (by omega)]; omega
    · rw [zU_ne _ _ (by omega)]
      by_cases h0 : p < m
      · rw [if_pos h0, if_pos (by omega)]; omega
      · rw [if_neg h0, if_neg (by omega)]; omega
/-- the pages' numbers and the grid tell the same -/
def zV (J : Int) (R U W c b f s : Int → Int) (us be fi : Int) (G : Int → Int) : Prop :=
  (∀ p : Int, 0 ≤ p → p < 16 → zEm G (24 * p) 24 = 24 - f p) ∧
  (∀ p : Int, 0 ≤ p → p < 16 → 0 ≤ c p ∧ (c p = 0 → f p = 0 ∧ b p = 0 ∧ ∀ x, 24 * p ≤ x → x < 24 * p + 24 → G x = -1) ∧ (0 < c p → 0 ≤ s p ∧ s p + c p ≤ J ∧ (∃ x, 24 * p ≤ x ∧ x < 24 * p + 24 ∧ G x = s p) ∧ ∀ x, 24 * p ≤ x → x < 24 * p + 24 → G x ≠ -1 → s p ≤ G x)) ∧
  (us = zUs c 16 ∧ be = zPs c 16 ∧ fi = zSm f 16) ∧
  (∀ x : Int, 0 ≤ x → x < 384 → -1 ≤ G x ∧ G x < J) ∧
  (∀ p r u : Int, 0 ≤ p → p < 16 → 0 ≤ r → r < 4 → 0 ≤ u → u < 6 → (G (24 * p + 6 * r + u) ≠ -1 → 0 < c p ∧ s p ≤ G (24 * p + 6 * r + u) ∧ G (24 * p + 6 * r + u) < s p + c p ∧ zCv R U W (G (24 * p + 6 * r + u)) r u) ∧ (0 < c p → ∀ k, s p ≤ k → k < s p + c p → zCv R U W k r u → G (24 * p + 6 * r + u) = k)) ∧
  (∀ p : Int, 0 ≤ p → p < 16 → G (24 * p) ≠ -1 → R (G (24 * p)) = -1 → f p = 24)
theorem zMk_in {G : Int → Int} {a w v x : Int} (h : a ≤ x ∧ x < a + w) : zMk G a w v x = v := if_pos h
theorem zMk_out {G : Int → Int} {a w v x : Int} (h : ¬ (a ≤ x ∧ x < a + w)) : zMk G a w v x = G x := if_neg h
theorem zFs_p {c s : Int → Int} {p v : Int} : zFs c s p v p = if c p = 0 then v else s p := by
  unfold zFs
  by_cases h : c p = 0
  · rw [if_pos h, if_pos h, zU_eq]
  · rw [if_neg h, if_neg h]
theorem zFs_ne {c s : Int → Int} {p v q : Int} (h : q ≠ p) : zFs c s p v q = s q := by
  unfold zFs
  split
  · exact zU_ne _ _ h
  · rfl
theorem zV_bear {J1 J2 v a w t p us be fi : Int} {R U W c b f s G : Int → Int} (h : zV J1 R U W c b f s us be fi G) (hp : 0 ≤ p ∧ p < 16) (hJ : J1 ≤ J2 ∧ 0 ≤ v ∧ v < J2) (ha : 24 * p ≤ a ∧ a + w ≤ 24 * p + 24 ∧ 1 ≤ w) (hf : ∀ x, a ≤ x → x < a + w → G x = -1) (hu : us ≤ p + 1) (hc : 0 < c p → s p + c p = v)
    (hcv : ∀ r u, 0 ≤ r → r < 4 → 0 ≤ u → u < 6 → ((a ≤ 24 * p + 6 * r + u ∧ 24 * p + 6 * r + u < a + w) ↔ zCv R U W v r u)) (hR : R v = -1 → f p + w = 24) :
    zV J2 R U W (zU c p (c p + 1)) (zU b p (b p + t)) (zU f p (f p + w)) (zFs c s p v) (p + 1) (zBe c be p) (fi + w) (zMk G a w v) := by
  obtain ⟨h1, h2, ⟨h3, h4, h5⟩, h6, h7, h8⟩ := h
  have gout : ∀ x, (x < 24 * p ∨ 24 * p + 24 ≤ x) → zMk G a w v x = G x := fun x hx => zMk_out (by omega)
  obtain ⟨hc0, hc1, hc2⟩ := h2 p hp.1 hp.2
  refine ⟨fun q q1 q2 => ?_, fun q q1 q2 => ?_, ⟨?_, ?_, ?_⟩, fun x x1 x2 => ?_, fun q r u q1 q2 r1 r2 u1 u2 => ?_, fun q q1 q2 e1 e2 => ?_⟩
  · by_cases e : q = p
    · subst e
      rw [zEm_mk hJ.2.1 ha.1 (by omega) hf, zU_eq, h1 q q1 q2]
      rw [if_neg (by omega)]
      by_cases e2 : 24 * q + ((24 : Nat) : Int) ≤ a + w
      · rw [if_pos e2]; omega
      · rw [if_neg e2]; omega
    · rw [zU_ne _ _ e, ← h1 q q1 q2]
      exact zEm_same 24 (fun x x1 x2 => gout x (by omega))
  · by_cases e : q = p
    · subst e
      rw [zU_eq, zU_eq, zU_eq, zFs_p]
      refine ⟨by omega, fun e => absurd e (by omega), fun _ => ?_⟩
      by_cases e0 : c q = 0
      · rw [if_pos e0]
        obtain ⟨g1, g2, g3⟩ := hc1 e0
        refine ⟨by omega, by omega, ⟨a, by omega, by omega, zMk_in (by omega)⟩, fun x x1 x2 hx => ?_⟩
        by_cases hin : a ≤ x ∧ x < a + w
        · rw [zMk_in hin]; omega
        · rw [zMk_out hin] at hx
          exact absurd (g3 x x1 x2) hx
      · rw [if_neg e0]
        have cp : 0 < c q := by omega
        obtain ⟨g1, g2, ⟨x0, y1, y2, y3⟩, g4⟩ := hc2 cp
        have hcc := hc cp
        refine ⟨g1, by omega, ⟨x0, y1, y2, ?_⟩, fun x x1 x2 hx => ?_⟩
        · rw [zMk_out (fun hh => ?_), y3]
          have := hf x0 hh.1 hh.2
          omega
        · by_cases hin : a ≤ x ∧ x < a + w
          · rw [zMk_in hin]; omega
          · rw [zMk_out hin] at hx ⊢
            exact g4 x x1 x2 hx
    · rw [zU_ne _ _ e, zU_ne _ _ e, zU_ne _ _ e, zFs_ne e]
      have hoq : ∀ x, 24 * q ≤ x → x < 24 * q + 24 → zMk G a w v x = G x := fun x x1 x2 => gout x (by clear h2 hc1 hc2; omega)
      obtain ⟨k1, k2, k3⟩ := h2 q q1 q2
      clear h2 hc1 hc2
      refine ⟨k1, fun e0 => ?_, fun cp => ?_⟩
      · obtain ⟨g1, g2, g3⟩ := k2 e0
        exact ⟨g1, g2, fun x x1 x2 => by rw [hoq x x1 x2]; exact g3 x x1 x2⟩
      · obtain ⟨g1, g2, ⟨x0, y1, y2, y3⟩, g4⟩ := k3 cp
        exact ⟨g1, by omega, ⟨x0, y1, y2, by rw [hoq x0 y1 y2]; exact y3⟩, fun x x1 x2 hx => by rw [hoq x x1 x2] at hx ⊢; exact g4 x x1 x2 hx⟩
  · obtain ⟨p', rfl⟩ := Int.eq_ofNat_of_zero_le hp.1
    refine (zUs_b (k := p') (by rw [zU_eq]; omega) 16 (by omega) (fun i i1 i2 hh => ?_)).symm
    rw [zU_ne _ _ (by omega)] at hh
    have := zUs_a 16 i i2 hh
    omega
  · obtain ⟨p', rfl⟩ := Int.eq_ofNat_of_zero_le hp.1
    rw [zPs_u hc0, ← h4]
    unfold zBe
    by_cases e0 : c p' = 0
    · rw [if_pos e0, if_pos ⟨by omega, e0⟩]
    · rw [if_neg e0, if_neg (by omega)]; omega
  · obtain ⟨p', rfl⟩ := Int.eq_ofNat_of_zero_le hp.1
    rw [zSm_u, ← h5, if_pos (by omega)]
  · by_cases hin : a ≤ x ∧ x < a + w
    · rw [zMk_in hin]; omega
    · rw [zMk_out hin]
      have := h6 x x1 x2
      omega
  · by_cases e : q = p
    · subst e
      rw [zU_eq, zFs_p]
      obtain ⟨k1, k2⟩ := h7 q r u q1 q2 r1 r2 u1 u2
      have hcr := hcv r u r1 r2 u1 u2
      by_cases hin : a ≤ 24 * q + 6 * r + u ∧ 24 * q + 6 * r + u < a + w
      · rw [zMk_in hin]
        have hfr := hf _ hin.1 hin.2
        refine ⟨fun _ => ⟨by omega, ?_, ?_, hcr.mp hin⟩, fun _ k b1 b2 b3 => ?_⟩
        · split
          · omega
          · have := hc (by omega); omega
        · split
          · omega
          · have := hc (by omega); omega
        · by_cases e0 : c q = 0
          · rw [if_pos e0] at b1 b2; omega
          · rw [if_neg e0] at b1 b2
            have hcc := hc (by omega)
            by_cases ek : k = v
            · exact ek.symm
            · have e9 := k2 (by omega) k b1 (by omega) b3
              obtain ⟨g1, -, -, -⟩ := hc2 (by omega)
              omega
      · rw [zMk_out hin]
        refine ⟨fun hne => ?_, fun _ k b1 b2 b3 => ?_⟩
        · obtain ⟨b0, b1, b2, b3⟩ := k1 hne
          rw [if_neg (by omega)]
          exact ⟨by omega, b1, by omega, b3⟩
        · by_cases ek : k = v
          · subst ek
            exact absurd (hcr.mpr b3) hin
          · by_cases e0 : c q = 0
            · rw [if_pos e0] at b1 b2; omega
            · rw [if_neg e0] at b1 b2
              have hcc := hc (by omega)
              exact k2 (by omega) k b1 (by omega) b3
    · rw [zU_ne _ _ e, zFs_ne e, gout _ (by omega)]
      exact h7 q r u q1 q2 r1 r2 u1 u2
  · by_cases e : q = p
    · subst e
      rw [zU_eq]
      by_cases hin : a ≤ 24 * q ∧ 24 * q < a + w
      · rw [zMk_in hin] at e1 e2
        exact hR e2
      · rw [zMk_out hin] at e1 e2
        have f24 := h8 q q1 q2 e1 e2
        have z := zEm_pos (G := G) (a := 24 * q) (x := a) 24 (by omega) (by omega) (hf a (by omega) (by omega))
        rw [h1 q q1 q2] at z
        omega
    · rw [zU_ne _ _ e]
      rw [gout _ (by omega)] at e1 e2
      exact h8 q q1 q2 e1 e2
theorem zX2_m {w : Int} {x : Int × Int × Int} (h2 : 0 ≤ x.2.1 ∧ x.2.1 ≤ 3) (h3 : 0 ≤ x.2.2 ∧ x.2.2 ≤ 6) : 24 * x.1 + 6 * x.2.1 + x.2.2 ≤ 24 * (zX2 w x).1 + 6 * (zX2 w x).2.1 + (zX2 w x).2.2 ∧ x.1 ≤ (zX2 w x).1 := by
  unfold zX2
  by_cases h : 6 - x.2.2 < w
  · rw [if_pos h]
    dsimp only
    unfold zRp zRr
    by_cases h4 : x.2.1 = 3
    · rw [if_pos h4, if_pos h4]; omega
    · rw [if_neg h4, if_neg h4]; omega
  · rw [if_neg h]; omega
theorem zX3_m {d : Int} {x : Int × Int × Int} (h2 : 0 ≤ x.2.1 ∧ x.2.1 ≤ 3) (h3 : 0 ≤ x.2.2 ∧ x.2.2 ≤ 6) : 24 * x.1 + 6 * x.2.1 + x.2.2 ≤ 24 * (zX3 d x).1 + 6 * (zX3 d x).2.1 + (zX3 d x).2.2 ∧ x.1 ≤ (zX3 d x).1 := by
  unfold zX3
  by_cases h : d = 1 ∧ x.1 % 2 = 0 ∧ x.2.2 ≠ 0
  · rw [if_pos h]
    dsimp only
    unfold zRp zRr
    by_cases h4 : x.2.1 = 3
    · rw [if_pos h4, if_pos h4]; omega
    · rw [if_neg h4, if_neg h4]; omega
  · rw [if_neg h]; omega
theorem zXr_m {sg k w t pg rw un : Int} {c b : Int → Int} (hw : 1 ≤ w ∧ w ≤ 6) (h1 : 0 ≤ pg ∧ pg ≤ 16) (h2 : 0 ≤ rw ∧ rw ≤ 3) (h3 : 0 ≤ un ∧ un ≤ 6) : 24 * pg + 6 * rw + un ≤ 24 * (zXr sg k w t pg rw un c b).1 + 6 * (zXr sg k w t pg rw un c b).2.1 + (zXr sg k w t pg rw un c b).2.2 ∧ pg ≤ (zXr sg k w t pg rw un c b).1 := by
  unfold zXr
  by_cases h : zGc c b pg t sg
  · rw [if_pos h]
    obtain ⟨a1, a2, a3⟩ := zX2_b (x := (pg + 1, 0, 0)) hw (by dsimp only; unfold zGc at h; omega) (by dsimp only; omega) (by dsimp only; omega)
    have m1 := zX2_m (w := w) (x := (pg + 1, 0, 0)) (by dsimp only; omega) (by dsimp only; omega)
    have m2 := zX3_m (d := k) (x := zX2 w (pg + 1, 0, 0)) a2 (by omega)
    dsimp only at m1
    omega
  · rw [if_neg h]
    obtain ⟨a1, a2, a3⟩ := zX2_b (x := (pg, rw, un)) hw h1 h2 h3
    have m1 := zX2_m (w := w) (x := (pg, rw, un)) h2 h3
    have m2 := zX3_m (d := k) (x := zX2 w (pg, rw, un)) a2 (by omega)
    dsimp only at m1
    omega
theorem zFst_m {c : Int → Int} {pg tk : Int} : pg ≤ zFst c pg tk ∧ (zFst c pg tk = pg → ¬ (pg < 16 ∧ 0 < c pg)) := by
  unfold zFst zF0
  split <;> split <;> omega
def zW (j : Int) (R U W : Int → Int) (L : ZL) (G : Int → Int) : Prop :=
  zV j R U W L.2.2.2.2.1 L.2.2.2.2.2.1 L.2.2.2.2.2.2.1 L.2.2.2.2.2.2.2.1 L.2.2.2.2.2.2.2.2.1 L.2.2.2.2.2.2.2.2.2.1 L.2.2.2.2.2.2.2.2.2.2 G ∧ (∀ x, 24 * L.1 + 6 * L.2.1 + L.2.2.1 ≤ x → x < 384 → G x = -1) ∧ L.2.2.2.2.2.2.2.2.1 ≤ L.1 + 1 ∧ (L.1 < 16 → 0 < L.2.2.2.2.1 L.1 → L.2.2.2.2.2.2.2.1 L.1 + L.2.2.2.2.1 L.1 = j)
theorem zV_high {J us be fi : Int} {R U W c b f s G : Int → Int} (h : zV J R U W c b f s us be fi G) {p : Int} (hp : 0 ≤ p ∧ p < 16) (hu : us ≤ p) : c p = 0 := by
  obtain ⟨p', rfl⟩ := Int.eq_ofNat_of_zero_le hp.1
  have h1 := (h.2.1 p' hp.1 hp.2).1
  have h2 := h.2.2.1.1
  by_cases h0 : 0 < c p'
  · have := zUs_a 16 p' (by omega) h0
    omega
  · omega
theorem zW_step {j sg k w t : Int} {R U W G : Int → Int} {L : ZL} (hk : 0 ≤ k ∧ k ≤ 3) (hw : 1 ≤ w ∧ w ≤ 6) (hL : zLb j L) (h : zW j R U W L G) (hpl : (zPlL sg k w t L).1 ≠ -1) (hR : R j = (zPlL sg k w t L).2.1) (hU : U j = (zPlL sg k w t L).2.2) (hW : W j = w) (hj : 0 ≤ j) :
    zW (j + 1) R U W (zNext sg k w t j L) (zGr k w j (zPlL sg k w t L) G) := by
  obtain ⟨pg, rw, un, e, c, b, f, s, us, be, fi⟩ := L
  obtain ⟨hv, hfr, hus, hct⟩ := h
  obtain ⟨l1, l2, l3, -, -⟩ := hL
  dsimp only at hv hfr hus hct l1 l2 l3
  unfold zPlL at hpl hR hU
  dsimp only at hpl hR hU
  by_cases hk2 : k < 2
  · obtain ⟨e1, b1, b2, b3⟩ := zPlc_r hk2 hw l1 l2 l3 hpl
    obtain ⟨x1, x2, x3⟩ := zXr_b (sg := sg) (k := k) (t := t) (c := c) (b := b) hw l1 l2 l3
    have xm := zXr_m (sg := sg) (k := k) (t := t) (c := c) (b := b) hw l1 l2 l3
    have xu : (zXr sg k w t pg rw un c b).2.2 ≤ zXu k w (zXr sg k w t pg rw un c b) := by unfold zXu; split <;> omega
    unfold zNext zGr zPlL
    rw [if_pos hk2, if_pos hk2]
    dsimp only
    rw [e1] at hR hU b1 b2 b3 ⊢
    dsimp only at hR hU b1 b2 b3 ⊢
    generalize (zXr sg k w t pg rw un c b).1 = p at *
    generalize (zXr sg k w t pg rw un c b).2.1 = r at *
    generalize zXu k w (zXr sg k w t pg rw un c b) = u at *
    have hc0 : ¬ p = pg → c p = 0 := fun hne => zV_high hv b1 (by omega)
    refine ⟨?_, fun x h1 h2 => ?_, ?_, fun _ _ => ?_⟩
    · show zV (j + 1) R U W (zU c p (c p + 1)) (zU b p (b p + t)) (zU f p (f p + w)) (zFs c s p j) (p + 1) (zBe c be p) (fi + w) (zMk G (24 * p + (6 * r + u)) w j)
      refine zV_bear (J1 := j) (J2 := j + 1) hv b1 (by omega) (by omega) (fun x h1 h2 => hfr x (by omega) (by omega)) (by omega) (fun hc => ?_) (fun r' u' r1 r2 u1 u2 => ?_) (fun hh => ?_)
      · by_cases ep : p = pg
        · subst ep; exact hct b1.2 hc
        · have := hc0 ep; omega
      · unfold zCv
        rw [hR, hU, hW]
        omega
      · omega
    · dsimp only at h1
      rw [zMk_out (by omega)]
      exact hfr x (by omega) h2
    · show p + 1 ≤ p + 1
      omega
    · show (zFs c s p j) p + (zU c p (c p + 1)) p = j + 1
      rw [zFs_p, zU_eq]
      by_cases ep : p = pg
      · subst ep
        split
        · omega
        · have h2 := (hv.2.1 p b1.1 b1.2).1
          have := hct b1.2 (by omega); omega
      · have := hc0 ep
        rw [if_pos this]; omega
  · obtain ⟨e1, b1, b2⟩ := zPlc_w hk2 l1 hpl
    have fm := zFst_m (c := c) (pg := pg) (tk := k - 1)
    unfold zNext zGr zPlL
    rw [if_neg hk2, if_neg hk2]
    dsimp only
    rw [e1] at hR hU ⊢
    dsimp only at hR hU ⊢
    generalize zFst c pg (k - 1) = F at *
    have hc0 : c F = 0 := by
      by_cases ep : F = pg
      · have h9 := fm.2 ep
        rw [ep] at b1 b2 ⊢
        have := (hv.2.1 pg b1 (by omega)).1
        omega
      · exact zV_high hv ⟨b1, by omega⟩ (by omega)
    obtain ⟨g1, g2, g3⟩ := (hv.2.1 F b1 (by omega)).2.1 hc0
    have v1 := zV_bear (J1 := j) (J2 := j + 1) (v := j) (a := 24 * F) (w := 24) (t := t) (p := F) hv ⟨b1, by omega⟩ (by omega) (by omega) g3 (by omega) (fun hc => absurd hc (by omega)) (fun r' u' r1 r2 u1 u2 => ⟨fun _ => Or.inl hR, fun _ => by omega⟩) (fun _ => by omega)
    by_cases h3 : k = 2
    · have h3' : ¬ k - 1 = 2 := by omega
      rw [if_pos h3]
      unfold zWhole
      rw [if_neg h3']
      refine ⟨v1, fun x h1 h2 => ?_, ?_, fun _ hc => ?_⟩
      · dsimp only at h1
        rw [zMk_out (by omega)]
        exact hfr x (by omega) h2
      · show F + 1 ≤ F + (k - 1) + 1
        omega
      · dsimp only at hc
        have e9 : F + (k - 1) = F + 1 := by omega
        have : zU c F (c F + 1) (F + (k - 1)) = 0 := by rw [zU_ne _ _ (by omega)]; exact zV_high hv (by omega) (by omega)
        unfold zBear at hc
        dsimp only at hc
        omega
    · have h3' : k - 1 = 2 := by omega
      rw [if_neg h3]
      unfold zWhole
      rw [if_pos h3']
      have hc1 : zU c F (c F + 1) (F + 1) = 0 := by rw [zU_ne _ _ (by omega)]; exact zV_high hv (by omega) (by omega)
      obtain ⟨k1, k2, k3⟩ := (v1.2.1 (F + 1) (by omega) (by omega)).2.1 hc1
      have v2 := zV_bear (J1 := j + 1) (J2 := j + 1) (v := j) (a := 24 * (F + 1)) (w := 24) (t := 0) (p := F + 1) v1 (by omega) (by omega) (by omega) k3 (by omega) (fun hc => absurd hc (by omega)) (fun r' u' r1 r2 u1 u2 => ⟨fun _ => Or.inl hR, fun _ => by omega⟩) (fun _ => by omega)
      refine ⟨v2, fun x h1 h2 => ?_, ?_, fun hlt hc => ?_⟩
      · dsimp only at h1
        rw [zMk_out (by omega), zMk_out (by omega)]
        exact hfr x (by omega) h2
      · show F + 1 + 1 ≤ F + (k - 1) + 1
        omega
      · dsimp only at hc hlt
        have : zU (zU c F (c F + 1)) (F + 1) (zU c F (c F + 1) (F + 1) + 1) (F + (k - 1)) = 0 := by rw [zU_ne _ _ (by omega), zU_ne _ _ (by omega)]; exact zV_high hv (by omega) (by omega)
        unfold zBear at hc
        dsimp only at hc
        omega
abbrev zRs (sg : Int) (K W T : Int → Int) : Int → Int := fun x => (zPos sg K W T x.toNat).2.1
abbrev zUx (sg : Int) (K W T : Int → Int) : Int → Int := fun x => (zPos sg K W T x.toNat).2.2
theorem zW_all {n sg : Int} {K W T : Int → Int} (hok : zOk n sg K W T) : ∀ j : Nat, (j : Int) ≤ n → (zSeq sg K W T j).1 = true → zW j (zRs sg K W T) (zUx sg K W T) W (zSeq sg K W T j).2 (zGrid sg K W T j)
  | 0, _, _ => by
    refine ⟨⟨fun p _ _ => by show zEm (fun _ => -1) (24 * p) 24 = 24 - 0; simp [zEm], fun p _ _ => ⟨Int.le_refl 0, fun _ => ⟨rfl, rfl, fun _ _ _ => rfl⟩, fun h => absurd h (by show ¬ (0 : Int) < 0; omega)⟩, ⟨?_, ?_, ?_⟩, fun x _ _ => ⟨by show (-1 : Int) ≤ -1; omega, by show (-1 : Int) < 0; omega⟩, fun p r u _ _ _ _ _ _ => ⟨fun h => absurd rfl h, fun h => absurd h (by show ¬ (0 : Int) < 0; omega)⟩, fun p _ _ h => absurd rfl h⟩, fun x _ _ => rfl, by show (0 : Int) ≤ 0 + 1; omega, fun _ h => absurd h (by show ¬ (0 : Int) < 0; omega)⟩
    · show (0 : Int) = zUs (fun _ => 0) 16
      simp [zUs]
    · show (0 : Int) = zPs (fun _ => 0) 16
      simp [zPs]
    · show (0 : Int) = zSm (fun _ => 0) 16
      simp [zSm]
  | j + 1, hj, h => by
    obtain ⟨s1, s2, s3⟩ := zSeq_s h
    have ih := zW_all hok j (by omega) s1
    have hb := zSeq_b hok j (by omega)
    obtain ⟨k1, k2, k3⟩ := hok.2.2 j (by omega) (by omega)
    have e := zPos_yes s1 s2
    rw [s3, zGrid, if_pos h, e]
    have := zW_step (t := T j) k1 k2 hb ih s2 (by show (zPos sg K W T ((j : Int)).toNat).2.1 = _; rw [Int.toNat_natCast, e]) (by show (zPos sg K W T ((j : Int)).toNat).2.2 = _; rw [Int.toNat_natCast, e]) rfl (by omega)
    exact this
theorem zLast {sg : Int} {K W T : Int → Int} : ∀ j : Nat, ∃ m : Nat, m ≤ j ∧ (zSeq sg K W T m).1 = true ∧ (zSeq sg K W T j).2 = (zSeq sg K W T m).2 ∧ zGrid sg K W T j = zGrid sg K W T m ∧ zMany sg K W T j = m ∧ (m = j ∧ (zSeq sg K W T j).1 = true ∨ m < j ∧ (zPlL sg (K m) (W m) (T m) (zSeq sg K W T m).2).1 = -1 ∧ (zSeq sg K W T j).1 = false)
  | 0 => ⟨0, by omega, rfl, rfl, rfl, rfl, Or.inl ⟨rfl, rfl⟩⟩
  | j + 1 => by
    obtain ⟨m, h1, h2, h3, h4, h5, h6⟩ := zLast (sg := sg) (K := K) (W := W) (T := T) j
    by_cases hs : (zSeq sg K W T (j + 1)).1 = true
    · exact ⟨j + 1, Nat.le_refl _, hs, rfl, rfl, zMany_t hs, Or.inl ⟨rfl, hs⟩⟩
    · have hn : ¬ ((zSeq sg K W T j).1 = true ∧ (zPlL sg (K j) (W j) (T j) (zSeq sg K W T j).2).1 ≠ -1) := fun hh => hs (by rw [zSeq_n hh.1 hh.2])
      have e := zSeq_no hn
      refine ⟨m, by omega, h2, by rw [e]; exact h3, by rw [zGrid, if_neg hs]; exact h4, by rw [zMany, if_neg hs]; exact h5, Or.inr ⟨by omega, ?_, by rw [e]⟩⟩
      rcases h6 with ⟨rfl, g2⟩ | ⟨-, g2, -⟩
      · by_cases q : (zPlL sg (K m) (W m) (T m) (zSeq sg K W T m).2).1 = -1
        · exact q
        · exact absurd ⟨g2, q⟩ hn
      · exact g2
theorem zSeq_pre {sg : Int} {K W T : Int → Int} : ∀ j m : Nat, m ≤ j → (zSeq sg K W T j).1 = true → (zSeq sg K W T m).1 = true
  | 0, m, h, hs => by rw [show m = 0 by omega]; exact hs
  | j + 1, m, h, hs => by
    by_cases e : m = j + 1
    · subst e; exact hs
    · exact zSeq_pre j m (by omega) (zSeq_s hs).1
/-- what a story's pouring comes to -/
theorem zEnd {n sg : Int} {K W T : Int → Int} (hok : zOk n sg K W T) : ∃ m : Nat, (m : Int) ≤ n ∧ zW m (zRs sg K W T) (zUx sg K W T) W (zFin sg K W T n) (zGrid sg K W T n.toNat) ∧ zMany sg K W T n.toNat = m ∧
    (∀ i : Nat, i < m → (0 ≤ (zPos sg K W T i).1 ∧ (zPos sg K W T i).1 < 16) ∧ (2 ≤ K i → (zPos sg K W T i).2.1 = -1)) ∧ (∀ i : Nat, m ≤ i → zPos sg K W T i = (-1, -1, -1)  ∨ (i : Int) ≥ n) := by
  obtain ⟨m, h1, h2, h3, h4, h5, h6⟩ := zLast (sg := sg) (K := K) (W := W) (T := T) n.toNat
  have hn := hok.1
  refine ⟨m, by omega, ?_, h5, fun i hi => ?_, fun i hi => ?_⟩
  · unfold zFin
    rw [h3, h4]
    exact zW_all hok m (by omega) h2
  · obtain ⟨s1, s2, s3⟩ := zSeq_s (zSeq_pre m (i + 1) hi h2)
    rw [zPos_yes s1 s2]
    obtain ⟨l1, l2, l3, -, -⟩ := zSeq_b hok i (by omega)
    obtain ⟨k1, k2, k3⟩ := hok.2.2 i (by omega) (by omega)
    by_cases hk : K i < 2
    · have r := zPlc_r hk k2 l1 l2 l3 s2
      exact ⟨r.2.1, fun h => absurd h (by omega)⟩
    · have r := zPlc_w hk l1 s2
      unfold zPlL
      rw [r.1]
      exact ⟨⟨r.2.1, by show zFst _ _ _ < 16; omega⟩, fun _ => rfl⟩
  · rcases h6 with ⟨g1, -⟩ | ⟨g1, g2, -⟩
    · right; omega
    · left; exact zPos_no h2 g2 i hi
theorem zEm_le {G : Int → Int} {a x : Int} : ∀ k : Nat, 0 ≤ zEm G a k ∧ zEm G a k ≤ k ∧ (a ≤ x → x < a + k → G x ≠ -1 → zEm G a k < k)
  | 0 => ⟨Int.le_refl 0, Int.le_refl 0, fun h1 h2 => absurd h2 (by omega)⟩
  | k + 1 => by
    obtain ⟨i1, i2, i3⟩ := zEm_le (G := G) (a := a) (x := x) k
    rw [zEm]
    refine ⟨by split <;> omega, by split <;> omega, fun h1 h2 h3 => ?_⟩
    by_cases h : x < a + k
    · have := i3 h1 h h3
      split <;> omega
    · have e : x = a + k := by omega
      rw [← e, if_neg h3]; omega
theorem zq_us {n sg : Int} {K W T : Int → Int} (hok : zOk n sg K W T) : zUs (zFin sg K W T n).2.2.2.2.1 16 = zUsed (zFin sg K W T n) := by
  obtain ⟨m, -, h, -⟩ := zEnd hok
  exact h.1.2.2.1.1.symm
theorem zq_ps {n sg : Int} {K W T : Int → Int} (hok : zOk n sg K W T) : zPs (zFin sg K W T n).2.2.2.2.1 16 = (zFin sg K W T n).2.2.2.2.2.2.2.2.2.1 := by
  obtain ⟨m, -, h, -⟩ := zEnd hok
  exact h.1.2.2.1.2.1.symm
theorem zEu_s {c f G : Int → Int} (h1 : ∀ p : Int, 0 ≤ p → p < 16 → zEm G (24 * p) 24 = 24 - f p) (h2 : ∀ p : Int, 0 ≤ p → p < 16 → 0 ≤ c p ∧ (c p = 0 → f p = 0)) : ∀ k : Nat, k ≤ 16 → zEu c G k = zPs c k * 24 - zSm f k
  | 0, _ => rfl
  | k + 1, hk => by
    rw [zEu, zPs, zSm, zEu_s h1 h2 k (by omega)]
    obtain ⟨a, b⟩ := h2 k (by omega) (by omega)
    by_cases h : 0 < c k
    · rw [if_pos h, if_pos h, h1 k (by omega) (by omega)]; omega
    · have := b (by omega)
      rw [if_neg h, if_neg h]; omega
theorem zq_eu {n sg : Int} {K W T : Int → Int} (hok : zOk n sg K W T) : zEu (zFin sg K W T n).2.2.2.2.1 (zGrid sg K W T n.toNat) 16 = zEmp (zFin sg K W T n) := by
  obtain ⟨m, -, h, -⟩ := zEnd hok
  obtain ⟨v1, v2, ⟨-, v4, v5⟩, -⟩ := h.1
  rw [zEu_s v1 (fun p p1 p2 => ⟨(v2 p p1 p2).1, fun e => ((v2 p p1 p2).2.1 e).1⟩) 16 (Nat.le_refl 16), ← v4, ← v5]
  rfl
theorem zFi_s {c f : Int → Int} (h : ∀ p : Int, 0 ≤ p → p < 16 → (¬ 0 < c p → f p = 0) ∧ (0 < c p → 1 ≤ f p ∧ f p ≤ 24)) : ∀ k : Nat, k ≤ 16 → zPs c k ≤ zSm f k ∧ zSm f k ≤ zPs c k * 24 ∧ 0 ≤ zPs c k ∧ zPs c k ≤ k
  | 0, _ => ⟨Int.le_refl 0, Int.le_refl 0, Int.le_refl 0, Int.le_refl 0⟩
  | k + 1, hk => by
    obtain ⟨i1, i2, i3, i4⟩ := zFi_s h k (by omega)
    obtain ⟨a, b⟩ := h k (by omega) (by omega)
    rw [zPs, zSm]
    by_cases h0 : 0 < c k
    · have := b h0
      rw [if_pos h0]; omega
    · have := a h0
      rw [if_neg h0]; omega
/-- the units that are taken, and the pages that bear -/
theorem zq_fi {n sg : Int} {K W T : Int → Int} (hok : zOk n sg K W T) : (0 ≤ (zFin sg K W T n).2.2.2.2.2.2.2.2.2.1 ∧ (zFin sg K W T n).2.2.2.2.2.2.2.2.2.1 ≤ 16) ∧ (zFin sg K W T n).2.2.2.2.2.2.2.2.2.1 ≤ (zFin sg K W T n).2.2.2.2.2.2.2.2.2.2 ∧ (zFin sg K W T n).2.2.2.2.2.2.2.2.2.2 ≤ (zFin sg K W T n).2.2.2.2.2.2.2.2.2.1 * 24 := by
  obtain ⟨m, -, h, -⟩ := zEnd hok
  obtain ⟨v1, v2, ⟨-, v4, v5⟩, -⟩ := h.1
  have z := zFi_s (c := (zFin sg K W T n).2.2.2.2.1) (f := (zFin sg K W T n).2.2.2.2.2.2.1) (fun p p1 p2 => by
    obtain ⟨w1, w2, w3⟩ := v2 p p1 p2
    refine ⟨fun e => (w2 (by omega)).1, fun e => ?_⟩
    obtain ⟨g1, g2, ⟨x, y1, y2, y3⟩, -⟩ := w3 e
    have z := zEm_le (G := zGrid sg K W T n.toNat) (a := 24 * p) (x := x) 24
    rw [v1 p p1 p2] at z
    have := z.2.2 y1 y2 (by omega)
    omega) 16 (Nat.le_refl 16)
  rw [← v4, ← v5] at z
  omega
theorem zLo_s {P : Int → Int} {m : Nat} : ∀ k : Nat, (∀ i : Nat, i < k → (P i = -1 ↔ m ≤ i)) → zLo P k = if k ≤ m then 0 else (k : Int) - m
  | 0, _ => by rw [if_pos (by omega)]; rfl
  | k + 1, h => by
    rw [zLo, zLo_s k (fun i hi => h i (by omega))]
    by_cases e : m ≤ k
    · rw [if_pos ((h k (by omega)).mpr e), if_neg (show ¬ k + 1 ≤ m by omega)]
      by_cases e2 : k ≤ m
      · rw [if_pos e2]; omega
      · rw [if_neg e2]; omega
    · rw [if_neg (fun hh => e ((h k (by omega)).mp hh)), if_pos (show k ≤ m by omega), if_pos (show k + 1 ≤ m by omega)]; rfl
theorem zq_lo {n sg : Int} {K W T P : Int → Int} (hok : zOk n sg K W T) (hP : ∀ i : Nat, (i : Int) < n → P i = (zPos sg K W T i).1) : zLo P n.toNat = zOut n sg K W T := by
  obtain ⟨m, h1, -, h2, h3, h4⟩ := zEnd hok
  have hn := hok.1
  rw [zLo_s (m := m) n.toNat (fun i hi => by
    rw [hP i (by omega)]
    constructor
    · intro e
      by_cases q : m ≤ i
      · exact q
      · have := (h3 i (by omega)).1; omega
    · intro q
      rcases h4 i q with e | e
      · rw [e]
      · omega)]
  unfold zOut
  rw [h2]
  split <;> omega
theorem zUn_s {b : Int → Int} {us : Int} (h : ∀ p : Int, us ≤ p → 0 ≤ p → p < 16 → b p = 0) : ∀ k : Nat, k ≤ 8 → 0 ≤ zGd b k ∧ zUn b us k = zGd b k
  | 0, _ => ⟨Int.le_refl 0, rfl⟩
  | k + 1, hk => by
    obtain ⟨i1, i2⟩ := zUn_s h k (by omega)
    rw [zUn, zGd, i2]
    refine ⟨by split <;> omega, ?_⟩
    by_cases e : 2 * (k : Int) < us
    · by_cases e2 : zGd b k < zAbs (b (2 * k) - b (2 * k + 1))
      · rw [if_pos ⟨e, e2⟩, if_pos e2]
      · rw [if_neg (fun hh => e2 hh.2), if_neg e2]
    · have z1 := h (2 * k) (by omega) (by omega) (by omega)
      have z2 := h (2 * k + 1) (by omega) (by omega) (by omega)
      rw [if_neg (fun hh => e hh.1), if_neg (by rw [z1, z2]; unfold zAbs; split <;> omega)]
theorem zq_un {n sg : Int} {K W T : Int → Int} (hok : zOk n sg K W T) : zUn (zFin sg K W T n).2.2.2.2.2.1 (zUsed (zFin sg K W T n)) 8 = zGd (zFin sg K W T n).2.2.2.2.2.1 8 := by
  obtain ⟨m, -, h, -⟩ := zEnd hok
  exact (zUn_s (fun p p1 p2 p3 => ((h.1.2.1 p p2 p3).2.1 (zV_high h.1 ⟨p2, p3⟩ p1)).2.1) 8 (Nat.le_refl 8)).2
theorem zq_em {n sg p : Int} {K W T : Int → Int} (hok : zOk n sg K W T) (hp : 0 ≤ p ∧ p < 16) : zEm (zGrid sg K W T n.toNat) (24 * p) 24 = 24 - (zFin sg K W T n).2.2.2.2.2.2.1 p := by
  obtain ⟨m, -, h, -⟩ := zEnd hok
  exact h.1.1 p hp.1 hp.2
theorem zq_wh {n sg p : Int} {K W T : Int → Int} (hok : zOk n sg K W T) (hp : 0 ≤ p ∧ p < 16) (hw : zWhl K (zGrid sg K W T n.toNat) p) : 24 - (zFin sg K W T n).2.2.2.2.2.2.1 p = 0 := by
  obtain ⟨m, -, h, -, h3, -⟩ := zEnd hok
  obtain ⟨a, b⟩ := hw
  have g := h.1.2.2.2.1 (24 * p) (by omega) (by omega)
  generalize hG : zGrid sg K W T n.toNat (24 * p) = x at *
  obtain ⟨x', rfl⟩ := Int.eq_ofNat_of_zero_le (show 0 ≤ x by omega)
  have r := (h3 x' (by omega)).2 b
  have := h.1.2.2.2.2.2 p hp.1 hp.2 (by rw [hG]; omega) (by rw [hG]; show (zPos sg K W T ((x' : Int)).toNat).2.1 = -1; rw [Int.toNat_natCast]; exact r)
  omega
theorem zFo_s {G : Int → Int} {a M : Int} (hM : 0 ≤ M) (hmin : ∀ x, a ≤ x → x < a + 24 → G x ≠ -1 → M ≤ G x) : ∀ k : Nat, k ≤ 24 → (zFo G a k = -1 ∧ ∀ x, a + (24 - k) ≤ x → x < a + 24 → G x = -1) ∨ (M ≤ zFo G a k ∧ ∀ x, a + (24 - k) ≤ x → x < a + 24 → G x ≠ -1 → zFo G a k ≤ G x)
  | 0, _ => Or.inl ⟨rfl, fun x h1 h2 => absurd h2 (by omega)⟩
  | k + 1, hk => by
    rw [zFo]
    have hx := hmin (a + (23 - k)) (by omega) (by omega)
    have hcase : ∀ x, a + (24 - ((k + 1 : Nat) : Int)) ≤ x → x = a + (23 - k) ∨ a + (24 - k) ≤ x := fun x h => by omega
    rcases zFo_s hM hmin k (by omega) with ⟨i1, i2⟩ | ⟨i1, i2⟩
    · by_cases h : G (a + (23 - k)) = -1
      · rw [if_neg (fun hh => hh.1 h)]
        refine Or.inl ⟨i1, fun x x1 x2 => ?_⟩
        rcases hcase x x1 with e | e
        · rw [e]; exact h
        · exact i2 x e x2
      · rw [if_pos ⟨h, Or.inl i1⟩]
        refine Or.inr ⟨hx h, fun x x1 x2 x3 => ?_⟩
        rcases hcase x x1 with e | e
        · rw [e]; exact Int.le_refl _
        · exact absurd (i2 x e x2) x3
    · by_cases h : G (a + (23 - k)) ≠ -1 ∧ (zFo G a k = -1 ∨ G (a + (23 - k)) < zFo G a k)
      · rw [if_pos h]
        refine Or.inr ⟨hx h.1, fun x x1 x2 x3 => ?_⟩
        rcases hcase x x1 with e | e
        · rw [e]; exact Int.le_refl _
        · have := i2 x e x2 x3
          have := h.2
          omega
      · rw [if_neg h]
        refine Or.inr ⟨i1, fun x x1 x2 x3 => ?_⟩
        rcases hcase x x1 with e | e
        · rw [e] at x3 ⊢
          by_cases q : zFo G a k ≤ G (a + (23 - k))
          · exact q
          · exact absurd ⟨x3, Or.inr (by omega)⟩ h
        · exact i2 x e x2 x3
theorem zq_fo {n sg p : Int} {K W T : Int → Int} (hok : zOk n sg K W T) (hp : 0 ≤ p ∧ p < 16) : zFo (zGrid sg K W T n.toNat) (24 * p) 24 = if 0 < (zFin sg K W T n).2.2.2.2.1 p then (zFin sg K W T n).2.2.2.2.2.2.2.1 p else -1 := by
  obtain ⟨m, -, h, -⟩ := zEnd hok
  obtain ⟨w1, w2, w3⟩ := h.1.2.1 p hp.1 hp.2
  by_cases e : 0 < (zFin sg K W T n).2.2.2.2.1 p
  · rw [if_pos e]
    obtain ⟨g1, g2, ⟨x, y1, y2, y3⟩, g4⟩ := w3 e
    rcases zFo_s g1 g4 24 (Nat.le_refl 24) with ⟨i1, i2⟩ | ⟨i1, i2⟩
    · have := i2 x (by omega) (by omega)
      omega
    · have := i2 x (by omega) (by omega) (by omega)
      omega
  · rw [if_neg e]
    have z := (w2 (by omega)).2.2
    rcases zFo_s (M := 0) (Int.le_refl 0) (fun x x1 x2 x3 => absurd (z x x1 x2) x3) 24 (Nat.le_refl 24) with ⟨i1, -⟩ | ⟨i1, i2⟩
    · exact i1
    · exfalso
      have key : ∀ k : Nat, k ≤ 24 → zFo (zGrid sg K W T n.toNat) (24 * p) k = -1 := fun k => by
        induction k with
        | zero => intro _; rfl
        | succ k ih =>
          intro hk
          rw [zFo, if_neg (fun hh => hh.1 (z _ (by omega) (by omega)))]
          exact ih (by omega)
      have := key 24 (Nat.le_refl 24)
      omega
theorem zAt_s {R U W : Int → Int} {r u g : Int} : ∀ (m : Nat) (j : Int), (∀ k, j ≤ k → k < j + m → (R k = -1 ∨ (R k = r ∧ U k ≤ u ∧ u < U k + W k)) → g = k) → (g ≠ -1 → g < j → False) → (g ≠ -1 → j ≤ g → g < j + m ∧ (R g = -1 ∨ (R g = r ∧ U g ≤ u ∧ u < U g + W g))) → zAt R U W r u m j = g
  | 0, j, h1, h2, h3 => by
    rw [zAt]
    by_cases e : g = -1
    · exact e.symm
    · by_cases q : j ≤ g
      · have := h3 e q; omega
      · exact (h2 e (by omega)).elim
  | m + 1, j, h1, h2, h3 => by
    rw [zAt]
    by_cases e : R j = -1 ∨ (R j = r ∧ U j ≤ u ∧ u < U j + W j)
    · rw [if_pos e]; exact (h1 j (by omega) (by omega) e).symm
    · rw [if_neg e]
      refine zAt_s m (j + 1) (fun k k1 k2 => h1 k (by omega) (by omega)) (fun g1 g2 => ?_) (fun g1 g2 => ?_)
      · by_cases q : g = j
        · have := (h3 g1 (by omega)).2
          rw [q] at this
          exact e this
        · exact h2 g1 (by omega)
      · obtain ⟨a, b⟩ := h3 g1 (by omega)
        exact ⟨by omega, b⟩
theorem zq_at {n sg p r u : Int} {K W T R U : Int → Int} (hok : zOk n sg K W T) (hR : ∀ i : Nat, (i : Int) < n → R i = (zPos sg K W T i).2.1 ∧ U i = (zPos sg K W T i).2.2) (hp : 0 ≤ p ∧ p < 16) (hr : 0 ≤ r ∧ r < 4) (hu : 0 ≤ u ∧ u < 6) :
    zAt R U W r u ((zFin sg K W T n).2.2.2.2.1 p).toNat ((zFin sg K W T n).2.2.2.2.2.2.2.1 p) = zGrid sg K W T n.toNat (24 * p + 6 * r + u) := by
  obtain ⟨m, hm, h, -⟩ := zEnd hok
  obtain ⟨w1, w2, w3⟩ := h.1.2.1 p hp.1 hp.2
  obtain ⟨v1, v2⟩ := h.1.2.2.2.2.1 p r u hp.1 hp.2 hr.1 hr.2 hu.1 hu.2
  have hb := h.1.2.2.2.1 (24 * p + 6 * r + u) (by omega) (by omega)
  generalize (zFin sg K W T n).2.2.2.2.1 p = cp at *
  generalize (zFin sg K W T n).2.2.2.2.2.2.2.1 p = sp at *
  have conv : ∀ k : Int, 0 ≤ k → k < n → R k = zRs sg K W T k ∧ U k = zUx sg K W T k := fun k k1 k2 => by
    obtain ⟨k', rfl⟩ := Int.eq_ofNat_of_zero_le k1
    have := hR k' k2
    show R k' = (zPos sg K W T ((k' : Int)).toNat).2.1 ∧ U k' = (zPos sg K W T ((k' : Int)).toNat).2.2
    rw [Int.toNat_natCast]; exact this
  by_cases hc : 0 < cp
  · obtain ⟨g1, g2, -, -⟩ := w3 hc
    refine zAt_s _ _ (fun k k1 k2 k3 => ?_) (fun a b => ?_) (fun a b => ?_)
    · obtain ⟨e1, e2⟩ := conv k (by omega) (by omega)
      rw [e1, e2] at k3
      exact v2 hc k k1 (by omega) k3
    · have := (v1 a).2.1
      omega
    · obtain ⟨a0, a1, a2, a3⟩ := v1 a
      refine ⟨by omega, ?_⟩
      obtain ⟨e1, e2⟩ := conv _ (show 0 ≤ zGrid sg K W T n.toNat (24 * p + 6 * r + u) by omega) (by omega)
      rw [e1, e2]
      exact a3
  · have e0 : cp = 0 := by omega
    rw [e0]
    show -1 = _
    exact ((w2 e0).2.2 _ (by omega) (by omega)).symm
theorem zBo_0 {K P : Int → Int} {p : Int} {m : Nat} : ∀ k : Nat, (∀ i : Nat, m ≤ i → i < m + k → P i ≠ p) → zBo K P p (m + k) = zBo K P p m
  | 0, _ => rfl
  | k + 1, h => by
    show zBo K P p ((m + k) + 1) = _
    rw [zBo, zBo_0 k (fun i h1 h2 => h i h1 (by omega)), if_neg (fun hh => h (m + k) (by omega) (by omega) hh.2)]; omega
theorem zBo_s {n sg p : Int} {K W T P : Int → Int} (hok : zOk n sg K W T) (hP : ∀ i : Nat, (i : Int) < n → P i = (zPos sg K W T i).1) : ∀ j : Nat, (j : Int) ≤ n → (zSeq sg K W T j).1 = true → zBo K P p j = (zSeq sg K W T j).2.2.2.2.1 p
  | 0, _, _ => rfl
  | j + 1, hj, h => by
    obtain ⟨s1, s2, s3⟩ := zSeq_s h
    rw [zBo, zBo_s hok hP j (by omega) s1, s3, hP j (by omega), zPos_yes s1 s2]
    unfold zNext
    by_cases hk : K j < 2
    · rw [if_pos hk]
      dsimp only
      by_cases h1 : K j = 1
      · rw [if_pos h1]
        by_cases e : (zPlL sg (K j) (W j) (T j) (zSeq sg K W T j).2).1 = p
        · rw [if_pos ⟨h1, e⟩, e, zU_eq]
        · rw [if_neg (fun hh => e hh.2), zU_ne _ _ (fun hh => e hh.symm)]; omega
      · rw [if_neg h1, if_neg (fun hh => h1 hh.1)]; omega
    · rw [if_neg hk, if_neg (fun hh => by omega)]; dsimp only; omega
theorem zq_bo {n sg p : Int} {K W T P : Int → Int} (hok : zOk n sg K W T) (hP : ∀ i : Nat, (i : Int) < n → P i = (zPos sg K W T i).1) (hp : 0 ≤ p ∧ p < 16) : zBo K P p n.toNat = (zFin sg K W T n).2.2.2.1 p := by
  obtain ⟨m, h1, h2, h3, h4, h5, h6⟩ := zLast (sg := sg) (K := K) (W := W) (T := T) n.toNat
  have hn := hok.1
  unfold zFin
  rw [h3, ← zBo_s hok hP m (by omega) h2, show n.toNat = m + (n.toNat - m) by omega]
  refine zBo_0 _ (fun i i1 i2 => ?_)
  rw [hP i (by omega)]
  rcases h6 with ⟨g1, -⟩ | ⟨g1, g2, -⟩
  · omega
  · rw [zPos_no h2 g2 i i1]; show (-1 : Int) ≠ p; omega
theorem zq_G {n sg x : Int} {K W T : Int → Int} (hok : zOk n sg K W T) (hx : 0 ≤ x ∧ x < 384) : -1 ≤ zGrid sg K W T n.toNat x ∧ zGrid sg K W T n.toNat x < n := by
  obtain ⟨m, hm, h, -⟩ := zEnd hok
  have := h.1.2.2.2.1 x hx.1 hx.2
  omega
theorem zq_sc {n sg p : Int} {K W T : Int → Int} (hok : zOk n sg K W T) (hp : 0 ≤ p ∧ p < 16) : 0 ≤ (zFin sg K W T n).2.2.2.2.1 p ∧ (0 < (zFin sg K W T n).2.2.2.2.1 p → 0 ≤ (zFin sg K W T n).2.2.2.2.2.2.2.1 p ∧ (zFin sg K W T n).2.2.2.2.2.2.2.1 p + (zFin sg K W T n).2.2.2.2.1 p ≤ n) := by
  obtain ⟨m, hm, h, -⟩ := zEnd hok
  obtain ⟨w1, w2, w3⟩ := h.1.2.1 p hp.1 hp.2
  exact ⟨w1, fun e => by have := w3 e; exact ⟨this.1, by omega⟩⟩
