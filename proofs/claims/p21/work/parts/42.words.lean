theorem zq_c {n sg : Int} {K W T : Int → Int} (hok : zOk n sg K W T) : ∀ x, 0 ≤ (zFin sg K W T n).2.2.2.2.1 x ∧ (zFin sg K W T n).2.2.2.2.1 x ≤ 1000 := fun x => by
  have hn := hok.1
  have := (zSeq_b hok n.toNat (by omega)).2.2.2.1 x
  unfold zFin; omega
theorem zq_b {n sg : Int} {K W T : Int → Int} (hok : zOk n sg K W T) : ∀ x, 0 ≤ (zFin sg K W T n).2.2.2.2.2.1 x ∧ (zFin sg K W T n).2.2.2.2.2.1 x ≤ 10000 := fun x => by
  have hn := hok.1
  have := (zSeq_b hok n.toNat (by omega)).2.2.2.2 x
  unfold zFin; omega
theorem zq_P {n sg : Int} {K W T P R U : Int → Int} (hok : zOk n sg K W T) (h : ∀ i : Nat, (i : Int) < n → P i = (zPos sg K W T i).1 ∧ R i = (zPos sg K W T i).2.1 ∧ U i = (zPos sg K W T i).2.2) : ∀ x, 0 ≤ x → x < n → (-1 ≤ P x ∧ P x ≤ 100) ∧ (-1 ≤ R x ∧ R x ≤ 100) ∧ (-1 ≤ U x ∧ U x ≤ 100) := fun x x1 x2 => by
  obtain ⟨i, rfl⟩ := Int.eq_ofNat_of_zero_le x1
  obtain ⟨e1, e2, e3⟩ := h i x2
  rw [e1, e2, e3]
  unfold zPos
  by_cases hs : (zSeq sg K W T (i + 1)).1 = true
  · rw [if_pos hs]
    obtain ⟨s1, s2, s3⟩ := zSeq_s hs
    obtain ⟨l1, l2, l3, -, -⟩ := zSeq_b hok i (by omega)
    obtain ⟨k1, k2, k3⟩ := hok.2.2 i (by omega) (by omega)
    by_cases hk : K i < 2
    · have r := (zPlc_r hk k2 l1 l2 l3 s2).2
      unfold zPlL
      omega
    · have r := zPlc_w hk l1 s2
      unfold zPlL
      rw [r.1]
      dsimp only
      omega
  · rw [if_neg hs]; dsimp only; omega
theorem zMi_mono {l : Launch} {y : MethodName} {wy : List Cond} {rm : Room} {D : va_G} {tys : List (ClassId × FieldType)} {av : List Value} {wc : va_W} {p1 p2 : Int32 → va_W → Prop} {mc ms : Nat} (h : ∀ r w, p1 r w → p2 r w) (hm : zMi l y wy rm D tys av wc p1 mc ms) : zMi l y wy rm D tys av wc p2 mc ms := by
  intro sz
  intro p e ha hc hk s m args below hf happ hP hK
  obtain ⟨n, o, h1, h2, h3, ⟨⟨r, u, g1, g2, g3⟩, g4⟩, h5⟩ := hm sz p e ha hc hk s m args below hf happ hP hK
  exact ⟨n, o, h1, h2, h3, ⟨⟨r, u, g1, h _ _ g2, g3⟩, g4⟩, h5⟩
def zPgN (c b f s e : Int → Int) (us p x : Int) : Int := zPgF x (c p) (b p) (24 - f p) (if 0 < c p then s p else -1) (if ¬ 0 < c p ∧ p < us then 1 else 0) (e p)
def zNp (sg : Int) (K1 W1 T1 : Int → Int) (i x : Int) : Int := zPgF x (K1 i) (W1 i) (T1 i) (zPos sg K1 W1 T1 i.toNat).1 (zPos sg K1 W1 T1 i.toNat).2.1 (zPos sg K1 W1 T1 i.toNat).2.2
def zNg (n1 sg : Int) (K1 W1 T1 : Int → Int) (p x : Int) : Int := zPgN (zFin sg K1 W1 T1 n1).2.2.2.2.1 (zFin sg K1 W1 T1 n1).2.2.2.2.2.1 (zFin sg K1 W1 T1 n1).2.2.2.2.2.2.1 (zFin sg K1 W1 T1 n1).2.2.2.2.2.2.2.1 (zFin sg K1 W1 T1 n1).2.2.2.1 (zUsed (zFin sg K1 W1 T1 n1)) p x
def zNc (n1 sg : Int) (K1 W1 T1 : Int → Int) (hs x : Int) : Int := zCtF x n1 (zUsed (zFin sg K1 W1 T1 n1)) (zFin sg K1 W1 T1 n1).2.2.2.2.2.2.2.2.2.1 (zOut n1 sg K1 W1 T1) (zMx (zFin sg K1 W1 T1 n1).2.2.2.2.2.1 16) (zEmp (zFin sg K1 W1 T1 n1)) (zGd (zFin sg K1 W1 T1 n1).2.2.2.2.2.1 8) sg hs
theorem zLex {o1 u1 e1 o2 u2 e2 : Int} (h1 : 0 ≤ u1 ∧ u1 ≤ 16) (h2 : 0 ≤ u2 ∧ u2 ≤ 16) (h3 : 0 ≤ e1 ∧ e1 ≤ 384) (h4 : 0 ≤ e2 ∧ e2 ≤ 384) : (o1 * 17 + u1) * 385 + e1 < (o2 * 17 + u2) * 385 + e2 ↔ 100000 * o1 + 1000 * u1 + e1 < 100000 * o2 + 1000 * u2 + e2 := by
  rcases Int.lt_trichotomy o1 o2 with h | h | h
  · exact ⟨fun _ => by omega, fun _ => by omega⟩
  · subst h
    rcases Int.lt_trichotomy u1 u2 with h | h | h
    · exact ⟨fun _ => by omega, fun _ => by omega⟩
    · subst h; exact ⟨fun _ => by omega, fun _ => by omega⟩
    · exact ⟨fun _ => by omega, fun _ => by omega⟩
  · exact ⟨fun _ => by omega, fun _ => by omega⟩
theorem zBw_l {f g : Int → Int} (m0 : Nat) (h : ∀ i j : Int, 1 ≤ i → i ≤ m0 → 1 ≤ j → j ≤ m0 → (f i < f j ↔ g i < g j)) : ∀ m : Nat, m ≤ m0 → (m = 0 ∧ zBw f m = (-1, 0) ∧ zBw g m = (-1, 0)) ∨ ∃ i : Int, (1 ≤ i ∧ i ≤ m) ∧ zBw f m = (i, f i) ∧ zBw g m = (i, g i)
  | 0, _ => Or.inl ⟨rfl, rfl, rfl⟩
  | m + 1, hm => by
    right
    rcases zBw_l m0 h m (by omega) with ⟨e0, e1, e2⟩ | ⟨i, i1, e1, e2⟩
    · refine ⟨(m : Int) + 1, by omega, ?_, ?_⟩
      · rw [zBw, e1, if_pos (Or.inl rfl)]
      · rw [zBw, e2, if_pos (Or.inl rfl)]
    · have hh := h ((m : Int) + 1) i (by omega) (by omega) i1.1 (by omega)
      by_cases q : f ((m : Int) + 1) < f i
      · refine ⟨(m : Int) + 1, by omega, ?_, ?_⟩
        · rw [zBw, e1, if_pos (Or.inr q)]
        · rw [zBw, e2, if_pos (Or.inr (hh.mp q))]
      · refine ⟨i, by omega, ?_, ?_⟩
        · rw [zBw, e1, if_neg]
          rintro (a | a)
          · dsimp only at a; omega
          · exact q a
        · rw [zBw, e2, if_neg]
          rintro (a | a)
          · dsimp only at a; omega
          · exact q (hh.mpr a)
theorem zq_emp {n sg : Int} {K W T : Int → Int} (hok : zOk n sg K W T) : 0 ≤ zEmp (zFin sg K W T n) ∧ zEmp (zFin sg K W T n) ≤ 384 := by
  have h := zq_fi hok
  unfold zEmp; omega
theorem zBw_m {n sg p : Int} {K W T : Int → Int} (hok : zOk n sg K W T) : (zBw (fun w => zCosM n sg K (zU W p w) T) 6).1 = (zBw (fun w => zCost n sg K (zU W p w) T) 6).1 := by
  have h := zBw_l (f := fun w => zCost n sg K (zU W p w) T) (g := fun w => zCosM n sg K (zU W p w) T) 6 (fun i j i1 i2 j1 j2 => by
    have oi := zOk_w (p := p) hok (w := i) (by omega)
    have oj := zOk_w (p := p) hok (w := j) (by omega)
    exact zLex (zFin_m oi).1 (zFin_m oj).1 (zq_emp oi) (zq_emp oj)) 6 (Nat.le_refl 6)
  rcases h with ⟨e, -⟩ | ⟨i, -, e1, e2⟩
  · exact absurd e (by omega)
  · rw [e1, e2]
