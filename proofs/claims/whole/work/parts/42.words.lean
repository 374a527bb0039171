/-- the reference's row of numbers tells this story -/
def zRel (n sg : Int) (K W T Z : Int → Int) : Prop := Z 1 = n ∧ Z 0 = sg ∧ ∀ x, 0 ≤ x → x < n → zKz Z x = K x ∧ zWz Z x = W x ∧ zTz Z x = T x
theorem zRel_ok {n sg : Int} {K W T Z : Int → Int} (h : zRel n sg K W T Z) (hok : zOk n sg K W T) : zOk (Z 1) (Z 0) (zKz Z) (zWz Z) (zTz Z) := by
  obtain ⟨rfl, rfl, h⟩ := h
  exact zOk_c (fun x h1 h2 => ⟨(h x h1 h2).1.symm, (h x h1 h2).2.1.symm, (h x h1 h2).2.2.symm⟩) hok
theorem zq_c {n sg : Int} {K W T : Int → Int} (hok : zOk n sg K W T) : ∀ x, 0 ≤ (zFin sg K W T n).2.2.2.2.1 x ∧ (zFin sg K W T n).2.2.2.2.1 x ≤ 1000 := fun x => by
  have hn := hok.1
  have := (zSeq_b hok n.toNat (by omega)).2.2.2.1 x
  unfold zFin; omega
theorem zq_b {n sg : Int} {K W T : Int → Int} (hok : zOk n sg K W T) : ∀ x, 0 ≤ (zFin sg K W T n).2.2.2.2.2.1 x ∧ (zFin sg K W T n).2.2.2.2.2.1 x ≤ 10000 := fun x => by
  have hn := hok.1
  have := (zSeq_b hok n.toNat (by omega)).2.2.2.2 x
  unfold zFin; omega
theorem zq_P {n sg : Int} {K W T P R U : Int → Int} (hok : zOk n sg K W T) (h : ∀ i : Nat, (i : Int) < n → P i = (zPos sg K W T i).1 ∧ R i = (zPos sg K W T i).2.1 ∧ U i = (zPos sg K W T i).2.2) : ∀ x, 0 ≤ x → x < n → (-1 ≤ P x ∧ P x ≤ 100) ∧ (-1 ≤ R x ∧ R x ≤ 100) ∧ (-1 ≤ U x ∧ U x ≤ 100) := fun x x1 x2 => by
  obtain ⟨i, rfl⟩ := Int.eq_ofNat_of_zero_le x1
  obtain ⟨e1, e2, e3⟩ := h i x2
  rw [e1, e2, e3]
  unfold zPos
  by_cases hs : (zSeq sg K W T (i + 1)).1 = true
  · rw [if_pos hs]
    obtain ⟨s1, s2, s3⟩ := zSeq_s hs
    obtain ⟨l1, l2, l3, -, -⟩ := zSeq_b hok i (by omega)
    obtain ⟨k1, k2, k3⟩ := hok.2.2 i (by omega) (by omega)
    by_cases hk : K i < 2
    · have r := (zPlc_r hk k2 l1 l2 l3 s2).2
      unfold zPlL
      omega
    · have r := zPlc_w hk l1 s2
      unfold zPlL
      rw [r.1]
      dsimp only
      omega
  · rw [if_neg hs]; dsimp only; omega
theorem zMi_mono {l : Launch} {y : MethodName} {wy : List Cond} {rm : Room} {D : va_G} {tys : List (ClassId × FieldType)} {av : List Value} {wc : va_W} {p1 p2 : Int32 → va_W → Prop} {mc ms : Nat} (h : ∀ r w, p1 r w → p2 r w) (hm : zMi l y wy rm D tys av wc p1 mc ms) : zMi l y wy rm D tys av wc p2 mc ms := by
  intro sz
  intro p e ha hc hk s m args below hf happ hP hK
  obtain ⟨n, o, h1, h2, h3, ⟨⟨r, u, g1, g2, g3⟩, g4⟩, h5⟩ := hm sz p e ha hc hk s m args below hf happ hP hK
  exact ⟨n, o, h1, h2, h3, ⟨⟨r, u, g1, h _ _ g2, g3⟩, g4⟩, h5⟩

set_option maxRecDepth 100000 in
set_option maxHeartbeats 4000000 in
theorem c_X5_pour2 (l : Launch) (D : va_G) (cI cS cJ : ClassId) (q5 : Nat) (m0 : Nat) (m1 : Nat) (m2 : Nat) (m3 : Nat) (m4 : Nat) (m5 : Nat) (m6 : Nat) (m7 : Nat) (m8 : Nat) (m9 : Nat) (th : Int) (sm : Int) (ty : Int) (pg : Int) (rw : Int) (un : Int) (pm : Int) (sp : Int) (wr : Int) (ha : Int64) (Z1 : Int → Int) (P1 : Int → Int) (R1 : Int → Int) (U1 : Int → Int) (G1 : Int → Int) (b1 : Int → Int) (c1 : Int → Int) (n1 : Int) (sg : Int) (K1 : Int → Int) (W1 : Int → Int) (T1 : Int → Int) (hst : zOk n1 sg K1 W1 T1) (hz : zRel n1 sg K1 W1 T1 Z1) : zMv l yX5_pour wsX5_pour rm_X5_pour D (zTy cI cS cJ) [.ref q5] [(q5, .inr (5, [.int (zI th), .ref m0, .ref m1, .int (zI sm), .ref m2, .int (zI ty), .ref m3, .ref m4, .ref m5, .ref m6, .ref m7, .ref m8, .int (zI pg), .int (zI rw), .int (zI un), .ref m9, .int (zI pm), .int (zI sp), .int (zI wr), .long ha])), (m0, .inl (cI, 74, .inl (zA Z1))), (m3, .inl (cI, 24, .inl (zA P1))), (m4, .inl (cI, 24, .inl (zA R1))), (m5, .inl (cI, 24, .inl (zA U1))), (m6, .inl (cI, 384, .inl (zA G1))), (m7, .inl (cI, 16, .inl (zA b1))), (m8, .inl (cI, 16, .inl (zA c1)))] (fun w => ∃ (pg2 : Int), ∃ (rw2 : Int), ∃ (un2 : Int), ∃ (P2 : Int → Int), ∃ (R2 : Int → Int), ∃ (U2 : Int → Int), (∀ i : Nat, (i : Int) < n1 → P2 i = (zPos sg K1 W1 T1 i).1 ∧ R2 i = (zPos sg K1 W1 T1 i).2.1 ∧ U2 i = (zPos sg K1 W1 T1 i).2.2) ∧ w = [(q5, .inr (5, [.int (zI th), .ref m0, .ref m1, .int (zI sm), .ref m2, .int (zI ty), .ref m3, .ref m4, .ref m5, .ref m6, .ref m7, .ref m8, .int (zI pg2), .int (zI rw2), .int (zI un2), .ref m9, .int (zI pm), .int (zI sp), .int (zI wr), .long ha])), (m0, .inl (cI, 74, .inl (zA Z1))), (m3, .inl (cI, 24, .inl (zA P2))), (m4, .inl (cI, 24, .inl (zA R2))), (m5, .inl (cI, 24, .inl (zA U2))), (m6, .inl (cI, 384, .inl (zA (zGrid sg K1 W1 T1 n1.toNat)))), (m7, .inl (cI, 16, .inl (zA ((zFin sg K1 W1 T1 n1).2.2.2.2.2.1)))), (m8, .inl (cI, 16, .inl (zA ((zFin sg K1 W1 T1 n1).2.2.2.2.1))))]) 0 0 := by
  have h0 := c_X5_pour l D cI cS cJ q5 m0 m1 m2 m3 m4 m5 m6 m7 m8 m9 th sm ty pg rw un pm sp wr ha Z1 P1 R1 U1 G1 b1 c1 (zRel_ok hz hst)
  obtain ⟨rfl, rfl, hk⟩ := hz
  have hn := hst.1
  refine zMv_mono (fun w hw => ?_) h0
  obtain ⟨pg2, rw2, un2, P2, R2, U2, hf, hw⟩ := hw
  refine ⟨pg2, rw2, un2, P2, R2, U2, fun i hi => ?_, ?_⟩
  · rw [← zPos_c (fun x h1 h2 => hk x h1 (by omega))]; exact hf i hi
  · rw [hw, zFin_c hk, zGrid_c _ (fun x h1 h2 => hk x h1 (by omega))]

set_option maxRecDepth 100000 in
set_option maxHeartbeats 4000000 in
theorem c_X5_used2 (l : Launch) (D : va_G) (cI cS cJ : ClassId) (q5 : Nat) (m0 : Nat) (m1 : Nat) (m2 : Nat) (m3 : Nat) (m4 : Nat) (m5 : Nat) (m6 : Nat) (m7 : Nat) (m8 : Nat) (m9 : Nat) (th : Int) (sm : Int) (ty : Int) (pg : Int) (rw : Int) (un : Int) (pm : Int) (sp : Int) (wr : Int) (ha : Int64) (n1 : Int) (sg : Int) (K1 : Int → Int) (W1 : Int → Int) (T1 : Int → Int) (hst : zOk n1 sg K1 W1 T1) : zMi l yX5_used wsX5_used rm_X5_used D (zTy cI cS cJ) [.ref q5] [(q5, .inr (5, [.int (zI th), .ref m0, .ref m1, .int (zI sm), .ref m2, .int (zI ty), .ref m3, .ref m4, .ref m5, .ref m6, .ref m7, .ref m8, .int (zI pg), .int (zI rw), .int (zI un), .ref m9, .int (zI pm), .int (zI sp), .int (zI wr), .long ha])), (m8, .inl (cI, 16, .inl (zA ((zFin sg K1 W1 T1 n1).2.2.2.2.1))))] (fun r w => r = zI (zUsed (zFin sg K1 W1 T1 n1)) ∧ w = [(q5, .inr (5, [.int (zI th), .ref m0, .ref m1, .int (zI sm), .ref m2, .int (zI ty), .ref m3, .ref m4, .ref m5, .ref m6, .ref m7, .ref m8, .int (zI pg), .int (zI rw), .int (zI un), .ref m9, .int (zI pm), .int (zI sp), .int (zI wr), .long ha])), (m8, .inl (cI, 16, .inl (zA ((zFin sg K1 W1 T1 n1).2.2.2.2.1))))]) 0 0 := by
  have h0 := c_X5_used l D cI cS cJ q5 m0 m1 m2 m3 m4 m5 m6 m7 m8 m9 th sm ty pg rw un pm sp wr ha ((zFin sg K1 W1 T1 n1).2.2.2.2.1) (zq_c hst)
  rw [zq_us hst] at h0
  exact h0

set_option maxRecDepth 100000 in
set_option maxHeartbeats 4000000 in
theorem c_X5_leftOut2 (l : Launch) (D : va_G) (cI cS cJ : ClassId) (q5 : Nat) (m0 : Nat) (m1 : Nat) (m2 : Nat) (m3 : Nat) (m4 : Nat) (m5 : Nat) (m6 : Nat) (m7 : Nat) (m8 : Nat) (m9 : Nat) (th : Int) (sm : Int) (ty : Int) (pg : Int) (rw : Int) (un : Int) (pm : Int) (sp : Int) (wr : Int) (ha : Int64) (Z1 : Int → Int) (P1 : Int → Int) (R1 : Int → Int) (U1 : Int → Int) (n1 : Int) (sg : Int) (K1 : Int → Int) (W1 : Int → Int) (T1 : Int → Int) (hst : zOk n1 sg K1 W1 T1) (hz : zRel n1 sg K1 W1 T1 Z1) (hP : ∀ i : Nat, (i : Int) < n1 → P1 i = (zPos sg K1 W1 T1 i).1 ∧ R1 i = (zPos sg K1 W1 T1 i).2.1 ∧ U1 i = (zPos sg K1 W1 T1 i).2.2) : zMi l yX5_leftOut wsX5_leftOut rm_X5_leftOut D (zTy cI cS cJ) [.ref q5] [(q5, .inr (5, [.int (zI th), .ref m0, .ref m1, .int (zI sm), .ref m2, .int (zI ty), .ref m3, .ref m4, .ref m5, .ref m6, .ref m7, .ref m8, .int (zI pg), .int (zI rw), .int (zI un), .ref m9, .int (zI pm), .int (zI sp), .int (zI wr), .long ha])), (m0, .inl (cI, 74, .inl (zA Z1))), (m3, .inl (cI, 24, .inl (zA P1)))] (fun r w => r = zI (zOut n1 sg K1 W1 T1) ∧ w = [(q5, .inr (5, [.int (zI th), .ref m0, .ref m1, .int (zI sm), .ref m2, .int (zI ty), .ref m3, .ref m4, .ref m5, .ref m6, .ref m7, .ref m8, .int (zI pg), .int (zI rw), .int (zI un), .ref m9, .int (zI pm), .int (zI sp), .int (zI wr), .long ha])), (m0, .inl (cI, 74, .inl (zA Z1))), (m3, .inl (cI, 24, .inl (zA P1)))]) 0 0 := by
  have h0 := c_X5_leftOut l D cI cS cJ q5 m0 m1 m2 m3 m4 m5 m6 m7 m8 m9 th sm ty pg rw un pm sp wr ha Z1 P1 (by rw [hz.1]; exact hst.1) (fun x h1 h2 => (zq_P hst hP x h1 (by rw [← hz.1]; exact h2)).1)
  rw [hz.1, zq_lo hst (fun i hi => (hP i hi).1)] at h0
  exact h0

set_option maxRecDepth 100000 in
set_option maxHeartbeats 4000000 in
theorem c_X5_emptyUnits2 (l : Launch) (D : va_G) (cI cS cJ : ClassId) (q5 : Nat) (m0 : Nat) (m1 : Nat) (m2 : Nat) (m3 : Nat) (m4 : Nat) (m5 : Nat) (m6 : Nat) (m7 : Nat) (m8 : Nat) (m9 : Nat) (th : Int) (sm : Int) (ty : Int) (pg : Int) (rw : Int) (un : Int) (pm : Int) (sp : Int) (wr : Int) (ha : Int64) (n1 : Int) (sg : Int) (K1 : Int → Int) (W1 : Int → Int) (T1 : Int → Int) (hst : zOk n1 sg K1 W1 T1) : zMi l yX5_emptyUnits wsX5_emptyUnits rm_X5_emptyUnits D (zTy cI cS cJ) [.ref q5] [(q5, .inr (5, [.int (zI th), .ref m0, .ref m1, .int (zI sm), .ref m2, .int (zI ty), .ref m3, .ref m4, .ref m5, .ref m6, .ref m7, .ref m8, .int (zI pg), .int (zI rw), .int (zI un), .ref m9, .int (zI pm), .int (zI sp), .int (zI wr), .long ha])), (m6, .inl (cI, 384, .inl (zA (zGrid sg K1 W1 T1 n1.toNat)))), (m8, .inl (cI, 16, .inl (zA ((zFin sg K1 W1 T1 n1).2.2.2.2.1))))] (fun r w => r = zI (zEmp (zFin sg K1 W1 T1 n1)) ∧ w = [(q5, .inr (5, [.int (zI th), .ref m0, .ref m1, .int (zI sm), .ref m2, .int (zI ty), .ref m3, .ref m4, .ref m5, .ref m6, .ref m7, .ref m8, .int (zI pg), .int (zI rw), .int (zI un), .ref m9, .int (zI pm), .int (zI sp), .int (zI wr), .long ha])), (m6, .inl (cI, 384, .inl (zA (zGrid sg K1 W1 T1 n1.toNat)))), (m8, .inl (cI, 16, .inl (zA ((zFin sg K1 W1 T1 n1).2.2.2.2.1))))]) 0 0 := by
  refine zMi_mono (fun r w hw => ?_) (c_X5_emptyUnits l D cI cS cJ q5 m0 m1 m2 m3 m4 m5 m6 m7 m8 m9 th sm ty pg rw un pm sp wr ha (zGrid sg K1 W1 T1 n1.toNat) ((zFin sg K1 W1 T1 n1).2.2.2.2.1) (fun x h1 h2 => by have := zq_G hst ⟨h1, h2⟩; have := hst.1; omega) (zq_c hst))
  obtain ⟨r1, h1, h2, rfl, hw⟩ := hw
  rw [zq_eu hst] at h1
  subst h1
  exact ⟨rfl, hw⟩

set_option maxRecDepth 100000 in
set_option maxHeartbeats 4000000 in
theorem c_X5_pagesSet2 (l : Launch) (D : va_G) (cI cS cJ : ClassId) (q5 : Nat) (m0 : Nat) (m1 : Nat) (m2 : Nat) (m3 : Nat) (m4 : Nat) (m5 : Nat) (m6 : Nat) (m7 : Nat) (m8 : Nat) (m9 : Nat) (th : Int) (sm : Int) (ty : Int) (pg : Int) (rw : Int) (un : Int) (pm : Int) (sp : Int) (wr : Int) (ha : Int64) (n1 : Int) (sg : Int) (K1 : Int → Int) (W1 : Int → Int) (T1 : Int → Int) (hst : zOk n1 sg K1 W1 T1) : zMi l yX5_pagesSet wsX5_pagesSet rm_X5_pagesSet D (zTy cI cS cJ) [.ref q5] [(q5, .inr (5, [.int (zI th), .ref m0, .ref m1, .int (zI sm), .ref m2, .int (zI ty), .ref m3, .ref m4, .ref m5, .ref m6, .ref m7, .ref m8, .int (zI pg), .int (zI rw), .int (zI un), .ref m9, .int (zI pm), .int (zI sp), .int (zI wr), .long ha])), (m8, .inl (cI, 16, .inl (zA ((zFin sg K1 W1 T1 n1).2.2.2.2.1))))] (fun r w => r = zI ((zFin sg K1 W1 T1 n1).2.2.2.2.2.2.2.2.2.1) ∧ w = [(q5, .inr (5, [.int (zI th), .ref m0, .ref m1, .int (zI sm), .ref m2, .int (zI ty), .ref m3, .ref m4, .ref m5, .ref m6, .ref m7, .ref m8, .int (zI pg), .int (zI rw), .int (zI un), .ref m9, .int (zI pm), .int (zI sp), .int (zI wr), .long ha])), (m8, .inl (cI, 16, .inl (zA ((zFin sg K1 W1 T1 n1).2.2.2.2.1))))]) 0 0 := by
  refine zMi_mono (fun r w hw => ?_) (c_X5_pagesSet l D cI cS cJ q5 m0 m1 m2 m3 m4 m5 m6 m7 m8 m9 th sm ty pg rw un pm sp wr ha ((zFin sg K1 W1 T1 n1).2.2.2.2.1) (zq_c hst))
  obtain ⟨r1, h1, h2, rfl, hw⟩ := hw
  rw [zq_ps hst] at h1
  subst h1
  exact ⟨rfl, hw⟩

def zNp (sg : Int) (K1 W1 T1 : Int → Int) (i x : Int) : Int := zPgF x (K1 i) (W1 i) (T1 i) (zPos sg K1 W1 T1 i.toNat).1 (zPos sg K1 W1 T1 i.toNat).2.1 (zPos sg K1 W1 T1 i.toNat).2.2
def zNg (n1 sg : Int) (K1 W1 T1 : Int → Int) (p x : Int) : Int := zPgN (zFin sg K1 W1 T1 n1).2.2.2.2.1 (zFin sg K1 W1 T1 n1).2.2.2.2.2.1 (zFin sg K1 W1 T1 n1).2.2.2.2.2.2.1 (zFin sg K1 W1 T1 n1).2.2.2.2.2.2.2.1 (zFin sg K1 W1 T1 n1).2.2.2.1 (zUsed (zFin sg K1 W1 T1 n1)) p x
def zNc (n1 sg : Int) (K1 W1 T1 : Int → Int) (hs x : Int) : Int := zCtF x n1 (zUsed (zFin sg K1 W1 T1 n1)) (zFin sg K1 W1 T1 n1).2.2.2.2.2.2.2.2.2.1 (zOut n1 sg K1 W1 T1) (zMx (zFin sg K1 W1 T1 n1).2.2.2.2.2.1 16) (zEmp (zFin sg K1 W1 T1 n1)) (zGd (zFin sg K1 W1 T1 n1).2.2.2.2.2.1 8) sg hs

set_option maxRecDepth 100000 in
set_option maxHeartbeats 4000000 in
theorem c_X5_toldPanel2 (l : Launch) (D : va_G) (cI cS cJ : ClassId) (q5 : Nat) (m0 : Nat) (m1 : Nat) (m2 : Nat) (m3 : Nat) (m4 : Nat) (m5 : Nat) (m6 : Nat) (m7 : Nat) (m8 : Nat) (m9 : Nat) (th : Int) (sm : Int) (ty : Int) (pg : Int) (rw : Int) (un : Int) (pm : Int) (sp : Int) (wr : Int) (ha : Int64) (Z1 : Int → Int) (P1 : Int → Int) (R1 : Int → Int) (U1 : Int → Int) (n1 : Int) (sg : Int) (K1 : Int → Int) (W1 : Int → Int) (T1 : Int → Int) (i1 : Int) (x1 : Int) (hst : zOk n1 sg K1 W1 T1) (hz : zRel n1 sg K1 W1 T1 Z1) (hP : ∀ i : Nat, (i : Int) < n1 → P1 i = (zPos sg K1 W1 T1 i).1 ∧ R1 i = (zPos sg K1 W1 T1 i).2.1 ∧ U1 i = (zPos sg K1 W1 T1 i).2.2) (hi : 0 ≤ i1 ∧ i1 < n1) (hx : 0 ≤ x1 ∧ x1 ≤ 5) : zMi l yX5_toldPanel wsX5_toldPanel rm_X5_toldPanel D (zTy cI cS cJ) [.ref q5, .int (zI i1), .int (zI x1)] [(q5, .inr (5, [.int (zI th), .ref m0, .ref m1, .int (zI sm), .ref m2, .int (zI ty), .ref m3, .ref m4, .ref m5, .ref m6, .ref m7, .ref m8, .int (zI pg), .int (zI rw), .int (zI un), .ref m9, .int (zI pm), .int (zI sp), .int (zI wr), .long ha])), (m0, .inl (cI, 74, .inl (zA Z1))), (m3, .inl (cI, 24, .inl (zA P1))), (m4, .inl (cI, 24, .inl (zA R1))), (m5, .inl (cI, 24, .inl (zA U1)))] (fun r w => r = zI (zNp sg K1 W1 T1 i1 x1) ∧ w = [(q5, .inr (5, [.int (zI th), .ref m0, .ref m1, .int (zI sm), .ref m2, .int (zI ty), .ref m3, .ref m4, .ref m5, .ref m6, .ref m7, .ref m8, .int (zI pg), .int (zI rw), .int (zI un), .ref m9, .int (zI pm), .int (zI sp), .int (zI wr), .long ha])), (m0, .inl (cI, 74, .inl (zA Z1))), (m3, .inl (cI, 24, .inl (zA P1))), (m4, .inl (cI, 24, .inl (zA R1))), (m5, .inl (cI, 24, .inl (zA U1)))]) 0 0 := by
  have hn := hst.1
  have h0 := c_X5_toldPanel l D cI cS cJ q5 m0 m1 m2 m3 m4 m5 m6 m7 m8 m9 th sm ty pg rw un pm sp wr ha Z1 P1 R1 U1 i1 x1 (by omega) hx
  obtain ⟨i, rfl⟩ := Int.eq_ofNat_of_zero_le hi.1
  obtain ⟨e1, e2, e3⟩ := hP i hi.2
  obtain ⟨k1, k2, k3⟩ := hz.2.2 i hi.1 hi.2
  rw [e1, e2, e3, show Z1 (2 + 3 * (i : Int) + 0) = K1 i from k1, show Z1 (2 + 3 * (i : Int) + 1) = W1 i from k2, show Z1 (2 + 3 * (i : Int) + 2) = T1 i from k3] at h0
  exact h0

theorem zBo_k {K K' P : Int → Int} {p : Int} : ∀ k : Nat, (∀ i : Nat, i < k → K i = K' i) → zBo K P p k = zBo K' P p k
  | 0, _ => rfl
  | k + 1, h => by rw [zBo, zBo, zBo_k k (fun i hi => h i (by omega)), h k (by omega)]

set_option maxRecDepth 100000 in
set_option maxHeartbeats 4000000 in
theorem c_X5_toldPage2 (l : Launch) (D : va_G) (cI cS cJ : ClassId) (q5 : Nat) (m0 : Nat) (m1 : Nat) (m2 : Nat) (m3 : Nat) (m4 : Nat) (m5 : Nat) (m6 : Nat) (m7 : Nat) (m8 : Nat) (m9 : Nat) (th : Int) (sm : Int) (ty : Int) (pg : Int) (rw : Int) (un : Int) (pm : Int) (sp : Int) (wr : Int) (ha : Int64) (Z1 : Int → Int) (P1 : Int → Int) (R1 : Int → Int) (U1 : Int → Int) (n1 : Int) (sg : Int) (K1 : Int → Int) (W1 : Int → Int) (T1 : Int → Int) (p1 : Int) (x1 : Int) (hst : zOk n1 sg K1 W1 T1) (hz : zRel n1 sg K1 W1 T1 Z1) (hP : ∀ i : Nat, (i : Int) < n1 → P1 i = (zPos sg K1 W1 T1 i).1 ∧ R1 i = (zPos sg K1 W1 T1 i).2.1 ∧ U1 i = (zPos sg K1 W1 T1 i).2.2) (hp : 0 ≤ p1 ∧ p1 < 16) (hx : 0 ≤ x1 ∧ x1 ≤ 5) : zMi l yX5_toldPage wsX5_toldPage rm_X5_toldPage D (zTy cI cS cJ) [.ref q5, .int (zI p1), .int (zI x1)] [(q5, .inr (5, [.int (zI th), .ref m0, .ref m1, .int (zI sm), .ref m2, .int (zI ty), .ref m3, .ref m4, .ref m5, .ref m6, .ref m7, .ref m8, .int (zI pg), .int (zI rw), .int (zI un), .ref m9, .int (zI pm), .int (zI sp), .int (zI wr), .long ha])), (m0, .inl (cI, 74, .inl (zA Z1))), (m3, .inl (cI, 24, .inl (zA P1))), (m6, .inl (cI, 384, .inl (zA (zGrid sg K1 W1 T1 n1.toNat)))), (m7, .inl (cI, 16, .inl (zA ((zFin sg K1 W1 T1 n1).2.2.2.2.2.1)))), (m8, .inl (cI, 16, .inl (zA ((zFin sg K1 W1 T1 n1).2.2.2.2.1))))] (fun r w => r = zI (zNg n1 sg K1 W1 T1 p1 x1) ∧ w = [(q5, .inr (5, [.int (zI th), .ref m0, .ref m1, .int (zI sm), .ref m2, .int (zI ty), .ref m3, .ref m4, .ref m5, .ref m6, .ref m7, .ref m8, .int (zI pg), .int (zI rw), .int (zI un), .ref m9, .int (zI pm), .int (zI sp), .int (zI wr), .long ha])), (m0, .inl (cI, 74, .inl (zA Z1))), (m3, .inl (cI, 24, .inl (zA P1))), (m6, .inl (cI, 384, .inl (zA (zGrid sg K1 W1 T1 n1.toNat)))), (m7, .inl (cI, 16, .inl (zA ((zFin sg K1 W1 T1 n1).2.2.2.2.2.1)))), (m8, .inl (cI, 16, .inl (zA ((zFin sg K1 W1 T1 n1).2.2.2.2.1))))]) 0 0 := by
  refine zMi_mono (fun r w hw => ?_) (c_X5_toldPage l D cI cS cJ q5 m0 m1 m2 m3 m4 m5 m6 m7 m8 m9 th sm ty pg rw un pm sp wr ha Z1 P1 (zGrid sg K1 W1 T1 n1.toNat) ((zFin sg K1 W1 T1 n1).2.2.2.2.2.1) ((zFin sg K1 W1 T1 n1).2.2.2.2.1) p1 x1 (zRel_ok hz hst) (fun x h1 h2 => by rw [hz.1]; exact zq_G hst ⟨h1, h2⟩) (fun x h1 h2 => (zq_P hst hP x h1 (by rw [← hz.1]; exact h2)).1) (zq_c hst) (zq_b hst) (by rw [zq_us hst]; exact (zFin_m hst).1) hp hx)
  obtain ⟨v2, v4, f1, f2, rfl, hw⟩ := hw
  refine ⟨?_, hw⟩
  have hn := hst.1
  have ek : ∀ x, 0 ≤ x → x < n1 → zKz Z1 x = K1 x := fun x h1 h2 => (hz.2.2 x h1 h2).1
  have hG := zq_G (x := 24 * p1) hst (by omega)
  have hcp := zq_c hst p1
  have e2 : v2 = 24 - (zFin sg K1 W1 T1 n1).2.2.2.2.2.2.1 p1 := by
    rcases f1 with ⟨g1, g2⟩ | ⟨-, g2⟩
    · rw [g2]
      refine (zq_wh hst hp ⟨g1.1, ?_⟩).symm
      rw [← ek _ (by have := g1.1; omega) hG.2]; exact g1.2
    · rw [g2, zq_em hst hp]
  have e4 : v4 = if ¬ 0 < (zFin sg K1 W1 T1 n1).2.2.2.2.1 p1 ∧ p1 < zUsed (zFin sg K1 W1 T1 n1) then 1 else 0 := by
    rw [zq_us hst] at f2
    rcases f2 with ⟨g1, g2, g3⟩ | ⟨g1, g2⟩
    · rw [g3, if_pos ⟨by omega, g2⟩]
    · rw [g2, if_neg (fun hh => g1 ⟨by omega, hh.2⟩)]
  have e5 : zBo (zKz Z1) P1 p1 (Z1 1).toNat = (zFin sg K1 W1 T1 n1).2.2.2.1 p1 := by
    rw [hz.1, zBo_k n1.toNat (fun x h1 => ek x (by omega) (by omega))]
    exact zq_bo hst (fun i hi => (hP i hi).1) hp
  rw [e2, e4, e5, zq_fo hst hp]
  rfl

set_option maxRecDepth 100000 in
set_option maxHeartbeats 4000000 in
theorem c_X5_counted2 (l : Launch) (D : va_G) (cI cS cJ : ClassId) (q5 : Nat) (m0 : Nat) (m1 : Nat) (m2 : Nat) (m3 : Nat) (m4 : Nat) (m5 : Nat) (m6 : Nat) (m7 : Nat) (m8 : Nat) (m9 : Nat) (th : Int) (sm : Int) (ty : Int) (pg : Int) (rw : Int) (un : Int) (pm : Int) (sp : Int) (wr : Int) (ha : Int64) (Z1 : Int → Int) (P1 : Int → Int) (R1 : Int → Int) (U1 : Int → Int) (n1 : Int) (sg : Int) (K1 : Int → Int) (W1 : Int → Int) (T1 : Int → Int) (x1 : Int) (hst : zOk n1 sg K1 W1 T1) (hz : zRel n1 sg K1 W1 T1 Z1) (hP : ∀ i : Nat, (i : Int) < n1 → P1 i = (zPos sg K1 W1 T1 i).1 ∧ R1 i = (zPos sg K1 W1 T1 i).2.1 ∧ U1 i = (zPos sg K1 W1 T1 i).2.2) (hx : 0 ≤ x1 ∧ x1 ≤ 8) : zMi l yX5_counted wsX5_counted rm_X5_counted D (zTy cI cS cJ) [.ref q5, .int (zI x1)] [(q5, .inr (5, [.int (zI th), .ref m0, .ref m1, .int (zI sm), .ref m2, .int (zI ty), .ref m3, .ref m4, .ref m5, .ref m6, .ref m7, .ref m8, .int (zI pg), .int (zI rw), .int (zI un), .ref m9, .int (zI pm), .int (zI sp), .int (zI wr), .long ha])), (m0, .inl (cI, 74, .inl (zA Z1))), (m3, .inl (cI, 24, .inl (zA P1))), (m6, .inl (cI, 384, .inl (zA (zGrid sg K1 W1 T1 n1.toNat)))), (m7, .inl (cI, 16, .inl (zA ((zFin sg K1 W1 T1 n1).2.2.2.2.2.1)))), (m8, .inl (cI, 16, .inl (zA ((zFin sg K1 W1 T1 n1).2.2.2.2.1))))] (fun r w => r = zI (zNc n1 sg K1 W1 T1 sm x1) ∧ w = [(q5, .inr (5, [.int (zI th), .ref m0, .ref m1, .int (zI sm), .ref m2, .int (zI ty), .ref m3, .ref m4, .ref m5, .ref m6, .ref m7, .ref m8, .int (zI pg), .int (zI rw), .int (zI un), .ref m9, .int (zI pm), .int (zI sp), .int (zI wr), .long ha])), (m0, .inl (cI, 74, .inl (zA Z1))), (m3, .inl (cI, 24, .inl (zA P1))), (m6, .inl (cI, 384, .inl (zA (zGrid sg K1 W1 T1 n1.toNat)))), (m7, .inl (cI, 16, .inl (zA ((zFin sg K1 W1 T1 n1).2.2.2.2.2.1)))), (m8, .inl (cI, 16, .inl (zA ((zFin sg K1 W1 T1 n1).2.2.2.2.1))))]) 0 0 := by
  have h0 := c_X5_counted l D cI cS cJ q5 m0 m1 m2 m3 m4 m5 m6 m7 m8 m9 th sm ty pg rw un pm sp wr ha Z1 P1 (zGrid sg K1 W1 T1 n1.toNat) ((zFin sg K1 W1 T1 n1).2.2.2.2.2.1) ((zFin sg K1 W1 T1 n1).2.2.2.2.1) x1 (zRel_ok hz hst) (fun x h1 h2 => by rw [hz.1]; exact zq_G hst ⟨h1, h2⟩) (fun x h1 h2 => (zq_P hst hP x h1 (by rw [← hz.1]; exact h2)).1) (zq_c hst) (zq_b hst) (by rw [zq_us hst]; exact (zFin_m hst).1) hx
  rw [hz.1, hz.2.1, zq_lo hst (fun i hi => (hP i hi).1), zq_eu hst, zq_us hst, zq_ps hst, zq_un hst] at h0
  exact h0
