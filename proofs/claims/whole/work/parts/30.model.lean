/-! ===== the reference: its story, its pouring ===== -/
abbrev zKz (Z : Int → Int) : Int → Int := fun j => Z (2 + 3 * j + 0)
abbrev zWz (Z : Int → Int) : Int → Int := fun j => Z (2 + 3 * j + 1)
abbrev zTz (Z : Int → Int) : Int → Int := fun j => Z (2 + 3 * j + 2)
def zMk (G : Int → Int) (a w v : Int) : Int → Int := fun x => if a ≤ x ∧ x < a + w then v else G x
/-- the grid behind a panel at p -/
def zGr (k w j : Int) (p : Int × Int × Int) (G : Int → Int) : Int → Int := if k < 2 then zMk G (24 * p.1 + (6 * p.2.1 + p.2.2)) w j else if k = 2 then zMk G (24 * p.1) 24 j else zMk (zMk G (24 * p.1) 24 j) (24 * (p.1 + 1)) 24 j
def zGrid (sg : Int) (K W T : Int → Int) : Nat → Int → Int
  | 0 => fun _ => -1
  | j + 1 => if (zSeq sg K W T (j + 1)).1 = true then zGr (K j) (W j) j (zPos sg K W T j) (zGrid sg K W T j) else zGrid sg K W T j
/-- the position, the pages' panels and beats behind a panel -/
def zNxC (sg k w t pg rw un : Int) (c b : Int → Int) : Int × Int × Int × (Int → Int) × (Int → Int) :=
  if k < 2 then ((zPlc sg k w t pg rw un c b).1, (zPlc sg k w t pg rw un c b).2.1, (zPlc sg k w t pg rw un c b).2.2 + w, zU c (zPlc sg k w t pg rw un c b).1 (c (zPlc sg k w t pg rw un c b).1 + 1), zU b (zPlc sg k w t pg rw un c b).1 (b (zPlc sg k w t pg rw un c b).1 + t))
  else if k - 1 = 2 then ((zPlc sg k w t pg rw un c b).1 + (k - 1), 0, 0, zU (zU c (zPlc sg k w t pg rw un c b).1 (c (zPlc sg k w t pg rw un c b).1 + 1)) ((zPlc sg k w t pg rw un c b).1 + 1) (zU c (zPlc sg k w t pg rw un c b).1 (c (zPlc sg k w t pg rw un c b).1 + 1) ((zPlc sg k w t pg rw un c b).1 + 1) + 1), zU b (zPlc sg k w t pg rw un c b).1 (b (zPlc sg k w t pg rw un c b).1 + t))
  else ((zPlc sg k w t pg rw un c b).1 + (k - 1), 0, 0, zU c (zPlc sg k w t pg rw un c b).1 (c (zPlc sg k w t pg rw un c b).1 + 1), zU b (zPlc sg k w t pg rw un c b).1 (b (zPlc sg k w t pg rw un c b).1 + t))
theorem zNext_C (sg k w t j : Int) (L : ZL) : ((zNext sg k w t j L).1, (zNext sg k w t j L).2.1, (zNext sg k w t j L).2.2.1, (zNext sg k w t j L).2.2.2.2.1, (zNext sg k w t j L).2.2.2.2.2.1) = zNxC sg k w t L.1 L.2.1 L.2.2.1 L.2.2.2.2.1 L.2.2.2.2.2.1 := by
  unfold zNext zNxC zPlL
  generalize zPlc sg k w t L.1 L.2.1 L.2.2.1 L.2.2.2.2.1 L.2.2.2.2.2.1 = P
  by_cases hk : k < 2
  · rw [if_pos hk, if_pos hk]
    rfl
  · rw [if_neg hk, if_neg hk]
    by_cases h2 : k - 1 = 2
    · rw [if_pos h2]
      unfold zWhole
      rw [if_pos h2]
      have hb : zU (zU L.2.2.2.2.2.1 P.1 (L.2.2.2.2.2.1 P.1 + t)) (P.1 + 1) (zU L.2.2.2.2.2.1 P.1 (L.2.2.2.2.2.1 P.1 + t) (P.1 + 1) + 0) = zU L.2.2.2.2.2.1 P.1 (L.2.2.2.2.2.1 P.1 + t) := by
        funext x
        rw [Int.add_zero]
        by_cases hx : x = P.1 + 1
        · rw [hx, zU_eq]
        · rw [zU_ne _ _ hx]
      show (P.1 + (k - 1), (0 : Int), (0 : Int), zU (zU L.2.2.2.2.1 P.1 (L.2.2.2.2.1 P.1 + 1)) (P.1 + 1) (zU L.2.2.2.2.1 P.1 (L.2.2.2.2.1 P.1 + 1) (P.1 + 1) + 1), zU (zU L.2.2.2.2.2.1 P.1 (L.2.2.2.2.2.1 P.1 + t)) (P.1 + 1) (zU L.2.2.2.2.2.1 P.1 (L.2.2.2.2.2.1 P.1 + t) (P.1 + 1) + 0)) = _
      rw [hb]
    · rw [if_neg h2]
      unfold zWhole
      rw [if_neg h2]
      rfl

abbrev rm_X5_in : Room := { frames := 0, cells := 0, slots := 0, locals := 0 }
set_option maxRecDepth 100000 in
set_option maxHeartbeats 4000000 in
theorem c_X5_in (l : Launch) (D : va_G) (cI cS cJ : ClassId) (v : Int) (lo : Int) (hi : Int) (hv : -2147483648 ≤ v ∧ v < 2147483648) (hlo : -2147483648 ≤ lo ∧ lo < 2147483648) (hhi : -2147483648 ≤ hi ∧ hi < 2147483648) : zMi l yX5_in wsX5_in rm_X5_in D (zTy cI cS cJ) [.int (zI v), .int (zI lo), .int (zI hi)] [] (fun r w => ∃ (r1 : Int), ((r1 = 1 ∧ lo ≤ v ∧ v ≤ hi) ∨ (r1 = 0 ∧ (v < lo ∨ hi < v))) ∧ r = zI r1 ∧ w = []) 0 0 := by
  intro sz
  refine zMet_of (Qc := fun A => va_Qi _ (zB D (zTy cI cS cJ) A) A) RX5 [(0, .int (zI v)), (1, .int (zI lo)), (2, .int (zI hi))] rfl (by decide +kernel) rfl (Nat.le_of_ble_eq_true rfl) rfl ?_ sz
  intro p e s m args below meth c A Q hQ C hr hini
  refine zj_iload_n 1 0 C dX5_in_0 rfl rfl rfl ?_
  refine zj_iload_n 2 1 C dX5_in_1 rfl rfl rfl ?_
  refine zj_icmp_lt 5 14 C (by omega) (by omega) dX5_in_2 rfl (by decide) (fun h_1 => ?_) (fun h_1 => ?_)
  · skip
    refine zj_iconst 15 C dX5_in_14 rfl ?_
    subst hQ
    exact zj_zret C (zI_bool (by omega)) hr ⟨0, (by omega), rfl, rfl⟩ (by decide) (by decide) dX5_in_15
  · skip
    refine zj_iload_n 6 0 C dX5_in_5 rfl rfl rfl ?_
    refine zj_iload_n 7 2 C dX5_in_6 rfl rfl rfl ?_
    refine zj_icmp_gt 10 14 C (by omega) (by omega) dX5_in_7 rfl (by decide) (fun h_2 => ?_) (fun h_2 => ?_)
    · skip
      refine zj_iconst 15 C dX5_in_14 rfl ?_
      subst hQ
      exact zj_zret C (zI_bool (by omega)) hr ⟨0, (by omega), rfl, rfl⟩ (by decide) (by decide) dX5_in_15
    · skip
      refine zj_iconst 11 C dX5_in_10 rfl ?_
      refine zj_goto 15 C dX5_in_11 (by decide) ?_
      subst hQ
      exact zj_zret C (zI_bool (by omega)) hr ⟨1, (by omega), rfl, rfl⟩ (by decide) (by decide) dX5_in_15

theorem fl_X5_of_7 : Cond.fieldLink RX5 7 "SplashPagesModel" "z" "[I" ∈ wsX5_of := by decide +kernel
theorem im_X5_of_5 : ∀ w ∈ u_ws RX5 TX5 20, w ∈ wsX5_of := by decide +kernel
abbrev rm_X5_of : Room := { frames := 0, cells := 0, slots := 0, locals := 0 }
set_option maxRecDepth 100000 in
set_option maxHeartbeats 4000000 in
theorem c_X5_of (l : Launch) (D : va_G) (cI cS cJ : ClassId) (q5 : Nat) (m0 : Nat) (m1 : Nat) (m2 : Nat) (m3 : Nat) (m4 : Nat) (m5 : Nat) (m6 : Nat) (m7 : Nat) (m8 : Nat) (m9 : Nat) (th : Int) (sm : Int) (ty : Int) (pg : Int) (rw : Int) (un : Int) (pm : Int) (sp : Int) (wr : Int) (ha : Int64) (Z1 : Int → Int) (i1 : Int) (x1 : Int) (hi : 0 ≤ i1 ∧ i1 < 24) (hx : 0 ≤ x1 ∧ x1 ≤ 2) : zMi l yX5_of wsX5_of rm_X5_of D (zTy cI cS cJ) [.ref q5, .int (zI i1), .int (zI x1)] [(q5, .inr (5, [.int (zI th), .ref m0, .ref m1, .int (zI sm), .ref m2, .int (zI ty), .ref m3, .ref m4, .ref m5, .ref m6, .ref m7, .ref m8, .int (zI pg), .int (zI rw), .int (zI un), .ref m9, .int (zI pm), .int (zI sp), .int (zI wr), .long ha])), (m0, .inl (cI, 74, .inl (zA Z1)))] (fun r w => r = zI (Z1 (2 + 3 * i1 + x1)) ∧ w = [(q5, .inr (5, [.int (zI th), .ref m0, .ref m1, .int (zI sm), .ref m2, .int (zI ty), .ref m3, .ref m4, .ref m5, .ref m6, .ref m7, .ref m8, .int (zI pg), .int (zI rw), .int (zI un), .ref m9, .int (zI pm), .int (zI sp), .int (zI wr), .long ha])), (m0, .inl (cI, 74, .inl (zA Z1)))]) 0 0 := by
  intro sz
  refine zMet_of (Qc := fun A => va_Qi _ (zB D (zTy cI cS cJ) A) A) RX5 [(0, .ref q5), (1, .int (zI i1)), (2, .int (zI x1))] rfl (by decide +kernel) rfl (Nat.le_of_ble_eq_true rfl) rfl ?_ sz
  intro p e s m args below meth c A Q hQ C hr hini
  refine zj_aload_n 1 0 C dX5_of_0 rfl rfl rfl ?_
  refine zj_get 4 0 1 C (T := TX5) im_X5_of_5 fl_X5_of_7 rfl rfl (by decide) rfl rfl dX5_of_1 rfl ?_
  refine zj_iconst 5 C dX5_of_4 rfl ?_
  refine zj_iconst 6 C dX5_of_5 rfl ?_
  refine zj_iload_n 7 1 C dX5_of_6 rfl rfl rfl ?_
  refine zj_imul 8 C dX5_of_7 rfl ?_
  refine zj_iadd 9 C dX5_of_8 rfl ?_
  refine zj_iload_n 10 2 C dX5_of_9 rfl rfl rfl ?_
  refine zj_iadd 11 C dX5_of_10 rfl ?_
  refine zj_iald 12 1 C (by omega) (by omega) rfl rfl dX5_of_11 rfl ?_
  refine zj_st (st' := [.int (zI (Z1 (2 + 3 * i1 + x1)))]) (by rfl) ?_
  subst hQ
  exact zj_ireturn C hr ⟨rfl, rfl⟩ (by decide) (by decide) dX5_of_12

theorem fl_X5_lay_7 : Cond.fieldLink RX5 7 "SplashPagesModel" "z" "[I" ∈ wsX5_lay := by decide +kernel
theorem im_X5_lay_5 : ∀ w ∈ u_ws RX5 TX5 20, w ∈ wsX5_lay := by decide +kernel
abbrev rm_X5_lay : Room := { frames := 0, cells := 0, slots := 0, locals := 0 }
set_option maxRecDepth 100000 in
set_option maxHeartbeats 4000000 in
theorem c_X5_lay (l : Launch) (D : va_G) (cI cS cJ : ClassId) (q5 : Nat) (m0 : Nat) (m1 : Nat) (m2 : Nat) (m3 : Nat) (m4 : Nat) (m5 : Nat) (m6 : Nat) (m7 : Nat) (m8 : Nat) (m9 : Nat) (th : Int) (sm : Int) (ty : Int) (pg : Int) (rw : Int) (un : Int) (pm : Int) (sp : Int) (wr : Int) (ha : Int64) (Z1 : Int → Int) (i1 : Int) (x1 : Int) (v1 : Int) (hi : 0 ≤ i1 ∧ i1 < 24) (hx : 0 ≤ x1 ∧ x1 ≤ 2) : zMv l yX5_lay wsX5_lay rm_X5_lay D (zTy cI cS cJ) [.ref q5, .int (zI i1), .int (zI x1), .int (zI v1)] [(q5, .inr (5, [.int (zI th), .ref m0, .ref m1, .int (zI sm), .ref m2, .int (zI ty), .ref m3, .ref m4, .ref m5, .ref m6, .ref m7, .ref m8, .int (zI pg), .int (zI rw), .int (zI un), .ref m9, .int (zI pm), .int (zI sp), .int (zI wr), .long ha])), (m0, .inl (cI, 74, .inl (zA Z1)))] (fun w => w = [(q5, .inr (5, [.int (zI th), .ref m0, .ref m1, .int (zI sm), .ref m2, .int (zI ty), .ref m3, .ref m4, .ref m5, .ref m6, .ref m7, .ref m8, .int (zI pg), .int (zI rw), .int (zI un), .ref m9, .int (zI pm), .int (zI sp), .int (zI wr), .long ha])), (m0, .inl (cI, 74, .inl (zA (zU Z1 (2 + 3 * i1 + x1) v1))))]) 0 0 := by
  intro sz
  refine zMet_of (Qc := fun A => va_Qv _ (zB D (zTy cI cS cJ) A) A) RX5 [(0, .ref q5), (1, .int (zI i1)), (2, .int (zI x1)), (3, .int (zI v1))] rfl (by decide +kernel) rfl (Nat.le_of_ble_eq_true rfl) rfl ?_ sz
  intro p e s m args below meth c A Q hQ C hr hini
  refine zj_aload_n 1 0 C dX5_lay_0 rfl rfl rfl ?_
  refine zj_get 4 0 1 C (T := TX5) im_X5_lay_5 fl_X5_lay_7 rfl rfl (by decide) rfl rfl dX5_lay_1 rfl ?_
  refine zj_iconst 5 C dX5_lay_4 rfl ?_
  refine zj_iconst 6 C dX5_lay_5 rfl ?_
  refine zj_iload_n 7 1 C dX5_lay_6 rfl rfl rfl ?_
  refine zj_imul 8 C dX5_lay_7 rfl ?_
  refine zj_iadd 9 C dX5_lay_8 rfl ?_
  refine zj_iload_n 10 2 C dX5_lay_9 rfl rfl rfl ?_
  refine zj_iadd 11 C dX5_lay_10 rfl ?_
  refine zj_iload_n 12 3 C dX5_lay_11 rfl rfl rfl ?_
  refine zj_iast 13 1 [(q5, .inr (5, [.int (zI th), .ref m0, .ref m1, .int (zI sm), .ref m2, .int (zI ty), .ref m3, .ref m4, .ref m5, .ref m6, .ref m7, .ref m8, .int (zI pg), .int (zI rw), .int (zI un), .ref m9, .int (zI pm), .int (zI sp), .int (zI wr), .long ha])), (m0, .inl (cI, 74, .inl (zA (zU Z1 ((2 + (3 * i1)) + x1) v1))))] C (by omega) (by omega) rfl rfl rfl dX5_lay_12 rfl ?_
  refine zj_ws (ws' := [(q5, .inr (5, [.int (zI th), .ref m0, .ref m1, .int (zI sm), .ref m2, .int (zI ty), .ref m3, .ref m4, .ref m5, .ref m6, .ref m7, .ref m8, .int (zI pg), .int (zI rw), .int (zI un), .ref m9, .int (zI pm), .int (zI sp), .int (zI wr), .long ha])), (m0, .inl (cI, 74, .inl (zA (zU Z1 (2 + 3 * i1 + x1) v1))))]) (by rfl) ?_
  subst hQ
  exact zj_return C hr rfl (by decide) (by decide) dX5_lay_13

theorem fl_X5_isPanel_7 : Cond.fieldLink RX5 7 "SplashPagesModel" "z" "[I" ∈ wsX5_isPanel := by decide +kernel
theorem im_X5_isPanel_5 : ∀ w ∈ u_ws RX5 TX5 20, w ∈ wsX5_isPanel := by decide +kernel
abbrev rm_X5_isPanel : Room := { frames := 0, cells := 0, slots := 0, locals := 0 }
set_option maxRecDepth 100000 in
set_option maxHeartbeats 4000000 in
theorem c_X5_isPanel (l : Launch) (D : va_G) (cI cS cJ : ClassId) (q5 : Nat) (m0 : Nat) (m1 : Nat) (m2 : Nat) (m3 : Nat) (m4 : Nat) (m5 : Nat) (m6 : Nat) (m7 : Nat) (m8 : Nat) (m9 : Nat) (th : Int) (sm : Int) (ty : Int) (pg : Int) (rw : Int) (un : Int) (pm : Int) (sp : Int) (wr : Int) (ha : Int64) (Z1 : Int → Int) (i1 : Int) (hi : -2147483648 ≤ i1 ∧ i1 < 2147483648) (hn : 0 ≤ Z1 1 ∧ Z1 1 ≤ 24) : zMi l yX5_isPanel wsX5_isPanel rm_X5_isPanel D (zTy cI cS cJ) [.ref q5, .int (zI i1)] [(q5, .inr (5, [.int (zI th), .ref m0, .ref m1, .int (zI sm), .ref m2, .int (zI ty), .ref m3, .ref m4, .ref m5, .ref m6, .ref m7, .ref m8, .int (zI pg), .int (zI rw), .int (zI un), .ref m9, .int (zI pm), .int (zI sp), .int (zI wr), .long ha])), (m0, .inl (cI, 74, .inl (zA Z1)))] (fun r w => ∃ (r1 : Int), ((r1 = 1 ∧ 0 ≤ i1 ∧ i1 < Z1 1) ∨ (r1 = 0 ∧ (i1 < 0 ∨ Z1 1 ≤ i1))) ∧ r = zI r1 ∧ w = [(q5, .inr (5, [.int (zI th), .ref m0, .ref m1, .int (zI sm), .ref m2, .int (zI ty), .ref m3, .ref m4, .ref m5, .ref m6, .ref m7, .ref m8, .int (zI pg), .int (zI rw), .int (zI un), .ref m9, .int (zI pm), .int (zI sp), .int (zI wr), .long ha])), (m0, .inl (cI, 74, .inl (zA Z1)))]) 0 0 := by
  intro sz
  refine zMet_of (Qc := fun A => va_Qi _ (zB D (zTy cI cS cJ) A) A) RX5 [(0, .ref q5), (1, .int (zI i1))] rfl (by decide +kernel) rfl (Nat.le_of_ble_eq_true rfl) rfl ?_ sz
  intro p e s m args below meth c A Q hQ C hr hini
  refine zj_iload_n 1 1 C dX5_isPanel_0 rfl rfl rfl ?_
  refine zj_if_lt 4 18 C (by omega) dX5_isPanel_1 rfl (by decide) (fun h_1 => ?_) (fun h_1 => ?_)
  · skip
    refine zj_iconst 19 C dX5_isPanel_18 rfl ?_
    subst hQ
    exact zj_zret C (zI_bool (by omega)) hr ⟨0, (by omega), rfl, rfl⟩ (by decide) (by decide) dX5_isPanel_19
  · skip
    refine zj_iload_n 5 1 C dX5_isPanel_4 rfl rfl rfl ?_
    refine zj_aload_n 6 0 C dX5_isPanel_5 rfl rfl rfl ?_
    refine zj_get 9 0 1 C (T := TX5) im_X5_isPanel_5 fl_X5_isPanel_7 rfl rfl (by decide) rfl rfl dX5_isPanel_6 rfl ?_
    refine zj_iconst 10 C dX5_isPanel_9 rfl ?_
    refine zj_iald 11 1 C (by omega) (by omega) rfl rfl dX5_isPanel_10 rfl ?_
    refine zj_icmp_ge 14 18 C (by omega) (by omega) dX5_isPanel_11 rfl (by decide) (fun h_2 => ?_) (fun h_2 => ?_)
    · skip
      refine zj_iconst 19 C dX5_isPanel_18 rfl ?_
      subst hQ
      exact zj_zret C (zI_bool (by omega)) hr ⟨0, (by omega), rfl, rfl⟩ (by decide) (by decide) dX5_isPanel_19
    · skip
      refine zj_iconst 15 C dX5_isPanel_14 rfl ?_
      refine zj_goto 19 C dX5_isPanel_15 (by decide) ?_
      subst hQ
      exact zj_zret C (zI_bool (by omega)) hr ⟨1, (by omega), rfl, rfl⟩ (by decide) (by decide) dX5_isPanel_19

theorem fl_X5_nextPage_47 : Cond.fieldLink RX5 47 "SplashPagesModel" "page" "I" ∈ wsX5_nextPage := by decide +kernel
theorem im_X5_nextPage_5 : ∀ w ∈ u_ws RX5 TX5 20, w ∈ wsX5_nextPage := by decide +kernel
theorem fl_X5_nextPage_50 : Cond.fieldLink RX5 50 "SplashPagesModel" "row" "I" ∈ wsX5_nextPage := by decide +kernel
theorem fl_X5_nextPage_53 : Cond.fieldLink RX5 53 "SplashPagesModel" "unit" "I" ∈ wsX5_nextPage := by decide +kernel
abbrev rm_X5_nextPage : Room := { frames := 0, cells := 0, slots := 0, locals := 0 }
set_option maxRecDepth 100000 in
set_option maxHeartbeats 4000000 in
theorem c_X5_nextPage (l : Launch) (D : va_G) (cI cS cJ : ClassId) (q5 : Nat) (m0 : Nat) (m1 : Nat) (m2 : Nat) (m3 : Nat) (m4 : Nat) (m5 : Nat) (m6 : Nat) (m7 : Nat) (m8 : Nat) (m9 : Nat) (th : Int) (sm : Int) (ty : Int) (pg : Int) (rw : Int) (un : Int) (pm : Int) (sp : Int) (wr : Int) (ha : Int64) (v1 : Int) : zMv l yX5_nextPage wsX5_nextPage rm_X5_nextPage D (zTy cI cS cJ) [.ref q5, .int (zI v1)] [(q5, .inr (5, [.int (zI th), .ref m0, .ref m1, .int (zI sm), .ref m2, .int (zI ty), .ref m3, .ref m4, .ref m5, .ref m6, .ref m7, .ref m8, .int (zI pg), .int (zI rw), .int (zI un), .ref m9, .int (zI pm), .int (zI sp), .int (zI wr), .long ha]))] (fun w => w = [(q5, .inr (5, [.int (zI th), .ref m0, .ref m1, .int (zI sm), .ref m2, .int (zI ty), .ref m3, .ref m4, .ref m5, .ref m6, .ref m7, .ref m8, .int (zI v1), .int (zI 0), .int (zI 0), .ref m9, .int (zI pm), .int (zI sp), .int (zI wr), .long ha]))]) 0 0 := by
  intro sz
  refine zMet_of (Qc := fun A => va_Qv _ (zB D (zTy cI cS cJ) A) A) RX5 [(0, .ref q5), (1, .int (zI v1))] rfl (by decide +kernel) rfl (Nat.le_of_ble_eq_true rfl) rfl ?_ sz
  intro p e s m args below meth c A Q hQ C hr hini
  refine zj_aload_n 1 0 C dX5_nextPage_0 rfl rfl rfl ?_
  refine zj_iload_n 2 1 C dX5_nextPage_1 rfl rfl rfl ?_
  refine zj_put 5 0 12 [(q5, .inr (5, [.int (zI th), .ref m0, .ref m1, .int (zI sm), .ref m2, .int (zI ty), .ref m3, .ref m4, .ref m5, .ref m6, .ref m7, .ref m8, .int (zI v1), .int (zI rw), .int (zI un), .ref m9, .int (zI pm), .int (zI sp), .int (zI wr), .long ha]))] C (T := TX5) tyX5 tyX5_ok nmX5 im_X5_nextPage_5 fl_X5_nextPage_47 rfl rfl (by decide) rfl rfl rfl rfl rfl (Nat.le_of_ble_eq_true rfl) rfl dX5_nextPage_2 rfl ?_
  refine zj_aload_n 6 0 C dX5_nextPage_5 rfl rfl rfl ?_
  refine zj_iconst 7 C dX5_nextPage_6 rfl ?_
  refine zj_put 10 0 13 [(q5, .inr (5, [.int (zI th), .ref m0, .ref m1, .int (zI sm), .ref m2, .int (zI ty), .ref m3, .ref m4, .ref m5, .ref m6, .ref m7, .ref m8, .int (zI v1), .int (zI 0), .int (zI un), .ref m9, .int (zI pm), .int (zI sp), .int (zI wr), .long ha]))] C (T := TX5) tyX5 tyX5_ok nmX5 im_X5_nextPage_5 fl_X5_nextPage_50 rfl rfl (by decide) rfl rfl rfl rfl rfl (Nat.le_of_ble_eq_true rfl) rfl dX5_nextPage_7 rfl ?_
  refine zj_aload_n 11 0 C dX5_nextPage_10 rfl rfl rfl ?_
  refine zj_iconst 12 C dX5_nextPage_11 rfl ?_
  refine zj_put 15 0 14 [(q5, .inr (5, [.int (zI th), .ref m0, .ref m1, .int (zI sm), .ref m2, .int (zI ty), .ref m3, .ref m4, .ref m5, .ref m6, .ref m7, .ref m8, .int (zI v1), .int (zI 0), .int (zI 0), .ref m9, .int (zI pm), .int (zI sp), .int (zI wr), .long ha]))] C (T := TX5) tyX5 tyX5_ok nmX5 im_X5_nextPage_5 fl_X5_nextPage_53 rfl rfl (by decide) rfl rfl rfl rfl rfl (Nat.le_of_ble_eq_true rfl) rfl dX5_nextPage_12 rfl ?_
  subst hQ
  exact zj_return C hr rfl (by decide) (by decide) dX5_nextPage_15

theorem fl_X5_nextRow_50 : Cond.fieldLink RX5 50 "SplashPagesModel" "row" "I" ∈ wsX5_nextRow := by decide +kernel
theorem im_X5_nextRow_5 : ∀ w ∈ u_ws RX5 TX5 20, w ∈ wsX5_nextRow := by decide +kernel
theorem fl_X5_nextRow_53 : Cond.fieldLink RX5 53 "SplashPagesModel" "unit" "I" ∈ wsX5_nextRow := by decide +kernel
theorem fl_X5_nextRow_47 : Cond.fieldLink RX5 47 "SplashPagesModel" "page" "I" ∈ wsX5_nextRow := by decide +kernel
abbrev rm_X5_nextRow : Room := { frames := 1, cells := 0, slots := 0, locals := 21 }
set_option maxRecDepth 100000 in
set_option maxHeartbeats 4000000 in
theorem c_X5_nextRow (l : Launch) (D : va_G) (cI cS cJ : ClassId) (q5 : Nat) (m0 : Nat) (m1 : Nat) (m2 : Nat) (m3 : Nat) (m4 : Nat) (m5 : Nat) (m6 : Nat) (m7 : Nat) (m8 : Nat) (m9 : Nat) (th : Int) (sm : Int) (ty : Int) (pg : Int) (rw : Int) (un : Int) (pm : Int) (sp : Int) (wr : Int) (ha : Int64) (hr : 0 ≤ rw ∧ rw ≤ 3) : zMv l yX5_nextRow wsX5_nextRow rm_X5_nextRow D (zTy cI cS cJ) [.ref q5] [(q5, .inr (5, [.int (zI th), .ref m0, .ref m1, .int (zI sm), .ref m2, .int (zI ty), .ref m3, .ref m4, .ref m5, .ref m6, .ref m7, .ref m8, .int (zI pg), .int (zI rw), .int (zI un), .ref m9, .int (zI pm), .int (zI sp), .int (zI wr), .long ha]))] (fun w => w = [(q5, .inr (5, [.int (zI th), .ref m0, .ref m1, .int (zI sm), .ref m2, .int (zI ty), .ref m3, .ref m4, .ref m5, .ref m6, .ref m7, .ref m8, .int (zI (zRp pg rw)), .int (zI (zRr rw)), .int (zI 0), .ref m9, .int (zI pm), .int (zI sp), .int (zI wr), .long ha]))]) 0 0 := by
  intro sz
  refine zMet_of (Qc := fun A => va_Qv _ (zB D (zTy cI cS cJ) A) A) RX5 [(0, .ref q5)] rfl (by decide +kernel) rfl (Nat.le_of_ble_eq_true rfl) rfl ?_ sz
  intro p e s m args below meth c A Q hQ C hr hini
  refine zj_aload_n 1 0 C dX5_nextRow_0 rfl rfl rfl ?_
  refine zj_get 4 0 13 C (T := TX5) im_X5_nextRow_5 fl_X5_nextRow_50 rfl rfl (by decide) rfl rfl dX5_nextRow_1 rfl ?_
  refine zj_iconst 5 C dX5_nextRow_4 rfl ?_
  refine zj_icmp_ne 8 21 C (by omega) (by omega) dX5_nextRow_5 rfl (by decide) (fun h_1 => ?_) (fun h_1 => ?_)
  · skip
    refine zj_aload_n 22 0 C dX5_nextRow_21 rfl rfl rfl ?_
    refine zj_dup 23 C dX5_nextRow_22 rfl rfl ?_
    refine zj_get 26 0 13 C (T := TX5) im_X5_nextRow_5 fl_X5_nextRow_50 rfl rfl (by decide) rfl rfl dX5_nextRow_23 rfl ?_
    refine zj_iconst 27 C dX5_nextRow_26 rfl ?_
    refine zj_iadd 28 C dX5_nextRow_27 rfl ?_
    refine zj_put 31 0 13 [(q5, .inr (5, [.int (zI th), .ref m0, .ref m1, .int (zI sm), .ref m2, .int (zI ty), .ref m3, .ref m4, .ref m5, .ref m6, .ref m7, .ref m8, .int (zI pg), .int (zI (rw + 1)), .int (zI un), .ref m9, .int (zI pm), .int (zI sp), .int (zI wr), .long ha]))] C (T := TX5) tyX5 tyX5_ok nmX5 im_X5_nextRow_5 fl_X5_nextRow_50 rfl rfl (by decide) rfl rfl rfl rfl rfl (Nat.le_of_ble_eq_true rfl) rfl dX5_nextRow_28 rfl ?_
    refine zj_aload_n 32 0 C dX5_nextRow_31 rfl rfl rfl ?_
    refine zj_iconst 33 C dX5_nextRow_32 rfl ?_
    refine zj_put 36 0 14 [(q5, .inr (5, [.int (zI th), .ref m0, .ref m1, .int (zI sm), .ref m2, .int (zI ty), .ref m3, .ref m4, .ref m5, .ref m6, .ref m7, .ref m8, .int (zI pg), .int (zI (rw + 1)), .int (zI 0), .ref m9, .int (zI pm), .int (zI sp), .int (zI wr), .long ha]))] C (T := TX5) tyX5 tyX5_ok nmX5 im_X5_nextRow_5 fl_X5_nextRow_53 rfl rfl (by decide) rfl rfl rfl rfl rfl (Nat.le_of_ble_eq_true rfl) rfl dX5_nextRow_33 rfl ?_
    refine zj_ws (ws' := [(q5, .inr (5, [.int (zI th), .ref m0, .ref m1, .int (zI sm), .ref m2, .int (zI ty), .ref m3, .ref m4, .ref m5, .ref m6, .ref m7, .ref m8, .int (zI (zRp pg rw)), .int (zI (zRr rw)), .int (zI 0), .ref m9, .int (zI pm), .int (zI sp), .int (zI wr), .long ha]))]) (by rw [show zRp pg rw = pg from by unfold zRp; split <;> omega, show zRr rw = rw + 1 from by unfold zRr; split <;> omega]) ?_
    subst hQ
    exact zj_return C hr rfl (by decide) (by decide) dX5_nextRow_36
  · skip
    refine zj_aload_n 9 0 C dX5_nextRow_8 rfl rfl rfl ?_
    refine zj_aload_n 10 0 C dX5_nextRow_9 rfl rfl rfl ?_
    refine zj_get 13 0 12 C (T := TX5) im_X5_nextRow_5 fl_X5_nextRow_47 rfl rfl (by decide) rfl rfl dX5_nextRow_10 rfl ?_
    refine zj_iconst 14 C dX5_nextRow_13 rfl ?_
    refine zj_iadd 15 C dX5_nextRow_14 rfl ?_
    refine zj_cv 18 [0] [] C (wr := []) (zr_V [0] C (As := [.int (zI (pg + 1))]) (rest := []) (c_X5_nextPage l D cI cS cJ q5 m0 m1 m2 m3 m4 m5 m6 m7 m8 m9 th sm ty pg rw un pm sp wr ha (pg + 1)) (cwV 1 C.1.2.2.2.2 gX5_nextRow_X5_nextPage rfl rfl rfl (by decide +kernel) ⟨Nat.le_of_ble_eq_true rfl, Nat.le_of_ble_eq_true rfl⟩) rfl (by decide) 0 rfl rfl rfl rfl (Nat.le_of_ble_eq_true rfl) dX5_nextRow_15 ⟨Nat.le_of_ble_eq_true rfl, Nat.le_of_ble_eq_true rfl⟩) rfl rfl (by decide) (by decide) rfl (fun w_ hp_3 => ?_)
    obtain rfl := hp_3
    refine zj_ws (ws' := [(q5, .inr (5, [.int (zI th), .ref m0, .ref m1, .int (zI sm), .ref m2, .int (zI ty), .ref m3, .ref m4, .ref m5, .ref m6, .ref m7, .ref m8, .int (zI (pg + 1)), .int (zI 0), .int (zI 0), .ref m9, .int (zI pm), .int (zI sp), .int (zI wr), .long ha]))]) rfl ?_
    refine zj_goto 36 C dX5_nextRow_18 (by decide) ?_
    refine zj_ws (ws' := [(q5, .inr (5, [.int (zI th), .ref m0, .ref m1, .int (zI sm), .ref m2, .int (zI ty), .ref m3, .ref m4, .ref m5, .ref m6, .ref m7, .ref m8, .int (zI (zRp pg rw)), .int (zI (zRr rw)), .int (zI 0), .ref m9, .int (zI pm), .int (zI sp), .int (zI wr), .long ha]))]) (by rw [show zRp pg rw = (pg + 1) from by unfold zRp; split <;> omega, show zRr rw = 0 from by unfold zRr; split <;> omega]) ?_
    subst hQ
    exact zj_return C hr rfl (by decide) (by decide) dX5_nextRow_36

theorem fl_X5_isEmpty_47 : Cond.fieldLink RX5 47 "SplashPagesModel" "page" "I" ∈ wsX5_isEmpty := by decide +kernel
theorem im_X5_isEmpty_5 : ∀ w ∈ u_ws RX5 TX5 20, w ∈ wsX5_isEmpty := by decide +kernel
theorem fl_X5_isEmpty_34 : Cond.fieldLink RX5 34 "SplashPagesModel" "panelsOn" "[I" ∈ wsX5_isEmpty := by decide +kernel
abbrev rm_X5_isEmpty : Room := { frames := 0, cells := 0, slots := 0, locals := 0 }
set_option maxRecDepth 100000 in
set_option maxHeartbeats 4000000 in
theorem c_X5_isEmpty (l : Launch) (D : va_G) (cI cS cJ : ClassId) (q5 : Nat) (m0 : Nat) (m1 : Nat) (m2 : Nat) (m3 : Nat) (m4 : Nat) (m5 : Nat) (m6 : Nat) (m7 : Nat) (m8 : Nat) (m9 : Nat) (th : Int) (sm : Int) (ty : Int) (pg : Int) (rw : Int) (un : Int) (pm : Int) (sp : Int) (wr : Int) (ha : Int64) (c1 : Int → Int) (hp : 0 ≤ pg ∧ pg ≤ 16) (hc : ∀ x, 0 ≤ c1 x ∧ c1 x ≤ 1000) : zMi l yX5_isEmpty wsX5_isEmpty rm_X5_isEmpty D (zTy cI cS cJ) [.ref q5] [(q5, .inr (5, [.int (zI th), .ref m0, .ref m1, .int (zI sm), .ref m2, .int (zI ty), .ref m3, .ref m4, .ref m5, .ref m6, .ref m7, .ref m8, .int (zI pg), .int (zI rw), .int (zI un), .ref m9, .int (zI pm), .int (zI sp), .int (zI wr), .long ha])), (m8, .inl (cI, 16, .inl (zA c1)))] (fun r w => ∃ (r1 : Int), ((r1 = 0 ∧ pg < 16 ∧ 0 < c1 pg) ∨ (r1 = 1 ∧ ¬ (pg < 16 ∧ 0 < c1 pg))) ∧ r = zI r1 ∧ w = [(q5, .inr (5, [.int (zI th), .ref m0, .ref m1, .int (zI sm), .ref m2, .int (zI ty), .ref m3, .ref m4, .ref m5, .ref m6, .ref m7, .ref m8, .int (zI pg), .int (zI rw), .int (zI un), .ref m9, .int (zI pm), .int (zI sp), .int (zI wr), .long ha])), (m8, .inl (cI, 16, .inl (zA c1)))]) 0 0 := by
  intro sz
  refine zMet_of (Qc := fun A => va_Qi _ (zB D (zTy cI cS cJ) A) A) RX5 [(0, .ref q5)] rfl (by decide +kernel) rfl (Nat.le_of_ble_eq_true rfl) rfl ?_ sz
  intro p e s m args below meth c A Q hQ C hr hini
  have hcv := hc pg
  refine zj_aload_n 1 0 C dX5_isEmpty_0 rfl rfl rfl ?_
  refine zj_get 4 0 12 C (T := TX5) im_X5_isEmpty_5 fl_X5_isEmpty_47 rfl rfl (by decide) rfl rfl dX5_isEmpty_1 rfl ?_
  refine zj_bipush 6 C dX5_isEmpty_4 rfl rfl ?_
  refine zj_icmp_ge 9 21 C (by omega) (by omega) dX5_isEmpty_6 rfl (by decide) (fun h_1 => ?_) (fun h_1 => ?_)
  · skip
    refine zj_iconst 22 C dX5_isEmpty_21 rfl ?_
    refine zj_goto 26 C dX5_isEmpty_22 (by decide) ?_
    subst hQ
    exact zj_zret C (zI_bool (by omega)) hr ⟨1, (by omega), rfl, rfl⟩ (by decide) (by decide) dX5_isEmpty_26
  · skip
    refine zj_aload_n 10 0 C dX5_isEmpty_9 rfl rfl rfl ?_
    refine zj_get 13 0 11 C (T := TX5) im_X5_isEmpty_5 fl_X5_isEmpty_34 rfl rfl (by decide) rfl rfl dX5_isEmpty_10 rfl ?_
    refine zj_aload_n 14 0 C dX5_isEmpty_13 rfl rfl rfl ?_
    refine zj_get 17 0 12 C (T := TX5) im_X5_isEmpty_5 fl_X5_isEmpty_47 rfl rfl (by decide) rfl rfl dX5_isEmpty_14 rfl ?_
    refine zj_iald 18 1 C (by omega) (by omega) rfl rfl dX5_isEmpty_17 rfl ?_
    refine zj_if_ne 21 25 C (by omega) dX5_isEmpty_18 rfl (by decide) (fun h_2 => ?_) (fun h_2 => ?_)
    · skip
      refine zj_iconst 26 C dX5_isEmpty_25 rfl ?_
      subst hQ
      exact zj_zret C (zI_bool (by omega)) hr ⟨0, (by omega), rfl, rfl⟩ (by decide) (by decide) dX5_isEmpty_26
    · skip
      refine zj_iconst 22 C dX5_isEmpty_21 rfl ?_
      refine zj_goto 26 C dX5_isEmpty_22 (by decide) ?_
      subst hQ
      exact zj_zret C (zI_bool (by omega)) hr ⟨1, (by omega), rfl, rfl⟩ (by decide) (by decide) dX5_isEmpty_26

theorem fl_X5_mark_34 : Cond.fieldLink RX5 34 "SplashPagesModel" "panelsOn" "[I" ∈ wsX5_mark := by decide +kernel
theorem im_X5_mark_5 : ∀ w ∈ u_ws RX5 TX5 20, w ∈ wsX5_mark := by decide +kernel
theorem fl_X5_mark_28 : Cond.fieldLink RX5 28 "SplashPagesModel" "grid" "[I" ∈ wsX5_mark := by decide +kernel
abbrev rm_X5_mark : Room := { frames := 0, cells := 0, slots := 0, locals := 0 }
set_option maxRecDepth 100000 in
set_option maxHeartbeats 4000000 in
theorem c_X5_mark (l : Launch) (D : va_G) (cI cS cJ : ClassId) (q5 : Nat) (m0 : Nat) (m1 : Nat) (m2 : Nat) (m3 : Nat) (m4 : Nat) (m5 : Nat) (m6 : Nat) (m7 : Nat) (m8 : Nat) (m9 : Nat) (th : Int) (sm : Int) (ty : Int) (pg : Int) (rw : Int) (un : Int) (pm : Int) (sp : Int) (wr : Int) (ha : Int64) (c1 : Int → Int) (G1 : Int → Int) (j1 : Int) (p1 : Int) (f1 : Int) (w1 : Int) (hp : 0 ≤ p1 ∧ p1 < 16) (hf : 0 ≤ f1 ∧ 0 ≤ w1 ∧ f1 + w1 ≤ 24) : zMv l yX5_mark wsX5_mark rm_X5_mark D (zTy cI cS cJ) [.ref q5, .int (zI j1), .int (zI p1), .int (zI f1), .int (zI w1)] [(q5, .inr (5, [.int (zI th), .ref m0, .ref m1, .int (zI sm), .ref m2, .int (zI ty), .ref m3, .ref m4, .ref m5, .ref m6, .ref m7, .ref m8, .int (zI pg), .int (zI rw), .int (zI un), .ref m9, .int (zI pm), .int (zI sp), .int (zI wr), .long ha])), (m6, .inl (cI, 384, .inl (zA G1))), (m8, .inl (cI, 16, .inl (zA c1)))] (fun w => w = [(q5, .inr (5, [.int (zI th), .ref m0, .ref m1, .int (zI sm), .ref m2, .int (zI ty), .ref m3, .ref m4, .ref m5, .ref m6, .ref m7, .ref m8, .int (zI pg), .int (zI rw), .int (zI un), .ref m9, .int (zI pm), .int (zI sp), .int (zI wr), .long ha])), (m6, .inl (cI, 384, .inl (zA (zMk G1 (24 * p1 + f1) w1 j1)))), (m8, .inl (cI, 16, .inl (zA (zU c1 p1 (c1 p1 + 1)))))]) 0 0 := by
  intro sz
  refine zMet_of (Qc := fun A => va_Qv _ (zB D (zTy cI cS cJ) A) A) RX5 [(0, .ref q5), (1, .int (zI j1)), (2, .int (zI p1)), (3, .int (zI f1)), (4, .int (zI w1))] rfl (by decide +kernel) rfl (Nat.le_of_ble_eq_true rfl) rfl ?_ sz
  intro p e s m args below meth c A Q hQ C hr hini
  refine zj_iconst 1 C dX5_mark_0 rfl ?_
  refine zj_istore 3 [(5, .int (zI 0)), (0, .ref q5), (1, .int (zI j1)), (2, .int (zI p1)), (3, .int (zI f1)), (4, .int (zI w1))] C dX5_mark_1 rfl (by decide) rfl ?_
  have hL3 : ∀ (N : Nat) (i : Int) (g : Int → Int), (0 ≤ i ∧ i ≤ w1) → (∀ x, g x = zMk G1 (24 * p1 + f1) i j1 x) → (w1 - i < N) → zJ p l e rm_X5_mark s m args below meth c Q D A 6 [(q5, .inr (5, [.int (zI th), .ref m0, .ref m1, .int (zI sm), .ref m2, .int (zI ty), .ref m3, .ref m4, .ref m5, .ref m6, .ref m7, .ref m8, .int (zI pg), .int (zI rw), .int (zI un), .ref m9, .int (zI pm), .int (zI sp), .int (zI wr), .long ha])), (m6, .inl (cI, 384, .inl (zA g))), (m8, .inl (cI, 16, .inl (zA c1)))] 0 0 [(0, .ref q5), (1, .int (zI j1)), (2, .int (zI p1)), (3, .int (zI f1)), (4, .int (zI w1)), (5, .int (zI i))] 3 [] := by
    intro N
    induction N with
    | zero => intro i g hi hg hN; exact absurd hN (by omega)
    | succ N ih =>
      intro i g hi hg hN
      refine zj_iload 5 5 C dX5_mark_3 rfl rfl ?_
      refine zj_iload 7 4 C dX5_mark_5 rfl rfl ?_
      refine zj_icmp_ge 10 31 C (by omega) (by omega) dX5_mark_7 rfl (by decide) (fun h_1 => ?_) (fun h_1 => ?_)
      · skip
        refine zj_aload_n 32 0 C dX5_mark_31 rfl rfl rfl ?_
        refine zj_get 35 0 11 C (T := TX5) im_X5_mark_5 fl_X5_mark_34 rfl rfl (by decide) rfl rfl dX5_mark_32 rfl ?_
        refine zj_iload_n 36 2 C dX5_mark_35 rfl rfl rfl ?_
        refine zj_dup2 37 C dX5_mark_36 rfl rfl rfl ?_
        refine zj_iald 38 2 C (by omega) (by omega) rfl rfl dX5_mark_37 rfl ?_
        refine zj_iconst 39 C dX5_mark_38 rfl ?_
        refine zj_iadd 40 C dX5_mark_39 rfl ?_
        refine zj_iast 41 2 [(q5, .inr (5, [.int (zI th), .ref m0, .ref m1, .int (zI sm), .ref m2, .int (zI ty), .ref m3, .ref m4, .ref m5, .ref m6, .ref m7, .ref m8, .int (zI pg), .int (zI rw), .int (zI un), .ref m9, .int (zI pm), .int (zI sp), .int (zI wr), .long ha])), (m6, .inl (cI, 384, .inl (zA g))), (m8, .inl (cI, 16, .inl (zA (zU c1 p1 ((c1 p1) + 1)))))] C (by omega) (by omega) rfl rfl rfl dX5_mark_40 rfl ?_
        refine zj_ext 1 [(q5, .inr (5, [.int (zI th), .ref m0, .ref m1, .int (zI sm), .ref m2, .int (zI ty), .ref m3, .ref m4, .ref m5, .ref m6, .ref m7, .ref m8, .int (zI pg), .int (zI rw), .int (zI un), .ref m9, .int (zI pm), .int (zI sp), .int (zI wr), .long ha])), (m6, .inl (cI, 384, .inl (zA (zMk G1 (24 * p1 + f1) w1 j1)))), (m8, .inl (cI, 16, .inl (zA (zU c1 p1 ((c1 p1) + 1)))))] (fun x _ _ => by have := hg x; rw [show w1 = i by omega]; exact this) rfl rfl ?_
        refine zj_ws (ws' := [(q5, .inr (5, [.int (zI th), .ref m0, .ref m1, .int (zI sm), .ref m2, .int (zI ty), .ref m3, .ref m4, .ref m5, .ref m6, .ref m7, .ref m8, .int (zI pg), .int (zI rw), .int (zI un), .ref m9, .int (zI pm), .int (zI sp), .int (zI wr), .long ha])), (m6, .inl (cI, 384, .inl (zA (zMk G1 (24 * p1 + f1) w1 j1)))), (m8, .inl (cI, 16, .inl (zA (zU c1 p1 (c1 p1 + 1)))))]) (by rfl) ?_
        subst hQ
        exact zj_return C hr rfl (by decide) (by decide) dX5_mark_41
      · skip
        refine zj_aload_n 11 0 C dX5_mark_10 rfl rfl rfl ?_
        refine zj_get 14 0 9 C (T := TX5) im_X5_mark_5 fl_X5_mark_28 rfl rfl (by decide) rfl rfl dX5_mark_11 rfl ?_
        refine zj_bipush 16 C dX5_mark_14 rfl rfl ?_
        refine zj_iload_n 17 2 C dX5_mark_16 rfl rfl rfl ?_
        refine zj_imul 18 C dX5_mark_17 rfl ?_
        refine zj_iload_n 19 3 C dX5_mark_18 rfl rfl rfl ?_
        refine zj_iadd 20 C dX5_mark_19 rfl ?_
        refine zj_iload 22 5 C dX5_mark_20 rfl rfl ?_
        refine zj_iadd 23 C dX5_mark_22 rfl ?_
        refine zj_iload_n 24 1 C dX5_mark_23 rfl rfl rfl ?_
        refine zj_iast 25 1 [(q5, .inr (5, [.int (zI th), .ref m0, .ref m1, .int (zI sm), .ref m2, .int (zI ty), .ref m3, .ref m4, .ref m5, .ref m6, .ref m7, .ref m8, .int (zI pg), .int (zI rw), .int (zI un), .ref m9, .int (zI pm), .int (zI sp), .int (zI wr), .long ha])), (m6, .inl (cI, 384, .inl (zA (zU g (((24 * p1) + f1) + i) j1)))), (m8, .inl (cI, 16, .inl (zA c1)))] C (by omega) (by omega) rfl rfl rfl dX5_mark_24 rfl ?_
        refine zj_iinc 28 5 [(5, .int (zI (i + 1))), (0, .ref q5), (1, .int (zI j1)), (2, .int (zI p1)), (3, .int (zI f1)), (4, .int (zI w1))] C dX5_mark_25 rfl rfl (by decide) rfl ?_
        refine zj_goto 3 C dX5_mark_28 (by decide) ?_
        refine zj_lv [1, 2, 3, 4, 5, 0] [(0, .ref q5), (1, .int (zI j1)), (2, .int (zI p1)), (3, .int (zI f1)), (4, .int (zI w1)), (5, .int (zI (i + 1)))] rfl ?_
        exact ih (i + 1) (zU g (((24 * p1) + f1) + i) j1) (by omega) (by intro x; have := hg x; unfold zMk at *; unfold zU; split <;> split <;> (try split at this) <;> omega) (by omega)
  refine zj_lv [1, 2, 3, 4, 5, 0] [(0, .ref q5), (1, .int (zI j1)), (2, .int (zI p1)), (3, .int (zI f1)), (4, .int (zI w1)), (5, .int (zI 0))] rfl ?_
  exact hL3 (25) 0 G1 (by omega) (by intro x; unfold zMk; rw [if_neg (by omega)]) (by omega)

theorem fl_X5_stand_19 : Cond.fieldLink RX5 19 "SplashPagesModel" "pageOf" "[I" ∈ wsX5_stand := by decide +kernel
theorem im_X5_stand_5 : ∀ w ∈ u_ws RX5 TX5 20, w ∈ wsX5_stand := by decide +kernel
theorem fl_X5_stand_22 : Cond.fieldLink RX5 22 "SplashPagesModel" "rowOf" "[I" ∈ wsX5_stand := by decide +kernel
theorem fl_X5_stand_25 : Cond.fieldLink RX5 25 "SplashPagesModel" "unitOf" "[I" ∈ wsX5_stand := by decide +kernel
theorem fl_X5_stand_31 : Cond.fieldLink RX5 31 "SplashPagesModel" "beatsOn" "[I" ∈ wsX5_stand := by decide +kernel
abbrev rm_X5_stand : Room := { frames := 1, cells := 0, slots := 0, locals := 22 }
set_option maxRecDepth 100000 in
set_option maxHeartbeats 4000000 in
theorem c_X5_stand (l : Launch) (D : va_G) (cI cS cJ : ClassId) (q5 : Nat) (m0 : Nat) (m1 : Nat) (m2 : Nat) (m3 : Nat) (m4 : Nat) (m5 : Nat) (m6 : Nat) (m7 : Nat) (m8 : Nat) (m9 : Nat) (th : Int) (sm : Int) (ty : Int) (pg : Int) (rw : Int) (un : Int) (pm : Int) (sp : Int) (wr : Int) (ha : Int64) (Z1 : Int → Int) (P1 : Int → Int) (R1 : Int → Int) (U1 : Int → Int) (b1 : Int → Int) (j1 : Int) (p1 : Int) (r1 : Int) (u1 : Int) (hj : 0 ≤ j1 ∧ j1 < 24) (hp : 0 ≤ p1 ∧ p1 < 16) : zMv l yX5_stand wsX5_stand rm_X5_stand D (zTy cI cS cJ) [.ref q5, .int (zI j1), .int (zI p1), .int (zI r1), .int (zI u1)] [(q5, .inr (5, [.int (zI th), .ref m0, .ref m1, .int (zI sm), .ref m2, .int (zI ty), .ref m3, .ref m4, .ref m5, .ref m6, .ref m7, .ref m8, .int (zI pg), .int (zI rw), .int (zI un), .ref m9, .int (zI pm), .int (zI sp), .int (zI wr), .long ha])), (m0, .inl (cI, 74, .inl (zA Z1))), (m3, .inl (cI, 24, .inl (zA P1))), (m4, .inl (cI, 24, .inl (zA R1))), (m5, .inl (cI, 24, .inl (zA U1))), (m7, .inl (cI, 16, .inl (zA b1)))] (fun w => w = [(q5, .inr (5, [.int (zI th), .ref m0, .ref m1, .int (zI sm), .ref m2, .int (zI ty), .ref m3, .ref m4, .ref m5, .ref m6, .ref m7, .ref m8, .int (zI pg), .int (zI rw), .int (zI un), .ref m9, .int (zI pm), .int (zI sp), .int (zI wr), .long ha])), (m0, .inl (cI, 74, .inl (zA Z1))), (m3, .inl (cI, 24, .inl (zA (zU P1 j1 p1)))), (m4, .inl (cI, 24, .inl (zA (zU R1 j1 r1)))), (m5, .inl (cI, 24, .inl (zA (zU U1 j1 u1)))), (m7, .inl (cI, 16, .inl (zA (zU b1 p1 (b1 p1 + Z1 (2 + 3 * j1 + 2))))))]) 0 0 := by
  intro sz
  refine zMet_of (Qc := fun A => va_Qv _ (zB D (zTy cI cS cJ) A) A) RX5 [(0, .ref q5), (1, .int (zI j1)), (2, .int (zI p1)), (3, .int (zI r1)), (4, .int (zI u1))] rfl (by decide +kernel) rfl (Nat.le_of_ble_eq_true rfl) rfl ?_ sz
  intro p e s m args below meth c A Q hQ C hr hini
  refine zj_aload_n 1 0 C dX5_stand_0 rfl rfl rfl ?_
  refine zj_get 4 0 6 C (T := TX5) im_X5_stand_5 fl_X5_stand_19 rfl rfl (by decide) rfl rfl dX5_stand_1 rfl ?_
  refine zj_iload_n 5 1 C dX5_stand_4 rfl rfl rfl ?_
  refine zj_iload_n 6 2 C dX5_stand_5 rfl rfl rfl ?_
  refine zj_iast 7 2 [(q5, .inr (5, [.int (zI th), .ref m0, .ref m1, .int (zI sm), .ref m2, .int (zI ty), .ref m3, .ref m4, .ref m5, .ref m6, .ref m7, .ref m8, .int (zI pg), .int (zI rw), .int (zI un), .ref m9, .int (zI pm), .int (zI sp), .int (zI wr), .long ha])), (m0, .inl (cI, 74, .inl (zA Z1))), (m3, .inl (cI, 24, .inl (zA (zU P1 j1 p1)))), (m4, .inl (cI, 24, .inl (zA R1))), (m5, .inl (cI, 24, .inl (zA U1))), (m7, .inl (cI, 16, .inl (zA b1)))] C (by omega) (by omega) rfl rfl rfl dX5_stand_6 rfl ?_
  refine zj_aload_n 8 0 C dX5_stand_7 rfl rfl rfl ?_
  refine zj_get 11 0 7 C (T := TX5) im_X5_stand_5 fl_X5_stand_22 rfl rfl (by decide) rfl rfl dX5_stand_8 rfl ?_
  refine zj_iload_n 12 1 C dX5_stand_11 rfl rfl rfl ?_
  refine zj_iload_n 13 3 C dX5_stand_12 rfl rfl rfl ?_
  refine zj_iast 14 3 [(q5, .inr (5, [.int (zI th), .ref m0, .ref m1, .int (zI sm), .ref m2, .int (zI ty), .ref m3, .ref m4, .ref m5, .ref m6, .ref m7, .ref m8, .int (zI pg), .int (zI rw), .int (zI un), .ref m9, .int (zI pm), .int (zI sp), .int (zI wr), .long ha])), (m0, .inl (cI, 74, .inl (zA Z1))), (m3, .inl (cI, 24, .inl (zA (zU P1 j1 p1)))), (m4, .inl (cI, 24, .inl (zA (zU R1 j1 r1)))), (m5, .inl (cI, 24, .inl (zA U1))), (m7, .inl (cI, 16, .inl (zA b1)))] C (by omega) (by omega) rfl rfl rfl dX5_stand_13 rfl ?_
  refine zj_aload_n 15 0 C dX5_stand_14 rfl rfl rfl ?_
  refine zj_get 18 0 8 C (T := TX5) im_X5_stand_5 fl_X5_stand_25 rfl rfl (by decide) rfl rfl dX5_stand_15 rfl ?_
  refine zj_iload_n 19 1 C dX5_stand_18 rfl rfl rfl ?_
  refine zj_iload 21 4 C dX5_stand_19 rfl rfl ?_
  refine zj_iast 22 4 [(q5, .inr (5, [.int (zI th), .ref m0, .ref m1, .int (zI sm), .ref m2, .int (zI ty), .ref m3, .ref m4, .ref m5, .ref m6, .ref m7, .ref m8, .int (zI pg), .int (zI rw), .int (zI un), .ref m9, .int (zI pm), .int (zI sp), .int (zI wr), .long ha])), (m0, .inl (cI, 74, .inl (zA Z1))), (m3, .inl (cI, 24, .inl (zA (zU P1 j1 p1)))), (m4, .inl (cI, 24, .inl (zA (zU R1 j1 r1)))), (m5, .inl (cI, 24, .inl (zA (zU U1 j1 u1)))), (m7, .inl (cI, 16, .inl (zA b1)))] C (by omega) (by omega) rfl rfl rfl dX5_stand_21 rfl ?_
  refine zj_aload_n 23 0 C dX5_stand_22 rfl rfl rfl ?_
  refine zj_get 26 0 10 C (T := TX5) im_X5_stand_5 fl_X5_stand_31 rfl rfl (by decide) rfl rfl dX5_stand_23 rfl ?_
  refine zj_iload_n 27 2 C dX5_stand_26 rfl rfl rfl ?_
  refine zj_dup2 28 C dX5_stand_27 rfl rfl rfl ?_
  refine zj_iald 29 5 C (by omega) (by omega) rfl rfl dX5_stand_28 rfl ?_
  refine zj_aload_n 30 0 C dX5_stand_29 rfl rfl rfl ?_
  refine zj_iload_n 31 1 C dX5_stand_30 rfl rfl rfl ?_
  refine zj_iconst 32 C dX5_stand_31 rfl ?_
  refine zj_ci 35 [0, 1] [2, 3, 4, 5] C (wr := [(m3, .inl (cI, 24, .inl (zA (zU P1 j1 p1)))), (m4, .inl (cI, 24, .inl (zA (zU R1 j1 r1)))), (m5, .inl (cI, 24, .inl (zA (zU U1 j1 u1)))), (m7, .inl (cI, 16, .inl (zA b1)))]) (zr_V [0, 1] C (As := [.int (zI j1), .int (zI 2)]) (rest := [.int (zI (b1 p1)), .int (zI p1), .ref m7]) (c_X5_of l D cI cS cJ q5 m0 m1 m2 m3 m4 m5 m6 m7 m8 m9 th sm ty pg rw un pm sp wr ha Z1 j1 2 (by omega) (by omega)) (cwV 2 C.1.2.2.2.2 gX5_stand_X5_of rfl rfl rfl (by decide +kernel) ⟨Nat.le_of_ble_eq_true rfl, Nat.le_of_ble_eq_true rfl⟩) rfl (by decide) 0 rfl rfl rfl rfl (Nat.le_of_ble_eq_true rfl) dX5_stand_32 ⟨Nat.le_of_ble_eq_true rfl, Nat.le_of_ble_eq_true rfl⟩) rfl rfl (by decide) (by decide) rfl (fun r_1 w_ hp_2 => ?_)
  obtain ⟨rfl, rfl⟩ := hp_2
  refine zj_ws (ws' := [(m3, .inl (cI, 24, .inl (zA (zU P1 j1 p1)))), (m4, .inl (cI, 24, .inl (zA (zU R1 j1 r1)))), (m5, .inl (cI, 24, .inl (zA (zU U1 j1 u1)))), (m7, .inl (cI, 16, .inl (zA b1))), (q5, .inr (5, [.int (zI th), .ref m0, .ref m1, .int (zI sm), .ref m2, .int (zI ty), .ref m3, .ref m4, .ref m5, .ref m6, .ref m7, .ref m8, .int (zI pg), .int (zI rw), .int (zI un), .ref m9, .int (zI pm), .int (zI sp), .int (zI wr), .long ha])), (m0, .inl (cI, 74, .inl (zA Z1)))]) rfl ?_
  refine zj_iadd 36 C dX5_stand_35 rfl ?_
  refine zj_iast 37 3 [(m3, .inl (cI, 24, .inl (zA (zU P1 j1 p1)))), (m4, .inl (cI, 24, .inl (zA (zU R1 j1 r1)))), (m5, .inl (cI, 24, .inl (zA (zU U1 j1 u1)))), (m7, .inl (cI, 16, .inl (zA (zU b1 p1 ((b1 p1) + (Z1 (2 + 3 * j1 + 2))))))), (q5, .inr (5, [.int (zI th), .ref m0, .ref m1, .int (zI sm), .ref m2, .int (zI ty), .ref m3, .ref m4, .ref m5, .ref m6, .ref m7, .ref m8, .int (zI pg), .int (zI rw), .int (zI un), .ref m9, .int (zI pm), .int (zI sp), .int (zI wr), .long ha])), (m0, .inl (cI, 74, .inl (zA Z1)))] C (by omega) (by omega) rfl rfl rfl dX5_stand_36 rfl ?_
  refine zj_re [4, 5, 0, 1, 2, 3] [(q5, .inr (5, [.int (zI th), .ref m0, .ref m1, .int (zI sm), .ref m2, .int (zI ty), .ref m3, .ref m4, .ref m5, .ref m6, .ref m7, .ref m8, .int (zI pg), .int (zI rw), .int (zI un), .ref m9, .int (zI pm), .int (zI sp), .int (zI wr), .long ha])), (m0, .inl (cI, 74, .inl (zA Z1))), (m3, .inl (cI, 24, .inl (zA (zU P1 j1 p1)))), (m4, .inl (cI, 24, .inl (zA (zU R1 j1 r1)))), (m5, .inl (cI, 24, .inl (zA (zU U1 j1 u1)))), (m7, .inl (cI, 16, .inl (zA (zU b1 p1 ((b1 p1) + (Z1 (2 + 3 * j1 + 2)))))))] (by decide) rfl ?_
  refine zj_ws (ws' := [(q5, .inr (5, [.int (zI th), .ref m0, .ref m1, .int (zI sm), .ref m2, .int (zI ty), .ref m3, .ref m4, .ref m5, .ref m6, .ref m7, .ref m8, .int (zI pg), .int (zI rw), .int (zI un), .ref m9, .int (zI pm), .int (zI sp), .int (zI wr), .long ha])), (m0, .inl (cI, 74, .inl (zA Z1))), (m3, .inl (cI, 24, .inl (zA (zU P1 j1 p1)))), (m4, .inl (cI, 24, .inl (zA (zU R1 j1 r1)))), (m5, .inl (cI, 24, .inl (zA (zU U1 j1 u1)))), (m7, .inl (cI, 16, .inl (zA (zU b1 p1 (b1 p1 + Z1 (2 + 3 * j1 + 2))))))]) (by rfl) ?_
  subst hQ
  exact zj_return C hr rfl (by decide) (by decide) dX5_stand_37

theorem fl_X5_pourWhole_47 : Cond.fieldLink RX5 47 "SplashPagesModel" "page" "I" ∈ wsX5_pourWhole := by decide +kernel
theorem im_X5_pourWhole_5 : ∀ w ∈ u_ws RX5 TX5 20, w ∈ wsX5_pourWhole := by decide +kernel
abbrev rm_X5_pourWhole : Room := { frames := 2, cells := 0, slots := 0, locals := 46 }
set_option maxRecDepth 100000 in
set_option maxHeartbeats 4000000 in
theorem c_X5_pourWhole (l : Launch) (D : va_G) (cI cS cJ : ClassId) (q5 : Nat) (m0 : Nat) (m1 : Nat) (m2 : Nat) (m3 : Nat) (m4 : Nat) (m5 : Nat) (m6 : Nat) (m7 : Nat) (m8 : Nat) (m9 : Nat) (th : Int) (sm : Int) (ty : Int) (pg : Int) (rw : Int) (un : Int) (pm : Int) (sp : Int) (wr : Int) (ha : Int64) (Z1 : Int → Int) (P1 : Int → Int) (R1 : Int → Int) (U1 : Int → Int) (G1 : Int → Int) (b1 : Int → Int) (c1 : Int → Int) (j1 : Int) (hp : 0 ≤ pg ∧ pg ≤ 16) (hr1 : 0 ≤ rw ∧ rw ≤ 3) (hu1 : 0 ≤ un ∧ un ≤ 6) (hj : 0 ≤ j1 ∧ j1 < 24) (hK : 2 ≤ Z1 (2 + 3 * j1 + 0) ∧ Z1 (2 + 3 * j1 + 0) ≤ 3) (hc : ∀ x, 0 ≤ c1 x ∧ c1 x ≤ 1000) : zMi l yX5_pourWhole wsX5_pourWhole rm_X5_pourWhole D (zTy cI cS cJ) [.ref q5, .int (zI j1)] [(q5, .inr (5, [.int (zI th), .ref m0, .ref m1, .int (zI sm), .ref m2, .int (zI ty), .ref m3, .ref m4, .ref m5, .ref m6, .ref m7, .ref m8, .int (zI pg), .int (zI rw), .int (zI un), .ref m9, .int (zI pm), .int (zI sp), .int (zI wr), .long ha])), (m0, .inl (cI, 74, .inl (zA Z1))), (m3, .inl (cI, 24, .inl (zA P1))), (m4, .inl (cI, 24, .inl (zA R1))), (m5, .inl (cI, 24, .inl (zA U1))), (m6, .inl (cI, 384, .inl (zA G1))), (m7, .inl (cI, 16, .inl (zA b1))), (m8, .inl (cI, 16, .inl (zA c1)))] (fun r w => ∃ (r1 : Int), ∃ (pg2 : Int), ∃ (rw2 : Int), ∃ (un2 : Int), ∃ (P2 : Int → Int), ∃ (R2 : Int → Int), ∃ (U2 : Int → Int), ∃ (G2 : Int → Int), ∃ (b2 : Int → Int), ∃ (c2 : Int → Int), ((r1 = 0 ∧ (zPlc (Z1 0) (Z1 (2 + 3 * j1 + 0)) (Z1 (2 + 3 * j1 + 1)) (Z1 (2 + 3 * j1 + 2)) pg rw un c1 b1).1 = -1 ∧ c2 = c1 ∧ b2 = b1 ∧ P2 = P1 ∧ R2 = R1 ∧ U2 = U1 ∧ G2 = G1) ∨ (r1 = 1 ∧ 0 ≤ (zPlc (Z1 0) (Z1 (2 + 3 * j1 + 0)) (Z1 (2 + 3 * j1 + 1)) (Z1 (2 + 3 * j1 + 2)) pg rw un c1 b1).1 ∧ P2 = zU P1 j1 (zPlc (Z1 0) (Z1 (2 + 3 * j1 + 0)) (Z1 (2 + 3 * j1 + 1)) (Z1 (2 + 3 * j1 + 2)) pg rw un c1 b1).1 ∧ R2 = zU R1 j1 (zPlc (Z1 0) (Z1 (2 + 3 * j1 + 0)) (Z1 (2 + 3 * j1 + 1)) (Z1 (2 + 3 * j1 + 2)) pg rw un c1 b1).2.1 ∧ U2 = zU U1 j1 (zPlc (Z1 0) (Z1 (2 + 3 * j1 + 0)) (Z1 (2 + 3 * j1 + 1)) (Z1 (2 + 3 * j1 + 2)) pg rw un c1 b1).2.2 ∧ G2 = zGr (Z1 (2 + 3 * j1 + 0)) (Z1 (2 + 3 * j1 + 1)) j1 (zPlc (Z1 0) (Z1 (2 + 3 * j1 + 0)) (Z1 (2 + 3 * j1 + 1)) (Z1 (2 + 3 * j1 + 2)) pg rw un c1 b1) G1 ∧ (pg2, rw2, un2, c2, b2) = zNxC (Z1 0) (Z1 (2 + 3 * j1 + 0)) (Z1 (2 + 3 * j1 + 1)) (Z1 (2 + 3 * j1 + 2)) pg rw un c1 b1)) ∧ r = zI r1 ∧ w = [(q5, .inr (5, [.int (zI th), .ref m0, .ref m1, .int (zI sm), .ref m2, .int (zI ty), .ref m3, .ref m4, .ref m5, .ref m6, .ref m7, .ref m8, .int (zI pg2), .int (zI rw2), .int (zI un2), .ref m9, .int (zI pm), .int (zI sp), .int (zI wr), .long ha])), (m0, .inl (cI, 74, .inl (zA Z1))), (m3, .inl (cI, 24, .inl (zA P2))), (m4, .inl (cI, 24, .inl (zA R2))), (m5, .inl (cI, 24, .inl (zA U2))), (m6, .inl (cI, 384, .inl (zA G2))), (m7, .inl (cI, 16, .inl (zA b2))), (m8, .inl (cI, 16, .inl (zA c2)))]) 0 0 := by
  intro sz
  refine zMet_of (Qc := fun A => va_Qi _ (zB D (zTy cI cS cJ) A) A) RX5 [(0, .ref q5), (1, .int (zI j1))] rfl (by decide +kernel) rfl (Nat.le_of_ble_eq_true rfl) rfl ?_ sz
  intro p e s m args below meth c A Q hQ C hr hini
  refine zj_aload_n 1 0 C dX5_pourWhole_0 rfl rfl rfl ?_
  refine zj_iload_n 2 1 C dX5_pourWhole_1 rfl rfl rfl ?_
  refine zj_iconst 3 C dX5_pourWhole_2 rfl ?_
  refine zj_ci 6 [0, 1] [2, 3, 4, 5, 6, 7] C (wr := [(m3, .inl (cI, 24, .inl (zA P1))), (m4, .inl (cI, 24, .inl (zA R1))), (m5, .inl (cI, 24, .inl (zA U1))), (m6, .inl (cI, 384, .inl (zA G1))), (m7, .inl (cI, 16, .inl (zA b1))), (m8, .inl (cI, 16, .inl (zA c1)))]) (zr_V [0, 1] C (As := [.int (zI j1), .int (zI 0)]) (rest := []) (c_X5_of l D cI cS cJ q5 m0 m1 m2 m3 m4 m5 m6 m7 m8 m9 th sm ty pg rw un pm sp wr ha Z1 j1 0 (by omega) (by omega)) (cwV 2 C.1.2.2.2.2 gX5_pourWhole_X5_of rfl rfl rfl (by decide +kernel) ⟨Nat.le_of_ble_eq_true rfl, Nat.le_of_ble_eq_true rfl⟩) rfl (by decide) 0 rfl rfl rfl rfl (Nat.le_of_ble_eq_true rfl) dX5_pourWhole_3 ⟨Nat.le_of_ble_eq_true rfl, Nat.le_of_ble_eq_true rfl⟩) rfl rfl (by decide) (by decide) rfl (fun r_1 w_ hp_2 => ?_)
  obtain ⟨rfl, rfl⟩ := hp_2
  refine zj_ws (ws' := [(m3, .inl (cI, 24, .inl (zA P1))), (m4, .inl (cI, 24, .inl (zA R1))), (m5, .inl (cI, 24, .inl (zA U1))), (m6, .inl (cI, 384, .inl (zA G1))), (m7, .inl (cI, 16, .inl (zA b1))), (m8, .inl (cI, 16, .inl (zA c1))), (q5, .inr (5, [.int (zI th), .ref m0, .ref m1, .int (zI sm), .ref m2, .int (zI ty), .ref m3, .ref m4, .ref m5, .ref m6, .ref m7, .ref m8, .int (zI pg), .int (zI rw), .int (zI un), .ref m9, .int (zI pm), .int (zI sp), .int (zI wr), .long ha])), (m0, .inl (cI, 74, .inl (zA Z1)))]) rfl ?_
  refine zj_iconst 7 C dX5_pourWhole_6 rfl ?_
  refine zj_icmp_ne 10 14 C (by omega) (by omega) dX5_pourWhole_7 rfl (by decide) (fun h7 => ?_) (fun h7 => ?_)
  · skip
    refine zj_iconst 15 C dX5_pourWhole_14 rfl ?_
    refine zj_istore_n 16 [(2, .int (zI 2)), (0, .ref q5), (1, .int (zI j1))] C dX5_pourWhole_15 rfl rfl (by decide) rfl ?_
    have hL16 : ∀ (tk : Int), (tk = Z1 (2 + 3 * j1 + 0) - 1) → zJ p l e rm_X5_pourWhole s m args below meth c Q D A 5 [(q5, .inr (5, [.int (zI th), .ref m0, .ref m1, .int (zI sm), .ref m2, .int (zI ty), .ref m3, .ref m4, .ref m5, .ref m6, .ref m7, .ref m8, .int (zI pg), .int (zI rw), .int (zI un), .ref m9, .int (zI pm), .int (zI sp), .int (zI wr), .long ha])), (m0, .inl (cI, 74, .inl (zA Z1))), (m3, .inl (cI, 24, .inl (zA P1))), (m4, .inl (cI, 24, .inl (zA R1))), (m5, .inl (cI, 24, .inl (zA U1))), (m6, .inl (cI, 384, .inl (zA G1))), (m7, .inl (cI, 16, .inl (zA b1))), (m8, .inl (cI, 16, .inl (zA c1)))] 0 0 [(0, .ref q5), (1, .int (zI j1)), (2, .int (zI tk))] 16 [] := by
      intro tk htk
      refine zj_aload_n 17 0 C dX5_pourWhole_16 rfl rfl rfl ?_
      refine zj_ci 20 [0, 7] [1, 2, 3, 4, 5, 6] C (wr := [(m0, .inl (cI, 74, .inl (zA Z1))), (m3, .inl (cI, 24, .inl (zA P1))), (m4, .inl (cI, 24, .inl (zA R1))), (m5, .inl (cI, 24, .inl (zA U1))), (m6, .inl (cI, 384, .inl (zA G1))), (m7, .inl (cI, 16, .inl (zA b1)))]) (zr_V [0, 7] C (As := []) (rest := []) (c_X5_isEmpty l D cI cS cJ q5 m0 m1 m2 m3 m4 m5 m6 m7 m8 m9 th sm ty pg rw un pm sp wr ha c1 (by omega) hc) (cwV 0 C.1.2.2.2.2 gX5_pourWhole_X5_isEmpty rfl rfl rfl (by decide +kernel) ⟨Nat.le_of_ble_eq_true rfl, Nat.le_of_ble_eq_true rfl⟩) rfl (by decide) 0 rfl rfl rfl rfl (Nat.le_of_ble_eq_true rfl) dX5_pourWhole_17 ⟨Nat.le_of_ble_eq_true rfl, Nat.le_of_ble_eq_true rfl⟩) rfl rfl (by decide) (by decide) rfl (fun r_3 w_ hp_4 => ?_)
      obtain ⟨r1_5, fe, rfl, rfl⟩ := hp_4
      refine zj_ws (ws' := [(m0, .inl (cI, 74, .inl (zA Z1))), (m3, .inl (cI, 24, .inl (zA P1))), (m4, .inl (cI, 24, .inl (zA R1))), (m5, .inl (cI, 24, .inl (zA U1))), (m6, .inl (cI, 384, .inl (zA G1))), (m7, .inl (cI, 16, .inl (zA b1))), (q5, .inr (5, [.int (zI th), .ref m0, .ref m1, .int (zI sm), .ref m2, .int (zI ty), .ref m3, .ref m4, .ref m5, .ref m6, .ref m7, .ref m8, .int (zI pg), .int (zI rw), .int (zI un), .ref m9, .int (zI pm), .int (zI sp), .int (zI wr), .long ha])), (m8, .inl (cI, 16, .inl (zA c1)))]) rfl ?_
      refine zj_if_eq 23 30 C (by omega) dX5_pourWhole_20 rfl (by decide) (fun h20 => ?_) (fun h20 => ?_)
      · skip
        refine zj_aload_n 31 0 C dX5_pourWhole_30 rfl rfl rfl ?_
        refine zj_get 34 6 12 C (T := TX5) im_X5_pourWhole_5 fl_X5_pourWhole_47 rfl rfl (by decide) rfl rfl dX5_pourWhole_31 rfl ?_
        refine zj_iconst 35 C dX5_pourWhole_34 rfl ?_
        refine zj_iadd 36 C dX5_pourWhole_35 rfl ?_
        refine zj_istore_n 37 [(3, .int (zI (pg + 1))), (0, .ref q5), (1, .int (zI j1)), (2, .int (zI tk))] C dX5_pourWhole_36 rfl rfl (by decide) rfl ?_
        have hL37 : ∀ (f0 : Int), (f0 = zF0 c1 pg) → (0 ≤ f0 ∧ f0 ≤ 17) → zJ p l e rm_X5_pourWhole s m args below meth c Q D A 5 [(q5, .inr (5, [.int (zI th), .ref m0, .ref m1, .int (zI sm), .ref m2, .int (zI ty), .ref m3, .ref m4, .ref m5, .ref m6, .ref m7, .ref m8, .int (zI pg), .int (zI rw), .int (zI un), .ref m9, .int (zI pm), .int (zI sp), .int (zI wr), .long ha])), (m0, .inl (cI, 74, .inl (zA Z1))), (m3, .inl (cI, 24, .inl (zA P1))), (m4, .inl (cI, 24, .inl (zA R1))), (m5, .inl (cI, 24, .inl (zA U1))), (m6, .inl (cI, 384, .inl (zA G1))), (m7, .inl (cI, 16, .inl (zA b1))), (m8, .inl (cI, 16, .inl (zA c1)))] 0 0 [(0, .ref q5), (1, .int (zI j1)), (2, .int (zI tk)), (3, .int (zI f0))] 37 [] := by
          intro f0 hf0 hf1
          refine zj_iload_n 38 3 C dX5_pourWhole_37 rfl rfl rfl ?_
          refine zj_iload_n 39 2 C dX5_pourWhole_38 rfl rfl rfl ?_
          refine zj_iconst 40 C dX5_pourWhole_39 rfl ?_
          refine zj_icmp_ne 43 49 C (by omega) (by omega) dX5_pourWhole_40 rfl (by decide) (fun h40 => ?_) (fun h40 => ?_)
          · skip
            refine zj_iconst 50 C dX5_pourWhole_49 rfl ?_
            refine zj_iadd 51 C dX5_pourWhole_50 rfl ?_
            refine zj_istore_n 52 [(3, .int (zI (f0 + 0))), (0, .ref q5), (1, .int (zI j1)), (2, .int (zI tk))] C dX5_pourWhole_51 rfl rfl (by decide) rfl ?_
            have hL52 : ∀ (F : Int), (F = zFst c1 pg tk) → (0 ≤ F ∧ F ≤ 18) → zJ p l e rm_X5_pourWhole s m args below meth c Q D A 5 [(q5, .inr (5, [.int (zI th), .ref m0, .ref m1, .int (zI sm), .ref m2, .int (zI ty), .ref m3, .ref m4, .ref m5, .ref m6, .ref m7, .ref m8, .int (zI pg), .int (zI rw), .int (zI un), .ref m9, .int (zI pm), .int (zI sp), .int (zI wr), .long ha])), (m0, .inl (cI, 74, .inl (zA Z1))), (m3, .inl (cI, 24, .inl (zA P1))), (m4, .inl (cI, 24, .inl (zA R1))), (m5, .inl (cI, 24, .inl (zA U1))), (m6, .inl (cI, 384, .inl (zA G1))), (m7, .inl (cI, 16, .inl (zA b1))), (m8, .inl (cI, 16, .inl (zA c1)))] 0 0 [(0, .ref q5), (1, .int (zI j1)), (2, .int (zI tk)), (3, .int (zI F))] 52 [] := by
              intro F hF hF2
              refine zj_iload_n 53 3 C dX5_pourWhole_52 rfl rfl rfl ?_
              refine zj_iload_n 54 2 C dX5_pourWhole_53 rfl rfl rfl ?_
              refine zj_iadd 55 C dX5_pourWhole_54 rfl ?_
              refine zj_bipush 57 C dX5_pourWhole_55 rfl rfl ?_
              refine zj_icmp_le 60 62 C (by omega) (by omega) dX5_pourWhole_57 rfl (by decide) (fun h57 => ?_) (fun h57 => ?_)
              · skip
                refine zj_aload_n 63 0 C dX5_pourWhole_62 rfl rfl rfl ?_
                refine zj_iload_n 64 1 C dX5_pourWhole_63 rfl rfl rfl ?_
                refine zj_iload_n 65 3 C dX5_pourWhole_64 rfl rfl rfl ?_
                refine zj_iconst 66 C dX5_pourWhole_65 rfl ?_
                refine zj_iconst 67 C dX5_pourWhole_66 rfl ?_
                refine zj_cv 70 [0, 1, 2, 3, 4, 6] [5, 7] C (wr := [(m6, .inl (cI, 384, .inl (zA G1))), (m8, .inl (cI, 16, .inl (zA c1)))]) (zr_V [0, 1, 2, 3, 4, 6] C (As := [.int (zI j1), .int (zI F), .int (zI (-1)), .int (zI (-1))]) (rest := []) (c_X5_stand l D cI cS cJ q5 m0 m1 m2 m3 m4 m5 m6 m7 m8 m9 th sm ty pg rw un pm sp wr ha Z1 P1 R1 U1 b1 j1 F (-1) (-1) (by omega) (by omega)) (cwV 4 C.1.2.2.2.2 gX5_pourWhole_X5_stand rfl rfl rfl (by decide +kernel) ⟨Nat.le_of_ble_eq_true rfl, Nat.le_of_ble_eq_true rfl⟩) rfl (by decide) 0 rfl rfl rfl rfl (Nat.le_of_ble_eq_true rfl) dX5_pourWhole_67 ⟨Nat.le_of_ble_eq_true rfl, Nat.le_of_ble_eq_true rfl⟩) rfl rfl (by decide) (by decide) rfl (fun w_ hp_7 => ?_)
                obtain rfl := hp_7
                refine zj_ws (ws' := [(m6, .inl (cI, 384, .inl (zA G1))), (m8, .inl (cI, 16, .inl (zA c1))), (q5, .inr (5, [.int (zI th), .ref m0, .ref m1, .int (zI sm), .ref m2, .int (zI ty), .ref m3, .ref m4, .ref m5, .ref m6, .ref m7, .ref m8, .int (zI pg), .int (zI rw), .int (zI un), .ref m9, .int (zI pm), .int (zI sp), .int (zI wr), .long ha])), (m0, .inl (cI, 74, .inl (zA Z1))), (m3, .inl (cI, 24, .inl (zA (zU P1 j1 F)))), (m4, .inl (cI, 24, .inl (zA (zU R1 j1 (-1))))), (m5, .inl (cI, 24, .inl (zA (zU U1 j1 (-1))))), (m7, .inl (cI, 16, .inl (zA (zU b1 F (b1 F + Z1 (2 + 3 * j1 + 2))))))]) rfl ?_
                refine zj_iconst 71 C dX5_pourWhole_70 rfl ?_
                refine zj_istore 73 [(4, .int (zI 0)), (0, .ref q5), (1, .int (zI j1)), (2, .int (zI tk)), (3, .int (zI F))] C dX5_pourWhole_71 rfl (by decide) rfl ?_
                refine zj_iload 75 0 C dX5_pourWhole_73 rfl rfl ?_
                refine zj_iload_n 76 3 C dX5_pourWhole_75 rfl rfl rfl ?_
                refine zj_icmp_ge 79 97 C (by omega) (by omega) dX5_pourWhole_76 rfl (by decide) (fun h76 => ?_) (fun h76 => ?_)
                · exact absurd h76 (by omega)
                · skip
                  refine zj_aload_n 80 1 C dX5_pourWhole_79 rfl rfl rfl ?_
                  refine zj_iload_n 81 2 C dX5_pourWhole_80 rfl rfl rfl ?_
                  refine zj_iload_n 82 4 C dX5_pourWhole_81 rfl rfl rfl ?_
                  refine zj_iload 84 0 C dX5_pourWhole_82 rfl rfl ?_
                  refine zj_iadd 85 C dX5_pourWhole_84 rfl ?_
                  refine zj_iconst 86 C dX5_pourWhole_85 rfl ?_
                  refine zj_bipush 88 C dX5_pourWhole_86 rfl rfl ?_
                  refine zj_cv 91 [2, 0, 1] [3, 4, 5, 6, 7] C (wr := [(m0, .inl (cI, 74, .inl (zA Z1))), (m3, .inl (cI, 24, .inl (zA (zU P1 j1 F)))), (m4, .inl (cI, 24, .inl (zA (zU R1 j1 (-1))))), (m5, .inl (cI, 24, .inl (zA (zU U1 j1 (-1))))), (m7, .inl (cI, 16, .inl (zA (zU b1 F (b1 F + Z1 (2 + 3 * j1 + 2))))))]) (zr_V [2, 0, 1] C (As := [.int (zI j1), .int (zI (F + 0)), .int (zI 0), .int (zI 24)]) (rest := []) (c_X5_mark l D cI cS cJ q5 m0 m1 m2 m3 m4 m5 m6 m7 m8 m9 th sm ty pg rw un pm sp wr ha c1 G1 j1 (F + 0) 0 24 (by omega) (by omega)) (cwV 4 C.1.2.2.2.2 gX5_pourWhole_X5_mark rfl rfl rfl (by decide +kernel) ⟨Nat.le_of_ble_eq_true rfl, Nat.le_of_ble_eq_true rfl⟩) rfl (by decide) 0 rfl rfl rfl rfl (Nat.le_of_ble_eq_true rfl) dX5_pourWhole_88 ⟨Nat.le_of_ble_eq_true rfl, Nat.le_of_ble_eq_true rfl⟩) rfl rfl (by decide) (by decide) rfl (fun w_ hp_9 => ?_)
                  obtain rfl := hp_9
                  refine zj_ws (ws' := [(m0, .inl (cI, 74, .inl (zA Z1))), (m3, .inl (cI, 24, .inl (zA (zU P1 j1 F)))), (m4, .inl (cI, 24, .inl (zA (zU R1 j1 (-1))))), (m5, .inl (cI, 24, .inl (zA (zU U1 j1 (-1))))), (m7, .inl (cI, 16, .inl (zA (zU b1 F (b1 F + Z1 (2 + 3 * j1 + 2)))))), (q5, .inr (5, [.int (zI th), .ref m0, .ref m1, .int (zI sm), .ref m2, .int (zI ty), .ref m3, .ref m4, .ref m5, .ref m6, .ref m7, .ref m8, .int (zI pg), .int (zI rw), .int (zI un), .ref m9, .int (zI pm), .int (zI sp), .int (zI wr), .long ha])), (m6, .inl (cI, 384, .inl (zA (zMk G1 (24 * (F + 0) + 0) 24 j1)))), (m8, .inl (cI, 16, .inl (zA (zU c1 (F + 0) (c1 (F + 0) + 1)))))]) rfl ?_
                  refine zj_iinc 94 0 [(4, .int (zI (0 + 1))), (0, .ref q5), (1, .int (zI j1)), (2, .int (zI tk)), (3, .int (zI F))] C dX5_pourWhole_91 rfl rfl (by decide) rfl ?_
                  refine zj_goto 73 C dX5_pourWhole_94 (by decide) ?_
                  refine zj_iload 75 0 C dX5_pourWhole_73 rfl rfl ?_
                  refine zj_iload_n 76 3 C dX5_pourWhole_75 rfl rfl rfl ?_
                  refine zj_icmp_ge 79 97 C (by omega) (by omega) dX5_pourWhole_76 rfl (by decide) (fun h76 => ?_) (fun h76 => ?_)
                  · skip
                    refine zj_aload_n 98 1 C dX5_pourWhole_97 rfl rfl rfl ?_
                    refine zj_iload_n 99 4 C dX5_pourWhole_98 rfl rfl rfl ?_
                    refine zj_iload_n 100 3 C dX5_pourWhole_99 rfl rfl rfl ?_
                    refine zj_iadd 101 C dX5_pourWhole_100 rfl ?_
                    refine zj_cv 104 [5] [0, 1, 2, 3, 4, 6, 7] C (wr := [(m0, .inl (cI, 74, .inl (zA Z1))), (m3, .inl (cI, 24, .inl (zA (zU P1 j1 F)))), (m4, .inl (cI, 24, .inl (zA (zU R1 j1 (-1))))), (m5, .inl (cI, 24, .inl (zA (zU U1 j1 (-1))))), (m7, .inl (cI, 16, .inl (zA (zU b1 F (b1 F + Z1 (2 + 3 * j1 + 2)))))), (m6, .inl (cI, 384, .inl (zA (zMk G1 (24 * (F + 0) + 0) 24 j1)))), (m8, .inl (cI, 16, .inl (zA (zU c1 (F + 0) (c1 (F + 0) + 1)))))]) (zr_V [5] C (As := [.int (zI (F + tk))]) (rest := []) (c_X5_nextPage l D cI cS cJ q5 m0 m1 m2 m3 m4 m5 m6 m7 m8 m9 th sm ty pg rw un pm sp wr ha (F + tk)) (cwV 1 C.1.2.2.2.2 gX5_pourWhole_X5_nextPage rfl rfl rfl (by decide +kernel) ⟨Nat.le_of_ble_eq_true rfl, Nat.le_of_ble_eq_true rfl⟩) rfl (by decide) 0 rfl rfl rfl rfl (Nat.le_of_ble_eq_true rfl) dX5_pourWhole_101 ⟨Nat.le_of_ble_eq_true rfl, Nat.le_of_ble_eq_true rfl⟩) rfl rfl (by decide) (by decide) rfl (fun w_ hp_11 => ?_)
                    obtain rfl := hp_11
                    refine zj_ws (ws' := [(m0, .inl (cI, 74, .inl (zA Z1))), (m3, .inl (cI, 24, .inl (zA (zU P1 j1 F)))), (m4, .inl (cI, 24, .inl (zA (zU R1 j1 (-1))))), (m5, .inl (cI, 24, .inl (zA (zU U1 j1 (-1))))), (m7, .inl (cI, 16, .inl (zA (zU b1 F (b1 F + Z1 (2 + 3 * j1 + 2)))))), (m6, .inl (cI, 384, .inl (zA (zMk G1 (24 * (F + 0) + 0) 24 j1)))), (m8, .inl (cI, 16, .inl (zA (zU c1 (F + 0) (c1 (F + 0) + 1))))), (q5, .inr (5, [.int (zI th), .ref m0, .ref m1, .int (zI sm), .ref m2, .int (zI ty), .ref m3, .ref m4, .ref m5, .ref m6, .ref m7, .ref m8, .int (zI (F + tk)), .int (zI 0), .int (zI 0), .ref m9, .int (zI pm), .int (zI sp), .int (zI wr), .long ha]))]) rfl ?_
                    refine zj_iconst 105 C dX5_pourWhole_104 rfl ?_
                    refine zj_re [7, 0, 1, 2, 3, 5, 4, 6] [(q5, .inr (5, [.int (zI th), .ref m0, .ref m1, .int (zI sm), .ref m2, .int (zI ty), .ref m3, .ref m4, .ref m5, .ref m6, .ref m7, .ref m8, .int (zI (F + tk)), .int (zI 0), .int (zI 0), .ref m9, .int (zI pm), .int (zI sp), .int (zI wr), .long ha])), (m0, .inl (cI, 74, .inl (zA Z1))), (m3, .inl (cI, 24, .inl (zA (zU P1 j1 F)))), (m4, .inl (cI, 24, .inl (zA (zU R1 j1 (-1))))), (m5, .inl (cI, 24, .inl (zA (zU U1 j1 (-1))))), (m6, .inl (cI, 384, .inl (zA (zMk G1 (24 * (F + 0) + 0) 24 j1)))), (m7, .inl (cI, 16, .inl (zA (zU b1 F (b1 F + Z1 (2 + 3 * j1 + 2)))))), (m8, .inl (cI, 16, .inl (zA (zU c1 (F + 0) (c1 (F + 0) + 1)))))] (by decide) rfl ?_
                    subst hQ
                    exact zj_zret C (zI_bool (by omega)) hr ⟨1, (F + tk), 0, 0, (zU P1 j1 F), (zU R1 j1 (-1)), (zU U1 j1 (-1)), (zMk G1 (24 * (F + 0) + 0) 24 j1), (zU b1 F (b1 F + Z1 (2 + 3 * j1 + 2))), (zU c1 (F + 0) (c1 (F + 0) + 1)), (by
        have e : zPlc (Z1 0) (Z1 (2 + 3 * j1 + 0)) (Z1 (2 + 3 * j1 + 1)) (Z1 (2 + 3 * j1 + 2)) pg rw un c1 b1 = (F, -1, -1) := by unfold zPlc; rw [if_neg (by omega), ← htk, ← hF, if_pos (by omega)]
        refine Or.inr ⟨rfl, by rw [e]; exact hF2.1, by rw [e], by rw [e], by rw [e], ?_, ?_⟩
        · unfold zGr
          rw [if_neg (by omega), if_pos (by omega), e]
          rw [show 24 * (F + 0) + 0 = 24 * F by omega]
        · unfold zNxC
          rw [if_neg (by omega), if_neg (by omega), e, ← htk]
          rw [Int.add_zero]), rfl, rfl⟩ (by decide) (by decide) dX5_pourWhole_105
                  · skip
                    refine zj_aload_n 80 1 C dX5_pourWhole_79 rfl rfl rfl ?_
                    refine zj_iload_n 81 2 C dX5_pourWhole_80 rfl rfl rfl ?_
                    refine zj_iload_n 82 4 C dX5_pourWhole_81 rfl rfl rfl ?_
                    refine zj_iload 84 0 C dX5_pourWhole_82 rfl rfl ?_
                    refine zj_iadd 85 C dX5_pourWhole_84 rfl ?_
                    refine zj_iconst 86 C dX5_pourWhole_85 rfl ?_
                    refine zj_bipush 88 C dX5_pourWhole_86 rfl rfl ?_
                    refine zj_cv 91 [5, 6, 7] [0, 1, 2, 3, 4] C (wr := [(m0, .inl (cI, 74, .inl (zA Z1))), (m3, .inl (cI, 24, .inl (zA (zU P1 j1 F)))), (m4, .inl (cI, 24, .inl (zA (zU R1 j1 (-1))))), (m5, .inl (cI, 24, .inl (zA (zU U1 j1 (-1))))), (m7, .inl (cI, 16, .inl (zA (zU b1 F (b1 F + Z1 (2 + 3 * j1 + 2))))))]) (zr_V [5, 6, 7] C (As := [.int (zI j1), .int (zI (F + (0 + 1))), .int (zI 0), .int (zI 24)]) (rest := []) (c_X5_mark l D cI cS cJ q5 m0 m1 m2 m3 m4 m5 m6 m7 m8 m9 th sm ty pg rw un pm sp wr ha (zU c1 (F + 0) (c1 (F + 0) + 1)) (zMk G1 (24 * (F + 0) + 0) 24 j1) j1 (F + (0 + 1)) 0 24 (by omega) (by omega)) (cwV 4 C.1.2.2.2.2 gX5_pourWhole_X5_mark rfl rfl rfl (by decide +kernel) ⟨Nat.le_of_ble_eq_true rfl, Nat.le_of_ble_eq_true rfl⟩) rfl (by decide) 0 rfl rfl rfl rfl (Nat.le_of_ble_eq_true rfl) dX5_pourWhole_88 ⟨Nat.le_of_ble_eq_true rfl, Nat.le_of_ble_eq_true rfl⟩) rfl rfl (by decide) (by decide) rfl (fun w_ hp_13 => ?_)
                    obtain rfl := hp_13
                    refine zj_ws (ws' := [(m0, .inl (cI, 74, .inl (zA Z1))), (m3, .inl (cI, 24, .inl (zA (zU P1 j1 F)))), (m4, .inl (cI, 24, .inl (zA (zU R1 j1 (-1))))), (m5, .inl (cI, 24, .inl (zA (zU U1 j1 (-1))))), (m7, .inl (cI, 16, .inl (zA (zU b1 F (b1 F + Z1 (2 + 3 * j1 + 2)))))), (q5, .inr (5, [.int (zI th), .ref m0, .ref m1, .int (zI sm), .ref m2, .int (zI ty), .ref m3, .ref m4, .ref m5, .ref m6, .ref m7, .ref m8, .int (zI pg), .int (zI rw), .int (zI un), .ref m9, .int (zI pm), .int (zI sp), .int (zI wr), .long ha])), (m6, .inl (cI, 384, .inl (zA (zMk (zMk G1 (24 * (F + 0) + 0) 24 j1) (24 * (F + (0 + 1)) + 0) 24 j1)))), (m8, .inl (cI, 16, .inl (zA (zU (zU c1 (F + 0) (c1 (F + 0) + 1)) (F + (0 + 1)) ((zU c1 (F + 0) (c1 (F + 0) + 1)) (F + (0 + 1)) + 1)))))]) rfl ?_
                    refine zj_iinc 94 0 [(4, .int (zI ((0 + 1) + 1))), (0, .ref q5), (1, .int (zI j1)), (2, .int (zI tk)), (3, .int (zI F))] C dX5_pourWhole_91 rfl rfl (by decide) rfl ?_
                    refine zj_goto 73 C dX5_pourWhole_94 (by decide) ?_
                    refine zj_iload 75 0 C dX5_pourWhole_73 rfl rfl ?_
                    refine zj_iload_n 76 3 C dX5_pourWhole_75 rfl rfl rfl ?_
                    refine zj_icmp_ge 79 97 C (by omega) (by omega) dX5_pourWhole_76 rfl (by decide) (fun h76 => ?_) (fun h76 => ?_)
                    · skip
                      refine zj_aload_n 98 1 C dX5_pourWhole_97 rfl rfl rfl ?_
                      refine zj_iload_n 99 4 C dX5_pourWhole_98 rfl rfl rfl ?_
                      refine zj_iload_n 100 3 C dX5_pourWhole_99 rfl rfl rfl ?_
                      refine zj_iadd 101 C dX5_pourWhole_100 rfl ?_
                      refine zj_cv 104 [5] [0, 1, 2, 3, 4, 6, 7] C (wr := [(m0, .inl (cI, 74, .inl (zA Z1))), (m3, .inl (cI, 24, .inl (zA (zU P1 j1 F)))), (m4, .inl (cI, 24, .inl (zA (zU R1 j1 (-1))))), (m5, .inl (cI, 24, .inl (zA (zU U1 j1 (-1))))), (m7, .inl (cI, 16, .inl (zA (zU b1 F (b1 F + Z1 (2 + 3 * j1 + 2)))))), (m6, .inl (cI, 384, .inl (zA (zMk (zMk G1 (24 * (F + 0) + 0) 24 j1) (24 * (F + (0 + 1)) + 0) 24 j1)))), (m8, .inl (cI, 16, .inl (zA (zU (zU c1 (F + 0) (c1 (F + 0) + 1)) (F + (0 + 1)) ((zU c1 (F + 0) (c1 (F + 0) + 1)) (F + (0 + 1)) + 1)))))]) (zr_V [5] C (As := [.int (zI (F + tk))]) (rest := []) (c_X5_nextPage l D cI cS cJ q5 m0 m1 m2 m3 m4 m5 m6 m7 m8 m9 th sm ty pg rw un pm sp wr ha (F + tk)) (cwV 1 C.1.2.2.2.2 gX5_pourWhole_X5_nextPage rfl rfl rfl (by decide +kernel) ⟨Nat.le_of_ble_eq_true rfl, Nat.le_of_ble_eq_true rfl⟩) rfl (by decide) 0 rfl rfl rfl rfl (Nat.le_of_ble_eq_true rfl) dX5_pourWhole_101 ⟨Nat.le_of_ble_eq_true rfl, Nat.le_of_ble_eq_true rfl⟩) rfl rfl (by decide) (by decide) rfl (fun w_ hp_15 => ?_)
                      obtain rfl := hp_15
                      refine zj_ws (ws' := [(m0, .inl (cI, 74, .inl (zA Z1))), (m3, .inl (cI, 24, .inl (zA (zU P1 j1 F)))), (m4, .inl (cI, 24, .inl (zA (zU R1 j1 (-1))))), (m5, .inl (cI, 24, .inl (zA (zU U1 j1 (-1))))), (m7, .inl (cI, 16, .inl (zA (zU b1 F (b1 F + Z1 (2 + 3 * j1 + 2)))))), (m6, .inl (cI, 384, .inl (zA (zMk (zMk G1 (24 * (F + 0) + 0) 24 j1) (24 * (F + (0 + 1)) + 0) 24 j1)))), (m8, .inl (cI, 16, .inl (zA (zU (zU c1 (F + 0) (c1 (F + 0) + 1)) (F + (0 + 1)) ((zU c1 (F + 0) (c1 (F + 0) + 1)) (F + (0 + 1)) + 1))))), (q5, .inr (5, [.int (zI th), .ref m0, .ref m1, .int (zI sm), .ref m2, .int (zI ty), .ref m3, .ref m4, .ref m5, .ref m6, .ref m7, .ref m8, .int (zI (F + tk)), .int (zI 0), .int (zI 0), .ref m9, .int (zI pm), .int (zI sp), .int (zI wr), .long ha]))]) rfl ?_
                      refine zj_iconst 105 C dX5_pourWhole_104 rfl ?_
                      refine zj_re [7, 0, 1, 2, 3, 5, 4, 6] [(q5, .inr (5, [.int (zI th), .ref m0, .ref m1, .int (zI sm), .ref m2, .int (zI ty), .ref m3, .ref m4, .ref m5, .ref m6, .ref m7, .ref m8, .int (zI (F + tk)), .int (zI 0), .int (zI 0), .ref m9, .int (zI pm), .int (zI sp), .int (zI wr), .long ha])), (m0, .inl (cI, 74, .inl (zA Z1))), (m3, .inl (cI, 24, .inl (zA (zU P1 j1 F)))), (m4, .inl (cI, 24, .inl (zA (zU R1 j1 (-1))))), (m5, .inl (cI, 24, .inl (zA (zU U1 j1 (-1))))), (m6, .inl (cI, 384, .inl (zA (zMk (zMk G1 (24 * (F + 0) + 0) 24 j1) (24 * (F + (0 + 1)) + 0) 24 j1)))), (m7, .inl (cI, 16, .inl (zA (zU b1 F (b1 F + Z1 (2 + 3 * j1 + 2)))))), (m8, .inl (cI, 16, .inl (zA (zU (zU c1 (F + 0) (c1 (F + 0) + 1)) (F + (0 + 1)) ((zU c1 (F + 0) (c1 (F + 0) + 1)) (F + (0 + 1)) + 1)))))] (by decide) rfl ?_
                      subst hQ
                      exact zj_zret C (zI_bool (by omega)) hr ⟨1, (F + tk), 0, 0, (zU P1 j1 F), (zU R1 j1 (-1)), (zU U1 j1 (-1)), (zMk (zMk G1 (24 * (F + 0) + 0) 24 j1) (24 * (F + (0 + 1)) + 0) 24 j1), (zU b1 F (b1 F + Z1 (2 + 3 * j1 + 2))), (zU (zU c1 (F + 0) (c1 (F + 0) + 1)) (F + (0 + 1)) ((zU c1 (F + 0) (c1 (F + 0) + 1)) (F + (0 + 1)) + 1)), (by
        have e : zPlc (Z1 0) (Z1 (2 + 3 * j1 + 0)) (Z1 (2 + 3 * j1 + 1)) (Z1 (2 + 3 * j1 + 2)) pg rw un c1 b1 = (F, -1, -1) := by unfold zPlc; rw [if_neg (by omega), ← htk, ← hF, if_pos (by omega)]
        refine Or.inr ⟨rfl, by rw [e]; exact hF2.1, by rw [e], by rw [e], by rw [e], ?_, ?_⟩
        · unfold zGr
          rw [if_neg (by omega), if_neg (by omega), e]
          rw [show 24 * (F + 0) + 0 = 24 * F by omega, show 24 * (F + (0 + 1)) + 0 = 24 * (F + 1) by omega]
        · unfold zNxC
          rw [if_neg (by omega), if_pos (by omega), e, ← htk]
          rw [Int.add_zero]; rfl), rfl, rfl⟩ (by decide) (by decide) dX5_pourWhole_105
                    · exact absurd h76 (by omega)
              · skip
                refine zj_iconst 61 C dX5_pourWhole_60 rfl ?_
                subst hQ
                exact zj_zret C (zI_bool (by omega)) hr ⟨0, pg, rw, un, P1, R1, U1, G1, b1, c1, (by exact Or.inl ⟨rfl, by unfold zPlc; rw [if_neg (by omega), ← htk, ← hF, if_neg (by omega)], rfl, rfl, rfl, rfl, rfl, rfl⟩), rfl, rfl⟩ (by decide) (by decide) dX5_pourWhole_61
            refine zj_lv [1, 2, 3, 0] [(0, .ref q5), (1, .int (zI j1)), (2, .int (zI tk)), (3, .int (zI (f0 + 0)))] rfl ?_
            exact hL52 (f0 + 0) (by unfold zFst; rw [← hf0]; split <;> omega) (by omega)
          · skip
            refine zj_iload_n 44 3 C dX5_pourWhole_43 rfl rfl rfl ?_
            refine zj_iconst 45 C dX5_pourWhole_44 rfl ?_
            refine zj_irem2 46 C dX5_pourWhole_45 rfl (by omega) ?_
            refine zj_goto 50 C dX5_pourWhole_46 (by decide) ?_
            refine zj_iadd 51 C dX5_pourWhole_50 rfl ?_
            refine zj_istore_n 52 [(3, .int (zI (f0 + (f0 % 2)))), (0, .ref q5), (1, .int (zI j1)), (2, .int (zI tk))] C dX5_pourWhole_51 rfl rfl (by decide) rfl ?_
            have hL52 : ∀ (F : Int), (F = zFst c1 pg tk) → (0 ≤ F ∧ F ≤ 18) → zJ p l e rm_X5_pourWhole s m args below meth c Q D A 5 [(q5, .inr (5, [.int (zI th), .ref m0, .ref m1, .int (zI sm), .ref m2, .int (zI ty), .ref m3, .ref m4, .ref m5, .ref m6, .ref m7, .ref m8, .int (zI pg), .int (zI rw), .int (zI un), .ref m9, .int (zI pm), .int (zI sp), .int (zI wr), .long ha])), (m0, .inl (cI, 74, .inl (zA Z1))), (m3, .inl (cI, 24, .inl (zA P1))), (m4, .inl (cI, 24, .inl (zA R1))), (m5, .inl (cI, 24, .inl (zA U1))), (m6, .inl (cI, 384, .inl (zA G1))), (m7, .inl (cI, 16, .inl (zA b1))), (m8, .inl (cI, 16, .inl (zA c1)))] 0 0 [(0, .ref q5), (1, .int (zI j1)), (2, .int (zI tk)), (3, .int (zI F))] 52 [] := by
              intro F hF hF2
              refine zj_iload_n 53 3 C dX5_pourWhole_52 rfl rfl rfl ?_
              refine zj_iload_n 54 2 C dX5_pourWhole_53 rfl rfl rfl ?_
              refine zj_iadd 55 C dX5_pourWhole_54 rfl ?_
              refine zj_bipush 57 C dX5_pourWhole_55 rfl rfl ?_
              refine zj_icmp_le 60 62 C (by omega) (by omega) dX5_pourWhole_57 rfl (by decide) (fun h57 => ?_) (fun h57 => ?_)
              · skip
                refine zj_aload_n 63 0 C dX5_pourWhole_62 rfl rfl rfl ?_
                refine zj_iload_n 64 1 C dX5_pourWhole_63 rfl rfl rfl ?_
                refine zj_iload_n 65 3 C dX5_pourWhole_64 rfl rfl rfl ?_
                refine zj_iconst 66 C dX5_pourWhole_65 rfl ?_
                refine zj_iconst 67 C dX5_pourWhole_66 rfl ?_
                refine zj_cv 70 [0, 1, 2, 3, 4, 6] [5, 7] C (wr := [(m6, .inl (cI, 384, .inl (zA G1))), (m8, .inl (cI, 16, .inl (zA c1)))]) (zr_V [0, 1, 2, 3, 4, 6] C (As := [.int (zI j1), .int (zI F), .int (zI (-1)), .int (zI (-1))]) (rest := []) (c_X5_stand l D cI cS cJ q5 m0 m1 m2 m3 m4 m5 m6 m7 m8 m9 th sm ty pg rw un pm sp wr ha Z1 P1 R1 U1 b1 j1 F (-1) (-1) (by omega) (by omega)) (cwV 4 C.1.2.2.2.2 gX5_pourWhole_X5_stand rfl rfl rfl (by decide +kernel) ⟨Nat.le_of_ble_eq_true rfl, Nat.le_of_ble_eq_true rfl⟩) rfl (by decide) 0 rfl rfl rfl rfl (Nat.le_of_ble_eq_true rfl) dX5_pourWhole_67 ⟨Nat.le_of_ble_eq_true rfl, Nat.le_of_ble_eq_true rfl⟩) rfl rfl (by decide) (by decide) rfl (fun w_ hp_17 => ?_)
                obtain rfl := hp_17
                refine zj_ws (ws' := [(m6, .inl (cI, 384, .inl (zA G1))), (m8, .inl (cI, 16, .inl (zA c1))), (q5, .inr (5, [.int (zI th), .ref m0, .ref m1, .int (zI sm), .ref m2, .int (zI ty), .ref m3, .ref m4, .ref m5, .ref m6, .ref m7, .ref m8, .int (zI pg), .int (zI rw), .int (zI un), .ref m9, .int (zI pm), .int (zI sp), .int (zI wr), .long ha])), (m0, .inl (cI, 74, .inl (zA Z1))), (m3, .inl (cI, 24, .inl (zA (zU P1 j1 F)))), (m4, .inl (cI, 24, .inl (zA (zU R1 j1 (-1))))), (m5, .inl (cI, 24, .inl (zA (zU U1 j1 (-1))))), (m7, .inl (cI, 16, .inl (zA (zU b1 F (b1 F + Z1 (2 + 3 * j1 + 2))))))]) rfl ?_
                refine zj_iconst 71 C dX5_pourWhole_70 rfl ?_
                refine zj_istore 73 [(4, .int (zI 0)), (0, .ref q5), (1, .int (zI j1)), (2, .int (zI tk)), (3, .int (zI F))] C dX5_pourWhole_71 rfl (by decide) rfl ?_
                refine zj_iload 75 0 C dX5_pourWhole_73 rfl rfl ?_
                refine zj_iload_n 76 3 C dX5_pourWhole_75 rfl rfl rfl ?_
                refine zj_icmp_ge 79 97 C (by omega) (by omega) dX5_pourWhole_76 rfl (by decide) (fun h76 => ?_) (fun h76 => ?_)
                · exact absurd h76 (by omega)
                · skip
                  refine zj_aload_n 80 1 C dX5_pourWhole_79 rfl rfl rfl ?_
                  refine zj_iload_n 81 2 C dX5_pourWhole_80 rfl rfl rfl ?_
                  refine zj_iload_n 82 4 C dX5_pourWhole_81 rfl rfl rfl ?_
                  refine zj_iload 84 0 C dX5_pourWhole_82 rfl rfl ?_
                  refine zj_iadd 85 C dX5_pourWhole_84 rfl ?_
                  refine zj_iconst 86 C dX5_pourWhole_85 rfl ?_
                  refine zj_bipush 88 C dX5_pourWhole_86 rfl rfl ?_
                  refine zj_cv 91 [2, 0, 1] [3, 4, 5, 6, 7] C (wr := [(m0, .inl (cI, 74, .inl (zA Z1))), (m3, .inl (cI, 24, .inl (zA (zU P1 j1 F)))), (m4, .inl (cI, 24, .inl (zA (zU R1 j1 (-1))))), (m5, .inl (cI, 24, .inl (zA (zU U1 j1 (-1))))), (m7, .inl (cI, 16, .inl (zA (zU b1 F (b1 F + Z1 (2 + 3 * j1 + 2))))))]) (zr_V [2, 0, 1] C (As := [.int (zI j1), .int (zI (F + 0)), .int (zI 0), .int (zI 24)]) (rest := []) (c_X5_mark l D cI cS cJ q5 m0 m1 m2 m3 m4 m5 m6 m7 m8 m9 th sm ty pg rw un pm sp wr ha c1 G1 j1 (F + 0) 0 24 (by omega) (by omega)) (cwV 4 C.1.2.2.2.2 gX5_pourWhole_X5_mark rfl rfl rfl (by decide +kernel) ⟨Nat.le_of_ble_eq_true rfl, Nat.le_of_ble_eq_true rfl⟩) rfl (by decide) 0 rfl rfl rfl rfl (Nat.le_of_ble_eq_true rfl) dX5_pourWhole_88 ⟨Nat.le_of_ble_eq_true rfl, Nat.le_of_ble_eq_true rfl⟩) rfl rfl (by decide) (by decide) rfl (fun w_ hp_19 => ?_)
                  obtain rfl := hp_19
                  refine zj_ws (ws' := [(m0, .inl (cI, 74, .inl (zA Z1))), (m3, .inl (cI, 24, .inl (zA (zU P1 j1 F)))), (m4, .inl (cI, 24, .inl (zA (zU R1 j1 (-1))))), (m5, .inl (cI, 24, .inl (zA (zU U1 j1 (-1))))), (m7, .inl (cI, 16, .inl (zA (zU b1 F (b1 F + Z1 (2 + 3 * j1 + 2)))))), (q5, .inr (5, [.int (zI th), .ref m0, .ref m1, .int (zI sm), .ref m2, .int (zI ty), .ref m3, .ref m4, .ref m5, .ref m6, .ref m7, .ref m8, .int (zI pg), .int (zI rw), .int (zI un), .ref m9, .int (zI pm), .int (zI sp), .int (zI wr), .long ha])), (m6, .inl (cI, 384, .inl (zA (zMk G1 (24 * (F + 0) + 0) 24 j1)))), (m8, .inl (cI, 16, .inl (zA (zU c1 (F + 0) (c1 (F + 0) + 1)))))]) rfl ?_
                  refine zj_iinc 94 0 [(4, .int (zI (0 + 1))), (0, .ref q5), (1, .int (zI j1)), (2, .int (zI tk)), (3, .int (zI F))] C dX5_pourWhole_91 rfl rfl (by decide) rfl ?_
                  refine zj_goto 73 C dX5_pourWhole_94 (by decide) ?_
                  refine zj_iload 75 0 C dX5_pourWhole_73 rfl rfl ?_
                  refine zj_iload_n 76 3 C dX5_pourWhole_75 rfl rfl rfl ?_
                  refine zj_icmp_ge 79 97 C (by omega) (by omega) dX5_pourWhole_76 rfl (by decide) (fun h76 => ?_) (fun h76 => ?_)
                  · skip
                    refine zj_aload_n 98 1 C dX5_pourWhole_97 rfl rfl rfl ?_
                    refine zj_iload_n 99 4 C dX5_pourWhole_98 rfl rfl rfl ?_
                    refine zj_iload_n 100 3 C dX5_pourWhole_99 rfl rfl rfl ?_
                    refine zj_iadd 101 C dX5_pourWhole_100 rfl ?_
                    refine zj_cv 104 [5] [0, 1, 2, 3, 4, 6, 7] C (wr := [(m0, .inl (cI, 74, .inl (zA Z1))), (m3, .inl (cI, 24, .inl (zA (zU P1 j1 F)))), (m4, .inl (cI, 24, .inl (zA (zU R1 j1 (-1))))), (m5, .inl (cI, 24, .inl (zA (zU U1 j1 (-1))))), (m7, .inl (cI, 16, .inl (zA (zU b1 F (b1 F + Z1 (2 + 3 * j1 + 2)))))), (m6, .inl (cI, 384, .inl (zA (zMk G1 (24 * (F + 0) + 0) 24 j1)))), (m8, .inl (cI, 16, .inl (zA (zU c1 (F + 0) (c1 (F + 0) + 1)))))]) (zr_V [5] C (As := [.int (zI (F + tk))]) (rest := []) (c_X5_nextPage l D cI cS cJ q5 m0 m1 m2 m3 m4 m5 m6 m7 m8 m9 th sm ty pg rw un pm sp wr ha (F + tk)) (cwV 1 C.1.2.2.2.2 gX5_pourWhole_X5_nextPage rfl rfl rfl (by decide +kernel) ⟨Nat.le_of_ble_eq_true rfl, Nat.le_of_ble_eq_true rfl⟩) rfl (by decide) 0 rfl rfl rfl rfl (Nat.le_of_ble_eq_true rfl) dX5_pourWhole_101 ⟨Nat.le_of_ble_eq_true rfl, Nat.le_of_ble_eq_true rfl⟩) rfl rfl (by decide) (by decide) rfl (fun w_ hp_21 => ?_)
                    obtain rfl := hp_21
                    refine zj_ws (ws' := [(m0, .inl (cI, 74, .inl (zA Z1))), (m3, .inl (cI, 24, .inl (zA (zU P1 j1 F)))), (m4, .inl (cI, 24, .inl (zA (zU R1 j1 (-1))))), (m5, .inl (cI, 24, .inl (zA (zU U1 j1 (-1))))), (m7, .inl (cI, 16, .inl (zA (zU b1 F (b1 F + Z1 (2 + 3 * j1 + 2)))))), (m6, .inl (cI, 384, .inl (zA (zMk G1 (24 * (F + 0) + 0) 24 j1)))), (m8, .inl (cI, 16, .inl (zA (zU c1 (F + 0) (c1 (F + 0) + 1))))), (q5, .inr (5, [.int (zI th), .ref m0, .ref m1, .int (zI sm), .ref m2, .int (zI ty), .ref m3, .ref m4, .ref m5, .ref m6, .ref m7, .ref m8, .int (zI (F + tk)), .int (zI 0), .int (zI 0), .ref m9, .int (zI pm), .int (zI sp), .int (zI wr), .long ha]))]) rfl ?_
                    refine zj_iconst 105 C dX5_pourWhole_104 rfl ?_
                    refine zj_re [7, 0, 1, 2, 3, 5, 4, 6] [(q5, .inr (5, [.int (zI th), .ref m0, .ref m1, .int (zI sm), .ref m2, .int (zI ty), .ref m3, .ref m4, .ref m5, .ref m6, .ref m7, .ref m8, .int (zI (F + tk)), .int (zI 0), .int (zI 0), .ref m9, .int (zI pm), .int (zI sp), .int (zI wr), .long ha])), (m0, .inl (cI, 74, .inl (zA Z1))), (m3, .inl (cI, 24, .inl (zA (zU P1 j1 F)))), (m4, .inl (cI, 24, .inl (zA (zU R1 j1 (-1))))), (m5, .inl (cI, 24, .inl (zA (zU U1 j1 (-1))))), (m6, .inl (cI, 384, .inl (zA (zMk G1 (24 * (F + 0) + 0) 24 j1)))), (m7, .inl (cI, 16, .inl (zA (zU b1 F (b1 F + Z1 (2 + 3 * j1 + 2)))))), (m8, .inl (cI, 16, .inl (zA (zU c1 (F + 0) (c1 (F + 0) + 1)))))] (by decide) rfl ?_
                    subst hQ
                    exact zj_zret C (zI_bool (by omega)) hr ⟨1, (F + tk), 0, 0, (zU P1 j1 F), (zU R1 j1 (-1)), (zU U1 j1 (-1)), (zMk G1 (24 * (F + 0) + 0) 24 j1), (zU b1 F (b1 F + Z1 (2 + 3 * j1 + 2))), (zU c1 (F + 0) (c1 (F + 0) + 1)), (by
        have e : zPlc (Z1 0) (Z1 (2 + 3 * j1 + 0)) (Z1 (2 + 3 * j1 + 1)) (Z1 (2 + 3 * j1 + 2)) pg rw un c1 b1 = (F, -1, -1) := by unfold zPlc; rw [if_neg (by omega), ← htk, ← hF, if_pos (by omega)]
        refine Or.inr ⟨rfl, by rw [e]; exact hF2.1, by rw [e], by rw [e], by rw [e], ?_, ?_⟩
        · unfold zGr
          rw [if_neg (by omega), if_pos (by omega), e]
          rw [show 24 * (F + 0) + 0 = 24 * F by omega]
        · unfold zNxC
          rw [if_neg (by omega), if_neg (by omega), e, ← htk]
          rw [Int.add_zero]), rfl, rfl⟩ (by decide) (by decide) dX5_pourWhole_105
                  · skip
                    refine zj_aload_n 80 1 C dX5_pourWhole_79 rfl rfl rfl ?_
                    refine zj_iload_n 81 2 C dX5_pourWhole_80 rfl rfl rfl ?_
                    refine zj_iload_n 82 4 C dX5_pourWhole_81 rfl rfl rfl ?_
                    refine zj_iload 84 0 C dX5_pourWhole_82 rfl rfl ?_
                    refine zj_iadd 85 C dX5_pourWhole_84 rfl ?_
                    refine zj_iconst 86 C dX5_pourWhole_85 rfl ?_
                    refine zj_bipush 88 C dX5_pourWhole_86 rfl rfl ?_
                    refine zj_cv 91 [5, 6, 7] [0, 1, 2, 3, 4] C (wr := [(m0, .inl (cI, 74, .inl (zA Z1))), (m3, .inl (cI, 24, .inl (zA (zU P1 j1 F)))), (m4, .inl (cI, 24, .inl (zA (zU R1 j1 (-1))))), (m5, .inl (cI, 24, .inl (zA (zU U1 j1 (-1))))), (m7, .inl (cI, 16, .inl (zA (zU b1 F (b1 F + Z1 (2 + 3 * j1 + 2))))))]) (zr_V [5, 6, 7] C (As := [.int (zI j1), .int (zI (F + (0 + 1))), .int (zI 0), .int (zI 24)]) (rest := []) (c_X5_mark l D cI cS cJ q5 m0 m1 m2 m3 m4 m5 m6 m7 m8 m9 th sm ty pg rw un pm sp wr ha (zU c1 (F + 0) (c1 (F + 0) + 1)) (zMk G1 (24 * (F + 0) + 0) 24 j1) j1 (F + (0 + 1)) 0 24 (by omega) (by omega)) (cwV 4 C.1.2.2.2.2 gX5_pourWhole_X5_mark rfl rfl rfl (by decide +kernel) ⟨Nat.le_of_ble_eq_true rfl, Nat.le_of_ble_eq_true rfl⟩) rfl (by decide) 0 rfl rfl rfl rfl (Nat.le_of_ble_eq_true rfl) dX5_pourWhole_88 ⟨Nat.le_of_ble_eq_true rfl, Nat.le_of_ble_eq_true rfl⟩) rfl rfl (by decide) (by decide) rfl (fun w_ hp_23 => ?_)
                    obtain rfl := hp_23
                    refine zj_ws (ws' := [(m0, .inl (cI, 74, .inl (zA Z1))), (m3, .inl (cI, 24, .inl (zA (zU P1 j1 F)))), (m4, .inl (cI, 24, .inl (zA (zU R1 j1 (-1))))), (m5, .inl (cI, 24, .inl (zA (zU U1 j1 (-1))))), (m7, .inl (cI, 16, .inl (zA (zU b1 F (b1 F + Z1 (2 + 3 * j1 + 2)))))), (q5, .inr (5, [.int (zI th), .ref m0, .ref m1, .int (zI sm), .ref m2, .int (zI ty), .ref m3, .ref m4, .ref m5, .ref m6, .ref m7, .ref m8, .int (zI pg), .int (zI rw), .int (zI un), .ref m9, .int (zI pm), .int (zI sp), .int (zI wr), .long ha])), (m6, .inl (cI, 384, .inl (zA (zMk (zMk G1 (24 * (F + 0) + 0) 24 j1) (24 * (F + (0 + 1)) + 0) 24 j1)))), (m8, .inl (cI, 16, .inl (zA (zU (zU c1 (F + 0) (c1 (F + 0) + 1)) (F + (0 + 1)) ((zU c1 (F + 0) (c1 (F + 0) + 1)) (F + (0 + 1)) + 1)))))]) rfl ?_
                    refine zj_iinc 94 0 [(4, .int (zI ((0 + 1) + 1))), (0, .ref q5), (1, .int (zI j1)), (2, .int (zI tk)), (3, .int (zI F))] C dX5_pourWhole_91 rfl rfl (by decide) rfl ?_
                    refine zj_goto 73 C dX5_pourWhole_94 (by decide) ?_
                    refine zj_iload 75 0 C dX5_pourWhole_73 rfl rfl ?_
                    refine zj_iload_n 76 3 C dX5_pourWhole_75 rfl rfl rfl ?_
                    refine zj_icmp_ge 79 97 C (by omega) (by omega) dX5_pourWhole_76 rfl (by decide) (fun h76 => ?_) (fun h76 => ?_)
                    · skip
                      refine zj_aload_n 98 1 C dX5_pourWhole_97 rfl rfl rfl ?_
                      refine zj_iload_n 99 4 C dX5_pourWhole_98 rfl rfl rfl ?_
                      refine zj_iload_n 100 3 C dX5_pourWhole_99 rfl rfl rfl ?_
                      refine zj_iadd 101 C dX5_pourWhole_100 rfl ?_
                      refine zj_cv 104 [5] [0, 1, 2, 3, 4, 6, 7] C (wr := [(m0, .inl (cI, 74, .inl (zA Z1))), (m3, .inl (cI, 24, .inl (zA (zU P1 j1 F)))), (m4, .inl (cI, 24, .inl (zA (zU R1 j1 (-1))))), (m5, .inl (cI, 24, .inl (zA (zU U1 j1 (-1))))), (m7, .inl (cI, 16, .inl (zA (zU b1 F (b1 F + Z1 (2 + 3 * j1 + 2)))))), (m6, .inl (cI, 384, .inl (zA (zMk (zMk G1 (24 * (F + 0) + 0) 24 j1) (24 * (F + (0 + 1)) + 0) 24 j1)))), (m8, .inl (cI, 16, .inl (zA (zU (zU c1 (F + 0) (c1 (F + 0) + 1)) (F + (0 + 1)) ((zU c1 (F + 0) (c1 (F + 0) + 1)) (F + (0 + 1)) + 1)))))]) (zr_V [5] C (As := [.int (zI (F + tk))]) (rest := []) (c_X5_nextPage l D cI cS cJ q5 m0 m1 m2 m3 m4 m5 m6 m7 m8 m9 th sm ty pg rw un pm sp wr ha (F + tk)) (cwV 1 C.1.2.2.2.2 gX5_pourWhole_X5_nextPage rfl rfl rfl (by decide +kernel) ⟨Nat.le_of_ble_eq_true rfl, Nat.le_of_ble_eq_true rfl⟩) rfl (by decide) 0 rfl rfl rfl rfl (Nat.le_of_ble_eq_true rfl) dX5_pourWhole_101 ⟨Nat.le_of_ble_eq_true rfl, Nat.le_of_ble_eq_true rfl⟩) rfl rfl (by decide) (by decide) rfl (fun w_ hp_25 => ?_)
                      obtain rfl := hp_25
                      refine zj_ws (ws' := [(m0, .inl (cI, 74, .inl (zA Z1))), (m3, .inl (cI, 24, .inl (zA (zU P1 j1 F)))), (m4, .inl (cI, 24, .inl (zA (zU R1 j1 (-1))))), (m5, .inl (cI, 24, .inl (zA (zU U1 j1 (-1))))), (m7, .inl (cI, 16, .inl (zA (zU b1 F (b1 F + Z1 (2 + 3 * j1 + 2)))))), (m6, .inl (cI, 384, .inl (zA (zMk (zMk G1 (24 * (F + 0) + 0) 24 j1) (24 * (F + (0 + 1)) + 0) 24 j1)))), (m8, .inl (cI, 16, .inl (zA (zU (zU c1 (F + 0) (c1 (F + 0) + 1)) (F + (0 + 1)) ((zU c1 (F + 0) (c1 (F + 0) + 1)) (F + (0 + 1)) + 1))))), (q5, .inr (5, [.int (zI th), .ref m0, .ref m1, .int (zI sm), .ref m2, .int (zI ty), .ref m3, .ref m4, .ref m5, .ref m6, .ref m7, .ref m8, .int (zI (F + tk)), .int (zI 0), .int (zI 0), .ref m9, .int (zI pm), .int (zI sp), .int (zI wr), .long ha]))]) rfl ?_
                      refine zj_iconst 105 C dX5_pourWhole_104 rfl ?_
                      refine zj_re [7, 0, 1, 2, 3, 5, 4, 6] [(q5, .inr (5, [.int (zI th), .ref m0, .ref m1, .int (zI sm), .ref m2, .int (zI ty), .ref m3, .ref m4, .ref m5, .ref m6, .ref m7, .ref m8, .int (zI (F + tk)), .int (zI 0), .int (zI 0), .ref m9, .int (zI pm), .int (zI sp), .int (zI wr), .long ha])), (m0, .inl (cI, 74, .inl (zA Z1))), (m3, .inl (cI, 24, .inl (zA (zU P1 j1 F)))), (m4, .inl (cI, 24, .inl (zA (zU R1 j1 (-1))))), (m5, .inl (cI, 24, .inl (zA (zU U1 j1 (-1))))), (m6, .inl (cI, 384, .inl (zA (zMk (zMk G1 (24 * (F + 0) + 0) 24 j1) (24 * (F + (0 + 1)) + 0) 24 j1)))), (m7, .inl (cI, 16, .inl (zA (zU b1 F (b1 F + Z1 (2 + 3 * j1 + 2)))))), (m8, .inl (cI, 16, .inl (zA (zU (zU c1 (F + 0) (c1 (F + 0) + 1)) (F + (0 + 1)) ((zU c1 (F + 0) (c1 (F + 0) + 1)) (F + (0 + 1)) + 1)))))] (by decide) rfl ?_
                      subst hQ
                      exact zj_zret C (zI_bool (by omega)) hr ⟨1, (F + tk), 0, 0, (zU P1 j1 F), (zU R1 j1 (-1)), (zU U1 j1 (-1)), (zMk (zMk G1 (24 * (F + 0) + 0) 24 j1) (24 * (F + (0 + 1)) + 0) 24 j1), (zU b1 F (b1 F + Z1 (2 + 3 * j1 + 2))), (zU (zU c1 (F + 0) (c1 (F + 0) + 1)) (F + (0 + 1)) ((zU c1 (F + 0) (c1 (F + 0) + 1)) (F + (0 + 1)) + 1)), (by
        have e : zPlc (Z1 0) (Z1 (2 + 3 * j1 + 0)) (Z1 (2 + 3 * j1 + 1)) (Z1 (2 + 3 * j1 + 2)) pg rw un c1 b1 = (F, -1, -1) := by unfold zPlc; rw [if_neg (by omega), ← htk, ← hF, if_pos (by omega)]
        refine Or.inr ⟨rfl, by rw [e]; exact hF2.1, by rw [e], by rw [e], by rw [e], ?_, ?_⟩
        · unfold zGr
          rw [if_neg (by omega), if_neg (by omega), e]
          rw [show 24 * (F + 0) + 0 = 24 * F by omega, show 24 * (F + (0 + 1)) + 0 = 24 * (F + 1) by omega]
        · unfold zNxC
          rw [if_neg (by omega), if_pos (by omega), e, ← htk]
          rw [Int.add_zero]; rfl), rfl, rfl⟩ (by decide) (by decide) dX5_pourWhole_105
                    · exact absurd h76 (by omega)
              · skip
                refine zj_iconst 61 C dX5_pourWhole_60 rfl ?_
                subst hQ
                exact zj_zret C (zI_bool (by omega)) hr ⟨0, pg, rw, un, P1, R1, U1, G1, b1, c1, (by exact Or.inl ⟨rfl, by unfold zPlc; rw [if_neg (by omega), ← htk, ← hF, if_neg (by omega)], rfl, rfl, rfl, rfl, rfl, rfl⟩), rfl, rfl⟩ (by decide) (by decide) dX5_pourWhole_61
            refine zj_lv [1, 2, 3, 0] [(0, .ref q5), (1, .int (zI j1)), (2, .int (zI tk)), (3, .int (zI (f0 + (f0 % 2))))] rfl ?_
            exact hL52 (f0 + (f0 % 2)) (by unfold zFst; rw [← hf0]; split <;> omega) (by omega)
        refine zj_re [6, 0, 1, 2, 3, 4, 5, 7] [(q5, .inr (5, [.int (zI th), .ref m0, .ref m1, .int (zI sm), .ref m2, .int (zI ty), .ref m3, .ref m4, .ref m5, .ref m6, .ref m7, .ref m8, .int (zI pg), .int (zI rw), .int (zI un), .ref m9, .int (zI pm), .int (zI sp), .int (zI wr), .long ha])), (m0, .inl (cI, 74, .inl (zA Z1))), (m3, .inl (cI, 24, .inl (zA P1))), (m4, .inl (cI, 24, .inl (zA R1))), (m5, .inl (cI, 24, .inl (zA U1))), (m6, .inl (cI, 384, .inl (zA G1))), (m7, .inl (cI, 16, .inl (zA b1))), (m8, .inl (cI, 16, .inl (zA c1)))] (by decide) rfl ?_
        refine zj_lv [1, 2, 3, 0] [(0, .ref q5), (1, .int (zI j1)), (2, .int (zI tk)), (3, .int (zI (pg + 1)))] rfl ?_
        exact hL37 (pg + 1) (by unfold zF0; split <;> omega) (by omega)
      · skip
        refine zj_aload_n 24 0 C dX5_pourWhole_23 rfl rfl rfl ?_
        refine zj_get 27 6 12 C (T := TX5) im_X5_pourWhole_5 fl_X5_pourWhole_47 rfl rfl (by decide) rfl rfl dX5_pourWhole_24 rfl ?_
        refine zj_goto 36 C dX5_pourWhole_27 (by decide) ?_
        refine zj_istore_n 37 [(3, .int (zI pg)), (0, .ref q5), (1, .int (zI j1)), (2, .int (zI tk))] C dX5_pourWhole_36 rfl rfl (by decide) rfl ?_
        have hL37 : ∀ (f0 : Int), (f0 = zF0 c1 pg) → (0 ≤ f0 ∧ f0 ≤ 17) → zJ p l e rm_X5_pourWhole s m args below meth c Q D A 5 [(q5, .inr (5, [.int (zI th), .ref m0, .ref m1, .int (zI sm), .ref m2, .int (zI ty), .ref m3, .ref m4, .ref m5, .ref m6, .ref m7, .ref m8, .int (zI pg), .int (zI rw), .int (zI un), .ref m9, .int (zI pm), .int (zI sp), .int (zI wr), .long ha])), (m0, .inl (cI, 74, .inl (zA Z1))), (m3, .inl (cI, 24, .inl (zA P1))), (m4, .inl (cI, 24, .inl (zA R1))), (m5, .inl (cI, 24, .inl (zA U1))), (m6, .inl (cI, 384, .inl (zA G1))), (m7, .inl (cI, 16, .inl (zA b1))), (m8, .inl (cI, 16, .inl (zA c1)))] 0 0 [(0, .ref q5), (1, .int (zI j1)), (2, .int (zI tk)), (3, .int (zI f0))] 37 [] := by
          intro f0 hf0 hf1
          refine zj_iload_n 38 3 C dX5_pourWhole_37 rfl rfl rfl ?_
          refine zj_iload_n 39 2 C dX5_pourWhole_38 rfl rfl rfl ?_
          refine zj_iconst 40 C dX5_pourWhole_39 rfl ?_
          refine zj_icmp_ne 43 49 C (by omega) (by omega) dX5_pourWhole_40 rfl (by decide) (fun h40 => ?_) (fun h40 => ?_)
          · skip
            refine zj_iconst 50 C dX5_pourWhole_49 rfl ?_
            refine zj_iadd 51 C dX5_pourWhole_50 rfl ?_
            refine zj_istore_n 52 [(3, .int (zI (f0 + 0))), (0, .ref q5), (1, .int (zI j1)), (2, .int (zI tk))] C dX5_pourWhole_51 rfl rfl (by decide) rfl ?_
            have hL52 : ∀ (F : Int), (F = zFst c1 pg tk) → (0 ≤ F ∧ F ≤ 18) → zJ p l e rm_X5_pourWhole s m args below meth c Q D A 5 [(q5, .inr (5, [.int (zI th), .ref m0, .ref m1, .int (zI sm), .ref m2, .int (zI ty), .ref m3, .ref m4, .ref m5, .ref m6, .ref m7, .ref m8, .int (zI pg), .int (zI rw), .int (zI un), .ref m9, .int (zI pm), .int (zI sp), .int (zI wr), .long ha])), (m0, .inl (cI, 74, .inl (zA Z1))), (m3, .inl (cI, 24, .inl (zA P1))), (m4, .inl (cI, 24, .inl (zA R1))), (m5, .inl (cI, 24, .inl (zA U1))), (m6, .inl (cI, 384, .inl (zA G1))), (m7, .inl (cI, 16, .inl (zA b1))), (m8, .inl (cI, 16, .inl (zA c1)))] 0 0 [(0, .ref q5), (1, .int (zI j1)), (2, .int (zI tk)), (3, .int (zI F))] 52 [] := by
              intro F hF hF2
              refine zj_iload_n 53 3 C dX5_pourWhole_52 rfl rfl rfl ?_
              refine zj_iload_n 54 2 C dX5_pourWhole_53 rfl rfl rfl ?_
              refine zj_iadd 55 C dX5_pourWhole_54 rfl ?_
              refine zj_bipush 57 C dX5_pourWhole_55 rfl rfl ?_
              refine zj_icmp_le 60 62 C (by omega) (by omega) dX5_pourWhole_57 rfl (by decide) (fun h57 => ?_) (fun h57 => ?_)
              · skip
                refine zj_aload_n 63 0 C dX5_pourWhole_62 rfl rfl rfl ?_
                refine zj_iload_n 64 1 C dX5_pourWhole_63 rfl rfl rfl ?_
                refine zj_iload_n 65 3 C dX5_pourWhole_64 rfl rfl rfl ?_
                refine zj_iconst 66 C dX5_pourWhole_65 rfl ?_
                refine zj_iconst 67 C dX5_pourWhole_66 rfl ?_
                refine zj_cv 70 [0, 1, 2, 3, 4, 6] [5, 7] C (wr := [(m6, .inl (cI, 384, .inl (zA G1))), (m8, .inl (cI, 16, .inl (zA c1)))]) (zr_V [0, 1, 2, 3, 4, 6] C (As := [.int (zI j1), .int (zI F), .int (zI (-1)), .int (zI (-1))]) (rest := []) (c_X5_stand l D cI cS cJ q5 m0 m1 m2 m3 m4 m5 m6 m7 m8 m9 th sm ty pg rw un pm sp wr ha Z1 P1 R1 U1 b1 j1 F (-1) (-1) (by omega) (by omega)) (cwV 4 C.1.2.2.2.2 gX5_pourWhole_X5_stand rfl rfl rfl (by decide +kernel) ⟨Nat.le_of_ble_eq_true rfl, Nat.le_of_ble_eq_true rfl⟩) rfl (by decide) 0 rfl rfl rfl rfl (Nat.le_of_ble_eq_true rfl) dX5_pourWhole_67 ⟨Nat.le_of_ble_eq_true rfl, Nat.le_of_ble_eq_true rfl⟩) rfl rfl (by decide) (by decide) rfl (fun w_ hp_27 => ?_)
                obtain rfl := hp_27
                refine zj_ws (ws' := [(m6, .inl (cI, 384, .inl (zA G1))), (m8, .inl (cI, 16, .inl (zA c1))), (q5, .inr (5, [.int (zI th), .ref m0, .ref m1, .int (zI sm), .ref m2, .int (zI ty), .ref m3, .ref m4, .ref m5, .ref m6, .ref m7, .ref m8, .int (zI pg), .int (zI rw), .int (zI un), .ref m9, .int (zI pm), .int (zI sp), .int (zI wr), .long ha])), (m0, .inl (cI, 74, .inl (zA Z1))), (m3, .inl (cI, 24, .inl (zA (zU P1 j1 F)))), (m4, .inl (cI, 24, .inl (zA (zU R1 j1 (-1))))), (m5, .inl (cI, 24, .inl (zA (zU U1 j1 (-1))))), (m7, .inl (cI, 16, .inl (zA (zU b1 F (b1 F + Z1 (2 + 3 * j1 + 2))))))]) rfl ?_
                refine zj_iconst 71 C dX5_pourWhole_70 rfl ?_
                refine zj_istore 73 [(4, .int (zI 0)), (0, .ref q5), (1, .int (zI j1)), (2, .int (zI tk)), (3, .int (zI F))] C dX5_pourWhole_71 rfl (by decide) rfl ?_
                refine zj_iload 75 0 C dX5_pourWhole_73 rfl rfl ?_
                refine zj_iload_n 76 3 C dX5_pourWhole_75 rfl rfl rfl ?_
                refine zj_icmp_ge 79 97 C (by omega) (by omega) dX5_pourWhole_76 rfl (by decide) (fun h76 => ?_) (fun h76 => ?_)
                · exact absurd h76 (by omega)
                · skip
                  refine zj_aload_n 80 1 C dX5_pourWhole_79 rfl rfl rfl ?_
                  refine zj_iload_n 81 2 C dX5_pourWhole_80 rfl rfl rfl ?_
                  refine zj_iload_n 82 4 C dX5_pourWhole_81 rfl rfl rfl ?_
                  refine zj_iload 84 0 C dX5_pourWhole_82 rfl rfl ?_
                  refine zj_iadd 85 C dX5_pourWhole_84 rfl ?_
                  refine zj_iconst 86 C dX5_pourWhole_85 rfl ?_
                  refine zj_bipush 88 C dX5_pourWhole_86 rfl rfl ?_
                  refine zj_cv 91 [2, 0, 1] [3, 4, 5, 6, 7] C (wr := [(m0, .inl (cI, 74, .inl (zA Z1))), (m3, .inl (cI, 24, .inl (zA (zU P1 j1 F)))), (m4, .inl (cI, 24, .inl (zA (zU R1 j1 (-1))))), (m5, .inl (cI, 24, .inl (zA (zU U1 j1 (-1))))), (m7, .inl (cI, 16, .inl (zA (zU b1 F (b1 F + Z1 (2 + 3 * j1 + 2))))))]) (zr_V [2, 0, 1] C (As := [.int (zI j1), .int (zI (F + 0)), .int (zI 0), .int (zI 24)]) (rest := []) (c_X5_mark l D cI cS cJ q5 m0 m1 m2 m3 m4 m5 m6 m7 m8 m9 th sm ty pg rw un pm sp wr ha c1 G1 j1 (F + 0) 0 24 (by omega) (by omega)) (cwV 4 C.1.2.2.2.2 gX5_pourWhole_X5_mark rfl rfl rfl (by decide +kernel) ⟨Nat.le_of_ble_eq_true rfl, Nat.le_of_ble_eq_true rfl⟩) rfl (by decide) 0 rfl rfl rfl rfl (Nat.le_of_ble_eq_true rfl) dX5_pourWhole_88 ⟨Nat.le_of_ble_eq_true rfl, Nat.le_of_ble_eq_true rfl⟩) rfl rfl (by decide) (by decide) rfl (fun w_ hp_29 => ?_)
                  obtain rfl := hp_29
                  refine zj_ws (ws' := [(m0, .inl (cI, 74, .inl (zA Z1))), (m3, .inl (cI, 24, .inl (zA (zU P1 j1 F)))), (m4, .inl (cI, 24, .inl (zA (zU R1 j1 (-1))))), (m5, .inl (cI, 24, .inl (zA (zU U1 j1 (-1))))), (m7, .inl (cI, 16, .inl (zA (zU b1 F (b1 F + Z1 (2 + 3 * j1 + 2)))))), (q5, .inr (5, [.int (zI th), .ref m0, .ref m1, .int (zI sm), .ref m2, .int (zI ty), .ref m3, .ref m4, .ref m5, .ref m6, .ref m7, .ref m8, .int (zI pg), .int (zI rw), .int (zI un), .ref m9, .int (zI pm), .int (zI sp), .int (zI wr), .long ha])), (m6, .inl (cI, 384, .inl (zA (zMk G1 (24 * (F + 0) + 0) 24 j1)))), (m8, .inl (cI, 16, .inl (zA (zU c1 (F + 0) (c1 (F + 0) + 1)))))]) rfl ?_
                  refine zj_iinc 94 0 [(4, .int (zI (0 + 1))), (0, .ref q5), (1, .int (zI j1)), (2, .int (zI tk)), (3, .int (zI F))] C dX5_pourWhole_91 rfl rfl (by decide) rfl ?_
                  refine zj_goto 73 C dX5_pourWhole_94 (by decide) ?_
                  refine zj_iload 75 0 C dX5_pourWhole_73 rfl rfl ?_
                  refine zj_iload_n 76 3 C dX5_pourWhole_75 rfl rfl rfl ?_
                  refine zj_icmp_ge 79 97 C (by omega) (by omega) dX5_pourWhole_76 rfl (by decide) (fun h76 => ?_) (fun h76 => ?_)
                  · skip
                    refine zj_aload_n 98 1 C dX5_pourWhole_97 rfl rfl rfl ?_
                    refine zj_iload_n 99 4 C dX5_pourWhole_98 rfl rfl rfl ?_
                    refine zj_iload_n 100 3 C dX5_pourWhole_99 rfl rfl rfl ?_
                    refine zj_iadd 101 C dX5_pourWhole_100 rfl ?_
                    refine zj_cv 104 [5] [0, 1, 2, 3, 4, 6, 7] C (wr := [(m0, .inl (cI, 74, .inl (zA Z1))), (m3, .inl (cI, 24, .inl (zA (zU P1 j1 F)))), (m4, .inl (cI, 24, .inl (zA (zU R1 j1 (-1))))), (m5, .inl (cI, 24, .inl (zA (zU U1 j1 (-1))))), (m7, .inl (cI, 16, .inl (zA (zU b1 F (b1 F + Z1 (2 + 3 * j1 + 2)))))), (m6, .inl (cI, 384, .inl (zA (zMk G1 (24 * (F + 0) + 0) 24 j1)))), (m8, .inl (cI, 16, .inl (zA (zU c1 (F + 0) (c1 (F + 0) + 1)))))]) (zr_V [5] C (As := [.int (zI (F + tk))]) (rest := []) (c_X5_nextPage l D cI cS cJ q5 m0 m1 m2 m3 m4 m5 m6 m7 m8 m9 th sm ty pg rw un pm sp wr ha (F + tk)) (cwV 1 C.1.2.2.2.2 gX5_pourWhole_X5_nextPage rfl rfl rfl (by decide +kernel) ⟨Nat.le_of_ble_eq_true rfl, Nat.le_of_ble_eq_true rfl⟩) rfl (by decide) 0 rfl rfl rfl rfl (Nat.le_of_ble_eq_true rfl) dX5_pourWhole_101 ⟨Nat.le_of_ble_eq_true rfl, Nat.le_of_ble_eq_true rfl⟩) rfl rfl (by decide) (by decide) rfl (fun w_ hp_31 => ?_)
                    obtain rfl := hp_31
                    refine zj_ws (ws' := [(m0, .inl (cI, 74, .inl (zA Z1))), (m3, .inl (cI, 24, .inl (zA (zU P1 j1 F)))), (m4, .inl (cI, 24, .inl (zA (zU R1 j1 (-1))))), (m5, .inl (cI, 24, .inl (zA (zU U1 j1 (-1))))), (m7, .inl (cI, 16, .inl (zA (zU b1 F (b1 F + Z1 (2 + 3 * j1 + 2)))))), (m6, .inl (cI, 384, .inl (zA (zMk G1 (24 * (F + 0) + 0) 24 j1)))), (m8, .inl (cI, 16, .inl (zA (zU c1 (F + 0) (c1 (F + 0) + 1))))), (q5, .inr (5, [.int (zI th), .ref m0, .ref m1, .int (zI sm), .ref m2, .int (zI ty), .ref m3, .ref m4, .ref m5, .ref m6, .ref m7, .ref m8, .int (zI (F + tk)), .int (zI 0), .int (zI 0), .ref m9, .int (zI pm), .int (zI sp), .int (zI wr), .long ha]))]) rfl ?_
                    refine zj_iconst 105 C dX5_pourWhole_104 rfl ?_
                    refine zj_re [7, 0, 1, 2, 3, 5, 4, 6] [(q5, .inr (5, [.int (zI th), .ref m0, .ref m1, .int (zI sm), .ref m2, .int (zI ty), .ref m3, .ref m4, .ref m5, .ref m6, .ref m7, .ref m8, .int (zI (F + tk)), .int (zI 0), .int (zI 0), .ref m9, .int (zI pm), .int (zI sp), .int (zI wr), .long ha])), (m0, .inl (cI, 74, .inl (zA Z1))), (m3, .inl (cI, 24, .inl (zA (zU P1 j1 F)))), (m4, .inl (cI, 24, .inl (zA (zU R1 j1 (-1))))), (m5, .inl (cI, 24, .inl (zA (zU U1 j1 (-1))))), (m6, .inl (cI, 384, .inl (zA (zMk G1 (24 * (F + 0) + 0) 24 j1)))), (m7, .inl (cI, 16, .inl (zA (zU b1 F (b1 F + Z1 (2 + 3 * j1 + 2)))))), (m8, .inl (cI, 16, .inl (zA (zU c1 (F + 0) (c1 (F + 0) + 1)))))] (by decide) rfl ?_
                    subst hQ
                    exact zj_zret C (zI_bool (by omega)) hr ⟨1, (F + tk), 0, 0, (zU P1 j1 F), (zU R1 j1 (-1)), (zU U1 j1 (-1)), (zMk G1 (24 * (F + 0) + 0) 24 j1), (zU b1 F (b1 F + Z1 (2 + 3 * j1 + 2))), (zU c1 (F + 0) (c1 (F + 0) + 1)), (by
        have e : zPlc (Z1 0) (Z1 (2 + 3 * j1 + 0)) (Z1 (2 + 3 * j1 + 1)) (Z1 (2 + 3 * j1 + 2)) pg rw un c1 b1 = (F, -1, -1) := by unfold zPlc; rw [if_neg (by omega), ← htk, ← hF, if_pos (by omega)]
        refine Or.inr ⟨rfl, by rw [e]; exact hF2.1, by rw [e], by rw [e], by rw [e], ?_, ?_⟩
        · unfold zGr
          rw [if_neg (by omega), if_pos (by omega), e]
          rw [show 24 * (F + 0) + 0 = 24 * F by omega]
        · unfold zNxC
          rw [if_neg (by omega), if_neg (by omega), e, ← htk]
          rw [Int.add_zero]), rfl, rfl⟩ (by decide) (by decide) dX5_pourWhole_105
                  · skip
                    refine zj_aload_n 80 1 C dX5_pourWhole_79 rfl rfl rfl ?_
                    refine zj_iload_n 81 2 C dX5_pourWhole_80 rfl rfl rfl ?_
                    refine zj_iload_n 82 4 C dX5_pourWhole_81 rfl rfl rfl ?_
                    refine zj_iload 84 0 C dX5_pourWhole_82 rfl rfl ?_
                    refine zj_iadd 85 C dX5_pourWhole_84 rfl ?_
                    refine zj_iconst 86 C dX5_pourWhole_85 rfl ?_
                    refine zj_bipush 88 C dX5_pourWhole_86 rfl rfl ?_
                    refine zj_cv 91 [5, 6, 7] [0, 1, 2, 3, 4] C (wr := [(m0, .inl (cI, 74, .inl (zA Z1))), (m3, .inl (cI, 24, .inl (zA (zU P1 j1 F)))), (m4, .inl (cI, 24, .inl (zA (zU R1 j1 (-1))))), (m5, .inl (cI, 24, .inl (zA (zU U1 j1 (-1))))), (m7, .inl (cI, 16, .inl (zA (zU b1 F (b1 F + Z1 (2 + 3 * j1 + 2))))))]) (zr_V [5, 6, 7] C (As := [.int (zI j1), .int (zI (F + (0 + 1))), .int (zI 0), .int (zI 24)]) (rest := []) (c_X5_mark l D cI cS cJ q5 m0 m1 m2 m3 m4 m5 m6 m7 m8 m9 th sm ty pg rw un pm sp wr ha (zU c1 (F + 0) (c1 (F + 0) + 1)) (zMk G1 (24 * (F + 0) + 0) 24 j1) j1 (F + (0 + 1)) 0 24 (by omega) (by omega)) (cwV 4 C.1.2.2.2.2 gX5_pourWhole_X5_mark rfl rfl rfl (by decide +kernel) ⟨Nat.le_of_ble_eq_true rfl, Nat.le_of_ble_eq_true rfl⟩) rfl (by decide) 0 rfl rfl rfl rfl (Nat.le_of_ble_eq_true rfl) dX5_pourWhole_88 ⟨Nat.le_of_ble_eq_true rfl, Nat.le_of_ble_eq_true rfl⟩) rfl rfl (by decide) (by decide) rfl (fun w_ hp_33 => ?_)
                    obtain rfl := hp_33
                    refine zj_ws (ws' := [(m0, .inl (cI, 74, .inl (zA Z1))), (m3, .inl (cI, 24, .inl (zA (zU P1 j1 F)))), (m4, .inl (cI, 24, .inl (zA (zU R1 j1 (-1))))), (m5, .inl (cI, 24, .inl (zA (zU U1 j1 (-1))))), (m7, .inl (cI, 16, .inl (zA (zU b1 F (b1 F + Z1 (2 + 3 * j1 + 2)))))), (q5, .inr (5, [.int (zI th), .ref m0, .ref m1, .int (zI sm), .ref m2, .int (zI ty), .ref m3, .ref m4, .ref m5, .ref m6, .ref m7, .ref m8, .int (zI pg), .int (zI rw), .int (zI un), .ref m9, .int (zI pm), .int (zI sp), .int (zI wr), .long ha])), (m6, .inl (cI, 384, .inl (zA (zMk (zMk G1 (24 * (F + 0) + 0) 24 j1) (24 * (F + (0 + 1)) + 0) 24 j1)))), (m8, .inl (cI, 16, .inl (zA (zU (zU c1 (F + 0) (c1 (F + 0) + 1)) (F + (0 + 1)) ((zU c1 (F + 0) (c1 (F + 0) + 1)) (F + (0 + 1)) + 1)))))]) rfl ?_
                    refine zj_iinc 94 0 [(4, .int (zI ((0 + 1) + 1))), (0, .ref q5), (1, .int (zI j1)), (2, .int (zI tk)), (3, .int (zI F))] C dX5_pourWhole_91 rfl rfl (by decide) rfl ?_
                    refine zj_goto 73 C dX5_pourWhole_94 (by decide) ?_
                    refine zj_iload 75 0 C dX5_pourWhole_73 rfl rfl ?_
                    refine zj_iload_n 76 3 C dX5_pourWhole_75 rfl rfl rfl ?_
                    refine zj_icmp_ge 79 97 C (by omega) (by omega) dX5_pourWhole_76 rfl (by decide) (fun h76 => ?_) (fun h76 => ?_)
                    · skip
                      refine zj_aload_n 98 1 C dX5_pourWhole_97 rfl rfl rfl ?_
                      refine zj_iload_n 99 4 C dX5_pourWhole_98 rfl rfl rfl ?_
                      refine zj_iload_n 100 3 C dX5_pourWhole_99 rfl rfl rfl ?_
                      refine zj_iadd 101 C dX5_pourWhole_100 rfl ?_
                      refine zj_cv 104 [5] [0, 1, 2, 3, 4, 6, 7] C (wr := [(m0, .inl (cI, 74, .inl (zA Z1))), (m3, .inl (cI, 24, .inl (zA (zU P1 j1 F)))), (m4, .inl (cI, 24, .inl (zA (zU R1 j1 (-1))))), (m5, .inl (cI, 24, .inl (zA (zU U1 j1 (-1))))), (m7, .inl (cI, 16, .inl (zA (zU b1 F (b1 F + Z1 (2 + 3 * j1 + 2)))))), (m6, .inl (cI, 384, .inl (zA (zMk (zMk G1 (24 * (F + 0) + 0) 24 j1) (24 * (F + (0 + 1)) + 0) 24 j1)))), (m8, .inl (cI, 16, .inl (zA (zU (zU c1 (F + 0) (c1 (F + 0) + 1)) (F + (0 + 1)) ((zU c1 (F + 0) (c1 (F + 0) + 1)) (F + (0 + 1)) + 1)))))]) (zr_V [5] C (As := [.int (zI (F + tk))]) (rest := []) (c_X5_nextPage l D cI cS cJ q5 m0 m1 m2 m3 m4 m5 m6 m7 m8 m9 th sm ty pg rw un pm sp wr ha (F + tk)) (cwV 1 C.1.2.2.2.2 gX5_pourWhole_X5_nextPage rfl rfl rfl (by decide +kernel) ⟨Nat.le_of_ble_eq_true rfl, Nat.le_of_ble_eq_true rfl⟩) rfl (by decide) 0 rfl rfl rfl rfl (Nat.le_of_ble_eq_true rfl) dX5_pourWhole_101 ⟨Nat.le_of_ble_eq_true rfl, Nat.le_of_ble_eq_true rfl⟩) rfl rfl (by decide) (by decide) rfl (fun w_ hp_35 => ?_)
                      obtain rfl := hp_35
                      refine zj_ws (ws' := [(m0, .inl (cI, 74, .inl (zA Z1))), (m3, .inl (cI, 24, .inl (zA (zU P1 j1 F)))), (m4, .inl (cI, 24, .inl (zA (zU R1 j1 (-1))))), (m5, .inl (cI, 24, .inl (zA (zU U1 j1 (-1))))), (m7, .inl (cI, 16, .inl (zA (zU b1 F (b1 F + Z1 (2 + 3 * j1 + 2)))))), (m6, .inl (cI, 384, .inl (zA (zMk (zMk G1 (24 * (F + 0) + 0) 24 j1) (24 * (F + (0 + 1)) + 0) 24 j1)))), (m8, .inl (cI, 16, .inl (zA (zU (zU c1 (F + 0) (c1 (F + 0) + 1)) (F + (0 + 1)) ((zU c1 (F + 0) (c1 (F + 0) + 1)) (F + (0 + 1)) + 1))))), (q5, .inr (5, [.int (zI th), .ref m0, .ref m1, .int (zI sm), .ref m2, .int (zI ty), .ref m3, .ref m4, .ref m5, .ref m6, .ref m7, .ref m8, .int (zI (F + tk)), .int (zI 0), .int (zI 0), .ref m9, .int (zI pm), .int (zI sp), .int (zI wr), .long ha]))]) rfl ?_
                      refine zj_iconst 105 C dX5_pourWhole_104 rfl ?_
                      refine zj_re [7, 0, 1, 2, 3, 5, 4, 6] [(q5, .inr (5, [.int (zI th), .ref m0, .ref m1, .int (zI sm), .ref m2, .int (zI ty), .ref m3, .ref m4, .ref m5, .ref m6, .ref m7, .ref m8, .int (zI (F + tk)), .int (zI 0), .int (zI 0), .ref m9, .int (zI pm), .int (zI sp), .int (zI wr), .long ha])), (m0, .inl (cI, 74, .inl (zA Z1))), (m3, .inl (cI, 24, .inl (zA (zU P1 j1 F)))), (m4, .inl (cI, 24, .inl (zA (zU R1 j1 (-1))))), (m5, .inl (cI, 24, .inl (zA (zU U1 j1 (-1))))), (m6, .inl (cI, 384, .inl (zA (zMk (zMk G1 (24 * (F + 0) + 0) 24 j1) (24 * (F + (0 + 1)) + 0) 24 j1)))), (m7, .inl (cI, 16, .inl (zA (zU b1 F (b1 F + Z1 (2 + 3 * j1 + 2)))))), (m8, .inl (cI, 16, .inl (zA (zU (zU c1 (F + 0) (c1 (F + 0) + 1)) (F + (0 + 1)) ((zU c1 (F + 0) (c1 (F + 0) + 1)) (F + (0 + 1)) + 1)))))] (by decide) rfl ?_
                      subst hQ
                      exact zj_zret C (zI_bool (by omega)) hr ⟨1, (F + tk), 0, 0, (zU P1 j1 F), (zU R1 j1 (-1)), (zU U1 j1 (-1)), (zMk (zMk G1 (24 * (F + 0) + 0) 24 j1) (24 * (F + (0 + 1)) + 0) 24 j1), (zU b1 F (b1 F + Z1 (2 + 3 * j1 + 2))), (zU (zU c1 (F + 0) (c1 (F + 0) + 1)) (F + (0 + 1)) ((zU c1 (F + 0) (c1 (F + 0) + 1)) (F + (0 + 1)) + 1)), (by
        have e : zPlc (Z1 0) (Z1 (2 + 3 * j1 + 0)) (Z1 (2 + 3 * j1 + 1)) (Z1 (2 + 3 * j1 + 2)) pg rw un c1 b1 = (F, -1, -1) := by unfold zPlc; rw [if_neg (by omega), ← htk, ← hF, if_pos (by omega)]
        refine Or.inr ⟨rfl, by rw [e]; exact hF2.1, by rw [e], by rw [e], by rw [e], ?_, ?_⟩
        · unfold zGr
          rw [if_neg (by omega), if_neg (by omega), e]
          rw [show 24 * (F + 0) + 0 = 24 * F by omega, show 24 * (F + (0 + 1)) + 0 = 24 * (F + 1) by omega]
        · unfold zNxC
          rw [if_neg (by omega), if_pos (by omega), e, ← htk]
          rw [Int.add_zero]; rfl), rfl, rfl⟩ (by decide) (by decide) dX5_pourWhole_105
                    · exact absurd h76 (by omega)
              · skip
                refine zj_iconst 61 C dX5_pourWhole_60 rfl ?_
                subst hQ
                exact zj_zret C (zI_bool (by omega)) hr ⟨0, pg, rw, un, P1, R1, U1, G1, b1, c1, (by exact Or.inl ⟨rfl, by unfold zPlc; rw [if_neg (by omega), ← htk, ← hF, if_neg (by omega)], rfl, rfl, rfl, rfl, rfl, rfl⟩), rfl, rfl⟩ (by decide) (by decide) dX5_pourWhole_61
            refine zj_lv [1, 2, 3, 0] [(0, .ref q5), (1, .int (zI j1)), (2, .int (zI tk)), (3, .int (zI (f0 + 0)))] rfl ?_
            exact hL52 (f0 + 0) (by unfold zFst; rw [← hf0]; split <;> omega) (by omega)
          · skip
            refine zj_iload_n 44 3 C dX5_pourWhole_43 rfl rfl rfl ?_
            refine zj_iconst 45 C dX5_pourWhole_44 rfl ?_
            refine zj_irem2 46 C dX5_pourWhole_45 rfl (by omega) ?_
            refine zj_goto 50 C dX5_pourWhole_46 (by decide) ?_
            refine zj_iadd 51 C dX5_pourWhole_50 rfl ?_
            refine zj_istore_n 52 [(3, .int (zI (f0 + (f0 % 2)))), (0, .ref q5), (1, .int (zI j1)), (2, .int (zI tk))] C dX5_pourWhole_51 rfl rfl (by decide) rfl ?_
            have hL52 : ∀ (F : Int), (F = zFst c1 pg tk) → (0 ≤ F ∧ F ≤ 18) → zJ p l e rm_X5_pourWhole s m args below meth c Q D A 5 [(q5, .inr (5, [.int (zI th), .ref m0, .ref m1, .int (zI sm), .ref m2, .int (zI ty), .ref m3, .ref m4, .ref m5, .ref m6, .ref m7, .ref m8, .int (zI pg), .int (zI rw), .int (zI un), .ref m9, .int (zI pm), .int (zI sp), .int (zI wr), .long ha])), (m0, .inl (cI, 74, .inl (zA Z1))), (m3, .inl (cI, 24, .inl (zA P1))), (m4, .inl (cI, 24, .inl (zA R1))), (m5, .inl (cI, 24, .inl (zA U1))), (m6, .inl (cI, 384, .inl (zA G1))), (m7, .inl (cI, 16, .inl (zA b1))), (m8, .inl (cI, 16, .inl (zA c1)))] 0 0 [(0, .ref q5), (1, .int (zI j1)), (2, .int (zI tk)), (3, .int (zI F))] 52 [] := by
              intro F hF hF2
              refine zj_iload_n 53 3 C dX5_pourWhole_52 rfl rfl rfl ?_
              refine zj_iload_n 54 2 C dX5_pourWhole_53 rfl rfl rfl ?_
              refine zj_iadd 55 C dX5_pourWhole_54 rfl ?_
              refine zj_bipush 57 C dX5_pourWhole_55 rfl rfl ?_
              refine zj_icmp_le 60 62 C (by omega) (by omega) dX5_pourWhole_57 rfl (by decide) (fun h57 => ?_) (fun h57 => ?_)
              · skip
                refine zj_aload_n 63 0 C dX5_pourWhole_62 rfl rfl rfl ?_
                refine zj_iload_n 64 1 C dX5_pourWhole_63 rfl rfl rfl ?_
                refine zj_iload_n 65 3 C dX5_pourWhole_64 rfl rfl rfl ?_
                refine zj_iconst 66 C dX5_pourWhole_65 rfl ?_
                refine zj_iconst 67 C dX5_pourWhole_66 rfl ?_
                refine zj_cv 70 [0, 1, 2, 3, 4, 6] [5, 7] C (wr := [(m6, .inl (cI, 384, .inl (zA G1))), (m8, .inl (cI, 16, .inl (zA c1)))]) (zr_V [0, 1, 2, 3, 4, 6] C (As := [.int (zI j1), .int (zI F), .int (zI (-1)), .int (zI (-1))]) (rest := []) (c_X5_stand l D cI cS cJ q5 m0 m1 m2 m3 m4 m5 m6 m7 m8 m9 th sm ty pg rw un pm sp wr ha Z1 P1 R1 U1 b1 j1 F (-1) (-1) (by omega) (by omega)) (cwV 4 C.1.2.2.2.2 gX5_pourWhole_X5_stand rfl rfl rfl (by decide +kernel) ⟨Nat.le_of_ble_eq_true rfl, Nat.le_of_ble_eq_true rfl⟩) rfl (by decide) 0 rfl rfl rfl rfl (Nat.le_of_ble_eq_true rfl) dX5_pourWhole_67 ⟨Nat.le_of_ble_eq_true rfl, Nat.le_of_ble_eq_true rfl⟩) rfl rfl (by decide) (by decide) rfl (fun w_ hp_37 => ?_)
                obtain rfl := hp_37
                refine zj_ws (ws' := [(m6, .inl (cI, 384, .inl (zA G1))), (m8, .inl (cI, 16, .inl (zA c1))), (q5, .inr (5, [.int (zI th), .ref m0, .ref m1, .int (zI sm), .ref m2, .int (zI ty), .ref m3, .ref m4, .ref m5, .ref m6, .ref m7, .ref m8, .int (zI pg), .int (zI rw), .int (zI un), .ref m9, .int (zI pm), .int (zI sp), .int (zI wr), .long ha])), (m0, .inl (cI, 74, .inl (zA Z1))), (m3, .inl (cI, 24, .inl (zA (zU P1 j1 F)))), (m4, .inl (cI, 24, .inl (zA (zU R1 j1 (-1))))), (m5, .inl (cI, 24, .inl (zA (zU U1 j1 (-1))))), (m7, .inl (cI, 16, .inl (zA (zU b1 F (b1 F + Z1 (2 + 3 * j1 + 2))))))]) rfl ?_
                refine zj_iconst 71 C dX5_pourWhole_70 rfl ?_
                refine zj_istore 73 [(4, .int (zI 0)), (0, .ref q5), (1, .int (zI j1)), (2, .int (zI tk)), (3, .int (zI F))] C dX5_pourWhole_71 rfl (by decide) rfl ?_
                refine zj_iload 75 0 C dX5_pourWhole_73 rfl rfl ?_
                refine zj_iload_n 76 3 C dX5_pourWhole_75 rfl rfl rfl ?_
                refine zj_icmp_ge 79 97 C (by omega) (by omega) dX5_pourWhole_76 rfl (by decide) (fun h76 => ?_) (fun h76 => ?_)
                · exact absurd h76 (by omega)
                · skip
                  refine zj_aload_n 80 1 C dX5_pourWhole_79 rfl rfl rfl ?_
                  refine zj_iload_n 81 2 C dX5_pourWhole_80 rfl rfl rfl ?_
                  refine zj_iload_n 82 4 C dX5_pourWhole_81 rfl rfl rfl ?_
                  refine zj_iload 84 0 C dX5_pourWhole_82 rfl rfl ?_
                  refine zj_iadd 85 C dX5_pourWhole_84 rfl ?_
                  refine zj_iconst 86 C dX5_pourWhole_85 rfl ?_
                  refine zj_bipush 88 C dX5_pourWhole_86 rfl rfl ?_
                  refine zj_cv 91 [2, 0, 1] [3, 4, 5, 6, 7] C (wr := [(m0, .inl (cI, 74, .inl (zA Z1))), (m3, .inl (cI, 24, .inl (zA (zU P1 j1 F)))), (m4, .inl (cI, 24, .inl (zA (zU R1 j1 (-1))))), (m5, .inl (cI, 24, .inl (zA (zU U1 j1 (-1))))), (m7, .inl (cI, 16, .inl (zA (zU b1 F (b1 F + Z1 (2 + 3 * j1 + 2))))))]) (zr_V [2, 0, 1] C (As := [.int (zI j1), .int (zI (F + 0)), .int (zI 0), .int (zI 24)]) (rest := []) (c_X5_mark l D cI cS cJ q5 m0 m1 m2 m3 m4 m5 m6 m7 m8 m9 th sm ty pg rw un pm sp wr ha c1 G1 j1 (F + 0) 0 24 (by omega) (by omega)) (cwV 4 C.1.2.2.2.2 gX5_pourWhole_X5_mark rfl rfl rfl (by decide +kernel) ⟨Nat.le_of_ble_eq_true rfl, Nat.le_of_ble_eq_true rfl⟩) rfl (by decide) 0 rfl rfl rfl rfl (Nat.le_of_ble_eq_true rfl) dX5_pourWhole_88 ⟨Nat.le_of_ble_eq_true rfl, Nat.le_of_ble_eq_true rfl⟩) rfl rfl (by decide) (by decide) rfl (fun w_ hp_39 => ?_)
                  obtain rfl := hp_39
                  refine zj_ws (ws' := [(m0, .inl (cI, 74, .inl (zA Z1))), (m3, .inl (cI, 24, .inl (zA (zU P1 j1 F)))), (m4, .inl (cI, 24, .inl (zA (zU R1 j1 (-1))))), (m5, .inl (cI, 24, .inl (zA (zU U1 j1 (-1))))), (m7, .inl (cI, 16, .inl (zA (zU b1 F (b1 F + Z1 (2 + 3 * j1 + 2)))))), (q5, .inr (5, [.int (zI th), .ref m0, .ref m1, .int (zI sm), .ref m2, .int (zI ty), .ref m3, .ref m4, .ref m5, .ref m6, .ref m7, .ref m8, .int (zI pg), .int (zI rw), .int (zI un), .ref m9, .int (zI pm), .int (zI sp), .int (zI wr), .long ha])), (m6, .inl (cI, 384, .inl (zA (zMk G1 (24 * (F + 0) + 0) 24 j1)))), (m8, .inl (cI, 16, .inl (zA (zU c1 (F + 0) (c1 (F + 0) + 1)))))]) rfl ?_
                  refine zj_iinc 94 0 [(4, .int (zI (0 + 1))), (0, .ref q5), (1, .int (zI j1)), (2, .int (zI tk)), (3, .int (zI F))] C dX5_pourWhole_91 rfl rfl (by decide) rfl ?_
                  refine zj_goto 73 C dX5_pourWhole_94 (by decide) ?_
                  refine zj_iload 75 0 C dX5_pourWhole_73 rfl rfl ?_
                  refine zj_iload_n 76 3 C dX5_pourWhole_75 rfl rfl rfl ?_
                  refine zj_icmp_ge 79 97 C (by omega) (by omega) dX5_pourWhole_76 rfl (by decide) (fun h76 => ?_) (fun h76 => ?_)
                  · skip
                    refine zj_aload_n 98 1 C dX5_pourWhole_97 rfl rfl rfl ?_
                    refine zj_iload_n 99 4 C dX5_pourWhole_98 rfl rfl rfl ?_
                    refine zj_iload_n 100 3 C dX5_pourWhole_99 rfl rfl rfl ?_
                    refine zj_iadd 101 C dX5_pourWhole_100 rfl ?_
                    refine zj_cv 104 [5] [0, 1, 2, 3, 4, 6, 7] C (wr := [(m0, .inl (cI, 74, .inl (zA Z1))), (m3, .inl (cI, 24, .inl (zA (zU P1 j1 F)))), (m4, .inl (cI, 24, .inl (zA (zU R1 j1 (-1))))), (m5, .inl (cI, 24, .inl (zA (zU U1 j1 (-1))))), (m7, .inl (cI, 16, .inl (zA (zU b1 F (b1 F + Z1 (2 + 3 * j1 + 2)))))), (m6, .inl (cI, 384, .inl (zA (zMk G1 (24 * (F + 0) + 0) 24 j1)))), (m8, .inl (cI, 16, .inl (zA (zU c1 (F + 0) (c1 (F + 0) + 1)))))]) (zr_V [5] C (As := [.int (zI (F + tk))]) (rest := []) (c_X5_nextPage l D cI cS cJ q5 m0 m1 m2 m3 m4 m5 m6 m7 m8 m9 th sm ty pg rw un pm sp wr ha (F + tk)) (cwV 1 C.1.2.2.2.2 gX5_pourWhole_X5_nextPage rfl rfl rfl (by decide +kernel) ⟨Nat.le_of_ble_eq_true rfl, Nat.le_of_ble_eq_true rfl⟩) rfl (by decide) 0 rfl rfl rfl rfl (Nat.le_of_ble_eq_true rfl) dX5_pourWhole_101 ⟨Nat.le_of_ble_eq_true rfl, Nat.le_of_ble_eq_true rfl⟩) rfl rfl (by decide) (by decide) rfl (fun w_ hp_41 => ?_)
                    obtain rfl := hp_41
                    refine zj_ws (ws' := [(m0, .inl (cI, 74, .inl (zA Z1))), (m3, .inl (cI, 24, .inl (zA (zU P1 j1 F)))), (m4, .inl (cI, 24, .inl (zA (zU R1 j1 (-1))))), (m5, .inl (cI, 24, .inl (zA (zU U1 j1 (-1))))), (m7, .inl (cI, 16, .inl (zA (zU b1 F (b1 F + Z1 (2 + 3 * j1 + 2)))))), (m6, .inl (cI, 384, .inl (zA (zMk G1 (24 * (F + 0) + 0) 24 j1)))), (m8, .inl (cI, 16, .inl (zA (zU c1 (F + 0) (c1 (F + 0) + 1))))), (q5, .inr (5, [.int (zI th), .ref m0, .ref m1, .int (zI sm), .ref m2, .int (zI ty), .ref m3, .ref m4, .ref m5, .ref m6, .ref m7, .ref m8, .int (zI (F + tk)), .int (zI 0), .int (zI 0), .ref m9, .int (zI pm), .int (zI sp), .int (zI wr), .long ha]))]) rfl ?_
                    refine zj_iconst 105 C dX5_pourWhole_104 rfl ?_
                    refine zj_re [7, 0, 1, 2, 3, 5, 4, 6] [(q5, .inr (5, [.int (zI th), .ref m0, .ref m1, .int (zI sm), .ref m2, .int (zI ty), .ref m3, .ref m4, .ref m5, .ref m6, .ref m7, .ref m8, .int (zI (F + tk)), .int (zI 0), .int (zI 0), .ref m9, .int (zI pm), .int (zI sp), .int (zI wr), .long ha])), (m0, .inl (cI, 74, .inl (zA Z1))), (m3, .inl (cI, 24, .inl (zA (zU P1 j1 F)))), (m4, .inl (cI, 24, .inl (zA (zU R1 j1 (-1))))), (m5, .inl (cI, 24, .inl (zA (zU U1 j1 (-1))))), (m6, .inl (cI, 384, .inl (zA (zMk G1 (24 * (F + 0) + 0) 24 j1)))), (m7, .inl (cI, 16, .inl (zA (zU b1 F (b1 F + Z1 (2 + 3 * j1 + 2)))))), (m8, .inl (cI, 16, .inl (zA (zU c1 (F + 0) (c1 (F + 0) + 1)))))] (by decide) rfl ?_
                    subst hQ
                    exact zj_zret C (zI_bool (by omega)) hr ⟨1, (F + tk), 0, 0, (zU P1 j1 F), (zU R1 j1 (-1)), (zU U1 j1 (-1)), (zMk G1 (24 * (F + 0) + 0) 24 j1), (zU b1 F (b1 F + Z1 (2 + 3 * j1 + 2))), (zU c1 (F + 0) (c1 (F + 0) + 1)), (by
        have e : zPlc (Z1 0) (Z1 (2 + 3 * j1 + 0)) (Z1 (2 + 3 * j1 + 1)) (Z1 (2 + 3 * j1 + 2)) pg rw un c1 b1 = (F, -1, -1) := by unfold zPlc; rw [if_neg (by omega), ← htk, ← hF, if_pos (by omega)]
        refine Or.inr ⟨rfl, by rw [e]; exact hF2.1, by rw [e], by rw [e], by rw [e], ?_, ?_⟩
        · unfold zGr
          rw [if_neg (by omega), if_pos (by omega), e]
          rw [show 24 * (F + 0) + 0 = 24 * F by omega]
        · unfold zNxC
          rw [if_neg (by omega), if_neg (by omega), e, ← htk]
          rw [Int.add_zero]), rfl, rfl⟩ (by decide) (by decide) dX5_pourWhole_105
                  · skip
                    refine zj_aload_n 80 1 C dX5_pourWhole_79 rfl rfl rfl ?_
                    refine zj_iload_n 81 2 C dX5_pourWhole_80 rfl rfl rfl ?_
                    refine zj_iload_n 82 4 C dX5_pourWhole_81 rfl rfl rfl ?_
                    refine zj_iload 84 0 C dX5_pourWhole_82 rfl rfl ?_
                    refine zj_iadd 85 C dX5_pourWhole_84 rfl ?_
                    refine zj_iconst 86 C dX5_pourWhole_85 rfl ?_
                    refine zj_bipush 88 C dX5_pourWhole_86 rfl rfl ?_
                    refine zj_cv 91 [5, 6, 7] [0, 1, 2, 3, 4] C (wr := [(m0, .inl (cI, 74, .inl (zA Z1))), (m3, .inl (cI, 24, .inl (zA (zU P1 j1 F)))), (m4, .inl (cI, 24, .inl (zA (zU R1 j1 (-1))))), (m5, .inl (cI, 24, .inl (zA (zU U1 j1 (-1))))), (m7, .inl (cI, 16, .inl (zA (zU b1 F (b1 F + Z1 (2 + 3 * j1 + 2))))))]) (zr_V [5, 6, 7] C (As := [.int (zI j1), .int (zI (F + (0 + 1))), .int (zI 0), .int (zI 24)]) (rest := []) (c_X5_mark l D cI cS cJ q5 m0 m1 m2 m3 m4 m5 m6 m7 m8 m9 th sm ty pg rw un pm sp wr ha (zU c1 (F + 0) (c1 (F + 0) + 1)) (zMk G1 (24 * (F + 0) + 0) 24 j1) j1 (F + (0 + 1)) 0 24 (by omega) (by omega)) (cwV 4 C.1.2.2.2.2 gX5_pourWhole_X5_mark rfl rfl rfl (by decide +kernel) ⟨Nat.le_of_ble_eq_true rfl, Nat.le_of_ble_eq_true rfl⟩) rfl (by decide) 0 rfl rfl rfl rfl (Nat.le_of_ble_eq_true rfl) dX5_pourWhole_88 ⟨Nat.le_of_ble_eq_true rfl, Nat.le_of_ble_eq_true rfl⟩) rfl rfl (by decide) (by decide) rfl (fun w_ hp_43 => ?_)
                    obtain rfl := hp_43
                    refine zj_ws (ws' := [(m0, .inl (cI, 74, .inl (zA Z1))), (m3, .inl (cI, 24, .inl (zA (zU P1 j1 F)))), (m4, .inl (cI, 24, .inl (zA (zU R1 j1 (-1))))), (m5, .inl (cI, 24, .inl (zA (zU U1 j1 (-1))))), (m7, .inl (cI, 16, .inl (zA (zU b1 F (b1 F + Z1 (2 + 3 * j1 + 2)))))), (q5, .inr (5, [.int (zI th), .ref m0, .ref m1, .int (zI sm), .ref m2, .int (zI ty), .ref m3, .ref m4, .ref m5, .ref m6, .ref m7, .ref m8, .int (zI pg), .int (zI rw), .int (zI un), .ref m9, .int (zI pm), .int (zI sp), .int (zI wr), .long ha])), (m6, .inl (cI, 384, .inl (zA (zMk (zMk G1 (24 * (F + 0) + 0) 24 j1) (24 * (F + (0 + 1)) + 0) 24 j1)))), (m8, .inl (cI, 16, .inl (zA (zU (zU c1 (F + 0) (c1 (F + 0) + 1)) (F + (0 + 1)) ((zU c1 (F + 0) (c1 (F + 0) + 1)) (F + (0 + 1)) + 1)))))]) rfl ?_
                    refine zj_iinc 94 0 [(4, .int (zI ((0 + 1) + 1))), (0, .ref q5), (1, .int (zI j1)), (2, .int (zI tk)), (3, .int (zI F))] C dX5_pourWhole_91 rfl rfl (by decide) rfl ?_
                    refine zj_goto 73 C dX5_pourWhole_94 (by decide) ?_
                    refine zj_iload 75 0 C dX5_pourWhole_73 rfl rfl ?_
                    refine zj_iload_n 76 3 C dX5_pourWhole_75 rfl rfl rfl ?_
                    refine zj_icmp_ge 79 97 C (by omega) (by omega) dX5_pourWhole_76 rfl (by decide) (fun h76 => ?_) (fun h76 => ?_)
                    · skip
                      refine zj_aload_n 98 1 C dX5_pourWhole_97 rfl rfl rfl ?_
                      refine zj_iload_n 99 4 C dX5_pourWhole_98 rfl rfl rfl ?_
                      refine zj_iload_n 100 3 C dX5_pourWhole_99 rfl rfl rfl ?_
                      refine zj_iadd 101 C dX5_pourWhole_100 rfl ?_
                      refine zj_cv 104 [5] [0, 1, 2, 3, 4, 6, 7] C (wr := [(m0, .inl (cI, 74, .inl (zA Z1))), (m3, .inl (cI, 24, .inl (zA (zU P1 j1 F)))), (m4, .inl (cI, 24, .inl (zA (zU R1 j1 (-1))))), (m5, .inl (cI, 24, .inl (zA (zU U1 j1 (-1))))), (m7, .inl (cI, 16, .inl (zA (zU b1 F (b1 F + Z1 (2 + 3 * j1 + 2)))))), (m6, .inl (cI, 384, .inl (zA (zMk (zMk G1 (24 * (F + 0) + 0) 24 j1) (24 * (F + (0 + 1)) + 0) 24 j1)))), (m8, .inl (cI, 16, .inl (zA (zU (zU c1 (F + 0) (c1 (F + 0) + 1)) (F + (0 + 1)) ((zU c1 (F + 0) (c1 (F + 0) + 1)) (F + (0 + 1)) + 1)))))]) (zr_V [5] C (As := [.int (zI (F + tk))]) (rest := []) (c_X5_nextPage l D cI cS cJ q5 m0 m1 m2 m3 m4 m5 m6 m7 m8 m9 th sm ty pg rw un pm sp wr ha (F + tk)) (cwV 1 C.1.2.2.2.2 gX5_pourWhole_X5_nextPage rfl rfl rfl (by decide +kernel) ⟨Nat.le_of_ble_eq_true rfl, Nat.le_of_ble_eq_true rfl⟩) rfl (by decide) 0 rfl rfl rfl rfl (Nat.le_of_ble_eq_true rfl) dX5_pourWhole_101 ⟨Nat.le_of_ble_eq_true rfl, Nat.le_of_ble_eq_true rfl⟩) rfl rfl (by decide) (by decide) rfl (fun w_ hp_45 => ?_)
                      obtain rfl := hp_45
                      refine zj_ws (ws' := [(m0, .inl (cI, 74, .inl (zA Z1))), (m3, .inl (cI, 24, .inl (zA (zU P1 j1 F)))), (m4, .inl (cI, 24, .inl (zA (zU R1 j1 (-1))))), (m5, .inl (cI, 24, .inl (zA (zU U1 j1 (-1))))), (m7, .inl (cI, 16, .inl (zA (zU b1 F (b1 F + Z1 (2 + 3 * j1 + 2)))))), (m6, .inl (cI, 384, .inl (zA (zMk (zMk G1 (24 * (F + 0) + 0) 24 j1) (24 * (F + (0 + 1)) + 0) 24 j1)))), (m8, .inl (cI, 16, .inl (zA (zU (zU c1 (F + 0) (c1 (F + 0) + 1)) (F + (0 + 1)) ((zU c1 (F + 0) (c1 (F + 0) + 1)) (F + (0 + 1)) + 1))))), (q5, .inr (5, [.int (zI th), .ref m0, .ref m1, .int (zI sm), .ref m2, .int (zI ty), .ref m3, .ref m4, .ref m5, .ref m6, .ref m7, .ref m8, .int (zI (F + tk)), .int (zI 0), .int (zI 0), .ref m9, .int (zI pm), .int (zI sp), .int (zI wr), .long ha]))]) rfl ?_
                      refine zj_iconst 105 C dX5_pourWhole_104 rfl ?_
                      refine zj_re [7, 0, 1, 2, 3, 5, 4, 6] [(q5, .inr (5, [.int (zI th), .ref m0, .ref m1, .int (zI sm), .ref m2, .int (zI ty), .ref m3, .ref m4, .ref m5, .ref m6, .ref m7, .ref m8, .int (zI (F + tk)), .int (zI 0), .int (zI 0), .ref m9, .int (zI pm), .int (zI sp), .int (zI wr), .long ha])), (m0, .inl (cI, 74, .inl (zA Z1))), (m3, .inl (cI, 24, .inl (zA (zU P1 j1 F)))), (m4, .inl (cI, 24, .inl (zA (zU R1 j1 (-1))))), (m5, .inl (cI, 24, .inl (zA (zU U1 j1 (-1))))), (m6, .inl (cI, 384, .inl (zA (zMk (zMk G1 (24 * (F + 0) + 0) 24 j1) (24 * (F + (0 + 1)) + 0) 24 j1)))), (m7, .inl (cI, 16, .inl (zA (zU b1 F (b1 F + Z1 (2 + 3 * j1 + 2)))))), (m8, .inl (cI, 16, .inl (zA (zU (zU c1 (F + 0) (c1 (F + 0) + 1)) (F + (0 + 1)) ((zU c1 (F + 0) (c1 (F + 0) + 1)) (F + (0 + 1)) + 1)))))] (by decide) rfl ?_
                      subst hQ
                      exact zj_zret C (zI_bool (by omega)) hr ⟨1, (F + tk), 0, 0, (zU P1 j1 F), (zU R1 j1 (-1)), (zU U1 j1 (-1)), (zMk (zMk G1 (24 * (F + 0) + 0) 24 j1) (24 * (F + (0 + 1)) + 0) 24 j1), (zU b1 F (b1 F + Z1 (2 + 3 * j1 + 2))), (zU (zU c1 (F + 0) (c1 (F + 0) + 1)) (F + (0 + 1)) ((zU c1 (F + 0) (c1 (F + 0) + 1)) (F + (0 + 1)) + 1)), (by
        have e : zPlc (Z1 0) (Z1 (2 + 3 * j1 + 0)) (Z1 (2 + 3 * j1 + 1)) (Z1 (2 + 3 * j1 + 2)) pg rw un c1 b1 = (F, -1, -1) := by unfold zPlc; rw [if_neg (by omega), ← htk, ← hF, if_pos (by omega)]
        refine Or.inr ⟨rfl, by rw [e]; exact hF2.1, by rw [e], by rw [e], by rw [e], ?_, ?_⟩
        · unfold zGr
          rw [if_neg (by omega), if_neg (by omega), e]
          rw [show 24 * (F + 0) + 0 = 24 * F by omega, show 24 * (F + (0 + 1)) + 0 = 24 * (F + 1) by omega]
        · unfold zNxC
          rw [if_neg (by omega), if_pos (by omega), e, ← htk]
          rw [Int.add_zero]; rfl), rfl, rfl⟩ (by decide) (by decide) dX5_pourWhole_105
                    · exact absurd h76 (by omega)
              · skip
                refine zj_iconst 61 C dX5_pourWhole_60 rfl ?_
                subst hQ
                exact zj_zret C (zI_bool (by omega)) hr ⟨0, pg, rw, un, P1, R1, U1, G1, b1, c1, (by exact Or.inl ⟨rfl, by unfold zPlc; rw [if_neg (by omega), ← htk, ← hF, if_neg (by omega)], rfl, rfl, rfl, rfl, rfl, rfl⟩), rfl, rfl⟩ (by decide) (by decide) dX5_pourWhole_61
            refine zj_lv [1, 2, 3, 0] [(0, .ref q5), (1, .int (zI j1)), (2, .int (zI tk)), (3, .int (zI (f0 + (f0 % 2))))] rfl ?_
            exact hL52 (f0 + (f0 % 2)) (by unfold zFst; rw [← hf0]; split <;> omega) (by omega)
        refine zj_re [6, 0, 1, 2, 3, 4, 5, 7] [(q5, .inr (5, [.int (zI th), .ref m0, .ref m1, .int (zI sm), .ref m2, .int (zI ty), .ref m3, .ref m4, .ref m5, .ref m6, .ref m7, .ref m8, .int (zI pg), .int (zI rw), .int (zI un), .ref m9, .int (zI pm), .int (zI sp), .int (zI wr), .long ha])), (m0, .inl (cI, 74, .inl (zA Z1))), (m3, .inl (cI, 24, .inl (zA P1))), (m4, .inl (cI, 24, .inl (zA R1))), (m5, .inl (cI, 24, .inl (zA U1))), (m6, .inl (cI, 384, .inl (zA G1))), (m7, .inl (cI, 16, .inl (zA b1))), (m8, .inl (cI, 16, .inl (zA c1)))] (by decide) rfl ?_
        refine zj_lv [1, 2, 3, 0] [(0, .ref q5), (1, .int (zI j1)), (2, .int (zI tk)), (3, .int (zI pg))] rfl ?_
        exact hL37 pg (by unfold zF0; split <;> omega) (by omega)
    refine zj_re [6, 7, 0, 1, 2, 3, 4, 5] [(q5, .inr (5, [.int (zI th), .ref m0, .ref m1, .int (zI sm), .ref m2, .int (zI ty), .ref m3, .ref m4, .ref m5, .ref m6, .ref m7, .ref m8, .int (zI pg), .int (zI rw), .int (zI un), .ref m9, .int (zI pm), .int (zI sp), .int (zI wr), .long ha])), (m0, .inl (cI, 74, .inl (zA Z1))), (m3, .inl (cI, 24, .inl (zA P1))), (m4, .inl (cI, 24, .inl (zA R1))), (m5, .inl (cI, 24, .inl (zA U1))), (m6, .inl (cI, 384, .inl (zA G1))), (m7, .inl (cI, 16, .inl (zA b1))), (m8, .inl (cI, 16, .inl (zA c1)))] (by decide) rfl ?_
    refine zj_lv [1, 2, 0] [(0, .ref q5), (1, .int (zI j1)), (2, .int (zI 2))] rfl ?_
    exact hL16 2 (by omega)
  · skip
    refine zj_iconst 11 C dX5_pourWhole_10 rfl ?_
    refine zj_goto 15 C dX5_pourWhole_11 (by decide) ?_
    refine zj_istore_n 16 [(2, .int (zI 1)), (0, .ref q5), (1, .int (zI j1))] C dX5_pourWhole_15 rfl rfl (by decide) rfl ?_
    have hL16 : ∀ (tk : Int), (tk = Z1 (2 + 3 * j1 + 0) - 1) → zJ p l e rm_X5_pourWhole s m args below meth c Q D A 5 [(q5, .inr (5, [.int (zI th), .ref m0, .ref m1, .int (zI sm), .ref m2, .int (zI ty), .ref m3, .ref m4, .ref m5, .ref m6, .ref m7, .ref m8, .int (zI pg), .int (zI rw), .int (zI un), .ref m9, .int (zI pm), .int (zI sp), .int (zI wr), .long ha])), (m0, .inl (cI, 74, .inl (zA Z1))), (m3, .inl (cI, 24, .inl (zA P1))), (m4, .inl (cI, 24, .inl (zA R1))), (m5, .inl (cI, 24, .inl (zA U1))), (m6, .inl (cI, 384, .inl (zA G1))), (m7, .inl (cI, 16, .inl (zA b1))), (m8, .inl (cI, 16, .inl (zA c1)))] 0 0 [(0, .ref q5), (1, .int (zI j1)), (2, .int (zI tk))] 16 [] := by
      intro tk htk
      refine zj_aload_n 17 0 C dX5_pourWhole_16 rfl rfl rfl ?_
      refine zj_ci 20 [0, 7] [1, 2, 3, 4, 5, 6] C (wr := [(m0, .inl (cI, 74, .inl (zA Z1))), (m3, .inl (cI, 24, .inl (zA P1))), (m4, .inl (cI, 24, .inl (zA R1))), (m5, .inl (cI, 24, .inl (zA U1))), (m6, .inl (cI, 384, .inl (zA G1))), (m7, .inl (cI, 16, .inl (zA b1)))]) (zr_V [0, 7] C (As := []) (rest := []) (c_X5_isEmpty l D cI cS cJ q5 m0 m1 m2 m3 m4 m5 m6 m7 m8 m9 th sm ty pg rw un pm sp wr ha c1 (by omega) hc) (cwV 0 C.1.2.2.2.2 gX5_pourWhole_X5_isEmpty rfl rfl rfl (by decide +kernel) ⟨Nat.le_of_ble_eq_true rfl, Nat.le_of_ble_eq_true rfl⟩) rfl (by decide) 0 rfl rfl rfl rfl (Nat.le_of_ble_eq_true rfl) dX5_pourWhole_17 ⟨Nat.le_of_ble_eq_true rfl, Nat.le_of_ble_eq_true rfl⟩) rfl rfl (by decide) (by decide) rfl (fun r_46 w_ hp_47 => ?_)
      obtain ⟨r1_48, fe, rfl, rfl⟩ := hp_47
      refine zj_ws (ws' := [(m0, .inl (cI, 74, .inl (zA Z1))), (m3, .inl (cI, 24, .inl (zA P1))), (m4, .inl (cI, 24, .inl (zA R1))), (m5, .inl (cI, 24, .inl (zA U1))), (m6, .inl (cI, 384, .inl (zA G1))), (m7, .inl (cI, 16, .inl (zA b1))), (q5, .inr (5, [.int (zI th), .ref m0, .ref m1, .int (zI sm), .ref m2, .int (zI ty), .ref m3, .ref m4, .ref m5, .ref m6, .ref m7, .ref m8, .int (zI pg), .int (zI rw), .int (zI un), .ref m9, .int (zI pm), .int (zI sp), .int (zI wr), .long ha])), (m8, .inl (cI, 16, .inl (zA c1)))]) rfl ?_
      refine zj_if_eq 23 30 C (by omega) dX5_pourWhole_20 rfl (by decide) (fun h20 => ?_) (fun h20 => ?_)
      · skip
        refine zj_aload_n 31 0 C dX5_pourWhole_30 rfl rfl rfl ?_
        refine zj_get 34 6 12 C (T := TX5) im_X5_pourWhole_5 fl_X5_pourWhole_47 rfl rfl (by decide) rfl rfl dX5_pourWhole_31 rfl ?_
        refine zj_iconst 35 C dX5_pourWhole_34 rfl ?_
        refine zj_iadd 36 C dX5_pourWhole_35 rfl ?_
        refine zj_istore_n 37 [(3, .int (zI (pg + 1))), (0, .ref q5), (1, .int (zI j1)), (2, .int (zI tk))] C dX5_pourWhole_36 rfl rfl (by decide) rfl ?_
        have hL37 : ∀ (f0 : Int), (f0 = zF0 c1 pg) → (0 ≤ f0 ∧ f0 ≤ 17) → zJ p l e rm_X5_pourWhole s m args below meth c Q D A 5 [(q5, .inr (5, [.int (zI th), .ref m0, .ref m1, .int (zI sm), .ref m2, .int (zI ty), .ref m3, .ref m4, .ref m5, .ref m6, .ref m7, .ref m8, .int (zI pg), .int (zI rw), .int (zI un), .ref m9, .int (zI pm), .int (zI sp), .int (zI wr), .long ha])), (m0, .inl (cI, 74, .inl (zA Z1))), (m3, .inl (cI, 24, .inl (zA P1))), (m4, .inl (cI, 24, .inl (zA R1))), (m5, .inl (cI, 24, .inl (zA U1))), (m6, .inl (cI, 384, .inl (zA G1))), (m7, .inl (cI, 16, .inl (zA b1))), (m8, .inl (cI, 16, .inl (zA c1)))] 0 0 [(0, .ref q5), (1, .int (zI j1)), (2, .int (zI tk)), (3, .int (zI f0))] 37 [] := by
          intro f0 hf0 hf1
          refine zj_iload_n 38 3 C dX5_pourWhole_37 rfl rfl rfl ?_
          refine zj_iload_n 39 2 C dX5_pourWhole_38 rfl rfl rfl ?_
          refine zj_iconst 40 C dX5_pourWhole_39 rfl ?_
          refine zj_icmp_ne 43 49 C (by omega) (by omega) dX5_pourWhole_40 rfl (by decide) (fun h40 => ?_) (fun h40 => ?_)
          · skip
            refine zj_iconst 50 C dX5_pourWhole_49 rfl ?_
            refine zj_iadd 51 C dX5_pourWhole_50 rfl ?_
            refine zj_istore_n 52 [(3, .int (zI (f0 + 0))), (0, .ref q5), (1, .int (zI j1)), (2, .int (zI tk))] C dX5_pourWhole_51 rfl rfl (by decide) rfl ?_
            have hL52 : ∀ (F : Int), (F = zFst c1 pg tk) → (0 ≤ F ∧ F ≤ 18) → zJ p l e rm_X5_pourWhole s m args below meth c Q D A 5 [(q5, .inr (5, [.int (zI th), .ref m0, .ref m1, .int (zI sm), .ref m2, .int (zI ty), .ref m3, .ref m4, .ref m5, .ref m6, .ref m7, .ref m8, .int (zI pg), .int (zI rw), .int (zI un), .ref m9, .int (zI pm), .int (zI sp), .int (zI wr), .long ha])), (m0, .inl (cI, 74, .inl (zA Z1))), (m3, .inl (cI, 24, .inl (zA P1))), (m4, .inl (cI, 24, .inl (zA R1))), (m5, .inl (cI, 24, .inl (zA U1))), (m6, .inl (cI, 384, .inl (zA G1))), (m7, .inl (cI, 16, .inl (zA b1))), (m8, .inl (cI, 16, .inl (zA c1)))] 0 0 [(0, .ref q5), (1, .int (zI j1)), (2, .int (zI tk)), (3, .int (zI F))] 52 [] := by
              intro F hF hF2
              refine zj_iload_n 53 3 C dX5_pourWhole_52 rfl rfl rfl ?_
              refine zj_iload_n 54 2 C dX5_pourWhole_53 rfl rfl rfl ?_
              refine zj_iadd 55 C dX5_pourWhole_54 rfl ?_
              refine zj_bipush 57 C dX5_pourWhole_55 rfl rfl ?_
              refine zj_icmp_le 60 62 C (by omega) (by omega) dX5_pourWhole_57 rfl (by decide) (fun h57 => ?_) (fun h57 => ?_)
              · skip
                refine zj_aload_n 63 0 C dX5_pourWhole_62 rfl rfl rfl ?_
                refine zj_iload_n 64 1 C dX5_pourWhole_63 rfl rfl rfl ?_
                refine zj_iload_n 65 3 C dX5_pourWhole_64 rfl rfl rfl ?_
                refine zj_iconst 66 C dX5_pourWhole_65 rfl ?_
                refine zj_iconst 67 C dX5_pourWhole_66 rfl ?_
                refine zj_cv 70 [0, 1, 2, 3, 4, 6] [5, 7] C (wr := [(m6, .inl (cI, 384, .inl (zA G1))), (m8, .inl (cI, 16, .inl (zA c1)))]) (zr_V [0, 1, 2, 3, 4, 6] C (As := [.int (zI j1), .int (zI F), .int (zI (-1)), .int (zI (-1))]) (rest := []) (c_X5_stand l D cI cS cJ q5 m0 m1 m2 m3 m4 m5 m6 m7 m8 m9 th sm ty pg rw un pm sp wr ha Z1 P1 R1 U1 b1 j1 F (-1) (-1) (by omega) (by omega)) (cwV 4 C.1.2.2.2.2 gX5_pourWhole_X5_stand rfl rfl rfl (by decide +kernel) ⟨Nat.le_of_ble_eq_true rfl, Nat.le_of_ble_eq_true rfl⟩) rfl (by decide) 0 rfl rfl rfl rfl (Nat.le_of_ble_eq_true rfl) dX5_pourWhole_67 ⟨Nat.le_of_ble_eq_true rfl, Nat.le_of_ble_eq_true rfl⟩) rfl rfl (by decide) (by decide) rfl (fun w_ hp_50 => ?_)
                obtain rfl := hp_50
                refine zj_ws (ws' := [(m6, .inl (cI, 384, .inl (zA G1))), (m8, .inl (cI, 16, .inl (zA c1))), (q5, .inr (5, [.int (zI th), .ref m0, .ref m1, .int (zI sm), .ref m2, .int (zI ty), .ref m3, .ref m4, .ref m5, .ref m6, .ref m7, .ref m8, .int (zI pg), .int (zI rw), .int (zI un), .ref m9, .int (zI pm), .int (zI sp), .int (zI wr), .long ha])), (m0, .inl (cI, 74, .inl (zA Z1))), (m3, .inl (cI, 24, .inl (zA (zU P1 j1 F)))), (m4, .inl (cI, 24, .inl (zA (zU R1 j1 (-1))))), (m5, .inl (cI, 24, .inl (zA (zU U1 j1 (-1))))), (m7, .inl (cI, 16, .inl (zA (zU b1 F (b1 F + Z1 (2 + 3 * j1 + 2))))))]) rfl ?_
                refine zj_iconst 71 C dX5_pourWhole_70 rfl ?_
                refine zj_istore 73 [(4, .int (zI 0)), (0, .ref q5), (1, .int (zI j1)), (2, .int (zI tk)), (3, .int (zI F))] C dX5_pourWhole_71 rfl (by decide) rfl ?_
                refine zj_iload 75 0 C dX5_pourWhole_73 rfl rfl ?_
                refine zj_iload_n 76 3 C dX5_pourWhole_75 rfl rfl rfl ?_
                refine zj_icmp_ge 79 97 C (by omega) (by omega) dX5_pourWhole_76 rfl (by decide) (fun h76 => ?_) (fun h76 => ?_)
                · exact absurd h76 (by omega)
                · skip
                  refine zj_aload_n 80 1 C dX5_pourWhole_79 rfl rfl rfl ?_
                  refine zj_iload_n 81 2 C dX5_pourWhole_80 rfl rfl rfl ?_
                  refine zj_iload_n 82 4 C dX5_pourWhole_81 rfl rfl rfl ?_
                  refine zj_iload 84 0 C dX5_pourWhole_82 rfl rfl ?_
                  refine zj_iadd 85 C dX5_pourWhole_84 rfl ?_
                  refine zj_iconst 86 C dX5_pourWhole_85 rfl ?_
                  refine zj_bipush 88 C dX5_pourWhole_86 rfl rfl ?_
                  refine zj_cv 91 [2, 0, 1] [3, 4, 5, 6, 7] C (wr := [(m0, .inl (cI, 74, .inl (zA Z1))), (m3, .inl (cI, 24, .inl (zA (zU P1 j1 F)))), (m4, .inl (cI, 24, .inl (zA (zU R1 j1 (-1))))), (m5, .inl (cI, 24, .inl (zA (zU U1 j1 (-1))))), (m7, .inl (cI, 16, .inl (zA (zU b1 F (b1 F + Z1 (2 + 3 * j1 + 2))))))]) (zr_V [2, 0, 1] C (As := [.int (zI j1), .int (zI (F + 0)), .int (zI 0), .int (zI 24)]) (rest := []) (c_X5_mark l D cI cS cJ q5 m0 m1 m2 m3 m4 m5 m6 m7 m8 m9 th sm ty pg rw un pm sp wr ha c1 G1 j1 (F + 0) 0 24 (by omega) (by omega)) (cwV 4 C.1.2.2.2.2 gX5_pourWhole_X5_mark rfl rfl rfl (by decide +kernel) ⟨Nat.le_of_ble_eq_true rfl, Nat.le_of_ble_eq_true rfl⟩) rfl (by decide) 0 rfl rfl rfl rfl (Nat.le_of_ble_eq_true rfl) dX5_pourWhole_88 ⟨Nat.le_of_ble_eq_true rfl, Nat.le_of_ble_eq_true rfl⟩) rfl rfl (by decide) (by decide) rfl (fun w_ hp_52 => ?_)
                  obtain rfl := hp_52
                  refine zj_ws (ws' := [(m0, .inl (cI, 74, .inl (zA Z1))), (m3, .inl (cI, 24, .inl (zA (zU P1 j1 F)))), (m4, .inl (cI, 24, .inl (zA (zU R1 j1 (-1))))), (m5, .inl (cI, 24, .inl (zA (zU U1 j1 (-1))))), (m7, .inl (cI, 16, .inl (zA (zU b1 F (b1 F + Z1 (2 + 3 * j1 + 2)))))), (q5, .inr (5, [.int (zI th), .ref m0, .ref m1, .int (zI sm), .ref m2, .int (zI ty), .ref m3, .ref m4, .ref m5, .ref m6, .ref m7, .ref m8, .int (zI pg), .int (zI rw), .int (zI un), .ref m9, .int (zI pm), .int (zI sp), .int (zI wr), .long ha])), (m6, .inl (cI, 384, .inl (zA (zMk G1 (24 * (F + 0) + 0) 24 j1)))), (m8, .inl (cI, 16, .inl (zA (zU c1 (F + 0) (c1 (F + 0) + 1)))))]) rfl ?_
                  refine zj_iinc 94 0 [(4, .int (zI (0 + 1))), (0, .ref q5), (1, .int (zI j1)), (2, .int (zI tk)), (3, .int (zI F))] C dX5_pourWhole_91 rfl rfl (by decide) rfl ?_
                  refine zj_goto 73 C dX5_pourWhole_94 (by decide) ?_
                  refine zj_iload 75 0 C dX5_pourWhole_73 rfl rfl ?_
                  refine zj_iload_n 76 3 C dX5_pourWhole_75 rfl rfl rfl ?_
                  refine zj_icmp_ge 79 97 C (by omega) (by omega) dX5_pourWhole_76 rfl (by decide) (fun h76 => ?_) (fun h76 => ?_)
                  · skip
                    refine zj_aload_n 98 1 C dX5_pourWhole_97 rfl rfl rfl ?_
                    refine zj_iload_n 99 4 C dX5_pourWhole_98 rfl rfl rfl ?_
                    refine zj_iload_n 100 3 C dX5_pourWhole_99 rfl rfl rfl ?_
                    refine zj_iadd 101 C dX5_pourWhole_100 rfl ?_
                    refine zj_cv 104 [5] [0, 1, 2, 3, 4, 6, 7] C (wr := [(m0, .inl (cI, 74, .inl (zA Z1))), (m3, .inl (cI, 24, .inl (zA (zU P1 j1 F)))), (m4, .inl (cI, 24, .inl (zA (zU R1 j1 (-1))))), (m5, .inl (cI, 24, .inl (zA (zU U1 j1 (-1))))), (m7, .inl (cI, 16, .inl (zA (zU b1 F (b1 F + Z1 (2 + 3 * j1 + 2)))))), (m6, .inl (cI, 384, .inl (zA (zMk G1 (24 * (F + 0) + 0) 24 j1)))), (m8, .inl (cI, 16, .inl (zA (zU c1 (F + 0) (c1 (F + 0) + 1)))))]) (zr_V [5] C (As := [.int (zI (F + tk))]) (rest := []) (c_X5_nextPage l D cI cS cJ q5 m0 m1 m2 m3 m4 m5 m6 m7 m8 m9 th sm ty pg rw un pm sp wr ha (F + tk)) (cwV 1 C.1.2.2.2.2 gX5_pourWhole_X5_nextPage rfl rfl rfl (by decide +kernel) ⟨Nat.le_of_ble_eq_true rfl, Nat.le_of_ble_eq_true rfl⟩) rfl (by decide) 0 rfl rfl rfl rfl (Nat.le_of_ble_eq_true rfl) dX5_pourWhole_101 ⟨Nat.le_of_ble_eq_true rfl, Nat.le_of_ble_eq_true rfl⟩) rfl rfl (by decide) (by decide) rfl (fun w_ hp_54 => ?_)
                    obtain rfl := hp_54
                    refine zj_ws (ws' := [(m0, .inl (cI, 74, .inl (zA Z1))), (m3, .inl (cI, 24, .inl (zA (zU P1 j1 F)))), (m4, .inl (cI, 24, .inl (zA (zU R1 j1 (-1))))), (m5, .inl (cI, 24, .inl (zA (zU U1 j1 (-1))))), (m7, .inl (cI, 16, .inl (zA (zU b1 F (b1 F + Z1 (2 + 3 * j1 + 2)))))), (m6, .inl (cI, 384, .inl (zA (zMk G1 (24 * (F + 0) + 0) 24 j1)))), (m8, .inl (cI, 16, .inl (zA (zU c1 (F + 0) (c1 (F + 0) + 1))))), (q5, .inr (5, [.int (zI th), .ref m0, .ref m1, .int (zI sm), .ref m2, .int (zI ty), .ref m3, .ref m4, .ref m5, .ref m6, .ref m7, .ref m8, .int (zI (F + tk)), .int (zI 0), .int (zI 0), .ref m9, .int (zI pm), .int (zI sp), .int (zI wr), .long ha]))]) rfl ?_
                    refine zj_iconst 105 C dX5_pourWhole_104 rfl ?_
                    refine zj_re [7, 0, 1, 2, 3, 5, 4, 6] [(q5, .inr (5, [.int (zI th), .ref m0, .ref m1, .int (zI sm), .ref m2, .int (zI ty), .ref m3, .ref m4, .ref m5, .ref m6, .ref m7, .ref m8, .int (zI (F + tk)), .int (zI 0), .int (zI 0), .ref m9, .int (zI pm), .int (zI sp), .int (zI wr), .long ha])), (m0, .inl (cI, 74, .inl (zA Z1))), (m3, .inl (cI, 24, .inl (zA (zU P1 j1 F)))), (m4, .inl (cI, 24, .inl (zA (zU R1 j1 (-1))))), (m5, .inl (cI, 24, .inl (zA (zU U1 j1 (-1))))), (m6, .inl (cI, 384, .inl (zA (zMk G1 (24 * (F + 0) + 0) 24 j1)))), (m7, .inl (cI, 16, .inl (zA (zU b1 F (b1 F + Z1 (2 + 3 * j1 + 2)))))), (m8, .inl (cI, 16, .inl (zA (zU c1 (F + 0) (c1 (F + 0) + 1)))))] (by decide) rfl ?_
                    subst hQ
                    exact zj_zret C (zI_bool (by omega)) hr ⟨1, (F + tk), 0, 0, (zU P1 j1 F), (zU R1 j1 (-1)), (zU U1 j1 (-1)), (zMk G1 (24 * (F + 0) + 0) 24 j1), (zU b1 F (b1 F + Z1 (2 + 3 * j1 + 2))), (zU c1 (F + 0) (c1 (F + 0) + 1)), (by
        have e : zPlc (Z1 0) (Z1 (2 + 3 * j1 + 0)) (Z1 (2 + 3 * j1 + 1)) (Z1 (2 + 3 * j1 + 2)) pg rw un c1 b1 = (F, -1, -1) := by unfold zPlc; rw [if_neg (by omega), ← htk, ← hF, if_pos (by omega)]
        refine Or.inr ⟨rfl, by rw [e]; exact hF2.1, by rw [e], by rw [e], by rw [e], ?_, ?_⟩
        · unfold zGr
          rw [if_neg (by omega), if_pos (by omega), e]
          rw [show 24 * (F + 0) + 0 = 24 * F by omega]
        · unfold zNxC
          rw [if_neg (by omega), if_neg (by omega), e, ← htk]
          rw [Int.add_zero]), rfl, rfl⟩ (by decide) (by decide) dX5_pourWhole_105
                  · skip
                    refine zj_aload_n 80 1 C dX5_pourWhole_79 rfl rfl rfl ?_
                    refine zj_iload_n 81 2 C dX5_pourWhole_80 rfl rfl rfl ?_
                    refine zj_iload_n 82 4 C dX5_pourWhole_81 rfl rfl rfl ?_
                    refine zj_iload 84 0 C dX5_pourWhole_82 rfl rfl ?_
                    refine zj_iadd 85 C dX5_pourWhole_84 rfl ?_
                    refine zj_iconst 86 C dX5_pourWhole_85 rfl ?_
                    refine zj_bipush 88 C dX5_pourWhole_86 rfl rfl ?_
                    refine zj_cv 91 [5, 6, 7] [0, 1, 2, 3, 4] C (wr := [(m0, .inl (cI, 74, .inl (zA Z1))), (m3, .inl (cI, 24, .inl (zA (zU P1 j1 F)))), (m4, .inl (cI, 24, .inl (zA (zU R1 j1 (-1))))), (m5, .inl (cI, 24, .inl (zA (zU U1 j1 (-1))))), (m7, .inl (cI, 16, .inl (zA (zU b1 F (b1 F + Z1 (2 + 3 * j1 + 2))))))]) (zr_V [5, 6, 7] C (As := [.int (zI j1), .int (zI (F + (0 + 1))), .int (zI 0), .int (zI 24)]) (rest := []) (c_X5_mark l D cI cS cJ q5 m0 m1 m2 m3 m4 m5 m6 m7 m8 m9 th sm ty pg rw un pm sp wr ha (zU c1 (F + 0) (c1 (F + 0) + 1)) (zMk G1 (24 * (F + 0) + 0) 24 j1) j1 (F + (0 + 1)) 0 24 (by omega) (by omega)) (cwV 4 C.1.2.2.2.2 gX5_pourWhole_X5_mark rfl rfl rfl (by decide +kernel) ⟨Nat.le_of_ble_eq_true rfl, Nat.le_of_ble_eq_true rfl⟩) rfl (by decide) 0 rfl rfl rfl rfl (Nat.le_of_ble_eq_true rfl) dX5_pourWhole_88 ⟨Nat.le_of_ble_eq_true rfl, Nat.le_of_ble_eq_true rfl⟩) rfl rfl (by decide) (by decide) rfl (fun w_ hp_56 => ?_)
                    obtain rfl := hp_56
                    refine zj_ws (ws' := [(m0, .inl (cI, 74, .inl (zA Z1))), (m3, .inl (cI, 24, .inl (zA (zU P1 j1 F)))), (m4, .inl (cI, 24, .inl (zA (zU R1 j1 (-1))))), (m5, .inl (cI, 24, .inl (zA (zU U1 j1 (-1))))), (m7, .inl (cI, 16, .inl (zA (zU b1 F (b1 F + Z1 (2 + 3 * j1 + 2)))))), (q5, .inr (5, [.int (zI th), .ref m0, .ref m1, .int (zI sm), .ref m2, .int (zI ty), .ref m3, .ref m4, .ref m5, .ref m6, .ref m7, .ref m8, .int (zI pg), .int (zI rw), .int (zI un), .ref m9, .int (zI pm), .int (zI sp), .int (zI wr), .long ha])), (m6, .inl (cI, 384, .inl (zA (zMk (zMk G1 (24 * (F + 0) + 0) 24 j1) (24 * (F + (0 + 1)) + 0) 24 j1)))), (m8, .inl (cI, 16, .inl (zA (zU (zU c1 (F + 0) (c1 (F + 0) + 1)) (F + (0 + 1)) ((zU c1 (F + 0) (c1 (F + 0) + 1)) (F + (0 + 1)) + 1)))))]) rfl ?_
                    refine zj_iinc 94 0 [(4, .int (zI ((0 + 1) + 1))), (0, .ref q5), (1, .int (zI j1)), (2, .int (zI tk)), (3, .int (zI F))] C dX5_pourWhole_91 rfl rfl (by decide) rfl ?_
                    refine zj_goto 73 C dX5_pourWhole_94 (by decide) ?_
                    refine zj_iload 75 0 C dX5_pourWhole_73 rfl rfl ?_
                    refine zj_iload_n 76 3 C dX5_pourWhole_75 rfl rfl rfl ?_
                    refine zj_icmp_ge 79 97 C (by omega) (by omega) dX5_pourWhole_76 rfl (by decide) (fun h76 => ?_) (fun h76 => ?_)
                    · skip
                      refine zj_aload_n 98 1 C dX5_pourWhole_97 rfl rfl rfl ?_
                      refine zj_iload_n 99 4 C dX5_pourWhole_98 rfl rfl rfl ?_
                      refine zj_iload_n 100 3 C dX5_pourWhole_99 rfl rfl rfl ?_
                      refine zj_iadd 101 C dX5_pourWhole_100 rfl ?_
                      refine zj_cv 104 [5] [0, 1, 2, 3, 4, 6, 7] C (wr := [(m0, .inl (cI, 74, .inl (zA Z1))), (m3, .inl (cI, 24, .inl (zA (zU P1 j1 F)))), (m4, .inl (cI, 24, .inl (zA (zU R1 j1 (-1))))), (m5, .inl (cI, 24, .inl (zA (zU U1 j1 (-1))))), (m7, .inl (cI, 16, .inl (zA (zU b1 F (b1 F + Z1 (2 + 3 * j1 + 2)))))), (m6, .inl (cI, 384, .inl (zA (zMk (zMk G1 (24 * (F + 0) + 0) 24 j1) (24 * (F + (0 + 1)) + 0) 24 j1)))), (m8, .inl (cI, 16, .inl (zA (zU (zU c1 (F + 0) (c1 (F + 0) + 1)) (F + (0 + 1)) ((zU c1 (F + 0) (c1 (F + 0) + 1)) (F + (0 + 1)) + 1)))))]) (zr_V [5] C (As := [.int (zI (F + tk))]) (rest := []) (c_X5_nextPage l D cI cS cJ q5 m0 m1 m2 m3 m4 m5 m6 m7 m8 m9 th sm ty pg rw un pm sp wr ha (F + tk)) (cwV 1 C.1.2.2.2.2 gX5_pourWhole_X5_nextPage rfl rfl rfl (by decide +kernel) ⟨Nat.le_of_ble_eq_true rfl, Nat.le_of_ble_eq_true rfl⟩) rfl (by decide) 0 rfl rfl rfl rfl (Nat.le_of_ble_eq_true rfl) dX5_pourWhole_101 ⟨Nat.le_of_ble_eq_true rfl, Nat.le_of_ble_eq_true rfl⟩) rfl rfl (by decide) (by decide) rfl (fun w_ hp_58 => ?_)
                      obtain rfl := hp_58
                      refine zj_ws (ws' := [(m0, .inl (cI, 74, .inl (zA Z1))), (m3, .inl (cI, 24, .inl (zA (zU P1 j1 F)))), (m4, .inl (cI, 24, .inl (zA (zU R1 j1 (-1))))), (m5, .inl (cI, 24, .inl (zA (zU U1 j1 (-1))))), (m7, .inl (cI, 16, .inl (zA (zU b1 F (b1 F + Z1 (2 + 3 * j1 + 2)))))), (m6, .inl (cI, 384, .inl (zA (zMk (zMk G1 (24 * (F + 0) + 0) 24 j1) (24 * (F + (0 + 1)) + 0) 24 j1)))), (m8, .inl (cI, 16, .inl (zA (zU (zU c1 (F + 0) (c1 (F + 0) + 1)) (F + (0 + 1)) ((zU c1 (F + 0) (c1 (F + 0) + 1)) (F + (0 + 1)) + 1))))), (q5, .inr (5, [.int (zI th), .ref m0, .ref m1, .int (zI sm), .ref m2, .int (zI ty), .ref m3, .ref m4, .ref m5, .ref m6, .ref m7, .ref m8, .int (zI (F + tk)), .int (zI 0), .int (zI 0), .ref m9, .int (zI pm), .int (zI sp), .int (zI wr), .long ha]))]) rfl ?_
                      refine zj_iconst 105 C dX5_pourWhole_104 rfl ?_
                      refine zj_re [7, 0, 1, 2, 3, 5, 4, 6] [(q5, .inr (5, [.int (zI th), .ref m0, .ref m1, .int (zI sm), .ref m2, .int (zI ty), .ref m3, .ref m4, .ref m5, .ref m6, .ref m7, .ref m8, .int (zI (F + tk)), .int (zI 0), .int (zI 0), .ref m9, .int (zI pm), .int (zI sp), .int (zI wr), .long ha])), (m0, .inl (cI, 74, .inl (zA Z1))), (m3, .inl (cI, 24, .inl (zA (zU P1 j1 F)))), (m4, .inl (cI, 24, .inl (zA (zU R1 j1 (-1))))), (m5, .inl (cI, 24, .inl (zA (zU U1 j1 (-1))))), (m6, .inl (cI, 384, .inl (zA (zMk (zMk G1 (24 * (F + 0) + 0) 24 j1) (24 * (F + (0 + 1)) + 0) 24 j1)))), (m7, .inl (cI, 16, .inl (zA (zU b1 F (b1 F + Z1 (2 + 3 * j1 + 2)))))), (m8, .inl (cI, 16, .inl (zA (zU (zU c1 (F + 0) (c1 (F + 0) + 1)) (F + (0 + 1)) ((zU c1 (F + 0) (c1 (F + 0) + 1)) (F + (0 + 1)) + 1)))))] (by decide) rfl ?_
                      subst hQ
                      exact zj_zret C (zI_bool (by omega)) hr ⟨1, (F + tk), 0, 0, (zU P1 j1 F), (zU R1 j1 (-1)), (zU U1 j1 (-1)), (zMk (zMk G1 (24 * (F + 0) + 0) 24 j1) (24 * (F + (0 + 1)) + 0) 24 j1), (zU b1 F (b1 F + Z1 (2 + 3 * j1 + 2))), (zU (zU c1 (F + 0) (c1 (F + 0) + 1)) (F + (0 + 1)) ((zU c1 (F + 0) (c1 (F + 0) + 1)) (F + (0 + 1)) + 1)), (by
        have e : zPlc (Z1 0) (Z1 (2 + 3 * j1 + 0)) (Z1 (2 + 3 * j1 + 1)) (Z1 (2 + 3 * j1 + 2)) pg rw un c1 b1 = (F, -1, -1) := by unfold zPlc; rw [if_neg (by omega), ← htk, ← hF, if_pos (by omega)]
        refine Or.inr ⟨rfl, by rw [e]; exact hF2.1, by rw [e], by rw [e], by rw [e], ?_, ?_⟩
        · unfold zGr
          rw [if_neg (by omega), if_neg (by omega), e]
          rw [show 24 * (F + 0) + 0 = 24 * F by omega, show 24 * (F + (0 + 1)) + 0 = 24 * (F + 1) by omega]
        · unfold zNxC
          rw [if_neg (by omega), if_pos (by omega), e, ← htk]
          rw [Int.add_zero]; rfl), rfl, rfl⟩ (by decide) (by decide) dX5_pourWhole_105
                    · exact absurd h76 (by omega)
              · skip
                refine zj_iconst 61 C dX5_pourWhole_60 rfl ?_
                subst hQ
                exact zj_zret C (zI_bool (by omega)) hr ⟨0, pg, rw, un, P1, R1, U1, G1, b1, c1, (by exact Or.inl ⟨rfl, by unfold zPlc; rw [if_neg (by omega), ← htk, ← hF, if_neg (by omega)], rfl, rfl, rfl, rfl, rfl, rfl⟩), rfl, rfl⟩ (by decide) (by decide) dX5_pourWhole_61
            refine zj_lv [1, 2, 3, 0] [(0, .ref q5), (1, .int (zI j1)), (2, .int (zI tk)), (3, .int (zI (f0 + 0)))] rfl ?_
            exact hL52 (f0 + 0) (by unfold zFst; rw [← hf0]; split <;> omega) (by omega)
          · skip
            refine zj_iload_n 44 3 C dX5_pourWhole_43 rfl rfl rfl ?_
            refine zj_iconst 45 C dX5_pourWhole_44 rfl ?_
            refine zj_irem2 46 C dX5_pourWhole_45 rfl (by omega) ?_
            refine zj_goto 50 C dX5_pourWhole_46 (by decide) ?_
            refine zj_iadd 51 C dX5_pourWhole_50 rfl ?_
            refine zj_istore_n 52 [(3, .int (zI (f0 + (f0 % 2)))), (0, .ref q5), (1, .int (zI j1)), (2, .int (zI tk))] C dX5_pourWhole_51 rfl rfl (by decide) rfl ?_
            have hL52 : ∀ (F : Int), (F = zFst c1 pg tk) → (0 ≤ F ∧ F ≤ 18) → zJ p l e rm_X5_pourWhole s m args below meth c Q D A 5 [(q5, .inr (5, [.int (zI th), .ref m0, .ref m1, .int (zI sm), .ref m2, .int (zI ty), .ref m3, .ref m4, .ref m5, .ref m6, .ref m7, .ref m8, .int (zI pg), .int (zI rw), .int (zI un), .ref m9, .int (zI pm), .int (zI sp), .int (zI wr), .long ha])), (m0, .inl (cI, 74, .inl (zA Z1))), (m3, .inl (cI, 24, .inl (zA P1))), (m4, .inl (cI, 24, .inl (zA R1))), (m5, .inl (cI, 24, .inl (zA U1))), (m6, .inl (cI, 384, .inl (zA G1))), (m7, .inl (cI, 16, .inl (zA b1))), (m8, .inl (cI, 16, .inl (zA c1)))] 0 0 [(0, .ref q5), (1, .int (zI j1)), (2, .int (zI tk)), (3, .int (zI F))] 52 [] := by
              intro F hF hF2
              refine zj_iload_n 53 3 C dX5_pourWhole_52 rfl rfl rfl ?_
              refine zj_iload_n 54 2 C dX5_pourWhole_53 rfl rfl rfl ?_
              refine zj_iadd 55 C dX5_pourWhole_54 rfl ?_
              refine zj_bipush 57 C dX5_pourWhole_55 rfl rfl ?_
              refine zj_icmp_le 60 62 C (by omega) (by omega) dX5_pourWhole_57 rfl (by decide) (fun h57 => ?_) (fun h57 => ?_)
              · skip
                refine zj_aload_n 63 0 C dX5_pourWhole_62 rfl rfl rfl ?_
                refine zj_iload_n 64 1 C dX5_pourWhole_63 rfl rfl rfl ?_
                refine zj_iload_n 65 3 C dX5_pourWhole_64 rfl rfl rfl ?_
                refine zj_iconst 66 C dX5_pourWhole_65 rfl ?_
                refine zj_iconst 67 C dX5_pourWhole_66 rfl ?_
                refine zj_cv 70 [0, 1, 2, 3, 4, 6] [5, 7] C (wr := [(m6, .inl (cI, 384, .inl (zA G1))), (m8, .inl (cI, 16, .inl (zA c1)))]) (zr_V [0, 1, 2, 3, 4, 6] C (As := [.int (zI j1), .int (zI F), .int (zI (-1)), .int (zI (-1))]) (rest := []) (c_X5_stand l D cI cS cJ q5 m0 m1 m2 m3 m4 m5 m6 m7 m8 m9 th sm ty pg rw un pm sp wr ha Z1 P1 R1 U1 b1 j1 F (-1) (-1) (by omega) (by omega)) (cwV 4 C.1.2.2.2.2 gX5_pourWhole_X5_stand rfl rfl rfl (by decide +kernel) ⟨Nat.le_of_ble_eq_true rfl, Nat.le_of_ble_eq_true rfl⟩) rfl (by decide) 0 rfl rfl rfl rfl (Nat.le_of_ble_eq_true rfl) dX5_pourWhole_67 ⟨Nat.le_of_ble_eq_true rfl, Nat.le_of_ble_eq_true rfl⟩) rfl rfl (by decide) (by decide) rfl (fun w_ hp_60 => ?_)
                obtain rfl := hp_60
                refine zj_ws (ws' := [(m6, .inl (cI, 384, .inl (zA G1))), (m8, .inl (cI, 16, .inl (zA c1))), (q5, .inr (5, [.int (zI th), .ref m0, .ref m1, .int (zI sm), .ref m2, .int (zI ty), .ref m3, .ref m4, .ref m5, .ref m6, .ref m7, .ref m8, .int (zI pg), .int (zI rw), .int (zI un), .ref m9, .int (zI pm), .int (zI sp), .int (zI wr), .long ha])), (m0, .inl (cI, 74, .inl (zA Z1))), (m3, .inl (cI, 24, .inl (zA (zU P1 j1 F)))), (m4, .inl (cI, 24, .inl (zA (zU R1 j1 (-1))))), (m5, .inl (cI, 24, .inl (zA (zU U1 j1 (-1))))), (m7, .inl (cI, 16, .inl (zA (zU b1 F (b1 F + Z1 (2 + 3 * j1 + 2))))))]) rfl ?_
                refine zj_iconst 71 C dX5_pourWhole_70 rfl ?_
                refine zj_istore 73 [(4, .int (zI 0)), (0, .ref q5), (1, .int (zI j1)), (2, .int (zI tk)), (3, .int (zI F))] C dX5_pourWhole_71 rfl (by decide) rfl ?_
                refine zj_iload 75 0 C dX5_pourWhole_73 rfl rfl ?_
                refine zj_iload_n 76 3 C dX5_pourWhole_75 rfl rfl rfl ?_
                refine zj_icmp_ge 79 97 C (by omega) (by omega) dX5_pourWhole_76 rfl (by decide) (fun h76 => ?_) (fun h76 => ?_)
                · exact absurd h76 (by omega)
                · skip
                  refine zj_aload_n 80 1 C dX5_pourWhole_79 rfl rfl rfl ?_
                  refine zj_iload_n 81 2 C dX5_pourWhole_80 rfl rfl rfl ?_
                  refine zj_iload_n 82 4 C dX5_pourWhole_81 rfl rfl rfl ?_
                  refine zj_iload 84 0 C dX5_pourWhole_82 rfl rfl ?_
                  refine zj_iadd 85 C dX5_pourWhole_84 rfl ?_
                  refine zj_iconst 86 C dX5_pourWhole_85 rfl ?_
                  refine zj_bipush 88 C dX5_pourWhole_86 rfl rfl ?_
                  refine zj_cv 91 [2, 0, 1] [3, 4, 5, 6, 7] C (wr := [(m0, .inl (cI, 74, .inl (zA Z1))), (m3, .inl (cI, 24, .inl (zA (zU P1 j1 F)))), (m4, .inl (cI, 24, .inl (zA (zU R1 j1 (-1))))), (m5, .inl (cI, 24, .inl (zA (zU U1 j1 (-1))))), (m7, .inl (cI, 16, .inl (zA (zU b1 F (b1 F + Z1 (2 + 3 * j1 + 2))))))]) (zr_V [2, 0, 1] C (As := [.int (zI j1), .int (zI (F + 0)), .int (zI 0), .int (zI 24)]) (rest := []) (c_X5_mark l D cI cS cJ q5 m0 m1 m2 m3 m4 m5 m6 m7 m8 m9 th sm ty pg rw un pm sp wr ha c1 G1 j1 (F + 0) 0 24 (by omega) (by omega)) (cwV 4 C.1.2.2.2.2 gX5_pourWhole_X5_mark rfl rfl rfl (by decide +kernel) ⟨Nat.le_of_ble_eq_true rfl, Nat.le_of_ble_eq_true rfl⟩) rfl (by decide) 0 rfl rfl rfl rfl (Nat.le_of_ble_eq_true rfl) dX5_pourWhole_88 ⟨Nat.le_of_ble_eq_true rfl, Nat.le_of_ble_eq_true rfl⟩) rfl rfl (by decide) (by decide) rfl (fun w_ hp_62 => ?_)
                  obtain rfl := hp_62
                  refine zj_ws (ws' := [(m0, .inl (cI, 74, .inl (zA Z1))), (m3, .inl (cI, 24, .inl (zA (zU P1 j1 F)))), (m4, .inl (cI, 24, .inl (zA (zU R1 j1 (-1))))), (m5, .inl (cI, 24, .inl (zA (zU U1 j1 (-1))))), (m7, .inl (cI, 16, .inl (zA (zU b1 F (b1 F + Z1 (2 + 3 * j1 + 2)))))), (q5, .inr (5, [.int (zI th), .ref m0, .ref m1, .int (zI sm), .ref m2, .int (zI ty), .ref m3, .ref m4, .ref m5, .ref m6, .ref m7, .ref m8, .int (zI pg), .int (zI rw), .int (zI un), .ref m9, .int (zI pm), .int (zI sp), .int (zI wr), .long ha])), (m6, .inl (cI, 384, .inl (zA (zMk G1 (24 * (F + 0) + 0) 24 j1)))), (m8, .inl (cI, 16, .inl (zA (zU c1 (F + 0) (c1 (F + 0) + 1)))))]) rfl ?_
                  refine zj_iinc 94 0 [(4, .int (zI (0 + 1))), (0, .ref q5), (1, .int (zI j1)), (2, .int (zI tk)), (3, .int (zI F))] C dX5_pourWhole_91 rfl rfl (by decide) rfl ?_
                  refine zj_goto 73 C dX5_pourWhole_94 (by decide) ?_
                  refine zj_iload 75 0 C dX5_pourWhole_73 rfl rfl ?_
                  refine zj_iload_n 76 3 C dX5_pourWhole_75 rfl rfl rfl ?_
                  refine zj_icmp_ge 79 97 C (by omega) (by omega) dX5_pourWhole_76 rfl (by decide) (fun h76 => ?_) (fun h76 => ?_)
                  · skip
                    refine zj_aload_n 98 1 C dX5_pourWhole_97 rfl rfl rfl ?_
                    refine zj_iload_n 99 4 C dX5_pourWhole_98 rfl rfl rfl ?_
                    refine zj_iload_n 100 3 C dX5_pourWhole_99 rfl rfl rfl ?_
                    refine zj_iadd 101 C dX5_pourWhole_100 rfl ?_
                    refine zj_cv 104 [5] [0, 1, 2, 3, 4, 6, 7] C (wr := [(m0, .inl (cI, 74, .inl (zA Z1))), (m3, .inl (cI, 24, .inl (zA (zU P1 j1 F)))), (m4, .inl (cI, 24, .inl (zA (zU R1 j1 (-1))))), (m5, .inl (cI, 24, .inl (zA (zU U1 j1 (-1))))), (m7, .inl (cI, 16, .inl (zA (zU b1 F (b1 F + Z1 (2 + 3 * j1 + 2)))))), (m6, .inl (cI, 384, .inl (zA (zMk G1 (24 * (F + 0) + 0) 24 j1)))), (m8, .inl (cI, 16, .inl (zA (zU c1 (F + 0) (c1 (F + 0) + 1)))))]) (zr_V [5] C (As := [.int (zI (F + tk))]) (rest := []) (c_X5_nextPage l D cI cS cJ q5 m0 m1 m2 m3 m4 m5 m6 m7 m8 m9 th sm ty pg rw un pm sp wr ha (F + tk)) (cwV 1 C.1.2.2.2.2 gX5_pourWhole_X5_nextPage rfl rfl rfl (by decide +kernel) ⟨Nat.le_of_ble_eq_true rfl, Nat.le_of_ble_eq_true rfl⟩) rfl (by decide) 0 rfl rfl rfl rfl (Nat.le_of_ble_eq_true rfl) dX5_pourWhole_101 ⟨Nat.le_of_ble_eq_true rfl, Nat.le_of_ble_eq_true rfl⟩) rfl rfl (by decide) (by decide) rfl (fun w_ hp_64 => ?_)
                    obtain rfl := hp_64
                    refine zj_ws (ws' := [(m0, .inl (cI, 74, .inl (zA Z1))), (m3, .inl (cI, 24, .inl (zA (zU P1 j1 F)))), (m4, .inl (cI, 24, .inl (zA (zU R1 j1 (-1))))), (m5, .inl (cI, 24, .inl (zA (zU U1 j1 (-1))))), (m7, .inl (cI, 16, .inl (zA (zU b1 F (b1 F + Z1 (2 + 3 * j1 + 2)))))), (m6, .inl (cI, 384, .inl (zA (zMk G1 (24 * (F + 0) + 0) 24 j1)))), (m8, .inl (cI, 16, .inl (zA (zU c1 (F + 0) (c1 (F + 0) + 1))))), (q5, .inr (5, [.int (zI th), .ref m0, .ref m1, .int (zI sm), .ref m2, .int (zI ty), .ref m3, .ref m4, .ref m5, .ref m6, .ref m7, .ref m8, .int (zI (F + tk)), .int (zI 0), .int (zI 0), .ref m9, .int (zI pm), .int (zI sp), .int (zI wr), .long ha]))]) rfl ?_
                    refine zj_iconst 105 C dX5_pourWhole_104 rfl ?_
                    refine zj_re [7, 0, 1, 2, 3, 5, 4, 6] [(q5, .inr (5, [.int (zI th), .ref m0, .ref m1, .int (zI sm), .ref m2, .int (zI ty), .ref m3, .ref m4, .ref m5, .ref m6, .ref m7, .ref m8, .int (zI (F + tk)), .int (zI 0), .int (zI 0), .ref m9, .int (zI pm), .int (zI sp), .int (zI wr), .long ha])), (m0, .inl (cI, 74, .inl (zA Z1))), (m3, .inl (cI, 24, .inl (zA (zU P1 j1 F)))), (m4, .inl (cI, 24, .inl (zA (zU R1 j1 (-1))))), (m5, .inl (cI, 24, .inl (zA (zU U1 j1 (-1))))), (m6, .inl (cI, 384, .inl (zA (zMk G1 (24 * (F + 0) + 0) 24 j1)))), (m7, .inl (cI, 16, .inl (zA (zU b1 F (b1 F + Z1 (2 + 3 * j1 + 2)))))), (m8, .inl (cI, 16, .inl (zA (zU c1 (F + 0) (c1 (F + 0) + 1)))))] (by decide) rfl ?_
                    subst hQ
                    exact zj_zret C (zI_bool (by omega)) hr ⟨1, (F + tk), 0, 0, (zU P1 j1 F), (zU R1 j1 (-1)), (zU U1 j1 (-1)), (zMk G1 (24 * (F + 0) + 0) 24 j1), (zU b1 F (b1 F + Z1 (2 + 3 * j1 + 2))), (zU c1 (F + 0) (c1 (F + 0) + 1)), (by
        have e : zPlc (Z1 0) (Z1 (2 + 3 * j1 + 0)) (Z1 (2 + 3 * j1 + 1)) (Z1 (2 + 3 * j1 + 2)) pg rw un c1 b1 = (F, -1, -1) := by unfold zPlc; rw [if_neg (by omega), ← htk, ← hF, if_pos (by omega)]
        refine Or.inr ⟨rfl, by rw [e]; exact hF2.1, by rw [e], by rw [e], by rw [e], ?_, ?_⟩
        · unfold zGr
          rw [if_neg (by omega), if_pos (by omega), e]
          rw [show 24 * (F + 0) + 0 = 24 * F by omega]
        · unfold zNxC
          rw [if_neg (by omega), if_neg (by omega), e, ← htk]
          rw [Int.add_zero]), rfl, rfl⟩ (by decide) (by decide) dX5_pourWhole_105
                  · skip
                    refine zj_aload_n 80 1 C dX5_pourWhole_79 rfl rfl rfl ?_
                    refine zj_iload_n 81 2 C dX5_pourWhole_80 rfl rfl rfl ?_
                    refine zj_iload_n 82 4 C dX5_pourWhole_81 rfl rfl rfl ?_
                    refine zj_iload 84 0 C dX5_pourWhole_82 rfl rfl ?_
                    refine zj_iadd 85 C dX5_pourWhole_84 rfl ?_
                    refine zj_iconst 86 C dX5_pourWhole_85 rfl ?_
                    refine zj_bipush 88 C dX5_pourWhole_86 rfl rfl ?_
                    refine zj_cv 91 [5, 6, 7] [0, 1, 2, 3, 4] C (wr := [(m0, .inl (cI, 74, .inl (zA Z1))), (m3, .inl (cI, 24, .inl (zA (zU P1 j1 F)))), (m4, .inl (cI, 24, .inl (zA (zU R1 j1 (-1))))), (m5, .inl (cI, 24, .inl (zA (zU U1 j1 (-1))))), (m7, .inl (cI, 16, .inl (zA (zU b1 F (b1 F + Z1 (2 + 3 * j1 + 2))))))]) (zr_V [5, 6, 7] C (As := [.int (zI j1), .int (zI (F + (0 + 1))), .int (zI 0), .int (zI 24)]) (rest := []) (c_X5_mark l D cI cS cJ q5 m0 m1 m2 m3 m4 m5 m6 m7 m8 m9 th sm ty pg rw un pm sp wr ha (zU c1 (F + 0) (c1 (F + 0) + 1)) (zMk G1 (24 * (F + 0) + 0) 24 j1) j1 (F + (0 + 1)) 0 24 (by omega) (by omega)) (cwV 4 C.1.2.2.2.2 gX5_pourWhole_X5_mark rfl rfl rfl (by decide +kernel) ⟨Nat.le_of_ble_eq_true rfl, Nat.le_of_ble_eq_true rfl⟩) rfl (by decide) 0 rfl rfl rfl rfl (Nat.le_of_ble_eq_true rfl) dX5_pourWhole_88 ⟨Nat.le_of_ble_eq_true rfl, Nat.le_of_ble_eq_true rfl⟩) rfl rfl (by decide) (by decide) rfl (fun w_ hp_66 => ?_)
                    obtain rfl := hp_66
                    refine zj_ws (ws' := [(m0, .inl (cI, 74, .inl (zA Z1))), (m3, .inl (cI, 24, .inl (zA (zU P1 j1 F)))), (m4, .inl (cI, 24, .inl (zA (zU R1 j1 (-1))))), (m5, .inl (cI, 24, .inl (zA (zU U1 j1 (-1))))), (m7, .inl (cI, 16, .inl (zA (zU b1 F (b1 F + Z1 (2 + 3 * j1 + 2)))))), (q5, .inr (5, [.int (zI th), .ref m0, .ref m1, .int (zI sm), .ref m2, .int (zI ty), .ref m3, .ref m4, .ref m5, .ref m6, .ref m7, .ref m8, .int (zI pg), .int (zI rw), .int (zI un), .ref m9, .int (zI pm), .int (zI sp), .int (zI wr), .long ha])), (m6, .inl (cI, 384, .inl (zA (zMk (zMk G1 (24 * (F + 0) + 0) 24 j1) (24 * (F + (0 + 1)) + 0) 24 j1)))), (m8, .inl (cI, 16, .inl (zA (zU (zU c1 (F + 0) (c1 (F + 0) + 1)) (F + (0 + 1)) ((zU c1 (F + 0) (c1 (F + 0) + 1)) (F + (0 + 1)) + 1)))))]) rfl ?_
                    refine zj_iinc 94 0 [(4, .int (zI ((0 + 1) + 1))), (0, .ref q5), (1, .int (zI j1)), (2, .int (zI tk)), (3, .int (zI F))] C dX5_pourWhole_91 rfl rfl (by decide) rfl ?_
                    refine zj_goto 73 C dX5_pourWhole_94 (by decide) ?_
                    refine zj_iload 75 0 C dX5_pourWhole_73 rfl rfl ?_
                    refine zj_iload_n 76 3 C dX5_pourWhole_75 rfl rfl rfl ?_
                    refine zj_icmp_ge 79 97 C (by omega) (by omega) dX5_pourWhole_76 rfl (by decide) (fun h76 => ?_) (fun h76 => ?_)
                    · skip
                      refine zj_aload_n 98 1 C dX5_pourWhole_97 rfl rfl rfl ?_
                      refine zj_iload_n 99 4 C dX5_pourWhole_98 rfl rfl rfl ?_
                      refine zj_iload_n 100 3 C dX5_pourWhole_99 rfl rfl rfl ?_
                      refine zj_iadd 101 C dX5_pourWhole_100 rfl ?_
                      refine zj_cv 104 [5] [0, 1, 2, 3, 4, 6, 7] C (wr := [(m0, .inl (cI, 74, .inl (zA Z1))), (m3, .inl (cI, 24, .inl (zA (zU P1 j1 F)))), (m4, .inl (cI, 24, .inl (zA (zU R1 j1 (-1))))), (m5, .inl (cI, 24, .inl (zA (zU U1 j1 (-1))))), (m7, .inl (cI, 16, .inl (zA (zU b1 F (b1 F + Z1 (2 + 3 * j1 + 2)))))), (m6, .inl (cI, 384, .inl (zA (zMk (zMk G1 (24 * (F + 0) + 0) 24 j1) (24 * (F + (0 + 1)) + 0) 24 j1)))), (m8, .inl (cI, 16, .inl (zA (zU (zU c1 (F + 0) (c1 (F + 0) + 1)) (F + (0 + 1)) ((zU c1 (F + 0) (c1 (F + 0) + 1)) (F + (0 + 1)) + 1)))))]) (zr_V [5] C (As := [.int (zI (F + tk))]) (rest := []) (c_X5_nextPage l D cI cS cJ q5 m0 m1 m2 m3 m4 m5 m6 m7 m8 m9 th sm ty pg rw un pm sp wr ha (F + tk)) (cwV 1 C.1.2.2.2.2 gX5_pourWhole_X5_nextPage rfl rfl rfl (by decide +kernel) ⟨Nat.le_of_ble_eq_true rfl, Nat.le_of_ble_eq_true rfl⟩) rfl (by decide) 0 rfl rfl rfl rfl (Nat.le_of_ble_eq_true rfl) dX5_pourWhole_101 ⟨Nat.le_of_ble_eq_true rfl, Nat.le_of_ble_eq_true rfl⟩) rfl rfl (by decide) (by decide) rfl (fun w_ hp_68 => ?_)
                      obtain rfl := hp_68
                      refine zj_ws (ws' := [(m0, .inl (cI, 74, .inl (zA Z1))), (m3, .inl (cI, 24, .inl (zA (zU P1 j1 F)))), (m4, .inl (cI, 24, .inl (zA (zU R1 j1 (-1))))), (m5, .inl (cI, 24, .inl (zA (zU U1 j1 (-1))))), (m7, .inl (cI, 16, .inl (zA (zU b1 F (b1 F + Z1 (2 + 3 * j1 + 2)))))), (m6, .inl (cI, 384, .inl (zA (zMk (zMk G1 (24 * (F + 0) + 0) 24 j1) (24 * (F + (0 + 1)) + 0) 24 j1)))), (m8, .inl (cI, 16, .inl (zA (zU (zU c1 (F + 0) (c1 (F + 0) + 1)) (F + (0 + 1)) ((zU c1 (F + 0) (c1 (F + 0) + 1)) (F + (0 + 1)) + 1))))), (q5, .inr (5, [.int (zI th), .ref m0, .ref m1, .int (zI sm), .ref m2, .int (zI ty), .ref m3, .ref m4, .ref m5, .ref m6, .ref m7, .ref m8, .int (zI (F + tk)), .int (zI 0), .int (zI 0), .ref m9, .int (zI pm), .int (zI sp), .int (zI wr), .long ha]))]) rfl ?_
                      refine zj_iconst 105 C dX5_pourWhole_104 rfl ?_
                      refine zj_re [7, 0, 1, 2, 3, 5, 4, 6] [(q5, .inr (5, [.int (zI th), .ref m0, .ref m1, .int (zI sm), .ref m2, .int (zI ty), .ref m3, .ref m4, .ref m5, .ref m6, .ref m7, .ref m8, .int (zI (F + tk)), .int (zI 0), .int (zI 0), .ref m9, .int (zI pm), .int (zI sp), .int (zI wr), .long ha])), (m0, .inl (cI, 74, .inl (zA Z1))), (m3, .inl (cI, 24, .inl (zA (zU P1 j1 F)))), (m4, .inl (cI, 24, .inl (zA (zU R1 j1 (-1))))), (m5, .inl (cI, 24, .inl (zA (zU U1 j1 (-1))))), (m6, .inl (cI, 384, .inl (zA (zMk (zMk G1 (24 * (F + 0) + 0) 24 j1) (24 * (F + (0 + 1)) + 0) 24 j1)))), (m7, .inl (cI, 16, .inl (zA (zU b1 F (b1 F + Z1 (2 + 3 * j1 + 2)))))), (m8, .inl (cI, 16, .inl (zA (zU (zU c1 (F + 0) (c1 (F + 0) + 1)) (F + (0 + 1)) ((zU c1 (F + 0) (c1 (F + 0) + 1)) (F + (0 + 1)) + 1)))))] (by decide) rfl ?_
                      subst hQ
                      exact zj_zret C (zI_bool (by omega)) hr ⟨1, (F + tk), 0, 0, (zU P1 j1 F), (zU R1 j1 (-1)), (zU U1 j1 (-1)), (zMk (zMk G1 (24 * (F + 0) + 0) 24 j1) (24 * (F + (0 + 1)) + 0) 24 j1), (zU b1 F (b1 F + Z1 (2 + 3 * j1 + 2))), (zU (zU c1 (F + 0) (c1 (F + 0) + 1)) (F + (0 + 1)) ((zU c1 (F + 0) (c1 (F + 0) + 1)) (F + (0 + 1)) + 1)), (by
        have e : zPlc (Z1 0) (Z1 (2 + 3 * j1 + 0)) (Z1 (2 + 3 * j1 + 1)) (Z1 (2 + 3 * j1 + 2)) pg rw un c1 b1 = (F, -1, -1) := by unfold zPlc; rw [if_neg (by omega), ← htk, ← hF, if_pos (by omega)]
        refine Or.inr ⟨rfl, by rw [e]; exact hF2.1, by rw [e], by rw [e], by rw [e], ?_, ?_⟩
        · unfold zGr
          rw [if_neg (by omega), if_neg (by omega), e]
          rw [show 24 * (F + 0) + 0 = 24 * F by omega, show 24 * (F + (0 + 1)) + 0 = 24 * (F + 1) by omega]
        · unfold zNxC
          rw [if_neg (by omega), if_pos (by omega), e, ← htk]
          rw [Int.add_zero]; rfl), rfl, rfl⟩ (by decide) (by decide) dX5_pourWhole_105
                    · exact absurd h76 (by omega)
              · skip
                refine zj_iconst 61 C dX5_pourWhole_60 rfl ?_
                subst hQ
                exact zj_zret C (zI_bool (by omega)) hr ⟨0, pg, rw, un, P1, R1, U1, G1, b1, c1, (by exact Or.inl ⟨rfl, by unfold zPlc; rw [if_neg (by omega), ← htk, ← hF, if_neg (by omega)], rfl, rfl, rfl, rfl, rfl, rfl⟩), rfl, rfl⟩ (by decide) (by decide) dX5_pourWhole_61
            refine zj_lv [1, 2, 3, 0] [(0, .ref q5), (1, .int (zI j1)), (2, .int (zI tk)), (3, .int (zI (f0 + (f0 % 2))))] rfl ?_
            exact hL52 (f0 + (f0 % 2)) (by unfold zFst; rw [← hf0]; split <;> omega) (by omega)
        refine zj_re [6, 0, 1, 2, 3, 4, 5, 7] [(q5, .inr (5, [.int (zI th), .ref m0, .ref m1, .int (zI sm), .ref m2, .int (zI ty), .ref m3, .ref m4, .ref m5, .ref m6, .ref m7, .ref m8, .int (zI pg), .int (zI rw), .int (zI un), .ref m9, .int (zI pm), .int (zI sp), .int (zI wr), .long ha])), (m0, .inl (cI, 74, .inl (zA Z1))), (m3, .inl (cI, 24, .inl (zA P1))), (m4, .inl (cI, 24, .inl (zA R1))), (m5, .inl (cI, 24, .inl (zA U1))), (m6, .inl (cI, 384, .inl (zA G1))), (m7, .inl (cI, 16, .inl (zA b1))), (m8, .inl (cI, 16, .inl (zA c1)))] (by decide) rfl ?_
        refine zj_lv [1, 2, 3, 0] [(0, .ref q5), (1, .int (zI j1)), (2, .int (zI tk)), (3, .int (zI (pg + 1)))] rfl ?_
        exact hL37 (pg + 1) (by unfold zF0; split <;> omega) (by omega)
      · skip
        refine zj_aload_n 24 0 C dX5_pourWhole_23 rfl rfl rfl ?_
        refine zj_get 27 6 12 C (T := TX5) im_X5_pourWhole_5 fl_X5_pourWhole_47 rfl rfl (by decide) rfl rfl dX5_pourWhole_24 rfl ?_
        refine zj_goto 36 C dX5_pourWhole_27 (by decide) ?_
        refine zj_istore_n 37 [(3, .int (zI pg)), (0, .ref q5), (1, .int (zI j1)), (2, .int (zI tk))] C dX5_pourWhole_36 rfl rfl (by decide) rfl ?_
        have hL37 : ∀ (f0 : Int), (f0 = zF0 c1 pg) → (0 ≤ f0 ∧ f0 ≤ 17) → zJ p l e rm_X5_pourWhole s m args below meth c Q D A 5 [(q5, .inr (5, [.int (zI th), .ref m0, .ref m1, .int (zI sm), .ref m2, .int (zI ty), .ref m3, .ref m4, .ref m5, .ref m6, .ref m7, .ref m8, .int (zI pg), .int (zI rw), .int (zI un), .ref m9, .int (zI pm), .int (zI sp), .int (zI wr), .long ha])), (m0, .inl (cI, 74, .inl (zA Z1))), (m3, .inl (cI, 24, .inl (zA P1))), (m4, .inl (cI, 24, .inl (zA R1))), (m5, .inl (cI, 24, .inl (zA U1))), (m6, .inl (cI, 384, .inl (zA G1))), (m7, .inl (cI, 16, .inl (zA b1))), (m8, .inl (cI, 16, .inl (zA c1)))] 0 0 [(0, .ref q5), (1, .int (zI j1)), (2, .int (zI tk)), (3, .int (zI f0))] 37 [] := by
          intro f0 hf0 hf1
          refine zj_iload_n 38 3 C dX5_pourWhole_37 rfl rfl rfl ?_
          refine zj_iload_n 39 2 C dX5_pourWhole_38 rfl rfl rfl ?_
          refine zj_iconst 40 C dX5_pourWhole_39 rfl ?_
          refine zj_icmp_ne 43 49 C (by omega) (by omega) dX5_pourWhole_40 rfl (by decide) (fun h40 => ?_) (fun h40 => ?_)
          · skip
            refine zj_iconst 50 C dX5_pourWhole_49 rfl ?_
            refine zj_iadd 51 C dX5_pourWhole_50 rfl ?_
            refine zj_istore_n 52 [(3, .int (zI (f0 + 0))), (0, .ref q5), (1, .int (zI j1)), (2, .int (zI tk))] C dX5_pourWhole_51 rfl rfl (by decide) rfl ?_
            have hL52 : ∀ (F : Int), (F = zFst c1 pg tk) → (0 ≤ F ∧ F ≤ 18) → zJ p l e rm_X5_pourWhole s m args below meth c Q D A 5 [(q5, .inr (5, [.int (zI th), .ref m0, .ref m1, .int (zI sm), .ref m2, .int (zI ty), .ref m3, .ref m4, .ref m5, .ref m6, .ref m7, .ref m8, .int (zI pg), .int (zI rw), .int (zI un), .ref m9, .int (zI pm), .int (zI sp), .int (zI wr), .long ha])), (m0, .inl (cI, 74, .inl (zA Z1))), (m3, .inl (cI, 24, .inl (zA P1))), (m4, .inl (cI, 24, .inl (zA R1))), (m5, .inl (cI, 24, .inl (zA U1))), (m6, .inl (cI, 384, .inl (zA G1))), (m7, .inl (cI, 16, .inl (zA b1))), (m8, .inl (cI, 16, .inl (zA c1)))] 0 0 [(0, .ref q5), (1, .int (zI j1)), (2, .int (zI tk)), (3, .int (zI F))] 52 [] := by
              intro F hF hF2
              refine zj_iload_n 53 3 C dX5_pourWhole_52 rfl rfl rfl ?_
              refine zj_iload_n 54 2 C dX5_pourWhole_53 rfl rfl rfl ?_
              refine zj_iadd 55 C dX5_pourWhole_54 rfl ?_
              refine zj_bipush 57 C dX5_pourWhole_55 rfl rfl ?_
              refine zj_icmp_le 60 62 C (by omega) (by omega) dX5_pourWhole_57 rfl (by decide) (fun h57 => ?_) (fun h57 => ?_)
              · skip
                refine zj_aload_n 63 0 C dX5_pourWhole_62 rfl rfl rfl ?_
                refine zj_iload_n 64 1 C dX5_pourWhole_63 rfl rfl rfl ?_
                refine zj_iload_n 65 3 C dX5_pourWhole_64 rfl rfl rfl ?_
                refine zj_iconst 66 C dX5_pourWhole_65 rfl ?_
                refine zj_iconst 67 C dX5_pourWhole_66 rfl ?_
                refine zj_cv 70 [0, 1, 2, 3, 4, 6] [5, 7] C (wr := [(m6, .inl (cI, 384, .inl (zA G1))), (m8, .inl (cI, 16, .inl (zA c1)))]) (zr_V [0, 1, 2, 3, 4, 6] C (As := [.int (zI j1), .int (zI F), .int (zI (-1)), .int (zI (-1))]) (rest := []) (c_X5_stand l D cI cS cJ q5 m0 m1 m2 m3 m4 m5 m6 m7 m8 m9 th sm ty pg rw un pm sp wr ha Z1 P1 R1 U1 b1 j1 F (-1) (-1) (by omega) (by omega)) (cwV 4 C.1.2.2.2.2 gX5_pourWhole_X5_stand rfl rfl rfl (by decide +kernel) ⟨Nat.le_of_ble_eq_true rfl, Nat.le_of_ble_eq_true rfl⟩) rfl (by decide) 0 rfl rfl rfl rfl (Nat.le_of_ble_eq_true rfl) dX5_pourWhole_67 ⟨Nat.le_of_ble_eq_true rfl, Nat.le_of_ble_eq_true rfl⟩) rfl rfl (by decide) (by decide) rfl (fun w_ hp_70 => ?_)
                obtain rfl := hp_70
                refine zj_ws (ws' := [(m6, .inl (cI, 384, .inl (zA G1))), (m8, .inl (cI, 16, .inl (zA c1))), (q5, .inr (5, [.int (zI th), .ref m0, .ref m1, .int (zI sm), .ref m2, .int (zI ty), .ref m3, .ref m4, .ref m5, .ref m6, .ref m7, .ref m8, .int (zI pg), .int (zI rw), .int (zI un), .ref m9, .int (zI pm), .int (zI sp), .int (zI wr), .long ha])), (m0, .inl (cI, 74, .inl (zA Z1))), (m3, .inl (cI, 24, .inl (zA (zU P1 j1 F)))), (m4, .inl (cI, 24, .inl (zA (zU R1 j1 (-1))))), (m5, .inl (cI, 24, .inl (zA (zU U1 j1 (-1))))), (m7, .inl (cI, 16, .inl (zA (zU b1 F (b1 F + Z1 (2 + 3 * j1 + 2))))))]) rfl ?_
                refine zj_iconst 71 C dX5_pourWhole_70 rfl ?_
                refine zj_istore 73 [(4, .int (zI 0)), (0, .ref q5), (1, .int (zI j1)), (2, .int (zI tk)), (3, .int (zI F))] C dX5_pourWhole_71 rfl (by decide) rfl ?_
                refine zj_iload 75 0 C dX5_pourWhole_73 rfl rfl ?_
                refine zj_iload_n 76 3 C dX5_pourWhole_75 rfl rfl rfl ?_
                refine zj_icmp_ge 79 97 C (by omega) (by omega) dX5_pourWhole_76 rfl (by decide) (fun h76 => ?_) (fun h76 => ?_)
                · exact absurd h76 (by omega)
                · skip
                  refine zj_aload_n 80 1 C dX5_pourWhole_79 rfl rfl rfl ?_
                  refine zj_iload_n 81 2 C dX5_pourWhole_80 rfl rfl rfl ?_
                  refine zj_iload_n 82 4 C dX5_pourWhole_81 rfl rfl rfl ?_
                  refine zj_iload 84 0 C dX5_pourWhole_82 rfl rfl ?_
                  refine zj_iadd 85 C dX5_pourWhole_84 rfl ?_
                  refine zj_iconst 86 C dX5_pourWhole_85 rfl ?_
                  refine zj_bipush 88 C dX5_pourWhole_86 rfl rfl ?_
                  refine zj_cv 91 [2, 0, 1] [3, 4, 5, 6, 7] C (wr := [(m0, .inl (cI, 74, .inl (zA Z1))), (m3, .inl (cI, 24, .inl (zA (zU P1 j1 F)))), (m4, .inl (cI, 24, .inl (zA (zU R1 j1 (-1))))), (m5, .inl (cI, 24, .inl (zA (zU U1 j1 (-1))))), (m7, .inl (cI, 16, .inl (zA (zU b1 F (b1 F + Z1 (2 + 3 * j1 + 2))))))]) (zr_V [2, 0, 1] C (As := [.int (zI j1), .int (zI (F + 0)), .int (zI 0), .int (zI 24)]) (rest := []) (c_X5_mark l D cI cS cJ q5 m0 m1 m2 m3 m4 m5 m6 m7 m8 m9 th sm ty pg rw un pm sp wr ha c1 G1 j1 (F + 0) 0 24 (by omega) (by omega)) (cwV 4 C.1.2.2.2.2 gX5_pourWhole_X5_mark rfl rfl rfl (by decide +kernel) ⟨Nat.le_of_ble_eq_true rfl, Nat.le_of_ble_eq_true rfl⟩) rfl (by decide) 0 rfl rfl rfl rfl (Nat.le_of_ble_eq_true rfl) dX5_pourWhole_88 ⟨Nat.le_of_ble_eq_true rfl, Nat.le_of_ble_eq_true rfl⟩) rfl rfl (by decide) (by decide) rfl (fun w_ hp_72 => ?_)
                  obtain rfl := hp_72
                  refine zj_ws (ws' := [(m0, .inl (cI, 74, .inl (zA Z1))), (m3, .inl (cI, 24, .inl (zA (zU P1 j1 F)))), (m4, .inl (cI, 24, .inl (zA (zU R1 j1 (-1))))), (m5, .inl (cI, 24, .inl (zA (zU U1 j1 (-1))))), (m7, .inl (cI, 16, .inl (zA (zU b1 F (b1 F + Z1 (2 + 3 * j1 + 2)))))), (q5, .inr (5, [.int (zI th), .ref m0, .ref m1, .int (zI sm), .ref m2, .int (zI ty), .ref m3, .ref m4, .ref m5, .ref m6, .ref m7, .ref m8, .int (zI pg), .int (zI rw), .int (zI un), .ref m9, .int (zI pm), .int (zI sp), .int (zI wr), .long ha])), (m6, .inl (cI, 384, .inl (zA (zMk G1 (24 * (F + 0) + 0) 24 j1)))), (m8, .inl (cI, 16, .inl (zA (zU c1 (F + 0) (c1 (F + 0) + 1)))))]) rfl ?_
                  refine zj_iinc 94 0 [(4, .int (zI (0 + 1))), (0, .ref q5), (1, .int (zI j1)), (2, .int (zI tk)), (3, .int (zI F))] C dX5_pourWhole_91 rfl rfl (by decide) rfl ?_
                  refine zj_goto 73 C dX5_pourWhole_94 (by decide) ?_
                  refine zj_iload 75 0 C dX5_pourWhole_73 rfl rfl ?_
                  refine zj_iload_n 76 3 C dX5_pourWhole_75 rfl rfl rfl ?_
                  refine zj_icmp_ge 79 97 C (by omega) (by omega) dX5_pourWhole_76 rfl (by decide) (fun h76 => ?_) (fun h76 => ?_)
                  · skip
                    refine zj_aload_n 98 1 C dX5_pourWhole_97 rfl rfl rfl ?_
                    refine zj_iload_n 99 4 C dX5_pourWhole_98 rfl rfl rfl ?_
                    refine zj_iload_n 100 3 C dX5_pourWhole_99 rfl rfl rfl ?_
                    refine zj_iadd 101 C dX5_pourWhole_100 rfl ?_
                    refine zj_cv 104 [5] [0, 1, 2, 3, 4, 6, 7] C (wr := [(m0, .inl (cI, 74, .inl (zA Z1))), (m3, .inl (cI, 24, .inl (zA (zU P1 j1 F)))), (m4, .inl (cI, 24, .inl (zA (zU R1 j1 (-1))))), (m5, .inl (cI, 24, .inl (zA (zU U1 j1 (-1))))), (m7, .inl (cI, 16, .inl (zA (zU b1 F (b1 F + Z1 (2 + 3 * j1 + 2)))))), (m6, .inl (cI, 384, .inl (zA (zMk G1 (24 * (F + 0) + 0) 24 j1)))), (m8, .inl (cI, 16, .inl (zA (zU c1 (F + 0) (c1 (F + 0) + 1)))))]) (zr_V [5] C (As := [.int (zI (F + tk))]) (rest := []) (c_X5_nextPage l D cI cS cJ q5 m0 m1 m2 m3 m4 m5 m6 m7 m8 m9 th sm ty pg rw un pm sp wr ha (F + tk)) (cwV 1 C.1.2.2.2.2 gX5_pourWhole_X5_nextPage rfl rfl rfl (by decide +kernel) ⟨Nat.le_of_ble_eq_true rfl, Nat.le_of_ble_eq_true rfl⟩) rfl (by decide) 0 rfl rfl rfl rfl (Nat.le_of_ble_eq_true rfl) dX5_pourWhole_101 ⟨Nat.le_of_ble_eq_true rfl, Nat.le_of_ble_eq_true rfl⟩) rfl rfl (by decide) (by decide) rfl (fun w_ hp_74 => ?_)
                    obtain rfl := hp_74
                    refine zj_ws (ws' := [(m0, .inl (cI, 74, .inl (zA Z1))), (m3, .inl (cI, 24, .inl (zA (zU P1 j1 F)))), (m4, .inl (cI, 24, .inl (zA (zU R1 j1 (-1))))), (m5, .inl (cI, 24, .inl (zA (zU U1 j1 (-1))))), (m7, .inl (cI, 16, .inl (zA (zU b1 F (b1 F + Z1 (2 + 3 * j1 + 2)))))), (m6, .inl (cI, 384, .inl (zA (zMk G1 (24 * (F + 0) + 0) 24 j1)))), (m8, .inl (cI, 16, .inl (zA (zU c1 (F + 0) (c1 (F + 0) + 1))))), (q5, .inr (5, [.int (zI th), .ref m0, .ref m1, .int (zI sm), .ref m2, .int (zI ty), .ref m3, .ref m4, .ref m5, .ref m6, .ref m7, .ref m8, .int (zI (F + tk)), .int (zI 0), .int (zI 0), .ref m9, .int (zI pm), .int (zI sp), .int (zI wr), .long ha]))]) rfl ?_
                    refine zj_iconst 105 C dX5_pourWhole_104 rfl ?_
                    refine zj_re [7, 0, 1, 2, 3, 5, 4, 6] [(q5, .inr (5, [.int (zI th), .ref m0, .ref m1, .int (zI sm), .ref m2, .int (zI ty), .ref m3, .ref m4, .ref m5, .ref m6, .ref m7, .ref m8, .int (zI (F + tk)), .int (zI 0), .int (zI 0), .ref m9, .int (zI pm), .int (zI sp), .int (zI wr), .long ha])), (m0, .inl (cI, 74, .inl (zA Z1))), (m3, .inl (cI, 24, .inl (zA (zU P1 j1 F)))), (m4, .inl (cI, 24, .inl (zA (zU R1 j1 (-1))))), (m5, .inl (cI, 24, .inl (zA (zU U1 j1 (-1))))), (m6, .inl (cI, 384, .inl (zA (zMk G1 (24 * (F + 0) + 0) 24 j1)))), (m7, .inl (cI, 16, .inl (zA (zU b1 F (b1 F + Z1 (2 + 3 * j1 + 2)))))), (m8, .inl (cI, 16, .inl (zA (zU c1 (F + 0) (c1 (F + 0) + 1)))))] (by decide) rfl ?_
                    subst hQ
                    exact zj_zret C (zI_bool (by omega)) hr ⟨1, (F + tk), 0, 0, (zU P1 j1 F), (zU R1 j1 (-1)), (zU U1 j1 (-1)), (zMk G1 (24 * (F + 0) + 0) 24 j1), (zU b1 F (b1 F + Z1 (2 + 3 * j1 + 2))), (zU c1 (F + 0) (c1 (F + 0) + 1)), (by
        have e : zPlc (Z1 0) (Z1 (2 + 3 * j1 + 0)) (Z1 (2 + 3 * j1 + 1)) (Z1 (2 + 3 * j1 + 2)) pg rw un c1 b1 = (F, -1, -1) := by unfold zPlc; rw [if_neg (by omega), ← htk, ← hF, if_pos (by omega)]
        refine Or.inr ⟨rfl, by rw [e]; exact hF2.1, by rw [e], by rw [e], by rw [e], ?_, ?_⟩
        · unfold zGr
          rw [if_neg (by omega), if_pos (by omega), e]
          rw [show 24 * (F + 0) + 0 = 24 * F by omega]
        · unfold zNxC
          rw [if_neg (by omega), if_neg (by omega), e, ← htk]
          rw [Int.add_zero]), rfl, rfl⟩ (by decide) (by decide) dX5_pourWhole_105
                  · skip
                    refine zj_aload_n 80 1 C dX5_pourWhole_79 rfl rfl rfl ?_
                    refine zj_iload_n 81 2 C dX5_pourWhole_80 rfl rfl rfl ?_
                    refine zj_iload_n 82 4 C dX5_pourWhole_81 rfl rfl rfl ?_
                    refine zj_iload 84 0 C dX5_pourWhole_82 rfl rfl ?_
                    refine zj_iadd 85 C dX5_pourWhole_84 rfl ?_
                    refine zj_iconst 86 C dX5_pourWhole_85 rfl ?_
                    refine zj_bipush 88 C dX5_pourWhole_86 rfl rfl ?_
                    refine zj_cv 91 [5, 6, 7] [0, 1, 2, 3, 4] C (wr := [(m0, .inl (cI, 74, .inl (zA Z1))), (m3, .inl (cI, 24, .inl (zA (zU P1 j1 F)))), (m4, .inl (cI, 24, .inl (zA (zU R1 j1 (-1))))), (m5, .inl (cI, 24, .inl (zA (zU U1 j1 (-1))))), (m7, .inl (cI, 16, .inl (zA (zU b1 F (b1 F + Z1 (2 + 3 * j1 + 2))))))]) (zr_V [5, 6, 7] C (As := [.int (zI j1), .int (zI (F + (0 + 1))), .int (zI 0), .int (zI 24)]) (rest := []) (c_X5_mark l D cI cS cJ q5 m0 m1 m2 m3 m4 m5 m6 m7 m8 m9 th sm ty pg rw un pm sp wr ha (zU c1 (F + 0) (c1 (F + 0) + 1)) (zMk G1 (24 * (F + 0) + 0) 24 j1) j1 (F + (0 + 1)) 0 24 (by omega) (by omega)) (cwV 4 C.1.2.2.2.2 gX5_pourWhole_X5_mark rfl rfl rfl (by decide +kernel) ⟨Nat.le_of_ble_eq_true rfl, Nat.le_of_ble_eq_true rfl⟩) rfl (by decide) 0 rfl rfl rfl rfl (Nat.le_of_ble_eq_true rfl) dX5_pourWhole_88 ⟨Nat.le_of_ble_eq_true rfl, Nat.le_of_ble_eq_true rfl⟩) rfl rfl (by decide) (by decide) rfl (fun w_ hp_76 => ?_)
                    obtain rfl := hp_76
                    refine zj_ws (ws' := [(m0, .inl (cI, 74, .inl (zA Z1))), (m3, .inl (cI, 24, .inl (zA (zU P1 j1 F)))), (m4, .inl (cI, 24, .inl (zA (zU R1 j1 (-1))))), (m5, .inl (cI, 24, .inl (zA (zU U1 j1 (-1))))), (m7, .inl (cI, 16, .inl (zA (zU b1 F (b1 F + Z1 (2 + 3 * j1 + 2)))))), (q5, .inr (5, [.int (zI th), .ref m0, .ref m1, .int (zI sm), .ref m2, .int (zI ty), .ref m3, .ref m4, .ref m5, .ref m6, .ref m7, .ref m8, .int (zI pg), .int (zI rw), .int (zI un), .ref m9, .int (zI pm), .int (zI sp), .int (zI wr), .long ha])), (m6, .inl (cI, 384, .inl (zA (zMk (zMk G1 (24 * (F + 0) + 0) 24 j1) (24 * (F + (0 + 1)) + 0) 24 j1)))), (m8, .inl (cI, 16, .inl (zA (zU (zU c1 (F + 0) (c1 (F + 0) + 1)) (F + (0 + 1)) ((zU c1 (F + 0) (c1 (F + 0) + 1)) (F + (0 + 1)) + 1)))))]) rfl ?_
                    refine zj_iinc 94 0 [(4, .int (zI ((0 + 1) + 1))), (0, .ref q5), (1, .int (zI j1)), (2, .int (zI tk)), (3, .int (zI F))] C dX5_pourWhole_91 rfl rfl (by decide) rfl ?_
                    refine zj_goto 73 C dX5_pourWhole_94 (by decide) ?_
                    refine zj_iload 75 0 C dX5_pourWhole_73 rfl rfl ?_
                    refine zj_iload_n 76 3 C dX5_pourWhole_75 rfl rfl rfl ?_
                    refine zj_icmp_ge 79 97 C (by omega) (by omega) dX5_pourWhole_76 rfl (by decide) (fun h76 => ?_) (fun h76 => ?_)
                    · skip
                      refine zj_aload_n 98 1 C dX5_pourWhole_97 rfl rfl rfl ?_
                      refine zj_iload_n 99 4 C dX5_pourWhole_98 rfl rfl rfl ?_
                      refine zj_iload_n 100 3 C dX5_pourWhole_99 rfl rfl rfl ?_
                      refine zj_iadd 101 C dX5_pourWhole_100 rfl ?_
                      refine zj_cv 104 [5] [0, 1, 2, 3, 4, 6, 7] C (wr := [(m0, .inl (cI, 74, .inl (zA Z1))), (m3, .inl (cI, 24, .inl (zA (zU P1 j1 F)))), (m4, .inl (cI, 24, .inl (zA (zU R1 j1 (-1))))), (m5, .inl (cI, 24, .inl (zA (zU U1 j1 (-1))))), (m7, .inl (cI, 16, .inl (zA (zU b1 F (b1 F + Z1 (2 + 3 * j1 + 2)))))), (m6, .inl (cI, 384, .inl (zA (zMk (zMk G1 (24 * (F + 0) + 0) 24 j1) (24 * (F + (0 + 1)) + 0) 24 j1)))), (m8, .inl (cI, 16, .inl (zA (zU (zU c1 (F + 0) (c1 (F + 0) + 1)) (F + (0 + 1)) ((zU c1 (F + 0) (c1 (F + 0) + 1)) (F + (0 + 1)) + 1)))))]) (zr_V [5] C (As := [.int (zI (F + tk))]) (rest := []) (c_X5_nextPage l D cI cS cJ q5 m0 m1 m2 m3 m4 m5 m6 m7 m8 m9 th sm ty pg rw un pm sp wr ha (F + tk)) (cwV 1 C.1.2.2.2.2 gX5_pourWhole_X5_nextPage rfl rfl rfl (by decide +kernel) ⟨Nat.le_of_ble_eq_true rfl, Nat.le_of_ble_eq_true rfl⟩) rfl (by decide) 0 rfl rfl rfl rfl (Nat.le_of_ble_eq_true rfl) dX5_pourWhole_101 ⟨Nat.le_of_ble_eq_true rfl, Nat.le_of_ble_eq_true rfl⟩) rfl rfl (by decide) (by decide) rfl (fun w_ hp_78 => ?_)
                      obtain rfl := hp_78
                      refine zj_ws (ws' := [(m0, .inl (cI, 74, .inl (zA Z1))), (m3, .inl (cI, 24, .inl (zA (zU P1 j1 F)))), (m4, .inl (cI, 24, .inl (zA (zU R1 j1 (-1))))), (m5, .inl (cI, 24, .inl (zA (zU U1 j1 (-1))))), (m7, .inl (cI, 16, .inl (zA (zU b1 F (b1 F + Z1 (2 + 3 * j1 + 2)))))), (m6, .inl (cI, 384, .inl (zA (zMk (zMk G1 (24 * (F + 0) + 0) 24 j1) (24 * (F + (0 + 1)) + 0) 24 j1)))), (m8, .inl (cI, 16, .inl (zA (zU (zU c1 (F + 0) (c1 (F + 0) + 1)) (F + (0 + 1)) ((zU c1 (F + 0) (c1 (F + 0) + 1)) (F + (0 + 1)) + 1))))), (q5, .inr (5, [.int (zI th), .ref m0, .ref m1, .int (zI sm), .ref m2, .int (zI ty), .ref m3, .ref m4, .ref m5, .ref m6, .ref m7, .ref m8, .int (zI (F + tk)), .int (zI 0), .int (zI 0), .ref m9, .int (zI pm), .int (zI sp), .int (zI wr), .long ha]))]) rfl ?_
                      refine zj_iconst 105 C dX5_pourWhole_104 rfl ?_
                      refine zj_re [7, 0, 1, 2, 3, 5, 4, 6] [(q5, .inr (5, [.int (zI th), .ref m0, .ref m1, .int (zI sm), .ref m2, .int (zI ty), .ref m3, .ref m4, .ref m5, .ref m6, .ref m7, .ref m8, .int (zI (F + tk)), .int (zI 0), .int (zI 0), .ref m9, .int (zI pm), .int (zI sp), .int (zI wr), .long ha])), (m0, .inl (cI, 74, .inl (zA Z1))), (m3, .inl (cI, 24, .inl (zA (zU P1 j1 F)))), (m4, .inl (cI, 24, .inl (zA (zU R1 j1 (-1))))), (m5, .inl (cI, 24, .inl (zA (zU U1 j1 (-1))))), (m6, .inl (cI, 384, .inl (zA (zMk (zMk G1 (24 * (F + 0) + 0) 24 j1) (24 * (F + (0 + 1)) + 0) 24 j1)))), (m7, .inl (cI, 16, .inl (zA (zU b1 F (b1 F + Z1 (2 + 3 * j1 + 2)))))), (m8, .inl (cI, 16, .inl (zA (zU (zU c1 (F + 0) (c1 (F + 0) + 1)) (F + (0 + 1)) ((zU c1 (F + 0) (c1 (F + 0) + 1)) (F + (0 + 1)) + 1)))))] (by decide) rfl ?_
                      subst hQ
                      exact zj_zret C (zI_bool (by omega)) hr ⟨1, (F + tk), 0, 0, (zU P1 j1 F), (zU R1 j1 (-1)), (zU U1 j1 (-1)), (zMk (zMk G1 (24 * (F + 0) + 0) 24 j1) (24 * (F + (0 + 1)) + 0) 24 j1), (zU b1 F (b1 F + Z1 (2 + 3 * j1 + 2))), (zU (zU c1 (F + 0) (c1 (F + 0) + 1)) (F + (0 + 1)) ((zU c1 (F + 0) (c1 (F + 0) + 1)) (F + (0 + 1)) + 1)), (by
        have e : zPlc (Z1 0) (Z1 (2 + 3 * j1 + 0)) (Z1 (2 + 3 * j1 + 1)) (Z1 (2 + 3 * j1 + 2)) pg rw un c1 b1 = (F, -1, -1) := by unfold zPlc; rw [if_neg (by omega), ← htk, ← hF, if_pos (by omega)]
        refine Or.inr ⟨rfl, by rw [e]; exact hF2.1, by rw [e], by rw [e], by rw [e], ?_, ?_⟩
        · unfold zGr
          rw [if_neg (by omega), if_neg (by omega), e]
          rw [show 24 * (F + 0) + 0 = 24 * F by omega, show 24 * (F + (0 + 1)) + 0 = 24 * (F + 1) by omega]
        · unfold zNxC
          rw [if_neg (by omega), if_pos (by omega), e, ← htk]
          rw [Int.add_zero]; rfl), rfl, rfl⟩ (by decide) (by decide) dX5_pourWhole_105
                    · exact absurd h76 (by omega)
              · skip
                refine zj_iconst 61 C dX5_pourWhole_60 rfl ?_
                subst hQ
                exact zj_zret C (zI_bool (by omega)) hr ⟨0, pg, rw, un, P1, R1, U1, G1, b1, c1, (by exact Or.inl ⟨rfl, by unfold zPlc; rw [if_neg (by omega), ← htk, ← hF, if_neg (by omega)], rfl, rfl, rfl, rfl, rfl, rfl⟩), rfl, rfl⟩ (by decide) (by decide) dX5_pourWhole_61
            refine zj_lv [1, 2, 3, 0] [(0, .ref q5), (1, .int (zI j1)), (2, .int (zI tk)), (3, .int (zI (f0 + 0)))] rfl ?_
            exact hL52 (f0 + 0) (by unfold zFst; rw [← hf0]; split <;> omega) (by omega)
          · skip
            refine zj_iload_n 44 3 C dX5_pourWhole_43 rfl rfl rfl ?_
            refine zj_iconst 45 C dX5_pourWhole_44 rfl ?_
            refine zj_irem2 46 C dX5_pourWhole_45 rfl (by omega) ?_
            refine zj_goto 50 C dX5_pourWhole_46 (by decide) ?_
            refine zj_iadd 51 C dX5_pourWhole_50 rfl ?_
            refine zj_istore_n 52 [(3, .int (zI (f0 + (f0 % 2)))), (0, .ref q5), (1, .int (zI j1)), (2, .int (zI tk))] C dX5_pourWhole_51 rfl rfl (by decide) rfl ?_
            have hL52 : ∀ (F : Int), (F = zFst c1 pg tk) → (0 ≤ F ∧ F ≤ 18) → zJ p l e rm_X5_pourWhole s m args below meth c Q D A 5 [(q5, .inr (5, [.int (zI th), .ref m0, .ref m1, .int (zI sm), .ref m2, .int (zI ty), .ref m3, .ref m4, .ref m5, .ref m6, .ref m7, .ref m8, .int (zI pg), .int (zI rw), .int (zI un), .ref m9, .int (zI pm), .int (zI sp), .int (zI wr), .long ha])), (m0, .inl (cI, 74, .inl (zA Z1))), (m3, .inl (cI, 24, .inl (zA P1))), (m4, .inl (cI, 24, .inl (zA R1))), (m5, .inl (cI, 24, .inl (zA U1))), (m6, .inl (cI, 384, .inl (zA G1))), (m7, .inl (cI, 16, .inl (zA b1))), (m8, .inl (cI, 16, .inl (zA c1)))] 0 0 [(0, .ref q5), (1, .int (zI j1)), (2, .int (zI tk)), (3, .int (zI F))] 52 [] := by
              intro F hF hF2
              refine zj_iload_n 53 3 C dX5_pourWhole_52 rfl rfl rfl ?_
              refine zj_iload_n 54 2 C dX5_pourWhole_53 rfl rfl rfl ?_
              refine zj_iadd 55 C dX5_pourWhole_54 rfl ?_
              refine zj_bipush 57 C dX5_pourWhole_55 rfl rfl ?_
              refine zj_icmp_le 60 62 C (by omega) (by omega) dX5_pourWhole_57 rfl (by decide) (fun h57 => ?_) (fun h57 => ?_)
              · skip
                refine zj_aload_n 63 0 C dX5_pourWhole_62 rfl rfl rfl ?_
                refine zj_iload_n 64 1 C dX5_pourWhole_63 rfl rfl rfl ?_
                refine zj_iload_n 65 3 C dX5_pourWhole_64 rfl rfl rfl ?_
                refine zj_iconst 66 C dX5_pourWhole_65 rfl ?_
                refine zj_iconst 67 C dX5_pourWhole_66 rfl ?_
                refine zj_cv 70 [0, 1, 2, 3, 4, 6] [5, 7] C (wr := [(m6, .inl (cI, 384, .inl (zA G1))), (m8, .inl (cI, 16, .inl (zA c1)))]) (zr_V [0, 1, 2, 3, 4, 6] C (As := [.int (zI j1), .int (zI F), .int (zI (-1)), .int (zI (-1))]) (rest := []) (c_X5_stand l D cI cS cJ q5 m0 m1 m2 m3 m4 m5 m6 m7 m8 m9 th sm ty pg rw un pm sp wr ha Z1 P1 R1 U1 b1 j1 F (-1) (-1) (by omega) (by omega)) (cwV 4 C.1.2.2.2.2 gX5_pourWhole_X5_stand rfl rfl rfl (by decide +kernel) ⟨Nat.le_of_ble_eq_true rfl, Nat.le_of_ble_eq_true rfl⟩) rfl (by decide) 0 rfl rfl rfl rfl (Nat.le_of_ble_eq_true rfl) dX5_pourWhole_67 ⟨Nat.le_of_ble_eq_true rfl, Nat.le_of_ble_eq_true rfl⟩) rfl rfl (by decide) (by decide) rfl (fun w_ hp_80 => ?_)
                obtain rfl := hp_80
                refine zj_ws (ws' := [(m6, .inl (cI, 384, .inl (zA G1))), (m8, .inl (cI, 16, .inl (zA c1))), (q5, .inr (5, [.int (zI th), .ref m0, .ref m1, .int (zI sm), .ref m2, .int (zI ty), .ref m3, .ref m4, .ref m5, .ref m6, .ref m7, .ref m8, .int (zI pg), .int (zI rw), .int (zI un), .ref m9, .int (zI pm), .int (zI sp), .int (zI wr), .long ha])), (m0, .inl (cI, 74, .inl (zA Z1))), (m3, .inl (cI, 24, .inl (zA (zU P1 j1 F)))), (m4, .inl (cI, 24, .inl (zA (zU R1 j1 (-1))))), (m5, .inl (cI, 24, .inl (zA (zU U1 j1 (-1))))), (m7, .inl (cI, 16, .inl (zA (zU b1 F (b1 F + Z1 (2 + 3 * j1 + 2))))))]) rfl ?_
                refine zj_iconst 71 C dX5_pourWhole_70 rfl ?_
                refine zj_istore 73 [(4, .int (zI 0)), (0, .ref q5), (1, .int (zI j1)), (2, .int (zI tk)), (3, .int (zI F))] C dX5_pourWhole_71 rfl (by decide) rfl ?_
                refine zj_iload 75 0 C dX5_pourWhole_73 rfl rfl ?_
                refine zj_iload_n 76 3 C dX5_pourWhole_75 rfl rfl rfl ?_
                refine zj_icmp_ge 79 97 C (by omega) (by omega) dX5_pourWhole_76 rfl (by decide) (fun h76 => ?_) (fun h76 => ?_)
                · exact absurd h76 (by omega)
                · skip
                  refine zj_aload_n 80 1 C dX5_pourWhole_79 rfl rfl rfl ?_
                  refine zj_iload_n 81 2 C dX5_pourWhole_80 rfl rfl rfl ?_
                  refine zj_iload_n 82 4 C dX5_pourWhole_81 rfl rfl rfl ?_
                  refine zj_iload 84 0 C dX5_pourWhole_82 rfl rfl ?_
                  refine zj_iadd 85 C dX5_pourWhole_84 rfl ?_
                  refine zj_iconst 86 C dX5_pourWhole_85 rfl ?_
                  refine zj_bipush 88 C dX5_pourWhole_86 rfl rfl ?_
                  refine zj_cv 91 [2, 0, 1] [3, 4, 5, 6, 7] C (wr := [(m0, .inl (cI, 74, .inl (zA Z1))), (m3, .inl (cI, 24, .inl (zA (zU P1 j1 F)))), (m4, .inl (cI, 24, .inl (zA (zU R1 j1 (-1))))), (m5, .inl (cI, 24, .inl (zA (zU U1 j1 (-1))))), (m7, .inl (cI, 16, .inl (zA (zU b1 F (b1 F + Z1 (2 + 3 * j1 + 2))))))]) (zr_V [2, 0, 1] C (As := [.int (zI j1), .int (zI (F + 0)), .int (zI 0), .int (zI 24)]) (rest := []) (c_X5_mark l D cI cS cJ q5 m0 m1 m2 m3 m4 m5 m6 m7 m8 m9 th sm ty pg rw un pm sp wr ha c1 G1 j1 (F + 0) 0 24 (by omega) (by omega)) (cwV 4 C.1.2.2.2.2 gX5_pourWhole_X5_mark rfl rfl rfl (by decide +kernel) ⟨Nat.le_of_ble_eq_true rfl, Nat.le_of_ble_eq_true rfl⟩) rfl (by decide) 0 rfl rfl rfl rfl (Nat.le_of_ble_eq_true rfl) dX5_pourWhole_88 ⟨Nat.le_of_ble_eq_true rfl, Nat.le_of_ble_eq_true rfl⟩) rfl rfl (by decide) (by decide) rfl (fun w_ hp_82 => ?_)
                  obtain rfl := hp_82
                  refine zj_ws (ws' := [(m0, .inl (cI, 74, .inl (zA Z1))), (m3, .inl (cI, 24, .inl (zA (zU P1 j1 F)))), (m4, .inl (cI, 24, .inl (zA (zU R1 j1 (-1))))), (m5, .inl (cI, 24, .inl (zA (zU U1 j1 (-1))))), (m7, .inl (cI, 16, .inl (zA (zU b1 F (b1 F + Z1 (2 + 3 * j1 + 2)))))), (q5, .inr (5, [.int (zI th), .ref m0, .ref m1, .int (zI sm), .ref m2, .int (zI ty), .ref m3, .ref m4, .ref m5, .ref m6, .ref m7, .ref m8, .int (zI pg), .int (zI rw), .int (zI un), .ref m9, .int (zI pm), .int (zI sp), .int (zI wr), .long ha])), (m6, .inl (cI, 384, .inl (zA (zMk G1 (24 * (F + 0) + 0) 24 j1)))), (m8, .inl (cI, 16, .inl (zA (zU c1 (F + 0) (c1 (F + 0) + 1)))))]) rfl ?_
                  refine zj_iinc 94 0 [(4, .int (zI (0 + 1))), (0, .ref q5), (1, .int (zI j1)), (2, .int (zI tk)), (3, .int (zI F))] C dX5_pourWhole_91 rfl rfl (by decide) rfl ?_
                  refine zj_goto 73 C dX5_pourWhole_94 (by decide) ?_
                  refine zj_iload 75 0 C dX5_pourWhole_73 rfl rfl ?_
                  refine zj_iload_n 76 3 C dX5_pourWhole_75 rfl rfl rfl ?_
                  refine zj_icmp_ge 79 97 C (by omega) (by omega) dX5_pourWhole_76 rfl (by decide) (fun h76 => ?_) (fun h76 => ?_)
                  · skip
                    refine zj_aload_n 98 1 C dX5_pourWhole_97 rfl rfl rfl ?_
                    refine zj_iload_n 99 4 C dX5_pourWhole_98 rfl rfl rfl ?_
                    refine zj_iload_n 100 3 C dX5_pourWhole_99 rfl rfl rfl ?_
                    refine zj_iadd 101 C dX5_pourWhole_100 rfl ?_
                    refine zj_cv 104 [5] [0, 1, 2, 3, 4, 6, 7] C (wr := [(m0, .inl (cI, 74, .inl (zA Z1))), (m3, .inl (cI, 24, .inl (zA (zU P1 j1 F)))), (m4, .inl (cI, 24, .inl (zA (zU R1 j1 (-1))))), (m5, .inl (cI, 24, .inl (zA (zU U1 j1 (-1))))), (m7, .inl (cI, 16, .inl (zA (zU b1 F (b1 F + Z1 (2 + 3 * j1 + 2)))))), (m6, .inl (cI, 384, .inl (zA (zMk G1 (24 * (F + 0) + 0) 24 j1)))), (m8, .inl (cI, 16, .inl (zA (zU c1 (F + 0) (c1 (F + 0) + 1)))))]) (zr_V [5] C (As := [.int (zI (F + tk))]) (rest := []) (c_X5_nextPage l D cI cS cJ q5 m0 m1 m2 m3 m4 m5 m6 m7 m8 m9 th sm ty pg rw un pm sp wr ha (F + tk)) (cwV 1 C.1.2.2.2.2 gX5_pourWhole_X5_nextPage rfl rfl rfl (by decide +kernel) ⟨Nat.le_of_ble_eq_true rfl, Nat.le_of_ble_eq_true rfl⟩) rfl (by decide) 0 rfl rfl rfl rfl (Nat.le_of_ble_eq_true rfl) dX5_pourWhole_101 ⟨Nat.le_of_ble_eq_true rfl, Nat.le_of_ble_eq_true rfl⟩) rfl rfl (by decide) (by decide) rfl (fun w_ hp_84 => ?_)
                    obtain rfl := hp_84
                    refine zj_ws (ws' := [(m0, .inl (cI, 74, .inl (zA Z1))), (m3, .inl (cI, 24, .inl (zA (zU P1 j1 F)))), (m4, .inl (cI, 24, .inl (zA (zU R1 j1 (-1))))), (m5, .inl (cI, 24, .inl (zA (zU U1 j1 (-1))))), (m7, .inl (cI, 16, .inl (zA (zU b1 F (b1 F + Z1 (2 + 3 * j1 + 2)))))), (m6, .inl (cI, 384, .inl (zA (zMk G1 (24 * (F + 0) + 0) 24 j1)))), (m8, .inl (cI, 16, .inl (zA (zU c1 (F + 0) (c1 (F + 0) + 1))))), (q5, .inr (5, [.int (zI th), .ref m0, .ref m1, .int (zI sm), .ref m2, .int (zI ty), .ref m3, .ref m4, .ref m5, .ref m6, .ref m7, .ref m8, .int (zI (F + tk)), .int (zI 0), .int (zI 0), .ref m9, .int (zI pm), .int (zI sp), .int (zI wr), .long ha]))]) rfl ?_
                    refine zj_iconst 105 C dX5_pourWhole_104 rfl ?_
                    refine zj_re [7, 0, 1, 2, 3, 5, 4, 6] [(q5, .inr (5, [.int (zI th), .ref m0, .ref m1, .int (zI sm), .ref m2, .int (zI ty), .ref m3, .ref m4, .ref m5, .ref m6, .ref m7, .ref m8, .int (zI (F + tk)), .int (zI 0), .int (zI 0), .ref m9, .int (zI pm), .int (zI sp), .int (zI wr), .long ha])), (m0, .inl (cI, 74, .inl (zA Z1))), (m3, .inl (cI, 24, .inl (zA (zU P1 j1 F)))), (m4, .inl (cI, 24, .inl (zA (zU R1 j1 (-1))))), (m5, .inl (cI, 24, .inl (zA (zU U1 j1 (-1))))), (m6, .inl (cI, 384, .inl (zA (zMk G1 (24 * (F + 0) + 0) 24 j1)))), (m7, .inl (cI, 16, .inl (zA (zU b1 F (b1 F + Z1 (2 + 3 * j1 + 2)))))), (m8, .inl (cI, 16, .inl (zA (zU c1 (F + 0) (c1 (F + 0) + 1)))))] (by decide) rfl ?_
                    subst hQ
                    exact zj_zret C (zI_bool (by omega)) hr ⟨1, (F + tk), 0, 0, (zU P1 j1 F), (zU R1 j1 (-1)), (zU U1 j1 (-1)), (zMk G1 (24 * (F + 0) + 0) 24 j1), (zU b1 F (b1 F + Z1 (2 + 3 * j1 + 2))), (zU c1 (F + 0) (c1 (F + 0) + 1)), (by
        have e : zPlc (Z1 0) (Z1 (2 + 3 * j1 + 0)) (Z1 (2 + 3 * j1 + 1)) (Z1 (2 + 3 * j1 + 2)) pg rw un c1 b1 = (F, -1, -1) := by unfold zPlc; rw [if_neg (by omega), ← htk, ← hF, if_pos (by omega)]
        refine Or.inr ⟨rfl, by rw [e]; exact hF2.1, by rw [e], by rw [e], by rw [e], ?_, ?_⟩
        · unfold zGr
          rw [if_neg (by omega), if_pos (by omega), e]
          rw [show 24 * (F + 0) + 0 = 24 * F by omega]
        · unfold zNxC
          rw [if_neg (by omega), if_neg (by omega), e, ← htk]
          rw [Int.add_zero]), rfl, rfl⟩ (by decide) (by decide) dX5_pourWhole_105
                  · skip
                    refine zj_aload_n 80 1 C dX5_pourWhole_79 rfl rfl rfl ?_
                    refine zj_iload_n 81 2 C dX5_pourWhole_80 rfl rfl rfl ?_
                    refine zj_iload_n 82 4 C dX5_pourWhole_81 rfl rfl rfl ?_
                    refine zj_iload 84 0 C dX5_pourWhole_82 rfl rfl ?_
                    refine zj_iadd 85 C dX5_pourWhole_84 rfl ?_
                    refine zj_iconst 86 C dX5_pourWhole_85 rfl ?_
                    refine zj_bipush 88 C dX5_pourWhole_86 rfl rfl ?_
                    refine zj_cv 91 [5, 6, 7] [0, 1, 2, 3, 4] C (wr := [(m0, .inl (cI, 74, .inl (zA Z1))), (m3, .inl (cI, 24, .inl (zA (zU P1 j1 F)))), (m4, .inl (cI, 24, .inl (zA (zU R1 j1 (-1))))), (m5, .inl (cI, 24, .inl (zA (zU U1 j1 (-1))))), (m7, .inl (cI, 16, .inl (zA (zU b1 F (b1 F + Z1 (2 + 3 * j1 + 2))))))]) (zr_V [5, 6, 7] C (As := [.int (zI j1), .int (zI (F + (0 + 1))), .int (zI 0), .int (zI 24)]) (rest := []) (c_X5_mark l D cI cS cJ q5 m0 m1 m2 m3 m4 m5 m6 m7 m8 m9 th sm ty pg rw un pm sp wr ha (zU c1 (F + 0) (c1 (F + 0) + 1)) (zMk G1 (24 * (F + 0) + 0) 24 j1) j1 (F + (0 + 1)) 0 24 (by omega) (by omega)) (cwV 4 C.1.2.2.2.2 gX5_pourWhole_X5_mark rfl rfl rfl (by decide +kernel) ⟨Nat.le_of_ble_eq_true rfl, Nat.le_of_ble_eq_true rfl⟩) rfl (by decide) 0 rfl rfl rfl rfl (Nat.le_of_ble_eq_true rfl) dX5_pourWhole_88 ⟨Nat.le_of_ble_eq_true rfl, Nat.le_of_ble_eq_true rfl⟩) rfl rfl (by decide) (by decide) rfl (fun w_ hp_86 => ?_)
                    obtain rfl := hp_86
                    refine zj_ws (ws' := [(m0, .inl (cI, 74, .inl (zA Z1))), (m3, .inl (cI, 24, .inl (zA (zU P1 j1 F)))), (m4, .inl (cI, 24, .inl (zA (zU R1 j1 (-1))))), (m5, .inl (cI, 24, .inl (zA (zU U1 j1 (-1))))), (m7, .inl (cI, 16, .inl (zA (zU b1 F (b1 F + Z1 (2 + 3 * j1 + 2)))))), (q5, .inr (5, [.int (zI th), .ref m0, .ref m1, .int (zI sm), .ref m2, .int (zI ty), .ref m3, .ref m4, .ref m5, .ref m6, .ref m7, .ref m8, .int (zI pg), .int (zI rw), .int (zI un), .ref m9, .int (zI pm), .int (zI sp), .int (zI wr), .long ha])), (m6, .inl (cI, 384, .inl (zA (zMk (zMk G1 (24 * (F + 0) + 0) 24 j1) (24 * (F + (0 + 1)) + 0) 24 j1)))), (m8, .inl (cI, 16, .inl (zA (zU (zU c1 (F + 0) (c1 (F + 0) + 1)) (F + (0 + 1)) ((zU c1 (F + 0) (c1 (F + 0) + 1)) (F + (0 + 1)) + 1)))))]) rfl ?_
                    refine zj_iinc 94 0 [(4, .int (zI ((0 + 1) + 1))), (0, .ref q5), (1, .int (zI j1)), (2, .int (zI tk)), (3, .int (zI F))] C dX5_pourWhole_91 rfl rfl (by decide) rfl ?_
                    refine zj_goto 73 C dX5_pourWhole_94 (by decide) ?_
                    refine zj_iload 75 0 C dX5_pourWhole_73 rfl rfl ?_
                    refine zj_iload_n 76 3 C dX5_pourWhole_75 rfl rfl rfl ?_
                    refine zj_icmp_ge 79 97 C (by omega) (by omega) dX5_pourWhole_76 rfl (by decide) (fun h76 => ?_) (fun h76 => ?_)
                    · skip
                      refine zj_aload_n 98 1 C dX5_pourWhole_97 rfl rfl rfl ?_
                      refine zj_iload_n 99 4 C dX5_pourWhole_98 rfl rfl rfl ?_
                      refine zj_iload_n 100 3 C dX5_pourWhole_99 rfl rfl rfl ?_
                      refine zj_iadd 101 C dX5_pourWhole_100 rfl ?_
                      refine zj_cv 104 [5] [0, 1, 2, 3, 4, 6, 7] C (wr := [(m0, .inl (cI, 74, .inl (zA Z1))), (m3, .inl (cI, 24, .inl (zA (zU P1 j1 F)))), (m4, .inl (cI, 24, .inl (zA (zU R1 j1 (-1))))), (m5, .inl (cI, 24, .inl (zA (zU U1 j1 (-1))))), (m7, .inl (cI, 16, .inl (zA (zU b1 F (b1 F + Z1 (2 + 3 * j1 + 2)))))), (m6, .inl (cI, 384, .inl (zA (zMk (zMk G1 (24 * (F + 0) + 0) 24 j1) (24 * (F + (0 + 1)) + 0) 24 j1)))), (m8, .inl (cI, 16, .inl (zA (zU (zU c1 (F + 0) (c1 (F + 0) + 1)) (F + (0 + 1)) ((zU c1 (F + 0) (c1 (F + 0) + 1)) (F + (0 + 1)) + 1)))))]) (zr_V [5] C (As := [.int (zI (F + tk))]) (rest := []) (c_X5_nextPage l D cI cS cJ q5 m0 m1 m2 m3 m4 m5 m6 m7 m8 m9 th sm ty pg rw un pm sp wr ha (F + tk)) (cwV 1 C.1.2.2.2.2 gX5_pourWhole_X5_nextPage rfl rfl rfl (by decide +kernel) ⟨Nat.le_of_ble_eq_true rfl, Nat.le_of_ble_eq_true rfl⟩) rfl (by decide) 0 rfl rfl rfl rfl (Nat.le_of_ble_eq_true rfl) dX5_pourWhole_101 ⟨Nat.le_of_ble_eq_true rfl, Nat.le_of_ble_eq_true rfl⟩) rfl rfl (by decide) (by decide) rfl (fun w_ hp_88 => ?_)
                      obtain rfl := hp_88
                      refine zj_ws (ws' := [(m0, .inl (cI, 74, .inl (zA Z1))), (m3, .inl (cI, 24, .inl (zA (zU P1 j1 F)))), (m4, .inl (cI, 24, .inl (zA (zU R1 j1 (-1))))), (m5, .inl (cI, 24, .inl (zA (zU U1 j1 (-1))))), (m7, .inl (cI, 16, .inl (zA (zU b1 F (b1 F + Z1 (2 + 3 * j1 + 2)))))), (m6, .inl (cI, 384, .inl (zA (zMk (zMk G1 (24 * (F + 0) + 0) 24 j1) (24 * (F + (0 + 1)) + 0) 24 j1)))), (m8, .inl (cI, 16, .inl (zA (zU (zU c1 (F + 0) (c1 (F + 0) + 1)) (F + (0 + 1)) ((zU c1 (F + 0) (c1 (F + 0) + 1)) (F + (0 + 1)) + 1))))), (q5, .inr (5, [.int (zI th), .ref m0, .ref m1, .int (zI sm), .ref m2, .int (zI ty), .ref m3, .ref m4, .ref m5, .ref m6, .ref m7, .ref m8, .int (zI (F + tk)), .int (zI 0), .int (zI 0), .ref m9, .int (zI pm), .int (zI sp), .int (zI wr), .long ha]))]) rfl ?_
                      refine zj_iconst 105 C dX5_pourWhole_104 rfl ?_
                      refine zj_re [7, 0, 1, 2, 3, 5, 4, 6] [(q5, .inr (5, [.int (zI th), .ref m0, .ref m1, .int (zI sm), .ref m2, .int (zI ty), .ref m3, .ref m4, .ref m5, .ref m6, .ref m7, .ref m8, .int (zI (F + tk)), .int (zI 0), .int (zI 0), .ref m9, .int (zI pm), .int (zI sp), .int (zI wr), .long ha])), (m0, .inl (cI, 74, .inl (zA Z1))), (m3, .inl (cI, 24, .inl (zA (zU P1 j1 F)))), (m4, .inl (cI, 24, .inl (zA (zU R1 j1 (-1))))), (m5, .inl (cI, 24, .inl (zA (zU U1 j1 (-1))))), (m6, .inl (cI, 384, .inl (zA (zMk (zMk G1 (24 * (F + 0) + 0) 24 j1) (24 * (F + (0 + 1)) + 0) 24 j1)))), (m7, .inl (cI, 16, .inl (zA (zU b1 F (b1 F + Z1 (2 + 3 * j1 + 2)))))), (m8, .inl (cI, 16, .inl (zA (zU (zU c1 (F + 0) (c1 (F + 0) + 1)) (F + (0 + 1)) ((zU c1 (F + 0) (c1 (F + 0) + 1)) (F + (0 + 1)) + 1)))))] (by decide) rfl ?_
                      subst hQ
                      exact zj_zret C (zI_bool (by omega)) hr ⟨1, (F + tk), 0, 0, (zU P1 j1 F), (zU R1 j1 (-1)), (zU U1 j1 (-1)), (zMk (zMk G1 (24 * (F + 0) + 0) 24 j1) (24 * (F + (0 + 1)) + 0) 24 j1), (zU b1 F (b1 F + Z1 (2 + 3 * j1 + 2))), (zU (zU c1 (F + 0) (c1 (F + 0) + 1)) (F + (0 + 1)) ((zU c1 (F + 0) (c1 (F + 0) + 1)) (F + (0 + 1)) + 1)), (by
        have e : zPlc (Z1 0) (Z1 (2 + 3 * j1 + 0)) (Z1 (2 + 3 * j1 + 1)) (Z1 (2 + 3 * j1 + 2)) pg rw un c1 b1 = (F, -1, -1) := by unfold zPlc; rw [if_neg (by omega), ← htk, ← hF, if_pos (by omega)]
        refine Or.inr ⟨rfl, by rw [e]; exact hF2.1, by rw [e], by rw [e], by rw [e], ?_, ?_⟩
        · unfold zGr
          rw [if_neg (by omega), if_neg (by omega), e]
          rw [show 24 * (F + 0) + 0 = 24 * F by omega, show 24 * (F + (0 + 1)) + 0 = 24 * (F + 1) by omega]
        · unfold zNxC
          rw [if_neg (by omega), if_pos (by omega), e, ← htk]
          rw [Int.add_zero]; rfl), rfl, rfl⟩ (by decide) (by decide) dX5_pourWhole_105
                    · exact absurd h76 (by omega)
              · skip
                refine zj_iconst 61 C dX5_pourWhole_60 rfl ?_
                subst hQ
                exact zj_zret C (zI_bool (by omega)) hr ⟨0, pg, rw, un, P1, R1, U1, G1, b1, c1, (by exact Or.inl ⟨rfl, by unfold zPlc; rw [if_neg (by omega), ← htk, ← hF, if_neg (by omega)], rfl, rfl, rfl, rfl, rfl, rfl⟩), rfl, rfl⟩ (by decide) (by decide) dX5_pourWhole_61
            refine zj_lv [1, 2, 3, 0] [(0, .ref q5), (1, .int (zI j1)), (2, .int (zI tk)), (3, .int (zI (f0 + (f0 % 2))))] rfl ?_
            exact hL52 (f0 + (f0 % 2)) (by unfold zFst; rw [← hf0]; split <;> omega) (by omega)
        refine zj_re [6, 0, 1, 2, 3, 4, 5, 7] [(q5, .inr (5, [.int (zI th), .ref m0, .ref m1, .int (zI sm), .ref m2, .int (zI ty), .ref m3, .ref m4, .ref m5, .ref m6, .ref m7, .ref m8, .int (zI pg), .int (zI rw), .int (zI un), .ref m9, .int (zI pm), .int (zI sp), .int (zI wr), .long ha])), (m0, .inl (cI, 74, .inl (zA Z1))), (m3, .inl (cI, 24, .inl (zA P1))), (m4, .inl (cI, 24, .inl (zA R1))), (m5, .inl (cI, 24, .inl (zA U1))), (m6, .inl (cI, 384, .inl (zA G1))), (m7, .inl (cI, 16, .inl (zA b1))), (m8, .inl (cI, 16, .inl (zA c1)))] (by decide) rfl ?_
        refine zj_lv [1, 2, 3, 0] [(0, .ref q5), (1, .int (zI j1)), (2, .int (zI tk)), (3, .int (zI pg))] rfl ?_
        exact hL37 pg (by unfold zF0; split <;> omega) (by omega)
    refine zj_re [6, 7, 0, 1, 2, 3, 4, 5] [(q5, .inr (5, [.int (zI th), .ref m0, .ref m1, .int (zI sm), .ref m2, .int (zI ty), .ref m3, .ref m4, .ref m5, .ref m6, .ref m7, .ref m8, .int (zI pg), .int (zI rw), .int (zI un), .ref m9, .int (zI pm), .int (zI sp), .int (zI wr), .long ha])), (m0, .inl (cI, 74, .inl (zA Z1))), (m3, .inl (cI, 24, .inl (zA P1))), (m4, .inl (cI, 24, .inl (zA R1))), (m5, .inl (cI, 24, .inl (zA U1))), (m6, .inl (cI, 384, .inl (zA G1))), (m7, .inl (cI, 16, .inl (zA b1))), (m8, .inl (cI, 16, .inl (zA c1)))] (by decide) rfl ?_
    refine zj_lv [1, 2, 0] [(0, .ref q5), (1, .int (zI j1)), (2, .int (zI 1))] rfl ?_
    exact hL16 1 (by omega)

theorem fl_X5_pourInRow_47 : Cond.fieldLink RX5 47 "SplashPagesModel" "page" "I" ∈ wsX5_pourInRow := by decide +kernel
theorem im_X5_pourInRow_5 : ∀ w ∈ u_ws RX5 TX5 20, w ∈ wsX5_pourInRow := by decide +kernel
theorem fl_X5_pourInRow_50 : Cond.fieldLink RX5 50 "SplashPagesModel" "row" "I" ∈ wsX5_pourInRow := by decide +kernel
theorem fl_X5_pourInRow_53 : Cond.fieldLink RX5 53 "SplashPagesModel" "unit" "I" ∈ wsX5_pourInRow := by decide +kernel
theorem fl_X5_pourInRow_31 : Cond.fieldLink RX5 31 "SplashPagesModel" "beatsOn" "[I" ∈ wsX5_pourInRow := by decide +kernel
theorem fl_X5_pourInRow_7 : Cond.fieldLink RX5 7 "SplashPagesModel" "z" "[I" ∈ wsX5_pourInRow := by decide +kernel
abbrev rm_X5_pourInRow : Room := { frames := 2, cells := 0, slots := 0, locals := 46 }
set_option maxRecDepth 100000 in
set_option maxHeartbeats 4000000 in
theorem c_X5_pourInRow (l : Launch) (D : va_G) (cI cS cJ : ClassId) (q5 : Nat) (m0 : Nat) (m1 : Nat) (m2 : Nat) (m3 : Nat) (m4 : Nat) (m5 : Nat) (m6 : Nat) (m7 : Nat) (m8 : Nat) (m9 : Nat) (th : Int) (sm : Int) (ty : Int) (pg : Int) (rw : Int) (un : Int) (pm : Int) (sp : Int) (wr : Int) (ha : Int64) (Z1 : Int → Int) (P1 : Int → Int) (R1 : Int → Int) (U1 : Int → Int) (G1 : Int → Int) (b1 : Int → Int) (c1 : Int → Int) (j1 : Int) (hp : 0 ≤ pg ∧ pg ≤ 16) (hr1 : 0 ≤ rw ∧ rw ≤ 3) (hu1 : 0 ≤ un ∧ un ≤ 6) (hj : 0 ≤ j1 ∧ j1 < 24) (hK : 0 ≤ Z1 (2 + 3 * j1 + 0) ∧ Z1 (2 + 3 * j1 + 0) ≤ 1) (hW : 1 ≤ Z1 (2 + 3 * j1 + 1) ∧ Z1 (2 + 3 * j1 + 1) ≤ 6) (hT : 1 ≤ Z1 (2 + 3 * j1 + 2) ∧ Z1 (2 + 3 * j1 + 2) ≤ 9) (hs : 0 ≤ Z1 0 ∧ Z1 0 ≤ 1000) (hc : ∀ x, 0 ≤ c1 x ∧ c1 x ≤ 1000) (hb : ∀ x, 0 ≤ b1 x ∧ b1 x ≤ 10000) : zMi l yX5_pourInRow wsX5_pourInRow rm_X5_pourInRow D (zTy cI cS cJ) [.ref q5, .int (zI j1)] [(q5, .inr (5, [.int (zI th), .ref m0, .ref m1, .int (zI sm), .ref m2, .int (zI ty), .ref m3, .ref m4, .ref m5, .ref m6, .ref m7, .ref m8, .int (zI pg), .int (zI rw), .int (zI un), .ref m9, .int (zI pm), .int (zI sp), .int (zI wr), .long ha])), (m0, .inl (cI, 74, .inl (zA Z1))), (m3, .inl (cI, 24, .inl (zA P1))), (m4, .inl (cI, 24, .inl (zA R1))), (m5, .inl (cI, 24, .inl (zA U1))), (m6, .inl (cI, 384, .inl (zA G1))), (m7, .inl (cI, 16, .inl (zA b1))), (m8, .inl (cI, 16, .inl (zA c1)))] (fun r w => ∃ (r1 : Int), ∃ (pg2 : Int), ∃ (rw2 : Int), ∃ (un2 : Int), ∃ (P2 : Int → Int), ∃ (R2 : Int → Int), ∃ (U2 : Int → Int), ∃ (G2 : Int → Int), ∃ (b2 : Int → Int), ∃ (c2 : Int → Int), ((r1 = 0 ∧ (zPlc (Z1 0) (Z1 (2 + 3 * j1 + 0)) (Z1 (2 + 3 * j1 + 1)) (Z1 (2 + 3 * j1 + 2)) pg rw un c1 b1).1 = -1 ∧ c2 = c1 ∧ b2 = b1 ∧ P2 = P1 ∧ R2 = R1 ∧ U2 = U1 ∧ G2 = G1) ∨ (r1 = 1 ∧ 0 ≤ (zPlc (Z1 0) (Z1 (2 + 3 * j1 + 0)) (Z1 (2 + 3 * j1 + 1)) (Z1 (2 + 3 * j1 + 2)) pg rw un c1 b1).1 ∧ P2 = zU P1 j1 (zPlc (Z1 0) (Z1 (2 + 3 * j1 + 0)) (Z1 (2 + 3 * j1 + 1)) (Z1 (2 + 3 * j1 + 2)) pg rw un c1 b1).1 ∧ R2 = zU R1 j1 (zPlc (Z1 0) (Z1 (2 + 3 * j1 + 0)) (Z1 (2 + 3 * j1 + 1)) (Z1 (2 + 3 * j1 + 2)) pg rw un c1 b1).2.1 ∧ U2 = zU U1 j1 (zPlc (Z1 0) (Z1 (2 + 3 * j1 + 0)) (Z1 (2 + 3 * j1 + 1)) (Z1 (2 + 3 * j1 + 2)) pg rw un c1 b1).2.2 ∧ G2 = zGr (Z1 (2 + 3 * j1 + 0)) (Z1 (2 + 3 * j1 + 1)) j1 (zPlc (Z1 0) (Z1 (2 + 3 * j1 + 0)) (Z1 (2 + 3 * j1 + 1)) (Z1 (2 + 3 * j1 + 2)) pg rw un c1 b1) G1 ∧ (pg2, rw2, un2, c2, b2) = zNxC (Z1 0) (Z1 (2 + 3 * j1 + 0)) (Z1 (2 + 3 * j1 + 1)) (Z1 (2 + 3 * j1 + 2)) pg rw un c1 b1)) ∧ r = zI r1 ∧ w = [(q5, .inr (5, [.int (zI th), .ref m0, .ref m1, .int (zI sm), .ref m2, .int (zI ty), .ref m3, .ref m4, .ref m5, .ref m6, .ref m7, .ref m8, .int (zI pg2), .int (zI rw2), .int (zI un2), .ref m9, .int (zI pm), .int (zI sp), .int (zI wr), .long ha])), (m0, .inl (cI, 74, .inl (zA Z1))), (m3, .inl (cI, 24, .inl (zA P2))), (m4, .inl (cI, 24, .inl (zA R2))), (m5, .inl (cI, 24, .inl (zA U2))), (m6, .inl (cI, 384, .inl (zA G2))), (m7, .inl (cI, 16, .inl (zA b2))), (m8, .inl (cI, 16, .inl (zA c2)))]) 0 0 := by
  intro sz
  refine zMet_of (Qc := fun A => va_Qi _ (zB D (zTy cI cS cJ) A) A) RX5 [(0, .ref q5), (1, .int (zI j1))] rfl (by decide +kernel) rfl (Nat.le_of_ble_eq_true rfl) rfl ?_ sz
  intro p e s m args below meth c A Q hQ C hr hini
  have hcv := hc pg
  have hbv := hb pg
  refine zj_aload_n 1 0 C dX5_pourInRow_0 rfl rfl rfl ?_
  refine zj_iload_n 2 1 C dX5_pourInRow_1 rfl rfl rfl ?_
  refine zj_iconst 3 C dX5_pourInRow_2 rfl ?_
  refine zj_ci 6 [0, 1] [2, 3, 4, 5, 6, 7] C (wr := [(m3, .inl (cI, 24, .inl (zA P1))), (m4, .inl (cI, 24, .inl (zA R1))), (m5, .inl (cI, 24, .inl (zA U1))), (m6, .inl (cI, 384, .inl (zA G1))), (m7, .inl (cI, 16, .inl (zA b1))), (m8, .inl (cI, 16, .inl (zA c1)))]) (zr_V [0, 1] C (As := [.int (zI j1), .int (zI 0)]) (rest := []) (c_X5_of l D cI cS cJ q5 m0 m1 m2 m3 m4 m5 m6 m7 m8 m9 th sm ty pg rw un pm sp wr ha Z1 j1 0 (by omega) (by omega)) (cwV 2 C.1.2.2.2.2 gX5_pourInRow_X5_of rfl rfl rfl (by decide +kernel) ⟨Nat.le_of_ble_eq_true rfl, Nat.le_of_ble_eq_true rfl⟩) rfl (by decide) 0 rfl rfl rfl rfl (Nat.le_of_ble_eq_true rfl) dX5_pourInRow_3 ⟨Nat.le_of_ble_eq_true rfl, Nat.le_of_ble_eq_true rfl⟩) rfl rfl (by decide) (by decide) rfl (fun r_1 w_ hp_2 => ?_)
  obtain ⟨rfl, rfl⟩ := hp_2
  refine zj_ws (ws' := [(m3, .inl (cI, 24, .inl (zA P1))), (m4, .inl (cI, 24, .inl (zA R1))), (m5, .inl (cI, 24, .inl (zA U1))), (m6, .inl (cI, 384, .inl (zA G1))), (m7, .inl (cI, 16, .inl (zA b1))), (m8, .inl (cI, 16, .inl (zA c1))), (q5, .inr (5, [.int (zI th), .ref m0, .ref m1, .int (zI sm), .ref m2, .int (zI ty), .ref m3, .ref m4, .ref m5, .ref m6, .ref m7, .ref m8, .int (zI pg), .int (zI rw), .int (zI un), .ref m9, .int (zI pm), .int (zI sp), .int (zI wr), .long ha])), (m0, .inl (cI, 74, .inl (zA Z1)))]) rfl ?_
  refine zj_iconst 7 C dX5_pourInRow_6 rfl ?_
  refine zj_icmp_ne 10 14 C (by omega) (by omega) dX5_pourInRow_7 rfl (by decide) (fun h7 => ?_) (fun h7 => ?_)
  · skip
    refine zj_iconst 15 C dX5_pourInRow_14 rfl ?_
    have hL15 : ∀ (d1 : Int), (d1 = Z1 (2 + 3 * j1 + 0)) → zJ p l e rm_X5_pourInRow s m args below meth c Q D A 4 [(q5, .inr (5, [.int (zI th), .ref m0, .ref m1, .int (zI sm), .ref m2, .int (zI ty), .ref m3, .ref m4, .ref m5, .ref m6, .ref m7, .ref m8, .int (zI pg), .int (zI rw), .int (zI un), .ref m9, .int (zI pm), .int (zI sp), .int (zI wr), .long ha])), (m0, .inl (cI, 74, .inl (zA Z1))), (m3, .inl (cI, 24, .inl (zA P1))), (m4, .inl (cI, 24, .inl (zA R1))), (m5, .inl (cI, 24, .inl (zA U1))), (m6, .inl (cI, 384, .inl (zA G1))), (m7, .inl (cI, 16, .inl (zA b1))), (m8, .inl (cI, 16, .inl (zA c1)))] 0 0 [(0, .ref q5), (1, .int (zI j1))] 15 [.int (zI d1)] := by
      intro d1 hd
      refine zj_istore_n 16 [(2, .int (zI d1)), (0, .ref q5), (1, .int (zI j1))] C dX5_pourInRow_15 rfl rfl (by decide) rfl ?_
      refine zj_aload_n 17 1 C dX5_pourInRow_16 rfl rfl rfl ?_
      refine zj_iload_n 18 2 C dX5_pourInRow_17 rfl rfl rfl ?_
      refine zj_iconst 19 C dX5_pourInRow_18 rfl ?_
      refine zj_ci 22 [0, 1] [2, 3, 4, 5, 6, 7] C (wr := [(m3, .inl (cI, 24, .inl (zA P1))), (m4, .inl (cI, 24, .inl (zA R1))), (m5, .inl (cI, 24, .inl (zA U1))), (m6, .inl (cI, 384, .inl (zA G1))), (m7, .inl (cI, 16, .inl (zA b1))), (m8, .inl (cI, 16, .inl (zA c1)))]) (zr_V [0, 1] C (As := [.int (zI j1), .int (zI 1)]) (rest := []) (c_X5_of l D cI cS cJ q5 m0 m1 m2 m3 m4 m5 m6 m7 m8 m9 th sm ty pg rw un pm sp wr ha Z1 j1 1 (by omega) (by omega)) (cwV 2 C.1.2.2.2.2 gX5_pourInRow_X5_of rfl rfl rfl (by decide +kernel) ⟨Nat.le_of_ble_eq_true rfl, Nat.le_of_ble_eq_true rfl⟩) rfl (by decide) 0 rfl rfl rfl rfl (Nat.le_of_ble_eq_true rfl) dX5_pourInRow_19 ⟨Nat.le_of_ble_eq_true rfl, Nat.le_of_ble_eq_true rfl⟩) rfl rfl (by decide) (by decide) rfl (fun r_3 w_ hp_4 => ?_)
      obtain ⟨rfl, rfl⟩ := hp_4
      refine zj_ws (ws' := [(m3, .inl (cI, 24, .inl (zA P1))), (m4, .inl (cI, 24, .inl (zA R1))), (m5, .inl (cI, 24, .inl (zA U1))), (m6, .inl (cI, 384, .inl (zA G1))), (m7, .inl (cI, 16, .inl (zA b1))), (m8, .inl (cI, 16, .inl (zA c1))), (q5, .inr (5, [.int (zI th), .ref m0, .ref m1, .int (zI sm), .ref m2, .int (zI ty), .ref m3, .ref m4, .ref m5, .ref m6, .ref m7, .ref m8, .int (zI pg), .int (zI rw), .int (zI un), .ref m9, .int (zI pm), .int (zI sp), .int (zI wr), .long ha])), (m0, .inl (cI, 74, .inl (zA Z1)))]) rfl ?_
      refine zj_istore_n 23 [(3, .int (zI (Z1 (2 + 3 * j1 + 1)))), (2, .int (zI d1)), (0, .ref q5), (1, .int (zI j1))] C dX5_pourInRow_22 rfl rfl (by decide) rfl ?_
      refine zj_aload_n 24 2 C dX5_pourInRow_23 rfl rfl rfl ?_
      refine zj_ci 27 [6, 5] [0, 1, 2, 3, 4, 7] C (wr := [(m3, .inl (cI, 24, .inl (zA P1))), (m4, .inl (cI, 24, .inl (zA R1))), (m5, .inl (cI, 24, .inl (zA U1))), (m6, .inl (cI, 384, .inl (zA G1))), (m7, .inl (cI, 16, .inl (zA b1))), (m0, .inl (cI, 74, .inl (zA Z1)))]) (zr_V [6, 5] C (As := []) (rest := []) (c_X5_isEmpty l D cI cS cJ q5 m0 m1 m2 m3 m4 m5 m6 m7 m8 m9 th sm ty pg rw un pm sp wr ha c1 (by omega) hc) (cwV 0 C.1.2.2.2.2 gX5_pourInRow_X5_isEmpty rfl rfl rfl (by decide +kernel) ⟨Nat.le_of_ble_eq_true rfl, Nat.le_of_ble_eq_true rfl⟩) rfl (by decide) 0 rfl rfl rfl rfl (Nat.le_of_ble_eq_true rfl) dX5_pourInRow_24 ⟨Nat.le_of_ble_eq_true rfl, Nat.le_of_ble_eq_true rfl⟩) rfl rfl (by decide) (by decide) rfl (fun r_5 w_ hp_6 => ?_)
      obtain ⟨r1_7, fe, rfl, rfl⟩ := hp_6
      refine zj_ws (ws' := [(m3, .inl (cI, 24, .inl (zA P1))), (m4, .inl (cI, 24, .inl (zA R1))), (m5, .inl (cI, 24, .inl (zA U1))), (m6, .inl (cI, 384, .inl (zA G1))), (m7, .inl (cI, 16, .inl (zA b1))), (m0, .inl (cI, 74, .inl (zA Z1))), (q5, .inr (5, [.int (zI th), .ref m0, .ref m1, .int (zI sm), .ref m2, .int (zI ty), .ref m3, .ref m4, .ref m5, .ref m6, .ref m7, .ref m8, .int (zI pg), .int (zI rw), .int (zI un), .ref m9, .int (zI pm), .int (zI sp), .int (zI wr), .long ha])), (m8, .inl (cI, 16, .inl (zA c1)))]) rfl ?_
      refine zj_if_ne 30 65 C (by omega) dX5_pourInRow_27 rfl (by decide) (fun h27 => ?_) (fun h27 => ?_)
      · skip
        have hL65 : ∀ (x1 : Int) (x2 : Int) (x3 : Int), ((x1, x2, x3) = (if zGc c1 b1 pg (Z1 (2 + 3 * j1 + 2)) (Z1 0) then (pg + 1, 0, 0) else (pg, rw, un))) → (0 ≤ x1 ∧ x1 ≤ 16 ∧ 0 ≤ x2 ∧ x2 ≤ 3 ∧ 0 ≤ x3 ∧ x3 ≤ 6) → zJ p l e rm_X5_pourInRow s m args below meth c Q D A 4 [(q5, .inr (5, [.int (zI th), .ref m0, .ref m1, .int (zI sm), .ref m2, .int (zI ty), .ref m3, .ref m4, .ref m5, .ref m6, .ref m7, .ref m8, .int (zI x1), .int (zI x2), .int (zI x3), .ref m9, .int (zI pm), .int (zI sp), .int (zI wr), .long ha])), (m0, .inl (cI, 74, .inl (zA Z1))), (m3, .inl (cI, 24, .inl (zA P1))), (m4, .inl (cI, 24, .inl (zA R1))), (m5, .inl (cI, 24, .inl (zA U1))), (m6, .inl (cI, 384, .inl (zA G1))), (m7, .inl (cI, 16, .inl (zA b1))), (m8, .inl (cI, 16, .inl (zA c1)))] 0 0 [(0, .ref q5), (1, .int (zI j1)), (2, .int (zI d1)), (3, .int (zI (Z1 (2 + 3 * j1 + 1))))] 65 [] := by
          intro x1 x2 x3 hx hx2
          have hL80 : ∀ (y1 : Int) (y2 : Int) (y3 : Int), ((y1, y2, y3) = zX2 (Z1 (2 + 3 * j1 + 1)) (x1, x2, x3)) → (0 ≤ y1 ∧ y1 ≤ 17 ∧ 0 ≤ y2 ∧ y2 ≤ 3 ∧ 0 ≤ y3 ∧ y3 ≤ 6) → zJ p l e rm_X5_pourInRow s m args below meth c Q D A 4 [(q5, .inr (5, [.int (zI th), .ref m0, .ref m1, .int (zI sm), .ref m2, .int (zI ty), .ref m3, .ref m4, .ref m5, .ref m6, .ref m7, .ref m8, .int (zI y1), .int (zI y2), .int (zI y3), .ref m9, .int (zI pm), .int (zI sp), .int (zI wr), .long ha])), (m0, .inl (cI, 74, .inl (zA Z1))), (m3, .inl (cI, 24, .inl (zA P1))), (m4, .inl (cI, 24, .inl (zA R1))), (m5, .inl (cI, 24, .inl (zA U1))), (m6, .inl (cI, 384, .inl (zA G1))), (m7, .inl (cI, 16, .inl (zA b1))), (m8, .inl (cI, 16, .inl (zA c1)))] 0 0 [(0, .ref q5), (1, .int (zI j1)), (2, .int (zI d1)), (3, .int (zI (Z1 (2 + 3 * j1 + 1))))] 80 [] := by
            intro y1 y2 y3 hy hy2
            have hL104 : ∀ (z1 : Int) (z2 : Int) (z3 : Int), ((z1, z2, z3) = zX3 d1 (zX2 (Z1 (2 + 3 * j1 + 1)) (x1, x2, x3))) → (0 ≤ z1 ∧ z1 ≤ 18 ∧ 0 ≤ z2 ∧ z2 ≤ 3 ∧ 0 ≤ z3 ∧ z3 ≤ 6) → zJ p l e rm_X5_pourInRow s m args below meth c Q D A 4 [(q5, .inr (5, [.int (zI th), .ref m0, .ref m1, .int (zI sm), .ref m2, .int (zI ty), .ref m3, .ref m4, .ref m5, .ref m6, .ref m7, .ref m8, .int (zI z1), .int (zI z2), .int (zI z3), .ref m9, .int (zI pm), .int (zI sp), .int (zI wr), .long ha])), (m0, .inl (cI, 74, .inl (zA Z1))), (m3, .inl (cI, 24, .inl (zA P1))), (m4, .inl (cI, 24, .inl (zA R1))), (m5, .inl (cI, 24, .inl (zA U1))), (m6, .inl (cI, 384, .inl (zA G1))), (m7, .inl (cI, 16, .inl (zA b1))), (m8, .inl (cI, 16, .inl (zA c1)))] 0 0 [(0, .ref q5), (1, .int (zI j1)), (2, .int (zI d1)), (3, .int (zI (Z1 (2 + 3 * j1 + 1))))] 104 [] := by
              intro z1 z2 z3 hz hz2
              have hXr : zXr (Z1 0) (Z1 (2 + 3 * j1 + 0)) (Z1 (2 + 3 * j1 + 1)) (Z1 (2 + 3 * j1 + 2)) pg rw un c1 b1 = (z1, z2, z3) := by unfold zXr; rw [← hx, ← hd, hz]
              have hfit : z3 + Z1 (2 + 3 * j1 + 1) ≤ 6 := by have q := zXr_b (sg := Z1 0) (k := Z1 (2 + 3 * j1 + 0)) (t := Z1 (2 + 3 * j1 + 2)) (c := c1) (b := b1) hW hp hr1 hu1; rw [hXr] at q; exact q.2.2.2
              have hL144 : ∀ (u5 : Int), (z1 < 16) → (u5 = zXu d1 (Z1 (2 + 3 * j1 + 1)) (z1, z2, z3)) → (0 ≤ u5 ∧ u5 + Z1 (2 + 3 * j1 + 1) ≤ 6) → zJ p l e rm_X5_pourInRow s m args below meth c Q D A 4 [(q5, .inr (5, [.int (zI th), .ref m0, .ref m1, .int (zI sm), .ref m2, .int (zI ty), .ref m3, .ref m4, .ref m5, .ref m6, .ref m7, .ref m8, .int (zI z1), .int (zI z2), .int (zI u5), .ref m9, .int (zI pm), .int (zI sp), .int (zI wr), .long ha])), (m0, .inl (cI, 74, .inl (zA Z1))), (m3, .inl (cI, 24, .inl (zA P1))), (m4, .inl (cI, 24, .inl (zA R1))), (m5, .inl (cI, 24, .inl (zA U1))), (m6, .inl (cI, 384, .inl (zA G1))), (m7, .inl (cI, 16, .inl (zA b1))), (m8, .inl (cI, 16, .inl (zA c1)))] 0 0 [(0, .ref q5), (1, .int (zI j1)), (2, .int (zI d1)), (3, .int (zI (Z1 (2 + 3 * j1 + 1))))] 144 [] := by
                intro u5 hz6 hu5 hu6
                refine zj_aload_n 145 0 C dX5_pourInRow_144 rfl rfl rfl ?_
                refine zj_iload_n 146 1 C dX5_pourInRow_145 rfl rfl rfl ?_
                refine zj_aload_n 147 0 C dX5_pourInRow_146 rfl rfl rfl ?_
                refine zj_get 150 0 12 C (T := TX5) im_X5_pourInRow_5 fl_X5_pourInRow_47 rfl rfl (by decide) rfl rfl dX5_pourInRow_147 rfl ?_
                refine zj_aload_n 151 0 C dX5_pourInRow_150 rfl rfl rfl ?_
                refine zj_get 154 0 13 C (T := TX5) im_X5_pourInRow_5 fl_X5_pourInRow_50 rfl rfl (by decide) rfl rfl dX5_pourInRow_151 rfl ?_
                refine zj_aload_n 155 0 C dX5_pourInRow_154 rfl rfl rfl ?_
                refine zj_get 158 0 14 C (T := TX5) im_X5_pourInRow_5 fl_X5_pourInRow_53 rfl rfl (by decide) rfl rfl dX5_pourInRow_155 rfl ?_
                refine zj_cv 161 [0, 1, 2, 3, 4, 6] [5, 7] C (wr := [(m6, .inl (cI, 384, .inl (zA G1))), (m8, .inl (cI, 16, .inl (zA c1)))]) (zr_V [0, 1, 2, 3, 4, 6] C (As := [.int (zI j1), .int (zI z1), .int (zI z2), .int (zI u5)]) (rest := []) (c_X5_stand l D cI cS cJ q5 m0 m1 m2 m3 m4 m5 m6 m7 m8 m9 th sm ty z1 z2 u5 pm sp wr ha Z1 P1 R1 U1 b1 j1 z1 z2 u5 (by omega) (by omega)) (cwV 4 C.1.2.2.2.2 gX5_pourInRow_X5_stand rfl rfl rfl (by decide +kernel) ⟨Nat.le_of_ble_eq_true rfl, Nat.le_of_ble_eq_true rfl⟩) rfl (by decide) 0 rfl rfl rfl rfl (Nat.le_of_ble_eq_true rfl) dX5_pourInRow_158 ⟨Nat.le_of_ble_eq_true rfl, Nat.le_of_ble_eq_true rfl⟩) rfl rfl (by decide) (by decide) rfl (fun w_ hp_9 => ?_)
                obtain rfl := hp_9
                refine zj_ws (ws' := [(m6, .inl (cI, 384, .inl (zA G1))), (m8, .inl (cI, 16, .inl (zA c1))), (q5, .inr (5, [.int (zI th), .ref m0, .ref m1, .int (zI sm), .ref m2, .int (zI ty), .ref m3, .ref m4, .ref m5, .ref m6, .ref m7, .ref m8, .int (zI z1), .int (zI z2), .int (zI u5), .ref m9, .int (zI pm), .int (zI sp), .int (zI wr), .long ha])), (m0, .inl (cI, 74, .inl (zA Z1))), (m3, .inl (cI, 24, .inl (zA (zU P1 j1 z1)))), (m4, .inl (cI, 24, .inl (zA (zU R1 j1 z2)))), (m5, .inl (cI, 24, .inl (zA (zU U1 j1 u5)))), (m7, .inl (cI, 16, .inl (zA (zU b1 z1 (b1 z1 + Z1 (2 + 3 * j1 + 2))))))]) rfl ?_
                refine zj_aload_n 162 0 C dX5_pourInRow_161 rfl rfl rfl ?_
                refine zj_iload_n 163 1 C dX5_pourInRow_162 rfl rfl rfl ?_
                refine zj_aload_n 164 0 C dX5_pourInRow_163 rfl rfl rfl ?_
                refine zj_get 167 2 12 C (T := TX5) im_X5_pourInRow_5 fl_X5_pourInRow_47 rfl rfl (by decide) rfl rfl dX5_pourInRow_164 rfl ?_
                refine zj_bipush 169 C dX5_pourInRow_167 rfl rfl ?_
                refine zj_aload_n 170 0 C dX5_pourInRow_169 rfl rfl rfl ?_
                refine zj_get 173 2 13 C (T := TX5) im_X5_pourInRow_5 fl_X5_pourInRow_50 rfl rfl (by decide) rfl rfl dX5_pourInRow_170 rfl ?_
                refine zj_imul 174 C dX5_pourInRow_173 rfl ?_
                refine zj_aload_n 175 0 C dX5_pourInRow_174 rfl rfl rfl ?_
                refine zj_get 178 2 14 C (T := TX5) im_X5_pourInRow_5 fl_X5_pourInRow_53 rfl rfl (by decide) rfl rfl dX5_pourInRow_175 rfl ?_
                refine zj_iadd 179 C dX5_pourInRow_178 rfl ?_
                refine zj_iload_n 180 3 C dX5_pourInRow_179 rfl rfl rfl ?_
                refine zj_cv 183 [2, 0, 1] [3, 4, 5, 6, 7] C (wr := [(m0, .inl (cI, 74, .inl (zA Z1))), (m3, .inl (cI, 24, .inl (zA (zU P1 j1 z1)))), (m4, .inl (cI, 24, .inl (zA (zU R1 j1 z2)))), (m5, .inl (cI, 24, .inl (zA (zU U1 j1 u5)))), (m7, .inl (cI, 16, .inl (zA (zU b1 z1 (b1 z1 + Z1 (2 + 3 * j1 + 2))))))]) (zr_V [2, 0, 1] C (As := [.int (zI j1), .int (zI z1), .int (zI ((6 * z2) + u5)), .int (zI (Z1 (2 + 3 * j1 + 1)))]) (rest := []) (c_X5_mark l D cI cS cJ q5 m0 m1 m2 m3 m4 m5 m6 m7 m8 m9 th sm ty z1 z2 u5 pm sp wr ha c1 G1 j1 z1 ((6 * z2) + u5) (Z1 (2 + 3 * j1 + 1)) (by omega) (by omega)) (cwV 4 C.1.2.2.2.2 gX5_pourInRow_X5_mark rfl rfl rfl (by decide +kernel) ⟨Nat.le_of_ble_eq_true rfl, Nat.le_of_ble_eq_true rfl⟩) rfl (by decide) 0 rfl rfl rfl rfl (Nat.le_of_ble_eq_true rfl) dX5_pourInRow_180 ⟨Nat.le_of_ble_eq_true rfl, Nat.le_of_ble_eq_true rfl⟩) rfl rfl (by decide) (by decide) rfl (fun w_ hp_11 => ?_)
                obtain rfl := hp_11
                refine zj_ws (ws' := [(m0, .inl (cI, 74, .inl (zA Z1))), (m3, .inl (cI, 24, .inl (zA (zU P1 j1 z1)))), (m4, .inl (cI, 24, .inl (zA (zU R1 j1 z2)))), (m5, .inl (cI, 24, .inl (zA (zU U1 j1 u5)))), (m7, .inl (cI, 16, .inl (zA (zU b1 z1 (b1 z1 + Z1 (2 + 3 * j1 + 2)))))), (q5, .inr (5, [.int (zI th), .ref m0, .ref m1, .int (zI sm), .ref m2, .int (zI ty), .ref m3, .ref m4, .ref m5, .ref m6, .ref m7, .ref m8, .int (zI z1), .int (zI z2), .int (zI u5), .ref m9, .int (zI pm), .int (zI sp), .int (zI wr), .long ha])), (m6, .inl (cI, 384, .inl (zA (zMk G1 (24 * z1 + ((6 * z2) + u5)) (Z1 (2 + 3 * j1 + 1)) j1)))), (m8, .inl (cI, 16, .inl (zA (zU c1 z1 (c1 z1 + 1)))))]) rfl ?_
                refine zj_aload_n 184 0 C dX5_pourInRow_183 rfl rfl rfl ?_
                refine zj_dup 185 C dX5_pourInRow_184 rfl rfl ?_
                refine zj_get 188 5 14 C (T := TX5) im_X5_pourInRow_5 fl_X5_pourInRow_53 rfl rfl (by decide) rfl rfl dX5_pourInRow_185 rfl ?_
                refine zj_iload_n 189 3 C dX5_pourInRow_188 rfl rfl rfl ?_
                refine zj_iadd 190 C dX5_pourInRow_189 rfl ?_
                refine zj_put 193 5 14 [(m0, .inl (cI, 74, .inl (zA Z1))), (m3, .inl (cI, 24, .inl (zA (zU P1 j1 z1)))), (m4, .inl (cI, 24, .inl (zA (zU R1 j1 z2)))), (m5, .inl (cI, 24, .inl (zA (zU U1 j1 u5)))), (m7, .inl (cI, 16, .inl (zA (zU b1 z1 (b1 z1 + Z1 (2 + 3 * j1 + 2)))))), (q5, .inr (5, [.int (zI th), .ref m0, .ref m1, .int (zI sm), .ref m2, .int (zI ty), .ref m3, .ref m4, .ref m5, .ref m6, .ref m7, .ref m8, .int (zI z1), .int (zI z2), .int (zI (u5 + (Z1 (2 + 3 * j1 + 1)))), .ref m9, .int (zI pm), .int (zI sp), .int (zI wr), .long ha])), (m6, .inl (cI, 384, .inl (zA (zMk G1 (24 * z1 + ((6 * z2) + u5)) (Z1 (2 + 3 * j1 + 1)) j1)))), (m8, .inl (cI, 16, .inl (zA (zU c1 z1 (c1 z1 + 1)))))] C (T := TX5) tyX5 tyX5_ok nmX5 im_X5_pourInRow_5 fl_X5_pourInRow_53 rfl rfl (by decide) rfl rfl rfl rfl rfl (Nat.le_of_ble_eq_true rfl) rfl dX5_pourInRow_190 rfl ?_
                refine zj_iconst 194 C dX5_pourInRow_193 rfl ?_
                refine zj_re [5, 0, 1, 2, 3, 6, 4, 7] [(q5, .inr (5, [.int (zI th), .ref m0, .ref m1, .int (zI sm), .ref m2, .int (zI ty), .ref m3, .ref m4, .ref m5, .ref m6, .ref m7, .ref m8, .int (zI z1), .int (zI z2), .int (zI (u5 + (Z1 (2 + 3 * j1 + 1)))), .ref m9, .int (zI pm), .int (zI sp), .int (zI wr), .long ha])), (m0, .inl (cI, 74, .inl (zA Z1))), (m3, .inl (cI, 24, .inl (zA (zU P1 j1 z1)))), (m4, .inl (cI, 24, .inl (zA (zU R1 j1 z2)))), (m5, .inl (cI, 24, .inl (zA (zU U1 j1 u5)))), (m6, .inl (cI, 384, .inl (zA (zMk G1 (24 * z1 + ((6 * z2) + u5)) (Z1 (2 + 3 * j1 + 1)) j1)))), (m7, .inl (cI, 16, .inl (zA (zU b1 z1 (b1 z1 + Z1 (2 + 3 * j1 + 2)))))), (m8, .inl (cI, 16, .inl (zA (zU c1 z1 (c1 z1 + 1)))))] (by decide) rfl ?_
                subst hQ
                exact zj_zret C (zI_bool (by omega)) hr ⟨1, z1, z2, (u5 + (Z1 (2 + 3 * j1 + 1))), (zU P1 j1 z1), (zU R1 j1 z2), (zU U1 j1 u5), (zMk G1 (24 * z1 + ((6 * z2) + u5)) (Z1 (2 + 3 * j1 + 1)) j1), (zU b1 z1 (b1 z1 + Z1 (2 + 3 * j1 + 2))), (zU c1 z1 (c1 z1 + 1)), (by
        have e : zPlc (Z1 0) (Z1 (2 + 3 * j1 + 0)) (Z1 (2 + 3 * j1 + 1)) (Z1 (2 + 3 * j1 + 2)) pg rw un c1 b1 = (z1, z2, u5) := by unfold zPlc; rw [if_pos (by omega), hXr, if_pos (by omega), ← hd, ← hu5]
        refine Or.inr ⟨rfl, by rw [e]; exact hz2.1, by rw [e], by rw [e], by rw [e], ?_, ?_⟩
        · unfold zGr
          rw [if_pos (by omega), e]
        · unfold zNxC
          rw [if_pos (by omega), e]), rfl, rfl⟩ (by decide) (by decide) dX5_pourInRow_194
              refine zj_aload_n 105 0 C dX5_pourInRow_104 rfl rfl rfl ?_
              refine zj_get 108 0 12 C (T := TX5) im_X5_pourInRow_5 fl_X5_pourInRow_47 rfl rfl (by decide) rfl rfl dX5_pourInRow_105 rfl ?_
              refine zj_bipush 110 C dX5_pourInRow_108 rfl rfl ?_
              refine zj_icmp_lt 113 115 C (by omega) (by omega) dX5_pourInRow_110 rfl (by decide) (fun h110 => ?_) (fun h110 => ?_)
              · skip
                refine zj_aload_n 116 0 C dX5_pourInRow_115 rfl rfl rfl ?_
                refine zj_iload_n 117 2 C dX5_pourInRow_116 rfl rfl rfl ?_
                refine zj_if_eq 120 137 C (by omega) dX5_pourInRow_117 rfl (by decide) (fun h117 => ?_) (fun h117 => ?_)
                · skip
                  refine zj_aload_n 138 0 C dX5_pourInRow_137 rfl rfl rfl ?_
                  refine zj_get 141 0 14 C (T := TX5) im_X5_pourInRow_5 fl_X5_pourInRow_53 rfl rfl (by decide) rfl rfl dX5_pourInRow_138 rfl ?_
                  refine zj_put 144 0 14 [(q5, .inr (5, [.int (zI th), .ref m0, .ref m1, .int (zI sm), .ref m2, .int (zI ty), .ref m3, .ref m4, .ref m5, .ref m6, .ref m7, .ref m8, .int (zI z1), .int (zI z2), .int (zI z3), .ref m9, .int (zI pm), .int (zI sp), .int (zI wr), .long ha])), (m0, .inl (cI, 74, .inl (zA Z1))), (m3, .inl (cI, 24, .inl (zA P1))), (m4, .inl (cI, 24, .inl (zA R1))), (m5, .inl (cI, 24, .inl (zA U1))), (m6, .inl (cI, 384, .inl (zA G1))), (m7, .inl (cI, 16, .inl (zA b1))), (m8, .inl (cI, 16, .inl (zA c1)))] C (T := TX5) tyX5 tyX5_ok nmX5 im_X5_pourInRow_5 fl_X5_pourInRow_53 rfl rfl (by decide) rfl rfl rfl rfl rfl (Nat.le_of_ble_eq_true rfl) rfl dX5_pourInRow_141 rfl ?_
                  exact hL144 z3 (by omega) (by show _ = (if d1 = 1 ∧ z1 % 2 = 1 then 6 - Z1 (2 + 3 * j1 + 1) else z3); split <;> omega) (by omega)
                · skip
                  refine zj_aload_n 121 0 C dX5_pourInRow_120 rfl rfl rfl ?_
                  refine zj_get 124 0 12 C (T := TX5) im_X5_pourInRow_5 fl_X5_pourInRow_47 rfl rfl (by decide) rfl rfl dX5_pourInRow_121 rfl ?_
                  refine zj_iconst 125 C dX5_pourInRow_124 rfl ?_
                  refine zj_irem2 126 C dX5_pourInRow_125 rfl (by omega) ?_
                  refine zj_iconst 127 C dX5_pourInRow_126 rfl ?_
                  refine zj_icmp_ne 130 137 C (by omega) (by omega) dX5_pourInRow_127 rfl (by decide) (fun h127 => ?_) (fun h127 => ?_)
                  · skip
                    refine zj_aload_n 138 0 C dX5_pourInRow_137 rfl rfl rfl ?_
                    refine zj_get 141 0 14 C (T := TX5) im_X5_pourInRow_5 fl_X5_pourInRow_53 rfl rfl (by decide) rfl rfl dX5_pourInRow_138 rfl ?_
                    refine zj_put 144 0 14 [(q5, .inr (5, [.int (zI th), .ref m0, .ref m1, .int (zI sm), .ref m2, .int (zI ty), .ref m3, .ref m4, .ref m5, .ref m6, .ref m7, .ref m8, .int (zI z1), .int (zI z2), .int (zI z3), .ref m9, .int (zI pm), .int (zI sp), .int (zI wr), .long ha])), (m0, .inl (cI, 74, .inl (zA Z1))), (m3, .inl (cI, 24, .inl (zA P1))), (m4, .inl (cI, 24, .inl (zA R1))), (m5, .inl (cI, 24, .inl (zA U1))), (m6, .inl (cI, 384, .inl (zA G1))), (m7, .inl (cI, 16, .inl (zA b1))), (m8, .inl (cI, 16, .inl (zA c1)))] C (T := TX5) tyX5 tyX5_ok nmX5 im_X5_pourInRow_5 fl_X5_pourInRow_53 rfl rfl (by decide) rfl rfl rfl rfl rfl (Nat.le_of_ble_eq_true rfl) rfl dX5_pourInRow_141 rfl ?_
                    exact hL144 z3 (by omega) (by show _ = (if d1 = 1 ∧ z1 % 2 = 1 then 6 - Z1 (2 + 3 * j1 + 1) else z3); split <;> omega) (by omega)
                  · skip
                    refine zj_bipush 132 C dX5_pourInRow_130 rfl rfl ?_
                    refine zj_iload_n 133 3 C dX5_pourInRow_132 rfl rfl rfl ?_
                    refine zj_isub 134 C dX5_pourInRow_133 rfl ?_
                    refine zj_goto 141 C dX5_pourInRow_134 (by decide) ?_
                    refine zj_put 144 0 14 [(q5, .inr (5, [.int (zI th), .ref m0, .ref m1, .int (zI sm), .ref m2, .int (zI ty), .ref m3, .ref m4, .ref m5, .ref m6, .ref m7, .ref m8, .int (zI z1), .int (zI z2), .int (zI (6 - (Z1 (2 + 3 * j1 + 1)))), .ref m9, .int (zI pm), .int (zI sp), .int (zI wr), .long ha])), (m0, .inl (cI, 74, .inl (zA Z1))), (m3, .inl (cI, 24, .inl (zA P1))), (m4, .inl (cI, 24, .inl (zA R1))), (m5, .inl (cI, 24, .inl (zA U1))), (m6, .inl (cI, 384, .inl (zA G1))), (m7, .inl (cI, 16, .inl (zA b1))), (m8, .inl (cI, 16, .inl (zA c1)))] C (T := TX5) tyX5 tyX5_ok nmX5 im_X5_pourInRow_5 fl_X5_pourInRow_53 rfl rfl (by decide) rfl rfl rfl rfl rfl (Nat.le_of_ble_eq_true rfl) rfl dX5_pourInRow_141 rfl ?_
                    exact hL144 (6 - (Z1 (2 + 3 * j1 + 1))) (by omega) (by show _ = (if d1 = 1 ∧ z1 % 2 = 1 then 6 - Z1 (2 + 3 * j1 + 1) else z3); split <;> omega) (by omega)
              · skip
                refine zj_iconst 114 C dX5_pourInRow_113 rfl ?_
                subst hQ
                exact zj_zret C (zI_bool (by omega)) hr ⟨0, z1, z2, z3, P1, R1, U1, G1, b1, c1, (by exact Or.inl ⟨rfl, by unfold zPlc; rw [if_pos (by omega), hXr, if_neg (by omega)], rfl, rfl, rfl, rfl, rfl, rfl⟩), rfl, rfl⟩ (by decide) (by decide) dX5_pourInRow_114
            refine zj_iload_n 81 2 C dX5_pourInRow_80 rfl rfl rfl ?_
            refine zj_if_eq 84 104 C (by omega) dX5_pourInRow_81 rfl (by decide) (fun h81 => ?_) (fun h81 => ?_)
            · skip
              exact hL104 y1 y2 y3 (by rw [← hy]; show _ = (if d1 = 1 ∧ y1 % 2 = 0 ∧ y3 ≠ 0 then (zRp y1 y2, zRr y2, (0 : Int)) else (y1, y2, y3)); split <;> first | rfl | omega) (by first | omega | (unfold zRp zRr; split <;> omega))
            · skip
              refine zj_aload_n 85 0 C dX5_pourInRow_84 rfl rfl rfl ?_
              refine zj_get 88 0 12 C (T := TX5) im_X5_pourInRow_5 fl_X5_pourInRow_47 rfl rfl (by decide) rfl rfl dX5_pourInRow_85 rfl ?_
              refine zj_iconst 89 C dX5_pourInRow_88 rfl ?_
              refine zj_irem2 90 C dX5_pourInRow_89 rfl (by omega) ?_
              refine zj_if_ne 93 104 C (by omega) dX5_pourInRow_90 rfl (by decide) (fun h90 => ?_) (fun h90 => ?_)
              · skip
                exact hL104 y1 y2 y3 (by rw [← hy]; show _ = (if d1 = 1 ∧ y1 % 2 = 0 ∧ y3 ≠ 0 then (zRp y1 y2, zRr y2, (0 : Int)) else (y1, y2, y3)); split <;> first | rfl | omega) (by first | omega | (unfold zRp zRr; split <;> omega))
              · skip
                refine zj_aload_n 94 0 C dX5_pourInRow_93 rfl rfl rfl ?_
                refine zj_get 97 0 14 C (T := TX5) im_X5_pourInRow_5 fl_X5_pourInRow_53 rfl rfl (by decide) rfl rfl dX5_pourInRow_94 rfl ?_
                refine zj_if_eq 100 104 C (by omega) dX5_pourInRow_97 rfl (by decide) (fun h97 => ?_) (fun h97 => ?_)
                · skip
                  exact hL104 y1 y2 y3 (by rw [← hy]; show _ = (if d1 = 1 ∧ y1 % 2 = 0 ∧ y3 ≠ 0 then (zRp y1 y2, zRr y2, (0 : Int)) else (y1, y2, y3)); split <;> first | rfl | omega) (by first | omega | (unfold zRp zRr; split <;> omega))
                · skip
                  refine zj_aload_n 101 0 C dX5_pourInRow_100 rfl rfl rfl ?_
                  refine zj_cv 104 [0] [1, 2, 3, 4, 5, 6, 7] C (wr := [(m0, .inl (cI, 74, .inl (zA Z1))), (m3, .inl (cI, 24, .inl (zA P1))), (m4, .inl (cI, 24, .inl (zA R1))), (m5, .inl (cI, 24, .inl (zA U1))), (m6, .inl (cI, 384, .inl (zA G1))), (m7, .inl (cI, 16, .inl (zA b1))), (m8, .inl (cI, 16, .inl (zA c1)))]) (zr_V [0] C (As := []) (rest := []) (c_X5_nextRow l D cI cS cJ q5 m0 m1 m2 m3 m4 m5 m6 m7 m8 m9 th sm ty y1 y2 y3 pm sp wr ha (by omega)) (cwV 0 C.1.2.2.2.2 gX5_pourInRow_X5_nextRow rfl rfl rfl (by decide +kernel) ⟨Nat.le_of_ble_eq_true rfl, Nat.le_of_ble_eq_true rfl⟩) rfl (by decide) 0 rfl rfl rfl rfl (Nat.le_of_ble_eq_true rfl) dX5_pourInRow_101 ⟨Nat.le_of_ble_eq_true rfl, Nat.le_of_ble_eq_true rfl⟩) rfl rfl (by decide) (by decide) rfl (fun w_ hp_13 => ?_)
                  obtain rfl := hp_13
                  refine zj_ws (ws' := [(m0, .inl (cI, 74, .inl (zA Z1))), (m3, .inl (cI, 24, .inl (zA P1))), (m4, .inl (cI, 24, .inl (zA R1))), (m5, .inl (cI, 24, .inl (zA U1))), (m6, .inl (cI, 384, .inl (zA G1))), (m7, .inl (cI, 16, .inl (zA b1))), (m8, .inl (cI, 16, .inl (zA c1))), (q5, .inr (5, [.int (zI th), .ref m0, .ref m1, .int (zI sm), .ref m2, .int (zI ty), .ref m3, .ref m4, .ref m5, .ref m6, .ref m7, .ref m8, .int (zI (zRp y1 y2)), .int (zI (zRr y2)), .int (zI 0), .ref m9, .int (zI pm), .int (zI sp), .int (zI wr), .long ha]))]) rfl ?_
                  refine zj_re [7, 0, 1, 2, 3, 4, 5, 6] [(q5, .inr (5, [.int (zI th), .ref m0, .ref m1, .int (zI sm), .ref m2, .int (zI ty), .ref m3, .ref m4, .ref m5, .ref m6, .ref m7, .ref m8, .int (zI (zRp y1 y2)), .int (zI (zRr y2)), .int (zI 0), .ref m9, .int (zI pm), .int (zI sp), .int (zI wr), .long ha])), (m0, .inl (cI, 74, .inl (zA Z1))), (m3, .inl (cI, 24, .inl (zA P1))), (m4, .inl (cI, 24, .inl (zA R1))), (m5, .inl (cI, 24, .inl (zA U1))), (m6, .inl (cI, 384, .inl (zA G1))), (m7, .inl (cI, 16, .inl (zA b1))), (m8, .inl (cI, 16, .inl (zA c1)))] (by decide) rfl ?_
                  exact hL104 (zRp y1 y2) (zRr y2) 0 (by rw [← hy]; show _ = (if d1 = 1 ∧ y1 % 2 = 0 ∧ y3 ≠ 0 then (zRp y1 y2, zRr y2, (0 : Int)) else (y1, y2, y3)); split <;> first | rfl | omega) (by first | omega | (unfold zRp zRr; split <;> omega))
          refine zj_bipush 67 C dX5_pourInRow_65 rfl rfl ?_
          refine zj_aload_n 68 0 C dX5_pourInRow_67 rfl rfl rfl ?_
          refine zj_get 71 0 14 C (T := TX5) im_X5_pourInRow_5 fl_X5_pourInRow_53 rfl rfl (by decide) rfl rfl dX5_pourInRow_68 rfl ?_
          refine zj_isub 72 C dX5_pourInRow_71 rfl ?_
          refine zj_iload_n 73 3 C dX5_pourInRow_72 rfl rfl rfl ?_
          refine zj_icmp_ge 76 80 C (by omega) (by omega) dX5_pourInRow_73 rfl (by decide) (fun h73 => ?_) (fun h73 => ?_)
          · skip
            exact hL80 x1 x2 x3 (by show _ = (if 6 - x3 < Z1 (2 + 3 * j1 + 1) then (zRp x1 x2, zRr x2, (0 : Int)) else (x1, x2, x3)); split <;> first | rfl | omega) (by first | omega | (unfold zRp zRr; split <;> omega))
          · skip
            refine zj_aload_n 77 0 C dX5_pourInRow_76 rfl rfl rfl ?_
            refine zj_cv 80 [0] [1, 2, 3, 4, 5, 6, 7] C (wr := [(m0, .inl (cI, 74, .inl (zA Z1))), (m3, .inl (cI, 24, .inl (zA P1))), (m4, .inl (cI, 24, .inl (zA R1))), (m5, .inl (cI, 24, .inl (zA U1))), (m6, .inl (cI, 384, .inl (zA G1))), (m7, .inl (cI, 16, .inl (zA b1))), (m8, .inl (cI, 16, .inl (zA c1)))]) (zr_V [0] C (As := []) (rest := []) (c_X5_nextRow l D cI cS cJ q5 m0 m1 m2 m3 m4 m5 m6 m7 m8 m9 th sm ty x1 x2 x3 pm sp wr ha (by omega)) (cwV 0 C.1.2.2.2.2 gX5_pourInRow_X5_nextRow rfl rfl rfl (by decide +kernel) ⟨Nat.le_of_ble_eq_true rfl, Nat.le_of_ble_eq_true rfl⟩) rfl (by decide) 0 rfl rfl rfl rfl (Nat.le_of_ble_eq_true rfl) dX5_pourInRow_77 ⟨Nat.le_of_ble_eq_true rfl, Nat.le_of_ble_eq_true rfl⟩) rfl rfl (by decide) (by decide) rfl (fun w_ hp_15 => ?_)
            obtain rfl := hp_15
            refine zj_ws (ws' := [(m0, .inl (cI, 74, .inl (zA Z1))), (m3, .inl (cI, 24, .inl (zA P1))), (m4, .inl (cI, 24, .inl (zA R1))), (m5, .inl (cI, 24, .inl (zA U1))), (m6, .inl (cI, 384, .inl (zA G1))), (m7, .inl (cI, 16, .inl (zA b1))), (m8, .inl (cI, 16, .inl (zA c1))), (q5, .inr (5, [.int (zI th), .ref m0, .ref m1, .int (zI sm), .ref m2, .int (zI ty), .ref m3, .ref m4, .ref m5, .ref m6, .ref m7, .ref m8, .int (zI (zRp x1 x2)), .int (zI (zRr x2)), .int (zI 0), .ref m9, .int (zI pm), .int (zI sp), .int (zI wr), .long ha]))]) rfl ?_
            refine zj_re [7, 0, 1, 2, 3, 4, 5, 6] [(q5, .inr (5, [.int (zI th), .ref m0, .ref m1, .int (zI sm), .ref m2, .int (zI ty), .ref m3, .ref m4, .ref m5, .ref m6, .ref m7, .ref m8, .int (zI (zRp x1 x2)), .int (zI (zRr x2)), .int (zI 0), .ref m9, .int (zI pm), .int (zI sp), .int (zI wr), .long ha])), (m0, .inl (cI, 74, .inl (zA Z1))), (m3, .inl (cI, 24, .inl (zA P1))), (m4, .inl (cI, 24, .inl (zA R1))), (m5, .inl (cI, 24, .inl (zA U1))), (m6, .inl (cI, 384, .inl (zA G1))), (m7, .inl (cI, 16, .inl (zA b1))), (m8, .inl (cI, 16, .inl (zA c1)))] (by decide) rfl ?_
            exact hL80 (zRp x1 x2) (zRr x2) 0 (by show _ = (if 6 - x3 < Z1 (2 + 3 * j1 + 1) then (zRp x1 x2, zRr x2, (0 : Int)) else (x1, x2, x3)); split <;> first | rfl | omega) (by first | omega | (unfold zRp zRr; split <;> omega))
        refine zj_re [6, 5, 0, 1, 2, 3, 4, 7] [(q5, .inr (5, [.int (zI th), .ref m0, .ref m1, .int (zI sm), .ref m2, .int (zI ty), .ref m3, .ref m4, .ref m5, .ref m6, .ref m7, .ref m8, .int (zI pg), .int (zI rw), .int (zI un), .ref m9, .int (zI pm), .int (zI sp), .int (zI wr), .long ha])), (m0, .inl (cI, 74, .inl (zA Z1))), (m3, .inl (cI, 24, .inl (zA P1))), (m4, .inl (cI, 24, .inl (zA R1))), (m5, .inl (cI, 24, .inl (zA U1))), (m6, .inl (cI, 384, .inl (zA G1))), (m7, .inl (cI, 16, .inl (zA b1))), (m8, .inl (cI, 16, .inl (zA c1)))] (by decide) rfl ?_
        refine zj_lv [2, 3, 1, 0] [(0, .ref q5), (1, .int (zI j1)), (2, .int (zI d1)), (3, .int (zI (Z1 (2 + 3 * j1 + 1))))] rfl ?_
        exact hL65 pg rw un (by unfold zGc; split <;> first | rfl | omega) (by omega)
      · skip
        refine zj_aload_n 31 2 C dX5_pourInRow_30 rfl rfl rfl ?_
        refine zj_get 34 6 10 C (T := TX5) im_X5_pourInRow_5 fl_X5_pourInRow_31 rfl rfl (by decide) rfl rfl dX5_pourInRow_31 rfl ?_
        refine zj_aload_n 35 2 C dX5_pourInRow_34 rfl rfl rfl ?_
        refine zj_get 38 6 12 C (T := TX5) im_X5_pourInRow_5 fl_X5_pourInRow_47 rfl rfl (by decide) rfl rfl dX5_pourInRow_35 rfl ?_
        refine zj_iald 39 4 C (by omega) (by omega) rfl rfl dX5_pourInRow_38 rfl ?_
        refine zj_aload_n 40 2 C dX5_pourInRow_39 rfl rfl rfl ?_
        refine zj_iload_n 41 3 C dX5_pourInRow_40 rfl rfl rfl ?_
        refine zj_iconst 42 C dX5_pourInRow_41 rfl ?_
        refine zj_ci 45 [6, 5] [0, 1, 2, 3, 4, 7] C (wr := [(m3, .inl (cI, 24, .inl (zA P1))), (m4, .inl (cI, 24, .inl (zA R1))), (m5, .inl (cI, 24, .inl (zA U1))), (m6, .inl (cI, 384, .inl (zA G1))), (m7, .inl (cI, 16, .inl (zA b1))), (m8, .inl (cI, 16, .inl (zA c1)))]) (zr_V [6, 5] C (As := [.int (zI j1), .int (zI 2)]) (rest := [.int (zI (b1 pg))]) (c_X5_of l D cI cS cJ q5 m0 m1 m2 m3 m4 m5 m6 m7 m8 m9 th sm ty pg rw un pm sp wr ha Z1 j1 2 (by omega) (by omega)) (cwV 2 C.1.2.2.2.2 gX5_pourInRow_X5_of rfl rfl rfl (by decide +kernel) ⟨Nat.le_of_ble_eq_true rfl, Nat.le_of_ble_eq_true rfl⟩) rfl (by decide) 0 rfl rfl rfl rfl (Nat.le_of_ble_eq_true rfl) dX5_pourInRow_42 ⟨Nat.le_of_ble_eq_true rfl, Nat.le_of_ble_eq_true rfl⟩) rfl rfl (by decide) (by decide) rfl (fun r_16 w_ hp_17 => ?_)
        obtain ⟨rfl, rfl⟩ := hp_17
        refine zj_ws (ws' := [(m3, .inl (cI, 24, .inl (zA P1))), (m4, .inl (cI, 24, .inl (zA R1))), (m5, .inl (cI, 24, .inl (zA U1))), (m6, .inl (cI, 384, .inl (zA G1))), (m7, .inl (cI, 16, .inl (zA b1))), (m8, .inl (cI, 16, .inl (zA c1))), (q5, .inr (5, [.int (zI th), .ref m0, .ref m1, .int (zI sm), .ref m2, .int (zI ty), .ref m3, .ref m4, .ref m5, .ref m6, .ref m7, .ref m8, .int (zI pg), .int (zI rw), .int (zI un), .ref m9, .int (zI pm), .int (zI sp), .int (zI wr), .long ha])), (m0, .inl (cI, 74, .inl (zA Z1)))]) rfl ?_
        refine zj_iadd 46 C dX5_pourInRow_45 rfl ?_
        refine zj_aload_n 47 2 C dX5_pourInRow_46 rfl rfl rfl ?_
        refine zj_get 50 6 1 C (T := TX5) im_X5_pourInRow_5 fl_X5_pourInRow_7 rfl rfl (by decide) rfl rfl dX5_pourInRow_47 rfl ?_
        refine zj_iconst 51 C dX5_pourInRow_50 rfl ?_
        refine zj_iald 52 7 C (by omega) (by omega) rfl rfl dX5_pourInRow_51 rfl ?_
        refine zj_icmp_le 55 65 C (by omega) (by omega) dX5_pourInRow_52 rfl (by decide) (fun h52 => ?_) (fun h52 => ?_)
        · skip
          have hL65 : ∀ (x1 : Int) (x2 : Int) (x3 : Int), ((x1, x2, x3) = (if zGc c1 b1 pg (Z1 (2 + 3 * j1 + 2)) (Z1 0) then (pg + 1, 0, 0) else (pg, rw, un))) → (0 ≤ x1 ∧ x1 ≤ 16 ∧ 0 ≤ x2 ∧ x2 ≤ 3 ∧ 0 ≤ x3 ∧ x3 ≤ 6) → zJ p l e rm_X5_pourInRow s m args below meth c Q D A 4 [(q5, .inr (5, [.int (zI th), .ref m0, .ref m1, .int (zI sm), .ref m2, .int (zI ty), .ref m3, .ref m4, .ref m5, .ref m6, .ref m7, .ref m8, .int (zI x1), .int (zI x2), .int (zI x3), .ref m9, .int (zI pm), .int (zI sp), .int (zI wr), .long ha])), (m0, .inl (cI, 74, .inl (zA Z1))), (m3, .inl (cI, 24, .inl (zA P1))), (m4, .inl (cI, 24, .inl (zA R1))), (m5, .inl (cI, 24, .inl (zA U1))), (m6, .inl (cI, 384, .inl (zA G1))), (m7, .inl (cI, 16, .inl (zA b1))), (m8, .inl (cI, 16, .inl (zA c1)))] 0 0 [(0, .ref q5), (1, .int (zI j1)), (2, .int (zI d1)), (3, .int (zI (Z1 (2 + 3 * j1 + 1))))] 65 [] := by
            intro x1 x2 x3 hx hx2
            have hL80 : ∀ (y1 : Int) (y2 : Int) (y3 : Int), ((y1, y2, y3) = zX2 (Z1 (2 + 3 * j1 + 1)) (x1, x2, x3)) → (0 ≤ y1 ∧ y1 ≤ 17 ∧ 0 ≤ y2 ∧ y2 ≤ 3 ∧ 0 ≤ y3 ∧ y3 ≤ 6) → zJ p l e rm_X5_pourInRow s m args below meth c Q D A 4 [(q5, .inr (5, [.int (zI th), .ref m0, .ref m1, .int (zI sm), .ref m2, .int (zI ty), .ref m3, .ref m4, .ref m5, .ref m6, .ref m7, .ref m8, .int (zI y1), .int (zI y2), .int (zI y3), .ref m9, .int (zI pm), .int (zI sp), .int (zI wr), .long ha])), (m0, .inl (cI, 74, .inl (zA Z1))), (m3, .inl (cI, 24, .inl (zA P1))), (m4, .inl (cI, 24, .inl (zA R1))), (m5, .inl (cI, 24, .inl (zA U1))), (m6, .inl (cI, 384, .inl (zA G1))), (m7, .inl (cI, 16, .inl (zA b1))), (m8, .inl (cI, 16, .inl (zA c1)))] 0 0 [(0, .ref q5), (1, .int (zI j1)), (2, .int (zI d1)), (3, .int (zI (Z1 (2 + 3 * j1 + 1))))] 80 [] := by
              intro y1 y2 y3 hy hy2
              have hL104 : ∀ (z1 : Int) (z2 : Int) (z3 : Int), ((z1, z2, z3) = zX3 d1 (zX2 (Z1 (2 + 3 * j1 + 1)) (x1, x2, x3))) → (0 ≤ z1 ∧ z1 ≤ 18 ∧ 0 ≤ z2 ∧ z2 ≤ 3 ∧ 0 ≤ z3 ∧ z3 ≤ 6) → zJ p l e rm_X5_pourInRow s m args below meth c Q D A 4 [(q5, .inr (5, [.int (zI th), .ref m0, .ref m1, .int (zI sm), .ref m2, .int (zI ty), .ref m3, .ref m4, .ref m5, .ref m6, .ref m7, .ref m8, .int (zI z1), .int (zI z2), .int (zI z3), .ref m9, .int (zI pm), .int (zI sp), .int (zI wr), .long ha])), (m0, .inl (cI, 74, .inl (zA Z1))), (m3, .inl (cI, 24, .inl (zA P1))), (m4, .inl (cI, 24, .inl (zA R1))), (m5, .inl (cI, 24, .inl (zA U1))), (m6, .inl (cI, 384, .inl (zA G1))), (m7, .inl (cI, 16, .inl (zA b1))), (m8, .inl (cI, 16, .inl (zA c1)))] 0 0 [(0, .ref q5), (1, .int (zI j1)), (2, .int (zI d1)), (3, .int (zI (Z1 (2 + 3 * j1 + 1))))] 104 [] := by
                intro z1 z2 z3 hz hz2
                have hXr : zXr (Z1 0) (Z1 (2 + 3 * j1 + 0)) (Z1 (2 + 3 * j1 + 1)) (Z1 (2 + 3 * j1 + 2)) pg rw un c1 b1 = (z1, z2, z3) := by unfold zXr; rw [← hx, ← hd, hz]
                have hfit : z3 + Z1 (2 + 3 * j1 + 1) ≤ 6 := by have q := zXr_b (sg := Z1 0) (k := Z1 (2 + 3 * j1 + 0)) (t := Z1 (2 + 3 * j1 + 2)) (c := c1) (b := b1) hW hp hr1 hu1; rw [hXr] at q; exact q.2.2.2
                have hL144 : ∀ (u5 : Int), (z1 < 16) → (u5 = zXu d1 (Z1 (2 + 3 * j1 + 1)) (z1, z2, z3)) → (0 ≤ u5 ∧ u5 + Z1 (2 + 3 * j1 + 1) ≤ 6) → zJ p l e rm_X5_pourInRow s m args below meth c Q D A 4 [(q5, .inr (5, [.int (zI th), .ref m0, .ref m1, .int (zI sm), .ref m2, .int (zI ty), .ref m3, .ref m4, .ref m5, .ref m6, .ref m7, .ref m8, .int (zI z1), .int (zI z2), .int (zI u5), .ref m9, .int (zI pm), .int (zI sp), .int (zI wr), .long ha])), (m0, .inl (cI, 74, .inl (zA Z1))), (m3, .inl (cI, 24, .inl (zA P1))), (m4, .inl (cI, 24, .inl (zA R1))), (m5, .inl (cI, 24, .inl (zA U1))), (m6, .inl (cI, 384, .inl (zA G1))), (m7, .inl (cI, 16, .inl (zA b1))), (m8, .inl (cI, 16, .inl (zA c1)))] 0 0 [(0, .ref q5), (1, .int (zI j1)), (2, .int (zI d1)), (3, .int (zI (Z1 (2 + 3 * j1 + 1))))] 144 [] := by
                  intro u5 hz6 hu5 hu6
                  refine zj_aload_n 145 0 C dX5_pourInRow_144 rfl rfl rfl ?_
                  refine zj_iload_n 146 1 C dX5_pourInRow_145 rfl rfl rfl ?_
                  refine zj_aload_n 147 0 C dX5_pourInRow_146 rfl rfl rfl ?_
                  refine zj_get 150 0 12 C (T := TX5) im_X5_pourInRow_5 fl_X5_pourInRow_47 rfl rfl (by decide) rfl rfl dX5_pourInRow_147 rfl ?_
                  refine zj_aload_n 151 0 C dX5_pourInRow_150 rfl rfl rfl ?_
                  refine zj_get 154 0 13 C (T := TX5) im_X5_pourInRow_5 fl_X5_pourInRow_50 rfl rfl (by decide) rfl rfl dX5_pourInRow_151 rfl ?_
                  refine zj_aload_n 155 0 C dX5_pourInRow_154 rfl rfl rfl ?_
                  refine zj_get 158 0 14 C (T := TX5) im_X5_pourInRow_5 fl_X5_pourInRow_53 rfl rfl (by decide) rfl rfl dX5_pourInRow_155 rfl ?_
                  refine zj_cv 161 [0, 1, 2, 3, 4, 6] [5, 7] C (wr := [(m6, .inl (cI, 384, .inl (zA G1))), (m8, .inl (cI, 16, .inl (zA c1)))]) (zr_V [0, 1, 2, 3, 4, 6] C (As := [.int (zI j1), .int (zI z1), .int (zI z2), .int (zI u5)]) (rest := []) (c_X5_stand l D cI cS cJ q5 m0 m1 m2 m3 m4 m5 m6 m7 m8 m9 th sm ty z1 z2 u5 pm sp wr ha Z1 P1 R1 U1 b1 j1 z1 z2 u5 (by omega) (by omega)) (cwV 4 C.1.2.2.2.2 gX5_pourInRow_X5_stand rfl rfl rfl (by decide +kernel) ⟨Nat.le_of_ble_eq_true rfl, Nat.le_of_ble_eq_true rfl⟩) rfl (by decide) 0 rfl rfl rfl rfl (Nat.le_of_ble_eq_true rfl) dX5_pourInRow_158 ⟨Nat.le_of_ble_eq_true rfl, Nat.le_of_ble_eq_true rfl⟩) rfl rfl (by decide) (by decide) rfl (fun w_ hp_19 => ?_)
                  obtain rfl := hp_19
                  refine zj_ws (ws' := [(m6, .inl (cI, 384, .inl (zA G1))), (m8, .inl (cI, 16, .inl (zA c1))), (q5, .inr (5, [.int (zI th), .ref m0, .ref m1, .int (zI sm), .ref m2, .int (zI ty), .ref m3, .ref m4, .ref m5, .ref m6, .ref m7, .ref m8, .int (zI z1), .int (zI z2), .int (zI u5), .ref m9, .int (zI pm), .int (zI sp), .int (zI wr), .long ha])), (m0, .inl (cI, 74, .inl (zA Z1))), (m3, .inl (cI, 24, .inl (zA (zU P1 j1 z1)))), (m4, .inl (cI, 24, .inl (zA (zU R1 j1 z2)))), (m5, .inl (cI, 24, .inl (zA (zU U1 j1 u5)))), (m7, .inl (cI, 16, .inl (zA (zU b1 z1 (b1 z1 + Z1 (2 + 3 * j1 + 2))))))]) rfl ?_
                  refine zj_aload_n 162 0 C dX5_pourInRow_161 rfl rfl rfl ?_
                  refine zj_iload_n 163 1 C dX5_pourInRow_162 rfl rfl rfl ?_
                  refine zj_aload_n 164 0 C dX5_pourInRow_163 rfl rfl rfl ?_
                  refine zj_get 167 2 12 C (T := TX5) im_X5_pourInRow_5 fl_X5_pourInRow_47 rfl rfl (by decide) rfl rfl dX5_pourInRow_164 rfl ?_
                  refine zj_bipush 169 C dX5_pourInRow_167 rfl rfl ?_
                  refine zj_aload_n 170 0 C dX5_pourInRow_169 rfl rfl rfl ?_
                  refine zj_get 173 2 13 C (T := TX5) im_X5_pourInRow_5 fl_X5_pourInRow_50 rfl rfl (by decide) rfl rfl dX5_pourInRow_170 rfl ?_
                  refine zj_imul 174 C dX5_pourInRow_173 rfl ?_
                  refine zj_aload_n 175 0 C dX5_pourInRow_174 rfl rfl rfl ?_
                  refine zj_get 178 2 14 C (T := TX5) im_X5_pourInRow_5 fl_X5_pourInRow_53 rfl rfl (by decide) rfl rfl dX5_pourInRow_175 rfl ?_
                  refine zj_iadd 179 C dX5_pourInRow_178 rfl ?_
                  refine zj_iload_n 180 3 C dX5_pourInRow_179 rfl rfl rfl ?_
                  refine zj_cv 183 [2, 0, 1] [3, 4, 5, 6, 7] C (wr := [(m0, .inl (cI, 74, .inl (zA Z1))), (m3, .inl (cI, 24, .inl (zA (zU P1 j1 z1)))), (m4, .inl (cI, 24, .inl (zA (zU R1 j1 z2)))), (m5, .inl (cI, 24, .inl (zA (zU U1 j1 u5)))), (m7, .inl (cI, 16, .inl (zA (zU b1 z1 (b1 z1 + Z1 (2 + 3 * j1 + 2))))))]) (zr_V [2, 0, 1] C (As := [.int (zI j1), .int (zI z1), .int (zI ((6 * z2) + u5)), .int (zI (Z1 (2 + 3 * j1 + 1)))]) (rest := []) (c_X5_mark l D cI cS cJ q5 m0 m1 m2 m3 m4 m5 m6 m7 m8 m9 th sm ty z1 z2 u5 pm sp wr ha c1 G1 j1 z1 ((6 * z2) + u5) (Z1 (2 + 3 * j1 + 1)) (by omega) (by omega)) (cwV 4 C.1.2.2.2.2 gX5_pourInRow_X5_mark rfl rfl rfl (by decide +kernel) ⟨Nat.le_of_ble_eq_true rfl, Nat.le_of_ble_eq_true rfl⟩) rfl (by decide) 0 rfl rfl rfl rfl (Nat.le_of_ble_eq_true rfl) dX5_pourInRow_180 ⟨Nat.le_of_ble_eq_true rfl, Nat.le_of_ble_eq_true rfl⟩) rfl rfl (by decide) (by decide) rfl (fun w_ hp_21 => ?_)
                  obtain rfl := hp_21
                  refine zj_ws (ws' := [(m0, .inl (cI, 74, .inl (zA Z1))), (m3, .inl (cI, 24, .inl (zA (zU P1 j1 z1)))), (m4, .inl (cI, 24, .inl (zA (zU R1 j1 z2)))), (m5, .inl (cI, 24, .inl (zA (zU U1 j1 u5)))), (m7, .inl (cI, 16, .inl (zA (zU b1 z1 (b1 z1 + Z1 (2 + 3 * j1 + 2)))))), (q5, .inr (5, [.int (zI th), .ref m0, .ref m1, .int (zI sm), .ref m2, .int (zI ty), .ref m3, .ref m4, .ref m5, .ref m6, .ref m7, .ref m8, .int (zI z1), .int (zI z2), .int (zI u5), .ref m9, .int (zI pm), .int (zI sp), .int (zI wr), .long ha])), (m6, .inl (cI, 384, .inl (zA (zMk G1 (24 * z1 + ((6 * z2) + u5)) (Z1 (2 + 3 * j1 + 1)) j1)))), (m8, .inl (cI, 16, .inl (zA (zU c1 z1 (c1 z1 + 1)))))]) rfl ?_
                  refine zj_aload_n 184 0 C dX5_pourInRow_183 rfl rfl rfl ?_
                  refine zj_dup 185 C dX5_pourInRow_184 rfl rfl ?_
                  refine zj_get 188 5 14 C (T := TX5) im_X5_pourInRow_5 fl_X5_pourInRow_53 rfl rfl (by decide) rfl rfl dX5_pourInRow_185 rfl ?_
                  refine zj_iload_n 189 3 C dX5_pourInRow_188 rfl rfl rfl ?_
                  refine zj_iadd 190 C dX5_pourInRow_189 rfl ?_
                  refine zj_put 193 5 14 [(m0, .inl (cI, 74, .inl (zA Z1))), (m3, .inl (cI, 24, .inl (zA (zU P1 j1 z1)))), (m4, .inl (cI, 24, .inl (zA (zU R1 j1 z2)))), (m5, .inl (cI, 24, .inl (zA (zU U1 j1 u5)))), (m7, .inl (cI, 16, .inl (zA (zU b1 z1 (b1 z1 + Z1 (2 + 3 * j1 + 2)))))), (q5, .inr (5, [.int (zI th), .ref m0, .ref m1, .int (zI sm), .ref m2, .int (zI ty), .ref m3, .ref m4, .ref m5, .ref m6, .ref m7, .ref m8, .int (zI z1), .int (zI z2), .int (zI (u5 + (Z1 (2 + 3 * j1 + 1)))), .ref m9, .int (zI pm), .int (zI sp), .int (zI wr), .long ha])), (m6, .inl (cI, 384, .inl (zA (zMk G1 (24 * z1 + ((6 * z2) + u5)) (Z1 (2 + 3 * j1 + 1)) j1)))), (m8, .inl (cI, 16, .inl (zA (zU c1 z1 (c1 z1 + 1)))))] C (T := TX5) tyX5 tyX5_ok nmX5 im_X5_pourInRow_5 fl_X5_pourInRow_53 rfl rfl (by decide) rfl rfl rfl rfl rfl (Nat.le_of_ble_eq_true rfl) rfl dX5_pourInRow_190 rfl ?_
                  refine zj_iconst 194 C dX5_pourInRow_193 rfl ?_
                  refine zj_re [5, 0, 1, 2, 3, 6, 4, 7] [(q5, .inr (5, [.int (zI th), .ref m0, .ref m1, .int (zI sm), .ref m2, .int (zI ty), .ref m3, .ref m4, .ref m5, .ref m6, .ref m7, .ref m8, .int (zI z1), .int (zI z2), .int (zI (u5 + (Z1 (2 + 3 * j1 + 1)))), .ref m9, .int (zI pm), .int (zI sp), .int (zI wr), .long ha])), (m0, .inl (cI, 74, .inl (zA Z1))), (m3, .inl (cI, 24, .inl (zA (zU P1 j1 z1)))), (m4, .inl (cI, 24, .inl (zA (zU R1 j1 z2)))), (m5, .inl (cI, 24, .inl (zA (zU U1 j1 u5)))), (m6, .inl (cI, 384, .inl (zA (zMk G1 (24 * z1 + ((6 * z2) + u5)) (Z1 (2 + 3 * j1 + 1)) j1)))), (m7, .inl (cI, 16, .inl (zA (zU b1 z1 (b1 z1 + Z1 (2 + 3 * j1 + 2)))))), (m8, .inl (cI, 16, .inl (zA (zU c1 z1 (c1 z1 + 1)))))] (by decide) rfl ?_
                  subst hQ
                  exact zj_zret C (zI_bool (by omega)) hr ⟨1, z1, z2, (u5 + (Z1 (2 + 3 * j1 + 1))), (zU P1 j1 z1), (zU R1 j1 z2), (zU U1 j1 u5), (zMk G1 (24 * z1 + ((6 * z2) + u5)) (Z1 (2 + 3 * j1 + 1)) j1), (zU b1 z1 (b1 z1 + Z1 (2 + 3 * j1 + 2))), (zU c1 z1 (c1 z1 + 1)), (by
        have e : zPlc (Z1 0) (Z1 (2 + 3 * j1 + 0)) (Z1 (2 + 3 * j1 + 1)) (Z1 (2 + 3 * j1 + 2)) pg rw un c1 b1 = (z1, z2, u5) := by unfold zPlc; rw [if_pos (by omega), hXr, if_pos (by omega), ← hd, ← hu5]
        refine Or.inr ⟨rfl, by rw [e]; exact hz2.1, by rw [e], by rw [e], by rw [e], ?_, ?_⟩
        · unfold zGr
          rw [if_pos (by omega), e]
        · unfold zNxC
          rw [if_pos (by omega), e]), rfl, rfl⟩ (by decide) (by decide) dX5_pourInRow_194
                refine zj_aload_n 105 0 C dX5_pourInRow_104 rfl rfl rfl ?_
                refine zj_get 108 0 12 C (T := TX5) im_X5_pourInRow_5 fl_X5_pourInRow_47 rfl rfl (by decide) rfl rfl dX5_pourInRow_105 rfl ?_
                refine zj_bipush 110 C dX5_pourInRow_108 rfl rfl ?_
                refine zj_icmp_lt 113 115 C (by omega) (by omega) dX5_pourInRow_110 rfl (by decide) (fun h110 => ?_) (fun h110 => ?_)
                · skip
                  refine zj_aload_n 116 0 C dX5_pourInRow_115 rfl rfl rfl ?_
                  refine zj_iload_n 117 2 C dX5_pourInRow_116 rfl rfl rfl ?_
                  refine zj_if_eq 120 137 C (by omega) dX5_pourInRow_117 rfl (by decide) (fun h117 => ?_) (fun h117 => ?_)
                  · skip
                    refine zj_aload_n 138 0 C dX5_pourInRow_137 rfl rfl rfl ?_
                    refine zj_get 141 0 14 C (T := TX5) im_X5_pourInRow_5 fl_X5_pourInRow_53 rfl rfl (by decide) rfl rfl dX5_pourInRow_138 rfl ?_
                    refine zj_put 144 0 14 [(q5, .inr (5, [.int (zI th), .ref m0, .ref m1, .int (zI sm), .ref m2, .int (zI ty), .ref m3, .ref m4, .ref m5, .ref m6, .ref m7, .ref m8, .int (zI z1), .int (zI z2), .int (zI z3), .ref m9, .int (zI pm), .int (zI sp), .int (zI wr), .long ha])), (m0, .inl (cI, 74, .inl (zA Z1))), (m3, .inl (cI, 24, .inl (zA P1))), (m4, .inl (cI, 24, .inl (zA R1))), (m5, .inl (cI, 24, .inl (zA U1))), (m6, .inl (cI, 384, .inl (zA G1))), (m7, .inl (cI, 16, .inl (zA b1))), (m8, .inl (cI, 16, .inl (zA c1)))] C (T := TX5) tyX5 tyX5_ok nmX5 im_X5_pourInRow_5 fl_X5_pourInRow_53 rfl rfl (by decide) rfl rfl rfl rfl rfl (Nat.le_of_ble_eq_true rfl) rfl dX5_pourInRow_141 rfl ?_
                    exact hL144 z3 (by omega) (by show _ = (if d1 = 1 ∧ z1 % 2 = 1 then 6 - Z1 (2 + 3 * j1 + 1) else z3); split <;> omega) (by omega)
                  · skip
                    refine zj_aload_n 121 0 C dX5_pourInRow_120 rfl rfl rfl ?_
                    refine zj_get 124 0 12 C (T := TX5) im_X5_pourInRow_5 fl_X5_pourInRow_47 rfl rfl (by decide) rfl rfl dX5_pourInRow_121 rfl ?_
                    refine zj_iconst 125 C dX5_pourInRow_124 rfl ?_
                    refine zj_irem2 126 C dX5_pourInRow_125 rfl (by omega) ?_
                    refine zj_iconst 127 C dX5_pourInRow_126 rfl ?_
                    refine zj_icmp_ne 130 137 C (by omega) (by omega) dX5_pourInRow_127 rfl (by decide) (fun h127 => ?_) (fun h127 => ?_)
                    · skip
                      refine zj_aload_n 138 0 C dX5_pourInRow_137 rfl rfl rfl ?_
                      refine zj_get 141 0 14 C (T := TX5) im_X5_pourInRow_5 fl_X5_pourInRow_53 rfl rfl (by decide) rfl rfl dX5_pourInRow_138 rfl ?_
                      refine zj_put 144 0 14 [(q5, .inr (5, [.int (zI th), .ref m0, .ref m1, .int (zI sm), .ref m2, .int (zI ty), .ref m3, .ref m4, .ref m5, .ref m6, .ref m7, .ref m8, .int (zI z1), .int (zI z2), .int (zI z3), .ref m9, .int (zI pm), .int (zI sp), .int (zI wr), .long ha])), (m0, .inl (cI, 74, .inl (zA Z1))), (m3, .inl (cI, 24, .inl (zA P1))), (m4, .inl (cI, 24, .inl (zA R1))), (m5, .inl (cI, 24, .inl (zA U1))), (m6, .inl (cI, 384, .inl (zA G1))), (m7, .inl (cI, 16, .inl (zA b1))), (m8, .inl (cI, 16, .inl (zA c1)))] C (T := TX5) tyX5 tyX5_ok nmX5 im_X5_pourInRow_5 fl_X5_pourInRow_53 rfl rfl (by decide) rfl rfl rfl rfl rfl (Nat.le_of_ble_eq_true rfl) rfl dX5_pourInRow_141 rfl ?_
                      exact hL144 z3 (by omega) (by show _ = (if d1 = 1 ∧ z1 % 2 = 1 then 6 - Z1 (2 + 3 * j1 + 1) else z3); split <;> omega) (by omega)
                    · skip
                      refine zj_bipush 132 C dX5_pourInRow_130 rfl rfl ?_
                      refine zj_iload_n 133 3 C dX5_pourInRow_132 rfl rfl rfl ?_
                      refine zj_isub 134 C dX5_pourInRow_133 rfl ?_
                      refine zj_goto 141 C dX5_pourInRow_134 (by decide) ?_
                      refine zj_put 144 0 14 [(q5, .inr (5, [.int (zI th), .ref m0, .ref m1, .int (zI sm), .ref m2, .int (zI ty), .ref m3, .ref m4, .ref m5, .ref m6, .ref m7, .ref m8, .int (zI z1), .int (zI z2), .int (zI (6 - (Z1 (2 + 3 * j1 + 1)))), .ref m9, .int (zI pm), .int (zI sp), .int (zI wr), .long ha])), (m0, .inl (cI, 74, .inl (zA Z1))), (m3, .inl (cI, 24, .inl (zA P1))), (m4, .inl (cI, 24, .inl (zA R1))), (m5, .inl (cI, 24, .inl (zA U1))), (m6, .inl (cI, 384, .inl (zA G1))), (m7, .inl (cI, 16, .inl (zA b1))), (m8, .inl (cI, 16, .inl (zA c1)))] C (T := TX5) tyX5 tyX5_ok nmX5 im_X5_pourInRow_5 fl_X5_pourInRow_53 rfl rfl (by decide) rfl rfl rfl rfl rfl (Nat.le_of_ble_eq_true rfl) rfl dX5_pourInRow_141 rfl ?_
                      exact hL144 (6 - (Z1 (2 + 3 * j1 + 1))) (by omega) (by show _ = (if d1 = 1 ∧ z1 % 2 = 1 then 6 - Z1 (2 + 3 * j1 + 1) else z3); split <;> omega) (by omega)
                · skip
                  refine zj_iconst 114 C dX5_pourInRow_113 rfl ?_
                  subst hQ
                  exact zj_zret C (zI_bool (by omega)) hr ⟨0, z1, z2, z3, P1, R1, U1, G1, b1, c1, (by exact Or.inl ⟨rfl, by unfold zPlc; rw [if_pos (by omega), hXr, if_neg (by omega)], rfl, rfl, rfl, rfl, rfl, rfl⟩), rfl, rfl⟩ (by decide) (by decide) dX5_pourInRow_114
              refine zj_iload_n 81 2 C dX5_pourInRow_80 rfl rfl rfl ?_
              refine zj_if_eq 84 104 C (by omega) dX5_pourInRow_81 rfl (by decide) (fun h81 => ?_) (fun h81 => ?_)
              · skip
                exact hL104 y1 y2 y3 (by rw [← hy]; show _ = (if d1 = 1 ∧ y1 % 2 = 0 ∧ y3 ≠ 0 then (zRp y1 y2, zRr y2, (0 : Int)) else (y1, y2, y3)); split <;> first | rfl | omega) (by first | omega | (unfold zRp zRr; split <;> omega))
              · skip
                refine zj_aload_n 85 0 C dX5_pourInRow_84 rfl rfl rfl ?_
                refine zj_get 88 0 12 C (T := TX5) im_X5_pourInRow_5 fl_X5_pourInRow_47 rfl rfl (by decide) rfl rfl dX5_pourInRow_85 rfl ?_
                refine zj_iconst 89 C dX5_pourInRow_88 rfl ?_
                refine zj_irem2 90 C dX5_pourInRow_89 rfl (by omega) ?_
                refine zj_if_ne 93 104 C (by omega) dX5_pourInRow_90 rfl (by decide) (fun h90 => ?_) (fun h90 => ?_)
                · skip
                  exact hL104 y1 y2 y3 (by rw [← hy]; show _ = (if d1 = 1 ∧ y1 % 2 = 0 ∧ y3 ≠ 0 then (zRp y1 y2, zRr y2, (0 : Int)) else (y1, y2, y3)); split <;> first | rfl | omega) (by first | omega | (unfold zRp zRr; split <;> omega))
                · skip
                  refine zj_aload_n 94 0 C dX5_pourInRow_93 rfl rfl rfl ?_
                  refine zj_get 97 0 14 C (T := TX5) im_X5_pourInRow_5 fl_X5_pourInRow_53 rfl rfl (by decide) rfl rfl dX5_pourInRow_94 rfl ?_
                  refine zj_if_eq 100 104 C (by omega) dX5_pourInRow_97 rfl (by decide) (fun h97 => ?_) (fun h97 => ?_)
                  · skip
                    exact hL104 y1 y2 y3 (by rw [← hy]; show _ = (if d1 = 1 ∧ y1 % 2 = 0 ∧ y3 ≠ 0 then (zRp y1 y2, zRr y2, (0 : Int)) else (y1, y2, y3)); split <;> first | rfl | omega) (by first | omega | (unfold zRp zRr; split <;> omega))
                  · skip
                    refine zj_aload_n 101 0 C dX5_pourInRow_100 rfl rfl rfl ?_
                    refine zj_cv 104 [0] [1, 2, 3, 4, 5, 6, 7] C (wr := [(m0, .inl (cI, 74, .inl (zA Z1))), (m3, .inl (cI, 24, .inl (zA P1))), (m4, .inl (cI, 24, .inl (zA R1))), (m5, .inl (cI, 24, .inl (zA U1))), (m6, .inl (cI, 384, .inl (zA G1))), (m7, .inl (cI, 16, .inl (zA b1))), (m8, .inl (cI, 16, .inl (zA c1)))]) (zr_V [0] C (As := []) (rest := []) (c_X5_nextRow l D cI cS cJ q5 m0 m1 m2 m3 m4 m5 m6 m7 m8 m9 th sm ty y1 y2 y3 pm sp wr ha (by omega)) (cwV 0 C.1.2.2.2.2 gX5_pourInRow_X5_nextRow rfl rfl rfl (by decide +kernel) ⟨Nat.le_of_ble_eq_true rfl, Nat.le_of_ble_eq_true rfl⟩) rfl (by decide) 0 rfl rfl rfl rfl (Nat.le_of_ble_eq_true rfl) dX5_pourInRow_101 ⟨Nat.le_of_ble_eq_true rfl, Nat.le_of_ble_eq_true rfl⟩) rfl rfl (by decide) (by decide) rfl (fun w_ hp_23 => ?_)
                    obtain rfl := hp_23
                    refine zj_ws (ws' := [(m0, .inl (cI, 74, .inl (zA Z1))), (m3, .inl (cI, 24, .inl (zA P1))), (m4, .inl (cI, 24, .inl (zA R1))), (m5, .inl (cI, 24, .inl (zA U1))), (m6, .inl (cI, 384, .inl (zA G1))), (m7, .inl (cI, 16, .inl (zA b1))), (m8, .inl (cI, 16, .inl (zA c1))), (q5, .inr (5, [.int (zI th), .ref m0, .ref m1, .int (zI sm), .ref m2, .int (zI ty), .ref m3, .ref m4, .ref m5, .ref m6, .ref m7, .ref m8, .int (zI (zRp y1 y2)), .int (zI (zRr y2)), .int (zI 0), .ref m9, .int (zI pm), .int (zI sp), .int (zI wr), .long ha]))]) rfl ?_
                    refine zj_re [7, 0, 1, 2, 3, 4, 5, 6] [(q5, .inr (5, [.int (zI th), .ref m0, .ref m1, .int (zI sm), .ref m2, .int (zI ty), .ref m3, .ref m4, .ref m5, .ref m6, .ref m7, .ref m8, .int (zI (zRp y1 y2)), .int (zI (zRr y2)), .int (zI 0), .ref m9, .int (zI pm), .int (zI sp), .int (zI wr), .long ha])), (m0, .inl (cI, 74, .inl (zA Z1))), (m3, .inl (cI, 24, .inl (zA P1))), (m4, .inl (cI, 24, .inl (zA R1))), (m5, .inl (cI, 24, .inl (zA U1))), (m6, .inl (cI, 384, .inl (zA G1))), (m7, .inl (cI, 16, .inl (zA b1))), (m8, .inl (cI, 16, .inl (zA c1)))] (by decide) rfl ?_
                    exact hL104 (zRp y1 y2) (zRr y2) 0 (by rw [← hy]; show _ = (if d1 = 1 ∧ y1 % 2 = 0 ∧ y3 ≠ 0 then (zRp y1 y2, zRr y2, (0 : Int)) else (y1, y2, y3)); split <;> first | rfl | omega) (by first | omega | (unfold zRp zRr; split <;> omega))
            refine zj_bipush 67 C dX5_pourInRow_65 rfl rfl ?_
            refine zj_aload_n 68 0 C dX5_pourInRow_67 rfl rfl rfl ?_
            refine zj_get 71 0 14 C (T := TX5) im_X5_pourInRow_5 fl_X5_pourInRow_53 rfl rfl (by decide) rfl rfl dX5_pourInRow_68 rfl ?_
            refine zj_isub 72 C dX5_pourInRow_71 rfl ?_
            refine zj_iload_n 73 3 C dX5_pourInRow_72 rfl rfl rfl ?_
            refine zj_icmp_ge 76 80 C (by omega) (by omega) dX5_pourInRow_73 rfl (by decide) (fun h73 => ?_) (fun h73 => ?_)
            · skip
              exact hL80 x1 x2 x3 (by show _ = (if 6 - x3 < Z1 (2 + 3 * j1 + 1) then (zRp x1 x2, zRr x2, (0 : Int)) else (x1, x2, x3)); split <;> first | rfl | omega) (by first | omega | (unfold zRp zRr; split <;> omega))
            · skip
              refine zj_aload_n 77 0 C dX5_pourInRow_76 rfl rfl rfl ?_
              refine zj_cv 80 [0] [1, 2, 3, 4, 5, 6, 7] C (wr := [(m0, .inl (cI, 74, .inl (zA Z1))), (m3, .inl (cI, 24, .inl (zA P1))), (m4, .inl (cI, 24, .inl (zA R1))), (m5, .inl (cI, 24, .inl (zA U1))), (m6, .inl (cI, 384, .inl (zA G1))), (m7, .inl (cI, 16, .inl (zA b1))), (m8, .inl (cI, 16, .inl (zA c1)))]) (zr_V [0] C (As := []) (rest := []) (c_X5_nextRow l D cI cS cJ q5 m0 m1 m2 m3 m4 m5 m6 m7 m8 m9 th sm ty x1 x2 x3 pm sp wr ha (by omega)) (cwV 0 C.1.2.2.2.2 gX5_pourInRow_X5_nextRow rfl rfl rfl (by decide +kernel) ⟨Nat.le_of_ble_eq_true rfl, Nat.le_of_ble_eq_true rfl⟩) rfl (by decide) 0 rfl rfl rfl rfl (Nat.le_of_ble_eq_true rfl) dX5_pourInRow_77 ⟨Nat.le_of_ble_eq_true rfl, Nat.le_of_ble_eq_true rfl⟩) rfl rfl (by decide) (by decide) rfl (fun w_ hp_25 => ?_)
              obtain rfl := hp_25
              refine zj_ws (ws' := [(m0, .inl (cI, 74, .inl (zA Z1))), (m3, .inl (cI, 24, .inl (zA P1))), (m4, .inl (cI, 24, .inl (zA R1))), (m5, .inl (cI, 24, .inl (zA U1))), (m6, .inl (cI, 384, .inl (zA G1))), (m7, .inl (cI, 16, .inl (zA b1))), (m8, .inl (cI, 16, .inl (zA c1))), (q5, .inr (5, [.int (zI th), .ref m0, .ref m1, .int (zI sm), .ref m2, .int (zI ty), .ref m3, .ref m4, .ref m5, .ref m6, .ref m7, .ref m8, .int (zI (zRp x1 x2)), .int (zI (zRr x2)), .int (zI 0), .ref m9, .int (zI pm), .int (zI sp), .int (zI wr), .long ha]))]) rfl ?_
              refine zj_re [7, 0, 1, 2, 3, 4, 5, 6] [(q5, .inr (5, [.int (zI th), .ref m0, .ref m1, .int (zI sm), .ref m2, .int (zI ty), .ref m3, .ref m4, .ref m5, .ref m6, .ref m7, .ref m8, .int (zI (zRp x1 x2)), .int (zI (zRr x2)), .int (zI 0), .ref m9, .int (zI pm), .int (zI sp), .int (zI wr), .long ha])), (m0, .inl (cI, 74, .inl (zA Z1))), (m3, .inl (cI, 24, .inl (zA P1))), (m4, .inl (cI, 24, .inl (zA R1))), (m5, .inl (cI, 24, .inl (zA U1))), (m6, .inl (cI, 384, .inl (zA G1))), (m7, .inl (cI, 16, .inl (zA b1))), (m8, .inl (cI, 16, .inl (zA c1)))] (by decide) rfl ?_
              exact hL80 (zRp x1 x2) (zRr x2) 0 (by show _ = (if 6 - x3 < Z1 (2 + 3 * j1 + 1) then (zRp x1 x2, zRr x2, (0 : Int)) else (x1, x2, x3)); split <;> first | rfl | omega) (by first | omega | (unfold zRp zRr; split <;> omega))
          refine zj_re [6, 7, 0, 1, 2, 3, 4, 5] [(q5, .inr (5, [.int (zI th), .ref m0, .ref m1, .int (zI sm), .ref m2, .int (zI ty), .ref m3, .ref m4, .ref m5, .ref m6, .ref m7, .ref m8, .int (zI pg), .int (zI rw), .int (zI un), .ref m9, .int (zI pm), .int (zI sp), .int (zI wr), .long ha])), (m0, .inl (cI, 74, .inl (zA Z1))), (m3, .inl (cI, 24, .inl (zA P1))), (m4, .inl (cI, 24, .inl (zA R1))), (m5, .inl (cI, 24, .inl (zA U1))), (m6, .inl (cI, 384, .inl (zA G1))), (m7, .inl (cI, 16, .inl (zA b1))), (m8, .inl (cI, 16, .inl (zA c1)))] (by decide) rfl ?_
          refine zj_lv [2, 3, 1, 0] [(0, .ref q5), (1, .int (zI j1)), (2, .int (zI d1)), (3, .int (zI (Z1 (2 + 3 * j1 + 1))))] rfl ?_
          exact hL65 pg rw un (by unfold zGc; split <;> first | rfl | omega) (by omega)
        · skip
          refine zj_aload_n 56 2 C dX5_pourInRow_55 rfl rfl rfl ?_
          refine zj_aload_n 57 2 C dX5_pourInRow_56 rfl rfl rfl ?_
          refine zj_get 60 6 12 C (T := TX5) im_X5_pourInRow_5 fl_X5_pourInRow_47 rfl rfl (by decide) rfl rfl dX5_pourInRow_57 rfl ?_
          refine zj_iconst 61 C dX5_pourInRow_60 rfl ?_
          refine zj_iadd 62 C dX5_pourInRow_61 rfl ?_
          refine zj_cv 65 [6] [0, 1, 2, 3, 4, 5, 7] C (wr := [(m3, .inl (cI, 24, .inl (zA P1))), (m4, .inl (cI, 24, .inl (zA R1))), (m5, .inl (cI, 24, .inl (zA U1))), (m6, .inl (cI, 384, .inl (zA G1))), (m7, .inl (cI, 16, .inl (zA b1))), (m8, .inl (cI, 16, .inl (zA c1))), (m0, .inl (cI, 74, .inl (zA Z1)))]) (zr_V [6] C (As := [.int (zI (pg + 1))]) (rest := []) (c_X5_nextPage l D cI cS cJ q5 m0 m1 m2 m3 m4 m5 m6 m7 m8 m9 th sm ty pg rw un pm sp wr ha (pg + 1)) (cwV 1 C.1.2.2.2.2 gX5_pourInRow_X5_nextPage rfl rfl rfl (by decide +kernel) ⟨Nat.le_of_ble_eq_true rfl, Nat.le_of_ble_eq_true rfl⟩) rfl (by decide) 0 rfl rfl rfl rfl (Nat.le_of_ble_eq_true rfl) dX5_pourInRow_62 ⟨Nat.le_of_ble_eq_true rfl, Nat.le_of_ble_eq_true rfl⟩) rfl rfl (by decide) (by decide) rfl (fun w_ hp_27 => ?_)
          obtain rfl := hp_27
          refine zj_ws (ws' := [(m3, .inl (cI, 24, .inl (zA P1))), (m4, .inl (cI, 24, .inl (zA R1))), (m5, .inl (cI, 24, .inl (zA U1))), (m6, .inl (cI, 384, .inl (zA G1))), (m7, .inl (cI, 16, .inl (zA b1))), (m8, .inl (cI, 16, .inl (zA c1))), (m0, .inl (cI, 74, .inl (zA Z1))), (q5, .inr (5, [.int (zI th), .ref m0, .ref m1, .int (zI sm), .ref m2, .int (zI ty), .ref m3, .ref m4, .ref m5, .ref m6, .ref m7, .ref m8, .int (zI (pg + 1)), .int (zI 0), .int (zI 0), .ref m9, .int (zI pm), .int (zI sp), .int (zI wr), .long ha]))]) rfl ?_
          have hL65 : ∀ (x1 : Int) (x2 : Int) (x3 : Int), ((x1, x2, x3) = (if zGc c1 b1 pg (Z1 (2 + 3 * j1 + 2)) (Z1 0) then (pg + 1, 0, 0) else (pg, rw, un))) → (0 ≤ x1 ∧ x1 ≤ 16 ∧ 0 ≤ x2 ∧ x2 ≤ 3 ∧ 0 ≤ x3 ∧ x3 ≤ 6) → zJ p l e rm_X5_pourInRow s m args below meth c Q D A 4 [(q5, .inr (5, [.int (zI th), .ref m0, .ref m1, .int (zI sm), .ref m2, .int (zI ty), .ref m3, .ref m4, .ref m5, .ref m6, .ref m7, .ref m8, .int (zI x1), .int (zI x2), .int (zI x3), .ref m9, .int (zI pm), .int (zI sp), .int (zI wr), .long ha])), (m0, .inl (cI, 74, .inl (zA Z1))), (m3, .inl (cI, 24, .inl (zA P1))), (m4, .inl (cI, 24, .inl (zA R1))), (m5, .inl (cI, 24, .inl (zA U1))), (m6, .inl (cI, 384, .inl (zA G1))), (m7, .inl (cI, 16, .inl (zA b1))), (m8, .inl (cI, 16, .inl (zA c1)))] 0 0 [(0, .ref q5), (1, .int (zI j1)), (2, .int (zI d1)), (3, .int (zI (Z1 (2 + 3 * j1 + 1))))] 65 [] := by
            intro x1 x2 x3 hx hx2
            have hL80 : ∀ (y1 : Int) (y2 : Int) (y3 : Int), ((y1, y2, y3) = zX2 (Z1 (2 + 3 * j1 + 1)) (x1, x2, x3)) → (0 ≤ y1 ∧ y1 ≤ 17 ∧ 0 ≤ y2 ∧ y2 ≤ 3 ∧ 0 ≤ y3 ∧ y3 ≤ 6) → zJ p l e rm_X5_pourInRow s m args below meth c Q D A 4 [(q5, .inr (5, [.int (zI th), .ref m0, .ref m1, .int (zI sm), .ref m2, .int (zI ty), .ref m3, .ref m4, .ref m5, .ref m6, .ref m7, .ref m8, .int (zI y1), .int (zI y2), .int (zI y3), .ref m9, .int (zI pm), .int (zI sp), .int (zI wr), .long ha])), (m0, .inl (cI, 74, .inl (zA Z1))), (m3, .inl (cI, 24, .inl (zA P1))), (m4, .inl (cI, 24, .inl (zA R1))), (m5, .inl (cI, 24, .inl (zA U1))), (m6, .inl (cI, 384, .inl (zA G1))), (m7, .inl (cI, 16, .inl (zA b1))), (m8, .inl (cI, 16, .inl (zA c1)))] 0 0 [(0, .ref q5), (1, .int (zI j1)), (2, .int (zI d1)), (3, .int (zI (Z1 (2 + 3 * j1 + 1))))] 80 [] := by
              intro y1 y2 y3 hy hy2
              have hL104 : ∀ (z1 : Int) (z2 : Int) (z3 : Int), ((z1, z2, z3) = zX3 d1 (zX2 (Z1 (2 + 3 * j1 + 1)) (x1, x2, x3))) → (0 ≤ z1 ∧ z1 ≤ 18 ∧ 0 ≤ z2 ∧ z2 ≤ 3 ∧ 0 ≤ z3 ∧ z3 ≤ 6) → zJ p l e rm_X5_pourInRow s m args below meth c Q D A 4 [(q5, .inr (5, [.int (zI th), .ref m0, .ref m1, .int (zI sm), .ref m2, .int (zI ty), .ref m3, .ref m4, .ref m5, .ref m6, .ref m7, .ref m8, .int (zI z1), .int (zI z2), .int (zI z3), .ref m9, .int (zI pm), .int (zI sp), .int (zI wr), .long ha])), (m0, .inl (cI, 74, .inl (zA Z1))), (m3, .inl (cI, 24, .inl (zA P1))), (m4, .inl (cI, 24, .inl (zA R1))), (m5, .inl (cI, 24, .inl (zA U1))), (m6, .inl (cI, 384, .inl (zA G1))), (m7, .inl (cI, 16, .inl (zA b1))), (m8, .inl (cI, 16, .inl (zA c1)))] 0 0 [(0, .ref q5), (1, .int (zI j1)), (2, .int (zI d1)), (3, .int (zI (Z1 (2 + 3 * j1 + 1))))] 104 [] := by
                intro z1 z2 z3 hz hz2
                have hXr : zXr (Z1 0) (Z1 (2 + 3 * j1 + 0)) (Z1 (2 + 3 * j1 + 1)) (Z1 (2 + 3 * j1 + 2)) pg rw un c1 b1 = (z1, z2, z3) := by unfold zXr; rw [← hx, ← hd, hz]
                have hfit : z3 + Z1 (2 + 3 * j1 + 1) ≤ 6 := by have q := zXr_b (sg := Z1 0) (k := Z1 (2 + 3 * j1 + 0)) (t := Z1 (2 + 3 * j1 + 2)) (c := c1) (b := b1) hW hp hr1 hu1; rw [hXr] at q; exact q.2.2.2
                have hL144 : ∀ (u5 : Int), (z1 < 16) → (u5 = zXu d1 (Z1 (2 + 3 * j1 + 1)) (z1, z2, z3)) → (0 ≤ u5 ∧ u5 + Z1 (2 + 3 * j1 + 1) ≤ 6) → zJ p l e rm_X5_pourInRow s m args below meth c Q D A 4 [(q5, .inr (5, [.int (zI th), .ref m0, .ref m1, .int (zI sm), .ref m2, .int (zI ty), .ref m3, .ref m4, .ref m5, .ref m6, .ref m7, .ref m8, .int (zI z1), .int (zI z2), .int (zI u5), .ref m9, .int (zI pm), .int (zI sp), .int (zI wr), .long ha])), (m0, .inl (cI, 74, .inl (zA Z1))), (m3, .inl (cI, 24, .inl (zA P1))), (m4, .inl (cI, 24, .inl (zA R1))), (m5, .inl (cI, 24, .inl (zA U1))), (m6, .inl (cI, 384, .inl (zA G1))), (m7, .inl (cI, 16, .inl (zA b1))), (m8, .inl (cI, 16, .inl (zA c1)))] 0 0 [(0, .ref q5), (1, .int (zI j1)), (2, .int (zI d1)), (3, .int (zI (Z1 (2 + 3 * j1 + 1))))] 144 [] := by
                  intro u5 hz6 hu5 hu6
                  refine zj_aload_n 145 0 C dX5_pourInRow_144 rfl rfl rfl ?_
                  refine zj_iload_n 146 1 C dX5_pourInRow_145 rfl rfl rfl ?_
                  refine zj_aload_n 147 0 C dX5_pourInRow_146 rfl rfl rfl ?_
                  refine zj_get 150 0 12 C (T := TX5) im_X5_pourInRow_5 fl_X5_pourInRow_47 rfl rfl (by decide) rfl rfl dX5_pourInRow_147 rfl ?_
                  refine zj_aload_n 151 0 C dX5_pourInRow_150 rfl rfl rfl ?_
                  refine zj_get 154 0 13 C (T := TX5) im_X5_pourInRow_5 fl_X5_pourInRow_50 rfl rfl (by decide) rfl rfl dX5_pourInRow_151 rfl ?_
                  refine zj_aload_n 155 0 C dX5_pourInRow_154 rfl rfl rfl ?_
                  refine zj_get 158 0 14 C (T := TX5) im_X5_pourInRow_5 fl_X5_pourInRow_53 rfl rfl (by decide) rfl rfl dX5_pourInRow_155 rfl ?_
                  refine zj_cv 161 [0, 1, 2, 3, 4, 6] [5, 7] C (wr := [(m6, .inl (cI, 384, .inl (zA G1))), (m8, .inl (cI, 16, .inl (zA c1)))]) (zr_V [0, 1, 2, 3, 4, 6] C (As := [.int (zI j1), .int (zI z1), .int (zI z2), .int (zI u5)]) (rest := []) (c_X5_stand l D cI cS cJ q5 m0 m1 m2 m3 m4 m5 m6 m7 m8 m9 th sm ty z1 z2 u5 pm sp wr ha Z1 P1 R1 U1 b1 j1 z1 z2 u5 (by omega) (by omega)) (cwV 4 C.1.2.2.2.2 gX5_pourInRow_X5_stand rfl rfl rfl (by decide +kernel) ⟨Nat.le_of_ble_eq_true rfl, Nat.le_of_ble_eq_true rfl⟩) rfl (by decide) 0 rfl rfl rfl rfl (Nat.le_of_ble_eq_true rfl) dX5_pourInRow_158 ⟨Nat.le_of_ble_eq_true rfl, Nat.le_of_ble_eq_true rfl⟩) rfl rfl (by decide) (by decide) rfl (fun w_ hp_29 => ?_)
                  obtain rfl := hp_29
                  refine zj_ws (ws' := [(m6, .inl (cI, 384, .inl (zA G1))), (m8, .inl (cI, 16, .inl (zA c1))), (q5, .inr (5, [.int (zI th), .ref m0, .ref m1, .int (zI sm), .ref m2, .int (zI ty), .ref m3, .ref m4, .ref m5, .ref m6, .ref m7, .ref m8, .int (zI z1), .int (zI z2), .int (zI u5), .ref m9, .int (zI pm), .int (zI sp), .int (zI wr), .long ha])), (m0, .inl (cI, 74, .inl (zA Z1))), (m3, .inl (cI, 24, .inl (zA (zU P1 j1 z1)))), (m4, .inl (cI, 24, .inl (zA (zU R1 j1 z2)))), (m5, .inl (cI, 24, .inl (zA (zU U1 j1 u5)))), (m7, .inl (cI, 16, .inl (zA (zU b1 z1 (b1 z1 + Z1 (2 + 3 * j1 + 2))))))]) rfl ?_
                  refine zj_aload_n 162 0 C dX5_pourInRow_161 rfl rfl rfl ?_
                  refine zj_iload_n 163 1 C dX5_pourInRow_162 rfl rfl rfl ?_
                  refine zj_aload_n 164 0 C dX5_pourInRow_163 rfl rfl rfl ?_
                  refine zj_get 167 2 12 C (T := TX5) im_X5_pourInRow_5 fl_X5_pourInRow_47 rfl rfl (by decide) rfl rfl dX5_pourInRow_164 rfl ?_
                  refine zj_bipush 169 C dX5_pourInRow_167 rfl rfl ?_
                  refine zj_aload_n 170 0 C dX5_pourInRow_169 rfl rfl rfl ?_
                  refine zj_get 173 2 13 C (T := TX5) im_X5_pourInRow_5 fl_X5_pourInRow_50 rfl rfl (by decide) rfl rfl dX5_pourInRow_170 rfl ?_
                  refine zj_imul 174 C dX5_pourInRow_173 rfl ?_
                  refine zj_aload_n 175 0 C dX5_pourInRow_174 rfl rfl rfl ?_
                  refine zj_get 178 2 14 C (T := TX5) im_X5_pourInRow_5 fl_X5_pourInRow_53 rfl rfl (by decide) rfl rfl dX5_pourInRow_175 rfl ?_
                  refine zj_iadd 179 C dX5_pourInRow_178 rfl ?_
                  refine zj_iload_n 180 3 C dX5_pourInRow_179 rfl rfl rfl ?_
                  refine zj_cv 183 [2, 0, 1] [3, 4, 5, 6, 7] C (wr := [(m0, .inl (cI, 74, .inl (zA Z1))), (m3, .inl (cI, 24, .inl (zA (zU P1 j1 z1)))), (m4, .inl (cI, 24, .inl (zA (zU R1 j1 z2)))), (m5, .inl (cI, 24, .inl (zA (zU U1 j1 u5)))), (m7, .inl (cI, 16, .inl (zA (zU b1 z1 (b1 z1 + Z1 (2 + 3 * j1 + 2))))))]) (zr_V [2, 0, 1] C (As := [.int (zI j1), .int (zI z1), .int (zI ((6 * z2) + u5)), .int (zI (Z1 (2 + 3 * j1 + 1)))]) (rest := []) (c_X5_mark l D cI cS cJ q5 m0 m1 m2 m3 m4 m5 m6 m7 m8 m9 th sm ty z1 z2 u5 pm sp wr ha c1 G1 j1 z1 ((6 * z2) + u5) (Z1 (2 + 3 * j1 + 1)) (by omega) (by omega)) (cwV 4 C.1.2.2.2.2 gX5_pourInRow_X5_mark rfl rfl rfl (by decide +kernel) ⟨Nat.le_of_ble_eq_true rfl, Nat.le_of_ble_eq_true rfl⟩) rfl (by decide) 0 rfl rfl rfl rfl (Nat.le_of_ble_eq_true rfl) dX5_pourInRow_180 ⟨Nat.le_of_ble_eq_true rfl, Nat.le_of_ble_eq_true rfl⟩) rfl rfl (by decide) (by decide) rfl (fun w_ hp_31 => ?_)
                  obtain rfl := hp_31
                  refine zj_ws (ws' := [(m0, .inl (cI, 74, .inl (zA Z1))), (m3, .inl (cI, 24, .inl (zA (zU P1 j1 z1)))), (m4, .inl (cI, 24, .inl (zA (zU R1 j1 z2)))), (m5, .inl (cI, 24, .inl (zA (zU U1 j1 u5)))), (m7, .inl (cI, 16, .inl (zA (zU b1 z1 (b1 z1 + Z1 (2 + 3 * j1 + 2)))))), (q5, .inr (5, [.int (zI th), .ref m0, .ref m1, .int (zI sm), .ref m2, .int (zI ty), .ref m3, .ref m4, .ref m5, .ref m6, .ref m7, .ref m8, .int (zI z1), .int (zI z2), .int (zI u5), .ref m9, .int (zI pm), .int (zI sp), .int (zI wr), .long ha])), (m6, .inl (cI, 384, .inl (zA (zMk G1 (24 * z1 + ((6 * z2) + u5)) (Z1 (2 + 3 * j1 + 1)) j1)))), (m8, .inl (cI, 16, .inl (zA (zU c1 z1 (c1 z1 + 1)))))]) rfl ?_
                  refine zj_aload_n 184 0 C dX5_pourInRow_183 rfl rfl rfl ?_
                  refine zj_dup 185 C dX5_pourInRow_184 rfl rfl ?_
                  refine zj_get 188 5 14 C (T := TX5) im_X5_pourInRow_5 fl_X5_pourInRow_53 rfl rfl (by decide) rfl rfl dX5_pourInRow_185 rfl ?_
                  refine zj_iload_n 189 3 C dX5_pourInRow_188 rfl rfl rfl ?_
                  refine zj_iadd 190 C dX5_pourInRow_189 rfl ?_
                  refine zj_put 193 5 14 [(m0, .inl (cI, 74, .inl (zA Z1))), (m3, .inl (cI, 24, .inl (zA (zU P1 j1 z1)))), (m4, .inl (cI, 24, .inl (zA (zU R1 j1 z2)))), (m5, .inl (cI, 24, .inl (zA (zU U1 j1 u5)))), (m7, .inl (cI, 16, .inl (zA (zU b1 z1 (b1 z1 + Z1 (2 + 3 * j1 + 2)))))), (q5, .inr (5, [.int (zI th), .ref m0, .ref m1, .int (zI sm), .ref m2, .int (zI ty), .ref m3, .ref m4, .ref m5, .ref m6, .ref m7, .ref m8, .int (zI z1), .int (zI z2), .int (zI (u5 + (Z1 (2 + 3 * j1 + 1)))), .ref m9, .int (zI pm), .int (zI sp), .int (zI wr), .long ha])), (m6, .inl (cI, 384, .inl (zA (zMk G1 (24 * z1 + ((6 * z2) + u5)) (Z1 (2 + 3 * j1 + 1)) j1)))), (m8, .inl (cI, 16, .inl (zA (zU c1 z1 (c1 z1 + 1)))))] C (T := TX5) tyX5 tyX5_ok nmX5 im_X5_pourInRow_5 fl_X5_pourInRow_53 rfl rfl (by decide) rfl rfl rfl rfl rfl (Nat.le_of_ble_eq_true rfl) rfl dX5_pourInRow_190 rfl ?_
                  refine zj_iconst 194 C dX5_pourInRow_193 rfl ?_
                  refine zj_re [5, 0, 1, 2, 3, 6, 4, 7] [(q5, .inr (5, [.int (zI th), .ref m0, .ref m1, .int (zI sm), .ref m2, .int (zI ty), .ref m3, .ref m4, .ref m5, .ref m6, .ref m7, .ref m8, .int (zI z1), .int (zI z2), .int (zI (u5 + (Z1 (2 + 3 * j1 + 1)))), .ref m9, .int (zI pm), .int (zI sp), .int (zI wr), .long ha])), (m0, .inl (cI, 74, .inl (zA Z1))), (m3, .inl (cI, 24, .inl (zA (zU P1 j1 z1)))), (m4, .inl (cI, 24, .inl (zA (zU R1 j1 z2)))), (m5, .inl (cI, 24, .inl (zA (zU U1 j1 u5)))), (m6, .inl (cI, 384, .inl (zA (zMk G1 (24 * z1 + ((6 * z2) + u5)) (Z1 (2 + 3 * j1 + 1)) j1)))), (m7, .inl (cI, 16, .inl (zA (zU b1 z1 (b1 z1 + Z1 (2 + 3 * j1 + 2)))))), (m8, .inl (cI, 16, .inl (zA (zU c1 z1 (c1 z1 + 1)))))] (by decide) rfl ?_
                  subst hQ
                  exact zj_zret C (zI_bool (by omega)) hr ⟨1, z1, z2, (u5 + (Z1 (2 + 3 * j1 + 1))), (zU P1 j1 z1), (zU R1 j1 z2), (zU U1 j1 u5), (zMk G1 (24 * z1 + ((6 * z2) + u5)) (Z1 (2 + 3 * j1 + 1)) j1), (zU b1 z1 (b1 z1 + Z1 (2 + 3 * j1 + 2))), (zU c1 z1 (c1 z1 + 1)), (by
        have e : zPlc (Z1 0) (Z1 (2 + 3 * j1 + 0)) (Z1 (2 + 3 * j1 + 1)) (Z1 (2 + 3 * j1 + 2)) pg rw un c1 b1 = (z1, z2, u5) := by unfold zPlc; rw [if_pos (by omega), hXr, if_pos (by omega), ← hd, ← hu5]
        refine Or.inr ⟨rfl, by rw [e]; exact hz2.1, by rw [e], by rw [e], by rw [e], ?_, ?_⟩
        · unfold zGr
          rw [if_pos (by omega), e]
        · unfold zNxC
          rw [if_pos (by omega), e]), rfl, rfl⟩ (by decide) (by decide) dX5_pourInRow_194
                refine zj_aload_n 105 0 C dX5_pourInRow_104 rfl rfl rfl ?_
                refine zj_get 108 0 12 C (T := TX5) im_X5_pourInRow_5 fl_X5_pourInRow_47 rfl rfl (by decide) rfl rfl dX5_pourInRow_105 rfl ?_
                refine zj_bipush 110 C dX5_pourInRow_108 rfl rfl ?_
                refine zj_icmp_lt 113 115 C (by omega) (by omega) dX5_pourInRow_110 rfl (by decide) (fun h110 => ?_) (fun h110 => ?_)
                · skip
                  refine zj_aload_n 116 0 C dX5_pourInRow_115 rfl rfl rfl ?_
                  refine zj_iload_n 117 2 C dX5_pourInRow_116 rfl rfl rfl ?_
                  refine zj_if_eq 120 137 C (by omega) dX5_pourInRow_117 rfl (by decide) (fun h117 => ?_) (fun h117 => ?_)
                  · skip
                    refine zj_aload_n 138 0 C dX5_pourInRow_137 rfl rfl rfl ?_
                    refine zj_get 141 0 14 C (T := TX5) im_X5_pourInRow_5 fl_X5_pourInRow_53 rfl rfl (by decide) rfl rfl dX5_pourInRow_138 rfl ?_
                    refine zj_put 144 0 14 [(q5, .inr (5, [.int (zI th), .ref m0, .ref m1, .int (zI sm), .ref m2, .int (zI ty), .ref m3, .ref m4, .ref m5, .ref m6, .ref m7, .ref m8, .int (zI z1), .int (zI z2), .int (zI z3), .ref m9, .int (zI pm), .int (zI sp), .int (zI wr), .long ha])), (m0, .inl (cI, 74, .inl (zA Z1))), (m3, .inl (cI, 24, .inl (zA P1))), (m4, .inl (cI, 24, .inl (zA R1))), (m5, .inl (cI, 24, .inl (zA U1))), (m6, .inl (cI, 384, .inl (zA G1))), (m7, .inl (cI, 16, .inl (zA b1))), (m8, .inl (cI, 16, .inl (zA c1)))] C (T := TX5) tyX5 tyX5_ok nmX5 im_X5_pourInRow_5 fl_X5_pourInRow_53 rfl rfl (by decide) rfl rfl rfl rfl rfl (Nat.le_of_ble_eq_true rfl) rfl dX5_pourInRow_141 rfl ?_
                    exact hL144 z3 (by omega) (by show _ = (if d1 = 1 ∧ z1 % 2 = 1 then 6 - Z1 (2 + 3 * j1 + 1) else z3); split <;> omega) (by omega)
                  · skip
                    refine zj_aload_n 121 0 C dX5_pourInRow_120 rfl rfl rfl ?_
                    refine zj_get 124 0 12 C (T := TX5) im_X5_pourInRow_5 fl_X5_pourInRow_47 rfl rfl (by decide) rfl rfl dX5_pourInRow_121 rfl ?_
                    refine zj_iconst 125 C dX5_pourInRow_124 rfl ?_
                    refine zj_irem2 126 C dX5_pourInRow_125 rfl (by omega) ?_
                    refine zj_iconst 127 C dX5_pourInRow_126 rfl ?_
                    refine zj_icmp_ne 130 137 C (by omega) (by omega) dX5_pourInRow_127 rfl (by decide) (fun h127 => ?_) (fun h127 => ?_)
                    · skip
                      refine zj_aload_n 138 0 C dX5_pourInRow_137 rfl rfl rfl ?_
                      refine zj_get 141 0 14 C (T := TX5) im_X5_pourInRow_5 fl_X5_pourInRow_53 rfl rfl (by decide) rfl rfl dX5_pourInRow_138 rfl ?_
                      refine zj_put 144 0 14 [(q5, .inr (5, [.int (zI th), .ref m0, .ref m1, .int (zI sm), .ref m2, .int (zI ty), .ref m3, .ref m4, .ref m5, .ref m6, .ref m7, .ref m8, .int (zI z1), .int (zI z2), .int (zI z3), .ref m9, .int (zI pm), .int (zI sp), .int (zI wr), .long ha])), (m0, .inl (cI, 74, .inl (zA Z1))), (m3, .inl (cI, 24, .inl (zA P1))), (m4, .inl (cI, 24, .inl (zA R1))), (m5, .inl (cI, 24, .inl (zA U1))), (m6, .inl (cI, 384, .inl (zA G1))), (m7, .inl (cI, 16, .inl (zA b1))), (m8, .inl (cI, 16, .inl (zA c1)))] C (T := TX5) tyX5 tyX5_ok nmX5 im_X5_pourInRow_5 fl_X5_pourInRow_53 rfl rfl (by decide) rfl rfl rfl rfl rfl (Nat.le_of_ble_eq_true rfl) rfl dX5_pourInRow_141 rfl ?_
                      exact hL144 z3 (by omega) (by show _ = (if d1 = 1 ∧ z1 % 2 = 1 then 6 - Z1 (2 + 3 * j1 + 1) else z3); split <;> omega) (by omega)
                    · skip
                      refine zj_bipush 132 C dX5_pourInRow_130 rfl rfl ?_
                      refine zj_iload_n 133 3 C dX5_pourInRow_132 rfl rfl rfl ?_
                      refine zj_isub 134 C dX5_pourInRow_133 rfl ?_
                      refine zj_goto 141 C dX5_pourInRow_134 (by decide) ?_
                      refine zj_put 144 0 14 [(q5, .inr (5, [.int (zI th), .ref m0, .ref m1, .int (zI sm), .ref m2, .int (zI ty), .ref m3, .ref m4, .ref m5, .ref m6, .ref m7, .ref m8, .int (zI z1), .int (zI z2), .int (zI (6 - (Z1 (2 + 3 * j1 + 1)))), .ref m9, .int (zI pm), .int (zI sp), .int (zI wr), .long ha])), (m0, .inl (cI, 74, .inl (zA Z1))), (m3, .inl (cI, 24, .inl (zA P1))), (m4, .inl (cI, 24, .inl (zA R1))), (m5, .inl (cI, 24, .inl (zA U1))), (m6, .inl (cI, 384, .inl (zA G1))), (m7, .inl (cI, 16, .inl (zA b1))), (m8, .inl (cI, 16, .inl (zA c1)))] C (T := TX5) tyX5 tyX5_ok nmX5 im_X5_pourInRow_5 fl_X5_pourInRow_53 rfl rfl (by decide) rfl rfl rfl rfl rfl (Nat.le_of_ble_eq_true rfl) rfl dX5_pourInRow_141 rfl ?_
                      exact hL144 (6 - (Z1 (2 + 3 * j1 + 1))) (by omega) (by show _ = (if d1 = 1 ∧ z1 % 2 = 1 then 6 - Z1 (2 + 3 * j1 + 1) else z3); split <;> omega) (by omega)
                · skip
                  refine zj_iconst 114 C dX5_pourInRow_113 rfl ?_
                  subst hQ
                  exact zj_zret C (zI_bool (by omega)) hr ⟨0, z1, z2, z3, P1, R1, U1, G1, b1, c1, (by exact Or.inl ⟨rfl, by unfold zPlc; rw [if_pos (by omega), hXr, if_neg (by omega)], rfl, rfl, rfl, rfl, rfl, rfl⟩), rfl, rfl⟩ (by decide) (by decide) dX5_pourInRow_114
              refine zj_iload_n 81 2 C dX5_pourInRow_80 rfl rfl rfl ?_
              refine zj_if_eq 84 104 C (by omega) dX5_pourInRow_81 rfl (by decide) (fun h81 => ?_) (fun h81 => ?_)
              · skip
                exact hL104 y1 y2 y3 (by rw [← hy]; show _ = (if d1 = 1 ∧ y1 % 2 = 0 ∧ y3 ≠ 0 then (zRp y1 y2, zRr y2, (0 : Int)) else (y1, y2, y3)); split <;> first | rfl | omega) (by first | omega | (unfold zRp zRr; split <;> omega))
              · skip
                refine zj_aload_n 85 0 C dX5_pourInRow_84 rfl rfl rfl ?_
                refine zj_get 88 0 12 C (T := TX5) im_X5_pourInRow_5 fl_X5_pourInRow_47 rfl rfl (by decide) rfl rfl dX5_pourInRow_85 rfl ?_
                refine zj_iconst 89 C dX5_pourInRow_88 rfl ?_
                refine zj_irem2 90 C dX5_pourInRow_89 rfl (by omega) ?_
                refine zj_if_ne 93 104 C (by omega) dX5_pourInRow_90 rfl (by decide) (fun h90 => ?_) (fun h90 => ?_)
                · skip
                  exact hL104 y1 y2 y3 (by rw [← hy]; show _ = (if d1 = 1 ∧ y1 % 2 = 0 ∧ y3 ≠ 0 then (zRp y1 y2, zRr y2, (0 : Int)) else (y1, y2, y3)); split <;> first | rfl | omega) (by first | omega | (unfold zRp zRr; split <;> omega))
                · skip
                  refine zj_aload_n 94 0 C dX5_pourInRow_93 rfl rfl rfl ?_
                  refine zj_get 97 0 14 C (T := TX5) im_X5_pourInRow_5 fl_X5_pourInRow_53 rfl rfl (by decide) rfl rfl dX5_pourInRow_94 rfl ?_
                  refine zj_if_eq 100 104 C (by omega) dX5_pourInRow_97 rfl (by decide) (fun h97 => ?_) (fun h97 => ?_)
                  · skip
                    exact hL104 y1 y2 y3 (by rw [← hy]; show _ = (if d1 = 1 ∧ y1 % 2 = 0 ∧ y3 ≠ 0 then (zRp y1 y2, zRr y2, (0 : Int)) else (y1, y2, y3)); split <;> first | rfl | omega) (by first | omega | (unfold zRp zRr; split <;> omega))
                  · skip
                    refine zj_aload_n 101 0 C dX5_pourInRow_100 rfl rfl rfl ?_
                    refine zj_cv 104 [0] [1, 2, 3, 4, 5, 6, 7] C (wr := [(m0, .inl (cI, 74, .inl (zA Z1))), (m3, .inl (cI, 24, .inl (zA P1))), (m4, .inl (cI, 24, .inl (zA R1))), (m5, .inl (cI, 24, .inl (zA U1))), (m6, .inl (cI, 384, .inl (zA G1))), (m7, .inl (cI, 16, .inl (zA b1))), (m8, .inl (cI, 16, .inl (zA c1)))]) (zr_V [0] C (As := []) (rest := []) (c_X5_nextRow l D cI cS cJ q5 m0 m1 m2 m3 m4 m5 m6 m7 m8 m9 th sm ty y1 y2 y3 pm sp wr ha (by omega)) (cwV 0 C.1.2.2.2.2 gX5_pourInRow_X5_nextRow rfl rfl rfl (by decide +kernel) ⟨Nat.le_of_ble_eq_true rfl, Nat.le_of_ble_eq_true rfl⟩) rfl (by decide) 0 rfl rfl rfl rfl (Nat.le_of_ble_eq_true rfl) dX5_pourInRow_101 ⟨Nat.le_of_ble_eq_true rfl, Nat.le_of_ble_eq_true rfl⟩) rfl rfl (by decide) (by decide) rfl (fun w_ hp_33 => ?_)
                    obtain rfl := hp_33
                    refine zj_ws (ws' := [(m0, .inl (cI, 74, .inl (zA Z1))), (m3, .inl (cI, 24, .inl (zA P1))), (m4, .inl (cI, 24, .inl (zA R1))), (m5, .inl (cI, 24, .inl (zA U1))), (m6, .inl (cI, 384, .inl (zA G1))), (m7, .inl (cI, 16, .inl (zA b1))), (m8, .inl (cI, 16, .inl (zA c1))), (q5, .inr (5, [.int (zI th), .ref m0, .ref m1, .int (zI sm), .ref m2, .int (zI ty), .ref m3, .ref m4, .ref m5, .ref m6, .ref m7, .ref m8, .int (zI (zRp y1 y2)), .int (zI (zRr y2)), .int (zI 0), .ref m9, .int (zI pm), .int (zI sp), .int (zI wr), .long ha]))]) rfl ?_
                    refine zj_re [7, 0, 1, 2, 3, 4, 5, 6] [(q5, .inr (5, [.int (zI th), .ref m0, .ref m1, .int (zI sm), .ref m2, .int (zI ty), .ref m3, .ref m4, .ref m5, .ref m6, .ref m7, .ref m8, .int (zI (zRp y1 y2)), .int (zI (zRr y2)), .int (zI 0), .ref m9, .int (zI pm), .int (zI sp), .int (zI wr), .long ha])), (m0, .inl (cI, 74, .inl (zA Z1))), (m3, .inl (cI, 24, .inl (zA P1))), (m4, .inl (cI, 24, .inl (zA R1))), (m5, .inl (cI, 24, .inl (zA U1))), (m6, .inl (cI, 384, .inl (zA G1))), (m7, .inl (cI, 16, .inl (zA b1))), (m8, .inl (cI, 16, .inl (zA c1)))] (by decide) rfl ?_
                    exact hL104 (zRp y1 y2) (zRr y2) 0 (by rw [← hy]; show _ = (if d1 = 1 ∧ y1 % 2 = 0 ∧ y3 ≠ 0 then (zRp y1 y2, zRr y2, (0 : Int)) else (y1, y2, y3)); split <;> first | rfl | omega) (by first | omega | (unfold zRp zRr; split <;> omega))
            refine zj_bipush 67 C dX5_pourInRow_65 rfl rfl ?_
            refine zj_aload_n 68 0 C dX5_pourInRow_67 rfl rfl rfl ?_
            refine zj_get 71 0 14 C (T := TX5) im_X5_pourInRow_5 fl_X5_pourInRow_53 rfl rfl (by decide) rfl rfl dX5_pourInRow_68 rfl ?_
            refine zj_isub 72 C dX5_pourInRow_71 rfl ?_
            refine zj_iload_n 73 3 C dX5_pourInRow_72 rfl rfl rfl ?_
            refine zj_icmp_ge 76 80 C (by omega) (by omega) dX5_pourInRow_73 rfl (by decide) (fun h73 => ?_) (fun h73 => ?_)
            · skip
              exact hL80 x1 x2 x3 (by show _ = (if 6 - x3 < Z1 (2 + 3 * j1 + 1) then (zRp x1 x2, zRr x2, (0 : Int)) else (x1, x2, x3)); split <;> first | rfl | omega) (by first | omega | (unfold zRp zRr; split <;> omega))
            · skip
              refine zj_aload_n 77 0 C dX5_pourInRow_76 rfl rfl rfl ?_
              refine zj_cv 80 [0] [1, 2, 3, 4, 5, 6, 7] C (wr := [(m0, .inl (cI, 74, .inl (zA Z1))), (m3, .inl (cI, 24, .inl (zA P1))), (m4, .inl (cI, 24, .inl (zA R1))), (m5, .inl (cI, 24, .inl (zA U1))), (m6, .inl (cI, 384, .inl (zA G1))), (m7, .inl (cI, 16, .inl (zA b1))), (m8, .inl (cI, 16, .inl (zA c1)))]) (zr_V [0] C (As := []) (rest := []) (c_X5_nextRow l D cI cS cJ q5 m0 m1 m2 m3 m4 m5 m6 m7 m8 m9 th sm ty x1 x2 x3 pm sp wr ha (by omega)) (cwV 0 C.1.2.2.2.2 gX5_pourInRow_X5_nextRow rfl rfl rfl (by decide +kernel) ⟨Nat.le_of_ble_eq_true rfl, Nat.le_of_ble_eq_true rfl⟩) rfl (by decide) 0 rfl rfl rfl rfl (Nat.le_of_ble_eq_true rfl) dX5_pourInRow_77 ⟨Nat.le_of_ble_eq_true rfl, Nat.le_of_ble_eq_true rfl⟩) rfl rfl (by decide) (by decide) rfl (fun w_ hp_35 => ?_)
              obtain rfl := hp_35
              refine zj_ws (ws' := [(m0, .inl (cI, 74, .inl (zA Z1))), (m3, .inl (cI, 24, .inl (zA P1))), (m4, .inl (cI, 24, .inl (zA R1))), (m5, .inl (cI, 24, .inl (zA U1))), (m6, .inl (cI, 384, .inl (zA G1))), (m7, .inl (cI, 16, .inl (zA b1))), (m8, .inl (cI, 16, .inl (zA c1))), (q5, .inr (5, [.int (zI th), .ref m0, .ref m1, .int (zI sm), .ref m2, .int (zI ty), .ref m3, .ref m4, .ref m5, .ref m6, .ref m7, .ref m8, .int (zI (zRp x1 x2)), .int (zI (zRr x2)), .int (zI 0), .ref m9, .int (zI pm), .int (zI sp), .int (zI wr), .long ha]))]) rfl ?_
              refine zj_re [7, 0, 1, 2, 3, 4, 5, 6] [(q5, .inr (5, [.int (zI th), .ref m0, .ref m1, .int (zI sm), .ref m2, .int (zI ty), .ref m3, .ref m4, .ref m5, .ref m6, .ref m7, .ref m8, .int (zI (zRp x1 x2)), .int (zI (zRr x2)), .int (zI 0), .ref m9, .int (zI pm), .int (zI sp), .int (zI wr), .long ha])), (m0, .inl (cI, 74, .inl (zA Z1))), (m3, .inl (cI, 24, .inl (zA P1))), (m4, .inl (cI, 24, .inl (zA R1))), (m5, .inl (cI, 24, .inl (zA U1))), (m6, .inl (cI, 384, .inl (zA G1))), (m7, .inl (cI, 16, .inl (zA b1))), (m8, .inl (cI, 16, .inl (zA c1)))] (by decide) rfl ?_
              exact hL80 (zRp x1 x2) (zRr x2) 0 (by show _ = (if 6 - x3 < Z1 (2 + 3 * j1 + 1) then (zRp x1 x2, zRr x2, (0 : Int)) else (x1, x2, x3)); split <;> first | rfl | omega) (by first | omega | (unfold zRp zRr; split <;> omega))
          refine zj_re [7, 6, 0, 1, 2, 3, 4, 5] [(q5, .inr (5, [.int (zI th), .ref m0, .ref m1, .int (zI sm), .ref m2, .int (zI ty), .ref m3, .ref m4, .ref m5, .ref m6, .ref m7, .ref m8, .int (zI (pg + 1)), .int (zI 0), .int (zI 0), .ref m9, .int (zI pm), .int (zI sp), .int (zI wr), .long ha])), (m0, .inl (cI, 74, .inl (zA Z1))), (m3, .inl (cI, 24, .inl (zA P1))), (m4, .inl (cI, 24, .inl (zA R1))), (m5, .inl (cI, 24, .inl (zA U1))), (m6, .inl (cI, 384, .inl (zA G1))), (m7, .inl (cI, 16, .inl (zA b1))), (m8, .inl (cI, 16, .inl (zA c1)))] (by decide) rfl ?_
          refine zj_lv [2, 3, 1, 0] [(0, .ref q5), (1, .int (zI j1)), (2, .int (zI d1)), (3, .int (zI (Z1 (2 + 3 * j1 + 1))))] rfl ?_
          exact hL65 (pg + 1) 0 0 (by unfold zGc; split <;> first | rfl | omega) (by omega)
    refine zj_re [6, 7, 0, 1, 2, 3, 4, 5] [(q5, .inr (5, [.int (zI th), .ref m0, .ref m1, .int (zI sm), .ref m2, .int (zI ty), .ref m3, .ref m4, .ref m5, .ref m6, .ref m7, .ref m8, .int (zI pg), .int (zI rw), .int (zI un), .ref m9, .int (zI pm), .int (zI sp), .int (zI wr), .long ha])), (m0, .inl (cI, 74, .inl (zA Z1))), (m3, .inl (cI, 24, .inl (zA P1))), (m4, .inl (cI, 24, .inl (zA R1))), (m5, .inl (cI, 24, .inl (zA U1))), (m6, .inl (cI, 384, .inl (zA G1))), (m7, .inl (cI, 16, .inl (zA b1))), (m8, .inl (cI, 16, .inl (zA c1)))] (by decide) rfl ?_
    exact hL15 0 (by omega)
  · skip
    refine zj_iconst 11 C dX5_pourInRow_10 rfl ?_
    refine zj_goto 15 C dX5_pourInRow_11 (by decide) ?_
    have hL15 : ∀ (d1 : Int), (d1 = Z1 (2 + 3 * j1 + 0)) → zJ p l e rm_X5_pourInRow s m args below meth c Q D A 4 [(q5, .inr (5, [.int (zI th), .ref m0, .ref m1, .int (zI sm), .ref m2, .int (zI ty), .ref m3, .ref m4, .ref m5, .ref m6, .ref m7, .ref m8, .int (zI pg), .int (zI rw), .int (zI un), .ref m9, .int (zI pm), .int (zI sp), .int (zI wr), .long ha])), (m0, .inl (cI, 74, .inl (zA Z1))), (m3, .inl (cI, 24, .inl (zA P1))), (m4, .inl (cI, 24, .inl (zA R1))), (m5, .inl (cI, 24, .inl (zA U1))), (m6, .inl (cI, 384, .inl (zA G1))), (m7, .inl (cI, 16, .inl (zA b1))), (m8, .inl (cI, 16, .inl (zA c1)))] 0 0 [(0, .ref q5), (1, .int (zI j1))] 15 [.int (zI d1)] := by
      intro d1 hd
      refine zj_istore_n 16 [(2, .int (zI d1)), (0, .ref q5), (1, .int (zI j1))] C dX5_pourInRow_15 rfl rfl (by decide) rfl ?_
      refine zj_aload_n 17 1 C dX5_pourInRow_16 rfl rfl rfl ?_
      refine zj_iload_n 18 2 C dX5_pourInRow_17 rfl rfl rfl ?_
      refine zj_iconst 19 C dX5_pourInRow_18 rfl ?_
      refine zj_ci 22 [0, 1] [2, 3, 4, 5, 6, 7] C (wr := [(m3, .inl (cI, 24, .inl (zA P1))), (m4, .inl (cI, 24, .inl (zA R1))), (m5, .inl (cI, 24, .inl (zA U1))), (m6, .inl (cI, 384, .inl (zA G1))), (m7, .inl (cI, 16, .inl (zA b1))), (m8, .inl (cI, 16, .inl (zA c1)))]) (zr_V [0, 1] C (As := [.int (zI j1), .int (zI 1)]) (rest := []) (c_X5_of l D cI cS cJ q5 m0 m1 m2 m3 m4 m5 m6 m7 m8 m9 th sm ty pg rw un pm sp wr ha Z1 j1 1 (by omega) (by omega)) (cwV 2 C.1.2.2.2.2 gX5_pourInRow_X5_of rfl rfl rfl (by decide +kernel) ⟨Nat.le_of_ble_eq_true rfl, Nat.le_of_ble_eq_true rfl⟩) rfl (by decide) 0 rfl rfl rfl rfl (Nat.le_of_ble_eq_true rfl) dX5_pourInRow_19 ⟨Nat.le_of_ble_eq_true rfl, Nat.le_of_ble_eq_true rfl⟩) rfl rfl (by decide) (by decide) rfl (fun r_36 w_ hp_37 => ?_)
      obtain ⟨rfl, rfl⟩ := hp_37
      refine zj_ws (ws' := [(m3, .inl (cI, 24, .inl (zA P1))), (m4, .inl (cI, 24, .inl (zA R1))), (m5, .inl (cI, 24, .inl (zA U1))), (m6, .inl (cI, 384, .inl (zA G1))), (m7, .inl (cI, 16, .inl (zA b1))), (m8, .inl (cI, 16, .inl (zA c1))), (q5, .inr (5, [.int (zI th), .ref m0, .ref m1, .int (zI sm), .ref m2, .int (zI ty), .ref m3, .ref m4, .ref m5, .ref m6, .ref m7, .ref m8, .int (zI pg), .int (zI rw), .int (zI un), .ref m9, .int (zI pm), .int (zI sp), .int (zI wr), .long ha])), (m0, .inl (cI, 74, .inl (zA Z1)))]) rfl ?_
      refine zj_istore_n 23 [(3, .int (zI (Z1 (2 + 3 * j1 + 1)))), (2, .int (zI d1)), (0, .ref q5), (1, .int (zI j1))] C dX5_pourInRow_22 rfl rfl (by decide) rfl ?_
      refine zj_aload_n 24 2 C dX5_pourInRow_23 rfl rfl rfl ?_
      refine zj_ci 27 [6, 5] [0, 1, 2, 3, 4, 7] C (wr := [(m3, .inl (cI, 24, .inl (zA P1))), (m4, .inl (cI, 24, .inl (zA R1))), (m5, .inl (cI, 24, .inl (zA U1))), (m6, .inl (cI, 384, .inl (zA G1))), (m7, .inl (cI, 16, .inl (zA b1))), (m0, .inl (cI, 74, .inl (zA Z1)))]) (zr_V [6, 5] C (As := []) (rest := []) (c_X5_isEmpty l D cI cS cJ q5 m0 m1 m2 m3 m4 m5 m6 m7 m8 m9 th sm ty pg rw un pm sp wr ha c1 (by omega) hc) (cwV 0 C.1.2.2.2.2 gX5_pourInRow_X5_isEmpty rfl rfl rfl (by decide +kernel) ⟨Nat.le_of_ble_eq_true rfl, Nat.le_of_ble_eq_true rfl⟩) rfl (by decide) 0 rfl rfl rfl rfl (Nat.le_of_ble_eq_true rfl) dX5_pourInRow_24 ⟨Nat.le_of_ble_eq_true rfl, Nat.le_of_ble_eq_true rfl⟩) rfl rfl (by decide) (by decide) rfl (fun r_38 w_ hp_39 => ?_)
      obtain ⟨r1_40, fe, rfl, rfl⟩ := hp_39
      refine zj_ws (ws' := [(m3, .inl (cI, 24, .inl (zA P1))), (m4, .inl (cI, 24, .inl (zA R1))), (m5, .inl (cI, 24, .inl (zA U1))), (m6, .inl (cI, 384, .inl (zA G1))), (m7, .inl (cI, 16, .inl (zA b1))), (m0, .inl (cI, 74, .inl (zA Z1))), (q5, .inr (5, [.int (zI th), .ref m0, .ref m1, .int (zI sm), .ref m2, .int (zI ty), .ref m3, .ref m4, .ref m5, .ref m6, .ref m7, .ref m8, .int (zI pg), .int (zI rw), .int (zI un), .ref m9, .int (zI pm), .int (zI sp), .int (zI wr), .long ha])), (m8, .inl (cI, 16, .inl (zA c1)))]) rfl ?_
      refine zj_if_ne 30 65 C (by omega) dX5_pourInRow_27 rfl (by decide) (fun h27 => ?_) (fun h27 => ?_)
      · skip
        have hL65 : ∀ (x1 : Int) (x2 : Int) (x3 : Int), ((x1, x2, x3) = (if zGc c1 b1 pg (Z1 (2 + 3 * j1 + 2)) (Z1 0) then (pg + 1, 0, 0) else (pg, rw, un))) → (0 ≤ x1 ∧ x1 ≤ 16 ∧ 0 ≤ x2 ∧ x2 ≤ 3 ∧ 0 ≤ x3 ∧ x3 ≤ 6) → zJ p l e rm_X5_pourInRow s m args below meth c Q D A 4 [(q5, .inr (5, [.int (zI th), .ref m0, .ref m1, .int (zI sm), .ref m2, .int (zI ty), .ref m3, .ref m4, .ref m5, .ref m6, .ref m7, .ref m8, .int (zI x1), .int (zI x2), .int (zI x3), .ref m9, .int (zI pm), .int (zI sp), .int (zI wr), .long ha])), (m0, .inl (cI, 74, .inl (zA Z1))), (m3, .inl (cI, 24, .inl (zA P1))), (m4, .inl (cI, 24, .inl (zA R1))), (m5, .inl (cI, 24, .inl (zA U1))), (m6, .inl (cI, 384, .inl (zA G1))), (m7, .inl (cI, 16, .inl (zA b1))), (m8, .inl (cI, 16, .inl (zA c1)))] 0 0 [(0, .ref q5), (1, .int (zI j1)), (2, .int (zI d1)), (3, .int (zI (Z1 (2 + 3 * j1 + 1))))] 65 [] := by
          intro x1 x2 x3 hx hx2
          have hL80 : ∀ (y1 : Int) (y2 : Int) (y3 : Int), ((y1, y2, y3) = zX2 (Z1 (2 + 3 * j1 + 1)) (x1, x2, x3)) → (0 ≤ y1 ∧ y1 ≤ 17 ∧ 0 ≤ y2 ∧ y2 ≤ 3 ∧ 0 ≤ y3 ∧ y3 ≤ 6) → zJ p l e rm_X5_pourInRow s m args below meth c Q D A 4 [(q5, .inr (5, [.int (zI th), .ref m0, .ref m1, .int (zI sm), .ref m2, .int (zI ty), .ref m3, .ref m4, .ref m5, .ref m6, .ref m7, .ref m8, .int (zI y1), .int (zI y2), .int (zI y3), .ref m9, .int (zI pm), .int (zI sp), .int (zI wr), .long ha])), (m0, .inl (cI, 74, .inl (zA Z1))), (m3, .inl (cI, 24, .inl (zA P1))), (m4, .inl (cI, 24, .inl (zA R1))), (m5, .inl (cI, 24, .inl (zA U1))), (m6, .inl (cI, 384, .inl (zA G1))), (m7, .inl (cI, 16, .inl (zA b1))), (m8, .inl (cI, 16, .inl (zA c1)))] 0 0 [(0, .ref q5), (1, .int (zI j1)), (2, .int (zI d1)), (3, .int (zI (Z1 (2 + 3 * j1 + 1))))] 80 [] := by
            intro y1 y2 y3 hy hy2
            have hL104 : ∀ (z1 : Int) (z2 : Int) (z3 : Int), ((z1, z2, z3) = zX3 d1 (zX2 (Z1 (2 + 3 * j1 + 1)) (x1, x2, x3))) → (0 ≤ z1 ∧ z1 ≤ 18 ∧ 0 ≤ z2 ∧ z2 ≤ 3 ∧ 0 ≤ z3 ∧ z3 ≤ 6) → zJ p l e rm_X5_pourInRow s m args below meth c Q D A 4 [(q5, .inr (5, [.int (zI th), .ref m0, .ref m1, .int (zI sm), .ref m2, .int (zI ty), .ref m3, .ref m4, .ref m5, .ref m6, .ref m7, .ref m8, .int (zI z1), .int (zI z2), .int (zI z3), .ref m9, .int (zI pm), .int (zI sp), .int (zI wr), .long ha])), (m0, .inl (cI, 74, .inl (zA Z1))), (m3, .inl (cI, 24, .inl (zA P1))), (m4, .inl (cI, 24, .inl (zA R1))), (m5, .inl (cI, 24, .inl (zA U1))), (m6, .inl (cI, 384, .inl (zA G1))), (m7, .inl (cI, 16, .inl (zA b1))), (m8, .inl (cI, 16, .inl (zA c1)))] 0 0 [(0, .ref q5), (1, .int (zI j1)), (2, .int (zI d1)), (3, .int (zI (Z1 (2 + 3 * j1 + 1))))] 104 [] := by
              intro z1 z2 z3 hz hz2
              have hXr : zXr (Z1 0) (Z1 (2 + 3 * j1 + 0)) (Z1 (2 + 3 * j1 + 1)) (Z1 (2 + 3 * j1 + 2)) pg rw un c1 b1 = (z1, z2, z3) := by unfold zXr; rw [← hx, ← hd, hz]
              have hfit : z3 + Z1 (2 + 3 * j1 + 1) ≤ 6 := by have q := zXr_b (sg := Z1 0) (k := Z1 (2 + 3 * j1 + 0)) (t := Z1 (2 + 3 * j1 + 2)) (c := c1) (b := b1) hW hp hr1 hu1; rw [hXr] at q; exact q.2.2.2
              have hL144 : ∀ (u5 : Int), (z1 < 16) → (u5 = zXu d1 (Z1 (2 + 3 * j1 + 1)) (z1, z2, z3)) → (0 ≤ u5 ∧ u5 + Z1 (2 + 3 * j1 + 1) ≤ 6) → zJ p l e rm_X5_pourInRow s m args below meth c Q D A 4 [(q5, .inr (5, [.int (zI th), .ref m0, .ref m1, .int (zI sm), .ref m2, .int (zI ty), .ref m3, .ref m4, .ref m5, .ref m6, .ref m7, .ref m8, .int (zI z1), .int (zI z2), .int (zI u5), .ref m9, .int (zI pm), .int (zI sp), .int (zI wr), .long ha])), (m0, .inl (cI, 74, .inl (zA Z1))), (m3, .inl (cI, 24, .inl (zA P1))), (m4, .inl (cI, 24, .inl (zA R1))), (m5, .inl (cI, 24, .inl (zA U1))), (m6, .inl (cI, 384, .inl (zA G1))), (m7, .inl (cI, 16, .inl (zA b1))), (m8, .inl (cI, 16, .inl (zA c1)))] 0 0 [(0, .ref q5), (1, .int (zI j1)), (2, .int (zI d1)), (3, .int (zI (Z1 (2 + 3 * j1 + 1))))] 144 [] := by
                intro u5 hz6 hu5 hu6
                refine zj_aload_n 145 0 C dX5_pourInRow_144 rfl rfl rfl ?_
                refine zj_iload_n 146 1 C dX5_pourInRow_145 rfl rfl rfl ?_
                refine zj_aload_n 147 0 C dX5_pourInRow_146 rfl rfl rfl ?_
                refine zj_get 150 0 12 C (T := TX5) im_X5_pourInRow_5 fl_X5_pourInRow_47 rfl rfl (by decide) rfl rfl dX5_pourInRow_147 rfl ?_
                refine zj_aload_n 151 0 C dX5_pourInRow_150 rfl rfl rfl ?_
                refine zj_get 154 0 13 C (T := TX5) im_X5_pourInRow_5 fl_X5_pourInRow_50 rfl rfl (by decide) rfl rfl dX5_pourInRow_151 rfl ?_
                refine zj_aload_n 155 0 C dX5_pourInRow_154 rfl rfl rfl ?_
                refine zj_get 158 0 14 C (T := TX5) im_X5_pourInRow_5 fl_X5_pourInRow_53 rfl rfl (by decide) rfl rfl dX5_pourInRow_155 rfl ?_
                refine zj_cv 161 [0, 1, 2, 3, 4, 6] [5, 7] C (wr := [(m6, .inl (cI, 384, .inl (zA G1))), (m8, .inl (cI, 16, .inl (zA c1)))]) (zr_V [0, 1, 2, 3, 4, 6] C (As := [.int (zI j1), .int (zI z1), .int (zI z2), .int (zI u5)]) (rest := []) (c_X5_stand l D cI cS cJ q5 m0 m1 m2 m3 m4 m5 m6 m7 m8 m9 th sm ty z1 z2 u5 pm sp wr ha Z1 P1 R1 U1 b1 j1 z1 z2 u5 (by omega) (by omega)) (cwV 4 C.1.2.2.2.2 gX5_pourInRow_X5_stand rfl rfl rfl (by decide +kernel) ⟨Nat.le_of_ble_eq_true rfl, Nat.le_of_ble_eq_true rfl⟩) rfl (by decide) 0 rfl rfl rfl rfl (Nat.le_of_ble_eq_true rfl) dX5_pourInRow_158 ⟨Nat.le_of_ble_eq_true rfl, Nat.le_of_ble_eq_true rfl⟩) rfl rfl (by decide) (by decide) rfl (fun w_ hp_42 => ?_)
                obtain rfl := hp_42
                refine zj_ws (ws' := [(m6, .inl (cI, 384, .inl (zA G1))), (m8, .inl (cI, 16, .inl (zA c1))), (q5, .inr (5, [.int (zI th), .ref m0, .ref m1, .int (zI sm), .ref m2, .int (zI ty), .ref m3, .ref m4, .ref m5, .ref m6, .ref m7, .ref m8, .int (zI z1), .int (zI z2), .int (zI u5), .ref m9, .int (zI pm), .int (zI sp), .int (zI wr), .long ha])), (m0, .inl (cI, 74, .inl (zA Z1))), (m3, .inl (cI, 24, .inl (zA (zU P1 j1 z1)))), (m4, .inl (cI, 24, .inl (zA (zU R1 j1 z2)))), (m5, .inl (cI, 24, .inl (zA (zU U1 j1 u5)))), (m7, .inl (cI, 16, .inl (zA (zU b1 z1 (b1 z1 + Z1 (2 + 3 * j1 + 2))))))]) rfl ?_
                refine zj_aload_n 162 0 C dX5_pourInRow_161 rfl rfl rfl ?_
                refine zj_iload_n 163 1 C dX5_pourInRow_162 rfl rfl rfl ?_
                refine zj_aload_n 164 0 C dX5_pourInRow_163 rfl rfl rfl ?_
                refine zj_get 167 2 12 C (T := TX5) im_X5_pourInRow_5 fl_X5_pourInRow_47 rfl rfl (by decide) rfl rfl dX5_pourInRow_164 rfl ?_
                refine zj_bipush 169 C dX5_pourInRow_167 rfl rfl ?_
                refine zj_aload_n 170 0 C dX5_pourInRow_169 rfl rfl rfl ?_
                refine zj_get 173 2 13 C (T := TX5) im_X5_pourInRow_5 fl_X5_pourInRow_50 rfl rfl (by decide) rfl rfl dX5_pourInRow_170 rfl ?_
                refine zj_imul 174 C dX5_pourInRow_173 rfl ?_
                refine zj_aload_n 175 0 C dX5_pourInRow_174 rfl rfl rfl ?_
                refine zj_get 178 2 14 C (T := TX5) im_X5_pourInRow_5 fl_X5_pourInRow_53 rfl rfl (by decide) rfl rfl dX5_pourInRow_175 rfl ?_
                refine zj_iadd 179 C dX5_pourInRow_178 rfl ?_
                refine zj_iload_n 180 3 C dX5_pourInRow_179 rfl rfl rfl ?_
                refine zj_cv 183 [2, 0, 1] [3, 4, 5, 6, 7] C (wr := [(m0, .inl (cI, 74, .inl (zA Z1))), (m3, .inl (cI, 24, .inl (zA (zU P1 j1 z1)))), (m4, .inl (cI, 24, .inl (zA (zU R1 j1 z2)))), (m5, .inl (cI, 24, .inl (zA (zU U1 j1 u5)))), (m7, .inl (cI, 16, .inl (zA (zU b1 z1 (b1 z1 + Z1 (2 + 3 * j1 + 2))))))]) (zr_V [2, 0, 1] C (As := [.int (zI j1), .int (zI z1), .int (zI ((6 * z2) + u5)), .int (zI (Z1 (2 + 3 * j1 + 1)))]) (rest := []) (c_X5_mark l D cI cS cJ q5 m0 m1 m2 m3 m4 m5 m6 m7 m8 m9 th sm ty z1 z2 u5 pm sp wr ha c1 G1 j1 z1 ((6 * z2) + u5) (Z1 (2 + 3 * j1 + 1)) (by omega) (by omega)) (cwV 4 C.1.2.2.2.2 gX5_pourInRow_X5_mark rfl rfl rfl (by decide +kernel) ⟨Nat.le_of_ble_eq_true rfl, Nat.le_of_ble_eq_true rfl⟩) rfl (by decide) 0 rfl rfl rfl rfl (Nat.le_of_ble_eq_true rfl) dX5_pourInRow_180 ⟨Nat.le_of_ble_eq_true rfl, Nat.le_of_ble_eq_true rfl⟩) rfl rfl (by decide) (by decide) rfl (fun w_ hp_44 => ?_)
                obtain rfl := hp_44
                refine zj_ws (ws' := [(m0, .inl (cI, 74, .inl (zA Z1))), (m3, .inl (cI, 24, .inl (zA (zU P1 j1 z1)))), (m4, .inl (cI, 24, .inl (zA (zU R1 j1 z2)))), (m5, .inl (cI, 24, .inl (zA (zU U1 j1 u5)))), (m7, .inl (cI, 16, .inl (zA (zU b1 z1 (b1 z1 + Z1 (2 + 3 * j1 + 2)))))), (q5, .inr (5, [.int (zI th), .ref m0, .ref m1, .int (zI sm), .ref m2, .int (zI ty), .ref m3, .ref m4, .ref m5, .ref m6, .ref m7, .ref m8, .int (zI z1), .int (zI z2), .int (zI u5), .ref m9, .int (zI pm), .int (zI sp), .int (zI wr), .long ha])), (m6, .inl (cI, 384, .inl (zA (zMk G1 (24 * z1 + ((6 * z2) + u5)) (Z1 (2 + 3 * j1 + 1)) j1)))), (m8, .inl (cI, 16, .inl (zA (zU c1 z1 (c1 z1 + 1)))))]) rfl ?_
                refine zj_aload_n 184 0 C dX5_pourInRow_183 rfl rfl rfl ?_
                refine zj_dup 185 C dX5_pourInRow_184 rfl rfl ?_
                refine zj_get 188 5 14 C (T := TX5) im_X5_pourInRow_5 fl_X5_pourInRow_53 rfl rfl (by decide) rfl rfl dX5_pourInRow_185 rfl ?_
                refine zj_iload_n 189 3 C dX5_pourInRow_188 rfl rfl rfl ?_
                refine zj_iadd 190 C dX5_pourInRow_189 rfl ?_
                refine zj_put 193 5 14 [(m0, .inl (cI, 74, .inl (zA Z1))), (m3, .inl (cI, 24, .inl (zA (zU P1 j1 z1)))), (m4, .inl (cI, 24, .inl (zA (zU R1 j1 z2)))), (m5, .inl (cI, 24, .inl (zA (zU U1 j1 u5)))), (m7, .inl (cI, 16, .inl (zA (zU b1 z1 (b1 z1 + Z1 (2 + 3 * j1 + 2)))))), (q5, .inr (5, [.int (zI th), .ref m0, .ref m1, .int (zI sm), .ref m2, .int (zI ty), .ref m3, .ref m4, .ref m5, .ref m6, .ref m7, .ref m8, .int (zI z1), .int (zI z2), .int (zI (u5 + (Z1 (2 + 3 * j1 + 1)))), .ref m9, .int (zI pm), .int (zI sp), .int (zI wr), .long ha])), (m6, .inl (cI, 384, .inl (zA (zMk G1 (24 * z1 + ((6 * z2) + u5)) (Z1 (2 + 3 * j1 + 1)) j1)))), (m8, .inl (cI, 16, .inl (zA (zU c1 z1 (c1 z1 + 1)))))] C (T := TX5) tyX5 tyX5_ok nmX5 im_X5_pourInRow_5 fl_X5_pourInRow_53 rfl rfl (by decide) rfl rfl rfl rfl rfl (Nat.le_of_ble_eq_true rfl) rfl dX5_pourInRow_190 rfl ?_
                refine zj_iconst 194 C dX5_pourInRow_193 rfl ?_
                refine zj_re [5, 0, 1, 2, 3, 6, 4, 7] [(q5, .inr (5, [.int (zI th), .ref m0, .ref m1, .int (zI sm), .ref m2, .int (zI ty), .ref m3, .ref m4, .ref m5, .ref m6, .ref m7, .ref m8, .int (zI z1), .int (zI z2), .int (zI (u5 + (Z1 (2 + 3 * j1 + 1)))), .ref m9, .int (zI pm), .int (zI sp), .int (zI wr), .long ha])), (m0, .inl (cI, 74, .inl (zA Z1))), (m3, .inl (cI, 24, .inl (zA (zU P1 j1 z1)))), (m4, .inl (cI, 24, .inl (zA (zU R1 j1 z2)))), (m5, .inl (cI, 24, .inl (zA (zU U1 j1 u5)))), (m6, .inl (cI, 384, .inl (zA (zMk G1 (24 * z1 + ((6 * z2) + u5)) (Z1 (2 + 3 * j1 + 1)) j1)))), (m7, .inl (cI, 16, .inl (zA (zU b1 z1 (b1 z1 + Z1 (2 + 3 * j1 + 2)))))), (m8, .inl (cI, 16, .inl (zA (zU c1 z1 (c1 z1 + 1)))))] (by decide) rfl ?_
                subst hQ
                exact zj_zret C (zI_bool (by omega)) hr ⟨1, z1, z2, (u5 + (Z1 (2 + 3 * j1 + 1))), (zU P1 j1 z1), (zU R1 j1 z2), (zU U1 j1 u5), (zMk G1 (24 * z1 + ((6 * z2) + u5)) (Z1 (2 + 3 * j1 + 1)) j1), (zU b1 z1 (b1 z1 + Z1 (2 + 3 * j1 + 2))), (zU c1 z1 (c1 z1 + 1)), (by
        have e : zPlc (Z1 0) (Z1 (2 + 3 * j1 + 0)) (Z1 (2 + 3 * j1 + 1)) (Z1 (2 + 3 * j1 + 2)) pg rw un c1 b1 = (z1, z2, u5) := by unfold zPlc; rw [if_pos (by omega), hXr, if_pos (by omega), ← hd, ← hu5]
        refine Or.inr ⟨rfl, by rw [e]; exact hz2.1, by rw [e], by rw [e], by rw [e], ?_, ?_⟩
        · unfold zGr
          rw [if_pos (by omega), e]
        · unfold zNxC
          rw [if_pos (by omega), e]), rfl, rfl⟩ (by decide) (by decide) dX5_pourInRow_194
              refine zj_aload_n 105 0 C dX5_pourInRow_104 rfl rfl rfl ?_
              refine zj_get 108 0 12 C (T := TX5) im_X5_pourInRow_5 fl_X5_pourInRow_47 rfl rfl (by decide) rfl rfl dX5_pourInRow_105 rfl ?_
              refine zj_bipush 110 C dX5_pourInRow_108 rfl rfl ?_
              refine zj_icmp_lt 113 115 C (by omega) (by omega) dX5_pourInRow_110 rfl (by decide) (fun h110 => ?_) (fun h110 => ?_)
              · skip
                refine zj_aload_n 116 0 C dX5_pourInRow_115 rfl rfl rfl ?_
                refine zj_iload_n 117 2 C dX5_pourInRow_116 rfl rfl rfl ?_
                refine zj_if_eq 120 137 C (by omega) dX5_pourInRow_117 rfl (by decide) (fun h117 => ?_) (fun h117 => ?_)
                · skip
                  refine zj_aload_n 138 0 C dX5_pourInRow_137 rfl rfl rfl ?_
                  refine zj_get 141 0 14 C (T := TX5) im_X5_pourInRow_5 fl_X5_pourInRow_53 rfl rfl (by decide) rfl rfl dX5_pourInRow_138 rfl ?_
                  refine zj_put 144 0 14 [(q5, .inr (5, [.int (zI th), .ref m0, .ref m1, .int (zI sm), .ref m2, .int (zI ty), .ref m3, .ref m4, .ref m5, .ref m6, .ref m7, .ref m8, .int (zI z1), .int (zI z2), .int (zI z3), .ref m9, .int (zI pm), .int (zI sp), .int (zI wr), .long ha])), (m0, .inl (cI, 74, .inl (zA Z1))), (m3, .inl (cI, 24, .inl (zA P1))), (m4, .inl (cI, 24, .inl (zA R1))), (m5, .inl (cI, 24, .inl (zA U1))), (m6, .inl (cI, 384, .inl (zA G1))), (m7, .inl (cI, 16, .inl (zA b1))), (m8, .inl (cI, 16, .inl (zA c1)))] C (T := TX5) tyX5 tyX5_ok nmX5 im_X5_pourInRow_5 fl_X5_pourInRow_53 rfl rfl (by decide) rfl rfl rfl rfl rfl (Nat.le_of_ble_eq_true rfl) rfl dX5_pourInRow_141 rfl ?_
                  exact hL144 z3 (by omega) (by show _ = (if d1 = 1 ∧ z1 % 2 = 1 then 6 - Z1 (2 + 3 * j1 + 1) else z3); split <;> omega) (by omega)
                · skip
                  refine zj_aload_n 121 0 C dX5_pourInRow_120 rfl rfl rfl ?_
                  refine zj_get 124 0 12 C (T := TX5) im_X5_pourInRow_5 fl_X5_pourInRow_47 rfl rfl (by decide) rfl rfl dX5_pourInRow_121 rfl ?_
                  refine zj_iconst 125 C dX5_pourInRow_124 rfl ?_
                  refine zj_irem2 126 C dX5_pourInRow_125 rfl (by omega) ?_
                  refine zj_iconst 127 C dX5_pourInRow_126 rfl ?_
                  refine zj_icmp_ne 130 137 C (by omega) (by omega) dX5_pourInRow_127 rfl (by decide) (fun h127 => ?_) (fun h127 => ?_)
                  · skip
                    refine zj_aload_n 138 0 C dX5_pourInRow_137 rfl rfl rfl ?_
                    refine zj_get 141 0 14 C (T := TX5) im_X5_pourInRow_5 fl_X5_pourInRow_53 rfl rfl (by decide) rfl rfl dX5_pourInRow_138 rfl ?_
                    refine zj_put 144 0 14 [(q5, .inr (5, [.int (zI th), .ref m0, .ref m1, .int (zI sm), .ref m2, .int (zI ty), .ref m3, .ref m4, .ref m5, .ref m6, .ref m7, .ref m8, .int (zI z1), .int (zI z2), .int (zI z3), .ref m9, .int (zI pm), .int (zI sp), .int (zI wr), .long ha])), (m0, .inl (cI, 74, .inl (zA Z1))), (m3, .inl (cI, 24, .inl (zA P1))), (m4, .inl (cI, 24, .inl (zA R1))), (m5, .inl (cI, 24, .inl (zA U1))), (m6, .inl (cI, 384, .inl (zA G1))), (m7, .inl (cI, 16, .inl (zA b1))), (m8, .inl (cI, 16, .inl (zA c1)))] C (T := TX5) tyX5 tyX5_ok nmX5 im_X5_pourInRow_5 fl_X5_pourInRow_53 rfl rfl (by decide) rfl rfl rfl rfl rfl (Nat.le_of_ble_eq_true rfl) rfl dX5_pourInRow_141 rfl ?_
                    exact hL144 z3 (by omega) (by show _ = (if d1 = 1 ∧ z1 % 2 = 1 then 6 - Z1 (2 + 3 * j1 + 1) else z3); split <;> omega) (by omega)
                  · skip
                    refine zj_bipush 132 C dX5_pourInRow_130 rfl rfl ?_
                    refine zj_iload_n 133 3 C dX5_pourInRow_132 rfl rfl rfl ?_
                    refine zj_isub 134 C dX5_pourInRow_133 rfl ?_
                    refine zj_goto 141 C dX5_pourInRow_134 (by decide) ?_
                    refine zj_put 144 0 14 [(q5, .inr (5, [.int (zI th), .ref m0, .ref m1, .int (zI sm), .ref m2, .int (zI ty), .ref m3, .ref m4, .ref m5, .ref m6, .ref m7, .ref m8, .int (zI z1), .int (zI z2), .int (zI (6 - (Z1 (2 + 3 * j1 + 1)))), .ref m9, .int (zI pm), .int (zI sp), .int (zI wr), .long ha])), (m0, .inl (cI, 74, .inl (zA Z1))), (m3, .inl (cI, 24, .inl (zA P1))), (m4, .inl (cI, 24, .inl (zA R1))), (m5, .inl (cI, 24, .inl (zA U1))), (m6, .inl (cI, 384, .inl (zA G1))), (m7, .inl (cI, 16, .inl (zA b1))), (m8, .inl (cI, 16, .inl (zA c1)))] C (T := TX5) tyX5 tyX5_ok nmX5 im_X5_pourInRow_5 fl_X5_pourInRow_53 rfl rfl (by decide) rfl rfl rfl rfl rfl (Nat.le_of_ble_eq_true rfl) rfl dX5_pourInRow_141 rfl ?_
                    exact hL144 (6 - (Z1 (2 + 3 * j1 + 1))) (by omega) (by show _ = (if d1 = 1 ∧ z1 % 2 = 1 then 6 - Z1 (2 + 3 * j1 + 1) else z3); split <;> omega) (by omega)
              · skip
                refine zj_iconst 114 C dX5_pourInRow_113 rfl ?_
                subst hQ
                exact zj_zret C (zI_bool (by omega)) hr ⟨0, z1, z2, z3, P1, R1, U1, G1, b1, c1, (by exact Or.inl ⟨rfl, by unfold zPlc; rw [if_pos (by omega), hXr, if_neg (by omega)], rfl, rfl, rfl, rfl, rfl, rfl⟩), rfl, rfl⟩ (by decide) (by decide) dX5_pourInRow_114
            refine zj_iload_n 81 2 C dX5_pourInRow_80 rfl rfl rfl ?_
            refine zj_if_eq 84 104 C (by omega) dX5_pourInRow_81 rfl (by decide) (fun h81 => ?_) (fun h81 => ?_)
            · skip
              exact hL104 y1 y2 y3 (by rw [← hy]; show _ = (if d1 = 1 ∧ y1 % 2 = 0 ∧ y3 ≠ 0 then (zRp y1 y2, zRr y2, (0 : Int)) else (y1, y2, y3)); split <;> first | rfl | omega) (by first | omega | (unfold zRp zRr; split <;> omega))
            · skip
              refine zj_aload_n 85 0 C dX5_pourInRow_84 rfl rfl rfl ?_
              refine zj_get 88 0 12 C (T := TX5) im_X5_pourInRow_5 fl_X5_pourInRow_47 rfl rfl (by decide) rfl rfl dX5_pourInRow_85 rfl ?_
              refine zj_iconst 89 C dX5_pourInRow_88 rfl ?_
              refine zj_irem2 90 C dX5_pourInRow_89 rfl (by omega) ?_
              refine zj_if_ne 93 104 C (by omega) dX5_pourInRow_90 rfl (by decide) (fun h90 => ?_) (fun h90 => ?_)
              · skip
                exact hL104 y1 y2 y3 (by rw [← hy]; show _ = (if d1 = 1 ∧ y1 % 2 = 0 ∧ y3 ≠ 0 then (zRp y1 y2, zRr y2, (0 : Int)) else (y1, y2, y3)); split <;> first | rfl | omega) (by first | omega | (unfold zRp zRr; split <;> omega))
              · skip
                refine zj_aload_n 94 0 C dX5_pourInRow_93 rfl rfl rfl ?_
                refine zj_get 97 0 14 C (T := TX5) im_X5_pourInRow_5 fl_X5_pourInRow_53 rfl rfl (by decide) rfl rfl dX5_pourInRow_94 rfl ?_
                refine zj_if_eq 100 104 C (by omega) dX5_pourInRow_97 rfl (by decide) (fun h97 => ?_) (fun h97 => ?_)
                · skip
                  exact hL104 y1 y2 y3 (by rw [← hy]; show _ = (if d1 = 1 ∧ y1 % 2 = 0 ∧ y3 ≠ 0 then (zRp y1 y2, zRr y2, (0 : Int)) else (y1, y2, y3)); split <;> first | rfl | omega) (by first | omega | (unfold zRp zRr; split <;> omega))
                · skip
                  refine zj_aload_n 101 0 C dX5_pourInRow_100 rfl rfl rfl ?_
                  refine zj_cv 104 [0] [1, 2, 3, 4, 5, 6, 7] C (wr := [(m0, .inl (cI, 74, .inl (zA Z1))), (m3, .inl (cI, 24, .inl (zA P1))), (m4, .inl (cI, 24, .inl (zA R1))), (m5, .inl (cI, 24, .inl (zA U1))), (m6, .inl (cI, 384, .inl (zA G1))), (m7, .inl (cI, 16, .inl (zA b1))), (m8, .inl (cI, 16, .inl (zA c1)))]) (zr_V [0] C (As := []) (rest := []) (c_X5_nextRow l D cI cS cJ q5 m0 m1 m2 m3 m4 m5 m6 m7 m8 m9 th sm ty y1 y2 y3 pm sp wr ha (by omega)) (cwV 0 C.1.2.2.2.2 gX5_pourInRow_X5_nextRow rfl rfl rfl (by decide +kernel) ⟨Nat.le_of_ble_eq_true rfl, Nat.le_of_ble_eq_true rfl⟩) rfl (by decide) 0 rfl rfl rfl rfl (Nat.le_of_ble_eq_true rfl) dX5_pourInRow_101 ⟨Nat.le_of_ble_eq_true rfl, Nat.le_of_ble_eq_true rfl⟩) rfl rfl (by decide) (by decide) rfl (fun w_ hp_46 => ?_)
                  obtain rfl := hp_46
                  refine zj_ws (ws' := [(m0, .inl (cI, 74, .inl (zA Z1))), (m3, .inl (cI, 24, .inl (zA P1))), (m4, .inl (cI, 24, .inl (zA R1))), (m5, .inl (cI, 24, .inl (zA U1))), (m6, .inl (cI, 384, .inl (zA G1))), (m7, .inl (cI, 16, .inl (zA b1))), (m8, .inl (cI, 16, .inl (zA c1))), (q5, .inr (5, [.int (zI th), .ref m0, .ref m1, .int (zI sm), .ref m2, .int (zI ty), .ref m3, .ref m4, .ref m5, .ref m6, .ref m7, .ref m8, .int (zI (zRp y1 y2)), .int (zI (zRr y2)), .int (zI 0), .ref m9, .int (zI pm), .int (zI sp), .int (zI wr), .long ha]))]) rfl ?_
                  refine zj_re [7, 0, 1, 2, 3, 4, 5, 6] [(q5, .inr (5, [.int (zI th), .ref m0, .ref m1, .int (zI sm), .ref m2, .int (zI ty), .ref m3, .ref m4, .ref m5, .ref m6, .ref m7, .ref m8, .int (zI (zRp y1 y2)), .int (zI (zRr y2)), .int (zI 0), .ref m9, .int (zI pm), .int (zI sp), .int (zI wr), .long ha])), (m0, .inl (cI, 74, .inl (zA Z1))), (m3, .inl (cI, 24, .inl (zA P1))), (m4, .inl (cI, 24, .inl (zA R1))), (m5, .inl (cI, 24, .inl (zA U1))), (m6, .inl (cI, 384, .inl (zA G1))), (m7, .inl (cI, 16, .inl (zA b1))), (m8, .inl (cI, 16, .inl (zA c1)))] (by decide) rfl ?_
                  exact hL104 (zRp y1 y2) (zRr y2) 0 (by rw [← hy]; show _ = (if d1 = 1 ∧ y1 % 2 = 0 ∧ y3 ≠ 0 then (zRp y1 y2, zRr y2, (0 : Int)) else (y1, y2, y3)); split <;> first | rfl | omega) (by first | omega | (unfold zRp zRr; split <;> omega))
          refine zj_bipush 67 C dX5_pourInRow_65 rfl rfl ?_
          refine zj_aload_n 68 0 C dX5_pourInRow_67 rfl rfl rfl ?_
          refine zj_get 71 0 14 C (T := TX5) im_X5_pourInRow_5 fl_X5_pourInRow_53 rfl rfl (by decide) rfl rfl dX5_pourInRow_68 rfl ?_
          refine zj_isub 72 C dX5_pourInRow_71 rfl ?_
          refine zj_iload_n 73 3 C dX5_pourInRow_72 rfl rfl rfl ?_
          refine zj_icmp_ge 76 80 C (by omega) (by omega) dX5_pourInRow_73 rfl (by decide) (fun h73 => ?_) (fun h73 => ?_)
          · skip
            exact hL80 x1 x2 x3 (by show _ = (if 6 - x3 < Z1 (2 + 3 * j1 + 1) then (zRp x1 x2, zRr x2, (0 : Int)) else (x1, x2, x3)); split <;> first | rfl | omega) (by first | omega | (unfold zRp zRr; split <;> omega))
          · skip
            refine zj_aload_n 77 0 C dX5_pourInRow_76 rfl rfl rfl ?_
            refine zj_cv 80 [0] [1, 2, 3, 4, 5, 6, 7] C (wr := [(m0, .inl (cI, 74, .inl (zA Z1))), (m3, .inl (cI, 24, .inl (zA P1))), (m4, .inl (cI, 24, .inl (zA R1))), (m5, .inl (cI, 24, .inl (zA U1))), (m6, .inl (cI, 384, .inl (zA G1))), (m7, .inl (cI, 16, .inl (zA b1))), (m8, .inl (cI, 16, .inl (zA c1)))]) (zr_V [0] C (As := []) (rest := []) (c_X5_nextRow l D cI cS cJ q5 m0 m1 m2 m3 m4 m5 m6 m7 m8 m9 th sm ty x1 x2 x3 pm sp wr ha (by omega)) (cwV 0 C.1.2.2.2.2 gX5_pourInRow_X5_nextRow rfl rfl rfl (by decide +kernel) ⟨Nat.le_of_ble_eq_true rfl, Nat.le_of_ble_eq_true rfl⟩) rfl (by decide) 0 rfl rfl rfl rfl (Nat.le_of_ble_eq_true rfl) dX5_pourInRow_77 ⟨Nat.le_of_ble_eq_true rfl, Nat.le_of_ble_eq_true rfl⟩) rfl rfl (by decide) (by decide) rfl (fun w_ hp_48 => ?_)
            obtain rfl := hp_48
            refine zj_ws (ws' := [(m0, .inl (cI, 74, .inl (zA Z1))), (m3, .inl (cI, 24, .inl (zA P1))), (m4, .inl (cI, 24, .inl (zA R1))), (m5, .inl (cI, 24, .inl (zA U1))), (m6, .inl (cI, 384, .inl (zA G1))), (m7, .inl (cI, 16, .inl (zA b1))), (m8, .inl (cI, 16, .inl (zA c1))), (q5, .inr (5, [.int (zI th), .ref m0, .ref m1, .int (zI sm), .ref m2, .int (zI ty), .ref m3, .ref m4, .ref m5, .ref m6, .ref m7, .ref m8, .int (zI (zRp x1 x2)), .int (zI (zRr x2)), .int (zI 0), .ref m9, .int (zI pm), .int (zI sp), .int (zI wr), .long ha]))]) rfl ?_
            refine zj_re [7, 0, 1, 2, 3, 4, 5, 6] [(q5, .inr (5, [.int (zI th), .ref m0, .ref m1, .int (zI sm), .ref m2, .int (zI ty), .ref m3, .ref m4, .ref m5, .ref m6, .ref m7, .ref m8, .int (zI (zRp x1 x2)), .int (zI (zRr x2)), .int (zI 0), .ref m9, .int (zI pm), .int (zI sp), .int (zI wr), .long ha])), (m0, .inl (cI, 74, .inl (zA Z1))), (m3, .inl (cI, 24, .inl (zA P1))), (m4, .inl (cI, 24, .inl (zA R1))), (m5, .inl (cI, 24, .inl (zA U1))), (m6, .inl (cI, 384, .inl (zA G1))), (m7, .inl (cI, 16, .inl (zA b1))), (m8, .inl (cI, 16, .inl (zA c1)))] (by decide) rfl ?_
            exact hL80 (zRp x1 x2) (zRr x2) 0 (by show _ = (if 6 - x3 < Z1 (2 + 3 * j1 + 1) then (zRp x1 x2, zRr x2, (0 : Int)) else (x1, x2, x3)); split <;> first | rfl | omega) (by first | omega | (unfold zRp zRr; split <;> omega))
        refine zj_re [6, 5, 0, 1, 2, 3, 4, 7] [(q5, .inr (5, [.int (zI th), .ref m0, .ref m1, .int (zI sm), .ref m2, .int (zI ty), .ref m3, .ref m4, .ref m5, .ref m6, .ref m7, .ref m8, .int (zI pg), .int (zI rw), .int (zI un), .ref m9, .int (zI pm), .int (zI sp), .int (zI wr), .long ha])), (m0, .inl (cI, 74, .inl (zA Z1))), (m3, .inl (cI, 24, .inl (zA P1))), (m4, .inl (cI, 24, .inl (zA R1))), (m5, .inl (cI, 24, .inl (zA U1))), (m6, .inl (cI, 384, .inl (zA G1))), (m7, .inl (cI, 16, .inl (zA b1))), (m8, .inl (cI, 16, .inl (zA c1)))] (by decide) rfl ?_
        refine zj_lv [2, 3, 1, 0] [(0, .ref q5), (1, .int (zI j1)), (2, .int (zI d1)), (3, .int (zI (Z1 (2 + 3 * j1 + 1))))] rfl ?_
        exact hL65 pg rw un (by unfold zGc; split <;> first | rfl | omega) (by omega)
      · skip
        refine zj_aload_n 31 2 C dX5_pourInRow_30 rfl rfl rfl ?_
        refine zj_get 34 6 10 C (T := TX5) im_X5_pourInRow_5 fl_X5_pourInRow_31 rfl rfl (by decide) rfl rfl dX5_pourInRow_31 rfl ?_
        refine zj_aload_n 35 2 C dX5_pourInRow_34 rfl rfl rfl ?_
        refine zj_get 38 6 12 C (T := TX5) im_X5_pourInRow_5 fl_X5_pourInRow_47 rfl rfl (by decide) rfl rfl dX5_pourInRow_35 rfl ?_
        refine zj_iald 39 4 C (by omega) (by omega) rfl rfl dX5_pourInRow_38 rfl ?_
        refine zj_aload_n 40 2 C dX5_pourInRow_39 rfl rfl rfl ?_
        refine zj_iload_n 41 3 C dX5_pourInRow_40 rfl rfl rfl ?_
        refine zj_iconst 42 C dX5_pourInRow_41 rfl ?_
        refine zj_ci 45 [6, 5] [0, 1, 2, 3, 4, 7] C (wr := [(m3, .inl (cI, 24, .inl (zA P1))), (m4, .inl (cI, 24, .inl (zA R1))), (m5, .inl (cI, 24, .inl (zA U1))), (m6, .inl (cI, 384, .inl (zA G1))), (m7, .inl (cI, 16, .inl (zA b1))), (m8, .inl (cI, 16, .inl (zA c1)))]) (zr_V [6, 5] C (As := [.int (zI j1), .int (zI 2)]) (rest := [.int (zI (b1 pg))]) (c_X5_of l D cI cS cJ q5 m0 m1 m2 m3 m4 m5 m6 m7 m8 m9 th sm ty pg rw un pm sp wr ha Z1 j1 2 (by omega) (by omega)) (cwV 2 C.1.2.2.2.2 gX5_pourInRow_X5_of rfl rfl rfl (by decide +kernel) ⟨Nat.le_of_ble_eq_true rfl, Nat.le_of_ble_eq_true rfl⟩) rfl (by decide) 0 rfl rfl rfl rfl (Nat.le_of_ble_eq_true rfl) dX5_pourInRow_42 ⟨Nat.le_of_ble_eq_true rfl, Nat.le_of_ble_eq_true rfl⟩) rfl rfl (by decide) (by decide) rfl (fun r_49 w_ hp_50 => ?_)
        obtain ⟨rfl, rfl⟩ := hp_50
        refine zj_ws (ws' := [(m3, .inl (cI, 24, .inl (zA P1))), (m4, .inl (cI, 24, .inl (zA R1))), (m5, .inl (cI, 24, .inl (zA U1))), (m6, .inl (cI, 384, .inl (zA G1))), (m7, .inl (cI, 16, .inl (zA b1))), (m8, .inl (cI, 16, .inl (zA c1))), (q5, .inr (5, [.int (zI th), .ref m0, .ref m1, .int (zI sm), .ref m2, .int (zI ty), .ref m3, .ref m4, .ref m5, .ref m6, .ref m7, .ref m8, .int (zI pg), .int (zI rw), .int (zI un), .ref m9, .int (zI pm), .int (zI sp), .int (zI wr), .long ha])), (m0, .inl (cI, 74, .inl (zA Z1)))]) rfl ?_
        refine zj_iadd 46 C dX5_pourInRow_45 rfl ?_
        refine zj_aload_n 47 2 C dX5_pourInRow_46 rfl rfl rfl ?_
        refine zj_get 50 6 1 C (T := TX5) im_X5_pourInRow_5 fl_X5_pourInRow_7 rfl rfl (by decide) rfl rfl dX5_pourInRow_47 rfl ?_
        refine zj_iconst 51 C dX5_pourInRow_50 rfl ?_
        refine zj_iald 52 7 C (by omega) (by omega) rfl rfl dX5_pourInRow_51 rfl ?_
        refine zj_icmp_le 55 65 C (by omega) (by omega) dX5_pourInRow_52 rfl (by decide) (fun h52 => ?_) (fun h52 => ?_)
        · skip
          have hL65 : ∀ (x1 : Int) (x2 : Int) (x3 : Int), ((x1, x2, x3) = (if zGc c1 b1 pg (Z1 (2 + 3 * j1 + 2)) (Z1 0) then (pg + 1, 0, 0) else (pg, rw, un))) → (0 ≤ x1 ∧ x1 ≤ 16 ∧ 0 ≤ x2 ∧ x2 ≤ 3 ∧ 0 ≤ x3 ∧ x3 ≤ 6) → zJ p l e rm_X5_pourInRow s m args below meth c Q D A 4 [(q5, .inr (5, [.int (zI th), .ref m0, .ref m1, .int (zI sm), .ref m2, .int (zI ty), .ref m3, .ref m4, .ref m5, .ref m6, .ref m7, .ref m8, .int (zI x1), .int (zI x2), .int (zI x3), .ref m9, .int (zI pm), .int (zI sp), .int (zI wr), .long ha])), (m0, .inl (cI, 74, .inl (zA Z1))), (m3, .inl (cI, 24, .inl (zA P1))), (m4, .inl (cI, 24, .inl (zA R1))), (m5, .inl (cI, 24, .inl (zA U1))), (m6, .inl (cI, 384, .inl (zA G1))), (m7, .inl (cI, 16, .inl (zA b1))), (m8, .inl (cI, 16, .inl (zA c1)))] 0 0 [(0, .ref q5), (1, .int (zI j1)), (2, .int (zI d1)), (3, .int (zI (Z1 (2 + 3 * j1 + 1))))] 65 [] := by
            intro x1 x2 x3 hx hx2
            have hL80 : ∀ (y1 : Int) (y2 : Int) (y3 : Int), ((y1, y2, y3) = zX2 (Z1 (2 + 3 * j1 + 1)) (x1, x2, x3)) → (0 ≤ y1 ∧ y1 ≤ 17 ∧ 0 ≤ y2 ∧ y2 ≤ 3 ∧ 0 ≤ y3 ∧ y3 ≤ 6) → zJ p l e rm_X5_pourInRow s m args below meth c Q D A 4 [(q5, .inr (5, [.int (zI th), .ref m0, .ref m1, .int (zI sm), .ref m2, .int (zI ty), .ref m3, .ref m4, .ref m5, .ref m6, .ref m7, .ref m8, .int (zI y1), .int (zI y2), .int (zI y3), .ref m9, .int (zI pm), .int (zI sp), .int (zI wr), .long ha])), (m0, .inl (cI, 74, .inl (zA Z1))), (m3, .inl (cI, 24, .inl (zA P1))), (m4, .inl (cI, 24, .inl (zA R1))), (m5, .inl (cI, 24, .inl (zA U1))), (m6, .inl (cI, 384, .inl (zA G1))), (m7, .inl (cI, 16, .inl (zA b1))), (m8, .inl (cI, 16, .inl (zA c1)))] 0 0 [(0, .ref q5), (1, .int (zI j1)), (2, .int (zI d1)), (3, .int (zI (Z1 (2 + 3 * j1 + 1))))] 80 [] := by
              intro y1 y2 y3 hy hy2
              have hL104 : ∀ (z1 : Int) (z2 : Int) (z3 : Int), ((z1, z2, z3) = zX3 d1 (zX2 (Z1 (2 + 3 * j1 + 1)) (x1, x2, x3))) → (0 ≤ z1 ∧ z1 ≤ 18 ∧ 0 ≤ z2 ∧ z2 ≤ 3 ∧ 0 ≤ z3 ∧ z3 ≤ 6) → zJ p l e rm_X5_pourInRow s m args below meth c Q D A 4 [(q5, .inr (5, [.int (zI th), .ref m0, .ref m1, .int (zI sm), .ref m2, .int (zI ty), .ref m3, .ref m4, .ref m5, .ref m6, .ref m7, .ref m8, .int (zI z1), .int (zI z2), .int (zI z3), .ref m9, .int (zI pm), .int (zI sp), .int (zI wr), .long ha])), (m0, .inl (cI, 74, .inl (zA Z1))), (m3, .inl (cI, 24, .inl (zA P1))), (m4, .inl (cI, 24, .inl (zA R1))), (m5, .inl (cI, 24, .inl (zA U1))), (m6, .inl (cI, 384, .inl (zA G1))), (m7, .inl (cI, 16, .inl (zA b1))), (m8, .inl (cI, 16, .inl (zA c1)))] 0 0 [(0, .ref q5), (1, .int (zI j1)), (2, .int (zI d1)), (3, .int (zI (Z1 (2 + 3 * j1 + 1))))] 104 [] := by
                intro z1 z2 z3 hz hz2
                have hXr : zXr (Z1 0) (Z1 (2 + 3 * j1 + 0)) (Z1 (2 + 3 * j1 + 1)) (Z1 (2 + 3 * j1 + 2)) pg rw un c1 b1 = (z1, z2, z3) := by unfold zXr; rw [← hx, ← hd, hz]
                have hfit : z3 + Z1 (2 + 3 * j1 + 1) ≤ 6 := by have q := zXr_b (sg := Z1 0) (k := Z1 (2 + 3 * j1 + 0)) (t := Z1 (2 + 3 * j1 + 2)) (c := c1) (b := b1) hW hp hr1 hu1; rw [hXr] at q; exact q.2.2.2
                have hL144 : ∀ (u5 : Int), (z1 < 16) → (u5 = zXu d1 (Z1 (2 + 3 * j1 + 1)) (z1, z2, z3)) → (0 ≤ u5 ∧ u5 + Z1 (2 + 3 * j1 + 1) ≤ 6) → zJ p l e rm_X5_pourInRow s m args below meth c Q D A 4 [(q5, .inr (5, [.int (zI th), .ref m0, .ref m1, .int (zI sm), .ref m2, .int (zI ty), .ref m3, .ref m4, .ref m5, .ref m6, .ref m7, .ref m8, .int (zI z1), .int (zI z2), .int (zI u5), .ref m9, .int (zI pm), .int (zI sp), .int (zI wr), .long ha])), (m0, .inl (cI, 74, .inl (zA Z1))), (m3, .inl (cI, 24, .inl (zA P1))), (m4, .inl (cI, 24, .inl (zA R1))), (m5, .inl (cI, 24, .inl (zA U1))), (m6, .inl (cI, 384, .inl (zA G1))), (m7, .inl (cI, 16, .inl (zA b1))), (m8, .inl (cI, 16, .inl (zA c1)))] 0 0 [(0, .ref q5), (1, .int (zI j1)), (2, .int (zI d1)), (3, .int (zI (Z1 (2 + 3 * j1 + 1))))] 144 [] := by
                  intro u5 hz6 hu5 hu6
                  refine zj_aload_n 145 0 C dX5_pourInRow_144 rfl rfl rfl ?_
                  refine zj_iload_n 146 1 C dX5_pourInRow_145 rfl rfl rfl ?_
                  refine zj_aload_n 147 0 C dX5_pourInRow_146 rfl rfl rfl ?_
                  refine zj_get 150 0 12 C (T := TX5) im_X5_pourInRow_5 fl_X5_pourInRow_47 rfl rfl (by decide) rfl rfl dX5_pourInRow_147 rfl ?_
                  refine zj_aload_n 151 0 C dX5_pourInRow_150 rfl rfl rfl ?_
                  refine zj_get 154 0 13 C (T := TX5) im_X5_pourInRow_5 fl_X5_pourInRow_50 rfl rfl (by decide) rfl rfl dX5_pourInRow_151 rfl ?_
                  refine zj_aload_n 155 0 C dX5_pourInRow_154 rfl rfl rfl ?_
                  refine zj_get 158 0 14 C (T := TX5) im_X5_pourInRow_5 fl_X5_pourInRow_53 rfl rfl (by decide) rfl rfl dX5_pourInRow_155 rfl ?_
                  refine zj_cv 161 [0, 1, 2, 3, 4, 6] [5, 7] C (wr := [(m6, .inl (cI, 384, .inl (zA G1))), (m8, .inl (cI, 16, .inl (zA c1)))]) (zr_V [0, 1, 2, 3, 4, 6] C (As := [.int (zI j1), .int (zI z1), .int (zI z2), .int (zI u5)]) (rest := []) (c_X5_stand l D cI cS cJ q5 m0 m1 m2 m3 m4 m5 m6 m7 m8 m9 th sm ty z1 z2 u5 pm sp wr ha Z1 P1 R1 U1 b1 j1 z1 z2 u5 (by omega) (by omega)) (cwV 4 C.1.2.2.2.2 gX5_pourInRow_X5_stand rfl rfl rfl (by decide +kernel) ⟨Nat.le_of_ble_eq_true rfl, Nat.le_of_ble_eq_true rfl⟩) rfl (by decide) 0 rfl rfl rfl rfl (Nat.le_of_ble_eq_true rfl) dX5_pourInRow_158 ⟨Nat.le_of_ble_eq_true rfl, Nat.le_of_ble_eq_true rfl⟩) rfl rfl (by decide) (by decide) rfl (fun w_ hp_52 => ?_)
                  obtain rfl := hp_52
                  refine zj_ws (ws' := [(m6, .inl (cI, 384, .inl (zA G1))), (m8, .inl (cI, 16, .inl (zA c1))), (q5, .inr (5, [.int (zI th), .ref m0, .ref m1, .int (zI sm), .ref m2, .int (zI ty), .ref m3, .ref m4, .ref m5, .ref m6, .ref m7, .ref m8, .int (zI z1), .int (zI z2), .int (zI u5), .ref m9, .int (zI pm), .int (zI sp), .int (zI wr), .long ha])), (m0, .inl (cI, 74, .inl (zA Z1))), (m3, .inl (cI, 24, .inl (zA (zU P1 j1 z1)))), (m4, .inl (cI, 24, .inl (zA (zU R1 j1 z2)))), (m5, .inl (cI, 24, .inl (zA (zU U1 j1 u5)))), (m7, .inl (cI, 16, .inl (zA (zU b1 z1 (b1 z1 + Z1 (2 + 3 * j1 + 2))))))]) rfl ?_
                  refine zj_aload_n 162 0 C dX5_pourInRow_161 rfl rfl rfl ?_
                  refine zj_iload_n 163 1 C dX5_pourInRow_162 rfl rfl rfl ?_
                  refine zj_aload_n 164 0 C dX5_pourInRow_163 rfl rfl rfl ?_
                  refine zj_get 167 2 12 C (T := TX5) im_X5_pourInRow_5 fl_X5_pourInRow_47 rfl rfl (by decide) rfl rfl dX5_pourInRow_164 rfl ?_
                  refine zj_bipush 169 C dX5_pourInRow_167 rfl rfl ?_
                  refine zj_aload_n 170 0 C dX5_pourInRow_169 rfl rfl rfl ?_
                  refine zj_get 173 2 13 C (T := TX5) im_X5_pourInRow_5 fl_X5_pourInRow_50 rfl rfl (by decide) rfl rfl dX5_pourInRow_170 rfl ?_
                  refine zj_imul 174 C dX5_pourInRow_173 rfl ?_
                  refine zj_aload_n 175 0 C dX5_pourInRow_174 rfl rfl rfl ?_
                  refine zj_get 178 2 14 C (T := TX5) im_X5_pourInRow_5 fl_X5_pourInRow_53 rfl rfl (by decide) rfl rfl dX5_pourInRow_175 rfl ?_
                  refine zj_iadd 179 C dX5_pourInRow_178 rfl ?_
                  refine zj_iload_n 180 3 C dX5_pourInRow_179 rfl rfl rfl ?_
                  refine zj_cv 183 [2, 0, 1] [3, 4, 5, 6, 7] C (wr := [(m0, .inl (cI, 74, .inl (zA Z1))), (m3, .inl (cI, 24, .inl (zA (zU P1 j1 z1)))), (m4, .inl (cI, 24, .inl (zA (zU R1 j1 z2)))), (m5, .inl (cI, 24, .inl (zA (zU U1 j1 u5)))), (m7, .inl (cI, 16, .inl (zA (zU b1 z1 (b1 z1 + Z1 (2 + 3 * j1 + 2))))))]) (zr_V [2, 0, 1] C (As := [.int (zI j1), .int (zI z1), .int (zI ((6 * z2) + u5)), .int (zI (Z1 (2 + 3 * j1 + 1)))]) (rest := []) (c_X5_mark l D cI cS cJ q5 m0 m1 m2 m3 m4 m5 m6 m7 m8 m9 th sm ty z1 z2 u5 pm sp wr ha c1 G1 j1 z1 ((6 * z2) + u5) (Z1 (2 + 3 * j1 + 1)) (by omega) (by omega)) (cwV 4 C.1.2.2.2.2 gX5_pourInRow_X5_mark rfl rfl rfl (by decide +kernel) ⟨Nat.le_of_ble_eq_true rfl, Nat.le_of_ble_eq_true rfl⟩) rfl (by decide) 0 rfl rfl rfl rfl (Nat.le_of_ble_eq_true rfl) dX5_pourInRow_180 ⟨Nat.le_of_ble_eq_true rfl, Nat.le_of_ble_eq_true rfl⟩) rfl rfl (by decide) (by decide) rfl (fun w_ hp_54 => ?_)
                  obtain rfl := hp_54
                  refine zj_ws (ws' := [(m0, .inl (cI, 74, .inl (zA Z1))), (m3, .inl (cI, 24, .inl (zA (zU P1 j1 z1)))), (m4, .inl (cI, 24, .inl (zA (zU R1 j1 z2)))), (m5, .inl (cI, 24, .inl (zA (zU U1 j1 u5)))), (m7, .inl (cI, 16, .inl (zA (zU b1 z1 (b1 z1 + Z1 (2 + 3 * j1 + 2)))))), (q5, .inr (5, [.int (zI th), .ref m0, .ref m1, .int (zI sm), .ref m2, .int (zI ty), .ref m3, .ref m4, .ref m5, .ref m6, .ref m7, .ref m8, .int (zI z1), .int (zI z2), .int (zI u5), .ref m9, .int (zI pm), .int (zI sp), .int (zI wr), .long ha])), (m6, .inl (cI, 384, .inl (zA (zMk G1 (24 * z1 + ((6 * z2) + u5)) (Z1 (2 + 3 * j1 + 1)) j1)))), (m8, .inl (cI, 16, .inl (zA (zU c1 z1 (c1 z1 + 1)))))]) rfl ?_
                  refine zj_aload_n 184 0 C dX5_pourInRow_183 rfl rfl rfl ?_
                  refine zj_dup 185 C dX5_pourInRow_184 rfl rfl ?_
                  refine zj_get 188 5 14 C (T := TX5) im_X5_pourInRow_5 fl_X5_pourInRow_53 rfl rfl (by decide) rfl rfl dX5_pourInRow_185 rfl ?_
                  refine zj_iload_n 189 3 C dX5_pourInRow_188 rfl rfl rfl ?_
                  refine zj_iadd 190 C dX5_pourInRow_189 rfl ?_
                  refine zj_put 193 5 14 [(m0, .inl (cI, 74, .inl (zA Z1))), (m3, .inl (cI, 24, .inl (zA (zU P1 j1 z1)))), (m4, .inl (cI, 24, .inl (zA (zU R1 j1 z2)))), (m5, .inl (cI, 24, .inl (zA (zU U1 j1 u5)))), (m7, .inl (cI, 16, .inl (zA (zU b1 z1 (b1 z1 + Z1 (2 + 3 * j1 + 2)))))), (q5, .inr (5, [.int (zI th), .ref m0, .ref m1, .int (zI sm), .ref m2, .int (zI ty), .ref m3, .ref m4, .ref m5, .ref m6, .ref m7, .ref m8, .int (zI z1), .int (zI z2), .int (zI (u5 + (Z1 (2 + 3 * j1 + 1)))), .ref m9, .int (zI pm), .int (zI sp), .int (zI wr), .long ha])), (m6, .inl (cI, 384, .inl (zA (zMk G1 (24 * z1 + ((6 * z2) + u5)) (Z1 (2 + 3 * j1 + 1)) j1)))), (m8, .inl (cI, 16, .inl (zA (zU c1 z1 (c1 z1 + 1)))))] C (T := TX5) tyX5 tyX5_ok nmX5 im_X5_pourInRow_5 fl_X5_pourInRow_53 rfl rfl (by decide) rfl rfl rfl rfl rfl (Nat.le_of_ble_eq_true rfl) rfl dX5_pourInRow_190 rfl ?_
                  refine zj_iconst 194 C dX5_pourInRow_193 rfl ?_
                  refine zj_re [5, 0, 1, 2, 3, 6, 4, 7] [(q5, .inr (5, [.int (zI th), .ref m0, .ref m1, .int (zI sm), .ref m2, .int (zI ty), .ref m3, .ref m4, .ref m5, .ref m6, .ref m7, .ref m8, .int (zI z1), .int (zI z2), .int (zI (u5 + (Z1 (2 + 3 * j1 + 1)))), .ref m9, .int (zI pm), .int (zI sp), .int (zI wr), .long ha])), (m0, .inl (cI, 74, .inl (zA Z1))), (m3, .inl (cI, 24, .inl (zA (zU P1 j1 z1)))), (m4, .inl (cI, 24, .inl (zA (zU R1 j1 z2)))), (m5, .inl (cI, 24, .inl (zA (zU U1 j1 u5)))), (m6, .inl (cI, 384, .inl (zA (zMk G1 (24 * z1 + ((6 * z2) + u5)) (Z1 (2 + 3 * j1 + 1)) j1)))), (m7, .inl (cI, 16, .inl (zA (zU b1 z1 (b1 z1 + Z1 (2 + 3 * j1 + 2)))))), (m8, .inl (cI, 16, .inl (zA (zU c1 z1 (c1 z1 + 1)))))] (by decide) rfl ?_
                  subst hQ
                  exact zj_zret C (zI_bool (by omega)) hr ⟨1, z1, z2, (u5 + (Z1 (2 + 3 * j1 + 1))), (zU P1 j1 z1), (zU R1 j1 z2), (zU U1 j1 u5), (zMk G1 (24 * z1 + ((6 * z2) + u5)) (Z1 (2 + 3 * j1 + 1)) j1), (zU b1 z1 (b1 z1 + Z1 (2 + 3 * j1 + 2))), (zU c1 z1 (c1 z1 + 1)), (by
        have e : zPlc (Z1 0) (Z1 (2 + 3 * j1 + 0)) (Z1 (2 + 3 * j1 + 1)) (Z1 (2 + 3 * j1 + 2)) pg rw un c1 b1 = (z1, z2, u5) := by unfold zPlc; rw [if_pos (by omega), hXr, if_pos (by omega), ← hd, ← hu5]
        refine Or.inr ⟨rfl, by rw [e]; exact hz2.1, by rw [e], by rw [e], by rw [e], ?_, ?_⟩
        · unfold zGr
          rw [if_pos (by omega), e]
        · unfold zNxC
          rw [if_pos (by omega), e]), rfl, rfl⟩ (by decide) (by decide) dX5_pourInRow_194
                refine zj_aload_n 105 0 C dX5_pourInRow_104 rfl rfl rfl ?_
                refine zj_get 108 0 12 C (T := TX5) im_X5_pourInRow_5 fl_X5_pourInRow_47 rfl rfl (by decide) rfl rfl dX5_pourInRow_105 rfl ?_
                refine zj_bipush 110 C dX5_pourInRow_108 rfl rfl ?_
                refine zj_icmp_lt 113 115 C (by omega) (by omega) dX5_pourInRow_110 rfl (by decide) (fun h110 => ?_) (fun h110 => ?_)
                · skip
                  refine zj_aload_n 116 0 C dX5_pourInRow_115 rfl rfl rfl ?_
                  refine zj_iload_n 117 2 C dX5_pourInRow_116 rfl rfl rfl ?_
                  refine zj_if_eq 120 137 C (by omega) dX5_pourInRow_117 rfl (by decide) (fun h117 => ?_) (fun h117 => ?_)
                  · skip
                    refine zj_aload_n 138 0 C dX5_pourInRow_137 rfl rfl rfl ?_
                    refine zj_get 141 0 14 C (T := TX5) im_X5_pourInRow_5 fl_X5_pourInRow_53 rfl rfl (by decide) rfl rfl dX5_pourInRow_138 rfl ?_
                    refine zj_put 144 0 14 [(q5, .inr (5, [.int (zI th), .ref m0, .ref m1, .int (zI sm), .ref m2, .int (zI ty), .ref m3, .ref m4, .ref m5, .ref m6, .ref m7, .ref m8, .int (zI z1), .int (zI z2), .int (zI z3), .ref m9, .int (zI pm), .int (zI sp), .int (zI wr), .long ha])), (m0, .inl (cI, 74, .inl (zA Z1))), (m3, .inl (cI, 24, .inl (zA P1))), (m4, .inl (cI, 24, .inl (zA R1))), (m5, .inl (cI, 24, .inl (zA U1))), (m6, .inl (cI, 384, .inl (zA G1))), (m7, .inl (cI, 16, .inl (zA b1))), (m8, .inl (cI, 16, .inl (zA c1)))] C (T := TX5) tyX5 tyX5_ok nmX5 im_X5_pourInRow_5 fl_X5_pourInRow_53 rfl rfl (by decide) rfl rfl rfl rfl rfl (Nat.le_of_ble_eq_true rfl) rfl dX5_pourInRow_141 rfl ?_
                    exact hL144 z3 (by omega) (by show _ = (if d1 = 1 ∧ z1 % 2 = 1 then 6 - Z1 (2 + 3 * j1 + 1) else z3); split <;> omega) (by omega)
                  · skip
                    refine zj_aload_n 121 0 C dX5_pourInRow_120 rfl rfl rfl ?_
                    refine zj_get 124 0 12 C (T := TX5) im_X5_pourInRow_5 fl_X5_pourInRow_47 rfl rfl (by decide) rfl rfl dX5_pourInRow_121 rfl ?_
                    refine zj_iconst 125 C dX5_pourInRow_124 rfl ?_
                    refine zj_irem2 126 C dX5_pourInRow_125 rfl (by omega) ?_
                    refine zj_iconst 127 C dX5_pourInRow_126 rfl ?_
                    refine zj_icmp_ne 130 137 C (by omega) (by omega) dX5_pourInRow_127 rfl (by decide) (fun h127 => ?_) (fun h127 => ?_)
                    · skip
                      refine zj_aload_n 138 0 C dX5_pourInRow_137 rfl rfl rfl ?_
                      refine zj_get 141 0 14 C (T := TX5) im_X5_pourInRow_5 fl_X5_pourInRow_53 rfl rfl (by decide) rfl rfl dX5_pourInRow_138 rfl ?_
                      refine zj_put 144 0 14 [(q5, .inr (5, [.int (zI th), .ref m0, .ref m1, .int (zI sm), .ref m2, .int (zI ty), .ref m3, .ref m4, .ref m5, .ref m6, .ref m7, .ref m8, .int (zI z1), .int (zI z2), .int (zI z3), .ref m9, .int (zI pm), .int (zI sp), .int (zI wr), .long ha])), (m0, .inl (cI, 74, .inl (zA Z1))), (m3, .inl (cI, 24, .inl (zA P1))), (m4, .inl (cI, 24, .inl (zA R1))), (m5, .inl (cI, 24, .inl (zA U1))), (m6, .inl (cI, 384, .inl (zA G1))), (m7, .inl (cI, 16, .inl (zA b1))), (m8, .inl (cI, 16, .inl (zA c1)))] C (T := TX5) tyX5 tyX5_ok nmX5 im_X5_pourInRow_5 fl_X5_pourInRow_53 rfl rfl (by decide) rfl rfl rfl rfl rfl (Nat.le_of_ble_eq_true rfl) rfl dX5_pourInRow_141 rfl ?_
                      exact hL144 z3 (by omega) (by show _ = (if d1 = 1 ∧ z1 % 2 = 1 then 6 - Z1 (2 + 3 * j1 + 1) else z3); split <;> omega) (by omega)
                    · skip
                      refine zj_bipush 132 C dX5_pourInRow_130 rfl rfl ?_
                      refine zj_iload_n 133 3 C dX5_pourInRow_132 rfl rfl rfl ?_
                      refine zj_isub 134 C dX5_pourInRow_133 rfl ?_
                      refine zj_goto 141 C dX5_pourInRow_134 (by decide) ?_
                      refine zj_put 144 0 14 [(q5, .inr (5, [.int (zI th), .ref m0, .ref m1, .int (zI sm), .ref m2, .int (zI ty), .ref m3, .ref m4, .ref m5, .ref m6, .ref m7, .ref m8, .int (zI z1), .int (zI z2), .int (zI (6 - (Z1 (2 + 3 * j1 + 1)))), .ref m9, .int (zI pm), .int (zI sp), .int (zI wr), .long ha])), (m0, .inl (cI, 74, .inl (zA Z1))), (m3, .inl (cI, 24, .inl (zA P1))), (m4, .inl (cI, 24, .inl (zA R1))), (m5, .inl (cI, 24, .inl (zA U1))), (m6, .inl (cI, 384, .inl (zA G1))), (m7, .inl (cI, 16, .inl (zA b1))), (m8, .inl (cI, 16, .inl (zA c1)))] C (T := TX5) tyX5 tyX5_ok nmX5 im_X5_pourInRow_5 fl_X5_pourInRow_53 rfl rfl (by decide) rfl rfl rfl rfl rfl (Nat.le_of_ble_eq_true rfl) rfl dX5_pourInRow_141 rfl ?_
                      exact hL144 (6 - (Z1 (2 + 3 * j1 + 1))) (by omega) (by show _ = (if d1 = 1 ∧ z1 % 2 = 1 then 6 - Z1 (2 + 3 * j1 + 1) else z3); split <;> omega) (by omega)
                · skip
                  refine zj_iconst 114 C dX5_pourInRow_113 rfl ?_
                  subst hQ
                  exact zj_zret C (zI_bool (by omega)) hr ⟨0, z1, z2, z3, P1, R1, U1, G1, b1, c1, (by exact Or.inl ⟨rfl, by unfold zPlc; rw [if_pos (by omega), hXr, if_neg (by omega)], rfl, rfl, rfl, rfl, rfl, rfl⟩), rfl, rfl⟩ (by decide) (by decide) dX5_pourInRow_114
              refine zj_iload_n 81 2 C dX5_pourInRow_80 rfl rfl rfl ?_
              refine zj_if_eq 84 104 C (by omega) dX5_pourInRow_81 rfl (by decide) (fun h81 => ?_) (fun h81 => ?_)
              · skip
                exact hL104 y1 y2 y3 (by rw [← hy]; show _ = (if d1 = 1 ∧ y1 % 2 = 0 ∧ y3 ≠ 0 then (zRp y1 y2, zRr y2, (0 : Int)) else (y1, y2, y3)); split <;> first | rfl | omega) (by first | omega | (unfold zRp zRr; split <;> omega))
              · skip
                refine zj_aload_n 85 0 C dX5_pourInRow_84 rfl rfl rfl ?_
                refine zj_get 88 0 12 C (T := TX5) im_X5_pourInRow_5 fl_X5_pourInRow_47 rfl rfl (by decide) rfl rfl dX5_pourInRow_85 rfl ?_
                refine zj_iconst 89 C dX5_pourInRow_88 rfl ?_
                refine zj_irem2 90 C dX5_pourInRow_89 rfl (by omega) ?_
                refine zj_if_ne 93 104 C (by omega) dX5_pourInRow_90 rfl (by decide) (fun h90 => ?_) (fun h90 => ?_)
                · skip
                  exact hL104 y1 y2 y3 (by rw [← hy]; show _ = (if d1 = 1 ∧ y1 % 2 = 0 ∧ y3 ≠ 0 then (zRp y1 y2, zRr y2, (0 : Int)) else (y1, y2, y3)); split <;> first | rfl | omega) (by first | omega | (unfold zRp zRr; split <;> omega))
                · skip
                  refine zj_aload_n 94 0 C dX5_pourInRow_93 rfl rfl rfl ?_
                  refine zj_get 97 0 14 C (T := TX5) im_X5_pourInRow_5 fl_X5_pourInRow_53 rfl rfl (by decide) rfl rfl dX5_pourInRow_94 rfl ?_
                  refine zj_if_eq 100 104 C (by omega) dX5_pourInRow_97 rfl (by decide) (fun h97 => ?_) (fun h97 => ?_)
                  · skip
                    exact hL104 y1 y2 y3 (by rw [← hy]; show _ = (if d1 = 1 ∧ y1 % 2 = 0 ∧ y3 ≠ 0 then (zRp y1 y2, zRr y2, (0 : Int)) else (y1, y2, y3)); split <;> first | rfl | omega) (by first | omega | (unfold zRp zRr; split <;> omega))
                  · skip
                    refine zj_aload_n 101 0 C dX5_pourInRow_100 rfl rfl rfl ?_
                    refine zj_cv 104 [0] [1, 2, 3, 4, 5, 6, 7] C (wr := [(m0, .inl (cI, 74, .inl (zA Z1))), (m3, .inl (cI, 24, .inl (zA P1))), (m4, .inl (cI, 24, .inl (zA R1))), (m5, .inl (cI, 24, .inl (zA U1))), (m6, .inl (cI, 384, .inl (zA G1))), (m7, .inl (cI, 16, .inl (zA b1))), (m8, .inl (cI, 16, .inl (zA c1)))]) (zr_V [0] C (As := []) (rest := []) (c_X5_nextRow l D cI cS cJ q5 m0 m1 m2 m3 m4 m5 m6 m7 m8 m9 th sm ty y1 y2 y3 pm sp wr ha (by omega)) (cwV 0 C.1.2.2.2.2 gX5_pourInRow_X5_nextRow rfl rfl rfl (by decide +kernel) ⟨Nat.le_of_ble_eq_true rfl, Nat.le_of_ble_eq_true rfl⟩) rfl (by decide) 0 rfl rfl rfl rfl (Nat.le_of_ble_eq_true rfl) dX5_pourInRow_101 ⟨Nat.le_of_ble_eq_true rfl, Nat.le_of_ble_eq_true rfl⟩) rfl rfl (by decide) (by decide) rfl (fun w_ hp_56 => ?_)
                    obtain rfl := hp_56
                    refine zj_ws (ws' := [(m0, .inl (cI, 74, .inl (zA Z1))), (m3, .inl (cI, 24, .inl (zA P1))), (m4, .inl (cI, 24, .inl (zA R1))), (m5, .inl (cI, 24, .inl (zA U1))), (m6, .inl (cI, 384, .inl (zA G1))), (m7, .inl (cI, 16, .inl (zA b1))), (m8, .inl (cI, 16, .inl (zA c1))), (q5, .inr (5, [.int (zI th), .ref m0, .ref m1, .int (zI sm), .ref m2, .int (zI ty), .ref m3, .ref m4, .ref m5, .ref m6, .ref m7, .ref m8, .int (zI (zRp y1 y2)), .int (zI (zRr y2)), .int (zI 0), .ref m9, .int (zI pm), .int (zI sp), .int (zI wr), .long ha]))]) rfl ?_
                    refine zj_re [7, 0, 1, 2, 3, 4, 5, 6] [(q5, .inr (5, [.int (zI th), .ref m0, .ref m1, .int (zI sm), .ref m2, .int (zI ty), .ref m3, .ref m4, .ref m5, .ref m6, .ref m7, .ref m8, .int (zI (zRp y1 y2)), .int (zI (zRr y2)), .int (zI 0), .ref m9, .int (zI pm), .int (zI sp), .int (zI wr), .long ha])), (m0, .inl (cI, 74, .inl (zA Z1))), (m3, .inl (cI, 24, .inl (zA P1))), (m4, .inl (cI, 24, .inl (zA R1))), (m5, .inl (cI, 24, .inl (zA U1))), (m6, .inl (cI, 384, .inl (zA G1))), (m7, .inl (cI, 16, .inl (zA b1))), (m8, .inl (cI, 16, .inl (zA c1)))] (by decide) rfl ?_
                    exact hL104 (zRp y1 y2) (zRr y2) 0 (by rw [← hy]; show _ = (if d1 = 1 ∧ y1 % 2 = 0 ∧ y3 ≠ 0 then (zRp y1 y2, zRr y2, (0 : Int)) else (y1, y2, y3)); split <;> first | rfl | omega) (by first | omega | (unfold zRp zRr; split <;> omega))
            refine zj_bipush 67 C dX5_pourInRow_65 rfl rfl ?_
            refine zj_aload_n 68 0 C dX5_pourInRow_67 rfl rfl rfl ?_
            refine zj_get 71 0 14 C (T := TX5) im_X5_pourInRow_5 fl_X5_pourInRow_53 rfl rfl (by decide) rfl rfl dX5_pourInRow_68 rfl ?_
            refine zj_isub 72 C dX5_pourInRow_71 rfl ?_
            refine zj_iload_n 73 3 C dX5_pourInRow_72 rfl rfl rfl ?_
            refine zj_icmp_ge 76 80 C (by omega) (by omega) dX5_pourInRow_73 rfl (by decide) (fun h73 => ?_) (fun h73 => ?_)
            · skip
              exact hL80 x1 x2 x3 (by show _ = (if 6 - x3 < Z1 (2 + 3 * j1 + 1) then (zRp x1 x2, zRr x2, (0 : Int)) else (x1, x2, x3)); split <;> first | rfl | omega) (by first | omega | (unfold zRp zRr; split <;> omega))
            · skip
              refine zj_aload_n 77 0 C dX5_pourInRow_76 rfl rfl rfl ?_
              refine zj_cv 80 [0] [1, 2, 3, 4, 5, 6, 7] C (wr := [(m0, .inl (cI, 74, .inl (zA Z1))), (m3, .inl (cI, 24, .inl (zA P1))), (m4, .inl (cI, 24, .inl (zA R1))), (m5, .inl (cI, 24, .inl (zA U1))), (m6, .inl (cI, 384, .inl (zA G1))), (m7, .inl (cI, 16, .inl (zA b1))), (m8, .inl (cI, 16, .inl (zA c1)))]) (zr_V [0] C (As := []) (rest := []) (c_X5_nextRow l D cI cS cJ q5 m0 m1 m2 m3 m4 m5 m6 m7 m8 m9 th sm ty x1 x2 x3 pm sp wr ha (by omega)) (cwV 0 C.1.2.2.2.2 gX5_pourInRow_X5_nextRow rfl rfl rfl (by decide +kernel) ⟨Nat.le_of_ble_eq_true rfl, Nat.le_of_ble_eq_true rfl⟩) rfl (by decide) 0 rfl rfl rfl rfl (Nat.le_of_ble_eq_true rfl) dX5_pourInRow_77 ⟨Nat.le_of_ble_eq_true rfl, Nat.le_of_ble_eq_true rfl⟩) rfl rfl (by decide) (by decide) rfl (fun w_ hp_58 => ?_)
              obtain rfl := hp_58
              refine zj_ws (ws' := [(m0, .inl (cI, 74, .inl (zA Z1))), (m3, .inl (cI, 24, .inl (zA P1))), (m4, .inl (cI, 24, .inl (zA R1))), (m5, .inl (cI, 24, .inl (zA U1))), (m6, .inl (cI, 384, .inl (zA G1))), (m7, .inl (cI, 16, .inl (zA b1))), (m8, .inl (cI, 16, .inl (zA c1))), (q5, .inr (5, [.int (zI th), .ref m0, .ref m1, .int (zI sm), .ref m2, .int (zI ty), .ref m3, .ref m4, .ref m5, .ref m6, .ref m7, .ref m8, .int (zI (zRp x1 x2)), .int (zI (zRr x2)), .int (zI 0), .ref m9, .int (zI pm), .int (zI sp), .int (zI wr), .long ha]))]) rfl ?_
              refine zj_re [7, 0, 1, 2, 3, 4, 5, 6] [(q5, .inr (5, [.int (zI th), .ref m0, .ref m1, .int (zI sm), .ref m2, .int (zI ty), .ref m3, .ref m4, .ref m5, .ref m6, .ref m7, .ref m8, .int (zI (zRp x1 x2)), .int (zI (zRr x2)), .int (zI 0), .ref m9, .int (zI pm), .int (zI sp), .int (zI wr), .long ha])), (m0, .inl (cI, 74, .inl (zA Z1))), (m3, .inl (cI, 24, .inl (zA P1))), (m4, .inl (cI, 24, .inl (zA R1))), (m5, .inl (cI, 24, .inl (zA U1))), (m6, .inl (cI, 384, .inl (zA G1))), (m7, .inl (cI, 16, .inl (zA b1))), (m8, .inl (cI, 16, .inl (zA c1)))] (by decide) rfl ?_
              exact hL80 (zRp x1 x2) (zRr x2) 0 (by show _ = (if 6 - x3 < Z1 (2 + 3 * j1 + 1) then (zRp x1 x2, zRr x2, (0 : Int)) else (x1, x2, x3)); split <;> first | rfl | omega) (by first | omega | (unfold zRp zRr; split <;> omega))
          refine zj_re [6, 7, 0, 1, 2, 3, 4, 5] [(q5, .inr (5, [.int (zI th), .ref m0, .ref m1, .int (zI sm), .ref m2, .int (zI ty), .ref m3, .ref m4, .ref m5, .ref m6, .ref m7, .ref m8, .int (zI pg), .int (zI rw), .int (zI un), .ref m9, .int (zI pm), .int (zI sp), .int (zI wr), .long ha])), (m0, .inl (cI, 74, .inl (zA Z1))), (m3, .inl (cI, 24, .inl (zA P1))), (m4, .inl (cI, 24, .inl (zA R1))), (m5, .inl (cI, 24, .inl (zA U1))), (m6, .inl (cI, 384, .inl (zA G1))), (m7, .inl (cI, 16, .inl (zA b1))), (m8, .inl (cI, 16, .inl (zA c1)))] (by decide) rfl ?_
          refine zj_lv [2, 3, 1, 0] [(0, .ref q5), (1, .int (zI j1)), (2, .int (zI d1)), (3, .int (zI (Z1 (2 + 3 * j1 + 1))))] rfl ?_
          exact hL65 pg rw un (by unfold zGc; split <;> first | rfl | omega) (by omega)
        · skip
          refine zj_aload_n 56 2 C dX5_pourInRow_55 rfl rfl rfl ?_
          refine zj_aload_n 57 2 C dX5_pourInRow_56 rfl rfl rfl ?_
          refine zj_get 60 6 12 C (T := TX5) im_X5_pourInRow_5 fl_X5_pourInRow_47 rfl rfl (by decide) rfl rfl dX5_pourInRow_57 rfl ?_
          refine zj_iconst 61 C dX5_pourInRow_60 rfl ?_
          refine zj_iadd 62 C dX5_pourInRow_61 rfl ?_
          refine zj_cv 65 [6] [0, 1, 2, 3, 4, 5, 7] C (wr := [(m3, .inl (cI, 24, .inl (zA P1))), (m4, .inl (cI, 24, .inl (zA R1))), (m5, .inl (cI, 24, .inl (zA U1))), (m6, .inl (cI, 384, .inl (zA G1))), (m7, .inl (cI, 16, .inl (zA b1))), (m8, .inl (cI, 16, .inl (zA c1))), (m0, .inl (cI, 74, .inl (zA Z1)))]) (zr_V [6] C (As := [.int (zI (pg + 1))]) (rest := []) (c_X5_nextPage l D cI cS cJ q5 m0 m1 m2 m3 m4 m5 m6 m7 m8 m9 th sm ty pg rw un pm sp wr ha (pg + 1)) (cwV 1 C.1.2.2.2.2 gX5_pourInRow_X5_nextPage rfl rfl rfl (by decide +kernel) ⟨Nat.le_of_ble_eq_true rfl, Nat.le_of_ble_eq_true rfl⟩) rfl (by decide) 0 rfl rfl rfl rfl (Nat.le_of_ble_eq_true rfl) dX5_pourInRow_62 ⟨Nat.le_of_ble_eq_true rfl, Nat.le_of_ble_eq_true rfl⟩) rfl rfl (by decide) (by decide) rfl (fun w_ hp_60 => ?_)
          obtain rfl := hp_60
          refine zj_ws (ws' := [(m3, .inl (cI, 24, .inl (zA P1))), (m4, .inl (cI, 24, .inl (zA R1))), (m5, .inl (cI, 24, .inl (zA U1))), (m6, .inl (cI, 384, .inl (zA G1))), (m7, .inl (cI, 16, .inl (zA b1))), (m8, .inl (cI, 16, .inl (zA c1))), (m0, .inl (cI, 74, .inl (zA Z1))), (q5, .inr (5, [.int (zI th), .ref m0, .ref m1, .int (zI sm), .ref m2, .int (zI ty), .ref m3, .ref m4, .ref m5, .ref m6, .ref m7, .ref m8, .int (zI (pg + 1)), .int (zI 0), .int (zI 0), .ref m9, .int (zI pm), .int (zI sp), .int (zI wr), .long ha]))]) rfl ?_
          have hL65 : ∀ (x1 : Int) (x2 : Int) (x3 : Int), ((x1, x2, x3) = (if zGc c1 b1 pg (Z1 (2 + 3 * j1 + 2)) (Z1 0) then (pg + 1, 0, 0) else (pg, rw, un))) → (0 ≤ x1 ∧ x1 ≤ 16 ∧ 0 ≤ x2 ∧ x2 ≤ 3 ∧ 0 ≤ x3 ∧ x3 ≤ 6) → zJ p l e rm_X5_pourInRow s m args below meth c Q D A 4 [(q5, .inr (5, [.int (zI th), .ref m0, .ref m1, .int (zI sm), .ref m2, .int (zI ty), .ref m3, .ref m4, .ref m5, .ref m6, .ref m7, .ref m8, .int (zI x1), .int (zI x2), .int (zI x3), .ref m9, .int (zI pm), .int (zI sp), .int (zI wr), .long ha])), (m0, .inl (cI, 74, .inl (zA Z1))), (m3, .inl (cI, 24, .inl (zA P1))), (m4, .inl (cI, 24, .inl (zA R1))), (m5, .inl (cI, 24, .inl (zA U1))), (m6, .inl (cI, 384, .inl (zA G1))), (m7, .inl (cI, 16, .inl (zA b1))), (m8, .inl (cI, 16, .inl (zA c1)))] 0 0 [(0, .ref q5), (1, .int (zI j1)), (2, .int (zI d1)), (3, .int (zI (Z1 (2 + 3 * j1 + 1))))] 65 [] := by
            intro x1 x2 x3 hx hx2
            have hL80 : ∀ (y1 : Int) (y2 : Int) (y3 : Int), ((y1, y2, y3) = zX2 (Z1 (2 + 3 * j1 + 1)) (x1, x2, x3)) → (0 ≤ y1 ∧ y1 ≤ 17 ∧ 0 ≤ y2 ∧ y2 ≤ 3 ∧ 0 ≤ y3 ∧ y3 ≤ 6) → zJ p l e rm_X5_pourInRow s m args below meth c Q D A 4 [(q5, .inr (5, [.int (zI th), .ref m0, .ref m1, .int (zI sm), .ref m2, .int (zI ty), .ref m3, .ref m4, .ref m5, .ref m6, .ref m7, .ref m8, .int (zI y1), .int (zI y2), .int (zI y3), .ref m9, .int (zI pm), .int (zI sp), .int (zI wr), .long ha])), (m0, .inl (cI, 74, .inl (zA Z1))), (m3, .inl (cI, 24, .inl (zA P1))), (m4, .inl (cI, 24, .inl (zA R1))), (m5, .inl (cI, 24, .inl (zA U1))), (m6, .inl (cI, 384, .inl (zA G1))), (m7, .inl (cI, 16, .inl (zA b1))), (m8, .inl (cI, 16, .inl (zA c1)))] 0 0 [(0, .ref q5), (1, .int (zI j1)), (2, .int (zI d1)), (3, .int (zI (Z1 (2 + 3 * j1 + 1))))] 80 [] := by
              intro y1 y2 y3 hy hy2
              have hL104 : ∀ (z1 : Int) (z2 : Int) (z3 : Int), ((z1, z2, z3) = zX3 d1 (zX2 (Z1 (2 + 3 * j1 + 1)) (x1, x2, x3))) → (0 ≤ z1 ∧ z1 ≤ 18 ∧ 0 ≤ z2 ∧ z2 ≤ 3 ∧ 0 ≤ z3 ∧ z3 ≤ 6) → zJ p l e rm_X5_pourInRow s m args below meth c Q D A 4 [(q5, .inr (5, [.int (zI th), .ref m0, .ref m1, .int (zI sm), .ref m2, .int (zI ty), .ref m3, .ref m4, .ref m5, .ref m6, .ref m7, .ref m8, .int (zI z1), .int (zI z2), .int (zI z3), .ref m9, .int (zI pm), .int (zI sp), .int (zI wr), .long ha])), (m0, .inl (cI, 74, .inl (zA Z1))), (m3, .inl (cI, 24, .inl (zA P1))), (m4, .inl (cI, 24, .inl (zA R1))), (m5, .inl (cI, 24, .inl (zA U1))), (m6, .inl (cI, 384, .inl (zA G1))), (m7, .inl (cI, 16, .inl (zA b1))), (m8, .inl (cI, 16, .inl (zA c1)))] 0 0 [(0, .ref q5), (1, .int (zI j1)), (2, .int (zI d1)), (3, .int (zI (Z1 (2 + 3 * j1 + 1))))] 104 [] := by
                intro z1 z2 z3 hz hz2
                have hXr : zXr (Z1 0) (Z1 (2 + 3 * j1 + 0)) (Z1 (2 + 3 * j1 + 1)) (Z1 (2 + 3 * j1 + 2)) pg rw un c1 b1 = (z1, z2, z3) := by unfold zXr; rw [← hx, ← hd, hz]
                have hfit : z3 + Z1 (2 + 3 * j1 + 1) ≤ 6 := by have q := zXr_b (sg := Z1 0) (k := Z1 (2 + 3 * j1 + 0)) (t := Z1 (2 + 3 * j1 + 2)) (c := c1) (b := b1) hW hp hr1 hu1; rw [hXr] at q; exact q.2.2.2
                have hL144 : ∀ (u5 : Int), (z1 < 16) → (u5 = zXu d1 (Z1 (2 + 3 * j1 + 1)) (z1, z2, z3)) → (0 ≤ u5 ∧ u5 + Z1 (2 + 3 * j1 + 1) ≤ 6) → zJ p l e rm_X5_pourInRow s m args below meth c Q D A 4 [(q5, .inr (5, [.int (zI th), .ref m0, .ref m1, .int (zI sm), .ref m2, .int (zI ty), .ref m3, .ref m4, .ref m5, .ref m6, .ref m7, .ref m8, .int (zI z1), .int (zI z2), .int (zI u5), .ref m9, .int (zI pm), .int (zI sp), .int (zI wr), .long ha])), (m0, .inl (cI, 74, .inl (zA Z1))), (m3, .inl (cI, 24, .inl (zA P1))), (m4, .inl (cI, 24, .inl (zA R1))), (m5, .inl (cI, 24, .inl (zA U1))), (m6, .inl (cI, 384, .inl (zA G1))), (m7, .inl (cI, 16, .inl (zA b1))), (m8, .inl (cI, 16, .inl (zA c1)))] 0 0 [(0, .ref q5), (1, .int (zI j1)), (2, .int (zI d1)), (3, .int (zI (Z1 (2 + 3 * j1 + 1))))] 144 [] := by
                  intro u5 hz6 hu5 hu6
                  refine zj_aload_n 145 0 C dX5_pourInRow_144 rfl rfl rfl ?_
                  refine zj_iload_n 146 1 C dX5_pourInRow_145 rfl rfl rfl ?_
                  refine zj_aload_n 147 0 C dX5_pourInRow_146 rfl rfl rfl ?_
                  refine zj_get 150 0 12 C (T := TX5) im_X5_pourInRow_5 fl_X5_pourInRow_47 rfl rfl (by decide) rfl rfl dX5_pourInRow_147 rfl ?_
                  refine zj_aload_n 151 0 C dX5_pourInRow_150 rfl rfl rfl ?_
                  refine zj_get 154 0 13 C (T := TX5) im_X5_pourInRow_5 fl_X5_pourInRow_50 rfl rfl (by decide) rfl rfl dX5_pourInRow_151 rfl ?_
                  refine zj_aload_n 155 0 C dX5_pourInRow_154 rfl rfl rfl ?_
                  refine zj_get 158 0 14 C (T := TX5) im_X5_pourInRow_5 fl_X5_pourInRow_53 rfl rfl (by decide) rfl rfl dX5_pourInRow_155 rfl ?_
                  refine zj_cv 161 [0, 1, 2, 3, 4, 6] [5, 7] C (wr := [(m6, .inl (cI, 384, .inl (zA G1))), (m8, .inl (cI, 16, .inl (zA c1)))]) (zr_V [0, 1, 2, 3, 4, 6] C (As := [.int (zI j1), .int (zI z1), .int (zI z2), .int (zI u5)]) (rest := []) (c_X5_stand l D cI cS cJ q5 m0 m1 m2 m3 m4 m5 m6 m7 m8 m9 th sm ty z1 z2 u5 pm sp wr ha Z1 P1 R1 U1 b1 j1 z1 z2 u5 (by omega) (by omega)) (cwV 4 C.1.2.2.2.2 gX5_pourInRow_X5_stand rfl rfl rfl (by decide +kernel) ⟨Nat.le_of_ble_eq_true rfl, Nat.le_of_ble_eq_true rfl⟩) rfl (by decide) 0 rfl rfl rfl rfl (Nat.le_of_ble_eq_true rfl) dX5_pourInRow_158 ⟨Nat.le_of_ble_eq_true rfl, Nat.le_of_ble_eq_true rfl⟩) rfl rfl (by decide) (by decide) rfl (fun w_ hp_62 => ?_)
                  obtain rfl := hp_62
                  refine zj_ws (ws' := [(m6, .inl (cI, 384, .inl (zA G1))), (m8, .inl (cI, 16, .inl (zA c1))), (q5, .inr (5, [.int (zI th), .ref m0, .ref m1, .int (zI sm), .ref m2, .int (zI ty), .ref m3, .ref m4, .ref m5, .ref m6, .ref m7, .ref m8, .int (zI z1), .int (zI z2), .int (zI u5), .ref m9, .int (zI pm), .int (zI sp), .int (zI wr), .long ha])), (m0, .inl (cI, 74, .inl (zA Z1))), (m3, .inl (cI, 24, .inl (zA (zU P1 j1 z1)))), (m4, .inl (cI, 24, .inl (zA (zU R1 j1 z2)))), (m5, .inl (cI, 24, .inl (zA (zU U1 j1 u5)))), (m7, .inl (cI, 16, .inl (zA (zU b1 z1 (b1 z1 + Z1 (2 + 3 * j1 + 2))))))]) rfl ?_
                  refine zj_aload_n 162 0 C dX5_pourInRow_161 rfl rfl rfl ?_
                  refine zj_iload_n 163 1 C dX5_pourInRow_162 rfl rfl rfl ?_
                  refine zj_aload_n 164 0 C dX5_pourInRow_163 rfl rfl rfl ?_
                  refine zj_get 167 2 12 C (T := TX5) im_X5_pourInRow_5 fl_X5_pourInRow_47 rfl rfl (by decide) rfl rfl dX5_pourInRow_164 rfl ?_
                  refine zj_bipush 169 C dX5_pourInRow_167 rfl rfl ?_
                  refine zj_aload_n 170 0 C dX5_pourInRow_169 rfl rfl rfl ?_
                  refine zj_get 173 2 13 C (T := TX5) im_X5_pourInRow_5 fl_X5_pourInRow_50 rfl rfl (by decide) rfl rfl dX5_pourInRow_170 rfl ?_
                  refine zj_imul 174 C dX5_pourInRow_173 rfl ?_
                  refine zj_aload_n 175 0 C dX5_pourInRow_174 rfl rfl rfl ?_
                  refine zj_get 178 2 14 C (T := TX5) im_X5_pourInRow_5 fl_X5_pourInRow_53 rfl rfl (by decide) rfl rfl dX5_pourInRow_175 rfl ?_
                  refine zj_iadd 179 C dX5_pourInRow_178 rfl ?_
                  refine zj_iload_n 180 3 C dX5_pourInRow_179 rfl rfl rfl ?_
                  refine zj_cv 183 [2, 0, 1] [3, 4, 5, 6, 7] C (wr := [(m0, .inl (cI, 74, .inl (zA Z1))), (m3, .inl (cI, 24, .inl (zA (zU P1 j1 z1)))), (m4, .inl (cI, 24, .inl (zA (zU R1 j1 z2)))), (m5, .inl (cI, 24, .inl (zA (zU U1 j1 u5)))), (m7, .inl (cI, 16, .inl (zA (zU b1 z1 (b1 z1 + Z1 (2 + 3 * j1 + 2))))))]) (zr_V [2, 0, 1] C (As := [.int (zI j1), .int (zI z1), .int (zI ((6 * z2) + u5)), .int (zI (Z1 (2 + 3 * j1 + 1)))]) (rest := []) (c_X5_mark l D cI cS cJ q5 m0 m1 m2 m3 m4 m5 m6 m7 m8 m9 th sm ty z1 z2 u5 pm sp wr ha c1 G1 j1 z1 ((6 * z2) + u5) (Z1 (2 + 3 * j1 + 1)) (by omega) (by omega)) (cwV 4 C.1.2.2.2.2 gX5_pourInRow_X5_mark rfl rfl rfl (by decide +kernel) ⟨Nat.le_of_ble_eq_true rfl, Nat.le_of_ble_eq_true rfl⟩) rfl (by decide) 0 rfl rfl rfl rfl (Nat.le_of_ble_eq_true rfl) dX5_pourInRow_180 ⟨Nat.le_of_ble_eq_true rfl, Nat.le_of_ble_eq_true rfl⟩) rfl rfl (by decide) (by decide) rfl (fun w_ hp_64 => ?_)
                  obtain rfl := hp_64
                  refine zj_ws (ws' := [(m0, .inl (cI, 74, .inl (zA Z1))), (m3, .inl (cI, 24, .inl (zA (zU P1 j1 z1)))), (m4, .inl (cI, 24, .inl (zA (zU R1 j1 z2)))), (m5, .inl (cI, 24, .inl (zA (zU U1 j1 u5)))), (m7, .inl (cI, 16, .inl (zA (zU b1 z1 (b1 z1 + Z1 (2 + 3 * j1 + 2)))))), (q5, .inr (5, [.int (zI th), .ref m0, .ref m1, .int (zI sm), .ref m2, .int (zI ty), .ref m3, .ref m4, .ref m5, .ref m6, .ref m7, .ref m8, .int (zI z1), .int (zI z2), .int (zI u5), .ref m9, .int (zI pm), .int (zI sp), .int (zI wr), .long ha])), (m6, .inl (cI, 384, .inl (zA (zMk G1 (24 * z1 + ((6 * z2) + u5)) (Z1 (2 + 3 * j1 + 1)) j1)))), (m8, .inl (cI, 16, .inl (zA (zU c1 z1 (c1 z1 + 1)))))]) rfl ?_
                  refine zj_aload_n 184 0 C dX5_pourInRow_183 rfl rfl rfl ?_
                  refine zj_dup 185 C dX5_pourInRow_184 rfl rfl ?_
                  refine zj_get 188 5 14 C (T := TX5) im_X5_pourInRow_5 fl_X5_pourInRow_53 rfl rfl (by decide) rfl rfl dX5_pourInRow_185 rfl ?_
                  refine zj_iload_n 189 3 C dX5_pourInRow_188 rfl rfl rfl ?_
                  refine zj_iadd 190 C dX5_pourInRow_189 rfl ?_
                  refine zj_put 193 5 14 [(m0, .inl (cI, 74, .inl (zA Z1))), (m3, .inl (cI, 24, .inl (zA (zU P1 j1 z1)))), (m4, .inl (cI, 24, .inl (zA (zU R1 j1 z2)))), (m5, .inl (cI, 24, .inl (zA (zU U1 j1 u5)))), (m7, .inl (cI, 16, .inl (zA (zU b1 z1 (b1 z1 + Z1 (2 + 3 * j1 + 2)))))), (q5, .inr (5, [.int (zI th), .ref m0, .ref m1, .int (zI sm), .ref m2, .int (zI ty), .ref m3, .ref m4, .ref m5, .ref m6, .ref m7, .ref m8, .int (zI z1), .int (zI z2), .int (zI (u5 + (Z1 (2 + 3 * j1 + 1)))), .ref m9, .int (zI pm), .int (zI sp), .int (zI wr), .long ha])), (m6, .inl (cI, 384, .inl (zA (zMk G1 (24 * z1 + ((6 * z2) + u5)) (Z1 (2 + 3 * j1 + 1)) j1)))), (m8, .inl (cI, 16, .inl (zA (zU c1 z1 (c1 z1 + 1)))))] C (T := TX5) tyX5 tyX5_ok nmX5 im_X5_pourInRow_5 fl_X5_pourInRow_53 rfl rfl (by decide) rfl rfl rfl rfl rfl (Nat.le_of_ble_eq_true rfl) rfl dX5_pourInRow_190 rfl ?_
                  refine zj_iconst 194 C dX5_pourInRow_193 rfl ?_
                  refine zj_re [5, 0, 1, 2, 3, 6, 4, 7] [(q5, .inr (5, [.int (zI th), .ref m0, .ref m1, .int (zI sm), .ref m2, .int (zI ty), .ref m3, .ref m4, .ref m5, .ref m6, .ref m7, .ref m8, .int (zI z1), .int (zI z2), .int (zI (u5 + (Z1 (2 + 3 * j1 + 1)))), .ref m9, .int (zI pm), .int (zI sp), .int (zI wr), .long ha])), (m0, .inl (cI, 74, .inl (zA Z1))), (m3, .inl (cI, 24, .inl (zA (zU P1 j1 z1)))), (m4, .inl (cI, 24, .inl (zA (zU R1 j1 z2)))), (m5, .inl (cI, 24, .inl (zA (zU U1 j1 u5)))), (m6, .inl (cI, 384, .inl (zA (zMk G1 (24 * z1 + ((6 * z2) + u5)) (Z1 (2 + 3 * j1 + 1)) j1)))), (m7, .inl (cI, 16, .inl (zA (zU b1 z1 (b1 z1 + Z1 (2 + 3 * j1 + 2)))))), (m8, .inl (cI, 16, .inl (zA (zU c1 z1 (c1 z1 + 1)))))] (by decide) rfl ?_
                  subst hQ
                  exact zj_zret C (zI_bool (by omega)) hr ⟨1, z1, z2, (u5 + (Z1 (2 + 3 * j1 + 1))), (zU P1 j1 z1), (zU R1 j1 z2), (zU U1 j1 u5), (zMk G1 (24 * z1 + ((6 * z2) + u5)) (Z1 (2 + 3 * j1 + 1)) j1), (zU b1 z1 (b1 z1 + Z1 (2 + 3 * j1 + 2))), (zU c1 z1 (c1 z1 + 1)), (by
        have e : zPlc (Z1 0) (Z1 (2 + 3 * j1 + 0)) (Z1 (2 + 3 * j1 + 1)) (Z1 (2 + 3 * j1 + 2)) pg rw un c1 b1 = (z1, z2, u5) := by unfold zPlc; rw [if_pos (by omega), hXr, if_pos (by omega), ← hd, ← hu5]
        refine Or.inr ⟨rfl, by rw [e]; exact hz2.1, by rw [e], by rw [e], by rw [e], ?_, ?_⟩
        · unfold zGr
          rw [if_pos (by omega), e]
        · unfold zNxC
          rw [if_pos (by omega), e]), rfl, rfl⟩ (by decide) (by decide) dX5_pourInRow_194
                refine zj_aload_n 105 0 C dX5_pourInRow_104 rfl rfl rfl ?_
                refine zj_get 108 0 12 C (T := TX5) im_X5_pourInRow_5 fl_X5_pourInRow_47 rfl rfl (by decide) rfl rfl dX5_pourInRow_105 rfl ?_
                refine zj_bipush 110 C dX5_pourInRow_108 rfl rfl ?_
                refine zj_icmp_lt 113 115 C (by omega) (by omega) dX5_pourInRow_110 rfl (by decide) (fun h110 => ?_) (fun h110 => ?_)
                · skip
                  refine zj_aload_n 116 0 C dX5_pourInRow_115 rfl rfl rfl ?_
                  refine zj_iload_n 117 2 C dX5_pourInRow_116 rfl rfl rfl ?_
                  refine zj_if_eq 120 137 C (by omega) dX5_pourInRow_117 rfl (by decide) (fun h117 => ?_) (fun h117 => ?_)
                  · skip
                    refine zj_aload_n 138 0 C dX5_pourInRow_137 rfl rfl rfl ?_
                    refine zj_get 141 0 14 C (T := TX5) im_X5_pourInRow_5 fl_X5_pourInRow_53 rfl rfl (by decide) rfl rfl dX5_pourInRow_138 rfl ?_
                    refine zj_put 144 0 14 [(q5, .inr (5, [.int (zI th), .ref m0, .ref m1, .int (zI sm), .ref m2, .int (zI ty), .ref m3, .ref m4, .ref m5, .ref m6, .ref m7, .ref m8, .int (zI z1), .int (zI z2), .int (zI z3), .ref m9, .int (zI pm), .int (zI sp), .int (zI wr), .long ha])), (m0, .inl (cI, 74, .inl (zA Z1))), (m3, .inl (cI, 24, .inl (zA P1))), (m4, .inl (cI, 24, .inl (zA R1))), (m5, .inl (cI, 24, .inl (zA U1))), (m6, .inl (cI, 384, .inl (zA G1))), (m7, .inl (cI, 16, .inl (zA b1))), (m8, .inl (cI, 16, .inl (zA c1)))] C (T := TX5) tyX5 tyX5_ok nmX5 im_X5_pourInRow_5 fl_X5_pourInRow_53 rfl rfl (by decide) rfl rfl rfl rfl rfl (Nat.le_of_ble_eq_true rfl) rfl dX5_pourInRow_141 rfl ?_
                    exact hL144 z3 (by omega) (by show _ = (if d1 = 1 ∧ z1 % 2 = 1 then 6 - Z1 (2 + 3 * j1 + 1) else z3); split <;> omega) (by omega)
                  · skip
                    refine zj_aload_n 121 0 C dX5_pourInRow_120 rfl rfl rfl ?_
                    refine zj_get 124 0 12 C (T := TX5) im_X5_pourInRow_5 fl_X5_pourInRow_47 rfl rfl (by decide) rfl rfl dX5_pourInRow_121 rfl ?_
                    refine zj_iconst 125 C dX5_pourInRow_124 rfl ?_
                    refine zj_irem2 126 C dX5_pourInRow_125 rfl (by omega) ?_
                    refine zj_iconst 127 C dX5_pourInRow_126 rfl ?_
                    refine zj_icmp_ne 130 137 C (by omega) (by omega) dX5_pourInRow_127 rfl (by decide) (fun h127 => ?_) (fun h127 => ?_)
                    · skip
                      refine zj_aload_n 138 0 C dX5_pourInRow_137 rfl rfl rfl ?_
                      refine zj_get 141 0 14 C (T := TX5) im_X5_pourInRow_5 fl_X5_pourInRow_53 rfl rfl (by decide) rfl rfl dX5_pourInRow_138 rfl ?_
                      refine zj_put 144 0 14 [(q5, .inr (5, [.int (zI th), .ref m0, .ref m1, .int (zI sm), .ref m2, .int (zI ty), .ref m3, .ref m4, .ref m5, .ref m6, .ref m7, .ref m8, .int (zI z1), .int (zI z2), .int (zI z3), .ref m9, .int (zI pm), .int (zI sp), .int (zI wr), .long ha])), (m0, .inl (cI, 74, .inl (zA Z1))), (m3, .inl (cI, 24, .inl (zA P1))), (m4, .inl (cI, 24, .inl (zA R1))), (m5, .inl (cI, 24, .inl (zA U1))), (m6, .inl (cI, 384, .inl (zA G1))), (m7, .inl (cI, 16, .inl (zA b1))), (m8, .inl (cI, 16, .inl (zA c1)))] C (T := TX5) tyX5 tyX5_ok nmX5 im_X5_pourInRow_5 fl_X5_pourInRow_53 rfl rfl (by decide) rfl rfl rfl rfl rfl (Nat.le_of_ble_eq_true rfl) rfl dX5_pourInRow_141 rfl ?_
                      exact hL144 z3 (by omega) (by show _ = (if d1 = 1 ∧ z1 % 2 = 1 then 6 - Z1 (2 + 3 * j1 + 1) else z3); split <;> omega) (by omega)
                    · skip
                      refine zj_bipush 132 C dX5_pourInRow_130 rfl rfl ?_
                      refine zj_iload_n 133 3 C dX5_pourInRow_132 rfl rfl rfl ?_
                      refine zj_isub 134 C dX5_pourInRow_133 rfl ?_
                      refine zj_goto 141 C dX5_pourInRow_134 (by decide) ?_
                      refine zj_put 144 0 14 [(q5, .inr (5, [.int (zI th), .ref m0, .ref m1, .int (zI sm), .ref m2, .int (zI ty), .ref m3, .ref m4, .ref m5, .ref m6, .ref m7, .ref m8, .int (zI z1), .int (zI z2), .int (zI (6 - (Z1 (2 + 3 * j1 + 1)))), .ref m9, .int (zI pm), .int (zI sp), .int (zI wr), .long ha])), (m0, .inl (cI, 74, .inl (zA Z1))), (m3, .inl (cI, 24, .inl (zA P1))), (m4, .inl (cI, 24, .inl (zA R1))), (m5, .inl (cI, 24, .inl (zA U1))), (m6, .inl (cI, 384, .inl (zA G1))), (m7, .inl (cI, 16, .inl (zA b1))), (m8, .inl (cI, 16, .inl (zA c1)))] C (T := TX5) tyX5 tyX5_ok nmX5 im_X5_pourInRow_5 fl_X5_pourInRow_53 rfl rfl (by decide) rfl rfl rfl rfl rfl (Nat.le_of_ble_eq_true rfl) rfl dX5_pourInRow_141 rfl ?_
                      exact hL144 (6 - (Z1 (2 + 3 * j1 + 1))) (by omega) (by show _ = (if d1 = 1 ∧ z1 % 2 = 1 then 6 - Z1 (2 + 3 * j1 + 1) else z3); split <;> omega) (by omega)
                · skip
                  refine zj_iconst 114 C dX5_pourInRow_113 rfl ?_
                  subst hQ
                  exact zj_zret C (zI_bool (by omega)) hr ⟨0, z1, z2, z3, P1, R1, U1, G1, b1, c1, (by exact Or.inl ⟨rfl, by unfold zPlc; rw [if_pos (by omega), hXr, if_neg (by omega)], rfl, rfl, rfl, rfl, rfl, rfl⟩), rfl, rfl⟩ (by decide) (by decide) dX5_pourInRow_114
              refine zj_iload_n 81 2 C dX5_pourInRow_80 rfl rfl rfl ?_
              refine zj_if_eq 84 104 C (by omega) dX5_pourInRow_81 rfl (by decide) (fun h81 => ?_) (fun h81 => ?_)
              · skip
                exact hL104 y1 y2 y3 (by rw [← hy]; show _ = (if d1 = 1 ∧ y1 % 2 = 0 ∧ y3 ≠ 0 then (zRp y1 y2, zRr y2, (0 : Int)) else (y1, y2, y3)); split <;> first | rfl | omega) (by first | omega | (unfold zRp zRr; split <;> omega))
              · skip
                refine zj_aload_n 85 0 C dX5_pourInRow_84 rfl rfl rfl ?_
                refine zj_get 88 0 12 C (T := TX5) im_X5_pourInRow_5 fl_X5_pourInRow_47 rfl rfl (by decide) rfl rfl dX5_pourInRow_85 rfl ?_
                refine zj_iconst 89 C dX5_pourInRow_88 rfl ?_
                refine zj_irem2 90 C dX5_pourInRow_89 rfl (by omega) ?_
                refine zj_if_ne 93 104 C (by omega) dX5_pourInRow_90 rfl (by decide) (fun h90 => ?_) (fun h90 => ?_)
                · skip
                  exact hL104 y1 y2 y3 (by rw [← hy]; show _ = (if d1 = 1 ∧ y1 % 2 = 0 ∧ y3 ≠ 0 then (zRp y1 y2, zRr y2, (0 : Int)) else (y1, y2, y3)); split <;> first | rfl | omega) (by first | omega | (unfold zRp zRr; split <;> omega))
                · skip
                  refine zj_aload_n 94 0 C dX5_pourInRow_93 rfl rfl rfl ?_
                  refine zj_get 97 0 14 C (T := TX5) im_X5_pourInRow_5 fl_X5_pourInRow_53 rfl rfl (by decide) rfl rfl dX5_pourInRow_94 rfl ?_
                  refine zj_if_eq 100 104 C (by omega) dX5_pourInRow_97 rfl (by decide) (fun h97 => ?_) (fun h97 => ?_)
                  · skip
                    exact hL104 y1 y2 y3 (by rw [← hy]; show _ = (if d1 = 1 ∧ y1 % 2 = 0 ∧ y3 ≠ 0 then (zRp y1 y2, zRr y2, (0 : Int)) else (y1, y2, y3)); split <;> first | rfl | omega) (by first | omega | (unfold zRp zRr; split <;> omega))
                  · skip
                    refine zj_aload_n 101 0 C dX5_pourInRow_100 rfl rfl rfl ?_
                    refine zj_cv 104 [0] [1, 2, 3, 4, 5, 6, 7] C (wr := [(m0, .inl (cI, 74, .inl (zA Z1))), (m3, .inl (cI, 24, .inl (zA P1))), (m4, .inl (cI, 24, .inl (zA R1))), (m5, .inl (cI, 24, .inl (zA U1))), (m6, .inl (cI, 384, .inl (zA G1))), (m7, .inl (cI, 16, .inl (zA b1))), (m8, .inl (cI, 16, .inl (zA c1)))]) (zr_V [0] C (As := []) (rest := []) (c_X5_nextRow l D cI cS cJ q5 m0 m1 m2 m3 m4 m5 m6 m7 m8 m9 th sm ty y1 y2 y3 pm sp wr ha (by omega)) (cwV 0 C.1.2.2.2.2 gX5_pourInRow_X5_nextRow rfl rfl rfl (by decide +kernel) ⟨Nat.le_of_ble_eq_true rfl, Nat.le_of_ble_eq_true rfl⟩) rfl (by decide) 0 rfl rfl rfl rfl (Nat.le_of_ble_eq_true rfl) dX5_pourInRow_101 ⟨Nat.le_of_ble_eq_true rfl, Nat.le_of_ble_eq_true rfl⟩) rfl rfl (by decide) (by decide) rfl (fun w_ hp_66 => ?_)
                    obtain rfl := hp_66
                    refine zj_ws (ws' := [(m0, .inl (cI, 74, .inl (zA Z1))), (m3, .inl (cI, 24, .inl (zA P1))), (m4, .inl (cI, 24, .inl (zA R1))), (m5, .inl (cI, 24, .inl (zA U1))), (m6, .inl (cI, 384, .inl (zA G1))), (m7, .inl (cI, 16, .inl (zA b1))), (m8, .inl (cI, 16, .inl (zA c1))), (q5, .inr (5, [.int (zI th), .ref m0, .ref m1, .int (zI sm), .ref m2, .int (zI ty), .ref m3, .ref m4, .ref m5, .ref m6, .ref m7, .ref m8, .int (zI (zRp y1 y2)), .int (zI (zRr y2)), .int (zI 0), .ref m9, .int (zI pm), .int (zI sp), .int (zI wr), .long ha]))]) rfl ?_
                    refine zj_re [7, 0, 1, 2, 3, 4, 5, 6] [(q5, .inr (5, [.int (zI th), .ref m0, .ref m1, .int (zI sm), .ref m2, .int (zI ty), .ref m3, .ref m4, .ref m5, .ref m6, .ref m7, .ref m8, .int (zI (zRp y1 y2)), .int (zI (zRr y2)), .int (zI 0), .ref m9, .int (zI pm), .int (zI sp), .int (zI wr), .long ha])), (m0, .inl (cI, 74, .inl (zA Z1))), (m3, .inl (cI, 24, .inl (zA P1))), (m4, .inl (cI, 24, .inl (zA R1))), (m5, .inl (cI, 24, .inl (zA U1))), (m6, .inl (cI, 384, .inl (zA G1))), (m7, .inl (cI, 16, .inl (zA b1))), (m8, .inl (cI, 16, .inl (zA c1)))] (by decide) rfl ?_
                    exact hL104 (zRp y1 y2) (zRr y2) 0 (by rw [← hy]; show _ = (if d1 = 1 ∧ y1 % 2 = 0 ∧ y3 ≠ 0 then (zRp y1 y2, zRr y2, (0 : Int)) else (y1, y2, y3)); split <;> first | rfl | omega) (by first | omega | (unfold zRp zRr; split <;> omega))
            refine zj_bipush 67 C dX5_pourInRow_65 rfl rfl ?_
            refine zj_aload_n 68 0 C dX5_pourInRow_67 rfl rfl rfl ?_
            refine zj_get 71 0 14 C (T := TX5) im_X5_pourInRow_5 fl_X5_pourInRow_53 rfl rfl (by decide) rfl rfl dX5_pourInRow_68 rfl ?_
            refine zj_isub 72 C dX5_pourInRow_71 rfl ?_
            refine zj_iload_n 73 3 C dX5_pourInRow_72 rfl rfl rfl ?_
            refine zj_icmp_ge 76 80 C (by omega) (by omega) dX5_pourInRow_73 rfl (by decide) (fun h73 => ?_) (fun h73 => ?_)
            · skip
              exact hL80 x1 x2 x3 (by show _ = (if 6 - x3 < Z1 (2 + 3 * j1 + 1) then (zRp x1 x2, zRr x2, (0 : Int)) else (x1, x2, x3)); split <;> first | rfl | omega) (by first | omega | (unfold zRp zRr; split <;> omega))
            · skip
              refine zj_aload_n 77 0 C dX5_pourInRow_76 rfl rfl rfl ?_
              refine zj_cv 80 [0] [1, 2, 3, 4, 5, 6, 7] C (wr := [(m0, .inl (cI, 74, .inl (zA Z1))), (m3, .inl (cI, 24, .inl (zA P1))), (m4, .inl (cI, 24, .inl (zA R1))), (m5, .inl (cI, 24, .inl (zA U1))), (m6, .inl (cI, 384, .inl (zA G1))), (m7, .inl (cI, 16, .inl (zA b1))), (m8, .inl (cI, 16, .inl (zA c1)))]) (zr_V [0] C (As := []) (rest := []) (c_X5_nextRow l D cI cS cJ q5 m0 m1 m2 m3 m4 m5 m6 m7 m8 m9 th sm ty x1 x2 x3 pm sp wr ha (by omega)) (cwV 0 C.1.2.2.2.2 gX5_pourInRow_X5_nextRow rfl rfl rfl (by decide +kernel) ⟨Nat.le_of_ble_eq_true rfl, Nat.le_of_ble_eq_true rfl⟩) rfl (by decide) 0 rfl rfl rfl rfl (Nat.le_of_ble_eq_true rfl) dX5_pourInRow_77 ⟨Nat.le_of_ble_eq_true rfl, Nat.le_of_ble_eq_true rfl⟩) rfl rfl (by decide) (by decide) rfl (fun w_ hp_68 => ?_)
              obtain rfl := hp_68
              refine zj_ws (ws' := [(m0, .inl (cI, 74, .inl (zA Z1))), (m3, .inl (cI, 24, .inl (zA P1))), (m4, .inl (cI, 24, .inl (zA R1))), (m5, .inl (cI, 24, .inl (zA U1))), (m6, .inl (cI, 384, .inl (zA G1))), (m7, .inl (cI, 16, .inl (zA b1))), (m8, .inl (cI, 16, .inl (zA c1))), (q5, .inr (5, [.int (zI th), .ref m0, .ref m1, .int (zI sm), .ref m2, .int (zI ty), .ref m3, .ref m4, .ref m5, .ref m6, .ref m7, .ref m8, .int (zI (zRp x1 x2)), .int (zI (zRr x2)), .int (zI 0), .ref m9, .int (zI pm), .int (zI sp), .int (zI wr), .long ha]))]) rfl ?_
              refine zj_re [7, 0, 1, 2, 3, 4, 5, 6] [(q5, .inr (5, [.int (zI th), .ref m0, .ref m1, .int (zI sm), .ref m2, .int (zI ty), .ref m3, .ref m4, .ref m5, .ref m6, .ref m7, .ref m8, .int (zI (zRp x1 x2)), .int (zI (zRr x2)), .int (zI 0), .ref m9, .int (zI pm), .int (zI sp), .int (zI wr), .long ha])), (m0, .inl (cI, 74, .inl (zA Z1))), (m3, .inl (cI, 24, .inl (zA P1))), (m4, .inl (cI, 24, .inl (zA R1))), (m5, .inl (cI, 24, .inl (zA U1))), (m6, .inl (cI, 384, .inl (zA G1))), (m7, .inl (cI, 16, .inl (zA b1))), (m8, .inl (cI, 16, .inl (zA c1)))] (by decide) rfl ?_
              exact hL80 (zRp x1 x2) (zRr x2) 0 (by show _ = (if 6 - x3 < Z1 (2 + 3 * j1 + 1) then (zRp x1 x2, zRr x2, (0 : Int)) else (x1, x2, x3)); split <;> first | rfl | omega) (by first | omega | (unfold zRp zRr; split <;> omega))
          refine zj_re [7, 6, 0, 1, 2, 3, 4, 5] [(q5, .inr (5, [.int (zI th), .ref m0, .ref m1, .int (zI sm), .ref m2, .int (zI ty), .ref m3, .ref m4, .ref m5, .ref m6, .ref m7, .ref m8, .int (zI (pg + 1)), .int (zI 0), .int (zI 0), .ref m9, .int (zI pm), .int (zI sp), .int (zI wr), .long ha])), (m0, .inl (cI, 74, .inl (zA Z1))), (m3, .inl (cI, 24, .inl (zA P1))), (m4, .inl (cI, 24, .inl (zA R1))), (m5, .inl (cI, 24, .inl (zA U1))), (m6, .inl (cI, 384, .inl (zA G1))), (m7, .inl (cI, 16, .inl (zA b1))), (m8, .inl (cI, 16, .inl (zA c1)))] (by decide) rfl ?_
          refine zj_lv [2, 3, 1, 0] [(0, .ref q5), (1, .int (zI j1)), (2, .int (zI d1)), (3, .int (zI (Z1 (2 + 3 * j1 + 1))))] rfl ?_
          exact hL65 (pg + 1) 0 0 (by unfold zGc; split <;> first | rfl | omega) (by omega)
    refine zj_re [6, 7, 0, 1, 2, 3, 4, 5] [(q5, .inr (5, [.int (zI th), .ref m0, .ref m1, .int (zI sm), .ref m2, .int (zI ty), .ref m3, .ref m4, .ref m5, .ref m6, .ref m7, .ref m8, .int (zI pg), .int (zI rw), .int (zI un), .ref m9, .int (zI pm), .int (zI sp), .int (zI wr), .long ha])), (m0, .inl (cI, 74, .inl (zA Z1))), (m3, .inl (cI, 24, .inl (zA P1))), (m4, .inl (cI, 24, .inl (zA R1))), (m5, .inl (cI, 24, .inl (zA U1))), (m6, .inl (cI, 384, .inl (zA G1))), (m7, .inl (cI, 16, .inl (zA b1))), (m8, .inl (cI, 16, .inl (zA c1)))] (by decide) rfl ?_
    exact hL15 1 (by omega)
