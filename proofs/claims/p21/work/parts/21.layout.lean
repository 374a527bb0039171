/-- the row behind -/
def zRp (pg rw : Int) : Int := if rw = 3 then pg + 1 else pg
def zRr (rw : Int) : Int := if rw = 3 then 0 else rw + 1
/-- too many beats for the page of now -/
abbrev zGc (c b : Int → Int) (pg t set : Int) : Prop := (pg < 16 ∧ 0 < c pg) ∧ set < b pg + t
/-- the first panel of a page, the pages that bear, behind one more panel -/
def zFs (c s : Int → Int) (p j : Int) : Int → Int := if c p = 0 then zU s p j else s
def zBe (c : Int → Int) (be p : Int) : Int := if c p = 0 then be + 1 else be

abbrev rm_X1_isOnLeft : Room := { frames := 0, cells := 0, slots := 0, locals := 0 }
set_option maxRecDepth 100000 in
set_option maxHeartbeats 4000000 in
theorem c_X1_isOnLeft (l : Launch) (D : va_G) (cI cS cJ : ClassId) (v1 : Int) (hv : 0 ≤ v1 ∧ v1 < 2147483648) : zMi l yX1_isOnLeft wsX1_isOnLeft rm_X1_isOnLeft D (zTy cI cS cJ) [.int (zI v1)] [] (fun r w => ∃ (r1 : Int), ((r1 = 1 ∧ v1 % 2 = 1) ∨ (r1 = 0 ∧ v1 % 2 = 0)) ∧ r = zI r1 ∧ w = []) 0 0 := by
  intro sz
  refine zMet_of (Qc := fun A => va_Qi _ (zB D (zTy cI cS cJ) A) A) RX1 [(0, .int (zI v1))] rfl (by decide +kernel) rfl (Nat.le_of_ble_eq_true rfl) rfl ?_ sz
  intro p e s m args below meth c A Q hQ C hr hini
  refine zj_iload_n 1 0 C dX1_isOnLeft_0 rfl rfl rfl ?_
  refine zj_iconst 2 C dX1_isOnLeft_1 rfl ?_
  refine zj_iand1 3 C dX1_isOnLeft_2 rfl (by omega) ?_
  refine zj_iconst 4 C dX1_isOnLeft_3 rfl ?_
  refine zj_icmp_ne 7 11 C (by omega) (by omega) dX1_isOnLeft_4 rfl (by decide) (fun h_1 => ?_) (fun h_1 => ?_)
  · skip
    refine zj_iconst 12 C dX1_isOnLeft_11 rfl ?_
    subst hQ
    exact zj_zret C (zI_bool (by omega)) hr ⟨0, (by omega), rfl, rfl⟩ (by decide) (by decide) dX1_isOnLeft_12
  · skip
    refine zj_iconst 8 C dX1_isOnLeft_7 rfl ?_
    refine zj_goto 12 C dX1_isOnLeft_8 (by decide) ?_
    subst hQ
    exact zj_zret C (zI_bool (by omega)) hr ⟨1, (by omega), rfl, rfl⟩ (by decide) (by decide) dX1_isOnLeft_12

theorem fl_X1_isBearing_21 : Cond.fieldLink RX1 21 "SplashPages$Layout" "pagePanels" "[I" ∈ wsX1_isBearing := by decide +kernel
theorem im_X1_isBearing_1 : ∀ w ∈ u_ws RX1 TX1 15, w ∈ wsX1_isBearing := by decide +kernel
abbrev rm_X1_isBearing : Room := { frames := 0, cells := 0, slots := 0, locals := 0 }
set_option maxRecDepth 100000 in
set_option maxHeartbeats 4000000 in
theorem c_X1_isBearing (l : Launch) (D : va_G) (cI cS cJ : ClassId) (q1 : Nat) (a0 : Nat) (a1 : Nat) (a2 : Nat) (a3 : Nat) (a4 : Nat) (a5 : Nat) (a6 : Nat) (a7 : Nat) (pg : Int) (rw : Int) (un : Int) (us : Int) (be : Int) (fi : Int) (lo : Int) (c1 : Int → Int) (v1 : Int) (hv : 0 ≤ v1 ∧ v1 < 2147483648) (hc : ∀ x, 0 ≤ c1 x ∧ c1 x ≤ 1000) : zMi l yX1_isBearing wsX1_isBearing rm_X1_isBearing D (zTy cI cS cJ) [.ref q1, .int (zI v1)] [(q1, .inr (1, [.ref a0, .ref a1, .ref a2, .ref a3, .ref a4, .ref a5, .ref a6, .ref a7, .int (zI pg), .int (zI rw), .int (zI un), .int (zI us), .int (zI be), .int (zI fi), .int (zI lo)])), (a3, .inl (cI, 16, .inl (zA c1)))] (fun r w => ∃ (r1 : Int), ((r1 = 1 ∧ v1 < 16 ∧ 0 < c1 v1) ∨ (r1 = 0 ∧ ¬ (v1 < 16 ∧ 0 < c1 v1))) ∧ r = zI r1 ∧ w = [(q1, .inr (1, [.ref a0, .ref a1, .ref a2, .ref a3, .ref a4, .ref a5, .ref a6, .ref a7, .int (zI pg), .int (zI rw), .int (zI un), .int (zI us), .int (zI be), .int (zI fi), .int (zI lo)])), (a3, .inl (cI, 16, .inl (zA c1)))]) 0 0 := by
  intro sz
  refine zMet_of (Qc := fun A => va_Qi _ (zB D (zTy cI cS cJ) A) A) RX1 [(0, .ref q1), (1, .int (zI v1))] rfl (by decide +kernel) rfl (Nat.le_of_ble_eq_true rfl) rfl ?_ sz
  intro p e s m args below meth c A Q hQ C hr hini
  have hcv := hc v1
  refine zj_iload_n 1 1 C dX1_isBearing_0 rfl rfl rfl ?_
  refine zj_if_lt 4 23 C (by omega) dX1_isBearing_1 rfl (by decide) (fun h_1 => ?_) (fun h_1 => ?_)
  · exact absurd h_1 (by omega)
  · skip
    refine zj_iload_n 5 1 C dX1_isBearing_4 rfl rfl rfl ?_
    refine zj_bipush 7 C dX1_isBearing_5 rfl rfl ?_
    refine zj_icmp_ge 10 23 C (by omega) (by omega) dX1_isBearing_7 rfl (by decide) (fun h_2 => ?_) (fun h_2 => ?_)
    · skip
      refine zj_iconst 24 C dX1_isBearing_23 rfl ?_
      subst hQ
      exact zj_zret C (zI_bool (by omega)) hr ⟨0, (by omega), rfl, rfl⟩ (by decide) (by decide) dX1_isBearing_24
    · skip
      refine zj_aload_n 11 0 C dX1_isBearing_10 rfl rfl rfl ?_
      refine zj_get 14 0 3 C (T := TX1) im_X1_isBearing_1 fl_X1_isBearing_21 rfl rfl (by decide) rfl rfl dX1_isBearing_11 rfl ?_
      refine zj_iload_n 15 1 C dX1_isBearing_14 rfl rfl rfl ?_
      refine zj_iald 16 1 C (by omega) (by omega) rfl rfl dX1_isBearing_15 rfl ?_
      refine zj_if_le 19 23 C (by omega) dX1_isBearing_16 rfl (by decide) (fun h_3 => ?_) (fun h_3 => ?_)
      · skip
        refine zj_iconst 24 C dX1_isBearing_23 rfl ?_
        subst hQ
        exact zj_zret C (zI_bool (by omega)) hr ⟨0, (by omega), rfl, rfl⟩ (by decide) (by decide) dX1_isBearing_24
      · skip
        refine zj_iconst 20 C dX1_isBearing_19 rfl ?_
        refine zj_goto 24 C dX1_isBearing_20 (by decide) ?_
        subst hQ
        exact zj_zret C (zI_bool (by omega)) hr ⟨1, (by omega), rfl, rfl⟩ (by decide) (by decide) dX1_isBearing_24

theorem fl_X1_beginPage_36 : Cond.fieldLink RX1 36 "SplashPages$Layout" "pageOfNow" "I" ∈ wsX1_beginPage := by decide +kernel
theorem im_X1_beginPage_1 : ∀ w ∈ u_ws RX1 TX1 15, w ∈ wsX1_beginPage := by decide +kernel
theorem fl_X1_beginPage_40 : Cond.fieldLink RX1 40 "SplashPages$Layout" "rowOfNow" "I" ∈ wsX1_beginPage := by decide +kernel
theorem fl_X1_beginPage_43 : Cond.fieldLink RX1 43 "SplashPages$Layout" "nextUnit" "I" ∈ wsX1_beginPage := by decide +kernel
abbrev rm_X1_beginPage : Room := { frames := 0, cells := 0, slots := 0, locals := 0 }
set_option maxRecDepth 100000 in
set_option maxHeartbeats 4000000 in
theorem c_X1_beginPage (l : Launch) (D : va_G) (cI cS cJ : ClassId) (q1 : Nat) (a0 : Nat) (a1 : Nat) (a2 : Nat) (a3 : Nat) (a4 : Nat) (a5 : Nat) (a6 : Nat) (a7 : Nat) (pg : Int) (rw : Int) (un : Int) (us : Int) (be : Int) (fi : Int) (lo : Int) (v1 : Int) : zMv l yX1_beginPage wsX1_beginPage rm_X1_beginPage D (zTy cI cS cJ) [.ref q1, .int (zI v1)] [(q1, .inr (1, [.ref a0, .ref a1, .ref a2, .ref a3, .ref a4, .ref a5, .ref a6, .ref a7, .int (zI pg), .int (zI rw), .int (zI un), .int (zI us), .int (zI be), .int (zI fi), .int (zI lo)]))] (fun w => w = [(q1, .inr (1, [.ref a0, .ref a1, .ref a2, .ref a3, .ref a4, .ref a5, .ref a6, .ref a7, .int (zI v1), .int (zI 0), .int (zI 0), .int (zI us), .int (zI be), .int (zI fi), .int (zI lo)]))]) 0 0 := by
  intro sz
  refine zMet_of (Qc := fun A => va_Qv _ (zB D (zTy cI cS cJ) A) A) RX1 [(0, .ref q1), (1, .int (zI v1))] rfl (by decide +kernel) rfl (Nat.le_of_ble_eq_true rfl) rfl ?_ sz
  intro p e s m args below meth c A Q hQ C hr hini
  refine zj_aload_n 1 0 C dX1_beginPage_0 rfl rfl rfl ?_
  refine zj_iload_n 2 1 C dX1_beginPage_1 rfl rfl rfl ?_
  refine zj_put 5 0 8 [(q1, .inr (1, [.ref a0, .ref a1, .ref a2, .ref a3, .ref a4, .ref a5, .ref a6, .ref a7, .int (zI v1), .int (zI rw), .int (zI un), .int (zI us), .int (zI be), .int (zI fi), .int (zI lo)]))] C (T := TX1) tyX1 tyX1_ok nmX1 im_X1_beginPage_1 fl_X1_beginPage_36 rfl rfl (by decide) rfl rfl rfl rfl rfl (Nat.le_of_ble_eq_true rfl) rfl dX1_beginPage_2 rfl ?_
  refine zj_aload_n 6 0 C dX1_beginPage_5 rfl rfl rfl ?_
  refine zj_iconst 7 C dX1_beginPage_6 rfl ?_
  refine zj_put 10 0 9 [(q1, .inr (1, [.ref a0, .ref a1, .ref a2, .ref a3, .ref a4, .ref a5, .ref a6, .ref a7, .int (zI v1), .int (zI 0), .int (zI un), .int (zI us), .int (zI be), .int (zI fi), .int (zI lo)]))] C (T := TX1) tyX1 tyX1_ok nmX1 im_X1_beginPage_1 fl_X1_beginPage_40 rfl rfl (by decide) rfl rfl rfl rfl rfl (Nat.le_of_ble_eq_true rfl) rfl dX1_beginPage_7 rfl ?_
  refine zj_aload_n 11 0 C dX1_beginPage_10 rfl rfl rfl ?_
  refine zj_iconst 12 C dX1_beginPage_11 rfl ?_
  refine zj_put 15 0 10 [(q1, .inr (1, [.ref a0, .ref a1, .ref a2, .ref a3, .ref a4, .ref a5, .ref a6, .ref a7, .int (zI v1), .int (zI 0), .int (zI 0), .int (zI us), .int (zI be), .int (zI fi), .int (zI lo)]))] C (T := TX1) tyX1 tyX1_ok nmX1 im_X1_beginPage_1 fl_X1_beginPage_43 rfl rfl (by decide) rfl rfl rfl rfl rfl (Nat.le_of_ble_eq_true rfl) rfl dX1_beginPage_12 rfl ?_
  subst hQ
  exact zj_return C hr rfl (by decide) (by decide) dX1_beginPage_15

theorem fl_X1_beginRow_43 : Cond.fieldLink RX1 43 "SplashPages$Layout" "nextUnit" "I" ∈ wsX1_beginRow := by decide +kernel
theorem im_X1_beginRow_1 : ∀ w ∈ u_ws RX1 TX1 15, w ∈ wsX1_beginRow := by decide +kernel
theorem fl_X1_beginRow_40 : Cond.fieldLink RX1 40 "SplashPages$Layout" "rowOfNow" "I" ∈ wsX1_beginRow := by decide +kernel
theorem fl_X1_beginRow_36 : Cond.fieldLink RX1 36 "SplashPages$Layout" "pageOfNow" "I" ∈ wsX1_beginRow := by decide +kernel
abbrev rm_X1_beginRow : Room := { frames := 0, cells := 0, slots := 0, locals := 0 }
set_option maxRecDepth 100000 in
set_option maxHeartbeats 4000000 in
theorem c_X1_beginRow (l : Launch) (D : va_G) (cI cS cJ : ClassId) (q1 : Nat) (a0 : Nat) (a1 : Nat) (a2 : Nat) (a3 : Nat) (a4 : Nat) (a5 : Nat) (a6 : Nat) (a7 : Nat) (pg : Int) (rw : Int) (un : Int) (us : Int) (be : Int) (fi : Int) (lo : Int) (hr : 0 ≤ rw ∧ rw ≤ 3) : zMv l yX1_beginRow wsX1_beginRow rm_X1_beginRow D (zTy cI cS cJ) [.ref q1] [(q1, .inr (1, [.ref a0, .ref a1, .ref a2, .ref a3, .ref a4, .ref a5, .ref a6, .ref a7, .int (zI pg), .int (zI rw), .int (zI un), .int (zI us), .int (zI be), .int (zI fi), .int (zI lo)]))] (fun w => w = [(q1, .inr (1, [.ref a0, .ref a1, .ref a2, .ref a3, .ref a4, .ref a5, .ref a6, .ref a7, .int (zI (zRp pg rw)), .int (zI (zRr rw)), .int (zI 0), .int (zI us), .int (zI be), .int (zI fi), .int (zI lo)]))]) 0 0 := by
  intro sz
  refine zMet_of (Qc := fun A => va_Qv _ (zB D (zTy cI cS cJ) A) A) RX1 [(0, .ref q1)] rfl (by decide +kernel) rfl (Nat.le_of_ble_eq_true rfl) rfl ?_ sz
  intro p e s m args below meth c A Q hQ C hr hini
  refine zj_aload_n 1 0 C dX1_beginRow_0 rfl rfl rfl ?_
  refine zj_iconst 2 C dX1_beginRow_1 rfl ?_
  refine zj_put 5 0 10 [(q1, .inr (1, [.ref a0, .ref a1, .ref a2, .ref a3, .ref a4, .ref a5, .ref a6, .ref a7, .int (zI pg), .int (zI rw), .int (zI 0), .int (zI us), .int (zI be), .int (zI fi), .int (zI lo)]))] C (T := TX1) tyX1 tyX1_ok nmX1 im_X1_beginRow_1 fl_X1_beginRow_43 rfl rfl (by decide) rfl rfl rfl rfl rfl (Nat.le_of_ble_eq_true rfl) rfl dX1_beginRow_2 rfl ?_
  refine zj_aload_n 6 0 C dX1_beginRow_5 rfl rfl rfl ?_
  refine zj_dup 7 C dX1_beginRow_6 rfl rfl ?_
  refine zj_get 10 0 9 C (T := TX1) im_X1_beginRow_1 fl_X1_beginRow_40 rfl rfl (by decide) rfl rfl dX1_beginRow_7 rfl ?_
  refine zj_iconst 11 C dX1_beginRow_10 rfl ?_
  refine zj_iadd 12 C dX1_beginRow_11 rfl ?_
  refine zj_put 15 0 9 [(q1, .inr (1, [.ref a0, .ref a1, .ref a2, .ref a3, .ref a4, .ref a5, .ref a6, .ref a7, .int (zI pg), .int (zI (rw + 1)), .int (zI 0), .int (zI us), .int (zI be), .int (zI fi), .int (zI lo)]))] C (T := TX1) tyX1 tyX1_ok nmX1 im_X1_beginRow_1 fl_X1_beginRow_40 rfl rfl (by decide) rfl rfl rfl rfl rfl (Nat.le_of_ble_eq_true rfl) rfl dX1_beginRow_12 rfl ?_
  refine zj_aload_n 16 0 C dX1_beginRow_15 rfl rfl rfl ?_
  refine zj_get 19 0 9 C (T := TX1) im_X1_beginRow_1 fl_X1_beginRow_40 rfl rfl (by decide) rfl rfl dX1_beginRow_16 rfl ?_
  refine zj_iconst 20 C dX1_beginRow_19 rfl ?_
  refine zj_icmp_ne 23 38 C (by omega) (by omega) dX1_beginRow_20 rfl (by decide) (fun h20 => ?_) (fun h20 => ?_)
  · skip
    refine zj_ws (ws' := [(q1, .inr (1, [.ref a0, .ref a1, .ref a2, .ref a3, .ref a4, .ref a5, .ref a6, .ref a7, .int (zI (zRp pg rw)), .int (zI (zRr rw)), .int (zI 0), .int (zI us), .int (zI be), .int (zI fi), .int (zI lo)]))]) (by rw [show zRp pg rw = pg from by unfold zRp; split <;> omega, show zRr rw = rw + 1 from by unfold zRr; split <;> omega]) ?_
    subst hQ
    exact zj_return C hr rfl (by decide) (by decide) dX1_beginRow_38
  · skip
    refine zj_aload_n 24 0 C dX1_beginRow_23 rfl rfl rfl ?_
    refine zj_iconst 25 C dX1_beginRow_24 rfl ?_
    refine zj_put 28 0 9 [(q1, .inr (1, [.ref a0, .ref a1, .ref a2, .ref a3, .ref a4, .ref a5, .ref a6, .ref a7, .int (zI pg), .int (zI 0), .int (zI 0), .int (zI us), .int (zI be), .int (zI fi), .int (zI lo)]))] C (T := TX1) tyX1 tyX1_ok nmX1 im_X1_beginRow_1 fl_X1_beginRow_40 rfl rfl (by decide) rfl rfl rfl rfl rfl (Nat.le_of_ble_eq_true rfl) rfl dX1_beginRow_25 rfl ?_
    refine zj_aload_n 29 0 C dX1_beginRow_28 rfl rfl rfl ?_
    refine zj_dup 30 C dX1_beginRow_29 rfl rfl ?_
    refine zj_get 33 0 8 C (T := TX1) im_X1_beginRow_1 fl_X1_beginRow_36 rfl rfl (by decide) rfl rfl dX1_beginRow_30 rfl ?_
    refine zj_iconst 34 C dX1_beginRow_33 rfl ?_
    refine zj_iadd 35 C dX1_beginRow_34 rfl ?_
    refine zj_put 38 0 8 [(q1, .inr (1, [.ref a0, .ref a1, .ref a2, .ref a3, .ref a4, .ref a5, .ref a6, .ref a7, .int (zI (pg + 1)), .int (zI 0), .int (zI 0), .int (zI us), .int (zI be), .int (zI fi), .int (zI lo)]))] C (T := TX1) tyX1 tyX1_ok nmX1 im_X1_beginRow_1 fl_X1_beginRow_36 rfl rfl (by decide) rfl rfl rfl rfl rfl (Nat.le_of_ble_eq_true rfl) rfl dX1_beginRow_35 rfl ?_
    refine zj_ws (ws' := [(q1, .inr (1, [.ref a0, .ref a1, .ref a2, .ref a3, .ref a4, .ref a5, .ref a6, .ref a7, .int (zI (zRp pg rw)), .int (zI (zRr rw)), .int (zI 0), .int (zI us), .int (zI be), .int (zI fi), .int (zI lo)]))]) (by rw [show zRp pg rw = pg + 1 from by unfold zRp; split <;> omega, show zRr rw = 0 from by unfold zRr; split <;> omega]) ?_
    subst hQ
    exact zj_return C hr rfl (by decide) (by decide) dX1_beginRow_38

theorem fl_X1_note_9 : Cond.fieldLink RX1 9 "SplashPages$Layout" "pages" "[I" ∈ wsX1_note := by decide +kernel
theorem im_X1_note_1 : ∀ w ∈ u_ws RX1 TX1 15, w ∈ wsX1_note := by decide +kernel
theorem fl_X1_note_15 : Cond.fieldLink RX1 15 "SplashPages$Layout" "rows" "[I" ∈ wsX1_note := by decide +kernel
theorem fl_X1_note_18 : Cond.fieldLink RX1 18 "SplashPages$Layout" "units" "[I" ∈ wsX1_note := by decide +kernel
abbrev rm_X1_note : Room := { frames := 0, cells := 0, slots := 0, locals := 0 }
set_option maxRecDepth 100000 in
set_option maxHeartbeats 4000000 in
theorem c_X1_note (l : Launch) (D : va_G) (cI cS cJ : ClassId) (q1 : Nat) (a0 : Nat) (a1 : Nat) (a2 : Nat) (a3 : Nat) (a4 : Nat) (a5 : Nat) (a6 : Nat) (a7 : Nat) (pg : Int) (rw : Int) (un : Int) (us : Int) (be : Int) (fi : Int) (lo : Int) (P1 : Int → Int) (R1 : Int → Int) (U1 : Int → Int) (j1 : Int) (x1 : Int) (x2 : Int) (x3 : Int) (hj : 0 ≤ j1 ∧ j1 < 24) : zMv l yX1_note wsX1_note rm_X1_note D (zTy cI cS cJ) [.ref q1, .int (zI j1), .int (zI x1), .int (zI x2), .int (zI x3)] [(q1, .inr (1, [.ref a0, .ref a1, .ref a2, .ref a3, .ref a4, .ref a5, .ref a6, .ref a7, .int (zI pg), .int (zI rw), .int (zI un), .int (zI us), .int (zI be), .int (zI fi), .int (zI lo)])), (a0, .inl (cI, 24, .inl (zA P1))), (a1, .inl (cI, 24, .inl (zA R1))), (a2, .inl (cI, 24, .inl (zA U1)))] (fun w => w = [(q1, .inr (1, [.ref a0, .ref a1, .ref a2, .ref a3, .ref a4, .ref a5, .ref a6, .ref a7, .int (zI pg), .int (zI rw), .int (zI un), .int (zI us), .int (zI be), .int (zI fi), .int (zI lo)])), (a0, .inl (cI, 24, .inl (zA (zU P1 j1 x1)))), (a1, .inl (cI, 24, .inl (zA (zU R1 j1 x2)))), (a2, .inl (cI, 24, .inl (zA (zU U1 j1 x3))))]) 0 0 := by
  intro sz
  refine zMet_of (Qc := fun A => va_Qv _ (zB D (zTy cI cS cJ) A) A) RX1 [(0, .ref q1), (1, .int (zI j1)), (2, .int (zI x1)), (3, .int (zI x2)), (4, .int (zI x3))] rfl (by decide +kernel) rfl (Nat.le_of_ble_eq_true rfl) rfl ?_ sz
  intro p e s m args below meth c A Q hQ C hr hini
  refine zj_iload_n 1 1 C dX1_note_0 rfl rfl rfl ?_
  refine zj_if_lt 4 10 C (by omega) dX1_note_1 rfl (by decide) (fun h_1 => ?_) (fun h_1 => ?_)
  · exact absurd h_1 (by omega)
  · skip
    refine zj_iload_n 5 1 C dX1_note_4 rfl rfl rfl ?_
    refine zj_bipush 7 C dX1_note_5 rfl rfl ?_
    refine zj_icmp_lt 10 11 C (by omega) (by omega) dX1_note_7 rfl (by decide) (fun h_2 => ?_) (fun h_2 => ?_)
    · skip
      refine zj_aload_n 12 0 C dX1_note_11 rfl rfl rfl ?_
      refine zj_get 15 0 0 C (T := TX1) im_X1_note_1 fl_X1_note_9 rfl rfl (by decide) rfl rfl dX1_note_12 rfl ?_
      refine zj_iload_n 16 1 C dX1_note_15 rfl rfl rfl ?_
      refine zj_iload_n 17 2 C dX1_note_16 rfl rfl rfl ?_
      refine zj_iast 18 1 [(q1, .inr (1, [.ref a0, .ref a1, .ref a2, .ref a3, .ref a4, .ref a5, .ref a6, .ref a7, .int (zI pg), .int (zI rw), .int (zI un), .int (zI us), .int (zI be), .int (zI fi), .int (zI lo)])), (a0, .inl (cI, 24, .inl (zA (zU P1 j1 x1)))), (a1, .inl (cI, 24, .inl (zA R1))), (a2, .inl (cI, 24, .inl (zA U1)))] C (by omega) (by omega) rfl rfl rfl dX1_note_17 rfl ?_
      refine zj_aload_n 19 0 C dX1_note_18 rfl rfl rfl ?_
      refine zj_get 22 0 1 C (T := TX1) im_X1_note_1 fl_X1_note_15 rfl rfl (by decide) rfl rfl dX1_note_19 rfl ?_
      refine zj_iload_n 23 1 C dX1_note_22 rfl rfl rfl ?_
      refine zj_iload_n 24 3 C dX1_note_23 rfl rfl rfl ?_
      refine zj_iast 25 2 [(q1, .inr (1, [.ref a0, .ref a1, .ref a2, .ref a3, .ref a4, .ref a5, .ref a6, .ref a7, .int (zI pg), .int (zI rw), .int (zI un), .int (zI us), .int (zI be), .int (zI fi), .int (zI lo)])), (a0, .inl (cI, 24, .inl (zA (zU P1 j1 x1)))), (a1, .inl (cI, 24, .inl (zA (zU R1 j1 x2)))), (a2, .inl (cI, 24, .inl (zA U1)))] C (by omega) (by omega) rfl rfl rfl dX1_note_24 rfl ?_
      refine zj_aload_n 26 0 C dX1_note_25 rfl rfl rfl ?_
      refine zj_get 29 0 2 C (T := TX1) im_X1_note_1 fl_X1_note_18 rfl rfl (by decide) rfl rfl dX1_note_26 rfl ?_
      refine zj_iload_n 30 1 C dX1_note_29 rfl rfl rfl ?_
      refine zj_iload 32 4 C dX1_note_30 rfl rfl ?_
      refine zj_iast 33 3 [(q1, .inr (1, [.ref a0, .ref a1, .ref a2, .ref a3, .ref a4, .ref a5, .ref a6, .ref a7, .int (zI pg), .int (zI rw), .int (zI un), .int (zI us), .int (zI be), .int (zI fi), .int (zI lo)])), (a0, .inl (cI, 24, .inl (zA (zU P1 j1 x1)))), (a1, .inl (cI, 24, .inl (zA (zU R1 j1 x2)))), (a2, .inl (cI, 24, .inl (zA (zU U1 j1 x3))))] C (by omega) (by omega) rfl rfl rfl dX1_note_32 rfl ?_
      subst hQ
      exact zj_return C hr rfl (by decide) (by decide) dX1_note_33
    · exact absurd h_2 (by omega)

theorem fl_X1_bear_21 : Cond.fieldLink RX1 21 "SplashPages$Layout" "pagePanels" "[I" ∈ wsX1_bear := by decide +kernel
theorem im_X1_bear_1 : ∀ w ∈ u_ws RX1 TX1 15, w ∈ wsX1_bear := by decide +kernel
theorem fl_X1_bear_24 : Cond.fieldLink RX1 24 "SplashPages$Layout" "pageBeats" "[I" ∈ wsX1_bear := by decide +kernel
theorem fl_X1_bear_27 : Cond.fieldLink RX1 27 "SplashPages$Layout" "pageFilled" "[I" ∈ wsX1_bear := by decide +kernel
theorem fl_X1_bear_52 : Cond.fieldLink RX1 52 "SplashPages$Layout" "filled" "I" ∈ wsX1_bear := by decide +kernel
theorem fl_X1_bear_46 : Cond.fieldLink RX1 46 "SplashPages$Layout" "used" "I" ∈ wsX1_bear := by decide +kernel
theorem fl_X1_bear_30 : Cond.fieldLink RX1 30 "SplashPages$Layout" "pageFirst" "[I" ∈ wsX1_bear := by decide +kernel
theorem fl_X1_bear_49 : Cond.fieldLink RX1 49 "SplashPages$Layout" "bearing" "I" ∈ wsX1_bear := by decide +kernel
abbrev rm_X1_bear : Room := { frames := 0, cells := 0, slots := 0, locals := 0 }
set_option maxRecDepth 100000 in
set_option maxHeartbeats 4000000 in
theorem c_X1_bear (l : Launch) (D : va_G) (cI cS cJ : ClassId) (q1 : Nat) (a0 : Nat) (a1 : Nat) (a2 : Nat) (a3 : Nat) (a4 : Nat) (a5 : Nat) (a6 : Nat) (a7 : Nat) (pg : Int) (rw : Int) (un : Int) (us : Int) (be : Int) (fi : Int) (lo : Int) (c1 : Int → Int) (b1 : Int → Int) (f1 : Int → Int) (s1 : Int → Int) (p1 : Int) (j1 : Int) (u1 : Int) (t1 : Int) (hp : 0 ≤ p1 ∧ p1 < 16) (hc : ∀ x, 0 ≤ c1 x ∧ c1 x ≤ 2000) : zMv l yX1_bear wsX1_bear rm_X1_bear D (zTy cI cS cJ) [.ref q1, .int (zI p1), .int (zI j1), .int (zI u1), .int (zI t1)] [(q1, .inr (1, [.ref a0, .ref a1, .ref a2, .ref a3, .ref a4, .ref a5, .ref a6, .ref a7, .int (zI pg), .int (zI rw), .int (zI un), .int (zI us), .int (zI be), .int (zI fi), .int (zI lo)])), (a3, .inl (cI, 16, .inl (zA c1))), (a4, .inl (cI, 16, .inl (zA b1))), (a5, .inl (cI, 16, .inl (zA f1))), (a6, .inl (cI, 16, .inl (zA s1)))] (fun w => w = [(q1, .inr (1, [.ref a0, .ref a1, .ref a2, .ref a3, .ref a4, .ref a5, .ref a6, .ref a7, .int (zI pg), .int (zI rw), .int (zI un), .int (zI (p1 + 1)), .int (zI (zBe c1 be p1)), .int (zI (fi + u1)), .int (zI lo)])), (a3, .inl (cI, 16, .inl (zA (zU c1 p1 (c1 p1 + 1))))), (a4, .inl (cI, 16, .inl (zA (zU b1 p1 (b1 p1 + t1))))), (a5, .inl (cI, 16, .inl (zA (zU f1 p1 (f1 p1 + u1))))), (a6, .inl (cI, 16, .inl (zA (zFs c1 s1 p1 j1))))]) 0 0 := by
  intro sz
  refine zMet_of (Qc := fun A => va_Qv _ (zB D (zTy cI cS cJ) A) A) RX1 [(0, .ref q1), (1, .int (zI p1)), (2, .int (zI j1)), (3, .int (zI u1)), (4, .int (zI t1))] rfl (by decide +kernel) rfl (Nat.le_of_ble_eq_true rfl) rfl ?_ sz
  intro p e s m args below meth c A Q hQ C hr hini
  have hcv := hc p1
  refine zj_iload_n 1 1 C dX1_bear_0 rfl rfl rfl ?_
  refine zj_if_lt 4 10 C (by omega) dX1_bear_1 rfl (by decide) (fun h_1 => ?_) (fun h_1 => ?_)
  · exact absurd h_1 (by omega)
  · skip
    refine zj_iload_n 5 1 C dX1_bear_4 rfl rfl rfl ?_
    refine zj_bipush 7 C dX1_bear_5 rfl rfl ?_
    refine zj_icmp_lt 10 11 C (by omega) (by omega) dX1_bear_7 rfl (by decide) (fun h_2 => ?_) (fun h_2 => ?_)
    · skip
      refine zj_aload_n 12 0 C dX1_bear_11 rfl rfl rfl ?_
      refine zj_get 15 0 3 C (T := TX1) im_X1_bear_1 fl_X1_bear_21 rfl rfl (by decide) rfl rfl dX1_bear_12 rfl ?_
      refine zj_iload_n 16 1 C dX1_bear_15 rfl rfl rfl ?_
      refine zj_iald 17 1 C (by omega) (by omega) rfl rfl dX1_bear_16 rfl ?_
      refine zj_if_ne 20 37 C (by omega) dX1_bear_17 rfl (by decide) (fun h17 => ?_) (fun h17 => ?_)
      · skip
        refine zj_aload_n 38 0 C dX1_bear_37 rfl rfl rfl ?_
        refine zj_get 41 0 3 C (T := TX1) im_X1_bear_1 fl_X1_bear_21 rfl rfl (by decide) rfl rfl dX1_bear_38 rfl ?_
        refine zj_iload_n 42 1 C dX1_bear_41 rfl rfl rfl ?_
        refine zj_dup2 43 C dX1_bear_42 rfl rfl rfl ?_
        refine zj_iald 44 1 C (by omega) (by omega) rfl rfl dX1_bear_43 rfl ?_
        refine zj_iconst 45 C dX1_bear_44 rfl ?_
        refine zj_iadd 46 C dX1_bear_45 rfl ?_
        refine zj_iast 47 1 [(q1, .inr (1, [.ref a0, .ref a1, .ref a2, .ref a3, .ref a4, .ref a5, .ref a6, .ref a7, .int (zI pg), .int (zI rw), .int (zI un), .int (zI us), .int (zI be), .int (zI fi), .int (zI lo)])), (a3, .inl (cI, 16, .inl (zA (zU c1 p1 ((c1 p1) + 1))))), (a4, .inl (cI, 16, .inl (zA b1))), (a5, .inl (cI, 16, .inl (zA f1))), (a6, .inl (cI, 16, .inl (zA s1)))] C (by omega) (by omega) rfl rfl rfl dX1_bear_46 rfl ?_
        refine zj_aload_n 48 0 C dX1_bear_47 rfl rfl rfl ?_
        refine zj_get 51 0 4 C (T := TX1) im_X1_bear_1 fl_X1_bear_24 rfl rfl (by decide) rfl rfl dX1_bear_48 rfl ?_
        refine zj_iload_n 52 1 C dX1_bear_51 rfl rfl rfl ?_
        refine zj_dup2 53 C dX1_bear_52 rfl rfl rfl ?_
        refine zj_iald 54 2 C (by omega) (by omega) rfl rfl dX1_bear_53 rfl ?_
        refine zj_iload 56 4 C dX1_bear_54 rfl rfl ?_
        refine zj_iadd 57 C dX1_bear_56 rfl ?_
        refine zj_iast 58 2 [(q1, .inr (1, [.ref a0, .ref a1, .ref a2, .ref a3, .ref a4, .ref a5, .ref a6, .ref a7, .int (zI pg), .int (zI rw), .int (zI un), .int (zI us), .int (zI be), .int (zI fi), .int (zI lo)])), (a3, .inl (cI, 16, .inl (zA (zU c1 p1 ((c1 p1) + 1))))), (a4, .inl (cI, 16, .inl (zA (zU b1 p1 ((b1 p1) + t1))))), (a5, .inl (cI, 16, .inl (zA f1))), (a6, .inl (cI, 16, .inl (zA s1)))] C (by omega) (by omega) rfl rfl rfl dX1_bear_57 rfl ?_
        refine zj_aload_n 59 0 C dX1_bear_58 rfl rfl rfl ?_
        refine zj_get 62 0 5 C (T := TX1) im_X1_bear_1 fl_X1_bear_27 rfl rfl (by decide) rfl rfl dX1_bear_59 rfl ?_
        refine zj_iload_n 63 1 C dX1_bear_62 rfl rfl rfl ?_
        refine zj_dup2 64 C dX1_bear_63 rfl rfl rfl ?_
        refine zj_iald 65 3 C (by omega) (by omega) rfl rfl dX1_bear_64 rfl ?_
        refine zj_iload_n 66 3 C dX1_bear_65 rfl rfl rfl ?_
        refine zj_iadd 67 C dX1_bear_66 rfl ?_
        refine zj_iast 68 3 [(q1, .inr (1, [.ref a0, .ref a1, .ref a2, .ref a3, .ref a4, .ref a5, .ref a6, .ref a7, .int (zI pg), .int (zI rw), .int (zI un), .int (zI us), .int (zI be), .int (zI fi), .int (zI lo)])), (a3, .inl (cI, 16, .inl (zA (zU c1 p1 ((c1 p1) + 1))))), (a4, .inl (cI, 16, .inl (zA (zU b1 p1 ((b1 p1) + t1))))), (a5, .inl (cI, 16, .inl (zA (zU f1 p1 ((f1 p1) + u1))))), (a6, .inl (cI, 16, .inl (zA s1)))] C (by omega) (by omega) rfl rfl rfl dX1_bear_67 rfl ?_
        refine zj_aload_n 69 0 C dX1_bear_68 rfl rfl rfl ?_
        refine zj_dup 70 C dX1_bear_69 rfl rfl ?_
        refine zj_get 73 0 13 C (T := TX1) im_X1_bear_1 fl_X1_bear_52 rfl rfl (by decide) rfl rfl dX1_bear_70 rfl ?_
        refine zj_iload_n 74 3 C dX1_bear_73 rfl rfl rfl ?_
        refine zj_iadd 75 C dX1_bear_74 rfl ?_
        refine zj_put 78 0 13 [(q1, .inr (1, [.ref a0, .ref a1, .ref a2, .ref a3, .ref a4, .ref a5, .ref a6, .ref a7, .int (zI pg), .int (zI rw), .int (zI un), .int (zI us), .int (zI be), .int (zI (fi + u1)), .int (zI lo)])), (a3, .inl (cI, 16, .inl (zA (zU c1 p1 ((c1 p1) + 1))))), (a4, .inl (cI, 16, .inl (zA (zU b1 p1 ((b1 p1) + t1))))), (a5, .inl (cI, 16, .inl (zA (zU f1 p1 ((f1 p1) + u1))))), (a6, .inl (cI, 16, .inl (zA s1)))] C (T := TX1) tyX1 tyX1_ok nmX1 im_X1_bear_1 fl_X1_bear_52 rfl rfl (by decide) rfl rfl rfl rfl rfl (Nat.le_of_ble_eq_true rfl) rfl dX1_bear_75 rfl ?_
        refine zj_aload_n 79 0 C dX1_bear_78 rfl rfl rfl ?_
        refine zj_iload_n 80 1 C dX1_bear_79 rfl rfl rfl ?_
        refine zj_iconst 81 C dX1_bear_80 rfl ?_
        refine zj_iadd 82 C dX1_bear_81 rfl ?_
        refine zj_put 85 0 11 [(q1, .inr (1, [.ref a0, .ref a1, .ref a2, .ref a3, .ref a4, .ref a5, .ref a6, .ref a7, .int (zI pg), .int (zI rw), .int (zI un), .int (zI (p1 + 1)), .int (zI be), .int (zI (fi + u1)), .int (zI lo)])), (a3, .inl (cI, 16, .inl (zA (zU c1 p1 ((c1 p1) + 1))))), (a4, .inl (cI, 16, .inl (zA (zU b1 p1 ((b1 p1) + t1))))), (a5, .inl (cI, 16, .inl (zA (zU f1 p1 ((f1 p1) + u1))))), (a6, .inl (cI, 16, .inl (zA s1)))] C (T := TX1) tyX1 tyX1_ok nmX1 im_X1_bear_1 fl_X1_bear_46 rfl rfl (by decide) rfl rfl rfl rfl rfl (Nat.le_of_ble_eq_true rfl) rfl dX1_bear_82 rfl ?_
        refine zj_ws (ws' := [(q1, .inr (1, [.ref a0, .ref a1, .ref a2, .ref a3, .ref a4, .ref a5, .ref a6, .ref a7, .int (zI pg), .int (zI rw), .int (zI un), .int (zI (p1 + 1)), .int (zI (zBe c1 be p1)), .int (zI (fi + u1)), .int (zI lo)])), (a3, .inl (cI, 16, .inl (zA (zU c1 p1 (c1 p1 + 1))))), (a4, .inl (cI, 16, .inl (zA (zU b1 p1 (b1 p1 + t1))))), (a5, .inl (cI, 16, .inl (zA (zU f1 p1 (f1 p1 + u1))))), (a6, .inl (cI, 16, .inl (zA (zFs c1 s1 p1 j1))))]) (by rw [show zFs c1 s1 p1 j1 = s1 from by unfold zFs; simp [h17], show zBe c1 be p1 = be from by unfold zBe; simp [h17]]) ?_
        subst hQ
        exact zj_return C hr rfl (by decide) (by decide) dX1_bear_85
      · skip
        refine zj_aload_n 21 0 C dX1_bear_20 rfl rfl rfl ?_
        refine zj_get 24 0 6 C (T := TX1) im_X1_bear_1 fl_X1_bear_30 rfl rfl (by decide) rfl rfl dX1_bear_21 rfl ?_
        refine zj_iload_n 25 1 C dX1_bear_24 rfl rfl rfl ?_
        refine zj_iload_n 26 2 C dX1_bear_25 rfl rfl rfl ?_
        refine zj_iast 27 4 [(q1, .inr (1, [.ref a0, .ref a1, .ref a2, .ref a3, .ref a4, .ref a5, .ref a6, .ref a7, .int (zI pg), .int (zI rw), .int (zI un), .int (zI us), .int (zI be), .int (zI fi), .int (zI lo)])), (a3, .inl (cI, 16, .inl (zA c1))), (a4, .inl (cI, 16, .inl (zA b1))), (a5, .inl (cI, 16, .inl (zA f1))), (a6, .inl (cI, 16, .inl (zA (zU s1 p1 j1))))] C (by omega) (by omega) rfl rfl rfl dX1_bear_26 rfl ?_
        refine zj_aload_n 28 0 C dX1_bear_27 rfl rfl rfl ?_
        refine zj_dup 29 C dX1_bear_28 rfl rfl ?_
        refine zj_get 32 0 12 C (T := TX1) im_X1_bear_1 fl_X1_bear_49 rfl rfl (by decide) rfl rfl dX1_bear_29 rfl ?_
        refine zj_iconst 33 C dX1_bear_32 rfl ?_
        refine zj_iadd 34 C dX1_bear_33 rfl ?_
        refine zj_put 37 0 12 [(q1, .inr (1, [.ref a0, .ref a1, .ref a2, .ref a3, .ref a4, .ref a5, .ref a6, .ref a7, .int (zI pg), .int (zI rw), .int (zI un), .int (zI us), .int (zI (be + 1)), .int (zI fi), .int (zI lo)])), (a3, .inl (cI, 16, .inl (zA c1))), (a4, .inl (cI, 16, .inl (zA b1))), (a5, .inl (cI, 16, .inl (zA f1))), (a6, .inl (cI, 16, .inl (zA (zU s1 p1 j1))))] C (T := TX1) tyX1 tyX1_ok nmX1 im_X1_bear_1 fl_X1_bear_49 rfl rfl (by decide) rfl rfl rfl rfl rfl (Nat.le_of_ble_eq_true rfl) rfl dX1_bear_34 rfl ?_
        refine zj_aload_n 38 0 C dX1_bear_37 rfl rfl rfl ?_
        refine zj_get 41 0 3 C (T := TX1) im_X1_bear_1 fl_X1_bear_21 rfl rfl (by decide) rfl rfl dX1_bear_38 rfl ?_
        refine zj_iload_n 42 1 C dX1_bear_41 rfl rfl rfl ?_
        refine zj_dup2 43 C dX1_bear_42 rfl rfl rfl ?_
        refine zj_iald 44 1 C (by omega) (by omega) rfl rfl dX1_bear_43 rfl ?_
        refine zj_iconst 45 C dX1_bear_44 rfl ?_
        refine zj_iadd 46 C dX1_bear_45 rfl ?_
        refine zj_iast 47 1 [(q1, .inr (1, [.ref a0, .ref a1, .ref a2, .ref a3, .ref a4, .ref a5, .ref a6, .ref a7, .int (zI pg), .int (zI rw), .int (zI un), .int (zI us), .int (zI (be + 1)), .int (zI fi), .int (zI lo)])), (a3, .inl (cI, 16, .inl (zA (zU c1 p1 ((c1 p1) + 1))))), (a4, .inl (cI, 16, .inl (zA b1))), (a5, .inl (cI, 16, .inl (zA f1))), (a6, .inl (cI, 16, .inl (zA (zU s1 p1 j1))))] C (by omega) (by omega) rfl rfl rfl dX1_bear_46 rfl ?_
        refine zj_aload_n 48 0 C dX1_bear_47 rfl rfl rfl ?_
        refine zj_get 51 0 4 C (T := TX1) im_X1_bear_1 fl_X1_bear_24 rfl rfl (by decide) rfl rfl dX1_bear_48 rfl ?_
        refine zj_iload_n 52 1 C dX1_bear_51 rfl rfl rfl ?_
        refine zj_dup2 53 C dX1_bear_52 rfl rfl rfl ?_
        refine zj_iald 54 2 C (by omega) (by omega) rfl rfl dX1_bear_53 rfl ?_
        refine zj_iload 56 4 C dX1_bear_54 rfl rfl ?_
        refine zj_iadd 57 C dX1_bear_56 rfl ?_
        refine zj_iast 58 2 [(q1, .inr (1, [.ref a0, .ref a1, .ref a2, .ref a3, .ref a4, .ref a5, .ref a6, .ref a7, .int (zI pg), .int (zI rw), .int (zI un), .int (zI us), .int (zI (be + 1)), .int (zI fi), .int (zI lo)])), (a3, .inl (cI, 16, .inl (zA (zU c1 p1 ((c1 p1) + 1))))), (a4, .inl (cI, 16, .inl (zA (zU b1 p1 ((b1 p1) + t1))))), (a5, .inl (cI, 16, .inl (zA f1))), (a6, .inl (cI, 16, .inl (zA (zU s1 p1 j1))))] C (by omega) (by omega) rfl rfl rfl dX1_bear_57 rfl ?_
        refine zj_aload_n 59 0 C dX1_bear_58 rfl rfl rfl ?_
        refine zj_get 62 0 5 C (T := TX1) im_X1_bear_1 fl_X1_bear_27 rfl rfl (by decide) rfl rfl dX1_bear_59 rfl ?_
        refine zj_iload_n 63 1 C dX1_bear_62 rfl rfl rfl ?_
        refine zj_dup2 64 C dX1_bear_63 rfl rfl rfl ?_
        refine zj_iald 65 3 C (by omega) (by omega) rfl rfl dX1_bear_64 rfl ?_
        refine zj_iload_n 66 3 C dX1_bear_65 rfl rfl rfl ?_
        refine zj_iadd 67 C dX1_bear_66 rfl ?_
        refine zj_iast 68 3 [(q1, .inr (1, [.ref a0, .ref a1, .ref a2, .ref a3, .ref a4, .ref a5, .ref a6, .ref a7, .int (zI pg), .int (zI rw), .int (zI un), .int (zI us), .int (zI (be + 1)), .int (zI fi), .int (zI lo)])), (a3, .inl (cI, 16, .inl (zA (zU c1 p1 ((c1 p1) + 1))))), (a4, .inl (cI, 16, .inl (zA (zU b1 p1 ((b1 p1) + t1))))), (a5, .inl (cI, 16, .inl (zA (zU f1 p1 ((f1 p1) + u1))))), (a6, .inl (cI, 16, .inl (zA (zU s1 p1 j1))))] C (by omega) (by omega) rfl rfl rfl dX1_bear_67 rfl ?_
        refine zj_aload_n 69 0 C dX1_bear_68 rfl rfl rfl ?_
        refine zj_dup 70 C dX1_bear_69 rfl rfl ?_
        refine zj_get 73 0 13 C (T := TX1) im_X1_bear_1 fl_X1_bear_52 rfl rfl (by decide) rfl rfl dX1_bear_70 rfl ?_
        refine zj_iload_n 74 3 C dX1_bear_73 rfl rfl rfl ?_
        refine zj_iadd 75 C dX1_bear_74 rfl ?_
        refine zj_put 78 0 13 [(q1, .inr (1, [.ref a0, .ref a1, .ref a2, .ref a3, .ref a4, .ref a5, .ref a6, .ref a7, .int (zI pg), .int (zI rw), .int (zI un), .int (zI us), .int (zI (be + 1)), .int (zI (fi + u1)), .int (zI lo)])), (a3, .inl (cI, 16, .inl (zA (zU c1 p1 ((c1 p1) + 1))))), (a4, .inl (cI, 16, .inl (zA (zU b1 p1 ((b1 p1) + t1))))), (a5, .inl (cI, 16, .inl (zA (zU f1 p1 ((f1 p1) + u1))))), (a6, .inl (cI, 16, .inl (zA (zU s1 p1 j1))))] C (T := TX1) tyX1 tyX1_ok nmX1 im_X1_bear_1 fl_X1_bear_52 rfl rfl (by decide) rfl rfl rfl rfl rfl (Nat.le_of_ble_eq_true rfl) rfl dX1_bear_75 rfl ?_
        refine zj_aload_n 79 0 C dX1_bear_78 rfl rfl rfl ?_
        refine zj_iload_n 80 1 C dX1_bear_79 rfl rfl rfl ?_
        refine zj_iconst 81 C dX1_bear_80 rfl ?_
        refine zj_iadd 82 C dX1_bear_81 rfl ?_
        refine zj_put 85 0 11 [(q1, .inr (1, [.ref a0, .ref a1, .ref a2, .ref a3, .ref a4, .ref a5, .ref a6, .ref a7, .int (zI pg), .int (zI rw), .int (zI un), .int (zI (p1 + 1)), .int (zI (be + 1)), .int (zI (fi + u1)), .int (zI lo)])), (a3, .inl (cI, 16, .inl (zA (zU c1 p1 ((c1 p1) + 1))))), (a4, .inl (cI, 16, .inl (zA (zU b1 p1 ((b1 p1) + t1))))), (a5, .inl (cI, 16, .inl (zA (zU f1 p1 ((f1 p1) + u1))))), (a6, .inl (cI, 16, .inl (zA (zU s1 p1 j1))))] C (T := TX1) tyX1 tyX1_ok nmX1 im_X1_bear_1 fl_X1_bear_46 rfl rfl (by decide) rfl rfl rfl rfl rfl (Nat.le_of_ble_eq_true rfl) rfl dX1_bear_82 rfl ?_
        refine zj_ws (ws' := [(q1, .inr (1, [.ref a0, .ref a1, .ref a2, .ref a3, .ref a4, .ref a5, .ref a6, .ref a7, .int (zI pg), .int (zI rw), .int (zI un), .int (zI (p1 + 1)), .int (zI (zBe c1 be p1)), .int (zI (fi + u1)), .int (zI lo)])), (a3, .inl (cI, 16, .inl (zA (zU c1 p1 (c1 p1 + 1))))), (a4, .inl (cI, 16, .inl (zA (zU b1 p1 (b1 p1 + t1))))), (a5, .inl (cI, 16, .inl (zA (zU f1 p1 (f1 p1 + u1))))), (a6, .inl (cI, 16, .inl (zA (zFs c1 s1 p1 j1))))]) (by rw [show zFs c1 s1 p1 j1 = zU s1 p1 j1 from by unfold zFs; simp [h17], show zBe c1 be p1 = be + 1 from by unfold zBe; simp [h17]]) ?_
        subst hQ
        exact zj_return C hr rfl (by decide) (by decide) dX1_bear_85
    · exact absurd h_2 (by omega)

theorem fl_X1_goOnIfTooManyBeats_36 : Cond.fieldLink RX1 36 "SplashPages$Layout" "pageOfNow" "I" ∈ wsX1_goOnIfTooManyBeats := by decide +kernel
theorem im_X1_goOnIfTooManyBeats_1 : ∀ w ∈ u_ws RX1 TX1 15, w ∈ wsX1_goOnIfTooManyBeats := by decide +kernel
theorem fl_X1_goOnIfTooManyBeats_24 : Cond.fieldLink RX1 24 "SplashPages$Layout" "pageBeats" "[I" ∈ wsX1_goOnIfTooManyBeats := by decide +kernel
theorem wn_X1_goOnIfTooManyBeats_RX4 : Cond.initialized RX4 ∈ wsX1_goOnIfTooManyBeats := by decide +kernel
theorem nm_RX1_81 : Cond.methodLinkNest RX1 81 yX4_read "SplashPages" ∈ zNW := by decide +kernel
theorem wst_X1_goOnIfTooManyBeats_X4_read : Cond.static yX4_read ∈ wsX1_goOnIfTooManyBeats := by decide +kernel
abbrev rm_X1_goOnIfTooManyBeats : Room := { frames := 1, cells := 0, slots := 0, locals := 21 }
set_option maxRecDepth 100000 in
set_option maxHeartbeats 4000000 in
theorem c_X1_goOnIfTooManyBeats (l : Launch) (D : va_G) (cI cS cJ : ClassId) (q1 : Nat) (a0 : Nat) (a1 : Nat) (a2 : Nat) (a3 : Nat) (a4 : Nat) (a5 : Nat) (a6 : Nat) (a7 : Nat) (pg : Int) (rw : Int) (un : Int) (us : Int) (be : Int) (fi : Int) (lo : Int) (c1 : Int → Int) (b1 : Int → Int) (t1 : Int) (s1 : Int) (hp : 0 ≤ pg ∧ pg ≤ 16) (ht : 1 ≤ t1 ∧ t1 ≤ 9) (hs : 0 ≤ s1 ∧ s1 ≤ 1000) (hc : ∀ x, 0 ≤ c1 x ∧ c1 x ≤ 1000) (hb : ∀ x, 0 ≤ b1 x ∧ b1 x ≤ 10000) : zMv l yX1_goOnIfTooManyBeats wsX1_goOnIfTooManyBeats rm_X1_goOnIfTooManyBeats D (zTy cI cS cJ) [.ref q1, .int (zI t1), .int (zI s1)] [(q1, .inr (1, [.ref a0, .ref a1, .ref a2, .ref a3, .ref a4, .ref a5, .ref a6, .ref a7, .int (zI pg), .int (zI rw), .int (zI un), .int (zI us), .int (zI be), .int (zI fi), .int (zI lo)])), (a3, .inl (cI, 16, .inl (zA c1))), (a4, .inl (cI, 16, .inl (zA b1)))] (fun w => ∃ (x1 : Int), ∃ (x2 : Int), ∃ (x3 : Int), ((zGc c1 b1 pg t1 s1 ∧ x1 = pg + 1 ∧ x2 = 0 ∧ x3 = 0) ∨ (¬ zGc c1 b1 pg t1 s1 ∧ x1 = pg ∧ x2 = rw ∧ x3 = un)) ∧ w = [(q1, .inr (1, [.ref a0, .ref a1, .ref a2, .ref a3, .ref a4, .ref a5, .ref a6, .ref a7, .int (zI x1), .int (zI x2), .int (zI x3), .int (zI us), .int (zI be), .int (zI fi), .int (zI lo)])), (a3, .inl (cI, 16, .inl (zA c1))), (a4, .inl (cI, 16, .inl (zA b1)))]) 0 0 := by
  intro sz
  refine zMet_of (Qc := fun A => va_Qv _ (zB D (zTy cI cS cJ) A) A) RX1 [(0, .ref q1), (1, .int (zI t1)), (2, .int (zI s1))] rfl (by decide +kernel) rfl (Nat.le_of_ble_eq_true rfl) rfl ?_ sz
  intro p e s m args below meth c A Q hQ C hr hini
  have hbv := hb pg
  have hcv := hc pg
  refine zj_aload_n 1 0 C dX1_goOnIfTooManyBeats_0 rfl rfl rfl ?_
  refine zj_aload_n 2 0 C dX1_goOnIfTooManyBeats_1 rfl rfl rfl ?_
  refine zj_get 5 0 8 C (T := TX1) im_X1_goOnIfTooManyBeats_1 fl_X1_goOnIfTooManyBeats_36 rfl rfl (by decide) rfl rfl dX1_goOnIfTooManyBeats_2 rfl ?_
  refine zj_ci 8 [0, 1] [2] C (wr := [(a4, .inl (cI, 16, .inl (zA b1)))]) (zr_V [0, 1] C (As := [.int (zI pg)]) (rest := []) (c_X1_isBearing l D cI cS cJ q1 a0 a1 a2 a3 a4 a5 a6 a7 pg rw un us be fi lo c1 pg (by omega) hc) (cwV 1 C.1.2.2.2.2 gX1_goOnIfTooManyBeats_X1_isBearing rfl rfl rfl (by decide +kernel) ⟨Nat.le_of_ble_eq_true rfl, Nat.le_of_ble_eq_true rfl⟩) rfl (by decide) 0 rfl rfl rfl rfl (Nat.le_of_ble_eq_true rfl) dX1_goOnIfTooManyBeats_5 ⟨Nat.le_of_ble_eq_true rfl, Nat.le_of_ble_eq_true rfl⟩) rfl rfl (by decide) (by decide) rfl (fun r_1 w_ hp_2 => ?_)
  obtain ⟨r1_3, f_4, rfl, rfl⟩ := hp_2
  refine zj_ws (ws' := [(a4, .inl (cI, 16, .inl (zA b1))), (q1, .inr (1, [.ref a0, .ref a1, .ref a2, .ref a3, .ref a4, .ref a5, .ref a6, .ref a7, .int (zI pg), .int (zI rw), .int (zI un), .int (zI us), .int (zI be), .int (zI fi), .int (zI lo)])), (a3, .inl (cI, 16, .inl (zA c1)))]) rfl ?_
  refine zj_if_eq 11 38 C (by omega) dX1_goOnIfTooManyBeats_8 rfl (by decide) (fun h_5 => ?_) (fun h_5 => ?_)
  · skip
    refine zj_re [1, 2, 0] [(q1, .inr (1, [.ref a0, .ref a1, .ref a2, .ref a3, .ref a4, .ref a5, .ref a6, .ref a7, .int (zI pg), .int (zI rw), .int (zI un), .int (zI us), .int (zI be), .int (zI fi), .int (zI lo)])), (a3, .inl (cI, 16, .inl (zA c1))), (a4, .inl (cI, 16, .inl (zA b1)))] (by decide) rfl ?_
    subst hQ
    exact zj_return C hr ⟨pg, rw, un, (by unfold zGc; omega), rfl⟩ (by decide) (by decide) dX1_goOnIfTooManyBeats_38
  · skip
    refine zj_aload_n 12 0 C dX1_goOnIfTooManyBeats_11 rfl rfl rfl ?_
    refine zj_get 15 1 4 C (T := TX1) im_X1_goOnIfTooManyBeats_1 fl_X1_goOnIfTooManyBeats_24 rfl rfl (by decide) rfl rfl dX1_goOnIfTooManyBeats_12 rfl ?_
    refine zj_aload_n 16 0 C dX1_goOnIfTooManyBeats_15 rfl rfl rfl ?_
    refine zj_get 19 1 8 C (T := TX1) im_X1_goOnIfTooManyBeats_1 fl_X1_goOnIfTooManyBeats_36 rfl rfl (by decide) rfl rfl dX1_goOnIfTooManyBeats_16 rfl ?_
    refine zj_ci 22 [0] [1, 2] C (wr := [(q1, .inr (1, [.ref a0, .ref a1, .ref a2, .ref a3, .ref a4, .ref a5, .ref a6, .ref a7, .int (zI pg), .int (zI rw), .int (zI un), .int (zI us), .int (zI be), .int (zI fi), .int (zI lo)])), (a3, .inl (cI, 16, .inl (zA c1)))]) (zr_SN [0] C (As := [.ref a4, .int (zI pg)]) (rest := []) (c_X4_read l D cI cS cJ a4 16 b1 pg (by omega) (by omega)) (⟨va_cnB 2 C.1.2.2.2.2 gX1_goOnIfTooManyBeats_X4_read_n81 rfl rfl rfl (C.2.2.2.2.1 _ nm_RX1_81) (C.1.2.2.2.2 _ wn_X1_goOnIfTooManyBeats_RX4) (by decide +kernel) ⟨Nat.le_of_ble_eq_true rfl, Nat.le_of_ble_eq_true rfl⟩, C.1.2.2.2.2 _ wst_X1_goOnIfTooManyBeats_X4_read, trivial⟩) rfl (by decide) rfl rfl (Nat.le_of_ble_eq_true rfl) dX1_goOnIfTooManyBeats_19 ⟨Nat.le_of_ble_eq_true rfl, Nat.le_of_ble_eq_true rfl⟩) rfl rfl (by decide) (by decide) rfl (fun r_6 w_ hp_7 => ?_)
    obtain ⟨rfl, rfl⟩ := hp_7
    refine zj_ws (ws' := [(q1, .inr (1, [.ref a0, .ref a1, .ref a2, .ref a3, .ref a4, .ref a5, .ref a6, .ref a7, .int (zI pg), .int (zI rw), .int (zI un), .int (zI us), .int (zI be), .int (zI fi), .int (zI lo)])), (a3, .inl (cI, 16, .inl (zA c1))), (a4, .inl (cI, 16, .inl (zA b1)))]) rfl ?_
    refine zj_iload_n 23 1 C dX1_goOnIfTooManyBeats_22 rfl rfl rfl ?_
    refine zj_iadd 24 C dX1_goOnIfTooManyBeats_23 rfl ?_
    refine zj_iload_n 25 2 C dX1_goOnIfTooManyBeats_24 rfl rfl rfl ?_
    refine zj_icmp_le 28 38 C (by omega) (by omega) dX1_goOnIfTooManyBeats_25 rfl (by decide) (fun h_8 => ?_) (fun h_8 => ?_)
    · skip
      subst hQ
      exact zj_return C hr ⟨pg, rw, un, (by unfold zGc; omega), rfl⟩ (by decide) (by decide) dX1_goOnIfTooManyBeats_38
    · skip
      refine zj_aload_n 29 0 C dX1_goOnIfTooManyBeats_28 rfl rfl rfl ?_
      refine zj_aload_n 30 0 C dX1_goOnIfTooManyBeats_29 rfl rfl rfl ?_
      refine zj_get 33 0 8 C (T := TX1) im_X1_goOnIfTooManyBeats_1 fl_X1_goOnIfTooManyBeats_36 rfl rfl (by decide) rfl rfl dX1_goOnIfTooManyBeats_30 rfl ?_
      refine zj_iconst 34 C dX1_goOnIfTooManyBeats_33 rfl ?_
      refine zj_iadd 35 C dX1_goOnIfTooManyBeats_34 rfl ?_
      refine zj_cv 38 [0] [1, 2] C (wr := [(a3, .inl (cI, 16, .inl (zA c1))), (a4, .inl (cI, 16, .inl (zA b1)))]) (zr_V [0] C (As := [.int (zI (pg + 1))]) (rest := []) (c_X1_beginPage l D cI cS cJ q1 a0 a1 a2 a3 a4 a5 a6 a7 pg rw un us be fi lo (pg + 1)) (cwV 1 C.1.2.2.2.2 gX1_goOnIfTooManyBeats_X1_beginPage rfl rfl rfl (by decide +kernel) ⟨Nat.le_of_ble_eq_true rfl, Nat.le_of_ble_eq_true rfl⟩) rfl (by decide) 0 rfl rfl rfl rfl (Nat.le_of_ble_eq_true rfl) dX1_goOnIfTooManyBeats_35 ⟨Nat.le_of_ble_eq_true rfl, Nat.le_of_ble_eq_true rfl⟩) rfl rfl (by decide) (by decide) rfl (fun w_ hp_10 => ?_)
      obtain rfl := hp_10
      refine zj_ws (ws' := [(a3, .inl (cI, 16, .inl (zA c1))), (a4, .inl (cI, 16, .inl (zA b1))), (q1, .inr (1, [.ref a0, .ref a1, .ref a2, .ref a3, .ref a4, .ref a5, .ref a6, .ref a7, .int (zI (pg + 1)), .int (zI 0), .int (zI 0), .int (zI us), .int (zI be), .int (zI fi), .int (zI lo)]))]) rfl ?_
      refine zj_re [2, 0, 1] [(q1, .inr (1, [.ref a0, .ref a1, .ref a2, .ref a3, .ref a4, .ref a5, .ref a6, .ref a7, .int (zI (pg + 1)), .int (zI 0), .int (zI 0), .int (zI us), .int (zI be), .int (zI fi), .int (zI lo)])), (a3, .inl (cI, 16, .inl (zA c1))), (a4, .inl (cI, 16, .inl (zA b1)))] (by decide) rfl ?_
      subst hQ
      exact zj_return C hr ⟨(pg + 1), 0, 0, (by unfold zGc; omega), rfl⟩ (by decide) (by decide) dX1_goOnIfTooManyBeats_38

/-! ===== pouring, in pure words ===== -/
def zF0 (c : Int → Int) (pg : Int) : Int := if pg < 16 ∧ 0 < c pg then pg + 1 else pg
/-- the first page for a panel of tk whole pages -/
def zFst (c : Int → Int) (pg tk : Int) : Int := if tk = 2 ∧ zF0 c pg % 2 = 1 then zF0 c pg + 1 else zF0 c pg
/-- pages' panels, beats, units, first panels; pages used, pages that bear, units -/
abbrev ZB : Type := (Int → Int) × (Int → Int) × (Int → Int) × (Int → Int) × Int × Int × Int
/-- one more panel on page p -/
def zBear (p j u t : Int) (B : ZB) : ZB := (zU B.1 p (B.1 p + 1), zU B.2.1 p (B.2.1 p + t), zU B.2.2.1 p (B.2.2.1 p + u), zFs B.1 B.2.2.2.1 p j, p + 1, zBe B.1 B.2.2.2.2.2.1 p, B.2.2.2.2.2.2 + u)
def zWhole (F tk j t : Int) (B : ZB) : ZB := if tk = 2 then zBear (F + 1) j 24 0 (zBear F j 24 t B) else zBear F j 24 t B
def zX2 (w : Int) (x : Int × Int × Int) : Int × Int × Int := if 6 - x.2.2 < w then (zRp x.1 x.2.1, zRr x.2.1, 0) else x
def zX3 (bd : Int) (x : Int × Int × Int) : Int × Int × Int := if bd = 1 ∧ x.1 % 2 = 0 ∧ x.2.2 ≠ 0 then (zRp x.1 x.2.1, zRr x.2.1, 0) else x
def zXu (bd w : Int) (x : Int × Int × Int) : Int := if bd = 1 ∧ x.1 % 2 = 1 then 6 - w else x.2.2
/-- where a plain or bleeding panel comes to stand -/
def zXr (sg bd w t pg rw un : Int) (c b : Int → Int) : Int × Int × Int := zX3 bd (zX2 w (if zGc c b pg t sg then (pg + 1, 0, 0) else (pg, rw, un)))
/-- page, row, unit of a panel; page -1 if there is no place -/
def zPlc (sg k w t pg rw un : Int) (c b : Int → Int) : Int × Int × Int :=
  if k < 2 then (if (zXr sg k w t pg rw un c b).1 < 16 then ((zXr sg k w t pg rw un c b).1, (zXr sg k w t pg rw un c b).2.1, zXu k w (zXr sg k w t pg rw un c b)) else (-1, -1, -1))
  else (if zFst c pg (k - 1) + (k - 1) ≤ 16 then (zFst c pg (k - 1), -1, -1) else (-1, -1, -1))
/-- page, row, unit of now; pages' bleeding panels; the rest -/
abbrev ZL : Type := Int × Int × Int × (Int → Int) × ZB
def zL0 : ZL := (0, 0, 0, fun _ => 0, fun _ => 0, fun _ => 0, fun _ => 0, fun _ => 0, 0, 0, 0)
def zPlL (sg k w t : Int) (L : ZL) : Int × Int × Int := zPlc sg k w t L.1 L.2.1 L.2.2.1 L.2.2.2.2.1 L.2.2.2.2.2.1
def zNext (sg k w t j : Int) (L : ZL) : ZL :=
  if k < 2 then ((zPlL sg k w t L).1, (zPlL sg k w t L).2.1, (zPlL sg k w t L).2.2 + w, (if k = 1 then zU L.2.2.2.1 (zPlL sg k w t L).1 (L.2.2.2.1 (zPlL sg k w t L).1 + 1) else L.2.2.2.1), zBear (zPlL sg k w t L).1 j w t L.2.2.2.2)
  else ((zPlL sg k w t L).1 + (k - 1), 0, 0, L.2.2.2.1, zWhole (zPlL sg k w t L).1 (k - 1) j t L.2.2.2.2)
/-- behind n panels: whether all of them were set, and the pages -/
def zSeq (sg : Int) (K W T : Int → Int) : Nat → Bool × ZL
  | 0 => (true, zL0)
  | j + 1 => if (zSeq sg K W T j).1 = true ∧ (zPlL sg (K j) (W j) (T j) (zSeq sg K W T j).2).1 ≠ -1 then (true, zNext sg (K j) (W j) (T j) j (zSeq sg K W T j).2) else (false, (zSeq sg K W T j).2)
/-- the place of panel j; (-1, -1, -1) if it is left out -/
def zPos (sg : Int) (K W T : Int → Int) (j : Nat) : Int × Int × Int := if (zSeq sg K W T (j + 1)).1 = true then zPlL sg (K j) (W j) (T j) (zSeq sg K W T j).2 else (-1, -1, -1)

theorem fl_X1_placeOnWholePages_36 : Cond.fieldLink RX1 36 "SplashPages$Layout" "pageOfNow" "I" ∈ wsX1_placeOnWholePages := by decide +kernel
theorem im_X1_placeOnWholePages_1 : ∀ w ∈ u_ws RX1 TX1 15, w ∈ wsX1_placeOnWholePages := by decide +kernel
abbrev rm_X1_placeOnWholePages : Room := { frames := 1, cells := 0, slots := 0, locals := 24 }
set_option maxRecDepth 100000 in
set_option maxHeartbeats 4000000 in
theorem c_X1_placeOnWholePages (l : Launch) (D : va_G) (cI cS cJ : ClassId) (q1 : Nat) (a0 : Nat) (a1 : Nat) (a2 : Nat) (a3 : Nat) (a4 : Nat) (a5 : Nat) (a6 : Nat) (a7 : Nat) (pg : Int) (rw : Int) (un : Int) (us : Int) (be : Int) (fi : Int) (lo : Int) (P1 : Int → Int) (R1 : Int → Int) (U1 : Int → Int) (c1 : Int → Int) (b1 : Int → Int) (f1 : Int → Int) (s1 : Int → Int) (j1 : Int) (t1 : Int) (k1 : Int) (hp : 0 ≤ pg ∧ pg ≤ 16) (hj : 0 ≤ j1 ∧ j1 < 24) (hk : k1 = 1 ∨ k1 = 2) (hc : ∀ x, 0 ≤ c1 x ∧ c1 x ≤ 1000) : zMi l yX1_placeOnWholePages wsX1_placeOnWholePages rm_X1_placeOnWholePages D (zTy cI cS cJ) [.ref q1, .int (zI j1), .int (zI t1), .int (zI k1)] [(q1, .inr (1, [.ref a0, .ref a1, .ref a2, .ref a3, .ref a4, .ref a5, .ref a6, .ref a7, .int (zI pg), .int (zI rw), .int (zI un), .int (zI us), .int (zI be), .int (zI fi), .int (zI lo)])), (a0, .inl (cI, 24, .inl (zA P1))), (a1, .inl (cI, 24, .inl (zA R1))), (a2, .inl (cI, 24, .inl (zA U1))), (a3, .inl (cI, 16, .inl (zA c1))), (a4, .inl (cI, 16, .inl (zA b1))), (a5, .inl (cI, 16, .inl (zA f1))), (a6, .inl (cI, 16, .inl (zA s1)))] (fun r w => ∃ (r1 : Int), ∃ (pg2 : Int), ∃ (rw2 : Int), ∃ (un2 : Int), ∃ (us2 : Int), ∃ (be2 : Int), ∃ (fi2 : Int), ∃ (P2 : Int → Int), ∃ (R2 : Int → Int), ∃ (U2 : Int → Int), ∃ (c2 : Int → Int), ∃ (b2 : Int → Int), ∃ (f2 : Int → Int), ∃ (s2 : Int → Int), ((r1 = 0 ∧ ¬ (zFst c1 pg k1 + k1 ≤ 16) ∧ P2 = P1 ∧ R2 = R1 ∧ U2 = U1 ∧ pg2 = pg ∧ rw2 = rw ∧ un2 = un ∧ (c2, b2, f2, s2, us2, be2, fi2) = (c1, b1, f1, s1, us, be, fi)) ∨ (r1 = 1 ∧ zFst c1 pg k1 + k1 ≤ 16 ∧ P2 = zU P1 j1 (zFst c1 pg k1) ∧ R2 = zU R1 j1 (-1) ∧ U2 = zU U1 j1 (-1) ∧ pg2 = zFst c1 pg k1 + k1 ∧ rw2 = 0 ∧ un2 = 0 ∧ (c2, b2, f2, s2, us2, be2, fi2) = zWhole (zFst c1 pg k1) k1 j1 t1 (c1, b1, f1, s1, us, be, fi))) ∧ r = zI r1 ∧ w = [(q1, .inr (1, [.ref a0, .ref a1, .ref a2, .ref a3, .ref a4, .ref a5, .ref a6, .ref a7, .int (zI pg2), .int (zI rw2), .int (zI un2), .int (zI us2), .int (zI be2), .int (zI fi2), .int (zI lo)])), (a0, .inl (cI, 24, .inl (zA P2))), (a1, .inl (cI, 24, .inl (zA R2))), (a2, .inl (cI, 24, .inl (zA U2))), (a3, .inl (cI, 16, .inl (zA c2))), (a4, .inl (cI, 16, .inl (zA b2))), (a5, .inl (cI, 16, .inl (zA f2))), (a6, .inl (cI, 16, .inl (zA s2)))]) 0 0 := by
  intro sz
  refine zMet_of (Qc := fun A => va_Qi _ (zB D (zTy cI cS cJ) A) A) RX1 [(0, .ref q1), (1, .int (zI j1)), (2, .int (zI t1)), (3, .int (zI k1))] rfl (by decide +kernel) rfl (Nat.le_of_ble_eq_true rfl) rfl ?_ sz
  intro p e s m args below meth c A Q hQ C hr hini
  have hL42 : ∀ (F : Int), (F = zFst c1 pg k1) → (0 ≤ F ∧ F ≤ 18) → zJ p l e rm_X1_placeOnWholePages s m args below meth c Q D A 5 [(q1, .inr (1, [.ref a0, .ref a1, .ref a2, .ref a3, .ref a4, .ref a5, .ref a6, .ref a7, .int (zI pg), .int (zI rw), .int (zI un), .int (zI us), .int (zI be), .int (zI fi), .int (zI lo)])), (a0, .inl (cI, 24, .inl (zA P1))), (a1, .inl (cI, 24, .inl (zA R1))), (a2, .inl (cI, 24, .inl (zA U1))), (a3, .inl (cI, 16, .inl (zA c1))), (a4, .inl (cI, 16, .inl (zA b1))), (a5, .inl (cI, 16, .inl (zA f1))), (a6, .inl (cI, 16, .inl (zA s1)))] 0 0 [(0, .ref q1), (1, .int (zI j1)), (2, .int (zI t1)), (3, .int (zI k1)), (4, .int (zI F))] 42 [] := by
    intro F hF hF2
    refine zj_iload 44 4 C dX1_placeOnWholePages_42 rfl rfl ?_
    refine zj_iload_n 45 3 C dX1_placeOnWholePages_44 rfl rfl rfl ?_
    refine zj_iadd 46 C dX1_placeOnWholePages_45 rfl ?_
    refine zj_bipush 48 C dX1_placeOnWholePages_46 rfl rfl ?_
    refine zj_icmp_le 51 53 C (by omega) (by omega) dX1_placeOnWholePages_48 rfl (by decide) (fun h48 => ?_) (fun h48 => ?_)
    · skip
      refine zj_aload_n 54 0 C dX1_placeOnWholePages_53 rfl rfl rfl ?_
      refine zj_iload_n 55 1 C dX1_placeOnWholePages_54 rfl rfl rfl ?_
      refine zj_iload 57 4 C dX1_placeOnWholePages_55 rfl rfl ?_
      refine zj_iconst 58 C dX1_placeOnWholePages_57 rfl ?_
      refine zj_iconst 59 C dX1_placeOnWholePages_58 rfl ?_
      refine zj_cv 62 [0, 1, 2, 3] [4, 5, 6, 7] C (wr := [(a3, .inl (cI, 16, .inl (zA c1))), (a4, .inl (cI, 16, .inl (zA b1))), (a5, .inl (cI, 16, .inl (zA f1))), (a6, .inl (cI, 16, .inl (zA s1)))]) (zr_V [0, 1, 2, 3] C (As := [.int (zI j1), .int (zI F), .int (zI (-1)), .int (zI (-1))]) (rest := []) (c_X1_note l D cI cS cJ q1 a0 a1 a2 a3 a4 a5 a6 a7 pg rw un us be fi lo P1 R1 U1 j1 F (-1) (-1) (by omega)) (cwV 4 C.1.2.2.2.2 gX1_placeOnWholePages_X1_note rfl rfl rfl (by decide +kernel) ⟨Nat.le_of_ble_eq_true rfl, Nat.le_of_ble_eq_true rfl⟩) rfl (by decide) 0 rfl rfl rfl rfl (Nat.le_of_ble_eq_true rfl) dX1_placeOnWholePages_59 ⟨Nat.le_of_ble_eq_true rfl, Nat.le_of_ble_eq_true rfl⟩) rfl rfl (by decide) (by decide) rfl (fun w_ hp_2 => ?_)
      obtain rfl := hp_2
      refine zj_ws (ws' := [(a3, .inl (cI, 16, .inl (zA c1))), (a4, .inl (cI, 16, .inl (zA b1))), (a5, .inl (cI, 16, .inl (zA f1))), (a6, .inl (cI, 16, .inl (zA s1))), (q1, .inr (1, [.ref a0, .ref a1, .ref a2, .ref a3, .ref a4, .ref a5, .ref a6, .ref a7, .int (zI pg), .int (zI rw), .int (zI un), .int (zI us), .int (zI be), .int (zI fi), .int (zI lo)])), (a0, .inl (cI, 24, .inl (zA (zU P1 j1 F)))), (a1, .inl (cI, 24, .inl (zA (zU R1 j1 (-1))))), (a2, .inl (cI, 24, .inl (zA (zU U1 j1 (-1)))))]) rfl ?_
      refine zj_aload_n 63 0 C dX1_placeOnWholePages_62 rfl rfl rfl ?_
      refine zj_iload 65 4 C dX1_placeOnWholePages_63 rfl rfl ?_
      refine zj_iload_n 66 1 C dX1_placeOnWholePages_65 rfl rfl rfl ?_
      refine zj_bipush 68 C dX1_placeOnWholePages_66 rfl rfl ?_
      refine zj_iload_n 69 2 C dX1_placeOnWholePages_68 rfl rfl rfl ?_
      refine zj_cv 72 [4, 0, 1, 2, 3] [5, 6, 7] C (wr := [(a0, .inl (cI, 24, .inl (zA (zU P1 j1 F)))), (a1, .inl (cI, 24, .inl (zA (zU R1 j1 (-1))))), (a2, .inl (cI, 24, .inl (zA (zU U1 j1 (-1)))))]) (zr_V [4, 0, 1, 2, 3] C (As := [.int (zI F), .int (zI j1), .int (zI 24), .int (zI t1)]) (rest := []) (c_X1_bear l D cI cS cJ q1 a0 a1 a2 a3 a4 a5 a6 a7 pg rw un us be fi lo c1 b1 f1 s1 F j1 24 t1 (by omega) (fun x => ⟨(hc x).1, by have := (hc x).2; omega⟩)) (cwV 4 C.1.2.2.2.2 gX1_placeOnWholePages_X1_bear rfl rfl rfl (by decide +kernel) ⟨Nat.le_of_ble_eq_true rfl, Nat.le_of_ble_eq_true rfl⟩) rfl (by decide) 0 rfl rfl rfl rfl (Nat.le_of_ble_eq_true rfl) dX1_placeOnWholePages_69 ⟨Nat.le_of_ble_eq_true rfl, Nat.le_of_ble_eq_true rfl⟩) rfl rfl (by decide) (by decide) rfl (fun w_ hp_4 => ?_)
      obtain rfl := hp_4
      refine zj_ws (ws' := [(a0, .inl (cI, 24, .inl (zA (zU P1 j1 F)))), (a1, .inl (cI, 24, .inl (zA (zU R1 j1 (-1))))), (a2, .inl (cI, 24, .inl (zA (zU U1 j1 (-1))))), (q1, .inr (1, [.ref a0, .ref a1, .ref a2, .ref a3, .ref a4, .ref a5, .ref a6, .ref a7, .int (zI pg), .int (zI rw), .int (zI un), .int (zI (F + 1)), .int (zI (zBe c1 be F)), .int (zI (fi + 24)), .int (zI lo)])), (a3, .inl (cI, 16, .inl (zA (zU c1 F (c1 F + 1))))), (a4, .inl (cI, 16, .inl (zA (zU b1 F (b1 F + t1))))), (a5, .inl (cI, 16, .inl (zA (zU f1 F (f1 F + 24))))), (a6, .inl (cI, 16, .inl (zA (zFs c1 s1 F j1))))]) rfl ?_
      refine zj_iload_n 73 3 C dX1_placeOnWholePages_72 rfl rfl rfl ?_
      refine zj_iconst 74 C dX1_placeOnWholePages_73 rfl ?_
      refine zj_icmp_ne 77 89 C (by omega) (by omega) dX1_placeOnWholePages_74 rfl (by decide) (fun h74 => ?_) (fun h74 => ?_)
      · skip
        refine zj_aload_n 90 0 C dX1_placeOnWholePages_89 rfl rfl rfl ?_
        refine zj_iload 92 4 C dX1_placeOnWholePages_90 rfl rfl ?_
        refine zj_iload_n 93 3 C dX1_placeOnWholePages_92 rfl rfl rfl ?_
        refine zj_iadd 94 C dX1_placeOnWholePages_93 rfl ?_
        refine zj_cv 97 [3] [0, 1, 2, 4, 5, 6, 7] C (wr := [(a0, .inl (cI, 24, .inl (zA (zU P1 j1 F)))), (a1, .inl (cI, 24, .inl (zA (zU R1 j1 (-1))))), (a2, .inl (cI, 24, .inl (zA (zU U1 j1 (-1))))), (a3, .inl (cI, 16, .inl (zA (zU c1 F (c1 F + 1))))), (a4, .inl (cI, 16, .inl (zA (zU b1 F (b1 F + t1))))), (a5, .inl (cI, 16, .inl (zA (zU f1 F (f1 F + 24))))), (a6, .inl (cI, 16, .inl (zA (zFs c1 s1 F j1))))]) (zr_V [3] C (As := [.int (zI (F + k1))]) (rest := []) (c_X1_beginPage l D cI cS cJ q1 a0 a1 a2 a3 a4 a5 a6 a7 pg rw un (F + 1) (zBe c1 be F) (fi + 24) lo (F + k1)) (cwV 1 C.1.2.2.2.2 gX1_placeOnWholePages_X1_beginPage rfl rfl rfl (by decide +kernel) ⟨Nat.le_of_ble_eq_true rfl, Nat.le_of_ble_eq_true rfl⟩) rfl (by decide) 0 rfl rfl rfl rfl (Nat.le_of_ble_eq_true rfl) dX1_placeOnWholePages_94 ⟨Nat.le_of_ble_eq_true rfl, Nat.le_of_ble_eq_true rfl⟩) rfl rfl (by decide) (by decide) rfl (fun w_ hp_6 => ?_)
        obtain rfl := hp_6
        refine zj_ws (ws' := [(a0, .inl (cI, 24, .inl (zA (zU P1 j1 F)))), (a1, .inl (cI, 24, .inl (zA (zU R1 j1 (-1))))), (a2, .inl (cI, 24, .inl (zA (zU U1 j1 (-1))))), (a3, .inl (cI, 16, .inl (zA (zU c1 F (c1 F + 1))))), (a4, .inl (cI, 16, .inl (zA (zU b1 F (b1 F + t1))))), (a5, .inl (cI, 16, .inl (zA (zU f1 F (f1 F + 24))))), (a6, .inl (cI, 16, .inl (zA (zFs c1 s1 F j1)))), (q1, .inr (1, [.ref a0, .ref a1, .ref a2, .ref a3, .ref a4, .ref a5, .ref a6, .ref a7, .int (zI (F + k1)), .int (zI 0), .int (zI 0), .int (zI (F + 1)), .int (zI (zBe c1 be F)), .int (zI (fi + 24)), .int (zI lo)]))]) rfl ?_
        refine zj_iconst 98 C dX1_placeOnWholePages_97 rfl ?_
        refine zj_re [7, 0, 1, 2, 3, 4, 5, 6] [(q1, .inr (1, [.ref a0, .ref a1, .ref a2, .ref a3, .ref a4, .ref a5, .ref a6, .ref a7, .int (zI (F + k1)), .int (zI 0), .int (zI 0), .int (zI (F + 1)), .int (zI (zBe c1 be F)), .int (zI (fi + 24)), .int (zI lo)])), (a0, .inl (cI, 24, .inl (zA (zU P1 j1 F)))), (a1, .inl (cI, 24, .inl (zA (zU R1 j1 (-1))))), (a2, .inl (cI, 24, .inl (zA (zU U1 j1 (-1))))), (a3, .inl (cI, 16, .inl (zA (zU c1 F (c1 F + 1))))), (a4, .inl (cI, 16, .inl (zA (zU b1 F (b1 F + t1))))), (a5, .inl (cI, 16, .inl (zA (zU f1 F (f1 F + 24))))), (a6, .inl (cI, 16, .inl (zA (zFs c1 s1 F j1))))] (by decide) rfl ?_
        subst hQ
        exact zj_zret C (zI_bool (by omega)) hr ⟨1, (F + k1), 0, 0, (F + 1), (zBe c1 be F), (fi + 24), (zU P1 j1 F), (zU R1 j1 (-1)), (zU U1 j1 (-1)), (zU c1 F (c1 F + 1)), (zU b1 F (b1 F + t1)), (zU f1 F (f1 F + 24)), (zFs c1 s1 F j1), (by rw [← hF]; exact Or.inr ⟨rfl, by omega, rfl, rfl, rfl, rfl, rfl, rfl, by unfold zWhole; rw [if_neg (by omega)]; rfl⟩), rfl, rfl⟩ (by decide) (by decide) dX1_placeOnWholePages_98
      · skip
        refine zj_aload_n 78 0 C dX1_placeOnWholePages_77 rfl rfl rfl ?_
        refine zj_iload 80 4 C dX1_placeOnWholePages_78 rfl rfl ?_
        refine zj_iconst 81 C dX1_placeOnWholePages_80 rfl ?_
        refine zj_iadd 82 C dX1_placeOnWholePages_81 rfl ?_
        refine zj_iload_n 83 1 C dX1_placeOnWholePages_82 rfl rfl rfl ?_
        refine zj_bipush 85 C dX1_placeOnWholePages_83 rfl rfl ?_
        refine zj_iconst 86 C dX1_placeOnWholePages_85 rfl ?_
        refine zj_cv 89 [3, 4, 5, 6, 7] [0, 1, 2] C (wr := [(a0, .inl (cI, 24, .inl (zA (zU P1 j1 F)))), (a1, .inl (cI, 24, .inl (zA (zU R1 j1 (-1))))), (a2, .inl (cI, 24, .inl (zA (zU U1 j1 (-1)))))]) (zr_V [3, 4, 5, 6, 7] C (As := [.int (zI (F + 1)), .int (zI j1), .int (zI 24), .int (zI 0)]) (rest := []) (c_X1_bear l D cI cS cJ q1 a0 a1 a2 a3 a4 a5 a6 a7 pg rw un (F + 1) (zBe c1 be F) (fi + 24) lo (zU c1 F (c1 F + 1)) (zU b1 F (b1 F + t1)) (zU f1 F (f1 F + 24)) (zFs c1 s1 F j1) (F + 1) j1 24 0 (by omega) (by intro x; have h := hc x; have h2 := hc F; simp only [zU]; split <;> omega)) (cwV 4 C.1.2.2.2.2 gX1_placeOnWholePages_X1_bear rfl rfl rfl (by decide +kernel) ⟨Nat.le_of_ble_eq_true rfl, Nat.le_of_ble_eq_true rfl⟩) rfl (by decide) 0 rfl rfl rfl rfl (Nat.le_of_ble_eq_true rfl) dX1_placeOnWholePages_86 ⟨Nat.le_of_ble_eq_true rfl, Nat.le_of_ble_eq_true rfl⟩) rfl rfl (by decide) (by decide) rfl (fun w_ hp_8 => ?_)
        obtain rfl := hp_8
        refine zj_ws (ws' := [(a0, .inl (cI, 24, .inl (zA (zU P1 j1 F)))), (a1, .inl (cI, 24, .inl (zA (zU R1 j1 (-1))))), (a2, .inl (cI, 24, .inl (zA (zU U1 j1 (-1))))), (q1, .inr (1, [.ref a0, .ref a1, .ref a2, .ref a3, .ref a4, .ref a5, .ref a6, .ref a7, .int (zI pg), .int (zI rw), .int (zI un), .int (zI ((F + 1) + 1)), .int (zI (zBe (zU c1 F (c1 F + 1)) (zBe c1 be F) (F + 1))), .int (zI ((fi + 24) + 24)), .int (zI lo)])), (a3, .inl (cI, 16, .inl (zA (zU (zU c1 F (c1 F + 1)) (F + 1) ((zU c1 F (c1 F + 1)) (F + 1) + 1))))), (a4, .inl (cI, 16, .inl (zA (zU (zU b1 F (b1 F + t1)) (F + 1) ((zU b1 F (b1 F + t1)) (F + 1) + 0))))), (a5, .inl (cI, 16, .inl (zA (zU (zU f1 F (f1 F + 24)) (F + 1) ((zU f1 F (f1 F + 24)) (F + 1) + 24))))), (a6, .inl (cI, 16, .inl (zA (zFs (zU c1 F (c1 F + 1)) (zFs c1 s1 F j1) (F + 1) j1))))]) rfl ?_
        refine zj_aload_n 90 0 C dX1_placeOnWholePages_89 rfl rfl rfl ?_
        refine zj_iload 92 4 C dX1_placeOnWholePages_90 rfl rfl ?_
        refine zj_iload_n 93 3 C dX1_placeOnWholePages_92 rfl rfl rfl ?_
        refine zj_iadd 94 C dX1_placeOnWholePages_93 rfl ?_
        refine zj_cv 97 [3] [0, 1, 2, 4, 5, 6, 7] C (wr := [(a0, .inl (cI, 24, .inl (zA (zU P1 j1 F)))), (a1, .inl (cI, 24, .inl (zA (zU R1 j1 (-1))))), (a2, .inl (cI, 24, .inl (zA (zU U1 j1 (-1))))), (a3, .inl (cI, 16, .inl (zA (zU (zU c1 F (c1 F + 1)) (F + 1) ((zU c1 F (c1 F + 1)) (F + 1) + 1))))), (a4, .inl (cI, 16, .inl (zA (zU (zU b1 F (b1 F + t1)) (F + 1) ((zU b1 F (b1 F + t1)) (F + 1) + 0))))), (a5, .inl (cI, 16, .inl (zA (zU (zU f1 F (f1 F + 24)) (F + 1) ((zU f1 F (f1 F + 24)) (F + 1) + 24))))), (a6, .inl (cI, 16, .inl (zA (zFs (zU c1 F (c1 F + 1)) (zFs c1 s1 F j1) (F + 1) j1))))]) (zr_V [3] C (As := [.int (zI (F + k1))]) (rest := []) (c_X1_beginPage l D cI cS cJ q1 a0 a1 a2 a3 a4 a5 a6 a7 pg rw un ((F + 1) + 1) (zBe (zU c1 F (c1 F + 1)) (zBe c1 be F) (F + 1)) ((fi + 24) + 24) lo (F + k1)) (cwV 1 C.1.2.2.2.2 gX1_placeOnWholePages_X1_beginPage rfl rfl rfl (by decide +kernel) ⟨Nat.le_of_ble_eq_true rfl, Nat.le_of_ble_eq_true rfl⟩) rfl (by decide) 0 rfl rfl rfl rfl (Nat.le_of_ble_eq_true rfl) dX1_placeOnWholePages_94 ⟨Nat.le_of_ble_eq_true rfl, Nat.le_of_ble_eq_true rfl⟩) rfl rfl (by decide) (by decide) rfl (fun w_ hp_10 => ?_)
        obtain rfl := hp_10
        refine zj_ws (ws' := [(a0, .inl (cI, 24, .inl (zA (zU P1 j1 F)))), (a1, .inl (cI, 24, .inl (zA (zU R1 j1 (-1))))), (a2, .inl (cI, 24, .inl (zA (zU U1 j1 (-1))))), (a3, .inl (cI, 16, .inl (zA (zU (zU c1 F (c1 F + 1)) (F + 1) ((zU c1 F (c1 F + 1)) (F + 1) + 1))))), (a4, .inl (cI, 16, .inl (zA (zU (zU b1 F (b1 F + t1)) (F + 1) ((zU b1 F (b1 F + t1)) (F + 1) + 0))))), (a5, .inl (cI, 16, .inl (zA (zU (zU f1 F (f1 F + 24)) (F + 1) ((zU f1 F (f1 F + 24)) (F + 1) + 24))))), (a6, .inl (cI, 16, .inl (zA (zFs (zU c1 F (c1 F + 1)) (zFs c1 s1 F j1) (F + 1) j1)))), (q1, .inr (1, [.ref a0, .ref a1, .ref a2, .ref a3, .ref a4, .ref a5, .ref a6, .ref a7, .int (zI (F + k1)), .int (zI 0), .int (zI 0), .int (zI ((F + 1) + 1)), .int (zI (zBe (zU c1 F (c1 F + 1)) (zBe c1 be F) (F + 1))), .int (zI ((fi + 24) + 24)), .int (zI lo)]))]) rfl ?_
        refine zj_iconst 98 C dX1_placeOnWholePages_97 rfl ?_
        refine zj_re [7, 0, 1, 2, 3, 4, 5, 6] [(q1, .inr (1, [.ref a0, .ref a1, .ref a2, .ref a3, .ref a4, .ref a5, .ref a6, .ref a7, .int (zI (F + k1)), .int (zI 0), .int (zI 0), .int (zI ((F + 1) + 1)), .int (zI (zBe (zU c1 F (c1 F + 1)) (zBe c1 be F) (F + 1))), .int (zI ((fi + 24) + 24)), .int (zI lo)])), (a0, .inl (cI, 24, .inl (zA (zU P1 j1 F)))), (a1, .inl (cI, 24, .inl (zA (zU R1 j1 (-1))))), (a2, .inl (cI, 24, .inl (zA (zU U1 j1 (-1))))), (a3, .inl (cI, 16, .inl (zA (zU (zU c1 F (c1 F + 1)) (F + 1) ((zU c1 F (c1 F + 1)) (F + 1) + 1))))), (a4, .inl (cI, 16, .inl (zA (zU (zU b1 F (b1 F + t1)) (F + 1) ((zU b1 F (b1 F + t1)) (F + 1) + 0))))), (a5, .inl (cI, 16, .inl (zA (zU (zU f1 F (f1 F + 24)) (F + 1) ((zU f1 F (f1 F + 24)) (F + 1) + 24))))), (a6, .inl (cI, 16, .inl (zA (zFs (zU c1 F (c1 F + 1)) (zFs c1 s1 F j1) (F + 1) j1))))] (by decide) rfl ?_
        subst hQ
        exact zj_zret C (zI_bool (by omega)) hr ⟨1, (F + k1), 0, 0, ((F + 1) + 1), (zBe (zU c1 F (c1 F + 1)) (zBe c1 be F) (F + 1)), ((fi + 24) + 24), (zU P1 j1 F), (zU R1 j1 (-1)), (zU U1 j1 (-1)), (zU (zU c1 F (c1 F + 1)) (F + 1) ((zU c1 F (c1 F + 1)) (F + 1) + 1)), (zU (zU b1 F (b1 F + t1)) (F + 1) ((zU b1 F (b1 F + t1)) (F + 1) + 0)), (zU (zU f1 F (f1 F + 24)) (F + 1) ((zU f1 F (f1 F + 24)) (F + 1) + 24)), (zFs (zU c1 F (c1 F + 1)) (zFs c1 s1 F j1) (F + 1) j1), (by rw [← hF]; exact Or.inr ⟨rfl, by omega, rfl, rfl, rfl, rfl, rfl, rfl, by unfold zWhole; rw [if_pos (by omega)]; rfl⟩), rfl, rfl⟩ (by decide) (by decide) dX1_placeOnWholePages_98
    · skip
      refine zj_iconst 52 C dX1_placeOnWholePages_51 rfl ?_
      subst hQ
      exact zj_zret C (zI_bool (by omega)) hr ⟨0, pg, rw, un, us, be, fi, P1, R1, U1, c1, b1, f1, s1, (by exact Or.inl ⟨rfl, by rw [← hF]; omega, rfl, rfl, rfl, rfl, rfl, rfl, rfl⟩), rfl, rfl⟩ (by decide) (by decide) dX1_placeOnWholePages_52
  refine zj_aload_n 1 0 C dX1_placeOnWholePages_0 rfl rfl rfl ?_
  refine zj_aload_n 2 0 C dX1_placeOnWholePages_1 rfl rfl rfl ?_
  refine zj_get 5 0 8 C (T := TX1) im_X1_placeOnWholePages_1 fl_X1_placeOnWholePages_36 rfl rfl (by decide) rfl rfl dX1_placeOnWholePages_2 rfl ?_
  refine zj_ci 8 [0, 4] [1, 2, 3, 5, 6, 7] C (wr := [(a0, .inl (cI, 24, .inl (zA P1))), (a1, .inl (cI, 24, .inl (zA R1))), (a2, .inl (cI, 24, .inl (zA U1))), (a4, .inl (cI, 16, .inl (zA b1))), (a5, .inl (cI, 16, .inl (zA f1))), (a6, .inl (cI, 16, .inl (zA s1)))]) (zr_V [0, 4] C (As := [.int (zI pg)]) (rest := []) (c_X1_isBearing l D cI cS cJ q1 a0 a1 a2 a3 a4 a5 a6 a7 pg rw un us be fi lo c1 pg (by omega) hc) (cwV 1 C.1.2.2.2.2 gX1_placeOnWholePages_X1_isBearing rfl rfl rfl (by decide +kernel) ⟨Nat.le_of_ble_eq_true rfl, Nat.le_of_ble_eq_true rfl⟩) rfl (by decide) 0 rfl rfl rfl rfl (Nat.le_of_ble_eq_true rfl) dX1_placeOnWholePages_5 ⟨Nat.le_of_ble_eq_true rfl, Nat.le_of_ble_eq_true rfl⟩) rfl rfl (by decide) (by decide) rfl (fun r_11 w_ hp_12 => ?_)
  obtain ⟨r1_13, fb, rfl, rfl⟩ := hp_12
  refine zj_ws (ws' := [(a0, .inl (cI, 24, .inl (zA P1))), (a1, .inl (cI, 24, .inl (zA R1))), (a2, .inl (cI, 24, .inl (zA U1))), (a4, .inl (cI, 16, .inl (zA b1))), (a5, .inl (cI, 16, .inl (zA f1))), (a6, .inl (cI, 16, .inl (zA s1))), (q1, .inr (1, [.ref a0, .ref a1, .ref a2, .ref a3, .ref a4, .ref a5, .ref a6, .ref a7, .int (zI pg), .int (zI rw), .int (zI un), .int (zI us), .int (zI be), .int (zI fi), .int (zI lo)])), (a3, .inl (cI, 16, .inl (zA c1)))]) rfl ?_
  refine zj_if_eq 11 20 C (by omega) dX1_placeOnWholePages_8 rfl (by decide) (fun h8 => ?_) (fun h8 => ?_)
  · skip
    refine zj_aload_n 21 0 C dX1_placeOnWholePages_20 rfl rfl rfl ?_
    refine zj_get 24 6 8 C (T := TX1) im_X1_placeOnWholePages_1 fl_X1_placeOnWholePages_36 rfl rfl (by decide) rfl rfl dX1_placeOnWholePages_21 rfl ?_
    refine zj_istore 26 [(4, .int (zI pg)), (0, .ref q1), (1, .int (zI j1)), (2, .int (zI t1)), (3, .int (zI k1))] C dX1_placeOnWholePages_24 rfl (by decide) rfl ?_
    refine zj_iload_n 27 4 C dX1_placeOnWholePages_26 rfl rfl rfl ?_
    refine zj_iconst 28 C dX1_placeOnWholePages_27 rfl ?_
    refine zj_icmp_ne 31 42 C (by omega) (by omega) dX1_placeOnWholePages_28 rfl (by decide) (fun h28 => ?_) (fun h28 => ?_)
    · skip
      refine zj_re [6, 0, 1, 2, 7, 3, 4, 5] [(q1, .inr (1, [.ref a0, .ref a1, .ref a2, .ref a3, .ref a4, .ref a5, .ref a6, .ref a7, .int (zI pg), .int (zI rw), .int (zI un), .int (zI us), .int (zI be), .int (zI fi), .int (zI lo)])), (a0, .inl (cI, 24, .inl (zA P1))), (a1, .inl (cI, 24, .inl (zA R1))), (a2, .inl (cI, 24, .inl (zA U1))), (a3, .inl (cI, 16, .inl (zA c1))), (a4, .inl (cI, 16, .inl (zA b1))), (a5, .inl (cI, 16, .inl (zA f1))), (a6, .inl (cI, 16, .inl (zA s1)))] (by decide) rfl ?_
      refine zj_lv [1, 2, 3, 4, 0] [(0, .ref q1), (1, .int (zI j1)), (2, .int (zI t1)), (3, .int (zI k1)), (4, .int (zI pg))] rfl ?_
      exact hL42 pg (by unfold zFst zF0; split <;> split <;> omega) (by omega)
    · skip
      refine zj_iload 33 0 C dX1_placeOnWholePages_31 rfl rfl ?_
      refine zj_ci 36 [] [0, 1, 2, 3, 4, 5, 6, 7] C (wr := [(a0, .inl (cI, 24, .inl (zA P1))), (a1, .inl (cI, 24, .inl (zA R1))), (a2, .inl (cI, 24, .inl (zA U1))), (a4, .inl (cI, 16, .inl (zA b1))), (a5, .inl (cI, 16, .inl (zA f1))), (a6, .inl (cI, 16, .inl (zA s1))), (q1, .inr (1, [.ref a0, .ref a1, .ref a2, .ref a3, .ref a4, .ref a5, .ref a6, .ref a7, .int (zI pg), .int (zI rw), .int (zI un), .int (zI us), .int (zI be), .int (zI fi), .int (zI lo)])), (a3, .inl (cI, 16, .inl (zA c1)))]) (zr_S [] C (As := [.int (zI pg)]) (rest := []) (c_X1_isOnLeft l D cI cS cJ pg (by omega)) (va_cwS 1 C.1.2.2.2.2 gX1_placeOnWholePages_X1_isOnLeft rfl rfl rfl (by decide +kernel) ⟨Nat.le_of_ble_eq_true rfl, Nat.le_of_ble_eq_true rfl⟩) rfl (by decide) rfl rfl (Nat.le_of_ble_eq_true rfl) dX1_placeOnWholePages_33 ⟨Nat.le_of_ble_eq_true rfl, Nat.le_of_ble_eq_true rfl⟩) rfl rfl (by decide) (by decide) rfl (fun r_14 w_ hp_15 => ?_)
      obtain ⟨r1_16, fl, rfl, rfl⟩ := hp_15
      refine zj_ws (ws' := [(a0, .inl (cI, 24, .inl (zA P1))), (a1, .inl (cI, 24, .inl (zA R1))), (a2, .inl (cI, 24, .inl (zA U1))), (a4, .inl (cI, 16, .inl (zA b1))), (a5, .inl (cI, 16, .inl (zA f1))), (a6, .inl (cI, 16, .inl (zA s1))), (q1, .inr (1, [.ref a0, .ref a1, .ref a2, .ref a3, .ref a4, .ref a5, .ref a6, .ref a7, .int (zI pg), .int (zI rw), .int (zI un), .int (zI us), .int (zI be), .int (zI fi), .int (zI lo)])), (a3, .inl (cI, 16, .inl (zA c1)))]) rfl ?_
      refine zj_if_eq 39 42 C (by omega) dX1_placeOnWholePages_36 rfl (by decide) (fun h36 => ?_) (fun h36 => ?_)
      · skip
        refine zj_re [6, 0, 1, 2, 7, 3, 4, 5] [(q1, .inr (1, [.ref a0, .ref a1, .ref a2, .ref a3, .ref a4, .ref a5, .ref a6, .ref a7, .int (zI pg), .int (zI rw), .int (zI un), .int (zI us), .int (zI be), .int (zI fi), .int (zI lo)])), (a0, .inl (cI, 24, .inl (zA P1))), (a1, .inl (cI, 24, .inl (zA R1))), (a2, .inl (cI, 24, .inl (zA U1))), (a3, .inl (cI, 16, .inl (zA c1))), (a4, .inl (cI, 16, .inl (zA b1))), (a5, .inl (cI, 16, .inl (zA f1))), (a6, .inl (cI, 16, .inl (zA s1)))] (by decide) rfl ?_
        refine zj_lv [1, 2, 3, 4, 0] [(0, .ref q1), (1, .int (zI j1)), (2, .int (zI t1)), (3, .int (zI k1)), (4, .int (zI pg))] rfl ?_
        exact hL42 pg (by unfold zFst zF0; split <;> split <;> omega) (by omega)
      · skip
        refine zj_iinc 42 0 [(4, .int (zI (pg + 1))), (0, .ref q1), (1, .int (zI j1)), (2, .int (zI t1)), (3, .int (zI k1))] C dX1_placeOnWholePages_39 rfl rfl (by decide) rfl ?_
        refine zj_re [6, 0, 1, 2, 7, 3, 4, 5] [(q1, .inr (1, [.ref a0, .ref a1, .ref a2, .ref a3, .ref a4, .ref a5, .ref a6, .ref a7, .int (zI pg), .int (zI rw), .int (zI un), .int (zI us), .int (zI be), .int (zI fi), .int (zI lo)])), (a0, .inl (cI, 24, .inl (zA P1))), (a1, .inl (cI, 24, .inl (zA R1))), (a2, .inl (cI, 24, .inl (zA U1))), (a3, .inl (cI, 16, .inl (zA c1))), (a4, .inl (cI, 16, .inl (zA b1))), (a5, .inl (cI, 16, .inl (zA f1))), (a6, .inl (cI, 16, .inl (zA s1)))] (by decide) rfl ?_
        refine zj_lv [1, 2, 3, 4, 0] [(0, .ref q1), (1, .int (zI j1)), (2, .int (zI t1)), (3, .int (zI k1)), (4, .int (zI (pg + 1)))] rfl ?_
        exact hL42 (pg + 1) (by unfold zFst zF0; split <;> split <;> omega) (by omega)
  · skip
    refine zj_aload_n 12 0 C dX1_placeOnWholePages_11 rfl rfl rfl ?_
    refine zj_get 15 6 8 C (T := TX1) im_X1_placeOnWholePages_1 fl_X1_placeOnWholePages_36 rfl rfl (by decide) rfl rfl dX1_placeOnWholePages_12 rfl ?_
    refine zj_iconst 16 C dX1_placeOnWholePages_15 rfl ?_
    refine zj_iadd 17 C dX1_placeOnWholePages_16 rfl ?_
    refine zj_goto 24 C dX1_placeOnWholePages_17 (by decide) ?_
    refine zj_istore 26 [(4, .int (zI (pg + 1))), (0, .ref q1), (1, .int (zI j1)), (2, .int (zI t1)), (3, .int (zI k1))] C dX1_placeOnWholePages_24 rfl (by decide) rfl ?_
    refine zj_iload_n 27 4 C dX1_placeOnWholePages_26 rfl rfl rfl ?_
    refine zj_iconst 28 C dX1_placeOnWholePages_27 rfl ?_
    refine zj_icmp_ne 31 42 C (by omega) (by omega) dX1_placeOnWholePages_28 rfl (by decide) (fun h28 => ?_) (fun h28 => ?_)
    · skip
      refine zj_re [6, 0, 1, 2, 7, 3, 4, 5] [(q1, .inr (1, [.ref a0, .ref a1, .ref a2, .ref a3, .ref a4, .ref a5, .ref a6, .ref a7, .int (zI pg), .int (zI rw), .int (zI un), .int (zI us), .int (zI be), .int (zI fi), .int (zI lo)])), (a0, .inl (cI, 24, .inl (zA P1))), (a1, .inl (cI, 24, .inl (zA R1))), (a2, .inl (cI, 24, .inl (zA U1))), (a3, .inl (cI, 16, .inl (zA c1))), (a4, .inl (cI, 16, .inl (zA b1))), (a5, .inl (cI, 16, .inl (zA f1))), (a6, .inl (cI, 16, .inl (zA s1)))] (by decide) rfl ?_
      refine zj_lv [1, 2, 3, 4, 0] [(0, .ref q1), (1, .int (zI j1)), (2, .int (zI t1)), (3, .int (zI k1)), (4, .int (zI (pg + 1)))] rfl ?_
      exact hL42 (pg + 1) (by unfold zFst zF0; split <;> split <;> omega) (by omega)
    · skip
      refine zj_iload 33 0 C dX1_placeOnWholePages_31 rfl rfl ?_
      refine zj_ci 36 [] [0, 1, 2, 3, 4, 5, 6, 7] C (wr := [(a0, .inl (cI, 24, .inl (zA P1))), (a1, .inl (cI, 24, .inl (zA R1))), (a2, .inl (cI, 24, .inl (zA U1))), (a4, .inl (cI, 16, .inl (zA b1))), (a5, .inl (cI, 16, .inl (zA f1))), (a6, .inl (cI, 16, .inl (zA s1))), (q1, .inr (1, [.ref a0, .ref a1, .ref a2, .ref a3, .ref a4, .ref a5, .ref a6, .ref a7, .int (zI pg), .int (zI rw), .int (zI un), .int (zI us), .int (zI be), .int (zI fi), .int (zI lo)])), (a3, .inl (cI, 16, .inl (zA c1)))]) (zr_S [] C (As := [.int (zI (pg + 1))]) (rest := []) (c_X1_isOnLeft l D cI cS cJ (pg + 1) (by omega)) (va_cwS 1 C.1.2.2.2.2 gX1_placeOnWholePages_X1_isOnLeft rfl rfl rfl (by decide +kernel) ⟨Nat.le_of_ble_eq_true rfl, Nat.le_of_ble_eq_true rfl⟩) rfl (by decide) rfl rfl (Nat.le_of_ble_eq_true rfl) dX1_placeOnWholePages_33 ⟨Nat.le_of_ble_eq_true rfl, Nat.le_of_ble_eq_true rfl⟩) rfl rfl (by decide) (by decide) rfl (fun r_17 w_ hp_18 => ?_)
      obtain ⟨r1_19, fl, rfl, rfl⟩ := hp_18
      refine zj_ws (ws' := [(a0, .inl (cI, 24, .inl (zA P1))), (a1, .inl (cI, 24, .inl (zA R1))), (a2, .inl (cI, 24, .inl (zA U1))), (a4, .inl (cI, 16, .inl (zA b1))), (a5, .inl (cI, 16, .inl (zA f1))), (a6, .inl (cI, 16, .inl (zA s1))), (q1, .inr (1, [.ref a0, .ref a1, .ref a2, .ref a3, .ref a4, .ref a5, .ref a6, .ref a7, .int (zI pg), .int (zI rw), .int (zI un), .int (zI us), .int (zI be), .int (zI fi), .int (zI lo)])), (a3, .inl (cI, 16, .inl (zA c1)))]) rfl ?_
      refine zj_if_eq 39 42 C (by omega) dX1_placeOnWholePages_36 rfl (by decide) (fun h36 => ?_) (fun h36 => ?_)
      · skip
        refine zj_re [6, 0, 1, 2, 7, 3, 4, 5] [(q1, .inr (1, [.ref a0, .ref a1, .ref a2, .ref a3, .ref a4, .ref a5, .ref a6, .ref a7, .int (zI pg), .int (zI rw), .int (zI un), .int (zI us), .int (zI be), .int (zI fi), .int (zI lo)])), (a0, .inl (cI, 24, .inl (zA P1))), (a1, .inl (cI, 24, .inl (zA R1))), (a2, .inl (cI, 24, .inl (zA U1))), (a3, .inl (cI, 16, .inl (zA c1))), (a4, .inl (cI, 16, .inl (zA b1))), (a5, .inl (cI, 16, .inl (zA f1))), (a6, .inl (cI, 16, .inl (zA s1)))] (by decide) rfl ?_
        refine zj_lv [1, 2, 3, 4, 0] [(0, .ref q1), (1, .int (zI j1)), (2, .int (zI t1)), (3, .int (zI k1)), (4, .int (zI (pg + 1)))] rfl ?_
        exact hL42 (pg + 1) (by unfold zFst zF0; split <;> split <;> omega) (by omega)
      · skip
        refine zj_iinc 42 0 [(4, .int (zI ((pg + 1) + 1))), (0, .ref q1), (1, .int (zI j1)), (2, .int (zI t1)), (3, .int (zI k1))] C dX1_placeOnWholePages_39 rfl rfl (by decide) rfl ?_
        refine zj_re [6, 0, 1, 2, 7, 3, 4, 5] [(q1, .inr (1, [.ref a0, .ref a1, .ref a2, .ref a3, .ref a4, .ref a5, .ref a6, .ref a7, .int (zI pg), .int (zI rw), .int (zI un), .int (zI us), .int (zI be), .int (zI fi), .int (zI lo)])), (a0, .inl (cI, 24, .inl (zA P1))), (a1, .inl (cI, 24, .inl (zA R1))), (a2, .inl (cI, 24, .inl (zA U1))), (a3, .inl (cI, 16, .inl (zA c1))), (a4, .inl (cI, 16, .inl (zA b1))), (a5, .inl (cI, 16, .inl (zA f1))), (a6, .inl (cI, 16, .inl (zA s1)))] (by decide) rfl ?_
        refine zj_lv [1, 2, 3, 4, 0] [(0, .ref q1), (1, .int (zI j1)), (2, .int (zI t1)), (3, .int (zI k1)), (4, .int (zI ((pg + 1) + 1)))] rfl ?_
        exact hL42 ((pg + 1) + 1) (by unfold zFst zF0; split <;> split <;> omega) (by omega)

theorem fl_X1_placeInRow_36 : Cond.fieldLink RX1 36 "SplashPages$Layout" "pageOfNow" "I" ∈ wsX1_placeInRow := by decide +kernel
theorem im_X1_placeInRow_1 : ∀ w ∈ u_ws RX1 TX1 15, w ∈ wsX1_placeInRow := by decide +kernel
theorem fl_X1_placeInRow_40 : Cond.fieldLink RX1 40 "SplashPages$Layout" "rowOfNow" "I" ∈ wsX1_placeInRow := by decide +kernel
theorem fl_X1_placeInRow_43 : Cond.fieldLink RX1 43 "SplashPages$Layout" "nextUnit" "I" ∈ wsX1_placeInRow := by decide +kernel
theorem fl_X1_placeInRow_33 : Cond.fieldLink RX1 33 "SplashPages$Layout" "pageBleeding" "[I" ∈ wsX1_placeInRow := by decide +kernel
theorem wn_X1_placeInRow_RX4 : Cond.initialized RX4 ∈ wsX1_placeInRow := by decide +kernel
theorem wst_X1_placeInRow_X4_read : Cond.static yX4_read ∈ wsX1_placeInRow := by decide +kernel
theorem nm_RX1_119 : Cond.methodLinkNest RX1 119 yX4_write "SplashPages" ∈ zNW := by decide +kernel
theorem wst_X1_placeInRow_X4_write : Cond.static yX4_write ∈ wsX1_placeInRow := by decide +kernel
abbrev rm_X1_placeInRow : Room := { frames := 1, cells := 0, slots := 0, locals := 24 }
set_option maxRecDepth 100000 in
set_option maxHeartbeats 4000000 in
theorem c_X1_placeInRow (l : Launch) (D : va_G) (cI cS cJ : ClassId) (q1 : Nat) (a0 : Nat) (a1 : Nat) (a2 : Nat) (a3 : Nat) (a4 : Nat) (a5 : Nat) (a6 : Nat) (a7 : Nat) (pg : Int) (rw : Int) (un : Int) (us : Int) (be : Int) (fi : Int) (lo : Int) (P1 : Int → Int) (R1 : Int → Int) (U1 : Int → Int) (c1 : Int → Int) (b1 : Int → Int) (f1 : Int → Int) (s1 : Int → Int) (e1 : Int → Int) (j1 : Int) (d1 : Int) (w1 : Int) (t1 : Int) (hp : 0 ≤ pg ∧ pg ≤ 16) (hr1 : 0 ≤ rw ∧ rw ≤ 3) (hu1 : 0 ≤ un ∧ un ≤ 6) (hj : 0 ≤ j1 ∧ j1 < 24) (hd1 : d1 = 0 ∨ d1 = 1) (hw1 : 1 ≤ w1 ∧ w1 ≤ 6) (hc : ∀ x, 0 ≤ c1 x ∧ c1 x ≤ 1000) : zMi l yX1_placeInRow wsX1_placeInRow rm_X1_placeInRow D (zTy cI cS cJ) [.ref q1, .int (zI j1), .int (zI d1), .int (zI w1), .int (zI t1)] [(q1, .inr (1, [.ref a0, .ref a1, .ref a2, .ref a3, .ref a4, .ref a5, .ref a6, .ref a7, .int (zI pg), .int (zI rw), .int (zI un), .int (zI us), .int (zI be), .int (zI fi), .int (zI lo)])), (a0, .inl (cI, 24, .inl (zA P1))), (a1, .inl (cI, 24, .inl (zA R1))), (a2, .inl (cI, 24, .inl (zA U1))), (a3, .inl (cI, 16, .inl (zA c1))), (a4, .inl (cI, 16, .inl (zA b1))), (a5, .inl (cI, 16, .inl (zA f1))), (a6, .inl (cI, 16, .inl (zA s1))), (a7, .inl (cI, 16, .inl (zA e1)))] (fun r w => ∃ (r1 : Int), ∃ (pg2 : Int), ∃ (rw2 : Int), ∃ (un2 : Int), ∃ (us2 : Int), ∃ (be2 : Int), ∃ (fi2 : Int), ∃ (P2 : Int → Int), ∃ (R2 : Int → Int), ∃ (U2 : Int → Int), ∃ (c2 : Int → Int), ∃ (b2 : Int → Int), ∃ (f2 : Int → Int), ∃ (s2 : Int → Int), ∃ (e2 : Int → Int), ((r1 = 0 ∧ ¬ ((zX3 d1 (zX2 w1 (pg, rw, un))).1 < 16) ∧ P2 = P1 ∧ R2 = R1 ∧ U2 = U1 ∧ e2 = e1 ∧ (c2, b2, f2, s2, us2, be2, fi2) = (c1, b1, f1, s1, us, be, fi)) ∨ (r1 = 1 ∧ (zX3 d1 (zX2 w1 (pg, rw, un))).1 < 16 ∧ P2 = zU P1 j1 ((zX3 d1 (zX2 w1 (pg, rw, un))).1) ∧ R2 = zU R1 j1 ((zX3 d1 (zX2 w1 (pg, rw, un))).2.1) ∧ U2 = zU U1 j1 (zXu d1 w1 (zX3 d1 (zX2 w1 (pg, rw, un)))) ∧ pg2 = (zX3 d1 (zX2 w1 (pg, rw, un))).1 ∧ rw2 = (zX3 d1 (zX2 w1 (pg, rw, un))).2.1 ∧ un2 = zXu d1 w1 (zX3 d1 (zX2 w1 (pg, rw, un))) + w1 ∧ e2 = (if d1 = 1 then zU e1 (zX3 d1 (zX2 w1 (pg, rw, un))).1 (e1 (zX3 d1 (zX2 w1 (pg, rw, un))).1 + 1) else e1) ∧ (c2, b2, f2, s2, us2, be2, fi2) = zBear (zX3 d1 (zX2 w1 (pg, rw, un))).1 j1 w1 t1 (c1, b1, f1, s1, us, be, fi))) ∧ r = zI r1 ∧ w = [(q1, .inr (1, [.ref a0, .ref a1, .ref a2, .ref a3, .ref a4, .ref a5, .ref a6, .ref a7, .int (zI pg2), .int (zI rw2), .int (zI un2), .int (zI us2), .int (zI be2), .int (zI fi2), .int (zI lo)])), (a0, .inl (cI, 24, .inl (zA P2))), (a1, .inl (cI, 24, .inl (zA R2))), (a2, .inl (cI, 24, .inl (zA U2))), (a3, .inl (cI, 16, .inl (zA c2))), (a4, .inl (cI, 16, .inl (zA b2))), (a5, .inl (cI, 16, .inl (zA f2))), (a6, .inl (cI, 16, .inl (zA s2))), (a7, .inl (cI, 16, .inl (zA e2)))]) 0 0 := by
  intro sz
  refine zMet_of (Qc := fun A => va_Qi _ (zB D (zTy cI cS cJ) A) A) RX1 [(0, .ref q1), (1, .int (zI j1)), (2, .int (zI d1)), (3, .int (zI w1)), (4, .int (zI t1))] rfl (by decide +kernel) rfl (Nat.le_of_ble_eq_true rfl) rfl ?_ sz
  intro p e s m args below meth c A Q hQ C hr hini
  have hL40 : ∀ (z1 : Int) (z2 : Int) (z3 : Int), ((z1, z2, z3) = zX3 d1 (zX2 w1 (pg, rw, un))) → (0 ≤ z1 ∧ z1 ≤ 18 ∧ 0 ≤ z2 ∧ z2 ≤ 3 ∧ 0 ≤ z3 ∧ z3 ≤ 6) → zJ p l e rm_X1_placeInRow s m args below meth c Q D A 6 [(q1, .inr (1, [.ref a0, .ref a1, .ref a2, .ref a3, .ref a4, .ref a5, .ref a6, .ref a7, .int (zI z1), .int (zI z2), .int (zI z3), .int (zI us), .int (zI be), .int (zI fi), .int (zI lo)])), (a0, .inl (cI, 24, .inl (zA P1))), (a1, .inl (cI, 24, .inl (zA R1))), (a2, .inl (cI, 24, .inl (zA U1))), (a3, .inl (cI, 16, .inl (zA c1))), (a4, .inl (cI, 16, .inl (zA b1))), (a5, .inl (cI, 16, .inl (zA f1))), (a6, .inl (cI, 16, .inl (zA s1))), (a7, .inl (cI, 16, .inl (zA e1)))] 0 0 [(0, .ref q1), (1, .int (zI j1)), (2, .int (zI d1)), (3, .int (zI w1)), (4, .int (zI t1))] 40 [] := by
    intro z1 z2 z3 hz hz2
    have hL78 : ∀ (u5 : Int), (z1 < 16) → (u5 = zXu d1 w1 (z1, z2, z3)) → (0 ≤ u5 ∧ u5 ≤ 6) → zJ p l e rm_X1_placeInRow s m args below meth c Q D A 6 [(q1, .inr (1, [.ref a0, .ref a1, .ref a2, .ref a3, .ref a4, .ref a5, .ref a6, .ref a7, .int (zI z1), .int (zI z2), .int (zI z3), .int (zI us), .int (zI be), .int (zI fi), .int (zI lo)])), (a0, .inl (cI, 24, .inl (zA P1))), (a1, .inl (cI, 24, .inl (zA R1))), (a2, .inl (cI, 24, .inl (zA U1))), (a3, .inl (cI, 16, .inl (zA c1))), (a4, .inl (cI, 16, .inl (zA b1))), (a5, .inl (cI, 16, .inl (zA f1))), (a6, .inl (cI, 16, .inl (zA s1))), (a7, .inl (cI, 16, .inl (zA e1)))] 0 0 [(0, .ref q1), (1, .int (zI j1)), (2, .int (zI d1)), (3, .int (zI w1)), (4, .int (zI t1)), (5, .int (zI u5))] 78 [] := by
      intro u5 hz6 hu5 hu6
      refine zj_aload_n 79 0 C dX1_placeInRow_78 rfl rfl rfl ?_
      refine zj_iload_n 80 1 C dX1_placeInRow_79 rfl rfl rfl ?_
      refine zj_aload_n 81 0 C dX1_placeInRow_80 rfl rfl rfl ?_
      refine zj_get 84 0 8 C (T := TX1) im_X1_placeInRow_1 fl_X1_placeInRow_36 rfl rfl (by decide) rfl rfl dX1_placeInRow_81 rfl ?_
      refine zj_aload_n 85 0 C dX1_placeInRow_84 rfl rfl rfl ?_
      refine zj_get 88 0 9 C (T := TX1) im_X1_placeInRow_1 fl_X1_placeInRow_40 rfl rfl (by decide) rfl rfl dX1_placeInRow_85 rfl ?_
      refine zj_iload 90 5 C dX1_placeInRow_88 rfl rfl ?_
      refine zj_cv 93 [0, 1, 2, 3] [4, 5, 6, 7, 8] C (wr := [(a3, .inl (cI, 16, .inl (zA c1))), (a4, .inl (cI, 16, .inl (zA b1))), (a5, .inl (cI, 16, .inl (zA f1))), (a6, .inl (cI, 16, .inl (zA s1))), (a7, .inl (cI, 16, .inl (zA e1)))]) (zr_V [0, 1, 2, 3] C (As := [.int (zI j1), .int (zI z1), .int (zI z2), .int (zI u5)]) (rest := []) (c_X1_note l D cI cS cJ q1 a0 a1 a2 a3 a4 a5 a6 a7 z1 z2 z3 us be fi lo P1 R1 U1 j1 z1 z2 u5 (by omega)) (cwV 4 C.1.2.2.2.2 gX1_placeInRow_X1_note rfl rfl rfl (by decide +kernel) ⟨Nat.le_of_ble_eq_true rfl, Nat.le_of_ble_eq_true rfl⟩) rfl (by decide) 0 rfl rfl rfl rfl (Nat.le_of_ble_eq_true rfl) dX1_placeInRow_90 ⟨Nat.le_of_ble_eq_true rfl, Nat.le_of_ble_eq_true rfl⟩) rfl rfl (by decide) (by decide) rfl (fun w_ hp_2 => ?_)
      obtain rfl := hp_2
      refine zj_ws (ws' := [(a3, .inl (cI, 16, .inl (zA c1))), (a4, .inl (cI, 16, .inl (zA b1))), (a5, .inl (cI, 16, .inl (zA f1))), (a6, .inl (cI, 16, .inl (zA s1))), (a7, .inl (cI, 16, .inl (zA e1))), (q1, .inr (1, [.ref a0, .ref a1, .ref a2, .ref a3, .ref a4, .ref a5, .ref a6, .ref a7, .int (zI z1), .int (zI z2), .int (zI z3), .int (zI us), .int (zI be), .int (zI fi), .int (zI lo)])), (a0, .inl (cI, 24, .inl (zA (zU P1 j1 z1)))), (a1, .inl (cI, 24, .inl (zA (zU R1 j1 z2)))), (a2, .inl (cI, 24, .inl (zA (zU U1 j1 u5))))]) rfl ?_
      refine zj_aload_n 94 0 C dX1_placeInRow_93 rfl rfl rfl ?_
      refine zj_aload_n 95 0 C dX1_placeInRow_94 rfl rfl rfl ?_
      refine zj_get 98 5 8 C (T := TX1) im_X1_placeInRow_1 fl_X1_placeInRow_36 rfl rfl (by decide) rfl rfl dX1_placeInRow_95 rfl ?_
      refine zj_iload_n 99 1 C dX1_placeInRow_98 rfl rfl rfl ?_
      refine zj_iload_n 100 3 C dX1_placeInRow_99 rfl rfl rfl ?_
      refine zj_iload 102 4 C dX1_placeInRow_100 rfl rfl ?_
      refine zj_cv 105 [5, 0, 1, 2, 3] [4, 6, 7, 8] C (wr := [(a7, .inl (cI, 16, .inl (zA e1))), (a0, .inl (cI, 24, .inl (zA (zU P1 j1 z1)))), (a1, .inl (cI, 24, .inl (zA (zU R1 j1 z2)))), (a2, .inl (cI, 24, .inl (zA (zU U1 j1 u5))))]) (zr_V [5, 0, 1, 2, 3] C (As := [.int (zI z1), .int (zI j1), .int (zI w1), .int (zI t1)]) (rest := []) (c_X1_bear l D cI cS cJ q1 a0 a1 a2 a3 a4 a5 a6 a7 z1 z2 z3 us be fi lo c1 b1 f1 s1 z1 j1 w1 t1 (by omega) (fun x => ⟨(hc x).1, by have := (hc x).2; omega⟩)) (cwV 4 C.1.2.2.2.2 gX1_placeInRow_X1_bear rfl rfl rfl (by decide +kernel) ⟨Nat.le_of_ble_eq_true rfl, Nat.le_of_ble_eq_true rfl⟩) rfl (by decide) 0 rfl rfl rfl rfl (Nat.le_of_ble_eq_true rfl) dX1_placeInRow_102 ⟨Nat.le_of_ble_eq_true rfl, Nat.le_of_ble_eq_true rfl⟩) rfl rfl (by decide) (by decide) rfl (fun w_ hp_4 => ?_)
      obtain rfl := hp_4
      refine zj_ws (ws' := [(a7, .inl (cI, 16, .inl (zA e1))), (a0, .inl (cI, 24, .inl (zA (zU P1 j1 z1)))), (a1, .inl (cI, 24, .inl (zA (zU R1 j1 z2)))), (a2, .inl (cI, 24, .inl (zA (zU U1 j1 u5)))), (q1, .inr (1, [.ref a0, .ref a1, .ref a2, .ref a3, .ref a4, .ref a5, .ref a6, .ref a7, .int (zI z1), .int (zI z2), .int (zI z3), .int (zI (z1 + 1)), .int (zI (zBe c1 be z1)), .int (zI (fi + w1)), .int (zI lo)])), (a3, .inl (cI, 16, .inl (zA (zU c1 z1 (c1 z1 + 1))))), (a4, .inl (cI, 16, .inl (zA (zU b1 z1 (b1 z1 + t1))))), (a5, .inl (cI, 16, .inl (zA (zU f1 z1 (f1 z1 + w1))))), (a6, .inl (cI, 16, .inl (zA (zFs c1 s1 z1 j1))))]) rfl ?_
      refine zj_iload_n 106 2 C dX1_placeInRow_105 rfl rfl rfl ?_
      refine zj_if_eq 109 133 C (by omega) dX1_placeInRow_106 rfl (by decide) (fun h106 => ?_) (fun h106 => ?_)
      · skip
        refine zj_aload_n 134 0 C dX1_placeInRow_133 rfl rfl rfl ?_
        refine zj_iload 136 5 C dX1_placeInRow_134 rfl rfl ?_
        refine zj_iload_n 137 3 C dX1_placeInRow_136 rfl rfl rfl ?_
        refine zj_iadd 138 C dX1_placeInRow_137 rfl ?_
        refine zj_put 141 4 10 [(a7, .inl (cI, 16, .inl (zA e1))), (a0, .inl (cI, 24, .inl (zA (zU P1 j1 z1)))), (a1, .inl (cI, 24, .inl (zA (zU R1 j1 z2)))), (a2, .inl (cI, 24, .inl (zA (zU U1 j1 u5)))), (q1, .inr (1, [.ref a0, .ref a1, .ref a2, .ref a3, .ref a4, .ref a5, .ref a6, .ref a7, .int (zI z1), .int (zI z2), .int (zI (u5 + w1)), .int (zI (z1 + 1)), .int (zI (zBe c1 be z1)), .int (zI (fi + w1)), .int (zI lo)])), (a3, .inl (cI, 16, .inl (zA (zU c1 z1 (c1 z1 + 1))))), (a4, .inl (cI, 16, .inl (zA (zU b1 z1 (b1 z1 + t1))))), (a5, .inl (cI, 16, .inl (zA (zU f1 z1 (f1 z1 + w1))))), (a6, .inl (cI, 16, .inl (zA (zFs c1 s1 z1 j1))))] C (T := TX1) tyX1 tyX1_ok nmX1 im_X1_placeInRow_1 fl_X1_placeInRow_43 rfl rfl (by decide) rfl rfl rfl rfl rfl (Nat.le_of_ble_eq_true rfl) rfl dX1_placeInRow_138 rfl ?_
        refine zj_iconst 142 C dX1_placeInRow_141 rfl ?_
        refine zj_re [4, 1, 2, 3, 5, 6, 7, 8, 0] [(q1, .inr (1, [.ref a0, .ref a1, .ref a2, .ref a3, .ref a4, .ref a5, .ref a6, .ref a7, .int (zI z1), .int (zI z2), .int (zI (u5 + w1)), .int (zI (z1 + 1)), .int (zI (zBe c1 be z1)), .int (zI (fi + w1)), .int (zI lo)])), (a0, .inl (cI, 24, .inl (zA (zU P1 j1 z1)))), (a1, .inl (cI, 24, .inl (zA (zU R1 j1 z2)))), (a2, .inl (cI, 24, .inl (zA (zU U1 j1 u5)))), (a3, .inl (cI, 16, .inl (zA (zU c1 z1 (c1 z1 + 1))))), (a4, .inl (cI, 16, .inl (zA (zU b1 z1 (b1 z1 + t1))))), (a5, .inl (cI, 16, .inl (zA (zU f1 z1 (f1 z1 + w1))))), (a6, .inl (cI, 16, .inl (zA (zFs c1 s1 z1 j1)))), (a7, .inl (cI, 16, .inl (zA e1)))] (by decide) rfl ?_
        subst hQ
        exact zj_zret C (zI_bool (by omega)) hr ⟨1, z1, z2, (u5 + w1), (z1 + 1), (zBe c1 be z1), (fi + w1), (zU P1 j1 z1), (zU R1 j1 z2), (zU U1 j1 u5), (zU c1 z1 (c1 z1 + 1)), (zU b1 z1 (b1 z1 + t1)), (zU f1 z1 (f1 z1 + w1)), (zFs c1 s1 z1 j1), e1, (by rw [← hz, ← hu5]; exact Or.inr ⟨rfl, by show z1 < 16; omega, rfl, rfl, rfl, rfl, rfl, rfl, by rw [if_neg (by omega)], rfl⟩), rfl, rfl⟩ (by decide) (by decide) dX1_placeInRow_142
      · skip
        refine zj_aload_n 110 0 C dX1_placeInRow_109 rfl rfl rfl ?_
        refine zj_get 113 4 7 C (T := TX1) im_X1_placeInRow_1 fl_X1_placeInRow_33 rfl rfl (by decide) rfl rfl dX1_placeInRow_110 rfl ?_
        refine zj_aload_n 114 0 C dX1_placeInRow_113 rfl rfl rfl ?_
        refine zj_get 117 4 8 C (T := TX1) im_X1_placeInRow_1 fl_X1_placeInRow_36 rfl rfl (by decide) rfl rfl dX1_placeInRow_114 rfl ?_
        refine zj_aload_n 118 0 C dX1_placeInRow_117 rfl rfl rfl ?_
        refine zj_get 121 4 7 C (T := TX1) im_X1_placeInRow_1 fl_X1_placeInRow_33 rfl rfl (by decide) rfl rfl dX1_placeInRow_118 rfl ?_
        refine zj_aload_n 122 0 C dX1_placeInRow_121 rfl rfl rfl ?_
        refine zj_get 125 4 8 C (T := TX1) im_X1_placeInRow_1 fl_X1_placeInRow_36 rfl rfl (by decide) rfl rfl dX1_placeInRow_122 rfl ?_
        refine zj_ci 128 [0] [1, 2, 3, 4, 5, 6, 7, 8] C (wr := [(a0, .inl (cI, 24, .inl (zA (zU P1 j1 z1)))), (a1, .inl (cI, 24, .inl (zA (zU R1 j1 z2)))), (a2, .inl (cI, 24, .inl (zA (zU U1 j1 u5)))), (q1, .inr (1, [.ref a0, .ref a1, .ref a2, .ref a3, .ref a4, .ref a5, .ref a6, .ref a7, .int (zI z1), .int (zI z2), .int (zI z3), .int (zI (z1 + 1)), .int (zI (zBe c1 be z1)), .int (zI (fi + w1)), .int (zI lo)])), (a3, .inl (cI, 16, .inl (zA (zU c1 z1 (c1 z1 + 1))))), (a4, .inl (cI, 16, .inl (zA (zU b1 z1 (b1 z1 + t1))))), (a5, .inl (cI, 16, .inl (zA (zU f1 z1 (f1 z1 + w1))))), (a6, .inl (cI, 16, .inl (zA (zFs c1 s1 z1 j1))))]) (zr_SN [0] C (As := [.ref a7, .int (zI z1)]) (rest := [.int (zI z1), .ref a7]) (c_X4_read l D cI cS cJ a7 16 e1 z1 (by omega) (by omega)) (⟨va_cnB 2 C.1.2.2.2.2 gX1_placeInRow_X4_read_n81 rfl rfl rfl (C.2.2.2.2.1 _ nm_RX1_81) (C.1.2.2.2.2 _ wn_X1_placeInRow_RX4) (by decide +kernel) ⟨Nat.le_of_ble_eq_true rfl, Nat.le_of_ble_eq_true rfl⟩, C.1.2.2.2.2 _ wst_X1_placeInRow_X4_read, trivial⟩) rfl (by decide) rfl rfl (Nat.le_of_ble_eq_true rfl) dX1_placeInRow_125 ⟨Nat.le_of_ble_eq_true rfl, Nat.le_of_ble_eq_true rfl⟩) rfl rfl (by decide) (by decide) rfl (fun r_5 w_ hp_6 => ?_)
        obtain ⟨rfl, rfl⟩ := hp_6
        refine zj_ws (ws' := [(a0, .inl (cI, 24, .inl (zA (zU P1 j1 z1)))), (a1, .inl (cI, 24, .inl (zA (zU R1 j1 z2)))), (a2, .inl (cI, 24, .inl (zA (zU U1 j1 u5)))), (q1, .inr (1, [.ref a0, .ref a1, .ref a2, .ref a3, .ref a4, .ref a5, .ref a6, .ref a7, .int (zI z1), .int (zI z2), .int (zI z3), .int (zI (z1 + 1)), .int (zI (zBe c1 be z1)), .int (zI (fi + w1)), .int (zI lo)])), (a3, .inl (cI, 16, .inl (zA (zU c1 z1 (c1 z1 + 1))))), (a4, .inl (cI, 16, .inl (zA (zU b1 z1 (b1 z1 + t1))))), (a5, .inl (cI, 16, .inl (zA (zU f1 z1 (f1 z1 + w1))))), (a6, .inl (cI, 16, .inl (zA (zFs c1 s1 z1 j1)))), (a7, .inl (cI, 16, .inl (zA e1)))]) rfl ?_
        refine zj_iconst 129 C dX1_placeInRow_128 rfl ?_
        refine zj_iadd 130 C dX1_placeInRow_129 rfl ?_
        refine zj_cv 133 [8] [0, 1, 2, 3, 4, 5, 6, 7] C (wr := [(a0, .inl (cI, 24, .inl (zA (zU P1 j1 z1)))), (a1, .inl (cI, 24, .inl (zA (zU R1 j1 z2)))), (a2, .inl (cI, 24, .inl (zA (zU U1 j1 u5)))), (q1, .inr (1, [.ref a0, .ref a1, .ref a2, .ref a3, .ref a4, .ref a5, .ref a6, .ref a7, .int (zI z1), .int (zI z2), .int (zI z3), .int (zI (z1 + 1)), .int (zI (zBe c1 be z1)), .int (zI (fi + w1)), .int (zI lo)])), (a3, .inl (cI, 16, .inl (zA (zU c1 z1 (c1 z1 + 1))))), (a4, .inl (cI, 16, .inl (zA (zU b1 z1 (b1 z1 + t1))))), (a5, .inl (cI, 16, .inl (zA (zU f1 z1 (f1 z1 + w1))))), (a6, .inl (cI, 16, .inl (zA (zFs c1 s1 z1 j1))))]) (zr_SN [8] C (As := [.ref a7, .int (zI z1), .int (zI ((e1 z1) + 1))]) (rest := []) (c_X4_write l D cI cS cJ a7 16 e1 z1 ((e1 z1) + 1) (by omega) (by omega)) (⟨va_cnB 3 C.1.2.2.2.2 gX1_placeInRow_X4_write_n119 rfl rfl rfl (C.2.2.2.2.1 _ nm_RX1_119) (C.1.2.2.2.2 _ wn_X1_placeInRow_RX4) (by decide +kernel) ⟨Nat.le_of_ble_eq_true rfl, Nat.le_of_ble_eq_true rfl⟩, C.1.2.2.2.2 _ wst_X1_placeInRow_X4_write, trivial⟩) rfl (by decide) rfl rfl (Nat.le_of_ble_eq_true rfl) dX1_placeInRow_130 ⟨Nat.le_of_ble_eq_true rfl, Nat.le_of_ble_eq_true rfl⟩) rfl rfl (by decide) (by decide) rfl (fun w_ hp_8 => ?_)
        obtain rfl := hp_8
        refine zj_ws (ws' := [(a0, .inl (cI, 24, .inl (zA (zU P1 j1 z1)))), (a1, .inl (cI, 24, .inl (zA (zU R1 j1 z2)))), (a2, .inl (cI, 24, .inl (zA (zU U1 j1 u5)))), (q1, .inr (1, [.ref a0, .ref a1, .ref a2, .ref a3, .ref a4, .ref a5, .ref a6, .ref a7, .int (zI z1), .int (zI z2), .int (zI z3), .int (zI (z1 + 1)), .int (zI (zBe c1 be z1)), .int (zI (fi + w1)), .int (zI lo)])), (a3, .inl (cI, 16, .inl (zA (zU c1 z1 (c1 z1 + 1))))), (a4, .inl (cI, 16, .inl (zA (zU b1 z1 (b1 z1 + t1))))), (a5, .inl (cI, 16, .inl (zA (zU f1 z1 (f1 z1 + w1))))), (a6, .inl (cI, 16, .inl (zA (zFs c1 s1 z1 j1)))), (a7, .inl (cI, 16, .inl (zA (zU e1 z1 ((e1 z1) + 1)))))]) rfl ?_
        refine zj_aload_n 134 0 C dX1_placeInRow_133 rfl rfl rfl ?_
        refine zj_iload 136 5 C dX1_placeInRow_134 rfl rfl ?_
        refine zj_iload_n 137 3 C dX1_placeInRow_136 rfl rfl rfl ?_
        refine zj_iadd 138 C dX1_placeInRow_137 rfl ?_
        refine zj_put 141 3 10 [(a0, .inl (cI, 24, .inl (zA (zU P1 j1 z1)))), (a1, .inl (cI, 24, .inl (zA (zU R1 j1 z2)))), (a2, .inl (cI, 24, .inl (zA (zU U1 j1 u5)))), (q1, .inr (1, [.ref a0, .ref a1, .ref a2, .ref a3, .ref a4, .ref a5, .ref a6, .ref a7, .int (zI z1), .int (zI z2), .int (zI (u5 + w1)), .int (zI (z1 + 1)), .int (zI (zBe c1 be z1)), .int (zI (fi + w1)), .int (zI lo)])), (a3, .inl (cI, 16, .inl (zA (zU c1 z1 (c1 z1 + 1))))), (a4, .inl (cI, 16, .inl (zA (zU b1 z1 (b1 z1 + t1))))), (a5, .inl (cI, 16, .inl (zA (zU f1 z1 (f1 z1 + w1))))), (a6, .inl (cI, 16, .inl (zA (zFs c1 s1 z1 j1)))), (a7, .inl (cI, 16, .inl (zA (zU e1 z1 ((e1 z1) + 1)))))] C (T := TX1) tyX1 tyX1_ok nmX1 im_X1_placeInRow_1 fl_X1_placeInRow_43 rfl rfl (by decide) rfl rfl rfl rfl rfl (Nat.le_of_ble_eq_true rfl) rfl dX1_placeInRow_138 rfl ?_
        refine zj_iconst 142 C dX1_placeInRow_141 rfl ?_
        refine zj_re [3, 0, 1, 2, 4, 5, 6, 7, 8] [(q1, .inr (1, [.ref a0, .ref a1, .ref a2, .ref a3, .ref a4, .ref a5, .ref a6, .ref a7, .int (zI z1), .int (zI z2), .int (zI (u5 + w1)), .int (zI (z1 + 1)), .int (zI (zBe c1 be z1)), .int (zI (fi + w1)), .int (zI lo)])), (a0, .inl (cI, 24, .inl (zA (zU P1 j1 z1)))), (a1, .inl (cI, 24, .inl (zA (zU R1 j1 z2)))), (a2, .inl (cI, 24, .inl (zA (zU U1 j1 u5)))), (a3, .inl (cI, 16, .inl (zA (zU c1 z1 (c1 z1 + 1))))), (a4, .inl (cI, 16, .inl (zA (zU b1 z1 (b1 z1 + t1))))), (a5, .inl (cI, 16, .inl (zA (zU f1 z1 (f1 z1 + w1))))), (a6, .inl (cI, 16, .inl (zA (zFs c1 s1 z1 j1)))), (a7, .inl (cI, 16, .inl (zA (zU e1 z1 ((e1 z1) + 1)))))] (by decide) rfl ?_
        subst hQ
        exact zj_zret C (zI_bool (by omega)) hr ⟨1, z1, z2, (u5 + w1), (z1 + 1), (zBe c1 be z1), (fi + w1), (zU P1 j1 z1), (zU R1 j1 z2), (zU U1 j1 u5), (zU c1 z1 (c1 z1 + 1)), (zU b1 z1 (b1 z1 + t1)), (zU f1 z1 (f1 z1 + w1)), (zFs c1 s1 z1 j1), (zU e1 z1 ((e1 z1) + 1)), (by rw [← hz, ← hu5]; exact Or.inr ⟨rfl, by show z1 < 16; omega, rfl, rfl, rfl, rfl, rfl, rfl, by rw [if_pos (by omega)], rfl⟩), rfl, rfl⟩ (by decide) (by decide) dX1_placeInRow_142
    refine zj_aload_n 41 0 C dX1_placeInRow_40 rfl rfl rfl ?_
    refine zj_get 44 0 8 C (T := TX1) im_X1_placeInRow_1 fl_X1_placeInRow_36 rfl rfl (by decide) rfl rfl dX1_placeInRow_41 rfl ?_
    refine zj_bipush 46 C dX1_placeInRow_44 rfl rfl ?_
    refine zj_icmp_lt 49 51 C (by omega) (by omega) dX1_placeInRow_46 rfl (by decide) (fun h46 => ?_) (fun h46 => ?_)
    · skip
      refine zj_iload_n 52 2 C dX1_placeInRow_51 rfl rfl rfl ?_
      refine zj_if_eq 55 72 C (by omega) dX1_placeInRow_52 rfl (by decide) (fun h52 => ?_) (fun h52 => ?_)
      · skip
        refine zj_aload_n 73 0 C dX1_placeInRow_72 rfl rfl rfl ?_
        refine zj_get 76 0 10 C (T := TX1) im_X1_placeInRow_1 fl_X1_placeInRow_43 rfl rfl (by decide) rfl rfl dX1_placeInRow_73 rfl ?_
        refine zj_istore 78 [(5, .int (zI z3)), (0, .ref q1), (1, .int (zI j1)), (2, .int (zI d1)), (3, .int (zI w1)), (4, .int (zI t1))] C dX1_placeInRow_76 rfl (by decide) rfl ?_
        refine zj_lv [1, 2, 3, 4, 5, 0] [(0, .ref q1), (1, .int (zI j1)), (2, .int (zI d1)), (3, .int (zI w1)), (4, .int (zI t1)), (5, .int (zI z3))] rfl ?_
        exact hL78 z3 (by omega) (by show _ = (if d1 = 1 ∧ z1 % 2 = 1 then 6 - w1 else z3); split <;> omega) (by omega)
      · skip
        refine zj_aload_n 56 0 C dX1_placeInRow_55 rfl rfl rfl ?_
        refine zj_get 59 0 8 C (T := TX1) im_X1_placeInRow_1 fl_X1_placeInRow_36 rfl rfl (by decide) rfl rfl dX1_placeInRow_56 rfl ?_
        refine zj_ci 62 [] [0, 1, 2, 3, 4, 5, 6, 7, 8] C (wr := [(q1, .inr (1, [.ref a0, .ref a1, .ref a2, .ref a3, .ref a4, .ref a5, .ref a6, .ref a7, .int (zI z1), .int (zI z2), .int (zI z3), .int (zI us), .int (zI be), .int (zI fi), .int (zI lo)])), (a0, .inl (cI, 24, .inl (zA P1))), (a1, .inl (cI, 24, .inl (zA R1))), (a2, .inl (cI, 24, .inl (zA U1))), (a3, .inl (cI, 16, .inl (zA c1))), (a4, .inl (cI, 16, .inl (zA b1))), (a5, .inl (cI, 16, .inl (zA f1))), (a6, .inl (cI, 16, .inl (zA s1))), (a7, .inl (cI, 16, .inl (zA e1)))]) (zr_S [] C (As := [.int (zI z1)]) (rest := []) (c_X1_isOnLeft l D cI cS cJ z1 (by omega)) (va_cwS 1 C.1.2.2.2.2 gX1_placeInRow_X1_isOnLeft rfl rfl rfl (by decide +kernel) ⟨Nat.le_of_ble_eq_true rfl, Nat.le_of_ble_eq_true rfl⟩) rfl (by decide) rfl rfl (Nat.le_of_ble_eq_true rfl) dX1_placeInRow_59 ⟨Nat.le_of_ble_eq_true rfl, Nat.le_of_ble_eq_true rfl⟩) rfl rfl (by decide) (by decide) rfl (fun r_9 w_ hp_10 => ?_)
        obtain ⟨r1_11, f_12, rfl, rfl⟩ := hp_10
        refine zj_ws (ws' := [(q1, .inr (1, [.ref a0, .ref a1, .ref a2, .ref a3, .ref a4, .ref a5, .ref a6, .ref a7, .int (zI z1), .int (zI z2), .int (zI z3), .int (zI us), .int (zI be), .int (zI fi), .int (zI lo)])), (a0, .inl (cI, 24, .inl (zA P1))), (a1, .inl (cI, 24, .inl (zA R1))), (a2, .inl (cI, 24, .inl (zA U1))), (a3, .inl (cI, 16, .inl (zA c1))), (a4, .inl (cI, 16, .inl (zA b1))), (a5, .inl (cI, 16, .inl (zA f1))), (a6, .inl (cI, 16, .inl (zA s1))), (a7, .inl (cI, 16, .inl (zA e1)))]) rfl ?_
        refine zj_if_eq 65 72 C (by omega) dX1_placeInRow_62 rfl (by decide) (fun h62 => ?_) (fun h62 => ?_)
        · skip
          refine zj_aload_n 73 0 C dX1_placeInRow_72 rfl rfl rfl ?_
          refine zj_get 76 0 10 C (T := TX1) im_X1_placeInRow_1 fl_X1_placeInRow_43 rfl rfl (by decide) rfl rfl dX1_placeInRow_73 rfl ?_
          refine zj_istore 78 [(5, .int (zI z3)), (0, .ref q1), (1, .int (zI j1)), (2, .int (zI d1)), (3, .int (zI w1)), (4, .int (zI t1))] C dX1_placeInRow_76 rfl (by decide) rfl ?_
          refine zj_lv [1, 2, 3, 4, 5, 0] [(0, .ref q1), (1, .int (zI j1)), (2, .int (zI d1)), (3, .int (zI w1)), (4, .int (zI t1)), (5, .int (zI z3))] rfl ?_
          exact hL78 z3 (by omega) (by show _ = (if d1 = 1 ∧ z1 % 2 = 1 then 6 - w1 else z3); split <;> omega) (by omega)
        · skip
          refine zj_bipush 67 C dX1_placeInRow_65 rfl rfl ?_
          refine zj_iload_n 68 3 C dX1_placeInRow_67 rfl rfl rfl ?_
          refine zj_isub 69 C dX1_placeInRow_68 rfl ?_
          refine zj_goto 76 C dX1_placeInRow_69 (by decide) ?_
          refine zj_istore 78 [(5, .int (zI (6 - w1))), (0, .ref q1), (1, .int (zI j1)), (2, .int (zI d1)), (3, .int (zI w1)), (4, .int (zI t1))] C dX1_placeInRow_76 rfl (by decide) rfl ?_
          refine zj_lv [1, 2, 3, 4, 5, 0] [(0, .ref q1), (1, .int (zI j1)), (2, .int (zI d1)), (3, .int (zI w1)), (4, .int (zI t1)), (5, .int (zI (6 - w1)))] rfl ?_
          exact hL78 (6 - w1) (by omega) (by show _ = (if d1 = 1 ∧ z1 % 2 = 1 then 6 - w1 else z3); split <;> omega) (by omega)
    · skip
      refine zj_iconst 50 C dX1_placeInRow_49 rfl ?_
      subst hQ
      exact zj_zret C (zI_bool (by omega)) hr ⟨0, z1, z2, z3, us, be, fi, P1, R1, U1, c1, b1, f1, s1, e1, (by rw [← hz]; exact Or.inl ⟨rfl, by show ¬ z1 < 16; omega, rfl, rfl, rfl, rfl, rfl⟩), rfl, rfl⟩ (by decide) (by decide) dX1_placeInRow_50
  have hL15 : ∀ (y1 : Int) (y2 : Int) (y3 : Int), ((y1, y2, y3) = zX2 w1 (pg, rw, un)) → (0 ≤ y1 ∧ y1 ≤ 17 ∧ 0 ≤ y2 ∧ y2 ≤ 3 ∧ 0 ≤ y3 ∧ y3 ≤ 6) → zJ p l e rm_X1_placeInRow s m args below meth c Q D A 6 [(q1, .inr (1, [.ref a0, .ref a1, .ref a2, .ref a3, .ref a4, .ref a5, .ref a6, .ref a7, .int (zI y1), .int (zI y2), .int (zI y3), .int (zI us), .int (zI be), .int (zI fi), .int (zI lo)])), (a0, .inl (cI, 24, .inl (zA P1))), (a1, .inl (cI, 24, .inl (zA R1))), (a2, .inl (cI, 24, .inl (zA U1))), (a3, .inl (cI, 16, .inl (zA c1))), (a4, .inl (cI, 16, .inl (zA b1))), (a5, .inl (cI, 16, .inl (zA f1))), (a6, .inl (cI, 16, .inl (zA s1))), (a7, .inl (cI, 16, .inl (zA e1)))] 0 0 [(0, .ref q1), (1, .int (zI j1)), (2, .int (zI d1)), (3, .int (zI w1)), (4, .int (zI t1))] 15 [] := by
    intro y1 y2 y3 hy hy2
    refine zj_iload_n 16 2 C dX1_placeInRow_15 rfl rfl rfl ?_
    refine zj_if_eq 19 40 C (by omega) dX1_placeInRow_16 rfl (by decide) (fun h16 => ?_) (fun h16 => ?_)
    · skip
      exact hL40 y1 y2 y3 (by rw [← hy]; show _ = (if d1 = 1 ∧ y1 % 2 = 0 ∧ y3 ≠ 0 then (zRp y1 y2, zRr y2, (0 : Int)) else (y1, y2, y3)); split <;> first | rfl | omega) (by first | omega | (unfold zRp zRr; split <;> omega))
    · skip
      refine zj_aload_n 20 0 C dX1_placeInRow_19 rfl rfl rfl ?_
      refine zj_get 23 0 8 C (T := TX1) im_X1_placeInRow_1 fl_X1_placeInRow_36 rfl rfl (by decide) rfl rfl dX1_placeInRow_20 rfl ?_
      refine zj_ci 26 [] [0, 1, 2, 3, 4, 5, 6, 7, 8] C (wr := [(q1, .inr (1, [.ref a0, .ref a1, .ref a2, .ref a3, .ref a4, .ref a5, .ref a6, .ref a7, .int (zI y1), .int (zI y2), .int (zI y3), .int (zI us), .int (zI be), .int (zI fi), .int (zI lo)])), (a0, .inl (cI, 24, .inl (zA P1))), (a1, .inl (cI, 24, .inl (zA R1))), (a2, .inl (cI, 24, .inl (zA U1))), (a3, .inl (cI, 16, .inl (zA c1))), (a4, .inl (cI, 16, .inl (zA b1))), (a5, .inl (cI, 16, .inl (zA f1))), (a6, .inl (cI, 16, .inl (zA s1))), (a7, .inl (cI, 16, .inl (zA e1)))]) (zr_S [] C (As := [.int (zI y1)]) (rest := []) (c_X1_isOnLeft l D cI cS cJ y1 (by omega)) (va_cwS 1 C.1.2.2.2.2 gX1_placeInRow_X1_isOnLeft rfl rfl rfl (by decide +kernel) ⟨Nat.le_of_ble_eq_true rfl, Nat.le_of_ble_eq_true rfl⟩) rfl (by decide) rfl rfl (Nat.le_of_ble_eq_true rfl) dX1_placeInRow_23 ⟨Nat.le_of_ble_eq_true rfl, Nat.le_of_ble_eq_true rfl⟩) rfl rfl (by decide) (by decide) rfl (fun r_13 w_ hp_14 => ?_)
      obtain ⟨r1_15, f_16, rfl, rfl⟩ := hp_14
      refine zj_ws (ws' := [(q1, .inr (1, [.ref a0, .ref a1, .ref a2, .ref a3, .ref a4, .ref a5, .ref a6, .ref a7, .int (zI y1), .int (zI y2), .int (zI y3), .int (zI us), .int (zI be), .int (zI fi), .int (zI lo)])), (a0, .inl (cI, 24, .inl (zA P1))), (a1, .inl (cI, 24, .inl (zA R1))), (a2, .inl (cI, 24, .inl (zA U1))), (a3, .inl (cI, 16, .inl (zA c1))), (a4, .inl (cI, 16, .inl (zA b1))), (a5, .inl (cI, 16, .inl (zA f1))), (a6, .inl (cI, 16, .inl (zA s1))), (a7, .inl (cI, 16, .inl (zA e1)))]) rfl ?_
      refine zj_if_ne 29 40 C (by omega) dX1_placeInRow_26 rfl (by decide) (fun h26 => ?_) (fun h26 => ?_)
      · skip
        exact hL40 y1 y2 y3 (by rw [← hy]; show _ = (if d1 = 1 ∧ y1 % 2 = 0 ∧ y3 ≠ 0 then (zRp y1 y2, zRr y2, (0 : Int)) else (y1, y2, y3)); split <;> first | rfl | omega) (by first | omega | (unfold zRp zRr; split <;> omega))
      · skip
        refine zj_aload_n 30 0 C dX1_placeInRow_29 rfl rfl rfl ?_
        refine zj_get 33 0 10 C (T := TX1) im_X1_placeInRow_1 fl_X1_placeInRow_43 rfl rfl (by decide) rfl rfl dX1_placeInRow_30 rfl ?_
        refine zj_if_eq 36 40 C (by omega) dX1_placeInRow_33 rfl (by decide) (fun h33 => ?_) (fun h33 => ?_)
        · skip
          exact hL40 y1 y2 y3 (by rw [← hy]; show _ = (if d1 = 1 ∧ y1 % 2 = 0 ∧ y3 ≠ 0 then (zRp y1 y2, zRr y2, (0 : Int)) else (y1, y2, y3)); split <;> first | rfl | omega) (by first | omega | (unfold zRp zRr; split <;> omega))
        · skip
          refine zj_aload_n 37 0 C dX1_placeInRow_36 rfl rfl rfl ?_
          refine zj_cv 40 [0] [1, 2, 3, 4, 5, 6, 7, 8] C (wr := [(a0, .inl (cI, 24, .inl (zA P1))), (a1, .inl (cI, 24, .inl (zA R1))), (a2, .inl (cI, 24, .inl (zA U1))), (a3, .inl (cI, 16, .inl (zA c1))), (a4, .inl (cI, 16, .inl (zA b1))), (a5, .inl (cI, 16, .inl (zA f1))), (a6, .inl (cI, 16, .inl (zA s1))), (a7, .inl (cI, 16, .inl (zA e1)))]) (zr_V [0] C (As := []) (rest := []) (c_X1_beginRow l D cI cS cJ q1 a0 a1 a2 a3 a4 a5 a6 a7 y1 y2 y3 us be fi lo (by omega)) (cwV 0 C.1.2.2.2.2 gX1_placeInRow_X1_beginRow rfl rfl rfl (by decide +kernel) ⟨Nat.le_of_ble_eq_true rfl, Nat.le_of_ble_eq_true rfl⟩) rfl (by decide) 0 rfl rfl rfl rfl (Nat.le_of_ble_eq_true rfl) dX1_placeInRow_37 ⟨Nat.le_of_ble_eq_true rfl, Nat.le_of_ble_eq_true rfl⟩) rfl rfl (by decide) (by decide) rfl (fun w_ hp_18 => ?_)
          obtain rfl := hp_18
          refine zj_ws (ws' := [(a0, .inl (cI, 24, .inl (zA P1))), (a1, .inl (cI, 24, .inl (zA R1))), (a2, .inl (cI, 24, .inl (zA U1))), (a3, .inl (cI, 16, .inl (zA c1))), (a4, .inl (cI, 16, .inl (zA b1))), (a5, .inl (cI, 16, .inl (zA f1))), (a6, .inl (cI, 16, .inl (zA s1))), (a7, .inl (cI, 16, .inl (zA e1))), (q1, .inr (1, [.ref a0, .ref a1, .ref a2, .ref a3, .ref a4, .ref a5, .ref a6, .ref a7, .int (zI (zRp y1 y2)), .int (zI (zRr y2)), .int (zI 0), .int (zI us), .int (zI be), .int (zI fi), .int (zI lo)]))]) rfl ?_
          refine zj_re [8, 0, 1, 2, 3, 4, 5, 6, 7] [(q1, .inr (1, [.ref a0, .ref a1, .ref a2, .ref a3, .ref a4, .ref a5, .ref a6, .ref a7, .int (zI (zRp y1 y2)), .int (zI (zRr y2)), .int (zI 0), .int (zI us), .int (zI be), .int (zI fi), .int (zI lo)])), (a0, .inl (cI, 24, .inl (zA P1))), (a1, .inl (cI, 24, .inl (zA R1))), (a2, .inl (cI, 24, .inl (zA U1))), (a3, .inl (cI, 16, .inl (zA c1))), (a4, .inl (cI, 16, .inl (zA b1))), (a5, .inl (cI, 16, .inl (zA f1))), (a6, .inl (cI, 16, .inl (zA s1))), (a7, .inl (cI, 16, .inl (zA e1)))] (by decide) rfl ?_
          exact hL40 (zRp y1 y2) (zRr y2) 0 (by rw [← hy]; show _ = (if d1 = 1 ∧ y1 % 2 = 0 ∧ y3 ≠ 0 then (zRp y1 y2, zRr y2, (0 : Int)) else (y1, y2, y3)); split <;> first | rfl | omega) (by first | omega | (unfold zRp zRr; split <;> omega))
  refine zj_bipush 2 C dX1_placeInRow_0 rfl rfl ?_
  refine zj_aload_n 3 0 C dX1_placeInRow_2 rfl rfl rfl ?_
  refine zj_get 6 0 10 C (T := TX1) im_X1_placeInRow_1 fl_X1_placeInRow_43 rfl rfl (by decide) rfl rfl dX1_placeInRow_3 rfl ?_
  refine zj_isub 7 C dX1_placeInRow_6 rfl ?_
  refine zj_iload_n 8 3 C dX1_placeInRow_7 rfl rfl rfl ?_
  refine zj_icmp_ge 11 15 C (by omega) (by omega) dX1_placeInRow_8 rfl (by decide) (fun h8 => ?_) (fun h8 => ?_)
  · skip
    exact hL15 pg rw un (by show _ = (if 6 - un < w1 then (zRp pg rw, zRr rw, (0 : Int)) else (pg, rw, un)); split <;> first | rfl | omega) (by first | omega | (unfold zRp zRr; split <;> omega))
  · skip
    refine zj_aload_n 12 0 C dX1_placeInRow_11 rfl rfl rfl ?_
    refine zj_cv 15 [0] [1, 2, 3, 4, 5, 6, 7, 8] C (wr := [(a0, .inl (cI, 24, .inl (zA P1))), (a1, .inl (cI, 24, .inl (zA R1))), (a2, .inl (cI, 24, .inl (zA U1))), (a3, .inl (cI, 16, .inl (zA c1))), (a4, .inl (cI, 16, .inl (zA b1))), (a5, .inl (cI, 16, .inl (zA f1))), (a6, .inl (cI, 16, .inl (zA s1))), (a7, .inl (cI, 16, .inl (zA e1)))]) (zr_V [0] C (As := []) (rest := []) (c_X1_beginRow l D cI cS cJ q1 a0 a1 a2 a3 a4 a5 a6 a7 pg rw un us be fi lo (by omega)) (cwV 0 C.1.2.2.2.2 gX1_placeInRow_X1_beginRow rfl rfl rfl (by decide +kernel) ⟨Nat.le_of_ble_eq_true rfl, Nat.le_of_ble_eq_true rfl⟩) rfl (by decide) 0 rfl rfl rfl rfl (Nat.le_of_ble_eq_true rfl) dX1_placeInRow_12 ⟨Nat.le_of_ble_eq_true rfl, Nat.le_of_ble_eq_true rfl⟩) rfl rfl (by decide) (by decide) rfl (fun w_ hp_20 => ?_)
    obtain rfl := hp_20
    refine zj_ws (ws' := [(a0, .inl (cI, 24, .inl (zA P1))), (a1, .inl (cI, 24, .inl (zA R1))), (a2, .inl (cI, 24, .inl (zA U1))), (a3, .inl (cI, 16, .inl (zA c1))), (a4, .inl (cI, 16, .inl (zA b1))), (a5, .inl (cI, 16, .inl (zA f1))), (a6, .inl (cI, 16, .inl (zA s1))), (a7, .inl (cI, 16, .inl (zA e1))), (q1, .inr (1, [.ref a0, .ref a1, .ref a2, .ref a3, .ref a4, .ref a5, .ref a6, .ref a7, .int (zI (zRp pg rw)), .int (zI (zRr rw)), .int (zI 0), .int (zI us), .int (zI be), .int (zI fi), .int (zI lo)]))]) rfl ?_
    refine zj_re [8, 0, 1, 2, 3, 4, 5, 6, 7] [(q1, .inr (1, [.ref a0, .ref a1, .ref a2, .ref a3, .ref a4, .ref a5, .ref a6, .ref a7, .int (zI (zRp pg rw)), .int (zI (zRr rw)), .int (zI 0), .int (zI us), .int (zI be), .int (zI fi), .int (zI lo)])), (a0, .inl (cI, 24, .inl (zA P1))), (a1, .inl (cI, 24, .inl (zA R1))), (a2, .inl (cI, 24, .inl (zA U1))), (a3, .inl (cI, 16, .inl (zA c1))), (a4, .inl (cI, 16, .inl (zA b1))), (a5, .inl (cI, 16, .inl (zA f1))), (a6, .inl (cI, 16, .inl (zA s1))), (a7, .inl (cI, 16, .inl (zA e1)))] (by decide) rfl ?_
    exact hL15 (zRp pg rw) (zRr rw) 0 (by show _ = (if 6 - un < w1 then (zRp pg rw, zRr rw, (0 : Int)) else (pg, rw, un)); split <;> first | rfl | omega) (by first | omega | (unfold zRp zRr; split <;> omega))
