def zGd (b : Int → Int) : Nat → Int | 0 => 0 | k + 1 => if zGd b k < zAbs (b (2 * k) - b (2 * k + 1)) then zAbs (b (2 * k) - b (2 * k + 1)) else zGd b k

theorem fl_X1_numberOfPage_21 : Cond.fieldLink RX1 21 "SplashPages$Layout" "pagePanels" "[I" ∈ wsX1_numberOfPage := by decide +kernel
theorem im_X1_numberOfPage_1 : ∀ w ∈ u_ws RX1 TX1 15, w ∈ wsX1_numberOfPage := by decide +kernel
theorem wn_X1_numberOfPage_RX4 : Cond.initialized RX4 ∈ wsX1_numberOfPage := by decide +kernel
theorem wst_X1_numberOfPage_X4_read : Cond.static yX4_read ∈ wsX1_numberOfPage := by decide +kernel
theorem fl_X1_numberOfPage_24 : Cond.fieldLink RX1 24 "SplashPages$Layout" "pageBeats" "[I" ∈ wsX1_numberOfPage := by decide +kernel
theorem fl_X1_numberOfPage_27 : Cond.fieldLink RX1 27 "SplashPages$Layout" "pageFilled" "[I" ∈ wsX1_numberOfPage := by decide +kernel
theorem fl_X1_numberOfPage_30 : Cond.fieldLink RX1 30 "SplashPages$Layout" "pageFirst" "[I" ∈ wsX1_numberOfPage := by decide +kernel
theorem fl_X1_numberOfPage_46 : Cond.fieldLink RX1 46 "SplashPages$Layout" "used" "I" ∈ wsX1_numberOfPage := by decide +kernel
theorem fl_X1_numberOfPage_33 : Cond.fieldLink RX1 33 "SplashPages$Layout" "pageBleeding" "[I" ∈ wsX1_numberOfPage := by decide +kernel
abbrev rm_X1_numberOfPage : Room := { frames := 1, cells := 0, slots := 0, locals := 21 }
set_option maxRecDepth 100000 in
set_option maxHeartbeats 4000000 in
theorem c_X1_numberOfPage (l : Launch) (D : va_G) (cI cS cJ : ClassId) (q1 : Nat) (a0 : Nat) (a1 : Nat) (a2 : Nat) (a3 : Nat) (a4 : Nat) (a5 : Nat) (a6 : Nat) (a7 : Nat) (pg : Int) (rw : Int) (un : Int) (us : Int) (be : Int) (fi : Int) (lo : Int) (c1 : Int → Int) (b1 : Int → Int) (f1 : Int → Int) (s1 : Int → Int) (e1 : Int → Int) (p1 : Int) (x1 : Int) (hp : 0 ≤ p1 ∧ p1 < 16) (hx : 0 ≤ x1 ∧ x1 ≤ 5) (hu : 0 ≤ us ∧ us ≤ 16) (hc : ∀ x, 0 ≤ c1 x ∧ c1 x ≤ 1000) : zMi l yX1_numberOfPage wsX1_numberOfPage rm_X1_numberOfPage D (zTy cI cS cJ) [.ref q1, .int (zI p1), .int (zI x1)] [(q1, .inr (1, [.ref a0, .ref a1, .ref a2, .ref a3, .ref a4, .ref a5, .ref a6, .ref a7, .int (zI pg), .int (zI rw), .int (zI un), .int (zI us), .int (zI be), .int (zI fi), .int (zI lo)])), (a3, .inl (cI, 16, .inl (zA c1))), (a4, .inl (cI, 16, .inl (zA b1))), (a5, .inl (cI, 16, .inl (zA f1))), (a6, .inl (cI, 16, .inl (zA s1))), (a7, .inl (cI, 16, .inl (zA e1)))] (fun r w => ∃ (v3 : Int), ∃ (v4 : Int), ((0 < c1 p1 ∧ v3 = s1 p1) ∨ (¬ 0 < c1 p1 ∧ v3 = -1)) ∧ ((¬ 0 < c1 p1 ∧ p1 < us ∧ v4 = 1) ∨ (¬ (¬ 0 < c1 p1 ∧ p1 < us) ∧ v4 = 0)) ∧ r = zI (zPgF x1 (c1 p1) (b1 p1) (24 - f1 p1) v3 v4 (e1 p1)) ∧ w = [(q1, .inr (1, [.ref a0, .ref a1, .ref a2, .ref a3, .ref a4, .ref a5, .ref a6, .ref a7, .int (zI pg), .int (zI rw), .int (zI un), .int (zI us), .int (zI be), .int (zI fi), .int (zI lo)])), (a3, .inl (cI, 16, .inl (zA c1))), (a4, .inl (cI, 16, .inl (zA b1))), (a5, .inl (cI, 16, .inl (zA f1))), (a6, .inl (cI, 16, .inl (zA s1))), (a7, .inl (cI, 16, .inl (zA e1)))]) 0 0 := by
  intro sz
  refine zMet_of (Qc := fun A => va_Qi _ (zB D (zTy cI cS cJ) A) A) RX1 [(0, .ref q1), (1, .int (zI p1)), (2, .int (zI x1))] rfl (by decide +kernel) rfl (Nat.le_of_ble_eq_true rfl) rfl ?_ sz
  intro p e s m args below meth c A Q hQ C hr hini
  have hcp := hc p1
  obtain ⟨v3, hv3⟩ : ∃ v3 : Int, (0 < c1 p1 ∧ v3 = s1 p1) ∨ (¬ 0 < c1 p1 ∧ v3 = -1) := by by_cases h : 0 < c1 p1; exact ⟨_, Or.inl ⟨h, rfl⟩⟩; exact ⟨_, Or.inr ⟨h, rfl⟩⟩
  obtain ⟨v4, hv4⟩ : ∃ v4 : Int, (¬ 0 < c1 p1 ∧ p1 < us ∧ v4 = 1) ∨ (¬ (¬ 0 < c1 p1 ∧ p1 < us) ∧ v4 = 0) := by by_cases h : ¬ 0 < c1 p1 ∧ p1 < us; exact ⟨1, Or.inl ⟨h.1, h.2, rfl⟩⟩; exact ⟨0, Or.inr ⟨h, rfl⟩⟩
  refine zj_iload_n 1 2 C dX1_numberOfPage_0 rfl rfl rfl ?_
  by_cases hx1 : x1 = 0
  · refine zj_tabIn (a := x1) (off := 35) 36 C (by omega) dX1_numberOfPage_1 (by omega) (by omega) (by rw [hx1]; rfl) (by decide) ?_
    refine zj_aload_n 37 0 C dX1_numberOfPage_36 rfl rfl rfl ?_
    refine zj_get 40 0 3 C (T := TX1) im_X1_numberOfPage_1 fl_X1_numberOfPage_21 rfl rfl (by decide) rfl rfl dX1_numberOfPage_37 rfl ?_
    refine zj_iload_n 41 1 C dX1_numberOfPage_40 rfl rfl rfl ?_
    refine zj_ci 44 [1] [0, 2, 3, 4, 5] C (wr := [(q1, .inr (1, [.ref a0, .ref a1, .ref a2, .ref a3, .ref a4, .ref a5, .ref a6, .ref a7, .int (zI pg), .int (zI rw), .int (zI un), .int (zI us), .int (zI be), .int (zI fi), .int (zI lo)])), (a4, .inl (cI, 16, .inl (zA b1))), (a5, .inl (cI, 16, .inl (zA f1))), (a6, .inl (cI, 16, .inl (zA s1))), (a7, .inl (cI, 16, .inl (zA e1)))]) (zr_SN [1] C (As := [.ref a3, .int (zI p1)]) (rest := []) (c_X4_read l D cI cS cJ a3 16 c1 p1 (by omega) (by omega)) (⟨va_cnB 2 C.1.2.2.2.2 gX1_numberOfPage_X4_read_n81 rfl rfl rfl (C.2.2.2.2.1 _ nm_RX1_81) (C.1.2.2.2.2 _ wn_X1_numberOfPage_RX4) (by decide +kernel) ⟨Nat.le_of_ble_eq_true rfl, Nat.le_of_ble_eq_true rfl⟩, C.1.2.2.2.2 _ wst_X1_numberOfPage_X4_read, trivial⟩) rfl (by decide) rfl rfl (Nat.le_of_ble_eq_true rfl) dX1_numberOfPage_41 ⟨Nat.le_of_ble_eq_true rfl, Nat.le_of_ble_eq_true rfl⟩) rfl rfl (by decide) (by decide) rfl (fun r_1 w_ hp_2 => ?_)
    obtain ⟨rfl, rfl⟩ := hp_2
    refine zj_ws (ws' := [(q1, .inr (1, [.ref a0, .ref a1, .ref a2, .ref a3, .ref a4, .ref a5, .ref a6, .ref a7, .int (zI pg), .int (zI rw), .int (zI un), .int (zI us), .int (zI be), .int (zI fi), .int (zI lo)])), (a4, .inl (cI, 16, .inl (zA b1))), (a5, .inl (cI, 16, .inl (zA f1))), (a6, .inl (cI, 16, .inl (zA s1))), (a7, .inl (cI, 16, .inl (zA e1))), (a3, .inl (cI, 16, .inl (zA c1)))]) rfl ?_
    refine zj_re [0, 5, 1, 2, 3, 4] [(q1, .inr (1, [.ref a0, .ref a1, .ref a2, .ref a3, .ref a4, .ref a5, .ref a6, .ref a7, .int (zI pg), .int (zI rw), .int (zI un), .int (zI us), .int (zI be), .int (zI fi), .int (zI lo)])), (a3, .inl (cI, 16, .inl (zA c1))), (a4, .inl (cI, 16, .inl (zA b1))), (a5, .inl (cI, 16, .inl (zA f1))), (a6, .inl (cI, 16, .inl (zA s1))), (a7, .inl (cI, 16, .inl (zA e1)))] (by decide) rfl ?_
    refine zj_st (st' := [.int (zI (zPgF x1 (c1 p1) (b1 p1) (24 - f1 p1) v3 v4 (e1 p1)))]) (by unfold zPgF; rw [if_pos hx1]) ?_
    subst hQ
    exact zj_ireturn C hr ⟨v3, v4, hv3, hv4, rfl, rfl⟩ (by decide) (by decide) dX1_numberOfPage_44
  by_cases hx1 : x1 = 1
  · refine zj_tabIn (a := x1) (off := 44) 45 C (by omega) dX1_numberOfPage_1 (by omega) (by omega) (by rw [hx1]; rfl) (by decide) ?_
    refine zj_aload_n 46 0 C dX1_numberOfPage_45 rfl rfl rfl ?_
    refine zj_get 49 0 4 C (T := TX1) im_X1_numberOfPage_1 fl_X1_numberOfPage_24 rfl rfl (by decide) rfl rfl dX1_numberOfPage_46 rfl ?_
    refine zj_iload_n 50 1 C dX1_numberOfPage_49 rfl rfl rfl ?_
    refine zj_ci 53 [2] [0, 1, 3, 4, 5] C (wr := [(q1, .inr (1, [.ref a0, .ref a1, .ref a2, .ref a3, .ref a4, .ref a5, .ref a6, .ref a7, .int (zI pg), .int (zI rw), .int (zI un), .int (zI us), .int (zI be), .int (zI fi), .int (zI lo)])), (a3, .inl (cI, 16, .inl (zA c1))), (a5, .inl (cI, 16, .inl (zA f1))), (a6, .inl (cI, 16, .inl (zA s1))), (a7, .inl (cI, 16, .inl (zA e1)))]) (zr_SN [2] C (As := [.ref a4, .int (zI p1)]) (rest := []) (c_X4_read l D cI cS cJ a4 16 b1 p1 (by omega) (by omega)) (⟨va_cnB 2 C.1.2.2.2.2 gX1_numberOfPage_X4_read_n81 rfl rfl rfl (C.2.2.2.2.1 _ nm_RX1_81) (C.1.2.2.2.2 _ wn_X1_numberOfPage_RX4) (by decide +kernel) ⟨Nat.le_of_ble_eq_true rfl, Nat.le_of_ble_eq_true rfl⟩, C.1.2.2.2.2 _ wst_X1_numberOfPage_X4_read, trivial⟩) rfl (by decide) rfl rfl (Nat.le_of_ble_eq_true rfl) dX1_numberOfPage_50 ⟨Nat.le_of_ble_eq_true rfl, Nat.le_of_ble_eq_true rfl⟩) rfl rfl (by decide) (by decide) rfl (fun r_3 w_ hp_4 => ?_)
    obtain ⟨rfl, rfl⟩ := hp_4
    refine zj_ws (ws' := [(q1, .inr (1, [.ref a0, .ref a1, .ref a2, .ref a3, .ref a4, .ref a5, .ref a6, .ref a7, .int (zI pg), .int (zI rw), .int (zI un), .int (zI us), .int (zI be), .int (zI fi), .int (zI lo)])), (a3, .inl (cI, 16, .inl (zA c1))), (a5, .inl (cI, 16, .inl (zA f1))), (a6, .inl (cI, 16, .inl (zA s1))), (a7, .inl (cI, 16, .inl (zA e1))), (a4, .inl (cI, 16, .inl (zA b1)))]) rfl ?_
    refine zj_re [0, 1, 5, 2, 3, 4] [(q1, .inr (1, [.ref a0, .ref a1, .ref a2, .ref a3, .ref a4, .ref a5, .ref a6, .ref a7, .int (zI pg), .int (zI rw), .int (zI un), .int (zI us), .int (zI be), .int (zI fi), .int (zI lo)])), (a3, .inl (cI, 16, .inl (zA c1))), (a4, .inl (cI, 16, .inl (zA b1))), (a5, .inl (cI, 16, .inl (zA f1))), (a6, .inl (cI, 16, .inl (zA s1))), (a7, .inl (cI, 16, .inl (zA e1)))] (by decide) rfl ?_
    refine zj_st (st' := [.int (zI (zPgF x1 (c1 p1) (b1 p1) (24 - f1 p1) v3 v4 (e1 p1)))]) (by unfold zPgF; rw [if_neg (by omega), if_pos hx1]) ?_
    subst hQ
    exact zj_ireturn C hr ⟨v3, v4, hv3, hv4, rfl, rfl⟩ (by decide) (by decide) dX1_numberOfPage_53
  by_cases hx1 : x1 = 2
  · refine zj_tabIn (a := x1) (off := 53) 54 C (by omega) dX1_numberOfPage_1 (by omega) (by omega) (by rw [hx1]; rfl) (by decide) ?_
    refine zj_bipush 56 C dX1_numberOfPage_54 rfl rfl ?_
    refine zj_aload_n 57 0 C dX1_numberOfPage_56 rfl rfl rfl ?_
    refine zj_get 60 0 5 C (T := TX1) im_X1_numberOfPage_1 fl_X1_numberOfPage_27 rfl rfl (by decide) rfl rfl dX1_numberOfPage_57 rfl ?_
    refine zj_iload_n 61 1 C dX1_numberOfPage_60 rfl rfl rfl ?_
    refine zj_ci 64 [3] [0, 1, 2, 4, 5] C (wr := [(q1, .inr (1, [.ref a0, .ref a1, .ref a2, .ref a3, .ref a4, .ref a5, .ref a6, .ref a7, .int (zI pg), .int (zI rw), .int (zI un), .int (zI us), .int (zI be), .int (zI fi), .int (zI lo)])), (a3, .inl (cI, 16, .inl (zA c1))), (a4, .inl (cI, 16, .inl (zA b1))), (a6, .inl (cI, 16, .inl (zA s1))), (a7, .inl (cI, 16, .inl (zA e1)))]) (zr_SN [3] C (As := [.ref a5, .int (zI p1)]) (rest := [.int (zI 24)]) (c_X4_read l D cI cS cJ a5 16 f1 p1 (by omega) (by omega)) (⟨va_cnB 2 C.1.2.2.2.2 gX1_numberOfPage_X4_read_n81 rfl rfl rfl (C.2.2.2.2.1 _ nm_RX1_81) (C.1.2.2.2.2 _ wn_X1_numberOfPage_RX4) (by decide +kernel) ⟨Nat.le_of_ble_eq_true rfl, Nat.le_of_ble_eq_true rfl⟩, C.1.2.2.2.2 _ wst_X1_numberOfPage_X4_read, trivial⟩) rfl (by decide) rfl rfl (Nat.le_of_ble_eq_true rfl) dX1_numberOfPage_61 ⟨Nat.le_of_ble_eq_true rfl, Nat.le_of_ble_eq_true rfl⟩) rfl rfl (by decide) (by decide) rfl (fun r_5 w_ hp_6 => ?_)
    obtain ⟨rfl, rfl⟩ := hp_6
    refine zj_ws (ws' := [(q1, .inr (1, [.ref a0, .ref a1, .ref a2, .ref a3, .ref a4, .ref a5, .ref a6, .ref a7, .int (zI pg), .int (zI rw), .int (zI un), .int (zI us), .int (zI be), .int (zI fi), .int (zI lo)])), (a3, .inl (cI, 16, .inl (zA c1))), (a4, .inl (cI, 16, .inl (zA b1))), (a6, .inl (cI, 16, .inl (zA s1))), (a7, .inl (cI, 16, .inl (zA e1))), (a5, .inl (cI, 16, .inl (zA f1)))]) rfl ?_
    refine zj_isub 65 C dX1_numberOfPage_64 rfl ?_
    refine zj_re [0, 1, 2, 5, 3, 4] [(q1, .inr (1, [.ref a0, .ref a1, .ref a2, .ref a3, .ref a4, .ref a5, .ref a6, .ref a7, .int (zI pg), .int (zI rw), .int (zI un), .int (zI us), .int (zI be), .int (zI fi), .int (zI lo)])), (a3, .inl (cI, 16, .inl (zA c1))), (a4, .inl (cI, 16, .inl (zA b1))), (a5, .inl (cI, 16, .inl (zA f1))), (a6, .inl (cI, 16, .inl (zA s1))), (a7, .inl (cI, 16, .inl (zA e1)))] (by decide) rfl ?_
    refine zj_st (st' := [.int (zI (zPgF x1 (c1 p1) (b1 p1) (24 - f1 p1) v3 v4 (e1 p1)))]) (by unfold zPgF; rw [if_neg (by omega), if_neg (by omega), if_pos hx1]) ?_
    subst hQ
    exact zj_ireturn C hr ⟨v3, v4, hv3, hv4, rfl, rfl⟩ (by decide) (by decide) dX1_numberOfPage_65
  by_cases hx1 : x1 = 3
  · refine zj_tabIn (a := x1) (off := 65) 66 C (by omega) dX1_numberOfPage_1 (by omega) (by omega) (by rw [hx1]; rfl) (by decide) ?_
    refine zj_aload_n 67 0 C dX1_numberOfPage_66 rfl rfl rfl ?_
    refine zj_iload_n 68 1 C dX1_numberOfPage_67 rfl rfl rfl ?_
    refine zj_ci 71 [0, 1] [2, 3, 4, 5] C (wr := [(a4, .inl (cI, 16, .inl (zA b1))), (a5, .inl (cI, 16, .inl (zA f1))), (a6, .inl (cI, 16, .inl (zA s1))), (a7, .inl (cI, 16, .inl (zA e1)))]) (zr_V [0, 1] C (As := [.int (zI p1)]) (rest := []) (c_X1_isBearing l D cI cS cJ q1 a0 a1 a2 a3 a4 a5 a6 a7 pg rw un us be fi lo c1 p1 (by omega) hc) (cwV 1 C.1.2.2.2.2 gX1_numberOfPage_X1_isBearing rfl rfl rfl (by decide +kernel) ⟨Nat.le_of_ble_eq_true rfl, Nat.le_of_ble_eq_true rfl⟩) rfl (by decide) 0 rfl rfl rfl rfl (Nat.le_of_ble_eq_true rfl) dX1_numberOfPage_68 ⟨Nat.le_of_ble_eq_true rfl, Nat.le_of_ble_eq_true rfl⟩) rfl rfl (by decide) (by decide) rfl (fun r_7 w_ hp_8 => ?_)
    obtain ⟨r1_9, fb, rfl, rfl⟩ := hp_8
    refine zj_ws (ws' := [(a4, .inl (cI, 16, .inl (zA b1))), (a5, .inl (cI, 16, .inl (zA f1))), (a6, .inl (cI, 16, .inl (zA s1))), (a7, .inl (cI, 16, .inl (zA e1))), (q1, .inr (1, [.ref a0, .ref a1, .ref a2, .ref a3, .ref a4, .ref a5, .ref a6, .ref a7, .int (zI pg), .int (zI rw), .int (zI un), .int (zI us), .int (zI be), .int (zI fi), .int (zI lo)])), (a3, .inl (cI, 16, .inl (zA c1)))]) rfl ?_
    refine zj_if_eq 74 85 C (by omega) dX1_numberOfPage_71 rfl (by decide) (fun h_10 => ?_) (fun h_10 => ?_)
    · skip
      refine zj_iconst 86 C dX1_numberOfPage_85 rfl ?_
      refine zj_re [4, 5, 0, 1, 2, 3] [(q1, .inr (1, [.ref a0, .ref a1, .ref a2, .ref a3, .ref a4, .ref a5, .ref a6, .ref a7, .int (zI pg), .int (zI rw), .int (zI un), .int (zI us), .int (zI be), .int (zI fi), .int (zI lo)])), (a3, .inl (cI, 16, .inl (zA c1))), (a4, .inl (cI, 16, .inl (zA b1))), (a5, .inl (cI, 16, .inl (zA f1))), (a6, .inl (cI, 16, .inl (zA s1))), (a7, .inl (cI, 16, .inl (zA e1)))] (by decide) rfl ?_
      refine zj_st (st' := [.int (zI (zPgF x1 (c1 p1) (b1 p1) (24 - f1 p1) v3 v4 (e1 p1)))]) (by rw [show zPgF x1 (c1 p1) (b1 p1) (24 - f1 p1) v3 v4 (e1 p1) = -1 from by unfold zPgF; rw [if_neg (by omega), if_neg (by omega), if_neg (by omega), if_pos hx1]; omega]) ?_
      subst hQ
      exact zj_ireturn C hr ⟨v3, v4, hv3, hv4, rfl, rfl⟩ (by decide) (by decide) dX1_numberOfPage_86
    · skip
      refine zj_aload_n 75 0 C dX1_numberOfPage_74 rfl rfl rfl ?_
      refine zj_get 78 4 6 C (T := TX1) im_X1_numberOfPage_1 fl_X1_numberOfPage_30 rfl rfl (by decide) rfl rfl dX1_numberOfPage_75 rfl ?_
      refine zj_iload_n 79 1 C dX1_numberOfPage_78 rfl rfl rfl ?_
      refine zj_ci 82 [2] [0, 1, 3, 4, 5] C (wr := [(a4, .inl (cI, 16, .inl (zA b1))), (a5, .inl (cI, 16, .inl (zA f1))), (a7, .inl (cI, 16, .inl (zA e1))), (q1, .inr (1, [.ref a0, .ref a1, .ref a2, .ref a3, .ref a4, .ref a5, .ref a6, .ref a7, .int (zI pg), .int (zI rw), .int (zI un), .int (zI us), .int (zI be), .int (zI fi), .int (zI lo)])), (a3, .inl (cI, 16, .inl (zA c1)))]) (zr_SN [2] C (As := [.ref a6, .int (zI p1)]) (rest := []) (c_X4_read l D cI cS cJ a6 16 s1 p1 (by omega) (by omega)) (⟨va_cnB 2 C.1.2.2.2.2 gX1_numberOfPage_X4_read_n81 rfl rfl rfl (C.2.2.2.2.1 _ nm_RX1_81) (C.1.2.2.2.2 _ wn_X1_numberOfPage_RX4) (by decide +kernel) ⟨Nat.le_of_ble_eq_true rfl, Nat.le_of_ble_eq_true rfl⟩, C.1.2.2.2.2 _ wst_X1_numberOfPage_X4_read, trivial⟩) rfl (by decide) rfl rfl (Nat.le_of_ble_eq_true rfl) dX1_numberOfPage_79 ⟨Nat.le_of_ble_eq_true rfl, Nat.le_of_ble_eq_true rfl⟩) rfl rfl (by decide) (by decide) rfl (fun r_11 w_ hp_12 => ?_)
      obtain ⟨rfl, rfl⟩ := hp_12
      refine zj_ws (ws' := [(a4, .inl (cI, 16, .inl (zA b1))), (a5, .inl (cI, 16, .inl (zA f1))), (a7, .inl (cI, 16, .inl (zA e1))), (q1, .inr (1, [.ref a0, .ref a1, .ref a2, .ref a3, .ref a4, .ref a5, .ref a6, .ref a7, .int (zI pg), .int (zI rw), .int (zI un), .int (zI us), .int (zI be), .int (zI fi), .int (zI lo)])), (a3, .inl (cI, 16, .inl (zA c1))), (a6, .inl (cI, 16, .inl (zA s1)))]) rfl ?_
      refine zj_goto 86 C dX1_numberOfPage_82 (by decide) ?_
      refine zj_re [3, 4, 0, 1, 5, 2] [(q1, .inr (1, [.ref a0, .ref a1, .ref a2, .ref a3, .ref a4, .ref a5, .ref a6, .ref a7, .int (zI pg), .int (zI rw), .int (zI un), .int (zI us), .int (zI be), .int (zI fi), .int (zI lo)])), (a3, .inl (cI, 16, .inl (zA c1))), (a4, .inl (cI, 16, .inl (zA b1))), (a5, .inl (cI, 16, .inl (zA f1))), (a6, .inl (cI, 16, .inl (zA s1))), (a7, .inl (cI, 16, .inl (zA e1)))] (by decide) rfl ?_
      refine zj_st (st' := [.int (zI (zPgF x1 (c1 p1) (b1 p1) (24 - f1 p1) v3 v4 (e1 p1)))]) (by rw [show zPgF x1 (c1 p1) (b1 p1) (24 - f1 p1) v3 v4 (e1 p1) = s1 p1 from by unfold zPgF; rw [if_neg (by omega), if_neg (by omega), if_neg (by omega), if_pos hx1]; omega]) ?_
      subst hQ
      exact zj_ireturn C hr ⟨v3, v4, hv3, hv4, rfl, rfl⟩ (by decide) (by decide) dX1_numberOfPage_86
  by_cases hx1 : x1 = 4
  · refine zj_tabIn (a := x1) (off := 86) 87 C (by omega) dX1_numberOfPage_1 (by omega) (by omega) (by rw [hx1]; rfl) (by decide) ?_
    refine zj_iload_n 88 1 C dX1_numberOfPage_87 rfl rfl rfl ?_
    refine zj_aload_n 89 0 C dX1_numberOfPage_88 rfl rfl rfl ?_
    refine zj_get 92 0 11 C (T := TX1) im_X1_numberOfPage_1 fl_X1_numberOfPage_46 rfl rfl (by decide) rfl rfl dX1_numberOfPage_89 rfl ?_
    refine zj_icmp_ge 95 107 C (by omega) (by omega) dX1_numberOfPage_92 rfl (by decide) (fun h_13 => ?_) (fun h_13 => ?_)
    · skip
      refine zj_iconst 108 C dX1_numberOfPage_107 rfl ?_
      refine zj_st (st' := [.int (zI (zPgF x1 (c1 p1) (b1 p1) (24 - f1 p1) v3 v4 (e1 p1)))]) (by rw [show zPgF x1 (c1 p1) (b1 p1) (24 - f1 p1) v3 v4 (e1 p1) = 0 from by unfold zPgF; rw [if_neg (by omega), if_neg (by omega), if_neg (by omega), if_neg (by omega), if_pos hx1]; omega]) ?_
      subst hQ
      exact zj_ireturn C hr ⟨v3, v4, hv3, hv4, rfl, rfl⟩ (by decide) (by decide) dX1_numberOfPage_108
    · skip
      refine zj_aload_n 96 0 C dX1_numberOfPage_95 rfl rfl rfl ?_
      refine zj_iload_n 97 1 C dX1_numberOfPage_96 rfl rfl rfl ?_
      refine zj_ci 100 [0, 1] [2, 3, 4, 5] C (wr := [(a4, .inl (cI, 16, .inl (zA b1))), (a5, .inl (cI, 16, .inl (zA f1))), (a6, .inl (cI, 16, .inl (zA s1))), (a7, .inl (cI, 16, .inl (zA e1)))]) (zr_V [0, 1] C (As := [.int (zI p1)]) (rest := []) (c_X1_isBearing l D cI cS cJ q1 a0 a1 a2 a3 a4 a5 a6 a7 pg rw un us be fi lo c1 p1 (by omega) hc) (cwV 1 C.1.2.2.2.2 gX1_numberOfPage_X1_isBearing rfl rfl rfl (by decide +kernel) ⟨Nat.le_of_ble_eq_true rfl, Nat.le_of_ble_eq_true rfl⟩) rfl (by decide) 0 rfl rfl rfl rfl (Nat.le_of_ble_eq_true rfl) dX1_numberOfPage_97 ⟨Nat.le_of_ble_eq_true rfl, Nat.le_of_ble_eq_true rfl⟩) rfl rfl (by decide) (by decide) rfl (fun r_14 w_ hp_15 => ?_)
      obtain ⟨r1_16, fb, rfl, rfl⟩ := hp_15
      refine zj_ws (ws' := [(a4, .inl (cI, 16, .inl (zA b1))), (a5, .inl (cI, 16, .inl (zA f1))), (a6, .inl (cI, 16, .inl (zA s1))), (a7, .inl (cI, 16, .inl (zA e1))), (q1, .inr (1, [.ref a0, .ref a1, .ref a2, .ref a3, .ref a4, .ref a5, .ref a6, .ref a7, .int (zI pg), .int (zI rw), .int (zI un), .int (zI us), .int (zI be), .int (zI fi), .int (zI lo)])), (a3, .inl (cI, 16, .inl (zA c1)))]) rfl ?_
      refine zj_if_ne 103 107 C (by omega) dX1_numberOfPage_100 rfl (by decide) (fun h_17 => ?_) (fun h_17 => ?_)
      · skip
        refine zj_iconst 108 C dX1_numberOfPage_107 rfl ?_
        refine zj_re [4, 5, 0, 1, 2, 3] [(q1, .inr (1, [.ref a0, .ref a1, .ref a2, .ref a3, .ref a4, .ref a5, .ref a6, .ref a7, .int (zI pg), .int (zI rw), .int (zI un), .int (zI us), .int (zI be), .int (zI fi), .int (zI lo)])), (a3, .inl (cI, 16, .inl (zA c1))), (a4, .inl (cI, 16, .inl (zA b1))), (a5, .inl (cI, 16, .inl (zA f1))), (a6, .inl (cI, 16, .inl (zA s1))), (a7, .inl (cI, 16, .inl (zA e1)))] (by decide) rfl ?_
        refine zj_st (st' := [.int (zI (zPgF x1 (c1 p1) (b1 p1) (24 - f1 p1) v3 v4 (e1 p1)))]) (by rw [show zPgF x1 (c1 p1) (b1 p1) (24 - f1 p1) v3 v4 (e1 p1) = 0 from by unfold zPgF; rw [if_neg (by omega), if_neg (by omega), if_neg (by omega), if_neg (by omega), if_pos hx1]; omega]) ?_
        subst hQ
        exact zj_ireturn C hr ⟨v3, v4, hv3, hv4, rfl, rfl⟩ (by decide) (by decide) dX1_numberOfPage_108
      · skip
        refine zj_iconst 104 C dX1_numberOfPage_103 rfl ?_
        refine zj_goto 108 C dX1_numberOfPage_104 (by decide) ?_
        refine zj_re [4, 5, 0, 1, 2, 3] [(q1, .inr (1, [.ref a0, .ref a1, .ref a2, .ref a3, .ref a4, .ref a5, .ref a6, .ref a7, .int (zI pg), .int (zI rw), .int (zI un), .int (zI us), .int (zI be), .int (zI fi), .int (zI lo)])), (a3, .inl (cI, 16, .inl (zA c1))), (a4, .inl (cI, 16, .inl (zA b1))), (a5, .inl (cI, 16, .inl (zA f1))), (a6, .inl (cI, 16, .inl (zA s1))), (a7, .inl (cI, 16, .inl (zA e1)))] (by decide) rfl ?_
        refine zj_st (st' := [.int (zI (zPgF x1 (c1 p1) (b1 p1) (24 - f1 p1) v3 v4 (e1 p1)))]) (by rw [show zPgF x1 (c1 p1) (b1 p1) (24 - f1 p1) v3 v4 (e1 p1) = 1 from by unfold zPgF; rw [if_neg (by omega), if_neg (by omega), if_neg (by omega), if_neg (by omega), if_pos hx1]; omega]) ?_
        subst hQ
        exact zj_ireturn C hr ⟨v3, v4, hv3, hv4, rfl, rfl⟩ (by decide) (by decide) dX1_numberOfPage_108
  refine zj_tabOut (a := x1) 109 C (by omega) dX1_numberOfPage_1 (by omega) (by decide) ?_
  refine zj_aload_n 110 0 C dX1_numberOfPage_109 rfl rfl rfl ?_
  refine zj_get 113 0 7 C (T := TX1) im_X1_numberOfPage_1 fl_X1_numberOfPage_33 rfl rfl (by decide) rfl rfl dX1_numberOfPage_110 rfl ?_
  refine zj_iload_n 114 1 C dX1_numberOfPage_113 rfl rfl rfl ?_
  refine zj_ci 117 [5] [0, 1, 2, 3, 4] C (wr := [(q1, .inr (1, [.ref a0, .ref a1, .ref a2, .ref a3, .ref a4, .ref a5, .ref a6, .ref a7, .int (zI pg), .int (zI rw), .int (zI un), .int (zI us), .int (zI be), .int (zI fi), .int (zI lo)])), (a3, .inl (cI, 16, .inl (zA c1))), (a4, .inl (cI, 16, .inl (zA b1))), (a5, .inl (cI, 16, .inl (zA f1))), (a6, .inl (cI, 16, .inl (zA s1)))]) (zr_SN [5] C (As := [.ref a7, .int (zI p1)]) (rest := []) (c_X4_read l D cI cS cJ a7 16 e1 p1 (by omega) (by omega)) (⟨va_cnB 2 C.1.2.2.2.2 gX1_numberOfPage_X4_read_n81 rfl rfl rfl (C.2.2.2.2.1 _ nm_RX1_81) (C.1.2.2.2.2 _ wn_X1_numberOfPage_RX4) (by decide +kernel) ⟨Nat.le_of_ble_eq_true rfl, Nat.le_of_ble_eq_true rfl⟩, C.1.2.2.2.2 _ wst_X1_numberOfPage_X4_read, trivial⟩) rfl (by decide) rfl rfl (Nat.le_of_ble_eq_true rfl) dX1_numberOfPage_114 ⟨Nat.le_of_ble_eq_true rfl, Nat.le_of_ble_eq_true rfl⟩) rfl rfl (by decide) (by decide) rfl (fun r_18 w_ hp_19 => ?_)
  obtain ⟨rfl, rfl⟩ := hp_19
  refine zj_ws (ws' := [(q1, .inr (1, [.ref a0, .ref a1, .ref a2, .ref a3, .ref a4, .ref a5, .ref a6, .ref a7, .int (zI pg), .int (zI rw), .int (zI un), .int (zI us), .int (zI be), .int (zI fi), .int (zI lo)])), (a3, .inl (cI, 16, .inl (zA c1))), (a4, .inl (cI, 16, .inl (zA b1))), (a5, .inl (cI, 16, .inl (zA f1))), (a6, .inl (cI, 16, .inl (zA s1))), (a7, .inl (cI, 16, .inl (zA e1)))]) rfl ?_
  refine zj_st (st' := [.int (zI (zPgF x1 (c1 p1) (b1 p1) (24 - f1 p1) v3 v4 (e1 p1)))]) (by unfold zPgF; rw [if_neg (by omega), if_neg (by omega), if_neg (by omega), if_neg (by omega), if_neg (by omega)]) ?_
  subst hQ
  exact zj_ireturn C hr ⟨v3, v4, hv3, hv4, rfl, rfl⟩ (by decide) (by decide) dX1_numberOfPage_117

theorem fl_X1_emptyUnits_49 : Cond.fieldLink RX1 49 "SplashPages$Layout" "bearing" "I" ∈ wsX1_emptyUnits := by decide +kernel
theorem im_X1_emptyUnits_1 : ∀ w ∈ u_ws RX1 TX1 15, w ∈ wsX1_emptyUnits := by decide +kernel
theorem fl_X1_emptyUnits_52 : Cond.fieldLink RX1 52 "SplashPages$Layout" "filled" "I" ∈ wsX1_emptyUnits := by decide +kernel
abbrev rm_X1_emptyUnits : Room := { frames := 0, cells := 0, slots := 0, locals := 0 }
set_option maxRecDepth 100000 in
set_option maxHeartbeats 4000000 in
theorem c_X1_emptyUnits (l : Launch) (D : va_G) (cI cS cJ : ClassId) (q1 : Nat) (a0 : Nat) (a1 : Nat) (a2 : Nat) (a3 : Nat) (a4 : Nat) (a5 : Nat) (a6 : Nat) (a7 : Nat) (pg : Int) (rw : Int) (un : Int) (us : Int) (be : Int) (fi : Int) (lo : Int) : zMi l yX1_emptyUnits wsX1_emptyUnits rm_X1_emptyUnits D (zTy cI cS cJ) [.ref q1] [(q1, .inr (1, [.ref a0, .ref a1, .ref a2, .ref a3, .ref a4, .ref a5, .ref a6, .ref a7, .int (zI pg), .int (zI rw), .int (zI un), .int (zI us), .int (zI be), .int (zI fi), .int (zI lo)]))] (fun r w => r = zI (be * 24 - fi) ∧ w = [(q1, .inr (1, [.ref a0, .ref a1, .ref a2, .ref a3, .ref a4, .ref a5, .ref a6, .ref a7, .int (zI pg), .int (zI rw), .int (zI un), .int (zI us), .int (zI be), .int (zI fi), .int (zI lo)]))]) 0 0 := by
  intro sz
  refine zMet_of (Qc := fun A => va_Qi _ (zB D (zTy cI cS cJ) A) A) RX1 [(0, .ref q1)] rfl (by decide +kernel) rfl (Nat.le_of_ble_eq_true rfl) rfl ?_ sz
  intro p e s m args below meth c A Q hQ C hr hini
  refine zj_aload_n 1 0 C dX1_emptyUnits_0 rfl rfl rfl ?_
  refine zj_get 4 0 12 C (T := TX1) im_X1_emptyUnits_1 fl_X1_emptyUnits_49 rfl rfl (by decide) rfl rfl dX1_emptyUnits_1 rfl ?_
  refine zj_bipush 6 C dX1_emptyUnits_4 rfl rfl ?_
  refine zj_imul 7 C dX1_emptyUnits_6 rfl ?_
  refine zj_aload_n 8 0 C dX1_emptyUnits_7 rfl rfl rfl ?_
  refine zj_get 11 0 13 C (T := TX1) im_X1_emptyUnits_1 fl_X1_emptyUnits_52 rfl rfl (by decide) rfl rfl dX1_emptyUnits_8 rfl ?_
  refine zj_isub 12 C dX1_emptyUnits_11 rfl ?_
  refine zj_st (st' := [.int (zI (be * 24 - fi))]) (by rfl) ?_
  subst hQ
  exact zj_ireturn C hr ⟨rfl, rfl⟩ (by decide) (by decide) dX1_emptyUnits_12

theorem fl_X1_greatestBeats_24 : Cond.fieldLink RX1 24 "SplashPages$Layout" "pageBeats" "[I" ∈ wsX1_greatestBeats := by decide +kernel
theorem im_X1_greatestBeats_1 : ∀ w ∈ u_ws RX1 TX1 15, w ∈ wsX1_greatestBeats := by decide +kernel
theorem wl_X1_greatestBeats_123 : Cond.methodLink RX1 123 Lib.Math.max.name ∈ wsX1_greatestBeats := by decide +kernel
theorem wms_X1_greatestBeats_max : Cond.static Lib.Math.max.name ∈ wsX1_greatestBeats := by decide +kernel
theorem wmi_X1_greatestBeats : Cond.initialized "java/lang/Math" ∈ wsX1_greatestBeats := by decide +kernel
theorem wmc_X1_greatestBeats_max : Cond.code Lib.Math.max.name Lib.Math.max.code 2 (some .int) ∈ wsX1_greatestBeats := by decide +kernel
abbrev rm_X1_greatestBeats : Room := { frames := 1, cells := 0, slots := 0, locals := 13 }
set_option maxRecDepth 100000 in
set_option maxHeartbeats 4000000 in
theorem c_X1_greatestBeats (l : Launch) (D : va_G) (cI cS cJ : ClassId) (q1 : Nat) (a0 : Nat) (a1 : Nat) (a2 : Nat) (a3 : Nat) (a4 : Nat) (a5 : Nat) (a6 : Nat) (a7 : Nat) (pg : Int) (rw : Int) (un : Int) (us : Int) (be : Int) (fi : Int) (lo : Int) (b1 : Int → Int) (hb : ∀ x, 0 ≤ b1 x ∧ b1 x ≤ 10000) : zMi l yX1_greatestBeats wsX1_greatestBeats rm_X1_greatestBeats D (zTy cI cS cJ) [.ref q1] [(q1, .inr (1, [.ref a0, .ref a1, .ref a2, .ref a3, .ref a4, .ref a5, .ref a6, .ref a7, .int (zI pg), .int (zI rw), .int (zI un), .int (zI us), .int (zI be), .int (zI fi), .int (zI lo)])), (a4, .inl (cI, 16, .inl (zA b1)))] (fun r w => r = zI (zMx b1 16) ∧ w = [(q1, .inr (1, [.ref a0, .ref a1, .ref a2, .ref a3, .ref a4, .ref a5, .ref a6, .ref a7, .int (zI pg), .int (zI rw), .int (zI un), .int (zI us), .int (zI be), .int (zI fi), .int (zI lo)])), (a4, .inl (cI, 16, .inl (zA b1)))]) 0 0 := by
  intro sz
  refine zMet_of (Qc := fun A => va_Qi _ (zB D (zTy cI cS cJ) A) A) RX1 [(0, .ref q1)] rfl (by decide +kernel) rfl (Nat.le_of_ble_eq_true rfl) rfl ?_ sz
  intro p e s m args below meth c A Q hQ C hr hini
  refine zj_iconst 1 C dX1_greatestBeats_0 rfl ?_
  refine zj_istore_n 2 [(1, .int (zI 0)), (0, .ref q1)] C dX1_greatestBeats_1 rfl rfl (by decide) rfl ?_
  refine zj_iconst 3 C dX1_greatestBeats_2 rfl ?_
  refine zj_istore_n 4 [(2, .int (zI 0)), (1, .int (zI 0)), (0, .ref q1)] C dX1_greatestBeats_3 rfl rfl (by decide) rfl ?_
  have hL4 : ∀ (N : Nat) (k : Nat) (ac : Int), ((k : Int) ≤ 16) → (0 ≤ ac ∧ ac ≤ 10000) → (ac = zMx b1 k) → (16 - (k : Int) < N) → zJ p l e rm_X1_greatestBeats s m args below meth c Q D A 3 [(q1, .inr (1, [.ref a0, .ref a1, .ref a2, .ref a3, .ref a4, .ref a5, .ref a6, .ref a7, .int (zI pg), .int (zI rw), .int (zI un), .int (zI us), .int (zI be), .int (zI fi), .int (zI lo)])), (a4, .inl (cI, 16, .inl (zA b1)))] 0 0 [(0, .ref q1), (1, .int (zI ac)), (2, .int (zI (k : Int)))] 4 [] := by
    intro N
    induction N with
    | zero => intro k ac hk hac hr0 hN; exact absurd hN (by omega)
    | succ N ih =>
      intro k ac hk hac hr0 hN
      refine zj_iload_n 5 2 C dX1_greatestBeats_4 rfl rfl rfl ?_
      refine zj_bipush 7 C dX1_greatestBeats_5 rfl rfl ?_
      refine zj_icmp_ge 10 27 C (by omega) (by omega) dX1_greatestBeats_7 rfl (by decide) (fun h_1 => ?_) (fun h_1 => ?_)
      · skip
        refine zj_iload_n 28 1 C dX1_greatestBeats_27 rfl rfl rfl ?_
        refine zj_st (st' := [.int (zI (zMx b1 16))]) (by rw [hr0, show k = 16 by omega]) ?_
        subst hQ
        exact zj_ireturn C hr ⟨rfl, rfl⟩ (by decide) (by decide) dX1_greatestBeats_28
      · skip
        have hbk := hb k
        refine zj_iload_n 11 1 C dX1_greatestBeats_10 rfl rfl rfl ?_
        refine zj_aload_n 12 0 C dX1_greatestBeats_11 rfl rfl rfl ?_
        refine zj_get 15 0 4 C (T := TX1) im_X1_greatestBeats_1 fl_X1_greatestBeats_24 rfl rfl (by decide) rfl rfl dX1_greatestBeats_12 rfl ?_
        refine zj_iload_n 16 2 C dX1_greatestBeats_15 rfl rfl rfl ?_
        refine zj_iald 17 1 C (by omega) (by omega) rfl rfl dX1_greatestBeats_16 rfl ?_
        refine zj_max 20 C (by omega) (by omega) wl_X1_greatestBeats_123 wms_X1_greatestBeats_max wmi_X1_greatestBeats wmc_X1_greatestBeats_max (Nat.le_of_ble_eq_true rfl) (Nat.le_of_ble_eq_true rfl) ⟨Nat.le_of_ble_eq_true rfl, Nat.le_of_ble_eq_true rfl⟩ dX1_greatestBeats_17 rfl ?_
        refine zj_istore_n 21 [(1, .int (zI (if ac < (b1 (k : Int)) then (b1 (k : Int)) else ac))), (0, .ref q1), (2, .int (zI (k : Int)))] C dX1_greatestBeats_20 rfl rfl (by decide) rfl ?_
        refine zj_iinc 24 2 [(2, .int (zI ((k : Int) + 1))), (1, .int (zI (if ac < (b1 (k : Int)) then (b1 (k : Int)) else ac))), (0, .ref q1)] C dX1_greatestBeats_21 rfl rfl (by decide) rfl ?_
        refine zj_goto 4 C dX1_greatestBeats_24 (by decide) ?_
        refine zj_lv [2, 1, 0] [(0, .ref q1), (1, .int (zI (if ac < (b1 (k : Int)) then (b1 (k : Int)) else ac))), (2, .int (zI ((k : Int) + 1)))] rfl ?_
        refine zj_eqlv (lv' := [(0, .ref q1), (1, .int (zI (if ac < (b1 (k : Int)) then (b1 (k : Int)) else ac))), (2, .int (zI ((k + 1) : Int)))]) (by rfl) ?_
        exact ih (k + 1) (if ac < (b1 (k : Int)) then (b1 (k : Int)) else ac) (by omega) (by split <;> omega) (by rw [zMx, ← hr0]) (by omega)
  refine zj_lv [2, 1, 0] [(0, .ref q1), (1, .int (zI 0)), (2, .int (zI 0))] rfl ?_
  refine zj_eqlv (lv' := [(0, .ref q1), (1, .int (zI 0)), (2, .int (zI (0 : Int)))]) (by rfl) ?_
  exact hL4 (17) 0 0 (by omega) (by omega) (rfl) (by omega)

theorem fl_X1_greatestDifference_24 : Cond.fieldLink RX1 24 "SplashPages$Layout" "pageBeats" "[I" ∈ wsX1_greatestDifference := by decide +kernel
theorem im_X1_greatestDifference_1 : ∀ w ∈ u_ws RX1 TX1 15, w ∈ wsX1_greatestDifference := by decide +kernel
theorem wl_X1_greatestDifference_129 : Cond.methodLink RX1 129 Lib.Math.abs.name ∈ wsX1_greatestDifference := by decide +kernel
theorem wms_X1_greatestDifference_abs : Cond.static Lib.Math.abs.name ∈ wsX1_greatestDifference := by decide +kernel
theorem wmi_X1_greatestDifference : Cond.initialized "java/lang/Math" ∈ wsX1_greatestDifference := by decide +kernel
theorem wmc_X1_greatestDifference_abs : Cond.code Lib.Math.abs.name Lib.Math.abs.code 1 (some .int) ∈ wsX1_greatestDifference := by decide +kernel
theorem wl_X1_greatestDifference_123 : Cond.methodLink RX1 123 Lib.Math.max.name ∈ wsX1_greatestDifference := by decide +kernel
theorem wms_X1_greatestDifference_max : Cond.static Lib.Math.max.name ∈ wsX1_greatestDifference := by decide +kernel
theorem wmc_X1_greatestDifference_max : Cond.code Lib.Math.max.name Lib.Math.max.code 2 (some .int) ∈ wsX1_greatestDifference := by decide +kernel
abbrev rm_X1_greatestDifference : Room := { frames := 1, cells := 0, slots := 0, locals := 14 }
set_option maxRecDepth 100000 in
set_option maxHeartbeats 4000000 in
theorem c_X1_greatestDifference (l : Launch) (D : va_G) (cI cS cJ : ClassId) (q1 : Nat) (a0 : Nat) (a1 : Nat) (a2 : Nat) (a3 : Nat) (a4 : Nat) (a5 : Nat) (a6 : Nat) (a7 : Nat) (pg : Int) (rw : Int) (un : Int) (us : Int) (be : Int) (fi : Int) (lo : Int) (b1 : Int → Int) (hb : ∀ x, 0 ≤ b1 x ∧ b1 x ≤ 10000) : zMi l yX1_greatestDifference wsX1_greatestDifference rm_X1_greatestDifference D (zTy cI cS cJ) [.ref q1] [(q1, .inr (1, [.ref a0, .ref a1, .ref a2, .ref a3, .ref a4, .ref a5, .ref a6, .ref a7, .int (zI pg), .int (zI rw), .int (zI un), .int (zI us), .int (zI be), .int (zI fi), .int (zI lo)])), (a4, .inl (cI, 16, .inl (zA b1)))] (fun r w => r = zI (zGd b1 8) ∧ w = [(q1, .inr (1, [.ref a0, .ref a1, .ref a2, .ref a3, .ref a4, .ref a5, .ref a6, .ref a7, .int (zI pg), .int (zI rw), .int (zI un), .int (zI us), .int (zI be), .int (zI fi), .int (zI lo)])), (a4, .inl (cI, 16, .inl (zA b1)))]) 0 0 := by
  intro sz
  refine zMet_of (Qc := fun A => va_Qi _ (zB D (zTy cI cS cJ) A) A) RX1 [(0, .ref q1)] rfl (by decide +kernel) rfl (Nat.le_of_ble_eq_true rfl) rfl ?_ sz
  intro p e s m args below meth c A Q hQ C hr hini
  refine zj_iconst 1 C dX1_greatestDifference_0 rfl ?_
  refine zj_istore_n 2 [(1, .int (zI 0)), (0, .ref q1)] C dX1_greatestDifference_1 rfl rfl (by decide) rfl ?_
  refine zj_iconst 3 C dX1_greatestDifference_2 rfl ?_
  refine zj_istore_n 4 [(2, .int (zI 0)), (1, .int (zI 0)), (0, .ref q1)] C dX1_greatestDifference_3 rfl rfl (by decide) rfl ?_
  have hL4 : ∀ (N : Nat) (k : Nat) (ac : Int), ((k : Int) ≤ 8) → (0 ≤ ac ∧ ac ≤ 10000) → (ac = zGd b1 k) → (8 - (k : Int) < N) → zJ p l e rm_X1_greatestDifference s m args below meth c Q D A 3 [(q1, .inr (1, [.ref a0, .ref a1, .ref a2, .ref a3, .ref a4, .ref a5, .ref a6, .ref a7, .int (zI pg), .int (zI rw), .int (zI un), .int (zI us), .int (zI be), .int (zI fi), .int (zI lo)])), (a4, .inl (cI, 16, .inl (zA b1)))] 0 0 [(0, .ref q1), (1, .int (zI ac)), (2, .int (zI (2 * (k : Int))))] 4 [] := by
    intro N
    induction N with
    | zero => intro k ac hk hac hr0 hN; exact absurd hN (by omega)
    | succ N ih =>
      intro k ac hk hac hr0 hN
      refine zj_iload_n 5 2 C dX1_greatestDifference_4 rfl rfl rfl ?_
      refine zj_iconst 6 C dX1_greatestDifference_5 rfl ?_
      refine zj_iadd 7 C dX1_greatestDifference_6 rfl ?_
      refine zj_bipush 9 C dX1_greatestDifference_7 rfl rfl ?_
      refine zj_icmp_ge 12 41 C (by omega) (by omega) dX1_greatestDifference_9 rfl (by decide) (fun h_1 => ?_) (fun h_1 => ?_)
      · skip
        refine zj_iload_n 42 1 C dX1_greatestDifference_41 rfl rfl rfl ?_
        refine zj_st (st' := [.int (zI (zGd b1 8))]) (by rw [hr0, show k = 8 by omega]) ?_
        subst hQ
        exact zj_ireturn C hr ⟨rfl, rfl⟩ (by decide) (by decide) dX1_greatestDifference_42
      · skip
        have hbk := hb (2 * k)
        have hbk2 := hb (2 * k + 1)
        refine zj_iload_n 13 1 C dX1_greatestDifference_12 rfl rfl rfl ?_
        refine zj_aload_n 14 0 C dX1_greatestDifference_13 rfl rfl rfl ?_
        refine zj_get 17 0 4 C (T := TX1) im_X1_greatestDifference_1 fl_X1_greatestDifference_24 rfl rfl (by decide) rfl rfl dX1_greatestDifference_14 rfl ?_
        refine zj_iload_n 18 2 C dX1_greatestDifference_17 rfl rfl rfl ?_
        refine zj_iald 19 1 C (by omega) (by omega) rfl rfl dX1_greatestDifference_18 rfl ?_
        refine zj_aload_n 20 0 C dX1_greatestDifference_19 rfl rfl rfl ?_
        refine zj_get 23 0 4 C (T := TX1) im_X1_greatestDifference_1 fl_X1_greatestDifference_24 rfl rfl (by decide) rfl rfl dX1_greatestDifference_20 rfl ?_
        refine zj_iload_n 24 2 C dX1_greatestDifference_23 rfl rfl rfl ?_
        refine zj_iconst 25 C dX1_greatestDifference_24 rfl ?_
        refine zj_iadd 26 C dX1_greatestDifference_25 rfl ?_
        refine zj_iald 27 1 C (by omega) (by omega) rfl rfl dX1_greatestDifference_26 rfl ?_
        refine zj_isub 28 C dX1_greatestDifference_27 rfl ?_
        refine zj_abs 31 C (by omega) wl_X1_greatestDifference_129 wms_X1_greatestDifference_abs wmi_X1_greatestDifference wmc_X1_greatestDifference_abs (Nat.le_of_ble_eq_true rfl) (Nat.le_of_ble_eq_true rfl) ⟨Nat.le_of_ble_eq_true rfl, Nat.le_of_ble_eq_true rfl⟩ dX1_greatestDifference_28 rfl ?_
        refine zj_max 34 C (by omega) (by (repeat' split) <;> omega) wl_X1_greatestDifference_123 wms_X1_greatestDifference_max wmi_X1_greatestDifference wmc_X1_greatestDifference_max (Nat.le_of_ble_eq_true rfl) (Nat.le_of_ble_eq_true rfl) ⟨Nat.le_of_ble_eq_true rfl, Nat.le_of_ble_eq_true rfl⟩ dX1_greatestDifference_31 rfl ?_
        refine zj_istore_n 35 [(1, .int (zI (if ac < (if 0 ≤ ((b1 (2 * (k : Int))) - (b1 ((2 * (k : Int)) + 1))) then ((b1 (2 * (k : Int))) - (b1 ((2 * (k : Int)) + 1))) else -((b1 (2 * (k : Int))) - (b1 ((2 * (k : Int)) + 1)))) then (if 0 ≤ ((b1 (2 * (k : Int))) - (b1 ((2 * (k : Int)) + 1))) then ((b1 (2 * (k : Int))) - (b1 ((2 * (k : Int)) + 1))) else -((b1 (2 * (k : Int))) - (b1 ((2 * (k : Int)) + 1)))) else ac))), (0, .ref q1), (2, .int (zI (2 * (k : Int))))] C dX1_greatestDifference_34 rfl rfl (by decide) rfl ?_
        refine zj_iinc 38 2 [(2, .int (zI ((2 * (k : Int)) + 2))), (1, .int (zI (if ac < (if 0 ≤ ((b1 (2 * (k : Int))) - (b1 ((2 * (k : Int)) + 1))) then ((b1 (2 * (k : Int))) - (b1 ((2 * (k : Int)) + 1))) else -((b1 (2 * (k : Int))) - (b1 ((2 * (k : Int)) + 1)))) then (if 0 ≤ ((b1 (2 * (k : Int))) - (b1 ((2 * (k : Int)) + 1))) then ((b1 (2 * (k : Int))) - (b1 ((2 * (k : Int)) + 1))) else -((b1 (2 * (k : Int))) - (b1 ((2 * (k : Int)) + 1)))) else ac))), (0, .ref q1)] C dX1_greatestDifference_35 rfl rfl (by decide) rfl ?_
        refine zj_goto 4 C dX1_greatestDifference_38 (by decide) ?_
        refine zj_lv [2, 1, 0] [(0, .ref q1), (1, .int (zI (if ac < (if 0 ≤ ((b1 (2 * (k : Int))) - (b1 ((2 * (k : Int)) + 1))) then ((b1 (2 * (k : Int))) - (b1 ((2 * (k : Int)) + 1))) else -((b1 (2 * (k : Int))) - (b1 ((2 * (k : Int)) + 1)))) then (if 0 ≤ ((b1 (2 * (k : Int))) - (b1 ((2 * (k : Int)) + 1))) then ((b1 (2 * (k : Int))) - (b1 ((2 * (k : Int)) + 1))) else -((b1 (2 * (k : Int))) - (b1 ((2 * (k : Int)) + 1)))) else ac))), (2, .int (zI ((2 * (k : Int)) + 2)))] rfl ?_
        refine zj_eqlv (lv' := [(0, .ref q1), (1, .int (zI (if ac < (if 0 ≤ ((b1 (2 * (k : Int))) - (b1 ((2 * (k : Int)) + 1))) then ((b1 (2 * (k : Int))) - (b1 ((2 * (k : Int)) + 1))) else -((b1 (2 * (k : Int))) - (b1 ((2 * (k : Int)) + 1)))) then (if 0 ≤ ((b1 (2 * (k : Int))) - (b1 ((2 * (k : Int)) + 1))) then ((b1 (2 * (k : Int))) - (b1 ((2 * (k : Int)) + 1))) else -((b1 (2 * (k : Int))) - (b1 ((2 * (k : Int)) + 1)))) else ac))), (2, .int (zI (2 * ((k + 1) : Int))))]) (by rw [show 2 * (k : Int) + 2 = 2 * ((k + 1 : Nat) : Int) by omega]; rfl) ?_
        exact ih (k + 1) (if ac < (if 0 ≤ ((b1 (2 * (k : Int))) - (b1 ((2 * (k : Int)) + 1))) then ((b1 (2 * (k : Int))) - (b1 ((2 * (k : Int)) + 1))) else -((b1 (2 * (k : Int))) - (b1 ((2 * (k : Int)) + 1)))) then (if 0 ≤ ((b1 (2 * (k : Int))) - (b1 ((2 * (k : Int)) + 1))) then ((b1 (2 * (k : Int))) - (b1 ((2 * (k : Int)) + 1))) else -((b1 (2 * (k : Int))) - (b1 ((2 * (k : Int)) + 1)))) else ac) (by omega) (by (repeat' split) <;> omega) (by rw [zGd, ← hr0]; unfold zAbs; (repeat' split) <;> omega) (by omega)
  refine zj_lv [2, 1, 0] [(0, .ref q1), (1, .int (zI 0)), (2, .int (zI 0))] rfl ?_
  refine zj_eqlv (lv' := [(0, .ref q1), (1, .int (zI 0)), (2, .int (zI (2 * (0 : Int))))]) (by rfl) ?_
  exact hL4 (9) 0 0 (by omega) (by omega) (rfl) (by omega)

theorem fl_X1_cost_55 : Cond.fieldLink RX1 55 "SplashPages$Layout" "leftOut" "I" ∈ wsX1_cost := by decide +kernel
theorem im_X1_cost_1 : ∀ w ∈ u_ws RX1 TX1 15, w ∈ wsX1_cost := by decide +kernel
theorem fl_X1_cost_46 : Cond.fieldLink RX1 46 "SplashPages$Layout" "used" "I" ∈ wsX1_cost := by decide +kernel
abbrev rm_X1_cost : Room := { frames := 1, cells := 0, slots := 0, locals := 20 }
set_option maxRecDepth 100000 in
set_option maxHeartbeats 4000000 in
theorem c_X1_cost (l : Launch) (D : va_G) (cI cS cJ : ClassId) (q1 : Nat) (a0 : Nat) (a1 : Nat) (a2 : Nat) (a3 : Nat) (a4 : Nat) (a5 : Nat) (a6 : Nat) (a7 : Nat) (pg : Int) (rw : Int) (un : Int) (us : Int) (be : Int) (fi : Int) (lo : Int) : zMi l yX1_cost wsX1_cost rm_X1_cost D (zTy cI cS cJ) [.ref q1] [(q1, .inr (1, [.ref a0, .ref a1, .ref a2, .ref a3, .ref a4, .ref a5, .ref a6, .ref a7, .int (zI pg), .int (zI rw), .int (zI un), .int (zI us), .int (zI be), .int (zI fi), .int (zI lo)]))] (fun r w => r = zI ((lo * 17 + us) * 385 + (be * 24 - fi)) ∧ w = [(q1, .inr (1, [.ref a0, .ref a1, .ref a2, .ref a3, .ref a4, .ref a5, .ref a6, .ref a7, .int (zI pg), .int (zI rw), .int (zI un), .int (zI us), .int (zI be), .int (zI fi), .int (zI lo)]))]) 0 0 := by
  intro sz
  refine zMet_of (Qc := fun A => va_Qi _ (zB D (zTy cI cS cJ) A) A) RX1 [(0, .ref q1)] rfl (by decide +kernel) rfl (Nat.le_of_ble_eq_true rfl) rfl ?_ sz
  intro p e s m args below meth c A Q hQ C hr hini
  refine zj_aload_n 1 0 C dX1_cost_0 rfl rfl rfl ?_
  refine zj_get 4 0 14 C (T := TX1) im_X1_cost_1 fl_X1_cost_55 rfl rfl (by decide) rfl rfl dX1_cost_1 rfl ?_
  refine zj_bipush 6 C dX1_cost_4 rfl rfl ?_
  refine zj_imul 7 C dX1_cost_6 rfl ?_
  refine zj_aload_n 8 0 C dX1_cost_7 rfl rfl rfl ?_
  refine zj_get 11 0 11 C (T := TX1) im_X1_cost_1 fl_X1_cost_46 rfl rfl (by decide) rfl rfl dX1_cost_8 rfl ?_
  refine zj_iadd 12 C dX1_cost_11 rfl ?_
  refine zj_sipush 15 C dX1_cost_12 rfl rfl ?_
  refine zj_imul 16 C dX1_cost_15 rfl ?_
  refine zj_aload_n 17 0 C dX1_cost_16 rfl rfl rfl ?_
  refine zj_ci 20 [0] [] C (wr := []) (zr_V [0] C (As := []) (rest := [.int (zI (((lo * 17) + us) * 385))]) (c_X1_emptyUnits l D cI cS cJ q1 a0 a1 a2 a3 a4 a5 a6 a7 pg rw un us be fi lo) (cwV 0 C.1.2.2.2.2 gX1_cost_X1_emptyUnits rfl rfl rfl (by decide +kernel) ⟨Nat.le_of_ble_eq_true rfl, Nat.le_of_ble_eq_true rfl⟩) rfl (by decide) 0 rfl rfl rfl rfl (Nat.le_of_ble_eq_true rfl) dX1_cost_17 ⟨Nat.le_of_ble_eq_true rfl, Nat.le_of_ble_eq_true rfl⟩) rfl rfl (by decide) (by decide) rfl (fun r_1 w_ hp_2 => ?_)
  obtain ⟨rfl, rfl⟩ := hp_2
  refine zj_ws (ws' := [(q1, .inr (1, [.ref a0, .ref a1, .ref a2, .ref a3, .ref a4, .ref a5, .ref a6, .ref a7, .int (zI pg), .int (zI rw), .int (zI un), .int (zI us), .int (zI be), .int (zI fi), .int (zI lo)]))]) rfl ?_
  refine zj_iadd 21 C dX1_cost_20 rfl ?_
  refine zj_st (st' := [.int (zI ((lo * 17 + us) * 385 + (be * 24 - fi)))]) (by rfl) ?_
  subst hQ
  exact zj_ireturn C hr ⟨rfl, rfl⟩ (by decide) (by decide) dX1_cost_21
