theorem fl_X5_panel_40 : Cond.fieldLink RX5 40 "SplashPagesModel" "thrown" "I" ∈ wsX5_panel := by decide +kernel
theorem im_X5_panel_5 : ∀ w ∈ u_ws RX5 TX5 20, w ∈ wsX5_panel := by decide +kernel
abbrev rm_X5_panel : Room := { frames := 4, cells := 0, slots := 0, locals := 92 }
set_option maxRecDepth 100000 in
set_option maxHeartbeats 4000000 in
theorem c_X5_panel (l : Launch) (D : va_G) (cI cS cJ : ClassId) (q5 : Nat) (m0 : Nat) (m1 : Nat) (m2 : Nat) (m3 : Nat) (m4 : Nat) (m5 : Nat) (m6 : Nat) (m7 : Nat) (m8 : Nat) (m9 : Nat) (th : Int) (sm : Int) (ty : Int) (pg : Int) (rw : Int) (un : Int) (pm : Int) (sp : Int) (wr : Int) (ha : Int64) (Z1 : Int → Int) (P1 : Int → Int) (R1 : Int → Int) (U1 : Int → Int) (G1 : Int → Int) (b1 : Int → Int) (c1 : Int → Int) (n1 : Int) (sg : Int) (K1 : Int → Int) (W1 : Int → Int) (T1 : Int → Int) (i1 : Int) (x1 : Int) (hst : zOk n1 sg K1 W1 T1) (hz : zRel n1 sg K1 W1 T1 Z1) (hi : -2147483648 ≤ i1 ∧ i1 < 2147483648) (hx : -2147483648 ≤ x1 ∧ x1 < 2147483648) : zMi l yX5_panel wsX5_panel rm_X5_panel D (zTy cI cS cJ) [.ref q5, .int (zI i1), .int (zI x1)] [(q5, .inr (5, [.int (zI th), .ref m0, .ref m1, .int (zI sm), .ref m2, .int (zI ty), .ref m3, .ref m4, .ref m5, .ref m6, .ref m7, .ref m8, .int (zI pg), .int (zI rw), .int (zI un), .ref m9, .int (zI pm), .int (zI sp), .int (zI wr), .long ha])), (m0, .inl (cI, 74, .inl (zA Z1))), (m3, .inl (cI, 24, .inl (zA P1))), (m4, .inl (cI, 24, .inl (zA R1))), (m5, .inl (cI, 24, .inl (zA U1))), (m6, .inl (cI, 384, .inl (zA G1))), (m7, .inl (cI, 16, .inl (zA b1))), (m8, .inl (cI, 16, .inl (zA c1)))] (fun r w => ∃ (pg2 : Int), ∃ (rw2 : Int), ∃ (un2 : Int), ∃ (P2 : Int → Int), ∃ (R2 : Int → Int), ∃ (U2 : Int → Int), ∃ (G2 : Int → Int), ∃ (b2 : Int → Int), ∃ (c2 : Int → Int), r = zI (zIt (zKp n1 i1 x1) (zNp sg K1 W1 T1 i1 x1) 0) ∧ w = [(q5, .inr (5, [.int (zI (zKp n1 i1 x1)), .ref m0, .ref m1, .int (zI sm), .ref m2, .int (zI ty), .ref m3, .ref m4, .ref m5, .ref m6, .ref m7, .ref m8, .int (zI pg2), .int (zI rw2), .int (zI un2), .ref m9, .int (zI pm), .int (zI sp), .int (zI wr), .long ha])), (m0, .inl (cI, 74, .inl (zA Z1))), (m3, .inl (cI, 24, .inl (zA P2))), (m4, .inl (cI, 24, .inl (zA R2))), (m5, .inl (cI, 24, .inl (zA U2))), (m6, .inl (cI, 384, .inl (zA G2))), (m7, .inl (cI, 16, .inl (zA b2))), (m8, .inl (cI, 16, .inl (zA c2)))]) 0 0 := by
  intro sz
  refine zMet_of (Qc := fun A => va_Qi _ (zB D (zTy cI cS cJ) A) A) RX5 [(0, .ref q5), (1, .int (zI i1)), (2, .int (zI x1))] rfl (by decide +kernel) rfl (Nat.le_of_ble_eq_true rfl) rfl ?_ sz
  intro p e s m args below meth c A Q hQ C hr hini
  have hn := hst.1
  have hz1 := hz.1
  refine zj_aload_n 1 0 C dX5_panel_0 rfl rfl rfl ?_
  refine zj_aload_n 2 0 C dX5_panel_1 rfl rfl rfl ?_
  refine zj_iload_n 3 1 C dX5_panel_2 rfl rfl rfl ?_
  refine zj_ci 6 [0, 1] [2, 3, 4, 5, 6, 7] C (wr := [(m3, .inl (cI, 24, .inl (zA P1))), (m4, .inl (cI, 24, .inl (zA R1))), (m5, .inl (cI, 24, .inl (zA U1))), (m6, .inl (cI, 384, .inl (zA G1))), (m7, .inl (cI, 16, .inl (zA b1))), (m8, .inl (cI, 16, .inl (zA c1)))]) (zr_V [0, 1] C (As := [.int (zI i1)]) (rest := [.ref q5]) (c_X5_isPanel l D cI cS cJ q5 m0 m1 m2 m3 m4 m5 m6 m7 m8 m9 th sm ty pg rw un pm sp wr ha Z1 i1 (by omega) (by omega)) (cwV 1 C.1.2.2.2.2 gX5_panel_X5_isPanel rfl rfl rfl (by decide +kernel) ⟨Nat.le_of_ble_eq_true rfl, Nat.le_of_ble_eq_true rfl⟩) rfl (by decide) 0 rfl rfl rfl rfl (Nat.le_of_ble_eq_true rfl) dX5_panel_3 ⟨Nat.le_of_ble_eq_true rfl, Nat.le_of_ble_eq_true rfl⟩) rfl rfl (by decide) (by decide) rfl (fun r_1 w_ hp_2 => ?_)
  obtain ⟨r1_3, fa, rfl, rfl⟩ := hp_2
  refine zj_ws (ws' := [(m3, .inl (cI, 24, .inl (zA P1))), (m4, .inl (cI, 24, .inl (zA R1))), (m5, .inl (cI, 24, .inl (zA U1))), (m6, .inl (cI, 384, .inl (zA G1))), (m7, .inl (cI, 16, .inl (zA b1))), (m8, .inl (cI, 16, .inl (zA c1))), (q5, .inr (5, [.int (zI th), .ref m0, .ref m1, .int (zI sm), .ref m2, .int (zI ty), .ref m3, .ref m4, .ref m5, .ref m6, .ref m7, .ref m8, .int (zI pg), .int (zI rw), .int (zI un), .ref m9, .int (zI pm), .int (zI sp), .int (zI wr), .long ha])), (m0, .inl (cI, 74, .inl (zA Z1)))]) rfl ?_
  refine zj_if_ne 9 13 C (by omega) dX5_panel_6 rfl (by decide) (fun h_4 => ?_) (fun h_4 => ?_)
  · skip
    refine zj_iload_n 14 2 C dX5_panel_13 rfl rfl rfl ?_
    refine zj_iconst 15 C dX5_panel_14 rfl ?_
    refine zj_iconst 16 C dX5_panel_15 rfl ?_
    refine zj_ci 19 [] [0, 1, 2, 3, 4, 5, 6, 7] C (wr := [(m3, .inl (cI, 24, .inl (zA P1))), (m4, .inl (cI, 24, .inl (zA R1))), (m5, .inl (cI, 24, .inl (zA U1))), (m6, .inl (cI, 384, .inl (zA G1))), (m7, .inl (cI, 16, .inl (zA b1))), (m8, .inl (cI, 16, .inl (zA c1))), (q5, .inr (5, [.int (zI th), .ref m0, .ref m1, .int (zI sm), .ref m2, .int (zI ty), .ref m3, .ref m4, .ref m5, .ref m6, .ref m7, .ref m8, .int (zI pg), .int (zI rw), .int (zI un), .ref m9, .int (zI pm), .int (zI sp), .int (zI wr), .long ha])), (m0, .inl (cI, 74, .inl (zA Z1)))]) (zr_S [] C (As := [.int (zI x1), .int (zI 0), .int (zI 5)]) (rest := [.ref q5]) (c_X5_in l D cI cS cJ x1 0 5 (by omega) (by omega) (by omega)) (va_cwS 3 C.1.2.2.2.2 gX5_panel_X5_in rfl rfl rfl (by decide +kernel) ⟨Nat.le_of_ble_eq_true rfl, Nat.le_of_ble_eq_true rfl⟩) rfl (by decide) rfl rfl (Nat.le_of_ble_eq_true rfl) dX5_panel_16 ⟨Nat.le_of_ble_eq_true rfl, Nat.le_of_ble_eq_true rfl⟩) rfl rfl (by decide) (by decide) rfl (fun r_5 w_ hp_6 => ?_)
    obtain ⟨r1_7, fb, rfl, rfl⟩ := hp_6
    refine zj_ws (ws' := [(m3, .inl (cI, 24, .inl (zA P1))), (m4, .inl (cI, 24, .inl (zA R1))), (m5, .inl (cI, 24, .inl (zA U1))), (m6, .inl (cI, 384, .inl (zA G1))), (m7, .inl (cI, 16, .inl (zA b1))), (m8, .inl (cI, 16, .inl (zA c1))), (q5, .inr (5, [.int (zI th), .ref m0, .ref m1, .int (zI sm), .ref m2, .int (zI ty), .ref m3, .ref m4, .ref m5, .ref m6, .ref m7, .ref m8, .int (zI pg), .int (zI rw), .int (zI un), .ref m9, .int (zI pm), .int (zI sp), .int (zI wr), .long ha])), (m0, .inl (cI, 74, .inl (zA Z1)))]) rfl ?_
    refine zj_if_eq 22 26 C (by omega) dX5_panel_19 rfl (by decide) (fun h_8 => ?_) (fun h_8 => ?_)
    · skip
      refine zj_iconst 27 C dX5_panel_26 rfl ?_
      have hkv : zKp n1 i1 x1 = 2 := by unfold zKp; (repeat' split) <;> omega
      refine zj_put 30 6 0 [(m3, .inl (cI, 24, .inl (zA P1))), (m4, .inl (cI, 24, .inl (zA R1))), (m5, .inl (cI, 24, .inl (zA U1))), (m6, .inl (cI, 384, .inl (zA G1))), (m7, .inl (cI, 16, .inl (zA b1))), (m8, .inl (cI, 16, .inl (zA c1))), (q5, .inr (5, [.int (zI 2), .ref m0, .ref m1, .int (zI sm), .ref m2, .int (zI ty), .ref m3, .ref m4, .ref m5, .ref m6, .ref m7, .ref m8, .int (zI pg), .int (zI rw), .int (zI un), .ref m9, .int (zI pm), .int (zI sp), .int (zI wr), .long ha])), (m0, .inl (cI, 74, .inl (zA Z1)))] C (T := TX5) tyX5 tyX5_ok nmX5 im_X5_panel_5 fl_X5_panel_40 rfl rfl (by decide) rfl rfl rfl rfl rfl (Nat.le_of_ble_eq_true rfl) rfl dX5_panel_27 rfl ?_
      refine zj_aload_n 31 0 C dX5_panel_30 rfl rfl rfl ?_
      refine zj_get 34 6 0 C (T := TX5) im_X5_panel_5 fl_X5_panel_40 rfl rfl (by decide) rfl rfl dX5_panel_31 rfl ?_
      refine zj_if_le 37 39 C (by omega) dX5_panel_34 rfl (by decide) (fun h_9 => ?_) (fun h_9 => ?_)
      · exact absurd h_9 (by omega)
      · skip
        refine zj_iconst 38 C dX5_panel_37 rfl ?_
        refine zj_re [6, 7, 0, 1, 2, 3, 4, 5] [(q5, .inr (5, [.int (zI 2), .ref m0, .ref m1, .int (zI sm), .ref m2, .int (zI ty), .ref m3, .ref m4, .ref m5, .ref m6, .ref m7, .ref m8, .int (zI pg), .int (zI rw), .int (zI un), .ref m9, .int (zI pm), .int (zI sp), .int (zI wr), .long ha])), (m0, .inl (cI, 74, .inl (zA Z1))), (m3, .inl (cI, 24, .inl (zA P1))), (m4, .inl (cI, 24, .inl (zA R1))), (m5, .inl (cI, 24, .inl (zA U1))), (m6, .inl (cI, 384, .inl (zA G1))), (m7, .inl (cI, 16, .inl (zA b1))), (m8, .inl (cI, 16, .inl (zA c1)))] (by decide) rfl ?_
        refine zj_ws (ws' := [(q5, .inr (5, [.int (zI (zKp n1 i1 x1)), .ref m0, .ref m1, .int (zI sm), .ref m2, .int (zI ty), .ref m3, .ref m4, .ref m5, .ref m6, .ref m7, .ref m8, .int (zI pg), .int (zI rw), .int (zI un), .ref m9, .int (zI pm), .int (zI sp), .int (zI wr), .long ha])), (m0, .inl (cI, 74, .inl (zA Z1))), (m3, .inl (cI, 24, .inl (zA P1))), (m4, .inl (cI, 24, .inl (zA R1))), (m5, .inl (cI, 24, .inl (zA U1))), (m6, .inl (cI, 384, .inl (zA G1))), (m7, .inl (cI, 16, .inl (zA b1))), (m8, .inl (cI, 16, .inl (zA c1)))]) (by rw [hkv]) ?_
        refine zj_st (st' := [.int (zI (zIt (zKp n1 i1 x1) (zNp sg K1 W1 T1 i1 x1) 0))]) (by rw [zIt_n (show ¬ zKp n1 i1 x1 = 0 by omega)]) ?_
        subst hQ
        exact zj_ireturn C hr ⟨pg, rw, un, P1, R1, U1, G1, b1, c1, rfl, rfl⟩ (by decide) (by decide) dX5_panel_38
    · skip
      refine zj_iconst 23 C dX5_panel_22 rfl ?_
      refine zj_goto 27 C dX5_panel_23 (by decide) ?_
      have hkv : zKp n1 i1 x1 = 0 := by unfold zKp; (repeat' split) <;> omega
      refine zj_put 30 6 0 [(m3, .inl (cI, 24, .inl (zA P1))), (m4, .inl (cI, 24, .inl (zA R1))), (m5, .inl (cI, 24, .inl (zA U1))), (m6, .inl (cI, 384, .inl (zA G1))), (m7, .inl (cI, 16, .inl (zA b1))), (m8, .inl (cI, 16, .inl (zA c1))), (q5, .inr (5, [.int (zI 0), .ref m0, .ref m1, .int (zI sm), .ref m2, .int (zI ty), .ref m3, .ref m4, .ref m5, .ref m6, .ref m7, .ref m8, .int (zI pg), .int (zI rw), .int (zI un), .ref m9, .int (zI pm), .int (zI sp), .int (zI wr), .long ha])), (m0, .inl (cI, 74, .inl (zA Z1)))] C (T := TX5) tyX5 tyX5_ok nmX5 im_X5_panel_5 fl_X5_panel_40 rfl rfl (by decide) rfl rfl rfl rfl rfl (Nat.le_of_ble_eq_true rfl) rfl dX5_panel_27 rfl ?_
      refine zj_aload_n 31 0 C dX5_panel_30 rfl rfl rfl ?_
      refine zj_get 34 6 0 C (T := TX5) im_X5_panel_5 fl_X5_panel_40 rfl rfl (by decide) rfl rfl dX5_panel_31 rfl ?_
      refine zj_if_le 37 39 C (by omega) dX5_panel_34 rfl (by decide) (fun h_10 => ?_) (fun h_10 => ?_)
      · skip
        refine zj_aload_n 40 0 C dX5_panel_39 rfl rfl rfl ?_
        refine zj_cv 43 [6, 7, 0, 1, 2, 3, 4, 5] [] C (wr := []) (zr_V [6, 7, 0, 1, 2, 3, 4, 5] C (As := []) (rest := []) (c_X5_pour2 l D cI cS cJ q5 m0 m1 m2 m3 m4 m5 m6 m7 m8 m9 0 sm ty pg rw un pm sp wr ha Z1 P1 R1 U1 G1 b1 c1 n1 sg K1 W1 T1 hst hz) (cwV 0 C.1.2.2.2.2 gX5_panel_X5_pour rfl rfl rfl (by decide +kernel) ⟨Nat.le_of_ble_eq_true rfl, Nat.le_of_ble_eq_true rfl⟩) rfl (by decide) 0 rfl rfl rfl rfl (Nat.le_of_ble_eq_true rfl) dX5_panel_40 ⟨Nat.le_of_ble_eq_true rfl, Nat.le_of_ble_eq_true rfl⟩) rfl rfl (by decide) (by decide) rfl (fun w_ hp_12 => ?_)
        obtain ⟨pg2n, rw2n, un2n, P2n, R2n, U2n, hPn, rfl⟩ := hp_12
        refine zj_ws (ws' := [(q5, .inr (5, [.int (zI 0), .ref m0, .ref m1, .int (zI sm), .ref m2, .int (zI ty), .ref m3, .ref m4, .ref m5, .ref m6, .ref m7, .ref m8, .int (zI pg2n), .int (zI rw2n), .int (zI un2n), .ref m9, .int (zI pm), .int (zI sp), .int (zI wr), .long ha])), (m0, .inl (cI, 74, .inl (zA Z1))), (m3, .inl (cI, 24, .inl (zA P2n))), (m4, .inl (cI, 24, .inl (zA R2n))), (m5, .inl (cI, 24, .inl (zA U2n))), (m6, .inl (cI, 384, .inl (zA (zGrid sg K1 W1 T1 n1.toNat)))), (m7, .inl (cI, 16, .inl (zA ((zFin sg K1 W1 T1 n1).2.2.2.2.2.1)))), (m8, .inl (cI, 16, .inl (zA ((zFin sg K1 W1 T1 n1).2.2.2.2.1))))]) rfl ?_
        refine zj_aload_n 44 0 C dX5_panel_43 rfl rfl rfl ?_
        refine zj_iload_n 45 1 C dX5_panel_44 rfl rfl rfl ?_
        refine zj_iload_n 46 2 C dX5_panel_45 rfl rfl rfl ?_
        refine zj_ci 49 [0, 1, 2, 3, 4] [5, 6, 7] C (wr := [(m6, .inl (cI, 384, .inl (zA (zGrid sg K1 W1 T1 n1.toNat)))), (m7, .inl (cI, 16, .inl (zA ((zFin sg K1 W1 T1 n1).2.2.2.2.2.1)))), (m8, .inl (cI, 16, .inl (zA ((zFin sg K1 W1 T1 n1).2.2.2.2.1))))]) (zr_V [0, 1, 2, 3, 4] C (As := [.int (zI i1), .int (zI x1)]) (rest := []) (c_X5_toldPanel2 l D cI cS cJ q5 m0 m1 m2 m3 m4 m5 m6 m7 m8 m9 0 sm ty pg2n rw2n un2n pm sp wr ha Z1 P2n R2n U2n n1 sg K1 W1 T1 i1 x1 hst hz hPn (by omega) (by omega)) (cwV 2 C.1.2.2.2.2 gX5_panel_X5_toldPanel rfl rfl rfl (by decide +kernel) ⟨Nat.le_of_ble_eq_true rfl, Nat.le_of_ble_eq_true rfl⟩) rfl (by decide) 0 rfl rfl rfl rfl (Nat.le_of_ble_eq_true rfl) dX5_panel_46 ⟨Nat.le_of_ble_eq_true rfl, Nat.le_of_ble_eq_true rfl⟩) rfl rfl (by decide) (by decide) rfl (fun r_13 w_ hp_14 => ?_)
        obtain ⟨rfl, rfl⟩ := hp_14
        refine zj_ws (ws' := [(m6, .inl (cI, 384, .inl (zA (zGrid sg K1 W1 T1 n1.toNat)))), (m7, .inl (cI, 16, .inl (zA ((zFin sg K1 W1 T1 n1).2.2.2.2.2.1)))), (m8, .inl (cI, 16, .inl (zA ((zFin sg K1 W1 T1 n1).2.2.2.2.1)))), (q5, .inr (5, [.int (zI 0), .ref m0, .ref m1, .int (zI sm), .ref m2, .int (zI ty), .ref m3, .ref m4, .ref m5, .ref m6, .ref m7, .ref m8, .int (zI pg2n), .int (zI rw2n), .int (zI un2n), .ref m9, .int (zI pm), .int (zI sp), .int (zI wr), .long ha])), (m0, .inl (cI, 74, .inl (zA Z1))), (m3, .inl (cI, 24, .inl (zA P2n))), (m4, .inl (cI, 24, .inl (zA R2n))), (m5, .inl (cI, 24, .inl (zA U2n)))]) rfl ?_
        refine zj_re [3, 4, 5, 6, 7, 0, 1, 2] [(q5, .inr (5, [.int (zI 0), .ref m0, .ref m1, .int (zI sm), .ref m2, .int (zI ty), .ref m3, .ref m4, .ref m5, .ref m6, .ref m7, .ref m8, .int (zI pg2n), .int (zI rw2n), .int (zI un2n), .ref m9, .int (zI pm), .int (zI sp), .int (zI wr), .long ha])), (m0, .inl (cI, 74, .inl (zA Z1))), (m3, .inl (cI, 24, .inl (zA P2n))), (m4, .inl (cI, 24, .inl (zA R2n))), (m5, .inl (cI, 24, .inl (zA U2n))), (m6, .inl (cI, 384, .inl (zA (zGrid sg K1 W1 T1 n1.toNat)))), (m7, .inl (cI, 16, .inl (zA ((zFin sg K1 W1 T1 n1).2.2.2.2.2.1)))), (m8, .inl (cI, 16, .inl (zA ((zFin sg K1 W1 T1 n1).2.2.2.2.1))))] (by decide) rfl ?_
        refine zj_ws (ws' := [(q5, .inr (5, [.int (zI (zKp n1 i1 x1)), .ref m0, .ref m1, .int (zI sm), .ref m2, .int (zI ty), .ref m3, .ref m4, .ref m5, .ref m6, .ref m7, .ref m8, .int (zI pg2n), .int (zI rw2n), .int (zI un2n), .ref m9, .int (zI pm), .int (zI sp), .int (zI wr), .long ha])), (m0, .inl (cI, 74, .inl (zA Z1))), (m3, .inl (cI, 24, .inl (zA P2n))), (m4, .inl (cI, 24, .inl (zA R2n))), (m5, .inl (cI, 24, .inl (zA U2n))), (m6, .inl (cI, 384, .inl (zA (zGrid sg K1 W1 T1 n1.toNat)))), (m7, .inl (cI, 16, .inl (zA ((zFin sg K1 W1 T1 n1).2.2.2.2.2.1)))), (m8, .inl (cI, 16, .inl (zA ((zFin sg K1 W1 T1 n1).2.2.2.2.1))))]) (by rw [hkv]) ?_
        refine zj_st (st' := [.int (zI (zIt (zKp n1 i1 x1) (zNp sg K1 W1 T1 i1 x1) 0))]) (by rw [zIt_0 (show zKp n1 i1 x1 = 0 by omega)]) ?_
        subst hQ
        exact zj_ireturn C hr ⟨pg2n, rw2n, un2n, P2n, R2n, U2n, (zGrid sg K1 W1 T1 n1.toNat), (zFin sg K1 W1 T1 n1).2.2.2.2.2.1, (zFin sg K1 W1 T1 n1).2.2.2.2.1, rfl, rfl⟩ (by decide) (by decide) dX5_panel_49
      · exact absurd h_10 (by omega)
  · skip
    refine zj_iconst 10 C dX5_panel_9 rfl ?_
    refine zj_goto 27 C dX5_panel_10 (by decide) ?_
    have hkv : zKp n1 i1 x1 = 1 := by unfold zKp; (repeat' split) <;> omega
    refine zj_put 30 6 0 [(m3, .inl (cI, 24, .inl (zA P1))), (m4, .inl (cI, 24, .inl (zA R1))), (m5, .inl (cI, 24, .inl (zA U1))), (m6, .inl (cI, 384, .inl (zA G1))), (m7, .inl (cI, 16, .inl (zA b1))), (m8, .inl (cI, 16, .inl (zA c1))), (q5, .inr (5, [.int (zI 1), .ref m0, .ref m1, .int (zI sm), .ref m2, .int (zI ty), .ref m3, .ref m4, .ref m5, .ref m6, .ref m7, .ref m8, .int (zI pg), .int (zI rw), .int (zI un), .ref m9, .int (zI pm), .int (zI sp), .int (zI wr), .long ha])), (m0, .inl (cI, 74, .inl (zA Z1)))] C (T := TX5) tyX5 tyX5_ok nmX5 im_X5_panel_5 fl_X5_panel_40 rfl rfl (by decide) rfl rfl rfl rfl rfl (Nat.le_of_ble_eq_true rfl) rfl dX5_panel_27 rfl ?_
    refine zj_aload_n 31 0 C dX5_panel_30 rfl rfl rfl ?_
    refine zj_get 34 6 0 C (T := TX5) im_X5_panel_5 fl_X5_panel_40 rfl rfl (by decide) rfl rfl dX5_panel_31 rfl ?_
    refine zj_if_le 37 39 C (by omega) dX5_panel_34 rfl (by decide) (fun h_15 => ?_) (fun h_15 => ?_)
    · exact absurd h_15 (by omega)
    · skip
      refine zj_iconst 38 C dX5_panel_37 rfl ?_
      refine zj_re [6, 7, 0, 1, 2, 3, 4, 5] [(q5, .inr (5, [.int (zI 1), .ref m0, .ref m1, .int (zI sm), .ref m2, .int (zI ty), .ref m3, .ref m4, .ref m5, .ref m6, .ref m7, .ref m8, .int (zI pg), .int (zI rw), .int (zI un), .ref m9, .int (zI pm), .int (zI sp), .int (zI wr), .long ha])), (m0, .inl (cI, 74, .inl (zA Z1))), (m3, .inl (cI, 24, .inl (zA P1))), (m4, .inl (cI, 24, .inl (zA R1))), (m5, .inl (cI, 24, .inl (zA U1))), (m6, .inl (cI, 384, .inl (zA G1))), (m7, .inl (cI, 16, .inl (zA b1))), (m8, .inl (cI, 16, .inl (zA c1)))] (by decide) rfl ?_
      refine zj_ws (ws' := [(q5, .inr (5, [.int (zI (zKp n1 i1 x1)), .ref m0, .ref m1, .int (zI sm), .ref m2, .int (zI ty), .ref m3, .ref m4, .ref m5, .ref m6, .ref m7, .ref m8, .int (zI pg), .int (zI rw), .int (zI un), .ref m9, .int (zI pm), .int (zI sp), .int (zI wr), .long ha])), (m0, .inl (cI, 74, .inl (zA Z1))), (m3, .inl (cI, 24, .inl (zA P1))), (m4, .inl (cI, 24, .inl (zA R1))), (m5, .inl (cI, 24, .inl (zA U1))), (m6, .inl (cI, 384, .inl (zA G1))), (m7, .inl (cI, 16, .inl (zA b1))), (m8, .inl (cI, 16, .inl (zA c1)))]) (by rw [hkv]) ?_
      refine zj_st (st' := [.int (zI (zIt (zKp n1 i1 x1) (zNp sg K1 W1 T1 i1 x1) 0))]) (by rw [zIt_n (show ¬ zKp n1 i1 x1 = 0 by omega)]) ?_
      subst hQ
      exact zj_ireturn C hr ⟨pg, rw, un, P1, R1, U1, G1, b1, c1, rfl, rfl⟩ (by decide) (by decide) dX5_panel_38

theorem fl_X5_page_40 : Cond.fieldLink RX5 40 "SplashPagesModel" "thrown" "I" ∈ wsX5_page := by decide +kernel
theorem im_X5_page_5 : ∀ w ∈ u_ws RX5 TX5 20, w ∈ wsX5_page := by decide +kernel
abbrev rm_X5_page : Room := { frames := 4, cells := 0, slots := 0, locals := 92 }
set_option maxRecDepth 100000 in
set_option maxHeartbeats 4000000 in
theorem c_X5_page (l : Launch) (D : va_G) (cI cS cJ : ClassId) (q5 : Nat) (m0 : Nat) (m1 : Nat) (m2 : Nat) (m3 : Nat) (m4 : Nat) (m5 : Nat) (m6 : Nat) (m7 : Nat) (m8 : Nat) (m9 : Nat) (th : Int) (sm : Int) (ty : Int) (pg : Int) (rw : Int) (un : Int) (pm : Int) (sp : Int) (wr : Int) (ha : Int64) (Z1 : Int → Int) (P1 : Int → Int) (R1 : Int → Int) (U1 : Int → Int) (G1 : Int → Int) (b1 : Int → Int) (c1 : Int → Int) (n1 : Int) (sg : Int) (K1 : Int → Int) (W1 : Int → Int) (T1 : Int → Int) (p1 : Int) (x1 : Int) (hst : zOk n1 sg K1 W1 T1) (hz : zRel n1 sg K1 W1 T1 Z1) (hp : -2147483648 ≤ p1 ∧ p1 < 2147483648) (hx : -2147483648 ≤ x1 ∧ x1 < 2147483648) : zMi l yX5_page wsX5_page rm_X5_page D (zTy cI cS cJ) [.ref q5, .int (zI p1), .int (zI x1)] [(q5, .inr (5, [.int (zI th), .ref m0, .ref m1, .int (zI sm), .ref m2, .int (zI ty), .ref m3, .ref m4, .ref m5, .ref m6, .ref m7, .ref m8, .int (zI pg), .int (zI rw), .int (zI un), .ref m9, .int (zI pm), .int (zI sp), .int (zI wr), .long ha])), (m0, .inl (cI, 74, .inl (zA Z1))), (m3, .inl (cI, 24, .inl (zA P1))), (m4, .inl (cI, 24, .inl (zA R1))), (m5, .inl (cI, 24, .inl (zA U1))), (m6, .inl (cI, 384, .inl (zA G1))), (m7, .inl (cI, 16, .inl (zA b1))), (m8, .inl (cI, 16, .inl (zA c1)))] (fun r w => ∃ (pg2 : Int), ∃ (rw2 : Int), ∃ (un2 : Int), ∃ (P2 : Int → Int), ∃ (R2 : Int → Int), ∃ (U2 : Int → Int), ∃ (G2 : Int → Int), ∃ (b2 : Int → Int), ∃ (c2 : Int → Int), r = zI (zIt (zKg p1 x1) (zNg n1 sg K1 W1 T1 p1 x1) 0) ∧ w = [(q5, .inr (5, [.int (zI (zKg p1 x1)), .ref m0, .ref m1, .int (zI sm), .ref m2, .int (zI ty), .ref m3, .ref m4, .ref m5, .ref m6, .ref m7, .ref m8, .int (zI pg2), .int (zI rw2), .int (zI un2), .ref m9, .int (zI pm), .int (zI sp), .int (zI wr), .long ha])), (m0, .inl (cI, 74, .inl (zA Z1))), (m3, .inl (cI, 24, .inl (zA P2))), (m4, .inl (cI, 24, .inl (zA R2))), (m5, .inl (cI, 24, .inl (zA U2))), (m6, .inl (cI, 384, .inl (zA G2))), (m7, .inl (cI, 16, .inl (zA b2))), (m8, .inl (cI, 16, .inl (zA c2)))]) 0 0 := by
  intro sz
  refine zMet_of (Qc := fun A => va_Qi _ (zB D (zTy cI cS cJ) A) A) RX5 [(0, .ref q5), (1, .int (zI p1)), (2, .int (zI x1))] rfl (by decide +kernel) rfl (Nat.le_of_ble_eq_true rfl) rfl ?_ sz
  intro p e s m args below meth c A Q hQ C hr hini
  have hn := hst.1
  have hz1 := hz.1
  refine zj_aload_n 1 0 C dX5_page_0 rfl rfl rfl ?_
  refine zj_iload_n 2 1 C dX5_page_1 rfl rfl rfl ?_
  refine zj_iconst 3 C dX5_page_2 rfl ?_
  refine zj_bipush 5 C dX5_page_3 rfl rfl ?_
  refine zj_ci 8 [] [0, 1, 2, 3, 4, 5, 6, 7] C (wr := [(q5, .inr (5, [.int (zI th), .ref m0, .ref m1, .int (zI sm), .ref m2, .int (zI ty), .ref m3, .ref m4, .ref m5, .ref m6, .ref m7, .ref m8, .int (zI pg), .int (zI rw), .int (zI un), .ref m9, .int (zI pm), .int (zI sp), .int (zI wr), .long ha])), (m0, .inl (cI, 74, .inl (zA Z1))), (m3, .inl (cI, 24, .inl (zA P1))), (m4, .inl (cI, 24, .inl (zA R1))), (m5, .inl (cI, 24, .inl (zA U1))), (m6, .inl (cI, 384, .inl (zA G1))), (m7, .inl (cI, 16, .inl (zA b1))), (m8, .inl (cI, 16, .inl (zA c1)))]) (zr_S [] C (As := [.int (zI p1), .int (zI 0), .int (zI 15)]) (rest := [.ref q5]) (c_X5_in l D cI cS cJ p1 0 15 (by omega) (by omega) (by omega)) (va_cwS 3 C.1.2.2.2.2 gX5_page_X5_in rfl rfl rfl (by decide +kernel) ⟨Nat.le_of_ble_eq_true rfl, Nat.le_of_ble_eq_true rfl⟩) rfl (by decide) rfl rfl (Nat.le_of_ble_eq_true rfl) dX5_page_5 ⟨Nat.le_of_ble_eq_true rfl, Nat.le_of_ble_eq_true rfl⟩) rfl rfl (by decide) (by decide) rfl (fun r_1 w_ hp_2 => ?_)
  obtain ⟨r1_3, fa, rfl, rfl⟩ := hp_2
  refine zj_ws (ws' := [(q5, .inr (5, [.int (zI th), .ref m0, .ref m1, .int (zI sm), .ref m2, .int (zI ty), .ref m3, .ref m4, .ref m5, .ref m6, .ref m7, .ref m8, .int (zI pg), .int (zI rw), .int (zI un), .ref m9, .int (zI pm), .int (zI sp), .int (zI wr), .long ha])), (m0, .inl (cI, 74, .inl (zA Z1))), (m3, .inl (cI, 24, .inl (zA P1))), (m4, .inl (cI, 24, .inl (zA R1))), (m5, .inl (cI, 24, .inl (zA U1))), (m6, .inl (cI, 384, .inl (zA G1))), (m7, .inl (cI, 16, .inl (zA b1))), (m8, .inl (cI, 16, .inl (zA c1)))]) rfl ?_
  refine zj_if_ne 11 15 C (by omega) dX5_page_8 rfl (by decide) (fun h_4 => ?_) (fun h_4 => ?_)
  · skip
    refine zj_iload_n 16 2 C dX5_page_15 rfl rfl rfl ?_
    refine zj_iconst 17 C dX5_page_16 rfl ?_
    refine zj_iconst 18 C dX5_page_17 rfl ?_
    refine zj_ci 21 [] [0, 1, 2, 3, 4, 5, 6, 7] C (wr := [(q5, .inr (5, [.int (zI th), .ref m0, .ref m1, .int (zI sm), .ref m2, .int (zI ty), .ref m3, .ref m4, .ref m5, .ref m6, .ref m7, .ref m8, .int (zI pg), .int (zI rw), .int (zI un), .ref m9, .int (zI pm), .int (zI sp), .int (zI wr), .long ha])), (m0, .inl (cI, 74, .inl (zA Z1))), (m3, .inl (cI, 24, .inl (zA P1))), (m4, .inl (cI, 24, .inl (zA R1))), (m5, .inl (cI, 24, .inl (zA U1))), (m6, .inl (cI, 384, .inl (zA G1))), (m7, .inl (cI, 16, .inl (zA b1))), (m8, .inl (cI, 16, .inl (zA c1)))]) (zr_S [] C (As := [.int (zI x1), .int (zI 0), .int (zI 5)]) (rest := [.ref q5]) (c_X5_in l D cI cS cJ x1 0 5 (by omega) (by omega) (by omega)) (va_cwS 3 C.1.2.2.2.2 gX5_page_X5_in rfl rfl rfl (by decide +kernel) ⟨Nat.le_of_ble_eq_true rfl, Nat.le_of_ble_eq_true rfl⟩) rfl (by decide) rfl rfl (Nat.le_of_ble_eq_true rfl) dX5_page_18 ⟨Nat.le_of_ble_eq_true rfl, Nat.le_of_ble_eq_true rfl⟩) rfl rfl (by decide) (by decide) rfl (fun r_5 w_ hp_6 => ?_)
    obtain ⟨r1_7, fb, rfl, rfl⟩ := hp_6
    refine zj_ws (ws' := [(q5, .inr (5, [.int (zI th), .ref m0, .ref m1, .int (zI sm), .ref m2, .int (zI ty), .ref m3, .ref m4, .ref m5, .ref m6, .ref m7, .ref m8, .int (zI pg), .int (zI rw), .int (zI un), .ref m9, .int (zI pm), .int (zI sp), .int (zI wr), .long ha])), (m0, .inl (cI, 74, .inl (zA Z1))), (m3, .inl (cI, 24, .inl (zA P1))), (m4, .inl (cI, 24, .inl (zA R1))), (m5, .inl (cI, 24, .inl (zA U1))), (m6, .inl (cI, 384, .inl (zA G1))), (m7, .inl (cI, 16, .inl (zA b1))), (m8, .inl (cI, 16, .inl (zA c1)))]) rfl ?_
    refine zj_if_eq 24 28 C (by omega) dX5_page_21 rfl (by decide) (fun h_8 => ?_) (fun h_8 => ?_)
    · skip
      refine zj_iconst 29 C dX5_page_28 rfl ?_
      have hkv : zKg p1 x1 = 2 := by unfold zKg; (repeat' split) <;> omega
      refine zj_put 32 0 0 [(q5, .inr (5, [.int (zI 2), .ref m0, .ref m1, .int (zI sm), .ref m2, .int (zI ty), .ref m3, .ref m4, .ref m5, .ref m6, .ref m7, .ref m8, .int (zI pg), .int (zI rw), .int (zI un), .ref m9, .int (zI pm), .int (zI sp), .int (zI wr), .long ha])), (m0, .inl (cI, 74, .inl (zA Z1))), (m3, .inl (cI, 24, .inl (zA P1))), (m4, .inl (cI, 24, .inl (zA R1))), (m5, .inl (cI, 24, .inl (zA U1))), (m6, .inl (cI, 384, .inl (zA G1))), (m7, .inl (cI, 16, .inl (zA b1))), (m8, .inl (cI, 16, .inl (zA c1)))] C (T := TX5) tyX5 tyX5_ok nmX5 im_X5_page_5 fl_X5_page_40 rfl rfl (by decide) rfl rfl rfl rfl rfl (Nat.le_of_ble_eq_true rfl) rfl dX5_page_29 rfl ?_
      refine zj_aload_n 33 0 C dX5_page_32 rfl rfl rfl ?_
      refine zj_get 36 0 0 C (T := TX5) im_X5_page_5 fl_X5_page_40 rfl rfl (by decide) rfl rfl dX5_page_33 rfl ?_
      refine zj_if_le 39 41 C (by omega) dX5_page_36 rfl (by decide) (fun h_9 => ?_) (fun h_9 => ?_)
      · exact absurd h_9 (by omega)
      · skip
        refine zj_iconst 40 C dX5_page_39 rfl ?_
        refine zj_ws (ws' := [(q5, .inr (5, [.int (zI (zKg p1 x1)), .ref m0, .ref m1, .int (zI sm), .ref m2, .int (zI ty), .ref m3, .ref m4, .ref m5, .ref m6, .ref m7, .ref m8, .int (zI pg), .int (zI rw), .int (zI un), .ref m9, .int (zI pm), .int (zI sp), .int (zI wr), .long ha])), (m0, .inl (cI, 74, .inl (zA Z1))), (m3, .inl (cI, 24, .inl (zA P1))), (m4, .inl (cI, 24, .inl (zA R1))), (m5, .inl (cI, 24, .inl (zA U1))), (m6, .inl (cI, 384, .inl (zA G1))), (m7, .inl (cI, 16, .inl (zA b1))), (m8, .inl (cI, 16, .inl (zA c1)))]) (by rw [hkv]) ?_
        refine zj_st (st' := [.int (zI (zIt (zKg p1 x1) (zNg n1 sg K1 W1 T1 p1 x1) 0))]) (by rw [zIt_n (show ¬ zKg p1 x1 = 0 by omega)]) ?_
        subst hQ
        exact zj_ireturn C hr ⟨pg, rw, un, P1, R1, U1, G1, b1, c1, rfl, rfl⟩ (by decide) (by decide) dX5_page_40
    · skip
      refine zj_iconst 25 C dX5_page_24 rfl ?_
      refine zj_goto 29 C dX5_page_25 (by decide) ?_
      have hkv : zKg p1 x1 = 0 := by unfold zKg; (repeat' split) <;> omega
      refine zj_put 32 0 0 [(q5, .inr (5, [.int (zI 0), .ref m0, .ref m1, .int (zI sm), .ref m2, .int (zI ty), .ref m3, .ref m4, .ref m5, .ref m6, .ref m7, .ref m8, .int (zI pg), .int (zI rw), .int (zI un), .ref m9, .int (zI pm), .int (zI sp), .int (zI wr), .long ha])), (m0, .inl (cI, 74, .inl (zA Z1))), (m3, .inl (cI, 24, .inl (zA P1))), (m4, .inl (cI, 24, .inl (zA R1))), (m5, .inl (cI, 24, .inl (zA U1))), (m6, .inl (cI, 384, .inl (zA G1))), (m7, .inl (cI, 16, .inl (zA b1))), (m8, .inl (cI, 16, .inl (zA c1)))] C (T := TX5) tyX5 tyX5_ok nmX5 im_X5_page_5 fl_X5_page_40 rfl rfl (by decide) rfl rfl rfl rfl rfl (Nat.le_of_ble_eq_true rfl) rfl dX5_page_29 rfl ?_
      refine zj_aload_n 33 0 C dX5_page_32 rfl rfl rfl ?_
      refine zj_get 36 0 0 C (T := TX5) im_X5_page_5 fl_X5_page_40 rfl rfl (by decide) rfl rfl dX5_page_33 rfl ?_
      refine zj_if_le 39 41 C (by omega) dX5_page_36 rfl (by decide) (fun h_10 => ?_) (fun h_10 => ?_)
      · skip
        refine zj_aload_n 42 0 C dX5_page_41 rfl rfl rfl ?_
        refine zj_cv 45 [0, 1, 2, 3, 4, 5, 6, 7] [] C (wr := []) (zr_V [0, 1, 2, 3, 4, 5, 6, 7] C (As := []) (rest := []) (c_X5_pour2 l D cI cS cJ q5 m0 m1 m2 m3 m4 m5 m6 m7 m8 m9 0 sm ty pg rw un pm sp wr ha Z1 P1 R1 U1 G1 b1 c1 n1 sg K1 W1 T1 hst hz) (cwV 0 C.1.2.2.2.2 gX5_page_X5_pour rfl rfl rfl (by decide +kernel) ⟨Nat.le_of_ble_eq_true rfl, Nat.le_of_ble_eq_true rfl⟩) rfl (by decide) 0 rfl rfl rfl rfl (Nat.le_of_ble_eq_true rfl) dX5_page_42 ⟨Nat.le_of_ble_eq_true rfl, Nat.le_of_ble_eq_true rfl⟩) rfl rfl (by decide) (by decide) rfl (fun w_ hp_12 => ?_)
        obtain ⟨pg2n, rw2n, un2n, P2n, R2n, U2n, hPn, rfl⟩ := hp_12
        refine zj_ws (ws' := [(q5, .inr (5, [.int (zI 0), .ref m0, .ref m1, .int (zI sm), .ref m2, .int (zI ty), .ref m3, .ref m4, .ref m5, .ref m6, .ref m7, .ref m8, .int (zI pg2n), .int (zI rw2n), .int (zI un2n), .ref m9, .int (zI pm), .int (zI sp), .int (zI wr), .long ha])), (m0, .inl (cI, 74, .inl (zA Z1))), (m3, .inl (cI, 24, .inl (zA P2n))), (m4, .inl (cI, 24, .inl (zA R2n))), (m5, .inl (cI, 24, .inl (zA U2n))), (m6, .inl (cI, 384, .inl (zA (zGrid sg K1 W1 T1 n1.toNat)))), (m7, .inl (cI, 16, .inl (zA ((zFin sg K1 W1 T1 n1).2.2.2.2.2.1)))), (m8, .inl (cI, 16, .inl (zA ((zFin sg K1 W1 T1 n1).2.2.2.2.1))))]) rfl ?_
        refine zj_aload_n 46 0 C dX5_page_45 rfl rfl rfl ?_
        refine zj_iload_n 47 1 C dX5_page_46 rfl rfl rfl ?_
        refine zj_iload_n 48 2 C dX5_page_47 rfl rfl rfl ?_
        refine zj_ci 51 [0, 1, 2, 5, 6, 7] [3, 4] C (wr := [(m4, .inl (cI, 24, .inl (zA R2n))), (m5, .inl (cI, 24, .inl (zA U2n)))]) (zr_V [0, 1, 2, 5, 6, 7] C (As := [.int (zI p1), .int (zI x1)]) (rest := []) (c_X5_toldPage2 l D cI cS cJ q5 m0 m1 m2 m3 m4 m5 m6 m7 m8 m9 0 sm ty pg2n rw2n un2n pm sp wr ha Z1 P2n R2n U2n n1 sg K1 W1 T1 p1 x1 hst hz hPn (by omega) (by omega)) (cwV 2 C.1.2.2.2.2 gX5_page_X5_toldPage rfl rfl rfl (by decide +kernel) ⟨Nat.le_of_ble_eq_true rfl, Nat.le_of_ble_eq_true rfl⟩) rfl (by decide) 0 rfl rfl rfl rfl (Nat.le_of_ble_eq_true rfl) dX5_page_48 ⟨Nat.le_of_ble_eq_true rfl, Nat.le_of_ble_eq_true rfl⟩) rfl rfl (by decide) (by decide) rfl (fun r_13 w_ hp_14 => ?_)
        obtain ⟨rfl, rfl⟩ := hp_14
        refine zj_ws (ws' := [(m4, .inl (cI, 24, .inl (zA R2n))), (m5, .inl (cI, 24, .inl (zA U2n))), (q5, .inr (5, [.int (zI 0), .ref m0, .ref m1, .int (zI sm), .ref m2, .int (zI ty), .ref m3, .ref m4, .ref m5, .ref m6, .ref m7, .ref m8, .int (zI pg2n), .int (zI rw2n), .int (zI un2n), .ref m9, .int (zI pm), .int (zI sp), .int (zI wr), .long ha])), (m0, .inl (cI, 74, .inl (zA Z1))), (m3, .inl (cI, 24, .inl (zA P2n))), (m6, .inl (cI, 384, .inl (zA (zGrid sg K1 W1 T1 n1.toNat)))), (m7, .inl (cI, 16, .inl (zA ((zFin sg K1 W1 T1 n1).2.2.2.2.2.1)))), (m8, .inl (cI, 16, .inl (zA ((zFin sg K1 W1 T1 n1).2.2.2.2.1))))]) rfl ?_
        refine zj_re [2, 3, 4, 0, 1, 5, 6, 7] [(q5, .inr (5, [.int (zI 0), .ref m0, .ref m1, .int (zI sm), .ref m2, .int (zI ty), .ref m3, .ref m4, .ref m5, .ref m6, .ref m7, .ref m8, .int (zI pg2n), .int (zI rw2n), .int (zI un2n), .ref m9, .int (zI pm), .int (zI sp), .int (zI wr), .long ha])), (m0, .inl (cI, 74, .inl (zA Z1))), (m3, .inl (cI, 24, .inl (zA P2n))), (m4, .inl (cI, 24, .inl (zA R2n))), (m5, .inl (cI, 24, .inl (zA U2n))), (m6, .inl (cI, 384, .inl (zA (zGrid sg K1 W1 T1 n1.toNat)))), (m7, .inl (cI, 16, .inl (zA ((zFin sg K1 W1 T1 n1).2.2.2.2.2.1)))), (m8, .inl (cI, 16, .inl (zA ((zFin sg K1 W1 T1 n1).2.2.2.2.1))))] (by decide) rfl ?_
        refine zj_ws (ws' := [(q5, .inr (5, [.int (zI (zKg p1 x1)), .ref m0, .ref m1, .int (zI sm), .ref m2, .int (zI ty), .ref m3, .ref m4, .ref m5, .ref m6, .ref m7, .ref m8, .int (zI pg2n), .int (zI rw2n), .int (zI un2n), .ref m9, .int (zI pm), .int (zI sp), .int (zI wr), .long ha])), (m0, .inl (cI, 74, .inl (zA Z1))), (m3, .inl (cI, 24, .inl (zA P2n))), (m4, .inl (cI, 24, .inl (zA R2n))), (m5, .inl (cI, 24, .inl (zA U2n))), (m6, .inl (cI, 384, .inl (zA (zGrid sg K1 W1 T1 n1.toNat)))), (m7, .inl (cI, 16, .inl (zA ((zFin sg K1 W1 T1 n1).2.2.2.2.2.1)))), (m8, .inl (cI, 16, .inl (zA ((zFin sg K1 W1 T1 n1).2.2.2.2.1))))]) (by rw [hkv]) ?_
        refine zj_st (st' := [.int (zI (zIt (zKg p1 x1) (zNg n1 sg K1 W1 T1 p1 x1) 0))]) (by rw [zIt_0 (show zKg p1 x1 = 0 by omega)]) ?_
        subst hQ
        exact zj_ireturn C hr ⟨pg2n, rw2n, un2n, P2n, R2n, U2n, (zGrid sg K1 W1 T1 n1.toNat), (zFin sg K1 W1 T1 n1).2.2.2.2.2.1, (zFin sg K1 W1 T1 n1).2.2.2.2.1, rfl, rfl⟩ (by decide) (by decide) dX5_page_51
      · exact absurd h_10 (by omega)
  · skip
    refine zj_iconst 12 C dX5_page_11 rfl ?_
    refine zj_goto 29 C dX5_page_12 (by decide) ?_
    have hkv : zKg p1 x1 = 1 := by unfold zKg; (repeat' split) <;> omega
    refine zj_put 32 0 0 [(q5, .inr (5, [.int (zI 1), .ref m0, .ref m1, .int (zI sm), .ref m2, .int (zI ty), .ref m3, .ref m4, .ref m5, .ref m6, .ref m7, .ref m8, .int (zI pg), .int (zI rw), .int (zI un), .ref m9, .int (zI pm), .int (zI sp), .int (zI wr), .long ha])), (m0, .inl (cI, 74, .inl (zA Z1))), (m3, .inl (cI, 24, .inl (zA P1))), (m4, .inl (cI, 24, .inl (zA R1))), (m5, .inl (cI, 24, .inl (zA U1))), (m6, .inl (cI, 384, .inl (zA G1))), (m7, .inl (cI, 16, .inl (zA b1))), (m8, .inl (cI, 16, .inl (zA c1)))] C (T := TX5) tyX5 tyX5_ok nmX5 im_X5_page_5 fl_X5_page_40 rfl rfl (by decide) rfl rfl rfl rfl rfl (Nat.le_of_ble_eq_true rfl) rfl dX5_page_29 rfl ?_
    refine zj_aload_n 33 0 C dX5_page_32 rfl rfl rfl ?_
    refine zj_get 36 0 0 C (T := TX5) im_X5_page_5 fl_X5_page_40 rfl rfl (by decide) rfl rfl dX5_page_33 rfl ?_
    refine zj_if_le 39 41 C (by omega) dX5_page_36 rfl (by decide) (fun h_15 => ?_) (fun h_15 => ?_)
    · exact absurd h_15 (by omega)
    · skip
      refine zj_iconst 40 C dX5_page_39 rfl ?_
      refine zj_ws (ws' := [(q5, .inr (5, [.int (zI (zKg p1 x1)), .ref m0, .ref m1, .int (zI sm), .ref m2, .int (zI ty), .ref m3, .ref m4, .ref m5, .ref m6, .ref m7, .ref m8, .int (zI pg), .int (zI rw), .int (zI un), .ref m9, .int (zI pm), .int (zI sp), .int (zI wr), .long ha])), (m0, .inl (cI, 74, .inl (zA Z1))), (m3, .inl (cI, 24, .inl (zA P1))), (m4, .inl (cI, 24, .inl (zA R1))), (m5, .inl (cI, 24, .inl (zA U1))), (m6, .inl (cI, 384, .inl (zA G1))), (m7, .inl (cI, 16, .inl (zA b1))), (m8, .inl (cI, 16, .inl (zA c1)))]) (by rw [hkv]) ?_
      refine zj_st (st' := [.int (zI (zIt (zKg p1 x1) (zNg n1 sg K1 W1 T1 p1 x1) 0))]) (by rw [zIt_n (show ¬ zKg p1 x1 = 0 by omega)]) ?_
      subst hQ
      exact zj_ireturn C hr ⟨pg, rw, un, P1, R1, U1, G1, b1, c1, rfl, rfl⟩ (by decide) (by decide) dX5_page_40

theorem fl_X5_at_40 : Cond.fieldLink RX5 40 "SplashPagesModel" "thrown" "I" ∈ wsX5_at := by decide +kernel
theorem im_X5_at_5 : ∀ w ∈ u_ws RX5 TX5 20, w ∈ wsX5_at := by decide +kernel
theorem fl_X5_at_28 : Cond.fieldLink RX5 28 "SplashPagesModel" "grid" "[I" ∈ wsX5_at := by decide +kernel
abbrev rm_X5_at : Room := { frames := 4, cells := 0, slots := 0, locals := 92 }
set_option maxRecDepth 100000 in
set_option maxHeartbeats 4000000 in
theorem c_X5_at (l : Launch) (D : va_G) (cI cS cJ : ClassId) (q5 : Nat) (m0 : Nat) (m1 : Nat) (m2 : Nat) (m3 : Nat) (m4 : Nat) (m5 : Nat) (m6 : Nat) (m7 : Nat) (m8 : Nat) (m9 : Nat) (th : Int) (sm : Int) (ty : Int) (pg : Int) (rw : Int) (un : Int) (pm : Int) (sp : Int) (wr : Int) (ha : Int64) (Z1 : Int → Int) (P1 : Int → Int) (R1 : Int → Int) (U1 : Int → Int) (G1 : Int → Int) (b1 : Int → Int) (c1 : Int → Int) (n1 : Int) (sg : Int) (K1 : Int → Int) (W1 : Int → Int) (T1 : Int → Int) (p1 : Int) (r1 : Int) (u1 : Int) (hst : zOk n1 sg K1 W1 T1) (hz : zRel n1 sg K1 W1 T1 Z1) (hp : -2147483648 ≤ p1 ∧ p1 < 2147483648) (hr1 : -2147483648 ≤ r1 ∧ r1 < 2147483648) (hu1 : -2147483648 ≤ u1 ∧ u1 < 2147483648) : zMi l yX5_at wsX5_at rm_X5_at D (zTy cI cS cJ) [.ref q5, .int (zI p1), .int (zI r1), .int (zI u1)] [(q5, .inr (5, [.int (zI th), .ref m0, .ref m1, .int (zI sm), .ref m2, .int (zI ty), .ref m3, .ref m4, .ref m5, .ref m6, .ref m7, .ref m8, .int (zI pg), .int (zI rw), .int (zI un), .ref m9, .int (zI pm), .int (zI sp), .int (zI wr), .long ha])), (m0, .inl (cI, 74, .inl (zA Z1))), (m3, .inl (cI, 24, .inl (zA P1))), (m4, .inl (cI, 24, .inl (zA R1))), (m5, .inl (cI, 24, .inl (zA U1))), (m6, .inl (cI, 384, .inl (zA G1))), (m7, .inl (cI, 16, .inl (zA b1))), (m8, .inl (cI, 16, .inl (zA c1)))] (fun r w => ∃ (pg2 : Int), ∃ (rw2 : Int), ∃ (un2 : Int), ∃ (P2 : Int → Int), ∃ (R2 : Int → Int), ∃ (U2 : Int → Int), ∃ (G2 : Int → Int), ∃ (b2 : Int → Int), ∃ (c2 : Int → Int), r = zI (zIt (zKa p1 r1 u1) (zGrid sg K1 W1 T1 n1.toNat (24 * p1 + 6 * r1 + u1)) 0) ∧ w = [(q5, .inr (5, [.int (zI (zKa p1 r1 u1)), .ref m0, .ref m1, .int (zI sm), .ref m2, .int (zI ty), .ref m3, .ref m4, .ref m5, .ref m6, .ref m7, .ref m8, .int (zI pg2), .int (zI rw2), .int (zI un2), .ref m9, .int (zI pm), .int (zI sp), .int (zI wr), .long ha])), (m0, .inl (cI, 74, .inl (zA Z1))), (m3, .inl (cI, 24, .inl (zA P2))), (m4, .inl (cI, 24, .inl (zA R2))), (m5, .inl (cI, 24, .inl (zA U2))), (m6, .inl (cI, 384, .inl (zA G2))), (m7, .inl (cI, 16, .inl (zA b2))), (m8, .inl (cI, 16, .inl (zA c2)))]) 0 0 := by
  intro sz
  refine zMet_of (Qc := fun A => va_Qi _ (zB D (zTy cI cS cJ) A) A) RX5 [(0, .ref q5), (1, .int (zI p1)), (2, .int (zI r1)), (3, .int (zI u1))] rfl (by decide +kernel) rfl (Nat.le_of_ble_eq_true rfl) rfl ?_ sz
  intro p e s m args below meth c A Q hQ C hr hini
  have hn := hst.1
  have hz1 := hz.1
  refine zj_aload_n 1 0 C dX5_at_0 rfl rfl rfl ?_
  refine zj_iload_n 2 1 C dX5_at_1 rfl rfl rfl ?_
  refine zj_iconst 3 C dX5_at_2 rfl ?_
  refine zj_bipush 5 C dX5_at_3 rfl rfl ?_
  refine zj_ci 8 [] [0, 1, 2, 3, 4, 5, 6, 7] C (wr := [(q5, .inr (5, [.int (zI th), .ref m0, .ref m1, .int (zI sm), .ref m2, .int (zI ty), .ref m3, .ref m4, .ref m5, .ref m6, .ref m7, .ref m8, .int (zI pg), .int (zI rw), .int (zI un), .ref m9, .int (zI pm), .int (zI sp), .int (zI wr), .long ha])), (m0, .inl (cI, 74, .inl (zA Z1))), (m3, .inl (cI, 24, .inl (zA P1))), (m4, .inl (cI, 24, .inl (zA R1))), (m5, .inl (cI, 24, .inl (zA U1))), (m6, .inl (cI, 384, .inl (zA G1))), (m7, .inl (cI, 16, .inl (zA b1))), (m8, .inl (cI, 16, .inl (zA c1)))]) (zr_S [] C (As := [.int (zI p1), .int (zI 0), .int (zI 15)]) (rest := [.ref q5]) (c_X5_in l D cI cS cJ p1 0 15 (by omega) (by omega) (by omega)) (va_cwS 3 C.1.2.2.2.2 gX5_at_X5_in rfl rfl rfl (by decide +kernel) ⟨Nat.le_of_ble_eq_true rfl, Nat.le_of_ble_eq_true rfl⟩) rfl (by decide) rfl rfl (Nat.le_of_ble_eq_true rfl) dX5_at_5 ⟨Nat.le_of_ble_eq_true rfl, Nat.le_of_ble_eq_true rfl⟩) rfl rfl (by decide) (by decide) rfl (fun r_1 w_ hp_2 => ?_)
  obtain ⟨ra, fa, rfl, rfl⟩ := hp_2
  refine zj_ws (ws' := [(q5, .inr (5, [.int (zI th), .ref m0, .ref m1, .int (zI sm), .ref m2, .int (zI ty), .ref m3, .ref m4, .ref m5, .ref m6, .ref m7, .ref m8, .int (zI pg), .int (zI rw), .int (zI un), .ref m9, .int (zI pm), .int (zI sp), .int (zI wr), .long ha])), (m0, .inl (cI, 74, .inl (zA Z1))), (m3, .inl (cI, 24, .inl (zA P1))), (m4, .inl (cI, 24, .inl (zA R1))), (m5, .inl (cI, 24, .inl (zA U1))), (m6, .inl (cI, 384, .inl (zA G1))), (m7, .inl (cI, 16, .inl (zA b1))), (m8, .inl (cI, 16, .inl (zA c1)))]) rfl ?_
  refine zj_if_eq 11 33 C (by omega) dX5_at_8 rfl (by decide) (fun h_3 => ?_) (fun h_3 => ?_)
  · skip
    refine zj_iconst 34 C dX5_at_33 rfl ?_
    have hkv : zKa p1 r1 u1 = 1 := by unfold zKa; (repeat' split) <;> omega
    refine zj_put 37 0 0 [(q5, .inr (5, [.int (zI 1), .ref m0, .ref m1, .int (zI sm), .ref m2, .int (zI ty), .ref m3, .ref m4, .ref m5, .ref m6, .ref m7, .ref m8, .int (zI pg), .int (zI rw), .int (zI un), .ref m9, .int (zI pm), .int (zI sp), .int (zI wr), .long ha])), (m0, .inl (cI, 74, .inl (zA Z1))), (m3, .inl (cI, 24, .inl (zA P1))), (m4, .inl (cI, 24, .inl (zA R1))), (m5, .inl (cI, 24, .inl (zA U1))), (m6, .inl (cI, 384, .inl (zA G1))), (m7, .inl (cI, 16, .inl (zA b1))), (m8, .inl (cI, 16, .inl (zA c1)))] C (T := TX5) tyX5 tyX5_ok nmX5 im_X5_at_5 fl_X5_at_40 rfl rfl (by decide) rfl rfl rfl rfl rfl (Nat.le_of_ble_eq_true rfl) rfl dX5_at_34 rfl ?_
    refine zj_aload_n 38 0 C dX5_at_37 rfl rfl rfl ?_
    refine zj_get 41 0 0 C (T := TX5) im_X5_at_5 fl_X5_at_40 rfl rfl (by decide) rfl rfl dX5_at_38 rfl ?_
    refine zj_if_le 44 46 C (by omega) dX5_at_41 rfl (by decide) (fun h_4 => ?_) (fun h_4 => ?_)
    · exact absurd h_4 (by omega)
    · skip
      refine zj_iconst 45 C dX5_at_44 rfl ?_
      refine zj_ws (ws' := [(q5, .inr (5, [.int (zI (zKa p1 r1 u1)), .ref m0, .ref m1, .int (zI sm), .ref m2, .int (zI ty), .ref m3, .ref m4, .ref m5, .ref m6, .ref m7, .ref m8, .int (zI pg), .int (zI rw), .int (zI un), .ref m9, .int (zI pm), .int (zI sp), .int (zI wr), .long ha])), (m0, .inl (cI, 74, .inl (zA Z1))), (m3, .inl (cI, 24, .inl (zA P1))), (m4, .inl (cI, 24, .inl (zA R1))), (m5, .inl (cI, 24, .inl (zA U1))), (m6, .inl (cI, 384, .inl (zA G1))), (m7, .inl (cI, 16, .inl (zA b1))), (m8, .inl (cI, 16, .inl (zA c1)))]) (by rw [hkv]) ?_
      refine zj_st (st' := [.int (zI (zIt (zKa p1 r1 u1) (zGrid sg K1 W1 T1 n1.toNat (24 * p1 + 6 * r1 + u1)) 0))]) (by rw [zIt_n (show ¬ zKa p1 r1 u1 = 0 by omega)]) ?_
      subst hQ
      exact zj_ireturn C hr ⟨pg, rw, un, P1, R1, U1, G1, b1, c1, rfl, rfl⟩ (by decide) (by decide) dX5_at_45
  · skip
    refine zj_iload_n 12 2 C dX5_at_11 rfl rfl rfl ?_
    refine zj_iconst 13 C dX5_at_12 rfl ?_
    refine zj_iconst 14 C dX5_at_13 rfl ?_
    refine zj_ci 17 [] [0, 1, 2, 3, 4, 5, 6, 7] C (wr := [(q5, .inr (5, [.int (zI th), .ref m0, .ref m1, .int (zI sm), .ref m2, .int (zI ty), .ref m3, .ref m4, .ref m5, .ref m6, .ref m7, .ref m8, .int (zI pg), .int (zI rw), .int (zI un), .ref m9, .int (zI pm), .int (zI sp), .int (zI wr), .long ha])), (m0, .inl (cI, 74, .inl (zA Z1))), (m3, .inl (cI, 24, .inl (zA P1))), (m4, .inl (cI, 24, .inl (zA R1))), (m5, .inl (cI, 24, .inl (zA U1))), (m6, .inl (cI, 384, .inl (zA G1))), (m7, .inl (cI, 16, .inl (zA b1))), (m8, .inl (cI, 16, .inl (zA c1)))]) (zr_S [] C (As := [.int (zI r1), .int (zI 0), .int (zI 3)]) (rest := [.ref q5]) (c_X5_in l D cI cS cJ r1 0 3 (by omega) (by omega) (by omega)) (va_cwS 3 C.1.2.2.2.2 gX5_at_X5_in rfl rfl rfl (by decide +kernel) ⟨Nat.le_of_ble_eq_true rfl, Nat.le_of_ble_eq_true rfl⟩) rfl (by decide) rfl rfl (Nat.le_of_ble_eq_true rfl) dX5_at_14 ⟨Nat.le_of_ble_eq_true rfl, Nat.le_of_ble_eq_true rfl⟩) rfl rfl (by decide) (by decide) rfl (fun r_5 w_ hp_6 => ?_)
    obtain ⟨rb, fb, rfl, rfl⟩ := hp_6
    refine zj_ws (ws' := [(q5, .inr (5, [.int (zI th), .ref m0, .ref m1, .int (zI sm), .ref m2, .int (zI ty), .ref m3, .ref m4, .ref m5, .ref m6, .ref m7, .ref m8, .int (zI pg), .int (zI rw), .int (zI un), .ref m9, .int (zI pm), .int (zI sp), .int (zI wr), .long ha])), (m0, .inl (cI, 74, .inl (zA Z1))), (m3, .inl (cI, 24, .inl (zA P1))), (m4, .inl (cI, 24, .inl (zA R1))), (m5, .inl (cI, 24, .inl (zA U1))), (m6, .inl (cI, 384, .inl (zA G1))), (m7, .inl (cI, 16, .inl (zA b1))), (m8, .inl (cI, 16, .inl (zA c1)))]) rfl ?_
    refine zj_if_eq 20 33 C (by omega) dX5_at_17 rfl (by decide) (fun h_7 => ?_) (fun h_7 => ?_)
    · skip
      refine zj_iconst 34 C dX5_at_33 rfl ?_
      have hkv : zKa p1 r1 u1 = 1 := by unfold zKa; (repeat' split) <;> omega
      refine zj_put 37 0 0 [(q5, .inr (5, [.int (zI 1), .ref m0, .ref m1, .int (zI sm), .ref m2, .int (zI ty), .ref m3, .ref m4, .ref m5, .ref m6, .ref m7, .ref m8, .int (zI pg), .int (zI rw), .int (zI un), .ref m9, .int (zI pm), .int (zI sp), .int (zI wr), .long ha])), (m0, .inl (cI, 74, .inl (zA Z1))), (m3, .inl (cI, 24, .inl (zA P1))), (m4, .inl (cI, 24, .inl (zA R1))), (m5, .inl (cI, 24, .inl (zA U1))), (m6, .inl (cI, 384, .inl (zA G1))), (m7, .inl (cI, 16, .inl (zA b1))), (m8, .inl (cI, 16, .inl (zA c1)))] C (T := TX5) tyX5 tyX5_ok nmX5 im_X5_at_5 fl_X5_at_40 rfl rfl (by decide) rfl rfl rfl rfl rfl (Nat.le_of_ble_eq_true rfl) rfl dX5_at_34 rfl ?_
      refine zj_aload_n 38 0 C dX5_at_37 rfl rfl rfl ?_
      refine zj_get 41 0 0 C (T := TX5) im_X5_at_5 fl_X5_at_40 rfl rfl (by decide) rfl rfl dX5_at_38 rfl ?_
      refine zj_if_le 44 46 C (by omega) dX5_at_41 rfl (by decide) (fun h_8 => ?_) (fun h_8 => ?_)
      · exact absurd h_8 (by omega)
      · skip
        refine zj_iconst 45 C dX5_at_44 rfl ?_
        refine zj_ws (ws' := [(q5, .inr (5, [.int (zI (zKa p1 r1 u1)), .ref m0, .ref m1, .int (zI sm), .ref m2, .int (zI ty), .ref m3, .ref m4, .ref m5, .ref m6, .ref m7, .ref m8, .int (zI pg), .int (zI rw), .int (zI un), .ref m9, .int (zI pm), .int (zI sp), .int (zI wr), .long ha])), (m0, .inl (cI, 74, .inl (zA Z1))), (m3, .inl (cI, 24, .inl (zA P1))), (m4, .inl (cI, 24, .inl (zA R1))), (m5, .inl (cI, 24, .inl (zA U1))), (m6, .inl (cI, 384, .inl (zA G1))), (m7, .inl (cI, 16, .inl (zA b1))), (m8, .inl (cI, 16, .inl (zA c1)))]) (by rw [hkv]) ?_
        refine zj_st (st' := [.int (zI (zIt (zKa p1 r1 u1) (zGrid sg K1 W1 T1 n1.toNat (24 * p1 + 6 * r1 + u1)) 0))]) (by rw [zIt_n (show ¬ zKa p1 r1 u1 = 0 by omega)]) ?_
        subst hQ
        exact zj_ireturn C hr ⟨pg, rw, un, P1, R1, U1, G1, b1, c1, rfl, rfl⟩ (by decide) (by decide) dX5_at_45
    · skip
      refine zj_iload_n 21 3 C dX5_at_20 rfl rfl rfl ?_
      refine zj_iconst 22 C dX5_at_21 rfl ?_
      refine zj_iconst 23 C dX5_at_22 rfl ?_
      refine zj_ci 26 [] [0, 1, 2, 3, 4, 5, 6, 7] C (wr := [(q5, .inr (5, [.int (zI th), .ref m0, .ref m1, .int (zI sm), .ref m2, .int (zI ty), .ref m3, .ref m4, .ref m5, .ref m6, .ref m7, .ref m8, .int (zI pg), .int (zI rw), .int (zI un), .ref m9, .int (zI pm), .int (zI sp), .int (zI wr), .long ha])), (m0, .inl (cI, 74, .inl (zA Z1))), (m3, .inl (cI, 24, .inl (zA P1))), (m4, .inl (cI, 24, .inl (zA R1))), (m5, .inl (cI, 24, .inl (zA U1))), (m6, .inl (cI, 384, .inl (zA G1))), (m7, .inl (cI, 16, .inl (zA b1))), (m8, .inl (cI, 16, .inl (zA c1)))]) (zr_S [] C (As := [.int (zI u1), .int (zI 0), .int (zI 5)]) (rest := [.ref q5]) (c_X5_in l D cI cS cJ u1 0 5 (by omega) (by omega) (by omega)) (va_cwS 3 C.1.2.2.2.2 gX5_at_X5_in rfl rfl rfl (by decide +kernel) ⟨Nat.le_of_ble_eq_true rfl, Nat.le_of_ble_eq_true rfl⟩) rfl (by decide) rfl rfl (Nat.le_of_ble_eq_true rfl) dX5_at_23 ⟨Nat.le_of_ble_eq_true rfl, Nat.le_of_ble_eq_true rfl⟩) rfl rfl (by decide) (by decide) rfl (fun r_9 w_ hp_10 => ?_)
      obtain ⟨rc, fc, rfl, rfl⟩ := hp_10
      refine zj_ws (ws' := [(q5, .inr (5, [.int (zI th), .ref m0, .ref m1, .int (zI sm), .ref m2, .int (zI ty), .ref m3, .ref m4, .ref m5, .ref m6, .ref m7, .ref m8, .int (zI pg), .int (zI rw), .int (zI un), .ref m9, .int (zI pm), .int (zI sp), .int (zI wr), .long ha])), (m0, .inl (cI, 74, .inl (zA Z1))), (m3, .inl (cI, 24, .inl (zA P1))), (m4, .inl (cI, 24, .inl (zA R1))), (m5, .inl (cI, 24, .inl (zA U1))), (m6, .inl (cI, 384, .inl (zA G1))), (m7, .inl (cI, 16, .inl (zA b1))), (m8, .inl (cI, 16, .inl (zA c1)))]) rfl ?_
      refine zj_if_eq 29 33 C (by omega) dX5_at_26 rfl (by decide) (fun h_11 => ?_) (fun h_11 => ?_)
      · skip
        refine zj_iconst 34 C dX5_at_33 rfl ?_
        have hkv : zKa p1 r1 u1 = 1 := by unfold zKa; (repeat' split) <;> omega
        refine zj_put 37 0 0 [(q5, .inr (5, [.int (zI 1), .ref m0, .ref m1, .int (zI sm), .ref m2, .int (zI ty), .ref m3, .ref m4, .ref m5, .ref m6, .ref m7, .ref m8, .int (zI pg), .int (zI rw), .int (zI un), .ref m9, .int (zI pm), .int (zI sp), .int (zI wr), .long ha])), (m0, .inl (cI, 74, .inl (zA Z1))), (m3, .inl (cI, 24, .inl (zA P1))), (m4, .inl (cI, 24, .inl (zA R1))), (m5, .inl (cI, 24, .inl (zA U1))), (m6, .inl (cI, 384, .inl (zA G1))), (m7, .inl (cI, 16, .inl (zA b1))), (m8, .inl (cI, 16, .inl (zA c1)))] C (T := TX5) tyX5 tyX5_ok nmX5 im_X5_at_5 fl_X5_at_40 rfl rfl (by decide) rfl rfl rfl rfl rfl (Nat.le_of_ble_eq_true rfl) rfl dX5_at_34 rfl ?_
        refine zj_aload_n 38 0 C dX5_at_37 rfl rfl rfl ?_
        refine zj_get 41 0 0 C (T := TX5) im_X5_at_5 fl_X5_at_40 rfl rfl (by decide) rfl rfl dX5_at_38 rfl ?_
        refine zj_if_le 44 46 C (by omega) dX5_at_41 rfl (by decide) (fun h_12 => ?_) (fun h_12 => ?_)
        · exact absurd h_12 (by omega)
        · skip
          refine zj_iconst 45 C dX5_at_44 rfl ?_
          refine zj_ws (ws' := [(q5, .inr (5, [.int (zI (zKa p1 r1 u1)), .ref m0, .ref m1, .int (zI sm), .ref m2, .int (zI ty), .ref m3, .ref m4, .ref m5, .ref m6, .ref m7, .ref m8, .int (zI pg), .int (zI rw), .int (zI un), .ref m9, .int (zI pm), .int (zI sp), .int (zI wr), .long ha])), (m0, .inl (cI, 74, .inl (zA Z1))), (m3, .inl (cI, 24, .inl (zA P1))), (m4, .inl (cI, 24, .inl (zA R1))), (m5, .inl (cI, 24, .inl (zA U1))), (m6, .inl (cI, 384, .inl (zA G1))), (m7, .inl (cI, 16, .inl (zA b1))), (m8, .inl (cI, 16, .inl (zA c1)))]) (by rw [hkv]) ?_
          refine zj_st (st' := [.int (zI (zIt (zKa p1 r1 u1) (zGrid sg K1 W1 T1 n1.toNat (24 * p1 + 6 * r1 + u1)) 0))]) (by rw [zIt_n (show ¬ zKa p1 r1 u1 = 0 by omega)]) ?_
          subst hQ
          exact zj_ireturn C hr ⟨pg, rw, un, P1, R1, U1, G1, b1, c1, rfl, rfl⟩ (by decide) (by decide) dX5_at_45
      · skip
        refine zj_iconst 30 C dX5_at_29 rfl ?_
        refine zj_goto 34 C dX5_at_30 (by decide) ?_
        have hkv : zKa p1 r1 u1 = 0 := by unfold zKa; (repeat' split) <;> omega
        refine zj_put 37 0 0 [(q5, .inr (5, [.int (zI 0), .ref m0, .ref m1, .int (zI sm), .ref m2, .int (zI ty), .ref m3, .ref m4, .ref m5, .ref m6, .ref m7, .ref m8, .int (zI pg), .int (zI rw), .int (zI un), .ref m9, .int (zI pm), .int (zI sp), .int (zI wr), .long ha])), (m0, .inl (cI, 74, .inl (zA Z1))), (m3, .inl (cI, 24, .inl (zA P1))), (m4, .inl (cI, 24, .inl (zA R1))), (m5, .inl (cI, 24, .inl (zA U1))), (m6, .inl (cI, 384, .inl (zA G1))), (m7, .inl (cI, 16, .inl (zA b1))), (m8, .inl (cI, 16, .inl (zA c1)))] C (T := TX5) tyX5 tyX5_ok nmX5 im_X5_at_5 fl_X5_at_40 rfl rfl (by decide) rfl rfl rfl rfl rfl (Nat.le_of_ble_eq_true rfl) rfl dX5_at_34 rfl ?_
        refine zj_aload_n 38 0 C dX5_at_37 rfl rfl rfl ?_
        refine zj_get 41 0 0 C (T := TX5) im_X5_at_5 fl_X5_at_40 rfl rfl (by decide) rfl rfl dX5_at_38 rfl ?_
        refine zj_if_le 44 46 C (by omega) dX5_at_41 rfl (by decide) (fun h_13 => ?_) (fun h_13 => ?_)
        · skip
          refine zj_aload_n 47 0 C dX5_at_46 rfl rfl rfl ?_
          refine zj_cv 50 [0, 1, 2, 3, 4, 5, 6, 7] [] C (wr := []) (zr_V [0, 1, 2, 3, 4, 5, 6, 7] C (As := []) (rest := []) (c_X5_pour2 l D cI cS cJ q5 m0 m1 m2 m3 m4 m5 m6 m7 m8 m9 0 sm ty pg rw un pm sp wr ha Z1 P1 R1 U1 G1 b1 c1 n1 sg K1 W1 T1 hst hz) (cwV 0 C.1.2.2.2.2 gX5_at_X5_pour rfl rfl rfl (by decide +kernel) ⟨Nat.le_of_ble_eq_true rfl, Nat.le_of_ble_eq_true rfl⟩) rfl (by decide) 0 rfl rfl rfl rfl (Nat.le_of_ble_eq_true rfl) dX5_at_47 ⟨Nat.le_of_ble_eq_true rfl, Nat.le_of_ble_eq_true rfl⟩) rfl rfl (by decide) (by decide) rfl (fun w_ hp_15 => ?_)
          obtain ⟨pg2n, rw2n, un2n, P2n, R2n, U2n, hPn, rfl⟩ := hp_15
          refine zj_ws (ws' := [(q5, .inr (5, [.int (zI 0), .ref m0, .ref m1, .int (zI sm), .ref m2, .int (zI ty), .ref m3, .ref m4, .ref m5, .ref m6, .ref m7, .ref m8, .int (zI pg2n), .int (zI rw2n), .int (zI un2n), .ref m9, .int (zI pm), .int (zI sp), .int (zI wr), .long ha])), (m0, .inl (cI, 74, .inl (zA Z1))), (m3, .inl (cI, 24, .inl (zA P2n))), (m4, .inl (cI, 24, .inl (zA R2n))), (m5, .inl (cI, 24, .inl (zA U2n))), (m6, .inl (cI, 384, .inl (zA (zGrid sg K1 W1 T1 n1.toNat)))), (m7, .inl (cI, 16, .inl (zA ((zFin sg K1 W1 T1 n1).2.2.2.2.2.1)))), (m8, .inl (cI, 16, .inl (zA ((zFin sg K1 W1 T1 n1).2.2.2.2.1))))]) rfl ?_
          refine zj_aload_n 51 0 C dX5_at_50 rfl rfl rfl ?_
          refine zj_get 54 0 9 C (T := TX5) im_X5_at_5 fl_X5_at_28 rfl rfl (by decide) rfl rfl dX5_at_51 rfl ?_
          refine zj_bipush 56 C dX5_at_54 rfl rfl ?_
          refine zj_iload_n 57 1 C dX5_at_56 rfl rfl rfl ?_
          refine zj_imul 58 C dX5_at_57 rfl ?_
          refine zj_bipush 60 C dX5_at_58 rfl rfl ?_
          refine zj_iload_n 61 2 C dX5_at_60 rfl rfl rfl ?_
          refine zj_imul 62 C dX5_at_61 rfl ?_
          refine zj_iadd 63 C dX5_at_62 rfl ?_
          refine zj_iload_n 64 3 C dX5_at_63 rfl rfl rfl ?_
          refine zj_iadd 65 C dX5_at_64 rfl ?_
          refine zj_iald 66 5 C (by omega) (by omega) rfl rfl dX5_at_65 rfl ?_
          refine zj_ws (ws' := [(q5, .inr (5, [.int (zI (zKa p1 r1 u1)), .ref m0, .ref m1, .int (zI sm), .ref m2, .int (zI ty), .ref m3, .ref m4, .ref m5, .ref m6, .ref m7, .ref m8, .int (zI pg2n), .int (zI rw2n), .int (zI un2n), .ref m9, .int (zI pm), .int (zI sp), .int (zI wr), .long ha])), (m0, .inl (cI, 74, .inl (zA Z1))), (m3, .inl (cI, 24, .inl (zA P2n))), (m4, .inl (cI, 24, .inl (zA R2n))), (m5, .inl (cI, 24, .inl (zA U2n))), (m6, .inl (cI, 384, .inl (zA (zGrid sg K1 W1 T1 n1.toNat)))), (m7, .inl (cI, 16, .inl (zA ((zFin sg K1 W1 T1 n1).2.2.2.2.2.1)))), (m8, .inl (cI, 16, .inl (zA ((zFin sg K1 W1 T1 n1).2.2.2.2.1))))]) (by rw [hkv]) ?_
          refine zj_st (st' := [.int (zI (zIt (zKa p1 r1 u1) (zGrid sg K1 W1 T1 n1.toNat (24 * p1 + 6 * r1 + u1)) 0))]) (by rw [zIt_0 (show zKa p1 r1 u1 = 0 by omega)]) ?_
          subst hQ
          exact zj_ireturn C hr ⟨pg2n, rw2n, un2n, P2n, R2n, U2n, (zGrid sg K1 W1 T1 n1.toNat), (zFin sg K1 W1 T1 n1).2.2.2.2.2.1, (zFin sg K1 W1 T1 n1).2.2.2.2.1, rfl, rfl⟩ (by decide) (by decide) dX5_at_66
        · exact absurd h_13 (by omega)

theorem fl_X5_count_40 : Cond.fieldLink RX5 40 "SplashPagesModel" "thrown" "I" ∈ wsX5_count := by decide +kernel
theorem im_X5_count_5 : ∀ w ∈ u_ws RX5 TX5 20, w ∈ wsX5_count := by decide +kernel
abbrev rm_X5_count : Room := { frames := 4, cells := 0, slots := 0, locals := 92 }
set_option maxRecDepth 100000 in
set_option maxHeartbeats 4000000 in
theorem c_X5_count (l : Launch) (D : va_G) (cI cS cJ : ClassId) (q5 : Nat) (m0 : Nat) (m1 : Nat) (m2 : Nat) (m3 : Nat) (m4 : Nat) (m5 : Nat) (m6 : Nat) (m7 : Nat) (m8 : Nat) (m9 : Nat) (th : Int) (sm : Int) (ty : Int) (pg : Int) (rw : Int) (un : Int) (pm : Int) (sp : Int) (wr : Int) (ha : Int64) (Z1 : Int → Int) (P1 : Int → Int) (R1 : Int → Int) (U1 : Int → Int) (G1 : Int → Int) (b1 : Int → Int) (c1 : Int → Int) (n1 : Int) (sg : Int) (K1 : Int → Int) (W1 : Int → Int) (T1 : Int → Int) (x1 : Int) (hst : zOk n1 sg K1 W1 T1) (hz : zRel n1 sg K1 W1 T1 Z1) (hx : -2147483648 ≤ x1 ∧ x1 < 2147483648) : zMi l yX5_count wsX5_count rm_X5_count D (zTy cI cS cJ) [.ref q5, .int (zI x1)] [(q5, .inr (5, [.int (zI th), .ref m0, .ref m1, .int (zI sm), .ref m2, .int (zI ty), .ref m3, .ref m4, .ref m5, .ref m6, .ref m7, .ref m8, .int (zI pg), .int (zI rw), .int (zI un), .ref m9, .int (zI pm), .int (zI sp), .int (zI wr), .long ha])), (m0, .inl (cI, 74, .inl (zA Z1))), (m3, .inl (cI, 24, .inl (zA P1))), (m4, .inl (cI, 24, .inl (zA R1))), (m5, .inl (cI, 24, .inl (zA U1))), (m6, .inl (cI, 384, .inl (zA G1))), (m7, .inl (cI, 16, .inl (zA b1))), (m8, .inl (cI, 16, .inl (zA c1)))] (fun r w => ∃ (pg2 : Int), ∃ (rw2 : Int), ∃ (un2 : Int), ∃ (P2 : Int → Int), ∃ (R2 : Int → Int), ∃ (U2 : Int → Int), ∃ (G2 : Int → Int), ∃ (b2 : Int → Int), ∃ (c2 : Int → Int), r = zI (zIt (zKc x1) (zNc n1 sg K1 W1 T1 sm x1) 0) ∧ w = [(q5, .inr (5, [.int (zI (zKc x1)), .ref m0, .ref m1, .int (zI sm), .ref m2, .int (zI ty), .ref m3, .ref m4, .ref m5, .ref m6, .ref m7, .ref m8, .int (zI pg2), .int (zI rw2), .int (zI un2), .ref m9, .int (zI pm), .int (zI sp), .int (zI wr), .long ha])), (m0, .inl (cI, 74, .inl (zA Z1))), (m3, .inl (cI, 24, .inl (zA P2))), (m4, .inl (cI, 24, .inl (zA R2))), (m5, .inl (cI, 24, .inl (zA U2))), (m6, .inl (cI, 384, .inl (zA G2))), (m7, .inl (cI, 16, .inl (zA b2))), (m8, .inl (cI, 16, .inl (zA c2)))]) 0 0 := by
  intro sz
  refine zMet_of (Qc := fun A => va_Qi _ (zB D (zTy cI cS cJ) A) A) RX5 [(0, .ref q5), (1, .int (zI x1))] rfl (by decide +kernel) rfl (Nat.le_of_ble_eq_true rfl) rfl ?_ sz
  intro p e s m args below meth c A Q hQ C hr hini
  have hn := hst.1
  have hz1 := hz.1
  refine zj_aload_n 1 0 C dX5_count_0 rfl rfl rfl ?_
  refine zj_iload_n 2 1 C dX5_count_1 rfl rfl rfl ?_
  refine zj_iconst 3 C dX5_count_2 rfl ?_
  refine zj_bipush 5 C dX5_count_3 rfl rfl ?_
  refine zj_ci 8 [] [0, 1, 2, 3, 4, 5, 6, 7] C (wr := [(q5, .inr (5, [.int (zI th), .ref m0, .ref m1, .int (zI sm), .ref m2, .int (zI ty), .ref m3, .ref m4, .ref m5, .ref m6, .ref m7, .ref m8, .int (zI pg), .int (zI rw), .int (zI un), .ref m9, .int (zI pm), .int (zI sp), .int (zI wr), .long ha])), (m0, .inl (cI, 74, .inl (zA Z1))), (m3, .inl (cI, 24, .inl (zA P1))), (m4, .inl (cI, 24, .inl (zA R1))), (m5, .inl (cI, 24, .inl (zA U1))), (m6, .inl (cI, 384, .inl (zA G1))), (m7, .inl (cI, 16, .inl (zA b1))), (m8, .inl (cI, 16, .inl (zA c1)))]) (zr_S [] C (As := [.int (zI x1), .int (zI 0), .int (zI 8)]) (rest := [.ref q5]) (c_X5_in l D cI cS cJ x1 0 8 (by omega) (by omega) (by omega)) (va_cwS 3 C.1.2.2.2.2 gX5_count_X5_in rfl rfl rfl (by decide +kernel) ⟨Nat.le_of_ble_eq_true rfl, Nat.le_of_ble_eq_true rfl⟩) rfl (by decide) rfl rfl (Nat.le_of_ble_eq_true rfl) dX5_count_5 ⟨Nat.le_of_ble_eq_true rfl, Nat.le_of_ble_eq_true rfl⟩) rfl rfl (by decide) (by decide) rfl (fun r_1 w_ hp_2 => ?_)
  obtain ⟨r1_3, fa, rfl, rfl⟩ := hp_2
  refine zj_ws (ws' := [(q5, .inr (5, [.int (zI th), .ref m0, .ref m1, .int (zI sm), .ref m2, .int (zI ty), .ref m3, .ref m4, .ref m5, .ref m6, .ref m7, .ref m8, .int (zI pg), .int (zI rw), .int (zI un), .ref m9, .int (zI pm), .int (zI sp), .int (zI wr), .long ha])), (m0, .inl (cI, 74, .inl (zA Z1))), (m3, .inl (cI, 24, .inl (zA P1))), (m4, .inl (cI, 24, .inl (zA R1))), (m5, .inl (cI, 24, .inl (zA U1))), (m6, .inl (cI, 384, .inl (zA G1))), (m7, .inl (cI, 16, .inl (zA b1))), (m8, .inl (cI, 16, .inl (zA c1)))]) rfl ?_
  refine zj_if_eq 11 15 C (by omega) dX5_count_8 rfl (by decide) (fun h_4 => ?_) (fun h_4 => ?_)
  · skip
    refine zj_iconst 16 C dX5_count_15 rfl ?_
    have hkv : zKc x1 = 1 := by unfold zKc; (repeat' split) <;> omega
    refine zj_put 19 0 0 [(q5, .inr (5, [.int (zI 1), .ref m0, .ref m1, .int (zI sm), .ref m2, .int (zI ty), .ref m3, .ref m4, .ref m5, .ref m6, .ref m7, .ref m8, .int (zI pg), .int (zI rw), .int (zI un), .ref m9, .int (zI pm), .int (zI sp), .int (zI wr), .long ha])), (m0, .inl (cI, 74, .inl (zA Z1))), (m3, .inl (cI, 24, .inl (zA P1))), (m4, .inl (cI, 24, .inl (zA R1))), (m5, .inl (cI, 24, .inl (zA U1))), (m6, .inl (cI, 384, .inl (zA G1))), (m7, .inl (cI, 16, .inl (zA b1))), (m8, .inl (cI, 16, .inl (zA c1)))] C (T := TX5) tyX5 tyX5_ok nmX5 im_X5_count_5 fl_X5_count_40 rfl rfl (by decide) rfl rfl rfl rfl rfl (Nat.le_of_ble_eq_true rfl) rfl dX5_count_16 rfl ?_
    refine zj_aload_n 20 0 C dX5_count_19 rfl rfl rfl ?_
    refine zj_get 23 0 0 C (T := TX5) im_X5_count_5 fl_X5_count_40 rfl rfl (by decide) rfl rfl dX5_count_20 rfl ?_
    refine zj_if_le 26 28 C (by omega) dX5_count_23 rfl (by decide) (fun h_5 => ?_) (fun h_5 => ?_)
    · exact absurd h_5 (by omega)
    · skip
      refine zj_iconst 27 C dX5_count_26 rfl ?_
      refine zj_ws (ws' := [(q5, .inr (5, [.int (zI (zKc x1)), .ref m0, .ref m1, .int (zI sm), .ref m2, .int (zI ty), .ref m3, .ref m4, .ref m5, .ref m6, .ref m7, .ref m8, .int (zI pg), .int (zI rw), .int (zI un), .ref m9, .int (zI pm), .int (zI sp), .int (zI wr), .long ha])), (m0, .inl (cI, 74, .inl (zA Z1))), (m3, .inl (cI, 24, .inl (zA P1))), (m4, .inl (cI, 24, .inl (zA R1))), (m5, .inl (cI, 24, .inl (zA U1))), (m6, .inl (cI, 384, .inl (zA G1))), (m7, .inl (cI, 16, .inl (zA b1))), (m8, .inl (cI, 16, .inl (zA c1)))]) (by rw [hkv]) ?_
      refine zj_st (st' := [.int (zI (zIt (zKc x1) (zNc n1 sg K1 W1 T1 sm x1) 0))]) (by rw [zIt_n (show ¬ zKc x1 = 0 by omega)]) ?_
      subst hQ
      exact zj_ireturn C hr ⟨pg, rw, un, P1, R1, U1, G1, b1, c1, rfl, rfl⟩ (by decide) (by decide) dX5_count_27
  · skip
    refine zj_iconst 12 C dX5_count_11 rfl ?_
    refine zj_goto 16 C dX5_count_12 (by decide) ?_
    have hkv : zKc x1 = 0 := by unfold zKc; (repeat' split) <;> omega
    refine zj_put 19 0 0 [(q5, .inr (5, [.int (zI 0), .ref m0, .ref m1, .int (zI sm), .ref m2, .int (zI ty), .ref m3, .ref m4, .ref m5, .ref m6, .ref m7, .ref m8, .int (zI pg), .int (zI rw), .int (zI un), .ref m9, .int (zI pm), .int (zI sp), .int (zI wr), .long ha])), (m0, .inl (cI, 74, .inl (zA Z1))), (m3, .inl (cI, 24, .inl (zA P1))), (m4, .inl (cI, 24, .inl (zA R1))), (m5, .inl (cI, 24, .inl (zA U1))), (m6, .inl (cI, 384, .inl (zA G1))), (m7, .inl (cI, 16, .inl (zA b1))), (m8, .inl (cI, 16, .inl (zA c1)))] C (T := TX5) tyX5 tyX5_ok nmX5 im_X5_count_5 fl_X5_count_40 rfl rfl (by decide) rfl rfl rfl rfl rfl (Nat.le_of_ble_eq_true rfl) rfl dX5_count_16 rfl ?_
    refine zj_aload_n 20 0 C dX5_count_19 rfl rfl rfl ?_
    refine zj_get 23 0 0 C (T := TX5) im_X5_count_5 fl_X5_count_40 rfl rfl (by decide) rfl rfl dX5_count_20 rfl ?_
    refine zj_if_le 26 28 C (by omega) dX5_count_23 rfl (by decide) (fun h_6 => ?_) (fun h_6 => ?_)
    · skip
      refine zj_aload_n 29 0 C dX5_count_28 rfl rfl rfl ?_
      refine zj_cv 32 [0, 1, 2, 3, 4, 5, 6, 7] [] C (wr := []) (zr_V [0, 1, 2, 3, 4, 5, 6, 7] C (As := []) (rest := []) (c_X5_pour2 l D cI cS cJ q5 m0 m1 m2 m3 m4 m5 m6 m7 m8 m9 0 sm ty pg rw un pm sp wr ha Z1 P1 R1 U1 G1 b1 c1 n1 sg K1 W1 T1 hst hz) (cwV 0 C.1.2.2.2.2 gX5_count_X5_pour rfl rfl rfl (by decide +kernel) ⟨Nat.le_of_ble_eq_true rfl, Nat.le_of_ble_eq_true rfl⟩) rfl (by decide) 0 rfl rfl rfl rfl (Nat.le_of_ble_eq_true rfl) dX5_count_29 ⟨Nat.le_of_ble_eq_true rfl, Nat.le_of_ble_eq_true rfl⟩) rfl rfl (by decide) (by decide) rfl (fun w_ hp_8 => ?_)
      obtain ⟨pg2n, rw2n, un2n, P2n, R2n, U2n, hPn, rfl⟩ := hp_8
      refine zj_ws (ws' := [(q5, .inr (5, [.int (zI 0), .ref m0, .ref m1, .int (zI sm), .ref m2, .int (zI ty), .ref m3, .ref m4, .ref m5, .ref m6, .ref m7, .ref m8, .int (zI pg2n), .int (zI rw2n), .int (zI un2n), .ref m9, .int (zI pm), .int (zI sp), .int (zI wr), .long ha])), (m0, .inl (cI, 74, .inl (zA Z1))), (m3, .inl (cI, 24, .inl (zA P2n))), (m4, .inl (cI, 24, .inl (zA R2n))), (m5, .inl (cI, 24, .inl (zA U2n))), (m6, .inl (cI, 384, .inl (zA (zGrid sg K1 W1 T1 n1.toNat)))), (m7, .inl (cI, 16, .inl (zA ((zFin sg K1 W1 T1 n1).2.2.2.2.2.1)))), (m8, .inl (cI, 16, .inl (zA ((zFin sg K1 W1 T1 n1).2.2.2.2.1))))]) rfl ?_
      refine zj_aload_n 33 0 C dX5_count_32 rfl rfl rfl ?_
      refine zj_iload_n 34 1 C dX5_count_33 rfl rfl rfl ?_
      refine zj_ci 37 [0, 1, 2, 5, 6, 7] [3, 4] C (wr := [(m4, .inl (cI, 24, .inl (zA R2n))), (m5, .inl (cI, 24, .inl (zA U2n)))]) (zr_V [0, 1, 2, 5, 6, 7] C (As := [.int (zI x1)]) (rest := []) (c_X5_counted2 l D cI cS cJ q5 m0 m1 m2 m3 m4 m5 m6 m7 m8 m9 0 sm ty pg2n rw2n un2n pm sp wr ha Z1 P2n R2n U2n n1 sg K1 W1 T1 x1 hst hz hPn (by omega)) (cwV 1 C.1.2.2.2.2 gX5_count_X5_counted rfl rfl rfl (by decide +kernel) ⟨Nat.le_of_ble_eq_true rfl, Nat.le_of_ble_eq_true rfl⟩) rfl (by decide) 0 rfl rfl rfl rfl (Nat.le_of_ble_eq_true rfl) dX5_count_34 ⟨Nat.le_of_ble_eq_true rfl, Nat.le_of_ble_eq_true rfl⟩) rfl rfl (by decide) (by decide) rfl (fun r_9 w_ hp_10 => ?_)
      obtain ⟨rfl, rfl⟩ := hp_10
      refine zj_ws (ws' := [(m4, .inl (cI, 24, .inl (zA R2n))), (m5, .inl (cI, 24, .inl (zA U2n))), (q5, .inr (5, [.int (zI 0), .ref m0, .ref m1, .int (zI sm), .ref m2, .int (zI ty), .ref m3, .ref m4, .ref m5, .ref m6, .ref m7, .ref m8, .int (zI pg2n), .int (zI rw2n), .int (zI un2n), .ref m9, .int (zI pm), .int (zI sp), .int (zI wr), .long ha])), (m0, .inl (cI, 74, .inl (zA Z1))), (m3, .inl (cI, 24, .inl (zA P2n))), (m6, .inl (cI, 384, .inl (zA (zGrid sg K1 W1 T1 n1.toNat)))), (m7, .inl (cI, 16, .inl (zA ((zFin sg K1 W1 T1 n1).2.2.2.2.2.1)))), (m8, .inl (cI, 16, .inl (zA ((zFin sg K1 W1 T1 n1).2.2.2.2.1))))]) rfl ?_
      refine zj_re [2, 3, 4, 0, 1, 5, 6, 7] [(q5, .inr (5, [.int (zI 0), .ref m0, .ref m1, .int (zI sm), .ref m2, .int (zI ty), .ref m3, .ref m4, .ref m5, .ref m6, .ref m7, .ref m8, .int (zI pg2n), .int (zI rw2n), .int (zI un2n), .ref m9, .int (zI pm), .int (zI sp), .int (zI wr), .long ha])), (m0, .inl (cI, 74, .inl (zA Z1))), (m3, .inl (cI, 24, .inl (zA P2n))), (m4, .inl (cI, 24, .inl (zA R2n))), (m5, .inl (cI, 24, .inl (zA U2n))), (m6, .inl (cI, 384, .inl (zA (zGrid sg K1 W1 T1 n1.toNat)))), (m7, .inl (cI, 16, .inl (zA ((zFin sg K1 W1 T1 n1).2.2.2.2.2.1)))), (m8, .inl (cI, 16, .inl (zA ((zFin sg K1 W1 T1 n1).2.2.2.2.1))))] (by decide) rfl ?_
      refine zj_ws (ws' := [(q5, .inr (5, [.int (zI (zKc x1)), .ref m0, .ref m1, .int (zI sm), .ref m2, .int (zI ty), .ref m3, .ref m4, .ref m5, .ref m6, .ref m7, .ref m8, .int (zI pg2n), .int (zI rw2n), .int (zI un2n), .ref m9, .int (zI pm), .int (zI sp), .int (zI wr), .long ha])), (m0, .inl (cI, 74, .inl (zA Z1))), (m3, .inl (cI, 24, .inl (zA P2n))), (m4, .inl (cI, 24, .inl (zA R2n))), (m5, .inl (cI, 24, .inl (zA U2n))), (m6, .inl (cI, 384, .inl (zA (zGrid sg K1 W1 T1 n1.toNat)))), (m7, .inl (cI, 16, .inl (zA ((zFin sg K1 W1 T1 n1).2.2.2.2.2.1)))), (m8, .inl (cI, 16, .inl (zA ((zFin sg K1 W1 T1 n1).2.2.2.2.1))))]) (by rw [hkv]) ?_
      refine zj_st (st' := [.int (zI (zIt (zKc x1) (zNc n1 sg K1 W1 T1 sm x1) 0))]) (by rw [zIt_0 (show zKc x1 = 0 by omega)]) ?_
      subst hQ
      exact zj_ireturn C hr ⟨pg2n, rw2n, un2n, P2n, R2n, U2n, (zGrid sg K1 W1 T1 n1.toNat), (zFin sg K1 W1 T1 n1).2.2.2.2.2.1, (zFin sg K1 W1 T1 n1).2.2.2.2.1, rfl, rfl⟩ (by decide) (by decide) dX5_count_37
    · exact absurd h_6 (by omega)

theorem fl_X5_ifExchanged_40 : Cond.fieldLink RX5 40 "SplashPagesModel" "thrown" "I" ∈ wsX5_ifExchanged := by decide +kernel
theorem im_X5_ifExchanged_5 : ∀ w ∈ u_ws RX5 TX5 20, w ∈ wsX5_ifExchanged := by decide +kernel
abbrev rm_X5_ifExchanged : Room := { frames := 5, cells := 0, slots := 0, locals := 115 }
set_option maxRecDepth 100000 in
set_option maxHeartbeats 4000000 in
theorem c_X5_ifExchanged (l : Launch) (D : va_G) (cI cS cJ : ClassId) (q5 : Nat) (m0 : Nat) (m1 : Nat) (m2 : Nat) (m3 : Nat) (m4 : Nat) (m5 : Nat) (m6 : Nat) (m7 : Nat) (m8 : Nat) (m9 : Nat) (th : Int) (sm : Int) (ty : Int) (pg : Int) (rw : Int) (un : Int) (pm : Int) (sp : Int) (wr : Int) (ha : Int64) (Z1 : Int → Int) (P1 : Int → Int) (R1 : Int → Int) (U1 : Int → Int) (G1 : Int → Int) (b1 : Int → Int) (c1 : Int → Int) (n1 : Int) (sg : Int) (K1 : Int → Int) (W1 : Int → Int) (T1 : Int → Int) (i1 : Int) (x1 : Int) (hst : zOk n1 sg K1 W1 T1) (hz : zRel n1 sg K1 W1 T1 Z1) (hi : -2147483648 ≤ i1 ∧ i1 < 2147483648) (hx : -2147483648 ≤ x1 ∧ x1 < 2147483648) : zMi l yX5_ifExchanged wsX5_ifExchanged rm_X5_ifExchanged D (zTy cI cS cJ) [.ref q5, .int (zI i1), .int (zI x1)] [(q5, .inr (5, [.int (zI th), .ref m0, .ref m1, .int (zI sm), .ref m2, .int (zI ty), .ref m3, .ref m4, .ref m5, .ref m6, .ref m7, .ref m8, .int (zI pg), .int (zI rw), .int (zI un), .ref m9, .int (zI pm), .int (zI sp), .int (zI wr), .long ha])), (m0, .inl (cI, 74, .inl (zA Z1))), (m3, .inl (cI, 24, .inl (zA P1))), (m4, .inl (cI, 24, .inl (zA R1))), (m5, .inl (cI, 24, .inl (zA U1))), (m6, .inl (cI, 384, .inl (zA G1))), (m7, .inl (cI, 16, .inl (zA b1))), (m8, .inl (cI, 16, .inl (zA c1)))] (fun r w => ∃ (pg2 : Int), ∃ (rw2 : Int), ∃ (un2 : Int), ∃ (P2 : Int → Int), ∃ (R2 : Int → Int), ∃ (U2 : Int → Int), ∃ (G2 : Int → Int), ∃ (b2 : Int → Int), ∃ (c2 : Int → Int), r = zI (zIt (zKi n1 i1 x1) (if x1 = 0 then zUsed (zFin sg (zEx K1 i1) (zEx W1 i1) (zEx T1 i1) n1) else zEmp (zFin sg (zEx K1 i1) (zEx W1 i1) (zEx T1 i1) n1)) 0) ∧ w = [(q5, .inr (5, [.int (zI (zKi n1 i1 x1)), .ref m0, .ref m1, .int (zI sm), .ref m2, .int (zI ty), .ref m3, .ref m4, .ref m5, .ref m6, .ref m7, .ref m8, .int (zI pg2), .int (zI rw2), .int (zI un2), .ref m9, .int (zI pm), .int (zI sp), .int (zI wr), .long ha])), (m0, .inl (cI, 74, .inl (zA Z1))), (m3, .inl (cI, 24, .inl (zA P2))), (m4, .inl (cI, 24, .inl (zA R2))), (m5, .inl (cI, 24, .inl (zA U2))), (m6, .inl (cI, 384, .inl (zA G2))), (m7, .inl (cI, 16, .inl (zA b2))), (m8, .inl (cI, 16, .inl (zA c2)))]) 0 0 := by
  intro sz
  refine zMet_of (Qc := fun A => va_Qi _ (zB D (zTy cI cS cJ) A) A) RX5 [(0, .ref q5), (1, .int (zI i1)), (2, .int (zI x1))] rfl (by decide +kernel) rfl (Nat.le_of_ble_eq_true rfl) rfl ?_ sz
  intro p e s m args below meth c A Q hQ C hr hini
  have hn := hst.1
  have hz1 := hz.1
  refine zj_aload_n 1 0 C dX5_ifExchanged_0 rfl rfl rfl ?_
  refine zj_aload_n 2 0 C dX5_ifExchanged_1 rfl rfl rfl ?_
  refine zj_iload_n 3 1 C dX5_ifExchanged_2 rfl rfl rfl ?_
  refine zj_ci 6 [0, 1] [2, 3, 4, 5, 6, 7] C (wr := [(m3, .inl (cI, 24, .inl (zA P1))), (m4, .inl (cI, 24, .inl (zA R1))), (m5, .inl (cI, 24, .inl (zA U1))), (m6, .inl (cI, 384, .inl (zA G1))), (m7, .inl (cI, 16, .inl (zA b1))), (m8, .inl (cI, 16, .inl (zA c1)))]) (zr_V [0, 1] C (As := [.int (zI i1)]) (rest := [.ref q5]) (c_X5_isPanel l D cI cS cJ q5 m0 m1 m2 m3 m4 m5 m6 m7 m8 m9 th sm ty pg rw un pm sp wr ha Z1 i1 (by omega) (by omega)) (cwV 1 C.1.2.2.2.2 gX5_ifExchanged_X5_isPanel rfl rfl rfl (by decide +kernel) ⟨Nat.le_of_ble_eq_true rfl, Nat.le_of_ble_eq_true rfl⟩) rfl (by decide) 0 rfl rfl rfl rfl (Nat.le_of_ble_eq_true rfl) dX5_ifExchanged_3 ⟨Nat.le_of_ble_eq_true rfl, Nat.le_of_ble_eq_true rfl⟩) rfl rfl (by decide) (by decide) rfl (fun r_1 w_ hp_2 => ?_)
  obtain ⟨r1_3, fa, rfl, rfl⟩ := hp_2
  refine zj_ws (ws' := [(m3, .inl (cI, 24, .inl (zA P1))), (m4, .inl (cI, 24, .inl (zA R1))), (m5, .inl (cI, 24, .inl (zA U1))), (m6, .inl (cI, 384, .inl (zA G1))), (m7, .inl (cI, 16, .inl (zA b1))), (m8, .inl (cI, 16, .inl (zA c1))), (q5, .inr (5, [.int (zI th), .ref m0, .ref m1, .int (zI sm), .ref m2, .int (zI ty), .ref m3, .ref m4, .ref m5, .ref m6, .ref m7, .ref m8, .int (zI pg), .int (zI rw), .int (zI un), .ref m9, .int (zI pm), .int (zI sp), .int (zI wr), .long ha])), (m0, .inl (cI, 74, .inl (zA Z1)))]) rfl ?_
  refine zj_if_eq 9 19 C (by omega) dX5_ifExchanged_6 rfl (by decide) (fun h_4 => ?_) (fun h_4 => ?_)
  · skip
    refine zj_iconst 20 C dX5_ifExchanged_19 rfl ?_
    refine zj_goto 37 C dX5_ifExchanged_20 (by decide) ?_
    have hkv : zKi n1 i1 x1 = 1 := by unfold zKi; (repeat' split) <;> omega
    refine zj_put 40 6 0 [(m3, .inl (cI, 24, .inl (zA P1))), (m4, .inl (cI, 24, .inl (zA R1))), (m5, .inl (cI, 24, .inl (zA U1))), (m6, .inl (cI, 384, .inl (zA G1))), (m7, .inl (cI, 16, .inl (zA b1))), (m8, .inl (cI, 16, .inl (zA c1))), (q5, .inr (5, [.int (zI 1), .ref m0, .ref m1, .int (zI sm), .ref m2, .int (zI ty), .ref m3, .ref m4, .ref m5, .ref m6, .ref m7, .ref m8, .int (zI pg), .int (zI rw), .int (zI un), .ref m9, .int (zI pm), .int (zI sp), .int (zI wr), .long ha])), (m0, .inl (cI, 74, .inl (zA Z1)))] C (T := TX5) tyX5 tyX5_ok nmX5 im_X5_ifExchanged_5 fl_X5_ifExchanged_40 rfl rfl (by decide) rfl rfl rfl rfl rfl (Nat.le_of_ble_eq_true rfl) rfl dX5_ifExchanged_37 rfl ?_
    refine zj_aload_n 41 0 C dX5_ifExchanged_40 rfl rfl rfl ?_
    refine zj_get 44 6 0 C (T := TX5) im_X5_ifExchanged_5 fl_X5_ifExchanged_40 rfl rfl (by decide) rfl rfl dX5_ifExchanged_41 rfl ?_
    refine zj_if_le 47 51 C (by omega) dX5_ifExchanged_44 rfl (by decide) (fun h_5 => ?_) (fun h_5 => ?_)
    · exact absurd h_5 (by omega)
    · skip
      refine zj_iconst 48 C dX5_ifExchanged_47 rfl ?_
      refine zj_goto 57 C dX5_ifExchanged_48 (by decide) ?_
      refine zj_re [6, 7, 0, 1, 2, 3, 4, 5] [(q5, .inr (5, [.int (zI 1), .ref m0, .ref m1, .int (zI sm), .ref m2, .int (zI ty), .ref m3, .ref m4, .ref m5, .ref m6, .ref m7, .ref m8, .int (zI pg), .int (zI rw), .int (zI un), .ref m9, .int (zI pm), .int (zI sp), .int (zI wr), .long ha])), (m0, .inl (cI, 74, .inl (zA Z1))), (m3, .inl (cI, 24, .inl (zA P1))), (m4, .inl (cI, 24, .inl (zA R1))), (m5, .inl (cI, 24, .inl (zA U1))), (m6, .inl (cI, 384, .inl (zA G1))), (m7, .inl (cI, 16, .inl (zA b1))), (m8, .inl (cI, 16, .inl (zA c1)))] (by decide) rfl ?_
      refine zj_ws (ws' := [(q5, .inr (5, [.int (zI (zKi n1 i1 x1)), .ref m0, .ref m1, .int (zI sm), .ref m2, .int (zI ty), .ref m3, .ref m4, .ref m5, .ref m6, .ref m7, .ref m8, .int (zI pg), .int (zI rw), .int (zI un), .ref m9, .int (zI pm), .int (zI sp), .int (zI wr), .long ha])), (m0, .inl (cI, 74, .inl (zA Z1))), (m3, .inl (cI, 24, .inl (zA P1))), (m4, .inl (cI, 24, .inl (zA R1))), (m5, .inl (cI, 24, .inl (zA U1))), (m6, .inl (cI, 384, .inl (zA G1))), (m7, .inl (cI, 16, .inl (zA b1))), (m8, .inl (cI, 16, .inl (zA c1)))]) (by rw [hkv]) ?_
      refine zj_st (st' := [.int (zI (zIt (zKi n1 i1 x1) (if x1 = 0 then zUsed (zFin sg (zEx K1 i1) (zEx W1 i1) (zEx T1 i1) n1) else zEmp (zFin sg (zEx K1 i1) (zEx W1 i1) (zEx T1 i1) n1)) 0))]) (by rw [zIt_n (show ¬ zKi n1 i1 x1 = 0 by omega)]) ?_
      subst hQ
      exact zj_ireturn C hr ⟨pg, rw, un, P1, R1, U1, G1, b1, c1, rfl, rfl⟩ (by decide) (by decide) dX5_ifExchanged_57
  · skip
    refine zj_aload_n 10 0 C dX5_ifExchanged_9 rfl rfl rfl ?_
    refine zj_iload_n 11 1 C dX5_ifExchanged_10 rfl rfl rfl ?_
    refine zj_iconst 12 C dX5_ifExchanged_11 rfl ?_
    refine zj_iadd 13 C dX5_ifExchanged_12 rfl ?_
    refine zj_ci 16 [6, 7] [0, 1, 2, 3, 4, 5] C (wr := [(m3, .inl (cI, 24, .inl (zA P1))), (m4, .inl (cI, 24, .inl (zA R1))), (m5, .inl (cI, 24, .inl (zA U1))), (m6, .inl (cI, 384, .inl (zA G1))), (m7, .inl (cI, 16, .inl (zA b1))), (m8, .inl (cI, 16, .inl (zA c1)))]) (zr_V [6, 7] C (As := [.int (zI (i1 + 1))]) (rest := [.ref q5]) (c_X5_isPanel l D cI cS cJ q5 m0 m1 m2 m3 m4 m5 m6 m7 m8 m9 th sm ty pg rw un pm sp wr ha Z1 (i1 + 1) (by omega) (by omega)) (cwV 1 C.1.2.2.2.2 gX5_ifExchanged_X5_isPanel rfl rfl rfl (by decide +kernel) ⟨Nat.le_of_ble_eq_true rfl, Nat.le_of_ble_eq_true rfl⟩) rfl (by decide) 0 rfl rfl rfl rfl (Nat.le_of_ble_eq_true rfl) dX5_ifExchanged_13 ⟨Nat.le_of_ble_eq_true rfl, Nat.le_of_ble_eq_true rfl⟩) rfl rfl (by decide) (by decide) rfl (fun r_6 w_ hp_7 => ?_)
    obtain ⟨r1_8, fb, rfl, rfl⟩ := hp_7
    refine zj_ws (ws' := [(m3, .inl (cI, 24, .inl (zA P1))), (m4, .inl (cI, 24, .inl (zA R1))), (m5, .inl (cI, 24, .inl (zA U1))), (m6, .inl (cI, 384, .inl (zA G1))), (m7, .inl (cI, 16, .inl (zA b1))), (m8, .inl (cI, 16, .inl (zA c1))), (q5, .inr (5, [.int (zI th), .ref m0, .ref m1, .int (zI sm), .ref m2, .int (zI ty), .ref m3, .ref m4, .ref m5, .ref m6, .ref m7, .ref m8, .int (zI pg), .int (zI rw), .int (zI un), .ref m9, .int (zI pm), .int (zI sp), .int (zI wr), .long ha])), (m0, .inl (cI, 74, .inl (zA Z1)))]) rfl ?_
    refine zj_if_ne 19 23 C (by omega) dX5_ifExchanged_16 rfl (by decide) (fun h_9 => ?_) (fun h_9 => ?_)
    · skip
      refine zj_iload_n 24 2 C dX5_ifExchanged_23 rfl rfl rfl ?_
      refine zj_iconst 25 C dX5_ifExchanged_24 rfl ?_
      refine zj_iconst 26 C dX5_ifExchanged_25 rfl ?_
      refine zj_ci 29 [] [0, 1, 2, 3, 4, 5, 6, 7] C (wr := [(m3, .inl (cI, 24, .inl (zA P1))), (m4, .inl (cI, 24, .inl (zA R1))), (m5, .inl (cI, 24, .inl (zA U1))), (m6, .inl (cI, 384, .inl (zA G1))), (m7, .inl (cI, 16, .inl (zA b1))), (m8, .inl (cI, 16, .inl (zA c1))), (q5, .inr (5, [.int (zI th), .ref m0, .ref m1, .int (zI sm), .ref m2, .int (zI ty), .ref m3, .ref m4, .ref m5, .ref m6, .ref m7, .ref m8, .int (zI pg), .int (zI rw), .int (zI un), .ref m9, .int (zI pm), .int (zI sp), .int (zI wr), .long ha])), (m0, .inl (cI, 74, .inl (zA Z1)))]) (zr_S [] C (As := [.int (zI x1), .int (zI 0), .int (zI 1)]) (rest := [.ref q5]) (c_X5_in l D cI cS cJ x1 0 1 (by omega) (by omega) (by omega)) (va_cwS 3 C.1.2.2.2.2 gX5_ifExchanged_X5_in rfl rfl rfl (by decide +kernel) ⟨Nat.le_of_ble_eq_true rfl, Nat.le_of_ble_eq_true rfl⟩) rfl (by decide) rfl rfl (Nat.le_of_ble_eq_true rfl) dX5_ifExchanged_26 ⟨Nat.le_of_ble_eq_true rfl, Nat.le_of_ble_eq_true rfl⟩) rfl rfl (by decide) (by decide) rfl (fun r_10 w_ hp_11 => ?_)
      obtain ⟨r1_12, fc, rfl, rfl⟩ := hp_11
      refine zj_ws (ws' := [(m3, .inl (cI, 24, .inl (zA P1))), (m4, .inl (cI, 24, .inl (zA R1))), (m5, .inl (cI, 24, .inl (zA U1))), (m6, .inl (cI, 384, .inl (zA G1))), (m7, .inl (cI, 16, .inl (zA b1))), (m8, .inl (cI, 16, .inl (zA c1))), (q5, .inr (5, [.int (zI th), .ref m0, .ref m1, .int (zI sm), .ref m2, .int (zI ty), .ref m3, .ref m4, .ref m5, .ref m6, .ref m7, .ref m8, .int (zI pg), .int (zI rw), .int (zI un), .ref m9, .int (zI pm), .int (zI sp), .int (zI wr), .long ha])), (m0, .inl (cI, 74, .inl (zA Z1)))]) rfl ?_
      refine zj_if_eq 32 36 C (by omega) dX5_ifExchanged_29 rfl (by decide) (fun h_13 => ?_) (fun h_13 => ?_)
      · skip
        refine zj_iconst 37 C dX5_ifExchanged_36 rfl ?_
        have hkv : zKi n1 i1 x1 = 2 := by unfold zKi; (repeat' split) <;> omega
        refine zj_put 40 6 0 [(m3, .inl (cI, 24, .inl (zA P1))), (m4, .inl (cI, 24, .inl (zA R1))), (m5, .inl (cI, 24, .inl (zA U1))), (m6, .inl (cI, 384, .inl (zA G1))), (m7, .inl (cI, 16, .inl (zA b1))), (m8, .inl (cI, 16, .inl (zA c1))), (q5, .inr (5, [.int (zI 2), .ref m0, .ref m1, .int (zI sm), .ref m2, .int (zI ty), .ref m3, .ref m4, .ref m5, .ref m6, .ref m7, .ref m8, .int (zI pg), .int (zI rw), .int (zI un), .ref m9, .int (zI pm), .int (zI sp), .int (zI wr), .long ha])), (m0, .inl (cI, 74, .inl (zA Z1)))] C (T := TX5) tyX5 tyX5_ok nmX5 im_X5_ifExchanged_5 fl_X5_ifExchanged_40 rfl rfl (by decide) rfl rfl rfl rfl rfl (Nat.le_of_ble_eq_true rfl) rfl dX5_ifExchanged_37 rfl ?_
        refine zj_aload_n 41 0 C dX5_ifExchanged_40 rfl rfl rfl ?_
        refine zj_get 44 6 0 C (T := TX5) im_X5_ifExchanged_5 fl_X5_ifExchanged_40 rfl rfl (by decide) rfl rfl dX5_ifExchanged_41 rfl ?_
        refine zj_if_le 47 51 C (by omega) dX5_ifExchanged_44 rfl (by decide) (fun h_14 => ?_) (fun h_14 => ?_)
        · exact absurd h_14 (by omega)
        · skip
          refine zj_iconst 48 C dX5_ifExchanged_47 rfl ?_
          refine zj_goto 57 C dX5_ifExchanged_48 (by decide) ?_
          refine zj_re [6, 7, 0, 1, 2, 3, 4, 5] [(q5, .inr (5, [.int (zI 2), .ref m0, .ref m1, .int (zI sm), .ref m2, .int (zI ty), .ref m3, .ref m4, .ref m5, .ref m6, .ref m7, .ref m8, .int (zI pg), .int (zI rw), .int (zI un), .ref m9, .int (zI pm), .int (zI sp), .int (zI wr), .long ha])), (m0, .inl (cI, 74, .inl (zA Z1))), (m3, .inl (cI, 24, .inl (zA P1))), (m4, .inl (cI, 24, .inl (zA R1))), (m5, .inl (cI, 24, .inl (zA U1))), (m6, .inl (cI, 384, .inl (zA G1))), (m7, .inl (cI, 16, .inl (zA b1))), (m8, .inl (cI, 16, .inl (zA c1)))] (by decide) rfl ?_
          refine zj_ws (ws' := [(q5, .inr (5, [.int (zI (zKi n1 i1 x1)), .ref m0, .ref m1, .int (zI sm), .ref m2, .int (zI ty), .ref m3, .ref m4, .ref m5, .ref m6, .ref m7, .ref m8, .int (zI pg), .int (zI rw), .int (zI un), .ref m9, .int (zI pm), .int (zI sp), .int (zI wr), .long ha])), (m0, .inl (cI, 74, .inl (zA Z1))), (m3, .inl (cI, 24, .inl (zA P1))), (m4, .inl (cI, 24, .inl (zA R1))), (m5, .inl (cI, 24, .inl (zA U1))), (m6, .inl (cI, 384, .inl (zA G1))), (m7, .inl (cI, 16, .inl (zA b1))), (m8, .inl (cI, 16, .inl (zA c1)))]) (by rw [hkv]) ?_
          refine zj_st (st' := [.int (zI (zIt (zKi n1 i1 x1) (if x1 = 0 then zUsed (zFin sg (zEx K1 i1) (zEx W1 i1) (zEx T1 i1) n1) else zEmp (zFin sg (zEx K1 i1) (zEx W1 i1) (zEx T1 i1) n1)) 0))]) (by rw [zIt_n (show ¬ zKi n1 i1 x1 = 0 by omega)]) ?_
          subst hQ
          exact zj_ireturn C hr ⟨pg, rw, un, P1, R1, U1, G1, b1, c1, rfl, rfl⟩ (by decide) (by decide) dX5_ifExchanged_57
      · skip
        refine zj_iconst 33 C dX5_ifExchanged_32 rfl ?_
        refine zj_goto 37 C dX5_ifExchanged_33 (by decide) ?_
        have hkv : zKi n1 i1 x1 = 0 := by unfold zKi; (repeat' split) <;> omega
        refine zj_put 40 6 0 [(m3, .inl (cI, 24, .inl (zA P1))), (m4, .inl (cI, 24, .inl (zA R1))), (m5, .inl (cI, 24, .inl (zA U1))), (m6, .inl (cI, 384, .inl (zA G1))), (m7, .inl (cI, 16, .inl (zA b1))), (m8, .inl (cI, 16, .inl (zA c1))), (q5, .inr (5, [.int (zI 0), .ref m0, .ref m1, .int (zI sm), .ref m2, .int (zI ty), .ref m3, .ref m4, .ref m5, .ref m6, .ref m7, .ref m8, .int (zI pg), .int (zI rw), .int (zI un), .ref m9, .int (zI pm), .int (zI sp), .int (zI wr), .long ha])), (m0, .inl (cI, 74, .inl (zA Z1)))] C (T := TX5) tyX5 tyX5_ok nmX5 im_X5_ifExchanged_5 fl_X5_ifExchanged_40 rfl rfl (by decide) rfl rfl rfl rfl rfl (Nat.le_of_ble_eq_true rfl) rfl dX5_ifExchanged_37 rfl ?_
        refine zj_aload_n 41 0 C dX5_ifExchanged_40 rfl rfl rfl ?_
        refine zj_get 44 6 0 C (T := TX5) im_X5_ifExchanged_5 fl_X5_ifExchanged_40 rfl rfl (by decide) rfl rfl dX5_ifExchanged_41 rfl ?_
        refine zj_if_le 47 51 C (by omega) dX5_ifExchanged_44 rfl (by decide) (fun h_15 => ?_) (fun h_15 => ?_)
        · skip
          refine zj_aload_n 52 0 C dX5_ifExchanged_51 rfl rfl rfl ?_
          refine zj_iload_n 53 1 C dX5_ifExchanged_52 rfl rfl rfl ?_
          refine zj_iload_n 54 2 C dX5_ifExchanged_53 rfl rfl rfl ?_
          refine zj_ci 57 [6, 7, 0, 1, 2, 3, 4, 5] [] C (wr := []) (zr_V [6, 7, 0, 1, 2, 3, 4, 5] C (As := [.int (zI i1), .int (zI x1)]) (rest := []) (c_X5_exchanged l D cI cS cJ q5 m0 m1 m2 m3 m4 m5 m6 m7 m8 m9 0 sm ty pg rw un pm sp wr ha Z1 P1 R1 U1 G1 b1 c1 n1 sg K1 W1 T1 i1 x1 hst hz (by omega) (by omega)) (cwV 2 C.1.2.2.2.2 gX5_ifExchanged_X5_exchanged rfl rfl rfl (by decide +kernel) ⟨Nat.le_of_ble_eq_true rfl, Nat.le_of_ble_eq_true rfl⟩) rfl (by decide) 0 rfl rfl rfl rfl (Nat.le_of_ble_eq_true rfl) dX5_ifExchanged_54 ⟨Nat.le_of_ble_eq_true rfl, Nat.le_of_ble_eq_true rfl⟩) rfl rfl (by decide) (by decide) rfl (fun r_16 w_ hp_17 => ?_)
          obtain ⟨pg2n, rw2n, un2n, P2n, R2n, U2n, G2n, b2n, c2n, rfl, rfl⟩ := hp_17
          refine zj_ws (ws' := [(q5, .inr (5, [.int (zI 0), .ref m0, .ref m1, .int (zI sm), .ref m2, .int (zI ty), .ref m3, .ref m4, .ref m5, .ref m6, .ref m7, .ref m8, .int (zI pg2n), .int (zI rw2n), .int (zI un2n), .ref m9, .int (zI pm), .int (zI sp), .int (zI wr), .long ha])), (m0, .inl (cI, 74, .inl (zA Z1))), (m3, .inl (cI, 24, .inl (zA P2n))), (m4, .inl (cI, 24, .inl (zA R2n))), (m5, .inl (cI, 24, .inl (zA U2n))), (m6, .inl (cI, 384, .inl (zA G2n))), (m7, .inl (cI, 16, .inl (zA b2n))), (m8, .inl (cI, 16, .inl (zA c2n)))]) rfl ?_
          refine zj_ws (ws' := [(q5, .inr (5, [.int (zI (zKi n1 i1 x1)), .ref m0, .ref m1, .int (zI sm), .ref m2, .int (zI ty), .ref m3, .ref m4, .ref m5, .ref m6, .ref m7, .ref m8, .int (zI pg2n), .int (zI rw2n), .int (zI un2n), .ref m9, .int (zI pm), .int (zI sp), .int (zI wr), .long ha])), (m0, .inl (cI, 74, .inl (zA Z1))), (m3, .inl (cI, 24, .inl (zA P2n))), (m4, .inl (cI, 24, .inl (zA R2n))), (m5, .inl (cI, 24, .inl (zA U2n))), (m6, .inl (cI, 384, .inl (zA G2n))), (m7, .inl (cI, 16, .inl (zA b2n))), (m8, .inl (cI, 16, .inl (zA c2n)))]) (by rw [hkv]) ?_
          refine zj_st (st' := [.int (zI (zIt (zKi n1 i1 x1) (if x1 = 0 then zUsed (zFin sg (zEx K1 i1) (zEx W1 i1) (zEx T1 i1) n1) else zEmp (zFin sg (zEx K1 i1) (zEx W1 i1) (zEx T1 i1) n1)) 0))]) (by rw [zIt_0 (show zKi n1 i1 x1 = 0 by omega)]) ?_
          subst hQ
          exact zj_ireturn C hr ⟨pg2n, rw2n, un2n, P2n, R2n, U2n, G2n, b2n, c2n, rfl, rfl⟩ (by decide) (by decide) dX5_ifExchanged_57
        · exact absurd h_15 (by omega)
    · skip
      refine zj_iconst 20 C dX5_ifExchanged_19 rfl ?_
      refine zj_goto 37 C dX5_ifExchanged_20 (by decide) ?_
      have hkv : zKi n1 i1 x1 = 1 := by unfold zKi; (repeat' split) <;> omega
      refine zj_put 40 6 0 [(m3, .inl (cI, 24, .inl (zA P1))), (m4, .inl (cI, 24, .inl (zA R1))), (m5, .inl (cI, 24, .inl (zA U1))), (m6, .inl (cI, 384, .inl (zA G1))), (m7, .inl (cI, 16, .inl (zA b1))), (m8, .inl (cI, 16, .inl (zA c1))), (q5, .inr (5, [.int (zI 1), .ref m0, .ref m1, .int (zI sm), .ref m2, .int (zI ty), .ref m3, .ref m4, .ref m5, .ref m6, .ref m7, .ref m8, .int (zI pg), .int (zI rw), .int (zI un), .ref m9, .int (zI pm), .int (zI sp), .int (zI wr), .long ha])), (m0, .inl (cI, 74, .inl (zA Z1)))] C (T := TX5) tyX5 tyX5_ok nmX5 im_X5_ifExchanged_5 fl_X5_ifExchanged_40 rfl rfl (by decide) rfl rfl rfl rfl rfl (Nat.le_of_ble_eq_true rfl) rfl dX5_ifExchanged_37 rfl ?_
      refine zj_aload_n 41 0 C dX5_ifExchanged_40 rfl rfl rfl ?_
      refine zj_get 44 6 0 C (T := TX5) im_X5_ifExchanged_5 fl_X5_ifExchanged_40 rfl rfl (by decide) rfl rfl dX5_ifExchanged_41 rfl ?_
      refine zj_if_le 47 51 C (by omega) dX5_ifExchanged_44 rfl (by decide) (fun h_18 => ?_) (fun h_18 => ?_)
      · exact absurd h_18 (by omega)
      · skip
        refine zj_iconst 48 C dX5_ifExchanged_47 rfl ?_
        refine zj_goto 57 C dX5_ifExchanged_48 (by decide) ?_
        refine zj_re [6, 7, 0, 1, 2, 3, 4, 5] [(q5, .inr (5, [.int (zI 1), .ref m0, .ref m1, .int (zI sm), .ref m2, .int (zI ty), .ref m3, .ref m4, .ref m5, .ref m6, .ref m7, .ref m8, .int (zI pg), .int (zI rw), .int (zI un), .ref m9, .int (zI pm), .int (zI sp), .int (zI wr), .long ha])), (m0, .inl (cI, 74, .inl (zA Z1))), (m3, .inl (cI, 24, .inl (zA P1))), (m4, .inl (cI, 24, .inl (zA R1))), (m5, .inl (cI, 24, .inl (zA U1))), (m6, .inl (cI, 384, .inl (zA G1))), (m7, .inl (cI, 16, .inl (zA b1))), (m8, .inl (cI, 16, .inl (zA c1)))] (by decide) rfl ?_
        refine zj_ws (ws' := [(q5, .inr (5, [.int (zI (zKi n1 i1 x1)), .ref m0, .ref m1, .int (zI sm), .ref m2, .int (zI ty), .ref m3, .ref m4, .ref m5, .ref m6, .ref m7, .ref m8, .int (zI pg), .int (zI rw), .int (zI un), .ref m9, .int (zI pm), .int (zI sp), .int (zI wr), .long ha])), (m0, .inl (cI, 74, .inl (zA Z1))), (m3, .inl (cI, 24, .inl (zA P1))), (m4, .inl (cI, 24, .inl (zA R1))), (m5, .inl (cI, 24, .inl (zA U1))), (m6, .inl (cI, 384, .inl (zA G1))), (m7, .inl (cI, 16, .inl (zA b1))), (m8, .inl (cI, 16, .inl (zA c1)))]) (by rw [hkv]) ?_
        refine zj_st (st' := [.int (zI (zIt (zKi n1 i1 x1) (if x1 = 0 then zUsed (zFin sg (zEx K1 i1) (zEx W1 i1) (zEx T1 i1) n1) else zEmp (zFin sg (zEx K1 i1) (zEx W1 i1) (zEx T1 i1) n1)) 0))]) (by rw [zIt_n (show ¬ zKi n1 i1 x1 = 0 by omega)]) ?_
        subst hQ
        exact zj_ireturn C hr ⟨pg, rw, un, P1, R1, U1, G1, b1, c1, rfl, rfl⟩ (by decide) (by decide) dX5_ifExchanged_57

theorem fl_X5_bestWidth_40 : Cond.fieldLink RX5 40 "SplashPagesModel" "thrown" "I" ∈ wsX5_bestWidth := by decide +kernel
theorem im_X5_bestWidth_5 : ∀ w ∈ u_ws RX5 TX5 20, w ∈ wsX5_bestWidth := by decide +kernel
abbrev rm_X5_bestWidth : Room := { frames := 5, cells := 0, slots := 0, locals := 119 }
set_option maxRecDepth 100000 in
set_option maxHeartbeats 4000000 in
theorem c_X5_bestWidth (l : Launch) (D : va_G) (cI cS cJ : ClassId) (q5 : Nat) (m0 : Nat) (m1 : Nat) (m2 : Nat) (m3 : Nat) (m4 : Nat) (m5 : Nat) (m6 : Nat) (m7 : Nat) (m8 : Nat) (m9 : Nat) (th : Int) (sm : Int) (ty : Int) (pg : Int) (rw : Int) (un : Int) (pm : Int) (sp : Int) (wr : Int) (ha : Int64) (Z1 : Int → Int) (P1 : Int → Int) (R1 : Int → Int) (U1 : Int → Int) (G1 : Int → Int) (b1 : Int → Int) (c1 : Int → Int) (n1 : Int) (sg : Int) (K1 : Int → Int) (W1 : Int → Int) (T1 : Int → Int) (i1 : Int) (hst : zOk n1 sg K1 W1 T1) (hz : zRel n1 sg K1 W1 T1 Z1) (hi : -2147483648 ≤ i1 ∧ i1 < 2147483648) : zMi l yX5_bestWidth wsX5_bestWidth rm_X5_bestWidth D (zTy cI cS cJ) [.ref q5, .int (zI i1)] [(q5, .inr (5, [.int (zI th), .ref m0, .ref m1, .int (zI sm), .ref m2, .int (zI ty), .ref m3, .ref m4, .ref m5, .ref m6, .ref m7, .ref m8, .int (zI pg), .int (zI rw), .int (zI un), .ref m9, .int (zI pm), .int (zI sp), .int (zI wr), .long ha])), (m0, .inl (cI, 74, .inl (zA Z1))), (m3, .inl (cI, 24, .inl (zA P1))), (m4, .inl (cI, 24, .inl (zA R1))), (m5, .inl (cI, 24, .inl (zA U1))), (m6, .inl (cI, 384, .inl (zA G1))), (m7, .inl (cI, 16, .inl (zA b1))), (m8, .inl (cI, 16, .inl (zA c1)))] (fun r w => ∃ (pg2 : Int), ∃ (rw2 : Int), ∃ (un2 : Int), ∃ (P2 : Int → Int), ∃ (R2 : Int → Int), ∃ (U2 : Int → Int), ∃ (G2 : Int → Int), ∃ (b2 : Int → Int), ∃ (c2 : Int → Int), r = zI (zIt (zKb n1 i1) ((zBw (fun w => zCost n1 sg K1 (zU W1 i1 w) T1) 6).1) 0) ∧ w = [(q5, .inr (5, [.int (zI (zKb n1 i1)), .ref m0, .ref m1, .int (zI sm), .ref m2, .int (zI ty), .ref m3, .ref m4, .ref m5, .ref m6, .ref m7, .ref m8, .int (zI pg2), .int (zI rw2), .int (zI un2), .ref m9, .int (zI pm), .int (zI sp), .int (zI wr), .long ha])), (m0, .inl (cI, 74, .inl (zA Z1))), (m3, .inl (cI, 24, .inl (zA P2))), (m4, .inl (cI, 24, .inl (zA R2))), (m5, .inl (cI, 24, .inl (zA U2))), (m6, .inl (cI, 384, .inl (zA G2))), (m7, .inl (cI, 16, .inl (zA b2))), (m8, .inl (cI, 16, .inl (zA c2)))]) 0 0 := by
  intro sz
  refine zMet_of (Qc := fun A => va_Qi _ (zB D (zTy cI cS cJ) A) A) RX5 [(0, .ref q5), (1, .int (zI i1))] rfl (by decide +kernel) rfl (Nat.le_of_ble_eq_true rfl) rfl ?_ sz
  intro p e s m args below meth c A Q hQ C hr hini
  have hn := hst.1
  have hz1 := hz.1
  refine zj_aload_n 1 0 C dX5_bestWidth_0 rfl rfl rfl ?_
  refine zj_aload_n 2 0 C dX5_bestWidth_1 rfl rfl rfl ?_
  refine zj_iload_n 3 1 C dX5_bestWidth_2 rfl rfl rfl ?_
  refine zj_ci 6 [0, 1] [2, 3, 4, 5, 6, 7] C (wr := [(m3, .inl (cI, 24, .inl (zA P1))), (m4, .inl (cI, 24, .inl (zA R1))), (m5, .inl (cI, 24, .inl (zA U1))), (m6, .inl (cI, 384, .inl (zA G1))), (m7, .inl (cI, 16, .inl (zA b1))), (m8, .inl (cI, 16, .inl (zA c1)))]) (zr_V [0, 1] C (As := [.int (zI i1)]) (rest := [.ref q5]) (c_X5_isPanel l D cI cS cJ q5 m0 m1 m2 m3 m4 m5 m6 m7 m8 m9 th sm ty pg rw un pm sp wr ha Z1 i1 (by omega) (by omega)) (cwV 1 C.1.2.2.2.2 gX5_bestWidth_X5_isPanel rfl rfl rfl (by decide +kernel) ⟨Nat.le_of_ble_eq_true rfl, Nat.le_of_ble_eq_true rfl⟩) rfl (by decide) 0 rfl rfl rfl rfl (Nat.le_of_ble_eq_true rfl) dX5_bestWidth_3 ⟨Nat.le_of_ble_eq_true rfl, Nat.le_of_ble_eq_true rfl⟩) rfl rfl (by decide) (by decide) rfl (fun r_1 w_ hp_2 => ?_)
  obtain ⟨r1_3, fa, rfl, rfl⟩ := hp_2
  refine zj_ws (ws' := [(m3, .inl (cI, 24, .inl (zA P1))), (m4, .inl (cI, 24, .inl (zA R1))), (m5, .inl (cI, 24, .inl (zA U1))), (m6, .inl (cI, 384, .inl (zA G1))), (m7, .inl (cI, 16, .inl (zA b1))), (m8, .inl (cI, 16, .inl (zA c1))), (q5, .inr (5, [.int (zI th), .ref m0, .ref m1, .int (zI sm), .ref m2, .int (zI ty), .ref m3, .ref m4, .ref m5, .ref m6, .ref m7, .ref m8, .int (zI pg), .int (zI rw), .int (zI un), .ref m9, .int (zI pm), .int (zI sp), .int (zI wr), .long ha])), (m0, .inl (cI, 74, .inl (zA Z1)))]) rfl ?_
  refine zj_if_eq 9 13 C (by omega) dX5_bestWidth_6 rfl (by decide) (fun h_4 => ?_) (fun h_4 => ?_)
  · skip
    refine zj_iconst 14 C dX5_bestWidth_13 rfl ?_
    have hkv : zKb n1 i1 = 1 := by unfold zKb; (repeat' split) <;> omega
    refine zj_put 17 6 0 [(m3, .inl (cI, 24, .inl (zA P1))), (m4, .inl (cI, 24, .inl (zA R1))), (m5, .inl (cI, 24, .inl (zA U1))), (m6, .inl (cI, 384, .inl (zA G1))), (m7, .inl (cI, 16, .inl (zA b1))), (m8, .inl (cI, 16, .inl (zA c1))), (q5, .inr (5, [.int (zI 1), .ref m0, .ref m1, .int (zI sm), .ref m2, .int (zI ty), .ref m3, .ref m4, .ref m5, .ref m6, .ref m7, .ref m8, .int (zI pg), .int (zI rw), .int (zI un), .ref m9, .int (zI pm), .int (zI sp), .int (zI wr), .long ha])), (m0, .inl (cI, 74, .inl (zA Z1)))] C (T := TX5) tyX5 tyX5_ok nmX5 im_X5_bestWidth_5 fl_X5_bestWidth_40 rfl rfl (by decide) rfl rfl rfl rfl rfl (Nat.le_of_ble_eq_true rfl) rfl dX5_bestWidth_14 rfl ?_
    refine zj_aload_n 18 0 C dX5_bestWidth_17 rfl rfl rfl ?_
    refine zj_get 21 6 0 C (T := TX5) im_X5_bestWidth_5 fl_X5_bestWidth_40 rfl rfl (by decide) rfl rfl dX5_bestWidth_18 rfl ?_
    refine zj_if_le 24 28 C (by omega) dX5_bestWidth_21 rfl (by decide) (fun h_5 => ?_) (fun h_5 => ?_)
    · exact absurd h_5 (by omega)
    · skip
      refine zj_iconst 25 C dX5_bestWidth_24 rfl ?_
      refine zj_goto 33 C dX5_bestWidth_25 (by decide) ?_
      refine zj_re [6, 7, 0, 1, 2, 3, 4, 5] [(q5, .inr (5, [.int (zI 1), .ref m0, .ref m1, .int (zI sm), .ref m2, .int (zI ty), .ref m3, .ref m4, .ref m5, .ref m6, .ref m7, .ref m8, .int (zI pg), .int (zI rw), .int (zI un), .ref m9, .int (zI pm), .int (zI sp), .int (zI wr), .long ha])), (m0, .inl (cI, 74, .inl (zA Z1))), (m3, .inl (cI, 24, .inl (zA P1))), (m4, .inl (cI, 24, .inl (zA R1))), (m5, .inl (cI, 24, .inl (zA U1))), (m6, .inl (cI, 384, .inl (zA G1))), (m7, .inl (cI, 16, .inl (zA b1))), (m8, .inl (cI, 16, .inl (zA c1)))] (by decide) rfl ?_
      refine zj_ws (ws' := [(q5, .inr (5, [.int (zI (zKb n1 i1)), .ref m0, .ref m1, .int (zI sm), .ref m2, .int (zI ty), .ref m3, .ref m4, .ref m5, .ref m6, .ref m7, .ref m8, .int (zI pg), .int (zI rw), .int (zI un), .ref m9, .int (zI pm), .int (zI sp), .int (zI wr), .long ha])), (m0, .inl (cI, 74, .inl (zA Z1))), (m3, .inl (cI, 24, .inl (zA P1))), (m4, .inl (cI, 24, .inl (zA R1))), (m5, .inl (cI, 24, .inl (zA U1))), (m6, .inl (cI, 384, .inl (zA G1))), (m7, .inl (cI, 16, .inl (zA b1))), (m8, .inl (cI, 16, .inl (zA c1)))]) (by rw [hkv]) ?_
      refine zj_st (st' := [.int (zI (zIt (zKb n1 i1) ((zBw (fun w => zCost n1 sg K1 (zU W1 i1 w) T1) 6).1) 0))]) (by rw [zIt_n (show ¬ zKb n1 i1 = 0 by omega)]) ?_
      subst hQ
      exact zj_ireturn C hr ⟨pg, rw, un, P1, R1, U1, G1, b1, c1, rfl, rfl⟩ (by decide) (by decide) dX5_bestWidth_33
  · skip
    refine zj_iconst 10 C dX5_bestWidth_9 rfl ?_
    refine zj_goto 14 C dX5_bestWidth_10 (by decide) ?_
    have hkv : zKb n1 i1 = 0 := by unfold zKb; (repeat' split) <;> omega
    refine zj_put 17 6 0 [(m3, .inl (cI, 24, .inl (zA P1))), (m4, .inl (cI, 24, .inl (zA R1))), (m5, .inl (cI, 24, .inl (zA U1))), (m6, .inl (cI, 384, .inl (zA G1))), (m7, .inl (cI, 16, .inl (zA b1))), (m8, .inl (cI, 16, .inl (zA c1))), (q5, .inr (5, [.int (zI 0), .ref m0, .ref m1, .int (zI sm), .ref m2, .int (zI ty), .ref m3, .ref m4, .ref m5, .ref m6, .ref m7, .ref m8, .int (zI pg), .int (zI rw), .int (zI un), .ref m9, .int (zI pm), .int (zI sp), .int (zI wr), .long ha])), (m0, .inl (cI, 74, .inl (zA Z1)))] C (T := TX5) tyX5 tyX5_ok nmX5 im_X5_bestWidth_5 fl_X5_bestWidth_40 rfl rfl (by decide) rfl rfl rfl rfl rfl (Nat.le_of_ble_eq_true rfl) rfl dX5_bestWidth_14 rfl ?_
    refine zj_aload_n 18 0 C dX5_bestWidth_17 rfl rfl rfl ?_
    refine zj_get 21 6 0 C (T := TX5) im_X5_bestWidth_5 fl_X5_bestWidth_40 rfl rfl (by decide) rfl rfl dX5_bestWidth_18 rfl ?_
    refine zj_if_le 24 28 C (by omega) dX5_bestWidth_21 rfl (by decide) (fun h_6 => ?_) (fun h_6 => ?_)
    · skip
      refine zj_aload_n 29 0 C dX5_bestWidth_28 rfl rfl rfl ?_
      refine zj_iload_n 30 1 C dX5_bestWidth_29 rfl rfl rfl ?_
      refine zj_ci 33 [6, 7, 0, 1, 2, 3, 4, 5] [] C (wr := []) (zr_V [6, 7, 0, 1, 2, 3, 4, 5] C (As := [.int (zI i1)]) (rest := []) (c_X5_widthFor l D cI cS cJ q5 m0 m1 m2 m3 m4 m5 m6 m7 m8 m9 0 sm ty pg rw un pm sp wr ha Z1 P1 R1 U1 G1 b1 c1 n1 sg K1 W1 T1 i1 hst hz (by omega)) (cwV 1 C.1.2.2.2.2 gX5_bestWidth_X5_widthFor rfl rfl rfl (by decide +kernel) ⟨Nat.le_of_ble_eq_true rfl, Nat.le_of_ble_eq_true rfl⟩) rfl (by decide) 0 rfl rfl rfl rfl (Nat.le_of_ble_eq_true rfl) dX5_bestWidth_30 ⟨Nat.le_of_ble_eq_true rfl, Nat.le_of_ble_eq_true rfl⟩) rfl rfl (by decide) (by decide) rfl (fun r_7 w_ hp_8 => ?_)
      obtain ⟨pg2n, rw2n, un2n, P2n, R2n, U2n, G2n, b2n, c2n, rfl, rfl⟩ := hp_8
      refine zj_ws (ws' := [(q5, .inr (5, [.int (zI 0), .ref m0, .ref m1, .int (zI sm), .ref m2, .int (zI ty), .ref m3, .ref m4, .ref m5, .ref m6, .ref m7, .ref m8, .int (zI pg2n), .int (zI rw2n), .int (zI un2n), .ref m9, .int (zI pm), .int (zI sp), .int (zI wr), .long ha])), (m0, .inl (cI, 74, .inl (zA Z1))), (m3, .inl (cI, 24, .inl (zA P2n))), (m4, .inl (cI, 24, .inl (zA R2n))), (m5, .inl (cI, 24, .inl (zA U2n))), (m6, .inl (cI, 384, .inl (zA G2n))), (m7, .inl (cI, 16, .inl (zA b2n))), (m8, .inl (cI, 16, .inl (zA c2n)))]) rfl ?_
      refine zj_ws (ws' := [(q5, .inr (5, [.int (zI (zKb n1 i1)), .ref m0, .ref m1, .int (zI sm), .ref m2, .int (zI ty), .ref m3, .ref m4, .ref m5, .ref m6, .ref m7, .ref m8, .int (zI pg2n), .int (zI rw2n), .int (zI un2n), .ref m9, .int (zI pm), .int (zI sp), .int (zI wr), .long ha])), (m0, .inl (cI, 74, .inl (zA Z1))), (m3, .inl (cI, 24, .inl (zA P2n))), (m4, .inl (cI, 24, .inl (zA R2n))), (m5, .inl (cI, 24, .inl (zA U2n))), (m6, .inl (cI, 384, .inl (zA G2n))), (m7, .inl (cI, 16, .inl (zA b2n))), (m8, .inl (cI, 16, .inl (zA c2n)))]) (by rw [hkv]) ?_
      refine zj_st (st' := [.int (zI (zIt (zKb n1 i1) ((zBw (fun w => zCost n1 sg K1 (zU W1 i1 w) T1) 6).1) 0))]) (by rw [zIt_0 (show zKb n1 i1 = 0 by omega)]) ?_
      subst hQ
      exact zj_ireturn C hr ⟨pg2n, rw2n, un2n, P2n, R2n, U2n, G2n, b2n, c2n, rfl, rfl⟩ (by decide) (by decide) dX5_bestWidth_33
    · exact absurd h_6 (by omega)

theorem fl_X5_leastSetting_40 : Cond.fieldLink RX5 40 "SplashPagesModel" "thrown" "I" ∈ wsX5_leastSetting := by decide +kernel
theorem im_X5_leastSetting_5 : ∀ w ∈ u_ws RX5 TX5 20, w ∈ wsX5_leastSetting := by decide +kernel
abbrev rm_X5_leastSetting : Room := { frames := 5, cells := 0, slots := 0, locals := 117 }
set_option maxRecDepth 100000 in
set_option maxHeartbeats 4000000 in
theorem c_X5_leastSetting (l : Launch) (D : va_G) (cI cS cJ : ClassId) (q5 : Nat) (m0 : Nat) (m1 : Nat) (m2 : Nat) (m3 : Nat) (m4 : Nat) (m5 : Nat) (m6 : Nat) (m7 : Nat) (m8 : Nat) (m9 : Nat) (th : Int) (sm : Int) (ty : Int) (pg : Int) (rw : Int) (un : Int) (pm : Int) (sp : Int) (wr : Int) (ha : Int64) (Z1 : Int → Int) (P1 : Int → Int) (R1 : Int → Int) (U1 : Int → Int) (G1 : Int → Int) (b1 : Int → Int) (c1 : Int → Int) (n1 : Int) (sg : Int) (K1 : Int → Int) (W1 : Int → Int) (T1 : Int → Int) (hst : zOk n1 sg K1 W1 T1) (hz : zRel n1 sg K1 W1 T1 Z1) : zMi l yX5_leastSetting wsX5_leastSetting rm_X5_leastSetting D (zTy cI cS cJ) [.ref q5] [(q5, .inr (5, [.int (zI th), .ref m0, .ref m1, .int (zI sm), .ref m2, .int (zI ty), .ref m3, .ref m4, .ref m5, .ref m6, .ref m7, .ref m8, .int (zI pg), .int (zI rw), .int (zI un), .ref m9, .int (zI pm), .int (zI sp), .int (zI wr), .long ha])), (m0, .inl (cI, 74, .inl (zA Z1))), (m3, .inl (cI, 24, .inl (zA P1))), (m4, .inl (cI, 24, .inl (zA R1))), (m5, .inl (cI, 24, .inl (zA U1))), (m6, .inl (cI, 384, .inl (zA G1))), (m7, .inl (cI, 16, .inl (zA b1))), (m8, .inl (cI, 16, .inl (zA c1)))] (fun r w => ∃ (pg2 : Int), ∃ (rw2 : Int), ∃ (un2 : Int), ∃ (P2 : Int → Int), ∃ (R2 : Int → Int), ∃ (U2 : Int → Int), ∃ (G2 : Int → Int), ∃ (b2 : Int → Int), ∃ (c2 : Int → Int), r = zI (zLeast n1 sg K1 W1 T1 (sg - 9).toNat) ∧ w = [(q5, .inr (5, [.int (zI 0), .ref m0, .ref m1, .int (zI sm), .ref m2, .int (zI ty), .ref m3, .ref m4, .ref m5, .ref m6, .ref m7, .ref m8, .int (zI pg2), .int (zI rw2), .int (zI un2), .ref m9, .int (zI pm), .int (zI sp), .int (zI wr), .long ha])), (m0, .inl (cI, 74, .inl (zA Z1))), (m3, .inl (cI, 24, .inl (zA P2))), (m4, .inl (cI, 24, .inl (zA R2))), (m5, .inl (cI, 24, .inl (zA U2))), (m6, .inl (cI, 384, .inl (zA G2))), (m7, .inl (cI, 16, .inl (zA b2))), (m8, .inl (cI, 16, .inl (zA c2)))]) 0 0 := by
  intro sz
  refine zMet_of (Qc := fun A => va_Qi _ (zB D (zTy cI cS cJ) A) A) RX5 [(0, .ref q5)] rfl (by decide +kernel) rfl (Nat.le_of_ble_eq_true rfl) rfl ?_ sz
  intro p e s m args below meth c A Q hQ C hr hini
  refine zj_aload_n 1 0 C dX5_leastSetting_0 rfl rfl rfl ?_
  refine zj_iconst 2 C dX5_leastSetting_1 rfl ?_
  refine zj_put 5 0 0 [(q5, .inr (5, [.int (zI 0), .ref m0, .ref m1, .int (zI sm), .ref m2, .int (zI ty), .ref m3, .ref m4, .ref m5, .ref m6, .ref m7, .ref m8, .int (zI pg), .int (zI rw), .int (zI un), .ref m9, .int (zI pm), .int (zI sp), .int (zI wr), .long ha])), (m0, .inl (cI, 74, .inl (zA Z1))), (m3, .inl (cI, 24, .inl (zA P1))), (m4, .inl (cI, 24, .inl (zA R1))), (m5, .inl (cI, 24, .inl (zA U1))), (m6, .inl (cI, 384, .inl (zA G1))), (m7, .inl (cI, 16, .inl (zA b1))), (m8, .inl (cI, 16, .inl (zA c1)))] C (T := TX5) tyX5 tyX5_ok nmX5 im_X5_leastSetting_5 fl_X5_leastSetting_40 rfl rfl (by decide) rfl rfl rfl rfl rfl (Nat.le_of_ble_eq_true rfl) rfl dX5_leastSetting_2 rfl ?_
  refine zj_aload_n 6 0 C dX5_leastSetting_5 rfl rfl rfl ?_
  refine zj_ci 9 [0, 1, 2, 3, 4, 5, 6, 7] [] C (wr := []) (zr_V [0, 1, 2, 3, 4, 5, 6, 7] C (As := []) (rest := []) (c_X5_least l D cI cS cJ q5 m0 m1 m2 m3 m4 m5 m6 m7 m8 m9 0 sm ty pg rw un pm sp wr ha Z1 P1 R1 U1 G1 b1 c1 n1 sg K1 W1 T1 hst hz) (cwV 0 C.1.2.2.2.2 gX5_leastSetting_X5_least rfl rfl rfl (by decide +kernel) ⟨Nat.le_of_ble_eq_true rfl, Nat.le_of_ble_eq_true rfl⟩) rfl (by decide) 0 rfl rfl rfl rfl (Nat.le_of_ble_eq_true rfl) dX5_leastSetting_6 ⟨Nat.le_of_ble_eq_true rfl, Nat.le_of_ble_eq_true rfl⟩) rfl rfl (by decide) (by decide) rfl (fun r_1 w_ hp_2 => ?_)
  obtain ⟨pg2n, rw2n, un2n, P2n, R2n, U2n, G2n, b2n, c2n, rfl, rfl⟩ := hp_2
  refine zj_ws (ws' := [(q5, .inr (5, [.int (zI 0), .ref m0, .ref m1, .int (zI sm), .ref m2, .int (zI ty), .ref m3, .ref m4, .ref m5, .ref m6, .ref m7, .ref m8, .int (zI pg2n), .int (zI rw2n), .int (zI un2n), .ref m9, .int (zI pm), .int (zI sp), .int (zI wr), .long ha])), (m0, .inl (cI, 74, .inl (zA Z1))), (m3, .inl (cI, 24, .inl (zA P2n))), (m4, .inl (cI, 24, .inl (zA R2n))), (m5, .inl (cI, 24, .inl (zA U2n))), (m6, .inl (cI, 384, .inl (zA G2n))), (m7, .inl (cI, 16, .inl (zA b2n))), (m8, .inl (cI, 16, .inl (zA c2n)))]) rfl ?_
  subst hQ
  exact zj_ireturn C hr ⟨pg2n, rw2n, un2n, P2n, R2n, U2n, G2n, b2n, c2n, rfl, rfl⟩ (by decide) (by decide) dX5_leastSetting_9

theorem fl_X5_fullness_40 : Cond.fieldLink RX5 40 "SplashPagesModel" "thrown" "I" ∈ wsX5_fullness := by decide +kernel
theorem im_X5_fullness_5 : ∀ w ∈ u_ws RX5 TX5 20, w ∈ wsX5_fullness := by decide +kernel
abbrev rm_X5_fullness : Room := { frames := 4, cells := 0, slots := 0, locals := 92 }
set_option maxRecDepth 100000 in
set_option maxHeartbeats 4000000 in
theorem c_X5_fullness (l : Launch) (D : va_G) (cI cS cJ : ClassId) (q5 : Nat) (m0 : Nat) (m1 : Nat) (m2 : Nat) (m3 : Nat) (m4 : Nat) (m5 : Nat) (m6 : Nat) (m7 : Nat) (m8 : Nat) (m9 : Nat) (th : Int) (sm : Int) (ty : Int) (pg : Int) (rw : Int) (un : Int) (pm : Int) (sp : Int) (wr : Int) (ha : Int64) (Z1 : Int → Int) (P1 : Int → Int) (R1 : Int → Int) (U1 : Int → Int) (G1 : Int → Int) (b1 : Int → Int) (c1 : Int → Int) (n1 : Int) (sg : Int) (K1 : Int → Int) (W1 : Int → Int) (T1 : Int → Int) (hst : zOk n1 sg K1 W1 T1) (hz : zRel n1 sg K1 W1 T1 Z1) : zMd l yX5_fullness wsX5_fullness rm_X5_fullness D (zTy cI cS cJ) [.ref q5] [(q5, .inr (5, [.int (zI th), .ref m0, .ref m1, .int (zI sm), .ref m2, .int (zI ty), .ref m3, .ref m4, .ref m5, .ref m6, .ref m7, .ref m8, .int (zI pg), .int (zI rw), .int (zI un), .ref m9, .int (zI pm), .int (zI sp), .int (zI wr), .long ha])), (m0, .inl (cI, 74, .inl (zA Z1))), (m3, .inl (cI, 24, .inl (zA P1))), (m4, .inl (cI, 24, .inl (zA R1))), (m5, .inl (cI, 24, .inl (zA U1))), (m6, .inl (cI, 384, .inl (zA G1))), (m7, .inl (cI, 16, .inl (zA b1))), (m8, .inl (cI, 16, .inl (zA c1)))] (fun r w => ∃ (pg2 : Int), ∃ (rw2 : Int), ∃ (un2 : Int), ∃ (P2 : Int → Int), ∃ (R2 : Int → Int), ∃ (U2 : Int → Int), ∃ (G2 : Int → Int), ∃ (b2 : Int → Int), ∃ (c2 : Int → Int), r = (zSh n1 sg K1 W1 T1) ∧ w = [(q5, .inr (5, [.int (zI 0), .ref m0, .ref m1, .int (zI sm), .ref m2, .int (zI ty), .ref m3, .ref m4, .ref m5, .ref m6, .ref m7, .ref m8, .int (zI pg2), .int (zI rw2), .int (zI un2), .ref m9, .int (zI pm), .int (zI sp), .int (zI wr), .long ha])), (m0, .inl (cI, 74, .inl (zA Z1))), (m3, .inl (cI, 24, .inl (zA P2))), (m4, .inl (cI, 24, .inl (zA R2))), (m5, .inl (cI, 24, .inl (zA U2))), (m6, .inl (cI, 384, .inl (zA G2))), (m7, .inl (cI, 16, .inl (zA b2))), (m8, .inl (cI, 16, .inl (zA c2)))]) 0 0 := by
  intro sz
  refine zMet_of (Qc := fun A => va_Qd _ (zB D (zTy cI cS cJ) A) A) RX5 [(0, .ref q5)] rfl (by decide +kernel) rfl (Nat.le_of_ble_eq_true rfl) rfl ?_ sz
  intro p e s m args below meth c A Q hQ C hr hini
  refine zj_aload_n 1 0 C dX5_fullness_0 rfl rfl rfl ?_
  refine zj_iconst 2 C dX5_fullness_1 rfl ?_
  refine zj_put 5 0 0 [(q5, .inr (5, [.int (zI 0), .ref m0, .ref m1, .int (zI sm), .ref m2, .int (zI ty), .ref m3, .ref m4, .ref m5, .ref m6, .ref m7, .ref m8, .int (zI pg), .int (zI rw), .int (zI un), .ref m9, .int (zI pm), .int (zI sp), .int (zI wr), .long ha])), (m0, .inl (cI, 74, .inl (zA Z1))), (m3, .inl (cI, 24, .inl (zA P1))), (m4, .inl (cI, 24, .inl (zA R1))), (m5, .inl (cI, 24, .inl (zA U1))), (m6, .inl (cI, 384, .inl (zA G1))), (m7, .inl (cI, 16, .inl (zA b1))), (m8, .inl (cI, 16, .inl (zA c1)))] C (T := TX5) tyX5 tyX5_ok nmX5 im_X5_fullness_5 fl_X5_fullness_40 rfl rfl (by decide) rfl rfl rfl rfl rfl (Nat.le_of_ble_eq_true rfl) rfl dX5_fullness_2 rfl ?_
  refine zj_aload_n 6 0 C dX5_fullness_5 rfl rfl rfl ?_
  refine zj_cv 9 [0, 1, 2, 3, 4, 5, 6, 7] [] C (wr := []) (zr_V [0, 1, 2, 3, 4, 5, 6, 7] C (As := []) (rest := []) (c_X5_pour2 l D cI cS cJ q5 m0 m1 m2 m3 m4 m5 m6 m7 m8 m9 0 sm ty pg rw un pm sp wr ha Z1 P1 R1 U1 G1 b1 c1 n1 sg K1 W1 T1 hst hz) (cwV 0 C.1.2.2.2.2 gX5_fullness_X5_pour rfl rfl rfl (by decide +kernel) ⟨Nat.le_of_ble_eq_true rfl, Nat.le_of_ble_eq_true rfl⟩) rfl (by decide) 0 rfl rfl rfl rfl (Nat.le_of_ble_eq_true rfl) dX5_fullness_6 ⟨Nat.le_of_ble_eq_true rfl, Nat.le_of_ble_eq_true rfl⟩) rfl rfl (by decide) (by decide) rfl (fun w_ hp_2 => ?_)
  obtain ⟨pg2n, rw2n, un2n, P2n, R2n, U2n, hPn, rfl⟩ := hp_2
  refine zj_ws (ws' := [(q5, .inr (5, [.int (zI 0), .ref m0, .ref m1, .int (zI sm), .ref m2, .int (zI ty), .ref m3, .ref m4, .ref m5, .ref m6, .ref m7, .ref m8, .int (zI pg2n), .int (zI rw2n), .int (zI un2n), .ref m9, .int (zI pm), .int (zI sp), .int (zI wr), .long ha])), (m0, .inl (cI, 74, .inl (zA Z1))), (m3, .inl (cI, 24, .inl (zA P2n))), (m4, .inl (cI, 24, .inl (zA R2n))), (m5, .inl (cI, 24, .inl (zA U2n))), (m6, .inl (cI, 384, .inl (zA (zGrid sg K1 W1 T1 n1.toNat)))), (m7, .inl (cI, 16, .inl (zA ((zFin sg K1 W1 T1 n1).2.2.2.2.2.1)))), (m8, .inl (cI, 16, .inl (zA ((zFin sg K1 W1 T1 n1).2.2.2.2.1))))]) rfl ?_
  refine zj_aload_n 10 0 C dX5_fullness_9 rfl rfl rfl ?_
  refine zj_cd 13 [0, 5, 7] [1, 2, 3, 4, 6] C (wr := [(m0, .inl (cI, 74, .inl (zA Z1))), (m3, .inl (cI, 24, .inl (zA P2n))), (m4, .inl (cI, 24, .inl (zA R2n))), (m5, .inl (cI, 24, .inl (zA U2n))), (m7, .inl (cI, 16, .inl (zA ((zFin sg K1 W1 T1 n1).2.2.2.2.2.1))))]) (zr_V [0, 5, 7] C (As := []) (rest := []) (c_X5_share l D cI cS cJ q5 m0 m1 m2 m3 m4 m5 m6 m7 m8 m9 0 sm ty pg2n rw2n un2n pm sp wr ha n1 sg K1 W1 T1 hst) (cwV 0 C.1.2.2.2.2 gX5_fullness_X5_share rfl rfl rfl (by decide +kernel) ⟨Nat.le_of_ble_eq_true rfl, Nat.le_of_ble_eq_true rfl⟩) rfl (by decide) 0 rfl rfl rfl rfl (Nat.le_of_ble_eq_true rfl) dX5_fullness_10 ⟨Nat.le_of_ble_eq_true rfl, Nat.le_of_ble_eq_true rfl⟩) rfl rfl (by decide) (by decide) rfl (fun r_3 w_ hp_4 => ?_)
  obtain ⟨rfl, rfl⟩ := hp_4
  refine zj_ws (ws' := [(m0, .inl (cI, 74, .inl (zA Z1))), (m3, .inl (cI, 24, .inl (zA P2n))), (m4, .inl (cI, 24, .inl (zA R2n))), (m5, .inl (cI, 24, .inl (zA U2n))), (m7, .inl (cI, 16, .inl (zA ((zFin sg K1 W1 T1 n1).2.2.2.2.2.1)))), (q5, .inr (5, [.int (zI 0), .ref m0, .ref m1, .int (zI sm), .ref m2, .int (zI ty), .ref m3, .ref m4, .ref m5, .ref m6, .ref m7, .ref m8, .int (zI pg2n), .int (zI rw2n), .int (zI un2n), .ref m9, .int (zI pm), .int (zI sp), .int (zI wr), .long ha])), (m6, .inl (cI, 384, .inl (zA (zGrid sg K1 W1 T1 n1.toNat)))), (m8, .inl (cI, 16, .inl (zA ((zFin sg K1 W1 T1 n1).2.2.2.2.1))))]) rfl ?_
  refine zj_re [5, 0, 1, 2, 3, 6, 4, 7] [(q5, .inr (5, [.int (zI 0), .ref m0, .ref m1, .int (zI sm), .ref m2, .int (zI ty), .ref m3, .ref m4, .ref m5, .ref m6, .ref m7, .ref m8, .int (zI pg2n), .int (zI rw2n), .int (zI un2n), .ref m9, .int (zI pm), .int (zI sp), .int (zI wr), .long ha])), (m0, .inl (cI, 74, .inl (zA Z1))), (m3, .inl (cI, 24, .inl (zA P2n))), (m4, .inl (cI, 24, .inl (zA R2n))), (m5, .inl (cI, 24, .inl (zA U2n))), (m6, .inl (cI, 384, .inl (zA (zGrid sg K1 W1 T1 n1.toNat)))), (m7, .inl (cI, 16, .inl (zA ((zFin sg K1 W1 T1 n1).2.2.2.2.2.1)))), (m8, .inl (cI, 16, .inl (zA ((zFin sg K1 W1 T1 n1).2.2.2.2.1))))] (by decide) rfl ?_
  refine zj_st (st' := [.double (zSh n1 sg K1 W1 T1)]) (by rfl) ?_
  subst hQ
  exact zj_dreturn C hr ⟨pg2n, rw2n, un2n, P2n, R2n, U2n, (zGrid sg K1 W1 T1 n1.toNat), (zFin sg K1 W1 T1 n1).2.2.2.2.2.1, (zFin sg K1 W1 T1 n1).2.2.2.2.1, rfl, rfl⟩ (by decide) (by decide) dX5_fullness_13

theorem fl_X5_thrown_40 : Cond.fieldLink RX5 40 "SplashPagesModel" "thrown" "I" ∈ wsX5_thrown := by decide +kernel
theorem im_X5_thrown_5 : ∀ w ∈ u_ws RX5 TX5 20, w ∈ wsX5_thrown := by decide +kernel
abbrev rm_X5_thrown : Room := { frames := 0, cells := 0, slots := 0, locals := 0 }
set_option maxRecDepth 100000 in
set_option maxHeartbeats 4000000 in
theorem c_X5_thrown (l : Launch) (D : va_G) (cI cS cJ : ClassId) (q5 : Nat) (m0 : Nat) (m1 : Nat) (m2 : Nat) (m3 : Nat) (m4 : Nat) (m5 : Nat) (m6 : Nat) (m7 : Nat) (m8 : Nat) (m9 : Nat) (th : Int) (sm : Int) (ty : Int) (pg : Int) (rw : Int) (un : Int) (pm : Int) (sp : Int) (wr : Int) (ha : Int64) : zMi l yX5_thrown wsX5_thrown rm_X5_thrown D (zTy cI cS cJ) [.ref q5] [(q5, .inr (5, [.int (zI th), .ref m0, .ref m1, .int (zI sm), .ref m2, .int (zI ty), .ref m3, .ref m4, .ref m5, .ref m6, .ref m7, .ref m8, .int (zI pg), .int (zI rw), .int (zI un), .ref m9, .int (zI pm), .int (zI sp), .int (zI wr), .long ha]))] (fun r w => r = zI th ∧ w = [(q5, .inr (5, [.int (zI th), .ref m0, .ref m1, .int (zI sm), .ref m2, .int (zI ty), .ref m3, .ref m4, .ref m5, .ref m6, .ref m7, .ref m8, .int (zI pg), .int (zI rw), .int (zI un), .ref m9, .int (zI pm), .int (zI sp), .int (zI wr), .long ha]))]) 0 0 := by
  intro sz
  refine zMet_of (Qc := fun A => va_Qi _ (zB D (zTy cI cS cJ) A) A) RX5 [(0, .ref q5)] rfl (by decide +kernel) rfl (Nat.le_of_ble_eq_true rfl) rfl ?_ sz
  intro p e s m args below meth c A Q hQ C hr hini
  refine zj_aload_n 1 0 C dX5_thrown_0 rfl rfl rfl ?_
  refine zj_get 4 0 0 C (T := TX5) im_X5_thrown_5 fl_X5_thrown_40 rfl rfl (by decide) rfl rfl dX5_thrown_1 rfl ?_
  subst hQ
  exact zj_ireturn C hr ⟨rfl, rfl⟩ (by decide) (by decide) dX5_thrown_4

theorem fl_X5_append_117 : Cond.fieldLink RX5 117 "SplashPagesModel" "typed" "I" ∈ wsX5_append := by decide +kernel
theorem im_X5_append_5 : ∀ w ∈ u_ws RX5 TX5 20, w ∈ wsX5_append := by decide +kernel
theorem fl_X5_append_40 : Cond.fieldLink RX5 40 "SplashPagesModel" "thrown" "I" ∈ wsX5_append := by decide +kernel
theorem fl_X5_append_16 : Cond.fieldLink RX5 16 "SplashPagesModel" "buffer" "[I" ∈ wsX5_append := by decide +kernel
abbrev rm_X5_append : Room := { frames := 1, cells := 0, slots := 0, locals := 22 }
set_option maxRecDepth 100000 in
set_option maxHeartbeats 4000000 in
theorem c_X5_append (l : Launch) (D : va_G) (cI cS cJ : ClassId) (q5 : Nat) (m0 : Nat) (m1 : Nat) (m2 : Nat) (m3 : Nat) (m4 : Nat) (m5 : Nat) (m6 : Nat) (m7 : Nat) (m8 : Nat) (m9 : Nat) (th : Int) (sm : Int) (ty : Int) (pg : Int) (rw : Int) (un : Int) (pm : Int) (sp : Int) (wr : Int) (ha : Int64) (F1 : Int → Int) (j1 : Int) (hty : 0 ≤ ty ∧ ty ≤ 60) (hj : -2147483648 ≤ j1 ∧ j1 < 2147483648) : zMi l yX5_append wsX5_append rm_X5_append D (zTy cI cS cJ) [.ref q5, .int (zI j1)] [(q5, .inr (5, [.int (zI th), .ref m0, .ref m1, .int (zI sm), .ref m2, .int (zI ty), .ref m3, .ref m4, .ref m5, .ref m6, .ref m7, .ref m8, .int (zI pg), .int (zI rw), .int (zI un), .ref m9, .int (zI pm), .int (zI sp), .int (zI wr), .long ha])), (m2, .inl (cI, 60, .inl (zA F1)))] (fun r w => r = zI (zIt (zKl j1 ty) (ty + 1) 0) ∧ w = [(q5, .inr (5, [.int (zI (zKl j1 ty)), .ref m0, .ref m1, .int (zI sm), .ref m2, .int (zI (zIt (zKl j1 ty) (ty + 1) ty)), .ref m3, .ref m4, .ref m5, .ref m6, .ref m7, .ref m8, .int (zI pg), .int (zI rw), .int (zI un), .ref m9, .int (zI pm), .int (zI sp), .int (zI wr), .long ha])), (m2, .inl (cI, 60, .inl (zA (zIt (zKl j1 ty) (zU F1 ty j1) F1))))]) 0 0 := by
  intro sz
  refine zMet_of (Qc := fun A => va_Qi _ (zB D (zTy cI cS cJ) A) A) RX5 [(0, .ref q5), (1, .int (zI j1))] rfl (by decide +kernel) rfl (Nat.le_of_ble_eq_true rfl) rfl ?_ sz
  intro p e s m args below meth c A Q hQ C hr hini
  refine zj_aload_n 1 0 C dX5_append_0 rfl rfl rfl ?_
  refine zj_iload_n 2 1 C dX5_append_1 rfl rfl rfl ?_
  refine zj_bipush 4 C dX5_append_2 rfl rfl ?_
  refine zj_bipush 6 C dX5_append_4 rfl rfl ?_
  refine zj_ci 9 [] [0, 1] C (wr := [(q5, .inr (5, [.int (zI th), .ref m0, .ref m1, .int (zI sm), .ref m2, .int (zI ty), .ref m3, .ref m4, .ref m5, .ref m6, .ref m7, .ref m8, .int (zI pg), .int (zI rw), .int (zI un), .ref m9, .int (zI pm), .int (zI sp), .int (zI wr), .long ha])), (m2, .inl (cI, 60, .inl (zA F1)))]) (zr_S [] C (As := [.int (zI j1), .int (zI 33), .int (zI 126)]) (rest := [.ref q5]) (c_X5_in l D cI cS cJ j1 33 126 (by omega) (by omega) (by omega)) (va_cwS 3 C.1.2.2.2.2 gX5_append_X5_in rfl rfl rfl (by decide +kernel) ⟨Nat.le_of_ble_eq_true rfl, Nat.le_of_ble_eq_true rfl⟩) rfl (by decide) rfl rfl (Nat.le_of_ble_eq_true rfl) dX5_append_6 ⟨Nat.le_of_ble_eq_true rfl, Nat.le_of_ble_eq_true rfl⟩) rfl rfl (by decide) (by decide) rfl (fun r_1 w_ hp_2 => ?_)
  obtain ⟨r1_3, fa, rfl, rfl⟩ := hp_2
  refine zj_ws (ws' := [(q5, .inr (5, [.int (zI th), .ref m0, .ref m1, .int (zI sm), .ref m2, .int (zI ty), .ref m3, .ref m4, .ref m5, .ref m6, .ref m7, .ref m8, .int (zI pg), .int (zI rw), .int (zI un), .ref m9, .int (zI pm), .int (zI sp), .int (zI wr), .long ha])), (m2, .inl (cI, 60, .inl (zA F1)))]) rfl ?_
  refine zj_if_ne 12 16 C (by omega) dX5_append_9 rfl (by decide) (fun h_4 => ?_) (fun h_4 => ?_)
  · skip
    refine zj_aload_n 17 0 C dX5_append_16 rfl rfl rfl ?_
    refine zj_get 20 0 5 C (T := TX5) im_X5_append_5 fl_X5_append_117 rfl rfl (by decide) rfl rfl dX5_append_17 rfl ?_
    refine zj_bipush 22 C dX5_append_20 rfl rfl ?_
    refine zj_icmp_ne 25 29 C (by omega) (by omega) dX5_append_22 rfl (by decide) (fun h_5 => ?_) (fun h_5 => ?_)
    · skip
      refine zj_iconst 30 C dX5_append_29 rfl ?_
      have hkv : zKl j1 ty = 0 := by unfold zKl; (repeat' split) <;> omega
      refine zj_put 33 0 0 [(q5, .inr (5, [.int (zI 0), .ref m0, .ref m1, .int (zI sm), .ref m2, .int (zI ty), .ref m3, .ref m4, .ref m5, .ref m6, .ref m7, .ref m8, .int (zI pg), .int (zI rw), .int (zI un), .ref m9, .int (zI pm), .int (zI sp), .int (zI wr), .long ha])), (m2, .inl (cI, 60, .inl (zA F1)))] C (T := TX5) tyX5 tyX5_ok nmX5 im_X5_append_5 fl_X5_append_40 rfl rfl (by decide) rfl rfl rfl rfl rfl (Nat.le_of_ble_eq_true rfl) rfl dX5_append_30 rfl ?_
      refine zj_aload_n 34 0 C dX5_append_33 rfl rfl rfl ?_
      refine zj_get 37 0 0 C (T := TX5) im_X5_append_5 fl_X5_append_40 rfl rfl (by decide) rfl rfl dX5_append_34 rfl ?_
      refine zj_if_le 40 42 C (by omega) dX5_append_37 rfl (by decide) (fun h_6 => ?_) (fun h_6 => ?_)
      · skip
        refine zj_aload_n 43 0 C dX5_append_42 rfl rfl rfl ?_
        refine zj_get 46 0 4 C (T := TX5) im_X5_append_5 fl_X5_append_16 rfl rfl (by decide) rfl rfl dX5_append_43 rfl ?_
        refine zj_aload_n 47 0 C dX5_append_46 rfl rfl rfl ?_
        refine zj_get 50 0 5 C (T := TX5) im_X5_append_5 fl_X5_append_117 rfl rfl (by decide) rfl rfl dX5_append_47 rfl ?_
        refine zj_iload_n 51 1 C dX5_append_50 rfl rfl rfl ?_
        refine zj_iast 52 1 [(q5, .inr (5, [.int (zI 0), .ref m0, .ref m1, .int (zI sm), .ref m2, .int (zI ty), .ref m3, .ref m4, .ref m5, .ref m6, .ref m7, .ref m8, .int (zI pg), .int (zI rw), .int (zI un), .ref m9, .int (zI pm), .int (zI sp), .int (zI wr), .long ha])), (m2, .inl (cI, 60, .inl (zA (zU F1 ty j1))))] C (by omega) (by omega) rfl rfl rfl dX5_append_51 rfl ?_
        refine zj_aload_n 53 0 C dX5_append_52 rfl rfl rfl ?_
        refine zj_dup 54 C dX5_append_53 rfl rfl ?_
        refine zj_get 57 0 5 C (T := TX5) im_X5_append_5 fl_X5_append_117 rfl rfl (by decide) rfl rfl dX5_append_54 rfl ?_
        refine zj_iconst 58 C dX5_append_57 rfl ?_
        refine zj_iadd 59 C dX5_append_58 rfl ?_
        refine zj_put 62 0 5 [(q5, .inr (5, [.int (zI 0), .ref m0, .ref m1, .int (zI sm), .ref m2, .int (zI (ty + 1)), .ref m3, .ref m4, .ref m5, .ref m6, .ref m7, .ref m8, .int (zI pg), .int (zI rw), .int (zI un), .ref m9, .int (zI pm), .int (zI sp), .int (zI wr), .long ha])), (m2, .inl (cI, 60, .inl (zA (zU F1 ty j1))))] C (T := TX5) tyX5 tyX5_ok nmX5 im_X5_append_5 fl_X5_append_117 rfl rfl (by decide) rfl rfl rfl rfl rfl (Nat.le_of_ble_eq_true rfl) rfl dX5_append_59 rfl ?_
        refine zj_aload_n 63 0 C dX5_append_62 rfl rfl rfl ?_
        refine zj_get 66 0 5 C (T := TX5) im_X5_append_5 fl_X5_append_117 rfl rfl (by decide) rfl rfl dX5_append_63 rfl ?_
        refine zj_ws (ws' := [(q5, .inr (5, [.int (zI (zKl j1 ty)), .ref m0, .ref m1, .int (zI sm), .ref m2, .int (zI (zIt (zKl j1 ty) (ty + 1) ty)), .ref m3, .ref m4, .ref m5, .ref m6, .ref m7, .ref m8, .int (zI pg), .int (zI rw), .int (zI un), .ref m9, .int (zI pm), .int (zI sp), .int (zI wr), .long ha])), (m2, .inl (cI, 60, .inl (zA (zIt (zKl j1 ty) (zU F1 ty j1) F1))))]) (by rw [zIt_0 (show zKl j1 ty = 0 by omega), zIt_0 (show zKl j1 ty = 0 by omega), hkv]) ?_
        refine zj_st (st' := [.int (zI (zIt (zKl j1 ty) (ty + 1) 0))]) (by rw [zIt_0 (show zKl j1 ty = 0 by omega)]) ?_
        subst hQ
        exact zj_ireturn C hr ⟨rfl, rfl⟩ (by decide) (by decide) dX5_append_66
      · exact absurd h_6 (by omega)
    · skip
      refine zj_iconst 26 C dX5_append_25 rfl ?_
      refine zj_goto 30 C dX5_append_26 (by decide) ?_
      have hkv : zKl j1 ty = 2 := by unfold zKl; (repeat' split) <;> omega
      refine zj_put 33 0 0 [(q5, .inr (5, [.int (zI 2), .ref m0, .ref m1, .int (zI sm), .ref m2, .int (zI ty), .ref m3, .ref m4, .ref m5, .ref m6, .ref m7, .ref m8, .int (zI pg), .int (zI rw), .int (zI un), .ref m9, .int (zI pm), .int (zI sp), .int (zI wr), .long ha])), (m2, .inl (cI, 60, .inl (zA F1)))] C (T := TX5) tyX5 tyX5_ok nmX5 im_X5_append_5 fl_X5_append_40 rfl rfl (by decide) rfl rfl rfl rfl rfl (Nat.le_of_ble_eq_true rfl) rfl dX5_append_30 rfl ?_
      refine zj_aload_n 34 0 C dX5_append_33 rfl rfl rfl ?_
      refine zj_get 37 0 0 C (T := TX5) im_X5_append_5 fl_X5_append_40 rfl rfl (by decide) rfl rfl dX5_append_34 rfl ?_
      refine zj_if_le 40 42 C (by omega) dX5_append_37 rfl (by decide) (fun h_7 => ?_) (fun h_7 => ?_)
      · exact absurd h_7 (by omega)
      · skip
        refine zj_iconst 41 C dX5_append_40 rfl ?_
        refine zj_ws (ws' := [(q5, .inr (5, [.int (zI (zKl j1 ty)), .ref m0, .ref m1, .int (zI sm), .ref m2, .int (zI (zIt (zKl j1 ty) (ty + 1) ty)), .ref m3, .ref m4, .ref m5, .ref m6, .ref m7, .ref m8, .int (zI pg), .int (zI rw), .int (zI un), .ref m9, .int (zI pm), .int (zI sp), .int (zI wr), .long ha])), (m2, .inl (cI, 60, .inl (zA (zIt (zKl j1 ty) (zU F1 ty j1) F1))))]) (by rw [zIt_n (show ¬ zKl j1 ty = 0 by omega), zIt_n (show ¬ zKl j1 ty = 0 by omega), hkv]) ?_
        refine zj_st (st' := [.int (zI (zIt (zKl j1 ty) (ty + 1) 0))]) (by rw [zIt_n (show ¬ zKl j1 ty = 0 by omega)]) ?_
        subst hQ
        exact zj_ireturn C hr ⟨rfl, rfl⟩ (by decide) (by decide) dX5_append_41
  · skip
    refine zj_iconst 13 C dX5_append_12 rfl ?_
    refine zj_goto 30 C dX5_append_13 (by decide) ?_
    have hkv : zKl j1 ty = 1 := by unfold zKl; (repeat' split) <;> omega
    refine zj_put 33 0 0 [(q5, .inr (5, [.int (zI 1), .ref m0, .ref m1, .int (zI sm), .ref m2, .int (zI ty), .ref m3, .ref m4, .ref m5, .ref m6, .ref m7, .ref m8, .int (zI pg), .int (zI rw), .int (zI un), .ref m9, .int (zI pm), .int (zI sp), .int (zI wr), .long ha])), (m2, .inl (cI, 60, .inl (zA F1)))] C (T := TX5) tyX5 tyX5_ok nmX5 im_X5_append_5 fl_X5_append_40 rfl rfl (by decide) rfl rfl rfl rfl rfl (Nat.le_of_ble_eq_true rfl) rfl dX5_append_30 rfl ?_
    refine zj_aload_n 34 0 C dX5_append_33 rfl rfl rfl ?_
    refine zj_get 37 0 0 C (T := TX5) im_X5_append_5 fl_X5_append_40 rfl rfl (by decide) rfl rfl dX5_append_34 rfl ?_
    refine zj_if_le 40 42 C (by omega) dX5_append_37 rfl (by decide) (fun h_8 => ?_) (fun h_8 => ?_)
    · exact absurd h_8 (by omega)
    · skip
      refine zj_iconst 41 C dX5_append_40 rfl ?_
      refine zj_ws (ws' := [(q5, .inr (5, [.int (zI (zKl j1 ty)), .ref m0, .ref m1, .int (zI sm), .ref m2, .int (zI (zIt (zKl j1 ty) (ty + 1) ty)), .ref m3, .ref m4, .ref m5, .ref m6, .ref m7, .ref m8, .int (zI pg), .int (zI rw), .int (zI un), .ref m9, .int (zI pm), .int (zI sp), .int (zI wr), .long ha])), (m2, .inl (cI, 60, .inl (zA (zIt (zKl j1 ty) (zU F1 ty j1) F1))))]) (by rw [zIt_n (show ¬ zKl j1 ty = 0 by omega), zIt_n (show ¬ zKl j1 ty = 0 by omega), hkv]) ?_
      refine zj_st (st' := [.int (zI (zIt (zKl j1 ty) (ty + 1) 0))]) (by rw [zIt_n (show ¬ zKl j1 ty = 0 by omega)]) ?_
      subst hQ
      exact zj_ireturn C hr ⟨rfl, rfl⟩ (by decide) (by decide) dX5_append_41

theorem fl_X5_clearBuffer_40 : Cond.fieldLink RX5 40 "SplashPagesModel" "thrown" "I" ∈ wsX5_clearBuffer := by decide +kernel
theorem im_X5_clearBuffer_5 : ∀ w ∈ u_ws RX5 TX5 20, w ∈ wsX5_clearBuffer := by decide +kernel
theorem fl_X5_clearBuffer_117 : Cond.fieldLink RX5 117 "SplashPagesModel" "typed" "I" ∈ wsX5_clearBuffer := by decide +kernel
abbrev rm_X5_clearBuffer : Room := { frames := 0, cells := 0, slots := 0, locals := 0 }
set_option maxRecDepth 100000 in
set_option maxHeartbeats 4000000 in
theorem c_X5_clearBuffer (l : Launch) (D : va_G) (cI cS cJ : ClassId) (q5 : Nat) (m0 : Nat) (m1 : Nat) (m2 : Nat) (m3 : Nat) (m4 : Nat) (m5 : Nat) (m6 : Nat) (m7 : Nat) (m8 : Nat) (m9 : Nat) (th : Int) (sm : Int) (ty : Int) (pg : Int) (rw : Int) (un : Int) (pm : Int) (sp : Int) (wr : Int) (ha : Int64) (hty : 0 ≤ ty ∧ ty ≤ 60) : zMi l yX5_clearBuffer wsX5_clearBuffer rm_X5_clearBuffer D (zTy cI cS cJ) [.ref q5] [(q5, .inr (5, [.int (zI th), .ref m0, .ref m1, .int (zI sm), .ref m2, .int (zI ty), .ref m3, .ref m4, .ref m5, .ref m6, .ref m7, .ref m8, .int (zI pg), .int (zI rw), .int (zI un), .ref m9, .int (zI pm), .int (zI sp), .int (zI wr), .long ha]))] (fun r w => r = zI ty ∧ w = [(q5, .inr (5, [.int (zI 0), .ref m0, .ref m1, .int (zI sm), .ref m2, .int (zI 0), .ref m3, .ref m4, .ref m5, .ref m6, .ref m7, .ref m8, .int (zI pg), .int (zI rw), .int (zI un), .ref m9, .int (zI pm), .int (zI sp), .int (zI wr), .long ha]))]) 0 0 := by
  intro sz
  refine zMet_of (Qc := fun A => va_Qi _ (zB D (zTy cI cS cJ) A) A) RX5 [(0, .ref q5)] rfl (by decide +kernel) rfl (Nat.le_of_ble_eq_true rfl) rfl ?_ sz
  intro p e s m args below meth c A Q hQ C hr hini
  refine zj_aload_n 1 0 C dX5_clearBuffer_0 rfl rfl rfl ?_
  refine zj_iconst 2 C dX5_clearBuffer_1 rfl ?_
  refine zj_put 5 0 0 [(q5, .inr (5, [.int (zI 0), .ref m0, .ref m1, .int (zI sm), .ref m2, .int (zI ty), .ref m3, .ref m4, .ref m5, .ref m6, .ref m7, .ref m8, .int (zI pg), .int (zI rw), .int (zI un), .ref m9, .int (zI pm), .int (zI sp), .int (zI wr), .long ha]))] C (T := TX5) tyX5 tyX5_ok nmX5 im_X5_clearBuffer_5 fl_X5_clearBuffer_40 rfl rfl (by decide) rfl rfl rfl rfl rfl (Nat.le_of_ble_eq_true rfl) rfl dX5_clearBuffer_2 rfl ?_
  refine zj_aload_n 6 0 C dX5_clearBuffer_5 rfl rfl rfl ?_
  refine zj_get 9 0 5 C (T := TX5) im_X5_clearBuffer_5 fl_X5_clearBuffer_117 rfl rfl (by decide) rfl rfl dX5_clearBuffer_6 rfl ?_
  refine zj_istore_n 10 [(1, .int (zI ty)), (0, .ref q5)] C dX5_clearBuffer_9 rfl rfl (by decide) rfl ?_
  refine zj_aload_n 11 1 C dX5_clearBuffer_10 rfl rfl rfl ?_
  refine zj_iconst 12 C dX5_clearBuffer_11 rfl ?_
  refine zj_put 15 0 5 [(q5, .inr (5, [.int (zI 0), .ref m0, .ref m1, .int (zI sm), .ref m2, .int (zI 0), .ref m3, .ref m4, .ref m5, .ref m6, .ref m7, .ref m8, .int (zI pg), .int (zI rw), .int (zI un), .ref m9, .int (zI pm), .int (zI sp), .int (zI wr), .long ha]))] C (T := TX5) tyX5 tyX5_ok nmX5 im_X5_clearBuffer_5 fl_X5_clearBuffer_117 rfl rfl (by decide) rfl rfl rfl rfl rfl (Nat.le_of_ble_eq_true rfl) rfl dX5_clearBuffer_12 rfl ?_
  refine zj_iload_n 16 0 C dX5_clearBuffer_15 rfl rfl rfl ?_
  subst hQ
  exact zj_ireturn C hr ⟨rfl, rfl⟩ (by decide) (by decide) dX5_clearBuffer_16
