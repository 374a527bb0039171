theorem zErr_w {F : Int → Int} {ty : Int} (h0 : 0 ≤ ty) (h : zRun F ty.toNat = 0) : zErr F ty.toNat 0 = ty :=
  zErr_e _ 0 (by omega) (fun k _ k2 e => by
    have := zRun_n e (ty.toNat - (k + 1))
    rw [show k + 1 + (ty.toNat - (k + 1)) = ty.toNat by omega, h] at this
    omega) (Or.inl (by omega))

theorem fl_X5_firstError_40 : Cond.fieldLink RX5 40 "SplashPagesModel" "thrown" "I" ∈ wsX5_firstError := by decide +kernel
theorem im_X5_firstError_5 : ∀ w ∈ u_ws RX5 TX5 20, w ∈ wsX5_firstError := by decide +kernel
theorem fl_X5_firstError_117 : Cond.fieldLink RX5 117 "SplashPagesModel" "typed" "I" ∈ wsX5_firstError := by decide +kernel
abbrev rm_X5_firstError : Room := { frames := 4, cells := 0, slots := 0, locals := 87 }
set_option maxRecDepth 100000 in
set_option maxHeartbeats 4000000 in
theorem c_X5_firstError (l : Launch) (D : va_G) (cI cS cJ : ClassId) (q5 : Nat) (m0 : Nat) (m1 : Nat) (m2 : Nat) (m3 : Nat) (m4 : Nat) (m5 : Nat) (m6 : Nat) (m7 : Nat) (m8 : Nat) (m9 : Nat) (th : Int) (sm : Int) (ty : Int) (pg : Int) (rw : Int) (un : Int) (pm : Int) (sp : Int) (wr : Int) (ha : Int64) (F1 : Int → Int) (Pt : Int → Int) (hty : 0 ≤ ty ∧ ty ≤ 60) (htf : ∀ x, 0 ≤ x → x < ty → 0 ≤ F1 x ∧ F1 x ≤ 1000) : zMi l yX5_firstError wsX5_firstError rm_X5_firstError D (zTy cI cS cJ) [.ref q5] [(q5, .inr (5, [.int (zI th), .ref m0, .ref m1, .int (zI sm), .ref m2, .int (zI ty), .ref m3, .ref m4, .ref m5, .ref m6, .ref m7, .ref m8, .int (zI pg), .int (zI rw), .int (zI un), .ref m9, .int (zI pm), .int (zI sp), .int (zI wr), .long ha])), (m2, .inl (cI, 60, .inl (zA F1))), (m9, .inl (cI, 93, .inl (zA Pt)))] (fun r w => ∃ (j : Nat), r = zI (zErr F1 ty.toNat 0) ∧ w = [(q5, .inr (5, [.int (zI 0), .ref m0, .ref m1, .int (zI sm), .ref m2, .int (zI ty), .ref m3, .ref m4, .ref m5, .ref m6, .ref m7, .ref m8, .int (zI pg), .int (zI rw), .int (zI un), .ref m9, .int (zI ((zPbs F1 ty Pt j).1)), .int (zI ((zPbs F1 ty Pt j).2.1)), .int (zI ((zPbs F1 ty Pt j).2.2.1)), .long ha])), (m2, .inl (cI, 60, .inl (zA F1))), (m9, .inl (cI, 93, .inl (zA ((zPbs F1 ty Pt j).2.2.2))))]) 0 0 := by
  intro sz
  refine zMet_of (Qc := fun A => va_Qi _ (zB D (zTy cI cS cJ) A) A) RX5 [(0, .ref q5)] rfl (by decide +kernel) rfl (Nat.le_of_ble_eq_true rfl) rfl ?_ sz
  intro p e s m args below meth c A Q hQ C hr hini
  refine zj_aload_n 1 0 C dX5_firstError_0 rfl rfl rfl ?_
  refine zj_iconst 2 C dX5_firstError_1 rfl ?_
  refine zj_put 5 0 0 [(q5, .inr (5, [.int (zI 0), .ref m0, .ref m1, .int (zI sm), .ref m2, .int (zI ty), .ref m3, .ref m4, .ref m5, .ref m6, .ref m7, .ref m8, .int (zI pg), .int (zI rw), .int (zI un), .ref m9, .int (zI pm), .int (zI sp), .int (zI wr), .long ha])), (m2, .inl (cI, 60, .inl (zA F1))), (m9, .inl (cI, 93, .inl (zA Pt)))] C (T := TX5) tyX5 tyX5_ok nmX5 im_X5_firstError_5 fl_X5_firstError_40 rfl rfl (by decide) rfl rfl rfl rfl rfl (Nat.le_of_ble_eq_true rfl) rfl dX5_firstError_2 rfl ?_
  refine zj_aload_n 6 0 C dX5_firstError_5 rfl rfl rfl ?_
  refine zj_ci 9 [0, 1, 2] [] C (wr := []) (zr_V [0, 1, 2] C (As := []) (rest := []) (c_X5_readBuffer l D cI cS cJ q5 m0 m1 m2 m3 m4 m5 m6 m7 m8 m9 0 sm ty pg rw un pm sp wr ha F1 Pt (by omega) htf) (cwV 0 C.1.2.2.2.2 gX5_firstError_X5_readBuffer rfl rfl rfl (by decide +kernel) ⟨Nat.le_of_ble_eq_true rfl, Nat.le_of_ble_eq_true rfl⟩) rfl (by decide) 0 rfl rfl rfl rfl (Nat.le_of_ble_eq_true rfl) dX5_firstError_6 ⟨Nat.le_of_ble_eq_true rfl, Nat.le_of_ble_eq_true rfl⟩) rfl rfl (by decide) (by decide) rfl (fun r_1 w_ hp_2 => ?_)
  obtain ⟨j, he, hj, rfl, rfl⟩ := hp_2
  refine zj_ws (ws' := [(q5, .inr (5, [.int (zI 0), .ref m0, .ref m1, .int (zI sm), .ref m2, .int (zI ty), .ref m3, .ref m4, .ref m5, .ref m6, .ref m7, .ref m8, .int (zI pg), .int (zI rw), .int (zI un), .ref m9, .int (zI ((zPbs F1 ty Pt j).1)), .int (zI ((zPbs F1 ty Pt j).2.1)), .int (zI ((zPbs F1 ty Pt j).2.2.1)), .long ha])), (m2, .inl (cI, 60, .inl (zA F1))), (m9, .inl (cI, 93, .inl (zA ((zPbs F1 ty Pt j).2.2.2))))]) rfl ?_
  have hrg : -1 ≤ (zPbs F1 ty Pt j).2.2.1 ∧ (zPbs F1 ty Pt j).2.2.1 ≤ 100 := by rcases he with q | q; (rw [q.1]; omega); (have := q.2.2.1; omega)
  refine zj_istore_n 10 [(1, .int (zI ((zPbs F1 ty Pt j).2.2.1))), (0, .ref q5)] C dX5_firstError_9 rfl rfl (by decide) rfl ?_
  refine zj_iload_n 11 0 C dX5_firstError_10 rfl rfl rfl ?_
  refine zj_iconst 12 C dX5_firstError_11 rfl ?_
  refine zj_icmp_ne 15 22 C (by omega) (by omega) dX5_firstError_12 rfl (by decide) (fun h12 => ?_) (fun h12 => ?_)
  · skip
    refine zj_iload_n 23 0 C dX5_firstError_22 rfl rfl rfl ?_
    refine zj_st (st' := [.int (zI (zErr F1 ty.toNat 0))]) (by rw [(he.resolve_left (fun q => h12 q.1)).2.2.2.1]) ?_
    subst hQ
    exact zj_ireturn C hr ⟨j, rfl, rfl⟩ (by decide) (by decide) dX5_firstError_23
  · skip
    refine zj_aload_n 16 1 C dX5_firstError_15 rfl rfl rfl ?_
    refine zj_get 19 0 5 C (T := TX5) im_X5_firstError_5 fl_X5_firstError_117 rfl rfl (by decide) rfl rfl dX5_firstError_16 rfl ?_
    refine zj_goto 23 C dX5_firstError_19 (by decide) ?_
    refine zj_st (st' := [.int (zI (zErr F1 ty.toNat 0))]) (by rw [zErr_w hty.1 (he.resolve_right (fun q => q.1 h12)).2.2.1]) ?_
    subst hQ
    exact zj_ireturn C hr ⟨j, rfl, rfl⟩ (by decide) (by decide) dX5_firstError_23
