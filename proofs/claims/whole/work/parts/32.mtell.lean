/-! ===== what is told of the pages, by the reference's loops ===== -/
def zUs (c : Int → Int) : Nat → Int | 0 => 0 | k + 1 => if 0 < c k then (k : Int) + 1 else zUs c k
def zLo (P : Int → Int) : Nat → Int | 0 => 0 | k + 1 => zLo P k + if P k = -1 then 1 else 0
def zEm (G : Int → Int) (a : Int) : Nat → Int | 0 => 0 | k + 1 => zEm G a k + if G (a + k) = -1 then 1 else 0
def zEu (c G : Int → Int) : Nat → Int | 0 => 0 | k + 1 => zEu c G k + if 0 < c k then zEm G (24 * k) 24 else 0
def zPs (c : Int → Int) : Nat → Int | 0 => 0 | k + 1 => zPs c k + if 0 < c k then 1 else 0
/-- the least of the last m cells of a page -/
def zFo (G : Int → Int) (a : Int) : Nat → Int | 0 => -1 | k + 1 => if G (a + (23 - k)) ≠ -1 ∧ (zFo G a k = -1 ∨ G (a + (23 - k)) < zFo G a k) then G (a + (23 - k)) else zFo G a k
def zBo (K P : Int → Int) (p : Int) : Nat → Int | 0 => 0 | k + 1 => zBo K P p k + if K k = 1 ∧ P k = p then 1 else 0
def zMx (b : Int → Int) : Nat → Int | 0 => 0 | k + 1 => if zMx b k < b k then b k else zMx b k
def zAbs (x : Int) : Int := if x < 0 then -x else x
def zUn (b : Int → Int) (u : Int) : Nat → Int | 0 => 0 | k + 1 => if 2 * (k : Int) < u ∧ zUn b u k < zAbs (b (2 * k) - b (2 * k + 1)) then zAbs (b (2 * k) - b (2 * k + 1)) else zUn b u k
def zPgF (what v0 v1 v2 v3 v4 v5 : Int) : Int := if what = 0 then v0 else if what = 1 then v1 else if what = 2 then v2 else if what = 3 then v3 else if what = 4 then v4 else v5
def zCtF (what n us ps lo mb eu un sg sm : Int) : Int := if what = 0 then n else if what = 1 then us else if what = 2 then us - ps else if what = 3 then lo else if what = 4 then mb else if what = 5 then eu else if what = 6 then un else if what = 7 then sg else sm
def zWhl (K G : Int → Int) (p : Int) : Prop := G (24 * p) ≠ -1 ∧ 2 ≤ K (G (24 * p))

theorem fl_X5_used_34 : Cond.fieldLink RX5 34 "SplashPagesModel" "panelsOn" "[I" ∈ wsX5_used := by decide +kernel
theorem im_X5_used_5 : ∀ w ∈ u_ws RX5 TX5 20, w ∈ wsX5_used := by decide +kernel
abbrev rm_X5_used : Room := { frames := 0, cells := 0, slots := 0, locals := 0 }
set_option maxRecDepth 100000 in
set_option maxHeartbeats 4000000 in
theorem c_X5_used (l : Launch) (D : va_G) (cI cS cJ : ClassId) (q5 : Nat) (m0 : Nat) (m1 : Nat) (m2 : Nat) (m3 : Nat) (m4 : Nat) (m5 : Nat) (m6 : Nat) (m7 : Nat) (m8 : Nat) (m9 : Nat) (th : Int) (sm : Int) (ty : Int) (pg : Int) (rw : Int) (un : Int) (pm : Int) (sp : Int) (wr : Int) (ha : Int64) (c1 : Int → Int) (hc : ∀ x, 0 ≤ c1 x ∧ c1 x ≤ 1000) : zMi l yX5_used wsX5_used rm_X5_used D (zTy cI cS cJ) [.ref q5] [(q5, .inr (5, [.int (zI th), .ref m0, .ref m1, .int (zI sm), .ref m2, .int (zI ty), .ref m3, .ref m4, .ref m5, .ref m6, .ref m7, .ref m8, .int (zI pg), .int (zI rw), .int (zI un), .ref m9, .int (zI pm), .int (zI sp), .int (zI wr), .long ha])), (m8, .inl (cI, 16, .inl (zA c1)))] (fun r w => r = zI (zUs c1 16) ∧ w = [(q5, .inr (5, [.int (zI th), .ref m0, .ref m1, .int (zI sm), .ref m2, .int (zI ty), .ref m3, .ref m4, .ref m5, .ref m6, .ref m7, .ref m8, .int (zI pg), .int (zI rw), .int (zI un), .ref m9, .int (zI pm), .int (zI sp), .int (zI wr), .long ha])), (m8, .inl (cI, 16, .inl (zA c1)))]) 0 0 := by
  intro sz
  refine zMet_of (Qc := fun A => va_Qi _ (zB D (zTy cI cS cJ) A) A) RX5 [(0, .ref q5)] rfl (by decide +kernel) rfl (Nat.le_of_ble_eq_true rfl) rfl ?_ sz
  intro p e s m args below meth c A Q hQ C hr hini
  refine zj_iconst 1 C dX5_used_0 rfl ?_
  refine zj_istore_n 2 [(1, .int (zI 0)), (0, .ref q5)] C dX5_used_1 rfl rfl (by decide) rfl ?_
  refine zj_iconst 3 C dX5_used_2 rfl ?_
  refine zj_istore_n 4 [(2, .int (zI 0)), (1, .int (zI 0)), (0, .ref q5)] C dX5_used_3 rfl rfl (by decide) rfl ?_
  have hL4 : ∀ (N : Nat) (k : Nat) (ac : Int), ((k : Int) ≤ 16) → (0 ≤ ac ∧ ac ≤ 100000) → (ac = zUs c1 k) → (16 - (k : Int) < N) → zJ p l e rm_X5_used s m args below meth c Q D A 3 [(q5, .inr (5, [.int (zI th), .ref m0, .ref m1, .int (zI sm), .ref m2, .int (zI ty), .ref m3, .ref m4, .ref m5, .ref m6, .ref m7, .ref m8, .int (zI pg), .int (zI rw), .int (zI un), .ref m9, .int (zI pm), .int (zI sp), .int (zI wr), .long ha])), (m8, .inl (cI, 16, .inl (zA c1)))] 0 0 [(0, .ref q5), (1, .int (zI ac)), (2, .int (zI (k : Int)))] 4 [] := by
    intro N
    induction N with
    | zero => intro k ac hk hac hr0 hN; exact absurd hN (by omega)
    | succ N ih =>
      intro k ac hk hac hr0 hN
      refine zj_iload_n 5 2 C dX5_used_4 rfl rfl rfl ?_
      refine zj_bipush 7 C dX5_used_5 rfl rfl ?_
      refine zj_icmp_ge 10 33 C (by omega) (by omega) dX5_used_7 rfl (by decide) (fun h_1 => ?_) (fun h_1 => ?_)
      · skip
        refine zj_iload_n 34 1 C dX5_used_33 rfl rfl rfl ?_
        refine zj_st (st' := [.int (zI (zUs c1 16))]) (by rw [hr0, show k = 16 by omega]) ?_
        subst hQ
        exact zj_ireturn C hr ⟨rfl, rfl⟩ (by decide) (by decide) dX5_used_34
      · skip
        have hck := hc k
        refine zj_aload_n 11 0 C dX5_used_10 rfl rfl rfl ?_
        refine zj_get 14 0 11 C (T := TX5) im_X5_used_5 fl_X5_used_34 rfl rfl (by decide) rfl rfl dX5_used_11 rfl ?_
        refine zj_iload_n 15 2 C dX5_used_14 rfl rfl rfl ?_
        refine zj_iald 16 1 C (by omega) (by omega) rfl rfl dX5_used_15 rfl ?_
        refine zj_if_le 19 25 C (by omega) dX5_used_16 rfl (by decide) (fun h_2 => ?_) (fun h_2 => ?_)
        · skip
          refine zj_iload_n 26 1 C dX5_used_25 rfl rfl rfl ?_
          refine zj_istore_n 27 [(1, .int (zI ac)), (0, .ref q5), (2, .int (zI (k : Int)))] C dX5_used_26 rfl rfl (by decide) rfl ?_
          refine zj_iinc 30 2 [(2, .int (zI ((k : Int) + 1))), (1, .int (zI ac)), (0, .ref q5)] C dX5_used_27 rfl rfl (by decide) rfl ?_
          refine zj_goto 4 C dX5_used_30 (by decide) ?_
          refine zj_lv [2, 1, 0] [(0, .ref q5), (1, .int (zI ac)), (2, .int (zI ((k : Int) + 1)))] rfl ?_
          refine zj_eqlv (lv' := [(0, .ref q5), (1, .int (zI ac)), (2, .int (zI ((k + 1) : Int)))]) (by rfl) ?_
          exact ih (k + 1) ac (by omega) (by omega) (by rw [zUs]; split <;> omega) (by omega)
        · skip
          refine zj_iload_n 20 2 C dX5_used_19 rfl rfl rfl ?_
          refine zj_iconst 21 C dX5_used_20 rfl ?_
          refine zj_iadd 22 C dX5_used_21 rfl ?_
          refine zj_goto 26 C dX5_used_22 (by decide) ?_
          refine zj_istore_n 27 [(1, .int (zI ((k : Int) + 1))), (0, .ref q5), (2, .int (zI (k : Int)))] C dX5_used_26 rfl rfl (by decide) rfl ?_
          refine zj_iinc 30 2 [(2, .int (zI ((k : Int) + 1))), (1, .int (zI ((k : Int) + 1))), (0, .ref q5)] C dX5_used_27 rfl rfl (by decide) rfl ?_
          refine zj_goto 4 C dX5_used_30 (by decide) ?_
          refine zj_lv [2, 1, 0] [(0, .ref q5), (1, .int (zI ((k : Int) + 1))), (2, .int (zI ((k : Int) + 1)))] rfl ?_
          refine zj_eqlv (lv' := [(0, .ref q5), (1, .int (zI ((k : Int) + 1))), (2, .int (zI ((k + 1) : Int)))]) (by rfl) ?_
          exact ih (k + 1) ((k : Int) + 1) (by omega) (by omega) (by rw [zUs]; split <;> omega) (by omega)
  refine zj_lv [2, 1, 0] [(0, .ref q5), (1, .int (zI 0)), (2, .int (zI 0))] rfl ?_
  refine zj_eqlv (lv' := [(0, .ref q5), (1, .int (zI 0)), (2, .int (zI (0 : Int)))]) (by rfl) ?_
  exact hL4 (17) 0 0 (by omega) (by omega) (rfl) (by omega)

theorem fl_X5_leftOut_7 : Cond.fieldLink RX5 7 "SplashPagesModel" "z" "[I" ∈ wsX5_leftOut := by decide +kernel
theorem im_X5_leftOut_5 : ∀ w ∈ u_ws RX5 TX5 20, w ∈ wsX5_leftOut := by decide +kernel
theorem fl_X5_leftOut_19 : Cond.fieldLink RX5 19 "SplashPagesModel" "pageOf" "[I" ∈ wsX5_leftOut := by decide +kernel
abbrev rm_X5_leftOut : Room := { frames := 0, cells := 0, slots := 0, locals := 0 }
set_option maxRecDepth 100000 in
set_option maxHeartbeats 4000000 in
theorem c_X5_leftOut (l : Launch) (D : va_G) (cI cS cJ : ClassId) (q5 : Nat) (m0 : Nat) (m1 : Nat) (m2 : Nat) (m3 : Nat) (m4 : Nat) (m5 : Nat) (m6 : Nat) (m7 : Nat) (m8 : Nat) (m9 : Nat) (th : Int) (sm : Int) (ty : Int) (pg : Int) (rw : Int) (un : Int) (pm : Int) (sp : Int) (wr : Int) (ha : Int64) (Z1 : Int → Int) (P1 : Int → Int) (hn : 0 ≤ Z1 1 ∧ Z1 1 ≤ 24) (hP : ∀ x, 0 ≤ x → x < Z1 1 → -1 ≤ P1 x ∧ P1 x ≤ 100) : zMi l yX5_leftOut wsX5_leftOut rm_X5_leftOut D (zTy cI cS cJ) [.ref q5] [(q5, .inr (5, [.int (zI th), .ref m0, .ref m1, .int (zI sm), .ref m2, .int (zI ty), .ref m3, .ref m4, .ref m5, .ref m6, .ref m7, .ref m8, .int (zI pg), .int (zI rw), .int (zI un), .ref m9, .int (zI pm), .int (zI sp), .int (zI wr), .long ha])), (m0, .inl (cI, 74, .inl (zA Z1))), (m3, .inl (cI, 24, .inl (zA P1)))] (fun r w => r = zI (zLo P1 (Z1 1).toNat) ∧ w = [(q5, .inr (5, [.int (zI th), .ref m0, .ref m1, .int (zI sm), .ref m2, .int (zI ty), .ref m3, .ref m4, .ref m5, .ref m6, .ref m7, .ref m8, .int (zI pg), .int (zI rw), .int (zI un), .ref m9, .int (zI pm), .int (zI sp), .int (zI wr), .long ha])), (m0, .inl (cI, 74, .inl (zA Z1))), (m3, .inl (cI, 24, .inl (zA P1)))]) 0 0 := by
  intro sz
  refine zMet_of (Qc := fun A => va_Qi _ (zB D (zTy cI cS cJ) A) A) RX5 [(0, .ref q5)] rfl (by decide +kernel) rfl (Nat.le_of_ble_eq_true rfl) rfl ?_ sz
  intro p e s m args below meth c A Q hQ C hr hini
  refine zj_iconst 1 C dX5_leftOut_0 rfl ?_
  refine zj_istore_n 2 [(1, .int (zI 0)), (0, .ref q5)] C dX5_leftOut_1 rfl rfl (by decide) rfl ?_
  refine zj_iconst 3 C dX5_leftOut_2 rfl ?_
  refine zj_istore_n 4 [(2, .int (zI 0)), (1, .int (zI 0)), (0, .ref q5)] C dX5_leftOut_3 rfl rfl (by decide) rfl ?_
  have hL4 : ∀ (N : Nat) (k : Nat) (ac : Int), ((k : Int) ≤ Z1 1) → (0 ≤ ac ∧ ac ≤ (k : Int)) → (ac = zLo P1 k) → (Z1 1 - (k : Int) < N) → zJ p l e rm_X5_leftOut s m args below meth c Q D A 3 [(q5, .inr (5, [.int (zI th), .ref m0, .ref m1, .int (zI sm), .ref m2, .int (zI ty), .ref m3, .ref m4, .ref m5, .ref m6, .ref m7, .ref m8, .int (zI pg), .int (zI rw), .int (zI un), .ref m9, .int (zI pm), .int (zI sp), .int (zI wr), .long ha])), (m0, .inl (cI, 74, .inl (zA Z1))), (m3, .inl (cI, 24, .inl (zA P1)))] 0 0 [(0, .ref q5), (1, .int (zI ac)), (2, .int (zI (k : Int)))] 4 [] := by
    intro N
    induction N with
    | zero => intro k ac hk hac hr0 hN; exact absurd hN (by omega)
    | succ N ih =>
      intro k ac hk hac hr0 hN
      refine zj_iload_n 5 2 C dX5_leftOut_4 rfl rfl rfl ?_
      refine zj_aload_n 6 0 C dX5_leftOut_5 rfl rfl rfl ?_
      refine zj_get 9 0 1 C (T := TX5) im_X5_leftOut_5 fl_X5_leftOut_7 rfl rfl (by decide) rfl rfl dX5_leftOut_6 rfl ?_
      refine zj_iconst 10 C dX5_leftOut_9 rfl ?_
      refine zj_iald 11 1 C (by omega) (by omega) rfl rfl dX5_leftOut_10 rfl ?_
      refine zj_icmp_ge 14 38 C (by omega) (by omega) dX5_leftOut_11 rfl (by decide) (fun h_1 => ?_) (fun h_1 => ?_)
      · skip
        refine zj_iload_n 39 1 C dX5_leftOut_38 rfl rfl rfl ?_
        refine zj_st (st' := [.int (zI (zLo P1 (Z1 1).toNat))]) (by rw [hr0, show k = (Z1 1).toNat by omega]) ?_
        subst hQ
        exact zj_ireturn C hr ⟨rfl, rfl⟩ (by decide) (by decide) dX5_leftOut_39
      · skip
        have hpk := hP k (by omega) (by omega)
        refine zj_iload_n 15 1 C dX5_leftOut_14 rfl rfl rfl ?_
        refine zj_aload_n 16 0 C dX5_leftOut_15 rfl rfl rfl ?_
        refine zj_get 19 0 6 C (T := TX5) im_X5_leftOut_5 fl_X5_leftOut_19 rfl rfl (by decide) rfl rfl dX5_leftOut_16 rfl ?_
        refine zj_iload_n 20 2 C dX5_leftOut_19 rfl rfl rfl ?_
        refine zj_iald 21 2 C (by omega) (by omega) rfl rfl dX5_leftOut_20 rfl ?_
        refine zj_iconst 22 C dX5_leftOut_21 rfl ?_
        refine zj_icmp_ne 25 29 C (by omega) (by omega) dX5_leftOut_22 rfl (by decide) (fun h_2 => ?_) (fun h_2 => ?_)
        · skip
          refine zj_iconst 30 C dX5_leftOut_29 rfl ?_
          refine zj_iadd 31 C dX5_leftOut_30 rfl ?_
          refine zj_istore_n 32 [(1, .int (zI (ac + 0))), (0, .ref q5), (2, .int (zI (k : Int)))] C dX5_leftOut_31 rfl rfl (by decide) rfl ?_
          refine zj_iinc 35 2 [(2, .int (zI ((k : Int) + 1))), (1, .int (zI (ac + 0))), (0, .ref q5)] C dX5_leftOut_32 rfl rfl (by decide) rfl ?_
          refine zj_goto 4 C dX5_leftOut_35 (by decide) ?_
          refine zj_lv [2, 1, 0] [(0, .ref q5), (1, .int (zI (ac + 0))), (2, .int (zI ((k : Int) + 1)))] rfl ?_
          refine zj_eqlv (lv' := [(0, .ref q5), (1, .int (zI (ac + 0))), (2, .int (zI ((k + 1) : Int)))]) (by rfl) ?_
          exact ih (k + 1) (ac + 0) (by omega) (by omega) (by rw [zLo]; split <;> omega) (by omega)
        · skip
          refine zj_iconst 26 C dX5_leftOut_25 rfl ?_
          refine zj_goto 30 C dX5_leftOut_26 (by decide) ?_
          refine zj_iadd 31 C dX5_leftOut_30 rfl ?_
          refine zj_istore_n 32 [(1, .int (zI (ac + 1))), (0, .ref q5), (2, .int (zI (k : Int)))] C dX5_leftOut_31 rfl rfl (by decide) rfl ?_
          refine zj_iinc 35 2 [(2, .int (zI ((k : Int) + 1))), (1, .int (zI (ac + 1))), (0, .ref q5)] C dX5_leftOut_32 rfl rfl (by decide) rfl ?_
          refine zj_goto 4 C dX5_leftOut_35 (by decide) ?_
          refine zj_lv [2, 1, 0] [(0, .ref q5), (1, .int (zI (ac + 1))), (2, .int (zI ((k : Int) + 1)))] rfl ?_
          refine zj_eqlv (lv' := [(0, .ref q5), (1, .int (zI (ac + 1))), (2, .int (zI ((k + 1) : Int)))]) (by rfl) ?_
          exact ih (k + 1) (ac + 1) (by omega) (by omega) (by rw [zLo]; split <;> omega) (by omega)
  refine zj_lv [2, 1, 0] [(0, .ref q5), (1, .int (zI 0)), (2, .int (zI 0))] rfl ?_
  refine zj_eqlv (lv' := [(0, .ref q5), (1, .int (zI 0)), (2, .int (zI (0 : Int)))]) (by rfl) ?_
  exact hL4 (25) 0 0 (by omega) (by omega) (rfl) (by omega)

theorem fl_X5_emptyOn_28 : Cond.fieldLink RX5 28 "SplashPagesModel" "grid" "[I" ∈ wsX5_emptyOn := by decide +kernel
theorem im_X5_emptyOn_5 : ∀ w ∈ u_ws RX5 TX5 20, w ∈ wsX5_emptyOn := by decide +kernel
abbrev rm_X5_emptyOn : Room := { frames := 0, cells := 0, slots := 0, locals := 0 }
set_option maxRecDepth 100000 in
set_option maxHeartbeats 4000000 in
theorem c_X5_emptyOn (l : Launch) (D : va_G) (cI cS cJ : ClassId) (q5 : Nat) (m0 : Nat) (m1 : Nat) (m2 : Nat) (m3 : Nat) (m4 : Nat) (m5 : Nat) (m6 : Nat) (m7 : Nat) (m8 : Nat) (m9 : Nat) (th : Int) (sm : Int) (ty : Int) (pg : Int) (rw : Int) (un : Int) (pm : Int) (sp : Int) (wr : Int) (ha : Int64) (G1 : Int → Int) (p1 : Int) (hG : ∀ x, 0 ≤ x → x < 384 → -1 ≤ G1 x ∧ G1 x ≤ 1000) (hp : 0 ≤ p1 ∧ p1 < 16) : zMi l yX5_emptyOn wsX5_emptyOn rm_X5_emptyOn D (zTy cI cS cJ) [.ref q5, .int (zI p1)] [(q5, .inr (5, [.int (zI th), .ref m0, .ref m1, .int (zI sm), .ref m2, .int (zI ty), .ref m3, .ref m4, .ref m5, .ref m6, .ref m7, .ref m8, .int (zI pg), .int (zI rw), .int (zI un), .ref m9, .int (zI pm), .int (zI sp), .int (zI wr), .long ha])), (m6, .inl (cI, 384, .inl (zA G1)))] (fun r w => ∃ (r1 : Int), r1 = zEm G1 (24 * p1) 24 ∧ (0 ≤ r1 ∧ r1 ≤ 24) ∧ r = zI r1 ∧ w = [(q5, .inr (5, [.int (zI th), .ref m0, .ref m1, .int (zI sm), .ref m2, .int (zI ty), .ref m3, .ref m4, .ref m5, .ref m6, .ref m7, .ref m8, .int (zI pg), .int (zI rw), .int (zI un), .ref m9, .int (zI pm), .int (zI sp), .int (zI wr), .long ha])), (m6, .inl (cI, 384, .inl (zA G1)))]) 0 0 := by
  intro sz
  refine zMet_of (Qc := fun A => va_Qi _ (zB D (zTy cI cS cJ) A) A) RX5 [(0, .ref q5), (1, .int (zI p1))] rfl (by decide +kernel) rfl (Nat.le_of_ble_eq_true rfl) rfl ?_ sz
  intro p e s m args below meth c A Q hQ C hr hini
  refine zj_iconst 1 C dX5_emptyOn_0 rfl ?_
  refine zj_istore_n 2 [(2, .int (zI 0)), (0, .ref q5), (1, .int (zI p1))] C dX5_emptyOn_1 rfl rfl (by decide) rfl ?_
  refine zj_iconst 3 C dX5_emptyOn_2 rfl ?_
  refine zj_istore_n 4 [(3, .int (zI 0)), (2, .int (zI 0)), (0, .ref q5), (1, .int (zI p1))] C dX5_emptyOn_3 rfl rfl (by decide) rfl ?_
  have hL4 : ∀ (N : Nat) (k : Nat) (ac : Int), ((k : Int) ≤ 24) → (0 ≤ ac ∧ ac ≤ (k : Int)) → (ac = zEm G1 (24 * p1) k) → (24 - (k : Int) < N) → zJ p l e rm_X5_emptyOn s m args below meth c Q D A 4 [(q5, .inr (5, [.int (zI th), .ref m0, .ref m1, .int (zI sm), .ref m2, .int (zI ty), .ref m3, .ref m4, .ref m5, .ref m6, .ref m7, .ref m8, .int (zI pg), .int (zI rw), .int (zI un), .ref m9, .int (zI pm), .int (zI sp), .int (zI wr), .long ha])), (m6, .inl (cI, 384, .inl (zA G1)))] 0 0 [(0, .ref q5), (1, .int (zI p1)), (2, .int (zI ac)), (3, .int (zI (k : Int)))] 4 [] := by
    intro N
    induction N with
    | zero => intro k ac hk hac hr0 hN; exact absurd hN (by omega)
    | succ N ih =>
      intro k ac hk hac hr0 hN
      refine zj_iload_n 5 3 C dX5_emptyOn_4 rfl rfl rfl ?_
      refine zj_bipush 7 C dX5_emptyOn_5 rfl rfl ?_
      refine zj_icmp_ge 10 39 C (by omega) (by omega) dX5_emptyOn_7 rfl (by decide) (fun h_1 => ?_) (fun h_1 => ?_)
      · skip
        refine zj_iload_n 40 2 C dX5_emptyOn_39 rfl rfl rfl ?_
        subst hQ
        exact zj_ireturn C hr ⟨ac, (by rw [hr0, show k = 24 by omega]), (by omega), rfl, rfl⟩ (by decide) (by decide) dX5_emptyOn_40
      · skip
        have hgk := hG (24 * p1 + k) (by omega) (by omega)
        refine zj_iload_n 11 2 C dX5_emptyOn_10 rfl rfl rfl ?_
        refine zj_aload_n 12 0 C dX5_emptyOn_11 rfl rfl rfl ?_
        refine zj_get 15 0 9 C (T := TX5) im_X5_emptyOn_5 fl_X5_emptyOn_28 rfl rfl (by decide) rfl rfl dX5_emptyOn_12 rfl ?_
        refine zj_bipush 17 C dX5_emptyOn_15 rfl rfl ?_
        refine zj_iload_n 18 1 C dX5_emptyOn_17 rfl rfl rfl ?_
        refine zj_imul 19 C dX5_emptyOn_18 rfl ?_
        refine zj_iload_n 20 3 C dX5_emptyOn_19 rfl rfl rfl ?_
        refine zj_iadd 21 C dX5_emptyOn_20 rfl ?_
        refine zj_iald 22 1 C (by omega) (by omega) rfl rfl dX5_emptyOn_21 rfl ?_
        refine zj_iconst 23 C dX5_emptyOn_22 rfl ?_
        refine zj_icmp_ne 26 30 C (by omega) (by omega) dX5_emptyOn_23 rfl (by decide) (fun h_2 => ?_) (fun h_2 => ?_)
        · skip
          refine zj_iconst 31 C dX5_emptyOn_30 rfl ?_
          refine zj_iadd 32 C dX5_emptyOn_31 rfl ?_
          refine zj_istore_n 33 [(2, .int (zI (ac + 0))), (0, .ref q5), (1, .int (zI p1)), (3, .int (zI (k : Int)))] C dX5_emptyOn_32 rfl rfl (by decide) rfl ?_
          refine zj_iinc 36 3 [(3, .int (zI ((k : Int) + 1))), (2, .int (zI (ac + 0))), (0, .ref q5), (1, .int (zI p1))] C dX5_emptyOn_33 rfl rfl (by decide) rfl ?_
          refine zj_goto 4 C dX5_emptyOn_36 (by decide) ?_
          refine zj_lv [2, 3, 1, 0] [(0, .ref q5), (1, .int (zI p1)), (2, .int (zI (ac + 0))), (3, .int (zI ((k : Int) + 1)))] rfl ?_
          refine zj_eqlv (lv' := [(0, .ref q5), (1, .int (zI p1)), (2, .int (zI (ac + 0))), (3, .int (zI ((k + 1) : Int)))]) (by rfl) ?_
          exact ih (k + 1) (ac + 0) (by omega) (by omega) (by rw [zEm]; split <;> omega) (by omega)
        · skip
          refine zj_iconst 27 C dX5_emptyOn_26 rfl ?_
          refine zj_goto 31 C dX5_emptyOn_27 (by decide) ?_
          refine zj_iadd 32 C dX5_emptyOn_31 rfl ?_
          refine zj_istore_n 33 [(2, .int (zI (ac + 1))), (0, .ref q5), (1, .int (zI p1)), (3, .int (zI (k : Int)))] C dX5_emptyOn_32 rfl rfl (by decide) rfl ?_
          refine zj_iinc 36 3 [(3, .int (zI ((k : Int) + 1))), (2, .int (zI (ac + 1))), (0, .ref q5), (1, .int (zI p1))] C dX5_emptyOn_33 rfl rfl (by decide) rfl ?_
          refine zj_goto 4 C dX5_emptyOn_36 (by decide) ?_
          refine zj_lv [2, 3, 1, 0] [(0, .ref q5), (1, .int (zI p1)), (2, .int (zI (ac + 1))), (3, .int (zI ((k : Int) + 1)))] rfl ?_
          refine zj_eqlv (lv' := [(0, .ref q5), (1, .int (zI p1)), (2, .int (zI (ac + 1))), (3, .int (zI ((k + 1) : Int)))]) (by rfl) ?_
          exact ih (k + 1) (ac + 1) (by omega) (by omega) (by rw [zEm]; split <;> omega) (by omega)
  refine zj_lv [2, 3, 1, 0] [(0, .ref q5), (1, .int (zI p1)), (2, .int (zI 0)), (3, .int (zI 0))] rfl ?_
  refine zj_eqlv (lv' := [(0, .ref q5), (1, .int (zI p1)), (2, .int (zI 0)), (3, .int (zI (0 : Int)))]) (by rfl) ?_
  exact hL4 (25) 0 0 (by omega) (by omega) (rfl) (by omega)

theorem fl_X5_emptyUnits_34 : Cond.fieldLink RX5 34 "SplashPagesModel" "panelsOn" "[I" ∈ wsX5_emptyUnits := by decide +kernel
theorem im_X5_emptyUnits_5 : ∀ w ∈ u_ws RX5 TX5 20, w ∈ wsX5_emptyUnits := by decide +kernel
abbrev rm_X5_emptyUnits : Room := { frames := 1, cells := 0, slots := 0, locals := 23 }
set_option maxRecDepth 100000 in
set_option maxHeartbeats 4000000 in
theorem c_X5_emptyUnits (l : Launch) (D : va_G) (cI cS cJ : ClassId) (q5 : Nat) (m0 : Nat) (m1 : Nat) (m2 : Nat) (m3 : Nat) (m4 : Nat) (m5 : Nat) (m6 : Nat) (m7 : Nat) (m8 : Nat) (m9 : Nat) (th : Int) (sm : Int) (ty : Int) (pg : Int) (rw : Int) (un : Int) (pm : Int) (sp : Int) (wr : Int) (ha : Int64) (G1 : Int → Int) (c1 : Int → Int) (hG : ∀ x, 0 ≤ x → x < 384 → -1 ≤ G1 x ∧ G1 x ≤ 1000) (hc : ∀ x, 0 ≤ c1 x ∧ c1 x ≤ 1000) : zMi l yX5_emptyUnits wsX5_emptyUnits rm_X5_emptyUnits D (zTy cI cS cJ) [.ref q5] [(q5, .inr (5, [.int (zI th), .ref m0, .ref m1, .int (zI sm), .ref m2, .int (zI ty), .ref m3, .ref m4, .ref m5, .ref m6, .ref m7, .ref m8, .int (zI pg), .int (zI rw), .int (zI un), .ref m9, .int (zI pm), .int (zI sp), .int (zI wr), .long ha])), (m6, .inl (cI, 384, .inl (zA G1))), (m8, .inl (cI, 16, .inl (zA c1)))] (fun r w => ∃ (r1 : Int), r1 = zEu c1 G1 16 ∧ (0 ≤ r1 ∧ r1 ≤ 384) ∧ r = zI r1 ∧ w = [(q5, .inr (5, [.int (zI th), .ref m0, .ref m1, .int (zI sm), .ref m2, .int (zI ty), .ref m3, .ref m4, .ref m5, .ref m6, .ref m7, .ref m8, .int (zI pg), .int (zI rw), .int (zI un), .ref m9, .int (zI pm), .int (zI sp), .int (zI wr), .long ha])), (m6, .inl (cI, 384, .inl (zA G1))), (m8, .inl (cI, 16, .inl (zA c1)))]) 0 0 := by
  intro sz
  refine zMet_of (Qc := fun A => va_Qi _ (zB D (zTy cI cS cJ) A) A) RX5 [(0, .ref q5)] rfl (by decide +kernel) rfl (Nat.le_of_ble_eq_true rfl) rfl ?_ sz
  intro p e s m args below meth c A Q hQ C hr hini
  refine zj_iconst 1 C dX5_emptyUnits_0 rfl ?_
  refine zj_istore_n 2 [(1, .int (zI 0)), (0, .ref q5)] C dX5_emptyUnits_1 rfl rfl (by decide) rfl ?_
  refine zj_iconst 3 C dX5_emptyUnits_2 rfl ?_
  refine zj_istore_n 4 [(2, .int (zI 0)), (1, .int (zI 0)), (0, .ref q5)] C dX5_emptyUnits_3 rfl rfl (by decide) rfl ?_
  have hL4 : ∀ (N : Nat) (k : Nat) (ac : Int), ((k : Int) ≤ 16) → (0 ≤ ac ∧ ac ≤ 24 * (k : Int)) → (ac = zEu c1 G1 k) → (16 - (k : Int) < N) → zJ p l e rm_X5_emptyUnits s m args below meth c Q D A 3 [(q5, .inr (5, [.int (zI th), .ref m0, .ref m1, .int (zI sm), .ref m2, .int (zI ty), .ref m3, .ref m4, .ref m5, .ref m6, .ref m7, .ref m8, .int (zI pg), .int (zI rw), .int (zI un), .ref m9, .int (zI pm), .int (zI sp), .int (zI wr), .long ha])), (m6, .inl (cI, 384, .inl (zA G1))), (m8, .inl (cI, 16, .inl (zA c1)))] 0 0 [(0, .ref q5), (1, .int (zI ac)), (2, .int (zI (k : Int)))] 4 [] := by
    intro N
    induction N with
    | zero => intro k ac hk hac hr0 hN; exact absurd hN (by omega)
    | succ N ih =>
      intro k ac hk hac hr0 hN
      refine zj_iload_n 5 2 C dX5_emptyUnits_4 rfl rfl rfl ?_
      refine zj_bipush 7 C dX5_emptyUnits_5 rfl rfl ?_
      refine zj_icmp_ge 10 37 C (by omega) (by omega) dX5_emptyUnits_7 rfl (by decide) (fun h_1 => ?_) (fun h_1 => ?_)
      · skip
        refine zj_iload_n 38 1 C dX5_emptyUnits_37 rfl rfl rfl ?_
        subst hQ
        exact zj_ireturn C hr ⟨ac, (by rw [hr0, show k = 16 by omega]), (by omega), rfl, rfl⟩ (by decide) (by decide) dX5_emptyUnits_38
      · skip
        have hck := hc k
        refine zj_iload_n 11 1 C dX5_emptyUnits_10 rfl rfl rfl ?_
        refine zj_aload_n 12 0 C dX5_emptyUnits_11 rfl rfl rfl ?_
        refine zj_get 15 0 11 C (T := TX5) im_X5_emptyUnits_5 fl_X5_emptyUnits_34 rfl rfl (by decide) rfl rfl dX5_emptyUnits_12 rfl ?_
        refine zj_iload_n 16 2 C dX5_emptyUnits_15 rfl rfl rfl ?_
        refine zj_iald 17 2 C (by omega) (by omega) rfl rfl dX5_emptyUnits_16 rfl ?_
        refine zj_if_le 20 28 C (by omega) dX5_emptyUnits_17 rfl (by decide) (fun h_2 => ?_) (fun h_2 => ?_)
        · skip
          refine zj_iconst 29 C dX5_emptyUnits_28 rfl ?_
          refine zj_iadd 30 C dX5_emptyUnits_29 rfl ?_
          refine zj_istore_n 31 [(1, .int (zI (ac + 0))), (0, .ref q5), (2, .int (zI (k : Int)))] C dX5_emptyUnits_30 rfl rfl (by decide) rfl ?_
          refine zj_iinc 34 2 [(2, .int (zI ((k : Int) + 1))), (1, .int (zI (ac + 0))), (0, .ref q5)] C dX5_emptyUnits_31 rfl rfl (by decide) rfl ?_
          refine zj_goto 4 C dX5_emptyUnits_34 (by decide) ?_
          refine zj_lv [2, 1, 0] [(0, .ref q5), (1, .int (zI (ac + 0))), (2, .int (zI ((k : Int) + 1)))] rfl ?_
          refine zj_eqlv (lv' := [(0, .ref q5), (1, .int (zI (ac + 0))), (2, .int (zI ((k + 1) : Int)))]) (by rfl) ?_
          exact ih (k + 1) (ac + 0) (by omega) (by omega) (by rw [zEu]; split <;> omega) (by omega)
        · skip
          refine zj_aload_n 21 0 C dX5_emptyUnits_20 rfl rfl rfl ?_
          refine zj_iload_n 22 2 C dX5_emptyUnits_21 rfl rfl rfl ?_
          refine zj_ci 25 [0, 1] [2] C (wr := [(m8, .inl (cI, 16, .inl (zA c1)))]) (zr_V [0, 1] C (As := [.int (zI (k : Int))]) (rest := [.int (zI ac)]) (c_X5_emptyOn l D cI cS cJ q5 m0 m1 m2 m3 m4 m5 m6 m7 m8 m9 th sm ty pg rw un pm sp wr ha G1 (k : Int) hG (by omega)) (cwV 1 C.1.2.2.2.2 gX5_emptyUnits_X5_emptyOn rfl rfl rfl (by decide +kernel) ⟨Nat.le_of_ble_eq_true rfl, Nat.le_of_ble_eq_true rfl⟩) rfl (by decide) 0 rfl rfl rfl rfl (Nat.le_of_ble_eq_true rfl) dX5_emptyUnits_22 ⟨Nat.le_of_ble_eq_true rfl, Nat.le_of_ble_eq_true rfl⟩) rfl rfl (by decide) (by decide) rfl (fun r_3 w_ hp_4 => ?_)
          obtain ⟨r1_5, fe, f_6, rfl, rfl⟩ := hp_4
          refine zj_ws (ws' := [(m8, .inl (cI, 16, .inl (zA c1))), (q5, .inr (5, [.int (zI th), .ref m0, .ref m1, .int (zI sm), .ref m2, .int (zI ty), .ref m3, .ref m4, .ref m5, .ref m6, .ref m7, .ref m8, .int (zI pg), .int (zI rw), .int (zI un), .ref m9, .int (zI pm), .int (zI sp), .int (zI wr), .long ha])), (m6, .inl (cI, 384, .inl (zA G1)))]) rfl ?_
          refine zj_goto 29 C dX5_emptyUnits_25 (by decide) ?_
          refine zj_iadd 30 C dX5_emptyUnits_29 rfl ?_
          refine zj_istore_n 31 [(1, .int (zI (ac + r1_5))), (0, .ref q5), (2, .int (zI (k : Int)))] C dX5_emptyUnits_30 rfl rfl (by decide) rfl ?_
          refine zj_iinc 34 2 [(2, .int (zI ((k : Int) + 1))), (1, .int (zI (ac + r1_5))), (0, .ref q5)] C dX5_emptyUnits_31 rfl rfl (by decide) rfl ?_
          refine zj_goto 4 C dX5_emptyUnits_34 (by decide) ?_
          refine zj_re [1, 2, 0] [(q5, .inr (5, [.int (zI th), .ref m0, .ref m1, .int (zI sm), .ref m2, .int (zI ty), .ref m3, .ref m4, .ref m5, .ref m6, .ref m7, .ref m8, .int (zI pg), .int (zI rw), .int (zI un), .ref m9, .int (zI pm), .int (zI sp), .int (zI wr), .long ha])), (m6, .inl (cI, 384, .inl (zA G1))), (m8, .inl (cI, 16, .inl (zA c1)))] (by decide) rfl ?_
          refine zj_lv [2, 1, 0] [(0, .ref q5), (1, .int (zI (ac + r1_5))), (2, .int (zI ((k : Int) + 1)))] rfl ?_
          refine zj_eqlv (lv' := [(0, .ref q5), (1, .int (zI (ac + r1_5))), (2, .int (zI ((k + 1) : Int)))]) (by rfl) ?_
          exact ih (k + 1) (ac + r1_5) (by omega) (by omega) (by rw [zEu]; split <;> omega) (by omega)
  refine zj_lv [2, 1, 0] [(0, .ref q5), (1, .int (zI 0)), (2, .int (zI 0))] rfl ?_
  refine zj_eqlv (lv' := [(0, .ref q5), (1, .int (zI 0)), (2, .int (zI (0 : Int)))]) (by rfl) ?_
  exact hL4 (17) 0 0 (by omega) (by omega) (rfl) (by omega)

theorem fl_X5_pagesSet_34 : Cond.fieldLink RX5 34 "SplashPagesModel" "panelsOn" "[I" ∈ wsX5_pagesSet := by decide +kernel
theorem im_X5_pagesSet_5 : ∀ w ∈ u_ws RX5 TX5 20, w ∈ wsX5_pagesSet := by decide +kernel
abbrev rm_X5_pagesSet : Room := { frames := 0, cells := 0, slots := 0, locals := 0 }
set_option maxRecDepth 100000 in
set_option maxHeartbeats 4000000 in
theorem c_X5_pagesSet (l : Launch) (D : va_G) (cI cS cJ : ClassId) (q5 : Nat) (m0 : Nat) (m1 : Nat) (m2 : Nat) (m3 : Nat) (m4 : Nat) (m5 : Nat) (m6 : Nat) (m7 : Nat) (m8 : Nat) (m9 : Nat) (th : Int) (sm : Int) (ty : Int) (pg : Int) (rw : Int) (un : Int) (pm : Int) (sp : Int) (wr : Int) (ha : Int64) (c1 : Int → Int) (hc : ∀ x, 0 ≤ c1 x ∧ c1 x ≤ 1000) : zMi l yX5_pagesSet wsX5_pagesSet rm_X5_pagesSet D (zTy cI cS cJ) [.ref q5] [(q5, .inr (5, [.int (zI th), .ref m0, .ref m1, .int (zI sm), .ref m2, .int (zI ty), .ref m3, .ref m4, .ref m5, .ref m6, .ref m7, .ref m8, .int (zI pg), .int (zI rw), .int (zI un), .ref m9, .int (zI pm), .int (zI sp), .int (zI wr), .long ha])), (m8, .inl (cI, 16, .inl (zA c1)))] (fun r w => ∃ (r1 : Int), r1 = zPs c1 16 ∧ (0 ≤ r1 ∧ r1 ≤ 16) ∧ r = zI r1 ∧ w = [(q5, .inr (5, [.int (zI th), .ref m0, .ref m1, .int (zI sm), .ref m2, .int (zI ty), .ref m3, .ref m4, .ref m5, .ref m6, .ref m7, .ref m8, .int (zI pg), .int (zI rw), .int (zI un), .ref m9, .int (zI pm), .int (zI sp), .int (zI wr), .long ha])), (m8, .inl (cI, 16, .inl (zA c1)))]) 0 0 := by
  intro sz
  refine zMet_of (Qc := fun A => va_Qi _ (zB D (zTy cI cS cJ) A) A) RX5 [(0, .ref q5)] rfl (by decide +kernel) rfl (Nat.le_of_ble_eq_true rfl) rfl ?_ sz
  intro p e s m args below meth c A Q hQ C hr hini
  refine zj_iconst 1 C dX5_pagesSet_0 rfl ?_
  refine zj_istore_n 2 [(1, .int (zI 0)), (0, .ref q5)] C dX5_pagesSet_1 rfl rfl (by decide) rfl ?_
  refine zj_iconst 3 C dX5_pagesSet_2 rfl ?_
  refine zj_istore_n 4 [(2, .int (zI 0)), (1, .int (zI 0)), (0, .ref q5)] C dX5_pagesSet_3 rfl rfl (by decide) rfl ?_
  have hL4 : ∀ (N : Nat) (k : Nat) (ac : Int), ((k : Int) ≤ 16) → (0 ≤ ac ∧ ac ≤ (k : Int)) → (ac = zPs c1 k) → (16 - (k : Int) < N) → zJ p l e rm_X5_pagesSet s m args below meth c Q D A 3 [(q5, .inr (5, [.int (zI th), .ref m0, .ref m1, .int (zI sm), .ref m2, .int (zI ty), .ref m3, .ref m4, .ref m5, .ref m6, .ref m7, .ref m8, .int (zI pg), .int (zI rw), .int (zI un), .ref m9, .int (zI pm), .int (zI sp), .int (zI wr), .long ha])), (m8, .inl (cI, 16, .inl (zA c1)))] 0 0 [(0, .ref q5), (1, .int (zI ac)), (2, .int (zI (k : Int)))] 4 [] := by
    intro N
    induction N with
    | zero => intro k ac hk hac hr0 hN; exact absurd hN (by omega)
    | succ N ih =>
      intro k ac hk hac hr0 hN
      refine zj_iload_n 5 2 C dX5_pagesSet_4 rfl rfl rfl ?_
      refine zj_bipush 7 C dX5_pagesSet_5 rfl rfl ?_
      refine zj_icmp_ge 10 33 C (by omega) (by omega) dX5_pagesSet_7 rfl (by decide) (fun h_1 => ?_) (fun h_1 => ?_)
      · skip
        refine zj_iload_n 34 1 C dX5_pagesSet_33 rfl rfl rfl ?_
        subst hQ
        exact zj_ireturn C hr ⟨ac, (by rw [hr0, show k = 16 by omega]), (by omega), rfl, rfl⟩ (by decide) (by decide) dX5_pagesSet_34
      · skip
        have hck := hc k
        refine zj_iload_n 11 1 C dX5_pagesSet_10 rfl rfl rfl ?_
        refine zj_aload_n 12 0 C dX5_pagesSet_11 rfl rfl rfl ?_
        refine zj_get 15 0 11 C (T := TX5) im_X5_pagesSet_5 fl_X5_pagesSet_34 rfl rfl (by decide) rfl rfl dX5_pagesSet_12 rfl ?_
        refine zj_iload_n 16 2 C dX5_pagesSet_15 rfl rfl rfl ?_
        refine zj_iald 17 1 C (by omega) (by omega) rfl rfl dX5_pagesSet_16 rfl ?_
        refine zj_if_le 20 24 C (by omega) dX5_pagesSet_17 rfl (by decide) (fun h_2 => ?_) (fun h_2 => ?_)
        · skip
          refine zj_iconst 25 C dX5_pagesSet_24 rfl ?_
          refine zj_iadd 26 C dX5_pagesSet_25 rfl ?_
          refine zj_istore_n 27 [(1, .int (zI (ac + 0))), (0, .ref q5), (2, .int (zI (k : Int)))] C dX5_pagesSet_26 rfl rfl (by decide) rfl ?_
          refine zj_iinc 30 2 [(2, .int (zI ((k : Int) + 1))), (1, .int (zI (ac + 0))), (0, .ref q5)] C dX5_pagesSet_27 rfl rfl (by decide) rfl ?_
          refine zj_goto 4 C dX5_pagesSet_30 (by decide) ?_
          refine zj_lv [2, 1, 0] [(0, .ref q5), (1, .int (zI (ac + 0))), (2, .int (zI ((k : Int) + 1)))] rfl ?_
          refine zj_eqlv (lv' := [(0, .ref q5), (1, .int (zI (ac + 0))), (2, .int (zI ((k + 1) : Int)))]) (by rfl) ?_
          exact ih (k + 1) (ac + 0) (by omega) (by omega) (by rw [zPs]; split <;> omega) (by omega)
        · skip
          refine zj_iconst 21 C dX5_pagesSet_20 rfl ?_
          refine zj_goto 25 C dX5_pagesSet_21 (by decide) ?_
          refine zj_iadd 26 C dX5_pagesSet_25 rfl ?_
          refine zj_istore_n 27 [(1, .int (zI (ac + 1))), (0, .ref q5), (2, .int (zI (k : Int)))] C dX5_pagesSet_26 rfl rfl (by decide) rfl ?_
          refine zj_iinc 30 2 [(2, .int (zI ((k : Int) + 1))), (1, .int (zI (ac + 1))), (0, .ref q5)] C dX5_pagesSet_27 rfl rfl (by decide) rfl ?_
          refine zj_goto 4 C dX5_pagesSet_30 (by decide) ?_
          refine zj_lv [2, 1, 0] [(0, .ref q5), (1, .int (zI (ac + 1))), (2, .int (zI ((k : Int) + 1)))] rfl ?_
          refine zj_eqlv (lv' := [(0, .ref q5), (1, .int (zI (ac + 1))), (2, .int (zI ((k + 1) : Int)))]) (by rfl) ?_
          exact ih (k + 1) (ac + 1) (by omega) (by omega) (by rw [zPs]; split <;> omega) (by omega)
  refine zj_lv [2, 1, 0] [(0, .ref q5), (1, .int (zI 0)), (2, .int (zI 0))] rfl ?_
  refine zj_eqlv (lv' := [(0, .ref q5), (1, .int (zI 0)), (2, .int (zI (0 : Int)))]) (by rfl) ?_
  exact hL4 (17) 0 0 (by omega) (by omega) (rfl) (by omega)

theorem fl_X5_isWhole_28 : Cond.fieldLink RX5 28 "SplashPagesModel" "grid" "[I" ∈ wsX5_isWhole := by decide +kernel
theorem im_X5_isWhole_5 : ∀ w ∈ u_ws RX5 TX5 20, w ∈ wsX5_isWhole := by decide +kernel
abbrev rm_X5_isWhole : Room := { frames := 1, cells := 0, slots := 0, locals := 22 }
set_option maxRecDepth 100000 in
set_option maxHeartbeats 4000000 in
theorem c_X5_isWhole (l : Launch) (D : va_G) (cI cS cJ : ClassId) (q5 : Nat) (m0 : Nat) (m1 : Nat) (m2 : Nat) (m3 : Nat) (m4 : Nat) (m5 : Nat) (m6 : Nat) (m7 : Nat) (m8 : Nat) (m9 : Nat) (th : Int) (sm : Int) (ty : Int) (pg : Int) (rw : Int) (un : Int) (pm : Int) (sp : Int) (wr : Int) (ha : Int64) (Z1 : Int → Int) (G1 : Int → Int) (p1 : Int) (hst : zOk (Z1 1) (Z1 0) (zKz Z1) (zWz Z1) (zTz Z1)) (hG : ∀ x, 0 ≤ x → x < 384 → -1 ≤ G1 x ∧ G1 x < Z1 1) (hp : 0 ≤ p1 ∧ p1 < 16) : zMi l yX5_isWhole wsX5_isWhole rm_X5_isWhole D (zTy cI cS cJ) [.ref q5, .int (zI p1)] [(q5, .inr (5, [.int (zI th), .ref m0, .ref m1, .int (zI sm), .ref m2, .int (zI ty), .ref m3, .ref m4, .ref m5, .ref m6, .ref m7, .ref m8, .int (zI pg), .int (zI rw), .int (zI un), .ref m9, .int (zI pm), .int (zI sp), .int (zI wr), .long ha])), (m0, .inl (cI, 74, .inl (zA Z1))), (m6, .inl (cI, 384, .inl (zA G1)))] (fun r w => ∃ (r1 : Int), ((r1 = 1 ∧ zWhl (zKz Z1) G1 p1) ∨ (r1 = 0 ∧ ¬ zWhl (zKz Z1) G1 p1)) ∧ r = zI r1 ∧ w = [(q5, .inr (5, [.int (zI th), .ref m0, .ref m1, .int (zI sm), .ref m2, .int (zI ty), .ref m3, .ref m4, .ref m5, .ref m6, .ref m7, .ref m8, .int (zI pg), .int (zI rw), .int (zI un), .ref m9, .int (zI pm), .int (zI sp), .int (zI wr), .long ha])), (m0, .inl (cI, 74, .inl (zA Z1))), (m6, .inl (cI, 384, .inl (zA G1)))]) 0 0 := by
  intro sz
  refine zMet_of (Qc := fun A => va_Qi _ (zB D (zTy cI cS cJ) A) A) RX5 [(0, .ref q5), (1, .int (zI p1))] rfl (by decide +kernel) rfl (Nat.le_of_ble_eq_true rfl) rfl ?_ sz
  intro p e s m args below meth c A Q hQ C hr hini
  have hgk := hG (24 * p1) (by omega) (by omega)
  have hn := hst.1
  refine zj_aload_n 1 0 C dX5_isWhole_0 rfl rfl rfl ?_
  refine zj_get 4 0 9 C (T := TX5) im_X5_isWhole_5 fl_X5_isWhole_28 rfl rfl (by decide) rfl rfl dX5_isWhole_1 rfl ?_
  refine zj_bipush 6 C dX5_isWhole_4 rfl rfl ?_
  refine zj_iload_n 7 1 C dX5_isWhole_6 rfl rfl rfl ?_
  refine zj_imul 8 C dX5_isWhole_7 rfl ?_
  refine zj_iald 9 2 C (by omega) (by omega) rfl rfl dX5_isWhole_8 rfl ?_
  refine zj_istore_n 10 [(2, .int (zI (G1 (24 * p1)))), (0, .ref q5), (1, .int (zI p1))] C dX5_isWhole_9 rfl rfl (by decide) rfl ?_
  refine zj_iload_n 11 0 C dX5_isWhole_10 rfl rfl rfl ?_
  refine zj_iconst 12 C dX5_isWhole_11 rfl ?_
  refine zj_icmp_eq 15 29 C (by omega) (by omega) dX5_isWhole_12 rfl (by decide) (fun h12 => ?_) (fun h12 => ?_)
  · skip
    refine zj_iconst 30 C dX5_isWhole_29 rfl ?_
    subst hQ
    exact zj_zret C (zI_bool (by omega)) hr ⟨0, (by unfold zWhl zKz; omega), rfl, rfl⟩ (by decide) (by decide) dX5_isWhole_30
  · skip
    have hv := hst.2.2 (G1 (24 * p1)) (by omega) (by omega)
    dsimp only [zKz, zWz, zTz] at hv
    refine zj_aload_n 16 1 C dX5_isWhole_15 rfl rfl rfl ?_
    refine zj_iload_n 17 0 C dX5_isWhole_16 rfl rfl rfl ?_
    refine zj_iconst 18 C dX5_isWhole_17 rfl ?_
    refine zj_ci 21 [0, 1] [2] C (wr := [(m6, .inl (cI, 384, .inl (zA G1)))]) (zr_V [0, 1] C (As := [.int (zI (G1 (24 * p1))), .int (zI 0)]) (rest := []) (c_X5_of l D cI cS cJ q5 m0 m1 m2 m3 m4 m5 m6 m7 m8 m9 th sm ty pg rw un pm sp wr ha Z1 (G1 (24 * p1)) 0 (by omega) (by omega)) (cwV 2 C.1.2.2.2.2 gX5_isWhole_X5_of rfl rfl rfl (by decide +kernel) ⟨Nat.le_of_ble_eq_true rfl, Nat.le_of_ble_eq_true rfl⟩) rfl (by decide) 0 rfl rfl rfl rfl (Nat.le_of_ble_eq_true rfl) dX5_isWhole_18 ⟨Nat.le_of_ble_eq_true rfl, Nat.le_of_ble_eq_true rfl⟩) rfl rfl (by decide) (by decide) rfl (fun r_1 w_ hp_2 => ?_)
    obtain ⟨rfl, rfl⟩ := hp_2
    refine zj_ws (ws' := [(m6, .inl (cI, 384, .inl (zA G1))), (q5, .inr (5, [.int (zI th), .ref m0, .ref m1, .int (zI sm), .ref m2, .int (zI ty), .ref m3, .ref m4, .ref m5, .ref m6, .ref m7, .ref m8, .int (zI pg), .int (zI rw), .int (zI un), .ref m9, .int (zI pm), .int (zI sp), .int (zI wr), .long ha])), (m0, .inl (cI, 74, .inl (zA Z1)))]) rfl ?_
    refine zj_iconst 22 C dX5_isWhole_21 rfl ?_
    refine zj_icmp_lt 25 29 C (by omega) (by omega) dX5_isWhole_22 rfl (by decide) (fun h22 => ?_) (fun h22 => ?_)
    · skip
      refine zj_iconst 30 C dX5_isWhole_29 rfl ?_
      refine zj_re [1, 2, 0] [(q5, .inr (5, [.int (zI th), .ref m0, .ref m1, .int (zI sm), .ref m2, .int (zI ty), .ref m3, .ref m4, .ref m5, .ref m6, .ref m7, .ref m8, .int (zI pg), .int (zI rw), .int (zI un), .ref m9, .int (zI pm), .int (zI sp), .int (zI wr), .long ha])), (m0, .inl (cI, 74, .inl (zA Z1))), (m6, .inl (cI, 384, .inl (zA G1)))] (by decide) rfl ?_
      subst hQ
      exact zj_zret C (zI_bool (by omega)) hr ⟨0, (by unfold zWhl zKz; omega), rfl, rfl⟩ (by decide) (by decide) dX5_isWhole_30
    · skip
      refine zj_iconst 26 C dX5_isWhole_25 rfl ?_
      refine zj_goto 30 C dX5_isWhole_26 (by decide) ?_
      refine zj_re [1, 2, 0] [(q5, .inr (5, [.int (zI th), .ref m0, .ref m1, .int (zI sm), .ref m2, .int (zI ty), .ref m3, .ref m4, .ref m5, .ref m6, .ref m7, .ref m8, .int (zI pg), .int (zI rw), .int (zI un), .ref m9, .int (zI pm), .int (zI sp), .int (zI wr), .long ha])), (m0, .inl (cI, 74, .inl (zA Z1))), (m6, .inl (cI, 384, .inl (zA G1)))] (by decide) rfl ?_
      subst hQ
      exact zj_zret C (zI_bool (by omega)) hr ⟨1, (by unfold zWhl zKz; omega), rfl, rfl⟩ (by decide) (by decide) dX5_isWhole_30

theorem fl_X5_firstOn_28 : Cond.fieldLink RX5 28 "SplashPagesModel" "grid" "[I" ∈ wsX5_firstOn := by decide +kernel
theorem im_X5_firstOn_5 : ∀ w ∈ u_ws RX5 TX5 20, w ∈ wsX5_firstOn := by decide +kernel
abbrev rm_X5_firstOn : Room := { frames := 0, cells := 0, slots := 0, locals := 0 }
set_option maxRecDepth 100000 in
set_option maxHeartbeats 4000000 in
theorem c_X5_firstOn (l : Launch) (D : va_G) (cI cS cJ : ClassId) (q5 : Nat) (m0 : Nat) (m1 : Nat) (m2 : Nat) (m3 : Nat) (m4 : Nat) (m5 : Nat) (m6 : Nat) (m7 : Nat) (m8 : Nat) (m9 : Nat) (th : Int) (sm : Int) (ty : Int) (pg : Int) (rw : Int) (un : Int) (pm : Int) (sp : Int) (wr : Int) (ha : Int64) (G1 : Int → Int) (p1 : Int) (hG : ∀ x, 0 ≤ x → x < 384 → -1 ≤ G1 x ∧ G1 x ≤ 1000) (hp : 0 ≤ p1 ∧ p1 < 16) : zMi l yX5_firstOn wsX5_firstOn rm_X5_firstOn D (zTy cI cS cJ) [.ref q5, .int (zI p1)] [(q5, .inr (5, [.int (zI th), .ref m0, .ref m1, .int (zI sm), .ref m2, .int (zI ty), .ref m3, .ref m4, .ref m5, .ref m6, .ref m7, .ref m8, .int (zI pg), .int (zI rw), .int (zI un), .ref m9, .int (zI pm), .int (zI sp), .int (zI wr), .long ha])), (m6, .inl (cI, 384, .inl (zA G1)))] (fun r w => r = zI (zFo G1 (24 * p1) 24) ∧ w = [(q5, .inr (5, [.int (zI th), .ref m0, .ref m1, .int (zI sm), .ref m2, .int (zI ty), .ref m3, .ref m4, .ref m5, .ref m6, .ref m7, .ref m8, .int (zI pg), .int (zI rw), .int (zI un), .ref m9, .int (zI pm), .int (zI sp), .int (zI wr), .long ha])), (m6, .inl (cI, 384, .inl (zA G1)))]) 0 0 := by
  intro sz
  refine zMet_of (Qc := fun A => va_Qi _ (zB D (zTy cI cS cJ) A) A) RX5 [(0, .ref q5), (1, .int (zI p1))] rfl (by decide +kernel) rfl (Nat.le_of_ble_eq_true rfl) rfl ?_ sz
  intro p e s m args below meth c A Q hQ C hr hini
  refine zj_iconst 1 C dX5_firstOn_0 rfl ?_
  refine zj_istore_n 2 [(2, .int (zI (-1))), (0, .ref q5), (1, .int (zI p1))] C dX5_firstOn_1 rfl rfl (by decide) rfl ?_
  refine zj_bipush 4 C dX5_firstOn_2 rfl rfl ?_
  refine zj_istore_n 5 [(3, .int (zI 23)), (2, .int (zI (-1))), (0, .ref q5), (1, .int (zI p1))] C dX5_firstOn_4 rfl rfl (by decide) rfl ?_
  have hL5 : ∀ (N : Nat) (k : Nat) (ac : Int), ((k : Int) ≤ 24) → (-1 ≤ ac ∧ ac ≤ 1000) → (ac = zFo G1 (24 * p1) k) → (24 - (k : Int) < N) → zJ p l e rm_X5_firstOn s m args below meth c Q D A 5 [(q5, .inr (5, [.int (zI th), .ref m0, .ref m1, .int (zI sm), .ref m2, .int (zI ty), .ref m3, .ref m4, .ref m5, .ref m6, .ref m7, .ref m8, .int (zI pg), .int (zI rw), .int (zI un), .ref m9, .int (zI pm), .int (zI sp), .int (zI wr), .long ha])), (m6, .inl (cI, 384, .inl (zA G1)))] 0 0 [(0, .ref q5), (1, .int (zI p1)), (2, .int (zI ac)), (3, .int (zI (23 - (k : Int))))] 5 [] := by
    intro N
    induction N with
    | zero => intro k ac hk hac hr0 hN; exact absurd hN (by omega)
    | succ N ih =>
      intro k ac hk hac hr0 hN
      refine zj_iload_n 6 3 C dX5_firstOn_5 rfl rfl rfl ?_
      refine zj_if_lt 9 52 C (by omega) dX5_firstOn_6 rfl (by decide) (fun h_1 => ?_) (fun h_1 => ?_)
      · skip
        refine zj_iload_n 53 2 C dX5_firstOn_52 rfl rfl rfl ?_
        refine zj_st (st' := [.int (zI (zFo G1 (24 * p1) 24))]) (by rw [hr0, show k = 24 by omega]) ?_
        subst hQ
        exact zj_ireturn C hr ⟨rfl, rfl⟩ (by decide) (by decide) dX5_firstOn_53
      · skip
        have hgk := hG (24 * p1 + (23 - k)) (by omega) (by omega)
        refine zj_aload_n 10 0 C dX5_firstOn_9 rfl rfl rfl ?_
        refine zj_get 13 0 9 C (T := TX5) im_X5_firstOn_5 fl_X5_firstOn_28 rfl rfl (by decide) rfl rfl dX5_firstOn_10 rfl ?_
        refine zj_bipush 15 C dX5_firstOn_13 rfl rfl ?_
        refine zj_iload_n 16 1 C dX5_firstOn_15 rfl rfl rfl ?_
        refine zj_imul 17 C dX5_firstOn_16 rfl ?_
        refine zj_iload_n 18 3 C dX5_firstOn_17 rfl rfl rfl ?_
        refine zj_iadd 19 C dX5_firstOn_18 rfl ?_
        refine zj_iald 20 1 C (by omega) (by omega) rfl rfl dX5_firstOn_19 rfl ?_
        refine zj_istore 22 [(4, .int (zI (G1 ((24 * p1) + (23 - (k : Int)))))), (0, .ref q5), (1, .int (zI p1)), (2, .int (zI ac)), (3, .int (zI (23 - (k : Int))))] C dX5_firstOn_20 rfl (by decide) rfl ?_
        refine zj_iload 24 0 C dX5_firstOn_22 rfl rfl ?_
        refine zj_iconst 25 C dX5_firstOn_24 rfl ?_
        refine zj_icmp_eq 28 44 C (by omega) (by omega) dX5_firstOn_25 rfl (by decide) (fun h_2 => ?_) (fun h_2 => ?_)
        · skip
          refine zj_iload_n 45 3 C dX5_firstOn_44 rfl rfl rfl ?_
          refine zj_istore_n 46 [(2, .int (zI ac)), (4, .int (zI (G1 ((24 * p1) + (23 - (k : Int)))))), (0, .ref q5), (1, .int (zI p1)), (3, .int (zI (23 - (k : Int))))] C dX5_firstOn_45 rfl rfl (by decide) rfl ?_
          refine zj_iinc 49 4 [(3, .int (zI ((23 - (k : Int)) + (-1)))), (2, .int (zI ac)), (4, .int (zI (G1 ((24 * p1) + (23 - (k : Int)))))), (0, .ref q5), (1, .int (zI p1))] C dX5_firstOn_46 rfl rfl (by decide) rfl ?_
          refine zj_goto 5 C dX5_firstOn_49 (by decide) ?_
          refine zj_lv [3, 4, 1, 0] [(0, .ref q5), (1, .int (zI p1)), (2, .int (zI ac)), (3, .int (zI ((23 - (k : Int)) + (-1))))] rfl ?_
          refine zj_eqlv (lv' := [(0, .ref q5), (1, .int (zI p1)), (2, .int (zI ac)), (3, .int (zI (23 - ((k + 1) : Int))))]) (by rw [show 23 - (k : Int) + (-1) = 23 - ((k + 1 : Nat) : Int) by omega]; rfl) ?_
          exact ih (k + 1) ac (by omega) (by omega) (by rw [zFo, ← hr0]; split <;> omega) (by omega)
        · skip
          refine zj_iload_n 29 3 C dX5_firstOn_28 rfl rfl rfl ?_
          refine zj_iconst 30 C dX5_firstOn_29 rfl ?_
          refine zj_icmp_eq 33 39 C (by omega) (by omega) dX5_firstOn_30 rfl (by decide) (fun h_3 => ?_) (fun h_3 => ?_)
          · skip
            refine zj_iload 41 0 C dX5_firstOn_39 rfl rfl ?_
            refine zj_goto 45 C dX5_firstOn_41 (by decide) ?_
            refine zj_istore_n 46 [(2, .int (zI (G1 ((24 * p1) + (23 - (k : Int)))))), (4, .int (zI (G1 ((24 * p1) + (23 - (k : Int)))))), (0, .ref q5), (1, .int (zI p1)), (3, .int (zI (23 - (k : Int))))] C dX5_firstOn_45 rfl rfl (by decide) rfl ?_
            refine zj_iinc 49 4 [(3, .int (zI ((23 - (k : Int)) + (-1)))), (2, .int (zI (G1 ((24 * p1) + (23 - (k : Int)))))), (4, .int (zI (G1 ((24 * p1) + (23 - (k : Int)))))), (0, .ref q5), (1, .int (zI p1))] C dX5_firstOn_46 rfl rfl (by decide) rfl ?_
            refine zj_goto 5 C dX5_firstOn_49 (by decide) ?_
            refine zj_lv [3, 4, 1, 0] [(0, .ref q5), (1, .int (zI p1)), (2, .int (zI (G1 ((24 * p1) + (23 - (k : Int)))))), (3, .int (zI ((23 - (k : Int)) + (-1))))] rfl ?_
            refine zj_eqlv (lv' := [(0, .ref q5), (1, .int (zI p1)), (2, .int (zI (G1 ((24 * p1) + (23 - (k : Int)))))), (3, .int (zI (23 - ((k + 1) : Int))))]) (by rw [show 23 - (k : Int) + (-1) = 23 - ((k + 1 : Nat) : Int) by omega]; rfl) ?_
            exact ih (k + 1) (G1 ((24 * p1) + (23 - (k : Int)))) (by omega) (by omega) (by rw [zFo, ← hr0]; split <;> omega) (by omega)
          · skip
            refine zj_iload 35 0 C dX5_firstOn_33 rfl rfl ?_
            refine zj_iload_n 36 3 C dX5_firstOn_35 rfl rfl rfl ?_
            refine zj_icmp_ge 39 44 C (by omega) (by omega) dX5_firstOn_36 rfl (by decide) (fun h_4 => ?_) (fun h_4 => ?_)
            · skip
              refine zj_iload_n 45 3 C dX5_firstOn_44 rfl rfl rfl ?_
              refine zj_istore_n 46 [(2, .int (zI ac)), (4, .int (zI (G1 ((24 * p1) + (23 - (k : Int)))))), (0, .ref q5), (1, .int (zI p1)), (3, .int (zI (23 - (k : Int))))] C dX5_firstOn_45 rfl rfl (by decide) rfl ?_
              refine zj_iinc 49 4 [(3, .int (zI ((23 - (k : Int)) + (-1)))), (2, .int (zI ac)), (4, .int (zI (G1 ((24 * p1) + (23 - (k : Int)))))), (0, .ref q5), (1, .int (zI p1))] C dX5_firstOn_46 rfl rfl (by decide) rfl ?_
              refine zj_goto 5 C dX5_firstOn_49 (by decide) ?_
              refine zj_lv [3, 4, 1, 0] [(0, .ref q5), (1, .int (zI p1)), (2, .int (zI ac)), (3, .int (zI ((23 - (k : Int)) + (-1))))] rfl ?_
              refine zj_eqlv (lv' := [(0, .ref q5), (1, .int (zI p1)), (2, .int (zI ac)), (3, .int (zI (23 - ((k + 1) : Int))))]) (by rw [show 23 - (k : Int) + (-1) = 23 - ((k + 1 : Nat) : Int) by omega]; rfl) ?_
              exact ih (k + 1) ac (by omega) (by omega) (by rw [zFo, ← hr0]; split <;> omega) (by omega)
            · skip
              refine zj_iload 41 0 C dX5_firstOn_39 rfl rfl ?_
              refine zj_goto 45 C dX5_firstOn_41 (by decide) ?_
              refine zj_istore_n 46 [(2, .int (zI (G1 ((24 * p1) + (23 - (k : Int)))))), (4, .int (zI (G1 ((24 * p1) + (23 - (k : Int)))))), (0, .ref q5), (1, .int (zI p1)), (3, .int (zI (23 - (k : Int))))] C dX5_firstOn_45 rfl rfl (by decide) rfl ?_
              refine zj_iinc 49 4 [(3, .int (zI ((23 - (k : Int)) + (-1)))), (2, .int (zI (G1 ((24 * p1) + (23 - (k : Int)))))), (4, .int (zI (G1 ((24 * p1) + (23 - (k : Int)))))), (0, .ref q5), (1, .int (zI p1))] C dX5_firstOn_46 rfl rfl (by decide) rfl ?_
              refine zj_goto 5 C dX5_firstOn_49 (by decide) ?_
              refine zj_lv [3, 4, 1, 0] [(0, .ref q5), (1, .int (zI p1)), (2, .int (zI (G1 ((24 * p1) + (23 - (k : Int)))))), (3, .int (zI ((23 - (k : Int)) + (-1))))] rfl ?_
              refine zj_eqlv (lv' := [(0, .ref q5), (1, .int (zI p1)), (2, .int (zI (G1 ((24 * p1) + (23 - (k : Int)))))), (3, .int (zI (23 - ((k + 1) : Int))))]) (by rw [show 23 - (k : Int) + (-1) = 23 - ((k + 1 : Nat) : Int) by omega]; rfl) ?_
              exact ih (k + 1) (G1 ((24 * p1) + (23 - (k : Int)))) (by omega) (by omega) (by rw [zFo, ← hr0]; split <;> omega) (by omega)
  refine zj_lv [2, 3, 1, 0] [(0, .ref q5), (1, .int (zI p1)), (2, .int (zI (-1))), (3, .int (zI 23))] rfl ?_
  refine zj_eqlv (lv' := [(0, .ref q5), (1, .int (zI p1)), (2, .int (zI (-1))), (3, .int (zI (23 - (0 : Int))))]) (by rfl) ?_
  exact hL5 (25) 0 (-1) (by omega) (by omega) (rfl) (by omega)

theorem fl_X5_bleedingOn_7 : Cond.fieldLink RX5 7 "SplashPagesModel" "z" "[I" ∈ wsX5_bleedingOn := by decide +kernel
theorem im_X5_bleedingOn_5 : ∀ w ∈ u_ws RX5 TX5 20, w ∈ wsX5_bleedingOn := by decide +kernel
theorem fl_X5_bleedingOn_19 : Cond.fieldLink RX5 19 "SplashPagesModel" "pageOf" "[I" ∈ wsX5_bleedingOn := by decide +kernel
abbrev rm_X5_bleedingOn : Room := { frames := 1, cells := 0, slots := 0, locals := 22 }
set_option maxRecDepth 100000 in
set_option maxHeartbeats 4000000 in
theorem c_X5_bleedingOn (l : Launch) (D : va_G) (cI cS cJ : ClassId) (q5 : Nat) (m0 : Nat) (m1 : Nat) (m2 : Nat) (m3 : Nat) (m4 : Nat) (m5 : Nat) (m6 : Nat) (m7 : Nat) (m8 : Nat) (m9 : Nat) (th : Int) (sm : Int) (ty : Int) (pg : Int) (rw : Int) (un : Int) (pm : Int) (sp : Int) (wr : Int) (ha : Int64) (Z1 : Int → Int) (P1 : Int → Int) (p1 : Int) (hst : zOk (Z1 1) (Z1 0) (zKz Z1) (zWz Z1) (zTz Z1)) (hP : ∀ x, 0 ≤ x → x < Z1 1 → -1 ≤ P1 x ∧ P1 x ≤ 100) (hp : 0 ≤ p1 ∧ p1 < 16) : zMi l yX5_bleedingOn wsX5_bleedingOn rm_X5_bleedingOn D (zTy cI cS cJ) [.ref q5, .int (zI p1)] [(q5, .inr (5, [.int (zI th), .ref m0, .ref m1, .int (zI sm), .ref m2, .int (zI ty), .ref m3, .ref m4, .ref m5, .ref m6, .ref m7, .ref m8, .int (zI pg), .int (zI rw), .int (zI un), .ref m9, .int (zI pm), .int (zI sp), .int (zI wr), .long ha])), (m0, .inl (cI, 74, .inl (zA Z1))), (m3, .inl (cI, 24, .inl (zA P1)))] (fun r w => r = zI (zBo (zKz Z1) P1 p1 (Z1 1).toNat) ∧ w = [(q5, .inr (5, [.int (zI th), .ref m0, .ref m1, .int (zI sm), .ref m2, .int (zI ty), .ref m3, .ref m4, .ref m5, .ref m6, .ref m7, .ref m8, .int (zI pg), .int (zI rw), .int (zI un), .ref m9, .int (zI pm), .int (zI sp), .int (zI wr), .long ha])), (m0, .inl (cI, 74, .inl (zA Z1))), (m3, .inl (cI, 24, .inl (zA P1)))]) 0 0 := by
  intro sz
  refine zMet_of (Qc := fun A => va_Qi _ (zB D (zTy cI cS cJ) A) A) RX5 [(0, .ref q5), (1, .int (zI p1))] rfl (by decide +kernel) rfl (Nat.le_of_ble_eq_true rfl) rfl ?_ sz
  intro p e s m args below meth c A Q hQ C hr hini
  have hn := hst.1
  refine zj_iconst 1 C dX5_bleedingOn_0 rfl ?_
  refine zj_istore_n 2 [(2, .int (zI 0)), (0, .ref q5), (1, .int (zI p1))] C dX5_bleedingOn_1 rfl rfl (by decide) rfl ?_
  refine zj_iconst 3 C dX5_bleedingOn_2 rfl ?_
  refine zj_istore_n 4 [(3, .int (zI 0)), (2, .int (zI 0)), (0, .ref q5), (1, .int (zI p1))] C dX5_bleedingOn_3 rfl rfl (by decide) rfl ?_
  have hL4 : ∀ (N : Nat) (k : Nat) (ac : Int), ((k : Int) ≤ Z1 1) → (0 ≤ ac ∧ ac ≤ (k : Int)) → (ac = zBo (zKz Z1) P1 p1 k) → (Z1 1 - (k : Int) < N) → zJ p l e rm_X5_bleedingOn s m args below meth c Q D A 4 [(q5, .inr (5, [.int (zI th), .ref m0, .ref m1, .int (zI sm), .ref m2, .int (zI ty), .ref m3, .ref m4, .ref m5, .ref m6, .ref m7, .ref m8, .int (zI pg), .int (zI rw), .int (zI un), .ref m9, .int (zI pm), .int (zI sp), .int (zI wr), .long ha])), (m0, .inl (cI, 74, .inl (zA Z1))), (m3, .inl (cI, 24, .inl (zA P1)))] 0 0 [(0, .ref q5), (1, .int (zI p1)), (2, .int (zI ac)), (3, .int (zI (k : Int)))] 4 [] := by
    intro N
    induction N with
    | zero => intro k ac hk hac hr0 hN; exact absurd hN (by omega)
    | succ N ih =>
      intro k ac hk hac hr0 hN
      refine zj_iload_n 5 3 C dX5_bleedingOn_4 rfl rfl rfl ?_
      refine zj_aload_n 6 0 C dX5_bleedingOn_5 rfl rfl rfl ?_
      refine zj_get 9 0 1 C (T := TX5) im_X5_bleedingOn_5 fl_X5_bleedingOn_7 rfl rfl (by decide) rfl rfl dX5_bleedingOn_6 rfl ?_
      refine zj_iconst 10 C dX5_bleedingOn_9 rfl ?_
      refine zj_iald 11 1 C (by omega) (by omega) rfl rfl dX5_bleedingOn_10 rfl ?_
      refine zj_icmp_ge 14 48 C (by omega) (by omega) dX5_bleedingOn_11 rfl (by decide) (fun h_1 => ?_) (fun h_1 => ?_)
      · skip
        refine zj_iload_n 49 2 C dX5_bleedingOn_48 rfl rfl rfl ?_
        refine zj_st (st' := [.int (zI (zBo (zKz Z1) P1 p1 (Z1 1).toNat))]) (by rw [hr0, show k = (Z1 1).toNat by omega]) ?_
        subst hQ
        exact zj_ireturn C hr ⟨rfl, rfl⟩ (by decide) (by decide) dX5_bleedingOn_49
      · skip
        have hpk := hP k (by omega) (by omega)
        have hv := hst.2.2 k (by omega) (by omega)
        dsimp only [zKz, zWz, zTz] at hv
        refine zj_iload_n 15 2 C dX5_bleedingOn_14 rfl rfl rfl ?_
        refine zj_aload_n 16 0 C dX5_bleedingOn_15 rfl rfl rfl ?_
        refine zj_iload_n 17 3 C dX5_bleedingOn_16 rfl rfl rfl ?_
        refine zj_iconst 18 C dX5_bleedingOn_17 rfl ?_
        refine zj_ci 21 [0, 1] [2] C (wr := [(m3, .inl (cI, 24, .inl (zA P1)))]) (zr_V [0, 1] C (As := [.int (zI (k : Int)), .int (zI 0)]) (rest := [.int (zI ac)]) (c_X5_of l D cI cS cJ q5 m0 m1 m2 m3 m4 m5 m6 m7 m8 m9 th sm ty pg rw un pm sp wr ha Z1 (k : Int) 0 (by omega) (by omega)) (cwV 2 C.1.2.2.2.2 gX5_bleedingOn_X5_of rfl rfl rfl (by decide +kernel) ⟨Nat.le_of_ble_eq_true rfl, Nat.le_of_ble_eq_true rfl⟩) rfl (by decide) 0 rfl rfl rfl rfl (Nat.le_of_ble_eq_true rfl) dX5_bleedingOn_18 ⟨Nat.le_of_ble_eq_true rfl, Nat.le_of_ble_eq_true rfl⟩) rfl rfl (by decide) (by decide) rfl (fun r_2 w_ hp_3 => ?_)
        obtain ⟨rfl, rfl⟩ := hp_3
        refine zj_ws (ws' := [(m3, .inl (cI, 24, .inl (zA P1))), (q5, .inr (5, [.int (zI th), .ref m0, .ref m1, .int (zI sm), .ref m2, .int (zI ty), .ref m3, .ref m4, .ref m5, .ref m6, .ref m7, .ref m8, .int (zI pg), .int (zI rw), .int (zI un), .ref m9, .int (zI pm), .int (zI sp), .int (zI wr), .long ha])), (m0, .inl (cI, 74, .inl (zA Z1)))]) rfl ?_
        refine zj_iconst 22 C dX5_bleedingOn_21 rfl ?_
        refine zj_icmp_ne 25 39 C (by omega) (by omega) dX5_bleedingOn_22 rfl (by decide) (fun h_4 => ?_) (fun h_4 => ?_)
        · skip
          refine zj_iconst 40 C dX5_bleedingOn_39 rfl ?_
          refine zj_iadd 41 C dX5_bleedingOn_40 rfl ?_
          refine zj_istore_n 42 [(2, .int (zI (ac + 0))), (0, .ref q5), (1, .int (zI p1)), (3, .int (zI (k : Int)))] C dX5_bleedingOn_41 rfl rfl (by decide) rfl ?_
          refine zj_iinc 45 3 [(3, .int (zI ((k : Int) + 1))), (2, .int (zI (ac + 0))), (0, .ref q5), (1, .int (zI p1))] C dX5_bleedingOn_42 rfl rfl (by decide) rfl ?_
          refine zj_goto 4 C dX5_bleedingOn_45 (by decide) ?_
          refine zj_re [1, 2, 0] [(q5, .inr (5, [.int (zI th), .ref m0, .ref m1, .int (zI sm), .ref m2, .int (zI ty), .ref m3, .ref m4, .ref m5, .ref m6, .ref m7, .ref m8, .int (zI pg), .int (zI rw), .int (zI un), .ref m9, .int (zI pm), .int (zI sp), .int (zI wr), .long ha])), (m0, .inl (cI, 74, .inl (zA Z1))), (m3, .inl (cI, 24, .inl (zA P1)))] (by decide) rfl ?_
          refine zj_lv [2, 3, 1, 0] [(0, .ref q5), (1, .int (zI p1)), (2, .int (zI (ac + 0))), (3, .int (zI ((k : Int) + 1)))] rfl ?_
          refine zj_eqlv (lv' := [(0, .ref q5), (1, .int (zI p1)), (2, .int (zI (ac + 0))), (3, .int (zI ((k + 1) : Int)))]) (by rfl) ?_
          exact ih (k + 1) (ac + 0) (by omega) (by omega) (by rw [zBo]; dsimp only [zKz]; split <;> omega) (by omega)
        · skip
          refine zj_aload_n 26 0 C dX5_bleedingOn_25 rfl rfl rfl ?_
          refine zj_get 29 1 6 C (T := TX5) im_X5_bleedingOn_5 fl_X5_bleedingOn_19 rfl rfl (by decide) rfl rfl dX5_bleedingOn_26 rfl ?_
          refine zj_iload_n 30 3 C dX5_bleedingOn_29 rfl rfl rfl ?_
          refine zj_iald 31 0 C (by omega) (by omega) rfl rfl dX5_bleedingOn_30 rfl ?_
          refine zj_iload_n 32 1 C dX5_bleedingOn_31 rfl rfl rfl ?_
          refine zj_icmp_ne 35 39 C (by omega) (by omega) dX5_bleedingOn_32 rfl (by decide) (fun h_5 => ?_) (fun h_5 => ?_)
          · skip
            refine zj_iconst 40 C dX5_bleedingOn_39 rfl ?_
            refine zj_iadd 41 C dX5_bleedingOn_40 rfl ?_
            refine zj_istore_n 42 [(2, .int (zI (ac + 0))), (0, .ref q5), (1, .int (zI p1)), (3, .int (zI (k : Int)))] C dX5_bleedingOn_41 rfl rfl (by decide) rfl ?_
            refine zj_iinc 45 3 [(3, .int (zI ((k : Int) + 1))), (2, .int (zI (ac + 0))), (0, .ref q5), (1, .int (zI p1))] C dX5_bleedingOn_42 rfl rfl (by decide) rfl ?_
            refine zj_goto 4 C dX5_bleedingOn_45 (by decide) ?_
            refine zj_re [1, 2, 0] [(q5, .inr (5, [.int (zI th), .ref m0, .ref m1, .int (zI sm), .ref m2, .int (zI ty), .ref m3, .ref m4, .ref m5, .ref m6, .ref m7, .ref m8, .int (zI pg), .int (zI rw), .int (zI un), .ref m9, .int (zI pm), .int (zI sp), .int (zI wr), .long ha])), (m0, .inl (cI, 74, .inl (zA Z1))), (m3, .inl (cI, 24, .inl (zA P1)))] (by decide) rfl ?_
            refine zj_lv [2, 3, 1, 0] [(0, .ref q5), (1, .int (zI p1)), (2, .int (zI (ac + 0))), (3, .int (zI ((k : Int) + 1)))] rfl ?_
            refine zj_eqlv (lv' := [(0, .ref q5), (1, .int (zI p1)), (2, .int (zI (ac + 0))), (3, .int (zI ((k + 1) : Int)))]) (by rfl) ?_
            exact ih (k + 1) (ac + 0) (by omega) (by omega) (by rw [zBo]; dsimp only [zKz]; split <;> omega) (by omega)
          · skip
            refine zj_iconst 36 C dX5_bleedingOn_35 rfl ?_
            refine zj_goto 40 C dX5_bleedingOn_36 (by decide) ?_
            refine zj_iadd 41 C dX5_bleedingOn_40 rfl ?_
            refine zj_istore_n 42 [(2, .int (zI (ac + 1))), (0, .ref q5), (1, .int (zI p1)), (3, .int (zI (k : Int)))] C dX5_bleedingOn_41 rfl rfl (by decide) rfl ?_
            refine zj_iinc 45 3 [(3, .int (zI ((k : Int) + 1))), (2, .int (zI (ac + 1))), (0, .ref q5), (1, .int (zI p1))] C dX5_bleedingOn_42 rfl rfl (by decide) rfl ?_
            refine zj_goto 4 C dX5_bleedingOn_45 (by decide) ?_
            refine zj_re [1, 2, 0] [(q5, .inr (5, [.int (zI th), .ref m0, .ref m1, .int (zI sm), .ref m2, .int (zI ty), .ref m3, .ref m4, .ref m5, .ref m6, .ref m7, .ref m8, .int (zI pg), .int (zI rw), .int (zI un), .ref m9, .int (zI pm), .int (zI sp), .int (zI wr), .long ha])), (m0, .inl (cI, 74, .inl (zA Z1))), (m3, .inl (cI, 24, .inl (zA P1)))] (by decide) rfl ?_
            refine zj_lv [2, 3, 1, 0] [(0, .ref q5), (1, .int (zI p1)), (2, .int (zI (ac + 1))), (3, .int (zI ((k : Int) + 1)))] rfl ?_
            refine zj_eqlv (lv' := [(0, .ref q5), (1, .int (zI p1)), (2, .int (zI (ac + 1))), (3, .int (zI ((k + 1) : Int)))]) (by rfl) ?_
            exact ih (k + 1) (ac + 1) (by omega) (by omega) (by rw [zBo]; dsimp only [zKz]; split <;> omega) (by omega)
  refine zj_lv [2, 3, 1, 0] [(0, .ref q5), (1, .int (zI p1)), (2, .int (zI 0)), (3, .int (zI 0))] rfl ?_
  refine zj_eqlv (lv' := [(0, .ref q5), (1, .int (zI p1)), (2, .int (zI 0)), (3, .int (zI (0 : Int)))]) (by rfl) ?_
  exact hL4 (25) 0 0 (by omega) (by omega) (rfl) (by omega)

theorem fl_X5_mostBeats_31 : Cond.fieldLink RX5 31 "SplashPagesModel" "beatsOn" "[I" ∈ wsX5_mostBeats := by decide +kernel
theorem im_X5_mostBeats_5 : ∀ w ∈ u_ws RX5 TX5 20, w ∈ wsX5_mostBeats := by decide +kernel
abbrev rm_X5_mostBeats : Room := { frames := 0, cells := 0, slots := 0, locals := 0 }
set_option maxRecDepth 100000 in
set_option maxHeartbeats 4000000 in
theorem c_X5_mostBeats (l : Launch) (D : va_G) (cI cS cJ : ClassId) (q5 : Nat) (m0 : Nat) (m1 : Nat) (m2 : Nat) (m3 : Nat) (m4 : Nat) (m5 : Nat) (m6 : Nat) (m7 : Nat) (m8 : Nat) (m9 : Nat) (th : Int) (sm : Int) (ty : Int) (pg : Int) (rw : Int) (un : Int) (pm : Int) (sp : Int) (wr : Int) (ha : Int64) (b1 : Int → Int) (hb : ∀ x, 0 ≤ b1 x ∧ b1 x ≤ 10000) : zMi l yX5_mostBeats wsX5_mostBeats rm_X5_mostBeats D (zTy cI cS cJ) [.ref q5] [(q5, .inr (5, [.int (zI th), .ref m0, .ref m1, .int (zI sm), .ref m2, .int (zI ty), .ref m3, .ref m4, .ref m5, .ref m6, .ref m7, .ref m8, .int (zI pg), .int (zI rw), .int (zI un), .ref m9, .int (zI pm), .int (zI sp), .int (zI wr), .long ha])), (m7, .inl (cI, 16, .inl (zA b1)))] (fun r w => r = zI (zMx b1 16) ∧ w = [(q5, .inr (5, [.int (zI th), .ref m0, .ref m1, .int (zI sm), .ref m2, .int (zI ty), .ref m3, .ref m4, .ref m5, .ref m6, .ref m7, .ref m8, .int (zI pg), .int (zI rw), .int (zI un), .ref m9, .int (zI pm), .int (zI sp), .int (zI wr), .long ha])), (m7, .inl (cI, 16, .inl (zA b1)))]) 0 0 := by
  intro sz
  refine zMet_of (Qc := fun A => va_Qi _ (zB D (zTy cI cS cJ) A) A) RX5 [(0, .ref q5)] rfl (by decide +kernel) rfl (Nat.le_of_ble_eq_true rfl) rfl ?_ sz
  intro p e s m args below meth c A Q hQ C hr hini
  refine zj_iconst 1 C dX5_mostBeats_0 rfl ?_
  refine zj_istore_n 2 [(1, .int (zI 0)), (0, .ref q5)] C dX5_mostBeats_1 rfl rfl (by decide) rfl ?_
  refine zj_iconst 3 C dX5_mostBeats_2 rfl ?_
  refine zj_istore_n 4 [(2, .int (zI 0)), (1, .int (zI 0)), (0, .ref q5)] C dX5_mostBeats_3 rfl rfl (by decide) rfl ?_
  have hL4 : ∀ (N : Nat) (k : Nat) (ac : Int), ((k : Int) ≤ 16) → (0 ≤ ac ∧ ac ≤ 10000) → (ac = zMx b1 k) → (16 - (k : Int) < N) → zJ p l e rm_X5_mostBeats s m args below meth c Q D A 3 [(q5, .inr (5, [.int (zI th), .ref m0, .ref m1, .int (zI sm), .ref m2, .int (zI ty), .ref m3, .ref m4, .ref m5, .ref m6, .ref m7, .ref m8, .int (zI pg), .int (zI rw), .int (zI un), .ref m9, .int (zI pm), .int (zI sp), .int (zI wr), .long ha])), (m7, .inl (cI, 16, .inl (zA b1)))] 0 0 [(0, .ref q5), (1, .int (zI ac)), (2, .int (zI (k : Int)))] 4 [] := by
    intro N
    induction N with
    | zero => intro k ac hk hac hr0 hN; exact absurd hN (by omega)
    | succ N ih =>
      intro k ac hk hac hr0 hN
      refine zj_iload_n 5 2 C dX5_mostBeats_4 rfl rfl rfl ?_
      refine zj_bipush 7 C dX5_mostBeats_5 rfl rfl ?_
      refine zj_icmp_ge 10 37 C (by omega) (by omega) dX5_mostBeats_7 rfl (by decide) (fun h_1 => ?_) (fun h_1 => ?_)
      · skip
        refine zj_iload_n 38 1 C dX5_mostBeats_37 rfl rfl rfl ?_
        refine zj_st (st' := [.int (zI (zMx b1 16))]) (by rw [hr0, show k = 16 by omega]) ?_
        subst hQ
        exact zj_ireturn C hr ⟨rfl, rfl⟩ (by decide) (by decide) dX5_mostBeats_38
      · skip
        have hbk := hb k
        refine zj_aload_n 11 0 C dX5_mostBeats_10 rfl rfl rfl ?_
        refine zj_get 14 0 10 C (T := TX5) im_X5_mostBeats_5 fl_X5_mostBeats_31 rfl rfl (by decide) rfl rfl dX5_mostBeats_11 rfl ?_
        refine zj_iload_n 15 2 C dX5_mostBeats_14 rfl rfl rfl ?_
        refine zj_iald 16 1 C (by omega) (by omega) rfl rfl dX5_mostBeats_15 rfl ?_
        refine zj_iload_n 17 1 C dX5_mostBeats_16 rfl rfl rfl ?_
        refine zj_icmp_le 20 29 C (by omega) (by omega) dX5_mostBeats_17 rfl (by decide) (fun h_2 => ?_) (fun h_2 => ?_)
        · skip
          refine zj_iload_n 30 1 C dX5_mostBeats_29 rfl rfl rfl ?_
          refine zj_istore_n 31 [(1, .int (zI ac)), (0, .ref q5), (2, .int (zI (k : Int)))] C dX5_mostBeats_30 rfl rfl (by decide) rfl ?_
          refine zj_iinc 34 2 [(2, .int (zI ((k : Int) + 1))), (1, .int (zI ac)), (0, .ref q5)] C dX5_mostBeats_31 rfl rfl (by decide) rfl ?_
          refine zj_goto 4 C dX5_mostBeats_34 (by decide) ?_
          refine zj_lv [2, 1, 0] [(0, .ref q5), (1, .int (zI ac)), (2, .int (zI ((k : Int) + 1)))] rfl ?_
          refine zj_eqlv (lv' := [(0, .ref q5), (1, .int (zI ac)), (2, .int (zI ((k + 1) : Int)))]) (by rfl) ?_
          exact ih (k + 1) ac (by omega) (by omega) (by rw [zMx, ← hr0]; split <;> omega) (by omega)
        · skip
          refine zj_aload_n 21 0 C dX5_mostBeats_20 rfl rfl rfl ?_
          refine zj_get 24 0 10 C (T := TX5) im_X5_mostBeats_5 fl_X5_mostBeats_31 rfl rfl (by decide) rfl rfl dX5_mostBeats_21 rfl ?_
          refine zj_iload_n 25 2 C dX5_mostBeats_24 rfl rfl rfl ?_
          refine zj_iald 26 1 C (by omega) (by omega) rfl rfl dX5_mostBeats_25 rfl ?_
          refine zj_goto 30 C dX5_mostBeats_26 (by decide) ?_
          refine zj_istore_n 31 [(1, .int (zI (b1 (k : Int)))), (0, .ref q5), (2, .int (zI (k : Int)))] C dX5_mostBeats_30 rfl rfl (by decide) rfl ?_
          refine zj_iinc 34 2 [(2, .int (zI ((k : Int) + 1))), (1, .int (zI (b1 (k : Int)))), (0, .ref q5)] C dX5_mostBeats_31 rfl rfl (by decide) rfl ?_
          refine zj_goto 4 C dX5_mostBeats_34 (by decide) ?_
          refine zj_lv [2, 1, 0] [(0, .ref q5), (1, .int (zI (b1 (k : Int)))), (2, .int (zI ((k : Int) + 1)))] rfl ?_
          refine zj_eqlv (lv' := [(0, .ref q5), (1, .int (zI (b1 (k : Int)))), (2, .int (zI ((k + 1) : Int)))]) (by rfl) ?_
          exact ih (k + 1) (b1 (k : Int)) (by omega) (by omega) (by rw [zMx, ← hr0]; split <;> omega) (by omega)
  refine zj_lv [2, 1, 0] [(0, .ref q5), (1, .int (zI 0)), (2, .int (zI 0))] rfl ?_
  refine zj_eqlv (lv' := [(0, .ref q5), (1, .int (zI 0)), (2, .int (zI (0 : Int)))]) (by rfl) ?_
  exact hL4 (17) 0 0 (by omega) (by omega) (rfl) (by omega)

theorem fl_X5_unlike_31 : Cond.fieldLink RX5 31 "SplashPagesModel" "beatsOn" "[I" ∈ wsX5_unlike := by decide +kernel
theorem im_X5_unlike_5 : ∀ w ∈ u_ws RX5 TX5 20, w ∈ wsX5_unlike := by decide +kernel
abbrev rm_X5_unlike : Room := { frames := 1, cells := 0, slots := 0, locals := 22 }
set_option maxRecDepth 100000 in
set_option maxHeartbeats 4000000 in
theorem c_X5_unlike (l : Launch) (D : va_G) (cI cS cJ : ClassId) (q5 : Nat) (m0 : Nat) (m1 : Nat) (m2 : Nat) (m3 : Nat) (m4 : Nat) (m5 : Nat) (m6 : Nat) (m7 : Nat) (m8 : Nat) (m9 : Nat) (th : Int) (sm : Int) (ty : Int) (pg : Int) (rw : Int) (un : Int) (pm : Int) (sp : Int) (wr : Int) (ha : Int64) (b1 : Int → Int) (c1 : Int → Int) (hb : ∀ x, 0 ≤ b1 x ∧ b1 x ≤ 10000) (hc : ∀ x, 0 ≤ c1 x ∧ c1 x ≤ 1000) (hus : 0 ≤ zUs c1 16 ∧ zUs c1 16 ≤ 16) : zMi l yX5_unlike wsX5_unlike rm_X5_unlike D (zTy cI cS cJ) [.ref q5] [(q5, .inr (5, [.int (zI th), .ref m0, .ref m1, .int (zI sm), .ref m2, .int (zI ty), .ref m3, .ref m4, .ref m5, .ref m6, .ref m7, .ref m8, .int (zI pg), .int (zI rw), .int (zI un), .ref m9, .int (zI pm), .int (zI sp), .int (zI wr), .long ha])), (m7, .inl (cI, 16, .inl (zA b1))), (m8, .inl (cI, 16, .inl (zA c1)))] (fun r w => r = zI (zUn b1 (zUs c1 16) 8) ∧ w = [(q5, .inr (5, [.int (zI th), .ref m0, .ref m1, .int (zI sm), .ref m2, .int (zI ty), .ref m3, .ref m4, .ref m5, .ref m6, .ref m7, .ref m8, .int (zI pg), .int (zI rw), .int (zI un), .ref m9, .int (zI pm), .int (zI sp), .int (zI wr), .long ha])), (m7, .inl (cI, 16, .inl (zA b1))), (m8, .inl (cI, 16, .inl (zA c1)))]) 0 0 := by
  intro sz
  refine zMet_of (Qc := fun A => va_Qi _ (zB D (zTy cI cS cJ) A) A) RX5 [(0, .ref q5)] rfl (by decide +kernel) rfl (Nat.le_of_ble_eq_true rfl) rfl ?_ sz
  intro p e s m args below meth c A Q hQ C hr hini
  refine zj_iconst 1 C dX5_unlike_0 rfl ?_
  refine zj_istore_n 2 [(1, .int (zI 0)), (0, .ref q5)] C dX5_unlike_1 rfl rfl (by decide) rfl ?_
  refine zj_iconst 3 C dX5_unlike_2 rfl ?_
  refine zj_istore_n 4 [(2, .int (zI 0)), (1, .int (zI 0)), (0, .ref q5)] C dX5_unlike_3 rfl rfl (by decide) rfl ?_
  have hL4 : ∀ (N : Nat) (k : Nat) (ac : Int), ((k : Int) ≤ 8) → (0 ≤ ac ∧ ac ≤ 10000) → (ac = zUn b1 (zUs c1 16) k) → (8 - (k : Int) < N) → zJ p l e rm_X5_unlike s m args below meth c Q D A 4 [(q5, .inr (5, [.int (zI th), .ref m0, .ref m1, .int (zI sm), .ref m2, .int (zI ty), .ref m3, .ref m4, .ref m5, .ref m6, .ref m7, .ref m8, .int (zI pg), .int (zI rw), .int (zI un), .ref m9, .int (zI pm), .int (zI sp), .int (zI wr), .long ha])), (m7, .inl (cI, 16, .inl (zA b1))), (m8, .inl (cI, 16, .inl (zA c1)))] 0 0 [(0, .ref q5), (1, .int (zI ac)), (2, .int (zI (2 * (k : Int))))] 4 [] := by
    intro N
    induction N with
    | zero => intro k ac hk hac hr0 hN; exact absurd hN (by omega)
    | succ N ih =>
      intro k ac hk hac hr0 hN
      refine zj_iload_n 5 2 C dX5_unlike_4 rfl rfl rfl ?_
      refine zj_bipush 7 C dX5_unlike_5 rfl rfl ?_
      refine zj_icmp_ge 10 62 C (by omega) (by omega) dX5_unlike_7 rfl (by decide) (fun h_1 => ?_) (fun h_1 => ?_)
      · skip
        refine zj_iload_n 63 1 C dX5_unlike_62 rfl rfl rfl ?_
        refine zj_st (st' := [.int (zI (zUn b1 (zUs c1 16) 8))]) (by rw [hr0, show k = 8 by omega]) ?_
        subst hQ
        exact zj_ireturn C hr ⟨rfl, rfl⟩ (by decide) (by decide) dX5_unlike_63
      · skip
        have hbk := hb (2 * k)
        have hbk2 := hb (2 * k + 1)
        refine zj_aload_n 11 0 C dX5_unlike_10 rfl rfl rfl ?_
        refine zj_get 14 0 10 C (T := TX5) im_X5_unlike_5 fl_X5_unlike_31 rfl rfl (by decide) rfl rfl dX5_unlike_11 rfl ?_
        refine zj_iload_n 15 2 C dX5_unlike_14 rfl rfl rfl ?_
        refine zj_iald 16 1 C (by omega) (by omega) rfl rfl dX5_unlike_15 rfl ?_
        refine zj_aload_n 17 0 C dX5_unlike_16 rfl rfl rfl ?_
        refine zj_get 20 0 10 C (T := TX5) im_X5_unlike_5 fl_X5_unlike_31 rfl rfl (by decide) rfl rfl dX5_unlike_17 rfl ?_
        refine zj_iload_n 21 2 C dX5_unlike_20 rfl rfl rfl ?_
        refine zj_iconst 22 C dX5_unlike_21 rfl ?_
        refine zj_iadd 23 C dX5_unlike_22 rfl ?_
        refine zj_iald 24 1 C (by omega) (by omega) rfl rfl dX5_unlike_23 rfl ?_
        refine zj_isub 25 C dX5_unlike_24 rfl ?_
        refine zj_istore_n 26 [(3, .int (zI ((b1 (2 * (k : Int))) - (b1 ((2 * (k : Int)) + 1))))), (0, .ref q5), (1, .int (zI ac)), (2, .int (zI (2 * (k : Int))))] C dX5_unlike_25 rfl rfl (by decide) rfl ?_
        refine zj_iload_n 27 0 C dX5_unlike_26 rfl rfl rfl ?_
        refine zj_if_ge 30 35 C (by omega) dX5_unlike_27 rfl (by decide) (fun h_2 => ?_) (fun h_2 => ?_)
        · skip
          refine zj_iload_n 36 0 C dX5_unlike_35 rfl rfl rfl ?_
          refine zj_istore_n 37 [(3, .int (zI ((b1 (2 * (k : Int))) - (b1 ((2 * (k : Int)) + 1))))), (0, .ref q5), (1, .int (zI ac)), (2, .int (zI (2 * (k : Int))))] C dX5_unlike_36 rfl rfl (by decide) rfl ?_
          refine zj_iload_n 38 3 C dX5_unlike_37 rfl rfl rfl ?_
          refine zj_aload_n 39 1 C dX5_unlike_38 rfl rfl rfl ?_
          refine zj_ci 42 [0, 2] [1] C (wr := [(m7, .inl (cI, 16, .inl (zA b1)))]) (zr_V [0, 2] C (As := []) (rest := [.int (zI (2 * (k : Int)))]) (c_X5_used l D cI cS cJ q5 m0 m1 m2 m3 m4 m5 m6 m7 m8 m9 th sm ty pg rw un pm sp wr ha c1 hc) (cwV 0 C.1.2.2.2.2 gX5_unlike_X5_used rfl rfl rfl (by decide +kernel) ⟨Nat.le_of_ble_eq_true rfl, Nat.le_of_ble_eq_true rfl⟩) rfl (by decide) 0 rfl rfl rfl rfl (Nat.le_of_ble_eq_true rfl) dX5_unlike_39 ⟨Nat.le_of_ble_eq_true rfl, Nat.le_of_ble_eq_true rfl⟩) rfl rfl (by decide) (by decide) rfl (fun r_3 w_ hp_4 => ?_)
          obtain ⟨rfl, rfl⟩ := hp_4
          refine zj_ws (ws' := [(m7, .inl (cI, 16, .inl (zA b1))), (q5, .inr (5, [.int (zI th), .ref m0, .ref m1, .int (zI sm), .ref m2, .int (zI ty), .ref m3, .ref m4, .ref m5, .ref m6, .ref m7, .ref m8, .int (zI pg), .int (zI rw), .int (zI un), .ref m9, .int (zI pm), .int (zI sp), .int (zI wr), .long ha])), (m8, .inl (cI, 16, .inl (zA c1)))]) rfl ?_
          refine zj_icmp_ge 45 54 C (by omega) (by omega) dX5_unlike_42 rfl (by decide) (fun h_5 => ?_) (fun h_5 => ?_)
          · skip
            refine zj_iload_n 55 2 C dX5_unlike_54 rfl rfl rfl ?_
            refine zj_istore_n 56 [(1, .int (zI ac)), (3, .int (zI ((b1 (2 * (k : Int))) - (b1 ((2 * (k : Int)) + 1))))), (0, .ref q5), (2, .int (zI (2 * (k : Int))))] C dX5_unlike_55 rfl rfl (by decide) rfl ?_
            refine zj_iinc 59 3 [(2, .int (zI ((2 * (k : Int)) + 2))), (1, .int (zI ac)), (3, .int (zI ((b1 (2 * (k : Int))) - (b1 ((2 * (k : Int)) + 1))))), (0, .ref q5)] C dX5_unlike_56 rfl rfl (by decide) rfl ?_
            refine zj_goto 4 C dX5_unlike_59 (by decide) ?_
            refine zj_re [1, 0, 2] [(q5, .inr (5, [.int (zI th), .ref m0, .ref m1, .int (zI sm), .ref m2, .int (zI ty), .ref m3, .ref m4, .ref m5, .ref m6, .ref m7, .ref m8, .int (zI pg), .int (zI rw), .int (zI un), .ref m9, .int (zI pm), .int (zI sp), .int (zI wr), .long ha])), (m7, .inl (cI, 16, .inl (zA b1))), (m8, .inl (cI, 16, .inl (zA c1)))] (by decide) rfl ?_
            refine zj_lv [3, 1, 0] [(0, .ref q5), (1, .int (zI ac)), (2, .int (zI ((2 * (k : Int)) + 2)))] rfl ?_
            refine zj_eqlv (lv' := [(0, .ref q5), (1, .int (zI ac)), (2, .int (zI (2 * ((k + 1) : Int))))]) (by rw [show 2 * (k : Int) + 2 = 2 * ((k + 1 : Nat) : Int) by omega]; rfl) ?_
            exact ih (k + 1) ac (by omega) (by omega) (by rw [zUn, ← hr0]; unfold zAbs; split <;> omega) (by omega)
          · skip
            refine zj_iload_n 46 0 C dX5_unlike_45 rfl rfl rfl ?_
            refine zj_iload_n 47 2 C dX5_unlike_46 rfl rfl rfl ?_
            refine zj_icmp_le 50 54 C (by omega) (by omega) dX5_unlike_47 rfl (by decide) (fun h_6 => ?_) (fun h_6 => ?_)
            · skip
              refine zj_iload_n 55 2 C dX5_unlike_54 rfl rfl rfl ?_
              refine zj_istore_n 56 [(1, .int (zI ac)), (3, .int (zI ((b1 (2 * (k : Int))) - (b1 ((2 * (k : Int)) + 1))))), (0, .ref q5), (2, .int (zI (2 * (k : Int))))] C dX5_unlike_55 rfl rfl (by decide) rfl ?_
              refine zj_iinc 59 3 [(2, .int (zI ((2 * (k : Int)) + 2))), (1, .int (zI ac)), (3, .int (zI ((b1 (2 * (k : Int))) - (b1 ((2 * (k : Int)) + 1))))), (0, .ref q5)] C dX5_unlike_56 rfl rfl (by decide) rfl ?_
              refine zj_goto 4 C dX5_unlike_59 (by decide) ?_
              refine zj_re [1, 0, 2] [(q5, .inr (5, [.int (zI th), .ref m0, .ref m1, .int (zI sm), .ref m2, .int (zI ty), .ref m3, .ref m4, .ref m5, .ref m6, .ref m7, .ref m8, .int (zI pg), .int (zI rw), .int (zI un), .ref m9, .int (zI pm), .int (zI sp), .int (zI wr), .long ha])), (m7, .inl (cI, 16, .inl (zA b1))), (m8, .inl (cI, 16, .inl (zA c1)))] (by decide) rfl ?_
              refine zj_lv [3, 1, 0] [(0, .ref q5), (1, .int (zI ac)), (2, .int (zI ((2 * (k : Int)) + 2)))] rfl ?_
              refine zj_eqlv (lv' := [(0, .ref q5), (1, .int (zI ac)), (2, .int (zI (2 * ((k + 1) : Int))))]) (by rw [show 2 * (k : Int) + 2 = 2 * ((k + 1 : Nat) : Int) by omega]; rfl) ?_
              exact ih (k + 1) ac (by omega) (by omega) (by rw [zUn, ← hr0]; unfold zAbs; split <;> omega) (by omega)
            · skip
              refine zj_iload_n 51 0 C dX5_unlike_50 rfl rfl rfl ?_
              refine zj_goto 55 C dX5_unlike_51 (by decide) ?_
              refine zj_istore_n 56 [(1, .int (zI ((b1 (2 * (k : Int))) - (b1 ((2 * (k : Int)) + 1))))), (3, .int (zI ((b1 (2 * (k : Int))) - (b1 ((2 * (k : Int)) + 1))))), (0, .ref q5), (2, .int (zI (2 * (k : Int))))] C dX5_unlike_55 rfl rfl (by decide) rfl ?_
              refine zj_iinc 59 3 [(2, .int (zI ((2 * (k : Int)) + 2))), (1, .int (zI ((b1 (2 * (k : Int))) - (b1 ((2 * (k : Int)) + 1))))), (3, .int (zI ((b1 (2 * (k : Int))) - (b1 ((2 * (k : Int)) + 1))))), (0, .ref q5)] C dX5_unlike_56 rfl rfl (by decide) rfl ?_
              refine zj_goto 4 C dX5_unlike_59 (by decide) ?_
              refine zj_re [1, 0, 2] [(q5, .inr (5, [.int (zI th), .ref m0, .ref m1, .int (zI sm), .ref m2, .int (zI ty), .ref m3, .ref m4, .ref m5, .ref m6, .ref m7, .ref m8, .int (zI pg), .int (zI rw), .int (zI un), .ref m9, .int (zI pm), .int (zI sp), .int (zI wr), .long ha])), (m7, .inl (cI, 16, .inl (zA b1))), (m8, .inl (cI, 16, .inl (zA c1)))] (by decide) rfl ?_
              refine zj_lv [3, 1, 0] [(0, .ref q5), (1, .int (zI ((b1 (2 * (k : Int))) - (b1 ((2 * (k : Int)) + 1))))), (2, .int (zI ((2 * (k : Int)) + 2)))] rfl ?_
              refine zj_eqlv (lv' := [(0, .ref q5), (1, .int (zI ((b1 (2 * (k : Int))) - (b1 ((2 * (k : Int)) + 1))))), (2, .int (zI (2 * ((k + 1) : Int))))]) (by rw [show 2 * (k : Int) + 2 = 2 * ((k + 1 : Nat) : Int) by omega]; rfl) ?_
              exact ih (k + 1) ((b1 (2 * (k : Int))) - (b1 ((2 * (k : Int)) + 1))) (by omega) (by omega) (by rw [zUn, ← hr0]; unfold zAbs; split <;> omega) (by omega)
        · skip
          refine zj_iload_n 31 0 C dX5_unlike_30 rfl rfl rfl ?_
          refine zj_ineg 32 C dX5_unlike_31 rfl ?_
          refine zj_goto 36 C dX5_unlike_32 (by decide) ?_
          refine zj_istore_n 37 [(3, .int (zI (-((b1 (2 * (k : Int))) - (b1 ((2 * (k : Int)) + 1)))))), (0, .ref q5), (1, .int (zI ac)), (2, .int (zI (2 * (k : Int))))] C dX5_unlike_36 rfl rfl (by decide) rfl ?_
          refine zj_iload_n 38 3 C dX5_unlike_37 rfl rfl rfl ?_
          refine zj_aload_n 39 1 C dX5_unlike_38 rfl rfl rfl ?_
          refine zj_ci 42 [0, 2] [1] C (wr := [(m7, .inl (cI, 16, .inl (zA b1)))]) (zr_V [0, 2] C (As := []) (rest := [.int (zI (2 * (k : Int)))]) (c_X5_used l D cI cS cJ q5 m0 m1 m2 m3 m4 m5 m6 m7 m8 m9 th sm ty pg rw un pm sp wr ha c1 hc) (cwV 0 C.1.2.2.2.2 gX5_unlike_X5_used rfl rfl rfl (by decide +kernel) ⟨Nat.le_of_ble_eq_true rfl, Nat.le_of_ble_eq_true rfl⟩) rfl (by decide) 0 rfl rfl rfl rfl (Nat.le_of_ble_eq_true rfl) dX5_unlike_39 ⟨Nat.le_of_ble_eq_true rfl, Nat.le_of_ble_eq_true rfl⟩) rfl rfl (by decide) (by decide) rfl (fun r_7 w_ hp_8 => ?_)
          obtain ⟨rfl, rfl⟩ := hp_8
          refine zj_ws (ws' := [(m7, .inl (cI, 16, .inl (zA b1))), (q5, .inr (5, [.int (zI th), .ref m0, .ref m1, .int (zI sm), .ref m2, .int (zI ty), .ref m3, .ref m4, .ref m5, .ref m6, .ref m7, .ref m8, .int (zI pg), .int (zI rw), .int (zI un), .ref m9, .int (zI pm), .int (zI sp), .int (zI wr), .long ha])), (m8, .inl (cI, 16, .inl (zA c1)))]) rfl ?_
          refine zj_icmp_ge 45 54 C (by omega) (by omega) dX5_unlike_42 rfl (by decide) (fun h_9 => ?_) (fun h_9 => ?_)
          · skip
            refine zj_iload_n 55 2 C dX5_unlike_54 rfl rfl rfl ?_
            refine zj_istore_n 56 [(1, .int (zI ac)), (3, .int (zI (-((b1 (2 * (k : Int))) - (b1 ((2 * (k : Int)) + 1)))))), (0, .ref q5), (2, .int (zI (2 * (k : Int))))] C dX5_unlike_55 rfl rfl (by decide) rfl ?_
            refine zj_iinc 59 3 [(2, .int (zI ((2 * (k : Int)) + 2))), (1, .int (zI ac)), (3, .int (zI (-((b1 (2 * (k : Int))) - (b1 ((2 * (k : Int)) + 1)))))), (0, .ref q5)] C dX5_unlike_56 rfl rfl (by decide) rfl ?_
            refine zj_goto 4 C dX5_unlike_59 (by decide) ?_
            refine zj_re [1, 0, 2] [(q5, .inr (5, [.int (zI th), .ref m0, .ref m1, .int (zI sm), .ref m2, .int (zI ty), .ref m3, .ref m4, .ref m5, .ref m6, .ref m7, .ref m8, .int (zI pg), .int (zI rw), .int (zI un), .ref m9, .int (zI pm), .int (zI sp), .int (zI wr), .long ha])), (m7, .inl (cI, 16, .inl (zA b1))), (m8, .inl (cI, 16, .inl (zA c1)))] (by decide) rfl ?_
            refine zj_lv [3, 1, 0] [(0, .ref q5), (1, .int (zI ac)), (2, .int (zI ((2 * (k : Int)) + 2)))] rfl ?_
            refine zj_eqlv (lv' := [(0, .ref q5), (1, .int (zI ac)), (2, .int (zI (2 * ((k + 1) : Int))))]) (by rw [show 2 * (k : Int) + 2 = 2 * ((k + 1 : Nat) : Int) by omega]; rfl) ?_
            exact ih (k + 1) ac (by omega) (by omega) (by rw [zUn, ← hr0]; unfold zAbs; split <;> omega) (by omega)
          · skip
            refine zj_iload_n 46 0 C dX5_unlike_45 rfl rfl rfl ?_
            refine zj_iload_n 47 2 C dX5_unlike_46 rfl rfl rfl ?_
            refine zj_icmp_le 50 54 C (by omega) (by omega) dX5_unlike_47 rfl (by decide) (fun h_10 => ?_) (fun h_10 => ?_)
            · skip
              refine zj_iload_n 55 2 C dX5_unlike_54 rfl rfl rfl ?_
              refine zj_istore_n 56 [(1, .int (zI ac)), (3, .int (zI (-((b1 (2 * (k : Int))) - (b1 ((2 * (k : Int)) + 1)))))), (0, .ref q5), (2, .int (zI (2 * (k : Int))))] C dX5_unlike_55 rfl rfl (by decide) rfl ?_
              refine zj_iinc 59 3 [(2, .int (zI ((2 * (k : Int)) + 2))), (1, .int (zI ac)), (3, .int (zI (-((b1 (2 * (k : Int))) - (b1 ((2 * (k : Int)) + 1)))))), (0, .ref q5)] C dX5_unlike_56 rfl rfl (by decide) rfl ?_
              refine zj_goto 4 C dX5_unlike_59 (by decide) ?_
              refine zj_re [1, 0, 2] [(q5, .inr (5, [.int (zI th), .ref m0, .ref m1, .int (zI sm), .ref m2, .int (zI ty), .ref m3, .ref m4, .ref m5, .ref m6, .ref m7, .ref m8, .int (zI pg), .int (zI rw), .int (zI un), .ref m9, .int (zI pm), .int (zI sp), .int (zI wr), .long ha])), (m7, .inl (cI, 16, .inl (zA b1))), (m8, .inl (cI, 16, .inl (zA c1)))] (by decide) rfl ?_
              refine zj_lv [3, 1, 0] [(0, .ref q5), (1, .int (zI ac)), (2, .int (zI ((2 * (k : Int)) + 2)))] rfl ?_
              refine zj_eqlv (lv' := [(0, .ref q5), (1, .int (zI ac)), (2, .int (zI (2 * ((k + 1) : Int))))]) (by rw [show 2 * (k : Int) + 2 = 2 * ((k + 1 : Nat) : Int) by omega]; rfl) ?_
              exact ih (k + 1) ac (by omega) (by omega) (by rw [zUn, ← hr0]; unfold zAbs; split <;> omega) (by omega)
            · skip
              refine zj_iload_n 51 0 C dX5_unlike_50 rfl rfl rfl ?_
              refine zj_goto 55 C dX5_unlike_51 (by decide) ?_
              refine zj_istore_n 56 [(1, .int (zI (-((b1 (2 * (k : Int))) - (b1 ((2 * (k : Int)) + 1)))))), (3, .int (zI (-((b1 (2 * (k : Int))) - (b1 ((2 * (k : Int)) + 1)))))), (0, .ref q5), (2, .int (zI (2 * (k : Int))))] C dX5_unlike_55 rfl rfl (by decide) rfl ?_
              refine zj_iinc 59 3 [(2, .int (zI ((2 * (k : Int)) + 2))), (1, .int (zI (-((b1 (2 * (k : Int))) - (b1 ((2 * (k : Int)) + 1)))))), (3, .int (zI (-((b1 (2 * (k : Int))) - (b1 ((2 * (k : Int)) + 1)))))), (0, .ref q5)] C dX5_unlike_56 rfl rfl (by decide) rfl ?_
              refine zj_goto 4 C dX5_unlike_59 (by decide) ?_
              refine zj_re [1, 0, 2] [(q5, .inr (5, [.int (zI th), .ref m0, .ref m1, .int (zI sm), .ref m2, .int (zI ty), .ref m3, .ref m4, .ref m5, .ref m6, .ref m7, .ref m8, .int (zI pg), .int (zI rw), .int (zI un), .ref m9, .int (zI pm), .int (zI sp), .int (zI wr), .long ha])), (m7, .inl (cI, 16, .inl (zA b1))), (m8, .inl (cI, 16, .inl (zA c1)))] (by decide) rfl ?_
              refine zj_lv [3, 1, 0] [(0, .ref q5), (1, .int (zI (-((b1 (2 * (k : Int))) - (b1 ((2 * (k : Int)) + 1)))))), (2, .int (zI ((2 * (k : Int)) + 2)))] rfl ?_
              refine zj_eqlv (lv' := [(0, .ref q5), (1, .int (zI (-((b1 (2 * (k : Int))) - (b1 ((2 * (k : Int)) + 1)))))), (2, .int (zI (2 * ((k + 1) : Int))))]) (by rw [show 2 * (k : Int) + 2 = 2 * ((k + 1 : Nat) : Int) by omega]; rfl) ?_
              exact ih (k + 1) (-((b1 (2 * (k : Int))) - (b1 ((2 * (k : Int)) + 1)))) (by omega) (by omega) (by rw [zUn, ← hr0]; unfold zAbs; split <;> omega) (by omega)
  refine zj_lv [2, 1, 0] [(0, .ref q5), (1, .int (zI 0)), (2, .int (zI 0))] rfl ?_
  refine zj_eqlv (lv' := [(0, .ref q5), (1, .int (zI 0)), (2, .int (zI (2 * (0 : Int))))]) (by rfl) ?_
  exact hL4 (9) 0 0 (by omega) (by omega) (rfl) (by omega)

theorem fl_X5_toldPanel_25 : Cond.fieldLink RX5 25 "SplashPagesModel" "unitOf" "[I" ∈ wsX5_toldPanel := by decide +kernel
theorem im_X5_toldPanel_5 : ∀ w ∈ u_ws RX5 TX5 20, w ∈ wsX5_toldPanel := by decide +kernel
theorem fl_X5_toldPanel_22 : Cond.fieldLink RX5 22 "SplashPagesModel" "rowOf" "[I" ∈ wsX5_toldPanel := by decide +kernel
theorem fl_X5_toldPanel_19 : Cond.fieldLink RX5 19 "SplashPagesModel" "pageOf" "[I" ∈ wsX5_toldPanel := by decide +kernel
abbrev rm_X5_toldPanel : Room := { frames := 1, cells := 0, slots := 0, locals := 22 }
set_option maxRecDepth 100000 in
set_option maxHeartbeats 4000000 in
theorem c_X5_toldPanel (l : Launch) (D : va_G) (cI cS cJ : ClassId) (q5 : Nat) (m0 : Nat) (m1 : Nat) (m2 : Nat) (m3 : Nat) (m4 : Nat) (m5 : Nat) (m6 : Nat) (m7 : Nat) (m8 : Nat) (m9 : Nat) (th : Int) (sm : Int) (ty : Int) (pg : Int) (rw : Int) (un : Int) (pm : Int) (sp : Int) (wr : Int) (ha : Int64) (Z1 : Int → Int) (P1 : Int → Int) (R1 : Int → Int) (U1 : Int → Int) (i1 : Int) (x1 : Int) (hi : 0 ≤ i1 ∧ i1 < 24) (hx : 0 ≤ x1 ∧ x1 ≤ 5) : zMi l yX5_toldPanel wsX5_toldPanel rm_X5_toldPanel D (zTy cI cS cJ) [.ref q5, .int (zI i1), .int (zI x1)] [(q5, .inr (5, [.int (zI th), .ref m0, .ref m1, .int (zI sm), .ref m2, .int (zI ty), .ref m3, .ref m4, .ref m5, .ref m6, .ref m7, .ref m8, .int (zI pg), .int (zI rw), .int (zI un), .ref m9, .int (zI pm), .int (zI sp), .int (zI wr), .long ha])), (m0, .inl (cI, 74, .inl (zA Z1))), (m3, .inl (cI, 24, .inl (zA P1))), (m4, .inl (cI, 24, .inl (zA R1))), (m5, .inl (cI, 24, .inl (zA U1)))] (fun r w => r = zI (zPgF x1 (Z1 (2 + 3 * i1 + 0)) (Z1 (2 + 3 * i1 + 1)) (Z1 (2 + 3 * i1 + 2)) (P1 i1) (R1 i1) (U1 i1)) ∧ w = [(q5, .inr (5, [.int (zI th), .ref m0, .ref m1, .int (zI sm), .ref m2, .int (zI ty), .ref m3, .ref m4, .ref m5, .ref m6, .ref m7, .ref m8, .int (zI pg), .int (zI rw), .int (zI un), .ref m9, .int (zI pm), .int (zI sp), .int (zI wr), .long ha])), (m0, .inl (cI, 74, .inl (zA Z1))), (m3, .inl (cI, 24, .inl (zA P1))), (m4, .inl (cI, 24, .inl (zA R1))), (m5, .inl (cI, 24, .inl (zA U1)))]) 0 0 := by
  intro sz
  refine zMet_of (Qc := fun A => va_Qi _ (zB D (zTy cI cS cJ) A) A) RX5 [(0, .ref q5), (1, .int (zI i1)), (2, .int (zI x1))] rfl (by decide +kernel) rfl (Nat.le_of_ble_eq_true rfl) rfl ?_ sz
  intro p e s m args below meth c A Q hQ C hr hini
  refine zj_iload_n 1 2 C dX5_toldPanel_0 rfl rfl rfl ?_
  refine zj_iconst 2 C dX5_toldPanel_1 rfl ?_
  refine zj_icmp_ge 5 14 C (by omega) (by omega) dX5_toldPanel_2 rfl (by decide) (fun h_1 => ?_) (fun h_1 => ?_)
  · skip
    refine zj_iload_n 15 2 C dX5_toldPanel_14 rfl rfl rfl ?_
    refine zj_iconst 16 C dX5_toldPanel_15 rfl ?_
    refine zj_icmp_ne 19 28 C (by omega) (by omega) dX5_toldPanel_16 rfl (by decide) (fun h_2 => ?_) (fun h_2 => ?_)
    · skip
      refine zj_iload_n 29 2 C dX5_toldPanel_28 rfl rfl rfl ?_
      refine zj_iconst 30 C dX5_toldPanel_29 rfl ?_
      refine zj_icmp_ne 33 42 C (by omega) (by omega) dX5_toldPanel_30 rfl (by decide) (fun h_3 => ?_) (fun h_3 => ?_)
      · skip
        refine zj_aload_n 43 0 C dX5_toldPanel_42 rfl rfl rfl ?_
        refine zj_get 46 0 8 C (T := TX5) im_X5_toldPanel_5 fl_X5_toldPanel_25 rfl rfl (by decide) rfl rfl dX5_toldPanel_43 rfl ?_
        refine zj_iload_n 47 1 C dX5_toldPanel_46 rfl rfl rfl ?_
        refine zj_iald 48 4 C (by omega) (by omega) rfl rfl dX5_toldPanel_47 rfl ?_
        refine zj_st (st' := [.int (zI (zPgF x1 (Z1 (2 + 3 * i1 + 0)) (Z1 (2 + 3 * i1 + 1)) (Z1 (2 + 3 * i1 + 2)) (P1 i1) (R1 i1) (U1 i1)))]) (by unfold zPgF; rw [if_neg (by omega), if_neg (by omega), if_neg (by omega), if_neg (by omega), if_neg (by omega)]) ?_
        subst hQ
        exact zj_ireturn C hr ⟨rfl, rfl⟩ (by decide) (by decide) dX5_toldPanel_48
      · skip
        refine zj_aload_n 34 0 C dX5_toldPanel_33 rfl rfl rfl ?_
        refine zj_get 37 0 7 C (T := TX5) im_X5_toldPanel_5 fl_X5_toldPanel_22 rfl rfl (by decide) rfl rfl dX5_toldPanel_34 rfl ?_
        refine zj_iload_n 38 1 C dX5_toldPanel_37 rfl rfl rfl ?_
        refine zj_iald 39 3 C (by omega) (by omega) rfl rfl dX5_toldPanel_38 rfl ?_
        refine zj_goto 48 C dX5_toldPanel_39 (by decide) ?_
        refine zj_st (st' := [.int (zI (zPgF x1 (Z1 (2 + 3 * i1 + 0)) (Z1 (2 + 3 * i1 + 1)) (Z1 (2 + 3 * i1 + 2)) (P1 i1) (R1 i1) (U1 i1)))]) (by unfold zPgF; rw [if_neg (by omega), if_neg (by omega), if_neg (by omega), if_neg (by omega), if_pos (by omega)]) ?_
        subst hQ
        exact zj_ireturn C hr ⟨rfl, rfl⟩ (by decide) (by decide) dX5_toldPanel_48
    · skip
      refine zj_aload_n 20 0 C dX5_toldPanel_19 rfl rfl rfl ?_
      refine zj_get 23 0 6 C (T := TX5) im_X5_toldPanel_5 fl_X5_toldPanel_19 rfl rfl (by decide) rfl rfl dX5_toldPanel_20 rfl ?_
      refine zj_iload_n 24 1 C dX5_toldPanel_23 rfl rfl rfl ?_
      refine zj_iald 25 2 C (by omega) (by omega) rfl rfl dX5_toldPanel_24 rfl ?_
      refine zj_goto 48 C dX5_toldPanel_25 (by decide) ?_
      refine zj_st (st' := [.int (zI (zPgF x1 (Z1 (2 + 3 * i1 + 0)) (Z1 (2 + 3 * i1 + 1)) (Z1 (2 + 3 * i1 + 2)) (P1 i1) (R1 i1) (U1 i1)))]) (by unfold zPgF; rw [if_neg (by omega), if_neg (by omega), if_neg (by omega), if_pos (by omega)]) ?_
      subst hQ
      exact zj_ireturn C hr ⟨rfl, rfl⟩ (by decide) (by decide) dX5_toldPanel_48
  · skip
    refine zj_aload_n 6 0 C dX5_toldPanel_5 rfl rfl rfl ?_
    refine zj_iload_n 7 1 C dX5_toldPanel_6 rfl rfl rfl ?_
    refine zj_iload_n 8 2 C dX5_toldPanel_7 rfl rfl rfl ?_
    refine zj_ci 11 [0, 1] [2, 3, 4] C (wr := [(m3, .inl (cI, 24, .inl (zA P1))), (m4, .inl (cI, 24, .inl (zA R1))), (m5, .inl (cI, 24, .inl (zA U1)))]) (zr_V [0, 1] C (As := [.int (zI i1), .int (zI x1)]) (rest := []) (c_X5_of l D cI cS cJ q5 m0 m1 m2 m3 m4 m5 m6 m7 m8 m9 th sm ty pg rw un pm sp wr ha Z1 i1 x1 (by omega) (by omega)) (cwV 2 C.1.2.2.2.2 gX5_toldPanel_X5_of rfl rfl rfl (by decide +kernel) ⟨Nat.le_of_ble_eq_true rfl, Nat.le_of_ble_eq_true rfl⟩) rfl (by decide) 0 rfl rfl rfl rfl (Nat.le_of_ble_eq_true rfl) dX5_toldPanel_8 ⟨Nat.le_of_ble_eq_true rfl, Nat.le_of_ble_eq_true rfl⟩) rfl rfl (by decide) (by decide) rfl (fun r_4 w_ hp_5 => ?_)
    obtain ⟨rfl, rfl⟩ := hp_5
    refine zj_ws (ws' := [(m3, .inl (cI, 24, .inl (zA P1))), (m4, .inl (cI, 24, .inl (zA R1))), (m5, .inl (cI, 24, .inl (zA U1))), (q5, .inr (5, [.int (zI th), .ref m0, .ref m1, .int (zI sm), .ref m2, .int (zI ty), .ref m3, .ref m4, .ref m5, .ref m6, .ref m7, .ref m8, .int (zI pg), .int (zI rw), .int (zI un), .ref m9, .int (zI pm), .int (zI sp), .int (zI wr), .long ha])), (m0, .inl (cI, 74, .inl (zA Z1)))]) rfl ?_
    refine zj_goto 48 C dX5_toldPanel_11 (by decide) ?_
    refine zj_re [3, 4, 0, 1, 2] [(q5, .inr (5, [.int (zI th), .ref m0, .ref m1, .int (zI sm), .ref m2, .int (zI ty), .ref m3, .ref m4, .ref m5, .ref m6, .ref m7, .ref m8, .int (zI pg), .int (zI rw), .int (zI un), .ref m9, .int (zI pm), .int (zI sp), .int (zI wr), .long ha])), (m0, .inl (cI, 74, .inl (zA Z1))), (m3, .inl (cI, 24, .inl (zA P1))), (m4, .inl (cI, 24, .inl (zA R1))), (m5, .inl (cI, 24, .inl (zA U1)))] (by decide) rfl ?_
    refine zj_st (st' := [.int (zI (zPgF x1 (Z1 (2 + 3 * i1 + 0)) (Z1 (2 + 3 * i1 + 1)) (Z1 (2 + 3 * i1 + 2)) (P1 i1) (R1 i1) (U1 i1)))]) (by unfold zPgF; rcases (show x1 = 0 ∨ x1 = 1 ∨ x1 = 2 by omega) with rfl | rfl | rfl <;> rfl) ?_
    subst hQ
    exact zj_ireturn C hr ⟨rfl, rfl⟩ (by decide) (by decide) dX5_toldPanel_48

theorem fl_X5_toldPage_34 : Cond.fieldLink RX5 34 "SplashPagesModel" "panelsOn" "[I" ∈ wsX5_toldPage := by decide +kernel
theorem im_X5_toldPage_5 : ∀ w ∈ u_ws RX5 TX5 20, w ∈ wsX5_toldPage := by decide +kernel
theorem fl_X5_toldPage_31 : Cond.fieldLink RX5 31 "SplashPagesModel" "beatsOn" "[I" ∈ wsX5_toldPage := by decide +kernel
abbrev rm_X5_toldPage : Room := { frames := 2, cells := 0, slots := 0, locals := 45 }
set_option maxRecDepth 100000 in
set_option maxHeartbeats 4000000 in
theorem c_X5_toldPage (l : Launch) (D : va_G) (cI cS cJ : ClassId) (q5 : Nat) (m0 : Nat) (m1 : Nat) (m2 : Nat) (m3 : Nat) (m4 : Nat) (m5 : Nat) (m6 : Nat) (m7 : Nat) (m8 : Nat) (m9 : Nat) (th : Int) (sm : Int) (ty : Int) (pg : Int) (rw : Int) (un : Int) (pm : Int) (sp : Int) (wr : Int) (ha : Int64) (Z1 : Int → Int) (P1 : Int → Int) (G1 : Int → Int) (b1 : Int → Int) (c1 : Int → Int) (p1 : Int) (x1 : Int) (hst : zOk (Z1 1) (Z1 0) (zKz Z1) (zWz Z1) (zTz Z1)) (hG : ∀ x, 0 ≤ x → x < 384 → -1 ≤ G1 x ∧ G1 x < Z1 1) (hP : ∀ x, 0 ≤ x → x < Z1 1 → -1 ≤ P1 x ∧ P1 x ≤ 100) (hc : ∀ x, 0 ≤ c1 x ∧ c1 x ≤ 1000) (hb : ∀ x, 0 ≤ b1 x ∧ b1 x ≤ 10000) (hus : 0 ≤ zUs c1 16 ∧ zUs c1 16 ≤ 16) (hp : 0 ≤ p1 ∧ p1 < 16) (hx : 0 ≤ x1 ∧ x1 ≤ 5) : zMi l yX5_toldPage wsX5_toldPage rm_X5_toldPage D (zTy cI cS cJ) [.ref q5, .int (zI p1), .int (zI x1)] [(q5, .inr (5, [.int (zI th), .ref m0, .ref m1, .int (zI sm), .ref m2, .int (zI ty), .ref m3, .ref m4, .ref m5, .ref m6, .ref m7, .ref m8, .int (zI pg), .int (zI rw), .int (zI un), .ref m9, .int (zI pm), .int (zI sp), .int (zI wr), .long ha])), (m0, .inl (cI, 74, .inl (zA Z1))), (m3, .inl (cI, 24, .inl (zA P1))), (m6, .inl (cI, 384, .inl (zA G1))), (m7, .inl (cI, 16, .inl (zA b1))), (m8, .inl (cI, 16, .inl (zA c1)))] (fun r w => ∃ (v2 : Int), ∃ (v4 : Int), ((zWhl (zKz Z1) G1 p1 ∧ v2 = 0) ∨ (¬ zWhl (zKz Z1) G1 p1 ∧ v2 = zEm G1 (24 * p1) 24)) ∧ ((c1 p1 = 0 ∧ p1 < zUs c1 16 ∧ v4 = 1) ∨ (¬ (c1 p1 = 0 ∧ p1 < zUs c1 16) ∧ v4 = 0)) ∧ r = zI (zPgF x1 (c1 p1) (b1 p1) v2 (zFo G1 (24 * p1) 24) v4 (zBo (zKz Z1) P1 p1 (Z1 1).toNat)) ∧ w = [(q5, .inr (5, [.int (zI th), .ref m0, .ref m1, .int (zI sm), .ref m2, .int (zI ty), .ref m3, .ref m4, .ref m5, .ref m6, .ref m7, .ref m8, .int (zI pg), .int (zI rw), .int (zI un), .ref m9, .int (zI pm), .int (zI sp), .int (zI wr), .long ha])), (m0, .inl (cI, 74, .inl (zA Z1))), (m3, .inl (cI, 24, .inl (zA P1))), (m6, .inl (cI, 384, .inl (zA G1))), (m7, .inl (cI, 16, .inl (zA b1))), (m8, .inl (cI, 16, .inl (zA c1)))]) 0 0 := by
  intro sz
  refine zMet_of (Qc := fun A => va_Qi _ (zB D (zTy cI cS cJ) A) A) RX5 [(0, .ref q5), (1, .int (zI p1)), (2, .int (zI x1))] rfl (by decide +kernel) rfl (Nat.le_of_ble_eq_true rfl) rfl ?_ sz
  intro p e s m args below meth c A Q hQ C hr hini
  have hn := hst.1
  have hcp := hc p1
  obtain ⟨v2, hv2⟩ : ∃ v2 : Int, (zWhl (zKz Z1) G1 p1 ∧ v2 = 0) ∨ (¬ zWhl (zKz Z1) G1 p1 ∧ v2 = zEm G1 (24 * p1) 24) := by by_cases h : zWhl (zKz Z1) G1 p1; exact ⟨0, Or.inl ⟨h, rfl⟩⟩; exact ⟨_, Or.inr ⟨h, rfl⟩⟩
  obtain ⟨v4, hv4⟩ : ∃ v4 : Int, (c1 p1 = 0 ∧ p1 < zUs c1 16 ∧ v4 = 1) ∨ (¬ (c1 p1 = 0 ∧ p1 < zUs c1 16) ∧ v4 = 0) := by by_cases h : c1 p1 = 0 ∧ p1 < zUs c1 16; exact ⟨1, Or.inl ⟨h.1, h.2, rfl⟩⟩; exact ⟨0, Or.inr ⟨h, rfl⟩⟩
  refine zj_iload_n 1 2 C dX5_toldPage_0 rfl rfl rfl ?_
  by_cases hx1 : x1 = 0
  · refine zj_tabIn (a := x1) (off := 35) 36 C (by omega) dX5_toldPage_1 (by omega) (by omega) (by rw [hx1]; rfl) (by decide) ?_
    refine zj_aload_n 37 0 C dX5_toldPage_36 rfl rfl rfl ?_
    refine zj_get 40 0 11 C (T := TX5) im_X5_toldPage_5 fl_X5_toldPage_34 rfl rfl (by decide) rfl rfl dX5_toldPage_37 rfl ?_
    refine zj_iload_n 41 1 C dX5_toldPage_40 rfl rfl rfl ?_
    refine zj_iald 42 5 C (by omega) (by omega) rfl rfl dX5_toldPage_41 rfl ?_
    refine zj_st (st' := [.int (zI (zPgF x1 (c1 p1) (b1 p1) v2 (zFo G1 (24 * p1) 24) v4 (zBo (zKz Z1) P1 p1 (Z1 1).toNat)))]) (by unfold zPgF; rw [if_pos hx1]) ?_
    subst hQ
    exact zj_ireturn C hr ⟨v2, v4, hv2, hv4, rfl, rfl⟩ (by decide) (by decide) dX5_toldPage_42
  by_cases hx1 : x1 = 1
  · refine zj_tabIn (a := x1) (off := 42) 43 C (by omega) dX5_toldPage_1 (by omega) (by omega) (by rw [hx1]; rfl) (by decide) ?_
    refine zj_aload_n 44 0 C dX5_toldPage_43 rfl rfl rfl ?_
    refine zj_get 47 0 10 C (T := TX5) im_X5_toldPage_5 fl_X5_toldPage_31 rfl rfl (by decide) rfl rfl dX5_toldPage_44 rfl ?_
    refine zj_iload_n 48 1 C dX5_toldPage_47 rfl rfl rfl ?_
    refine zj_iald 49 4 C (by omega) (by omega) rfl rfl dX5_toldPage_48 rfl ?_
    refine zj_st (st' := [.int (zI (zPgF x1 (c1 p1) (b1 p1) v2 (zFo G1 (24 * p1) 24) v4 (zBo (zKz Z1) P1 p1 (Z1 1).toNat)))]) (by unfold zPgF; rw [if_neg (by omega), if_pos hx1]) ?_
    subst hQ
    exact zj_ireturn C hr ⟨v2, v4, hv2, hv4, rfl, rfl⟩ (by decide) (by decide) dX5_toldPage_49
  by_cases hx1 : x1 = 2
  · refine zj_tabIn (a := x1) (off := 49) 50 C (by omega) dX5_toldPage_1 (by omega) (by omega) (by rw [hx1]; rfl) (by decide) ?_
    refine zj_aload_n 51 0 C dX5_toldPage_50 rfl rfl rfl ?_
    refine zj_iload_n 52 1 C dX5_toldPage_51 rfl rfl rfl ?_
    refine zj_ci 55 [0, 1, 3] [2, 4, 5] C (wr := [(m3, .inl (cI, 24, .inl (zA P1))), (m7, .inl (cI, 16, .inl (zA b1))), (m8, .inl (cI, 16, .inl (zA c1)))]) (zr_V [0, 1, 3] C (As := [.int (zI p1)]) (rest := []) (c_X5_isWhole l D cI cS cJ q5 m0 m1 m2 m3 m4 m5 m6 m7 m8 m9 th sm ty pg rw un pm sp wr ha Z1 G1 p1 hst hG (by omega)) (cwV 1 C.1.2.2.2.2 gX5_toldPage_X5_isWhole rfl rfl rfl (by decide +kernel) ⟨Nat.le_of_ble_eq_true rfl, Nat.le_of_ble_eq_true rfl⟩) rfl (by decide) 0 rfl rfl rfl rfl (Nat.le_of_ble_eq_true rfl) dX5_toldPage_52 ⟨Nat.le_of_ble_eq_true rfl, Nat.le_of_ble_eq_true rfl⟩) rfl rfl (by decide) (by decide) rfl (fun r_1 w_ hp_2 => ?_)
    obtain ⟨r1_3, fw, rfl, rfl⟩ := hp_2
    refine zj_ws (ws' := [(m3, .inl (cI, 24, .inl (zA P1))), (m7, .inl (cI, 16, .inl (zA b1))), (m8, .inl (cI, 16, .inl (zA c1))), (q5, .inr (5, [.int (zI th), .ref m0, .ref m1, .int (zI sm), .ref m2, .int (zI ty), .ref m3, .ref m4, .ref m5, .ref m6, .ref m7, .ref m8, .int (zI pg), .int (zI rw), .int (zI un), .ref m9, .int (zI pm), .int (zI sp), .int (zI wr), .long ha])), (m0, .inl (cI, 74, .inl (zA Z1))), (m6, .inl (cI, 384, .inl (zA G1)))]) rfl ?_
    refine zj_if_eq 58 62 C (by omega) dX5_toldPage_55 rfl (by decide) (fun h_4 => ?_) (fun h_4 => ?_)
    · skip
      refine zj_aload_n 63 0 C dX5_toldPage_62 rfl rfl rfl ?_
      refine zj_iload_n 64 1 C dX5_toldPage_63 rfl rfl rfl ?_
      refine zj_ci 67 [3, 5] [0, 1, 2, 4] C (wr := [(m3, .inl (cI, 24, .inl (zA P1))), (m7, .inl (cI, 16, .inl (zA b1))), (m8, .inl (cI, 16, .inl (zA c1))), (m0, .inl (cI, 74, .inl (zA Z1)))]) (zr_V [3, 5] C (As := [.int (zI p1)]) (rest := []) (c_X5_emptyOn l D cI cS cJ q5 m0 m1 m2 m3 m4 m5 m6 m7 m8 m9 th sm ty pg rw un pm sp wr ha G1 p1 (fun x h1 h2 => by have := hG x h1 h2; omega) (by omega)) (cwV 1 C.1.2.2.2.2 gX5_toldPage_X5_emptyOn rfl rfl rfl (by decide +kernel) ⟨Nat.le_of_ble_eq_true rfl, Nat.le_of_ble_eq_true rfl⟩) rfl (by decide) 0 rfl rfl rfl rfl (Nat.le_of_ble_eq_true rfl) dX5_toldPage_64 ⟨Nat.le_of_ble_eq_true rfl, Nat.le_of_ble_eq_true rfl⟩) rfl rfl (by decide) (by decide) rfl (fun r_5 w_ hp_6 => ?_)
      obtain ⟨r1_7, fe, f_8, rfl, rfl⟩ := hp_6
      refine zj_ws (ws' := [(m3, .inl (cI, 24, .inl (zA P1))), (m7, .inl (cI, 16, .inl (zA b1))), (m8, .inl (cI, 16, .inl (zA c1))), (m0, .inl (cI, 74, .inl (zA Z1))), (q5, .inr (5, [.int (zI th), .ref m0, .ref m1, .int (zI sm), .ref m2, .int (zI ty), .ref m3, .ref m4, .ref m5, .ref m6, .ref m7, .ref m8, .int (zI pg), .int (zI rw), .int (zI un), .ref m9, .int (zI pm), .int (zI sp), .int (zI wr), .long ha])), (m6, .inl (cI, 384, .inl (zA G1)))]) rfl ?_
      refine zj_re [4, 3, 0, 5, 1, 2] [(q5, .inr (5, [.int (zI th), .ref m0, .ref m1, .int (zI sm), .ref m2, .int (zI ty), .ref m3, .ref m4, .ref m5, .ref m6, .ref m7, .ref m8, .int (zI pg), .int (zI rw), .int (zI un), .ref m9, .int (zI pm), .int (zI sp), .int (zI wr), .long ha])), (m0, .inl (cI, 74, .inl (zA Z1))), (m3, .inl (cI, 24, .inl (zA P1))), (m6, .inl (cI, 384, .inl (zA G1))), (m7, .inl (cI, 16, .inl (zA b1))), (m8, .inl (cI, 16, .inl (zA c1)))] (by decide) rfl ?_
      refine zj_st (st' := [.int (zI (zPgF x1 (c1 p1) (b1 p1) v2 (zFo G1 (24 * p1) 24) v4 (zBo (zKz Z1) P1 p1 (Z1 1).toNat)))]) (by rw [show zPgF x1 (c1 p1) (b1 p1) v2 (zFo G1 (24 * p1) 24) v4 (zBo (zKz Z1) P1 p1 (Z1 1).toNat) = r1_7 from by unfold zPgF; rw [if_neg (by omega), if_neg (by omega), if_pos hx1]; rcases hv2 with q | q <;> rcases fw with q2 | q2 <;> first | omega | exact absurd q2.2 q.1 | exact absurd q.1 q2.2]) ?_
      subst hQ
      exact zj_ireturn C hr ⟨v2, v4, hv2, hv4, rfl, rfl⟩ (by decide) (by decide) dX5_toldPage_67
    · skip
      refine zj_iconst 59 C dX5_toldPage_58 rfl ?_
      refine zj_goto 67 C dX5_toldPage_59 (by decide) ?_
      refine zj_re [3, 4, 0, 5, 1, 2] [(q5, .inr (5, [.int (zI th), .ref m0, .ref m1, .int (zI sm), .ref m2, .int (zI ty), .ref m3, .ref m4, .ref m5, .ref m6, .ref m7, .ref m8, .int (zI pg), .int (zI rw), .int (zI un), .ref m9, .int (zI pm), .int (zI sp), .int (zI wr), .long ha])), (m0, .inl (cI, 74, .inl (zA Z1))), (m3, .inl (cI, 24, .inl (zA P1))), (m6, .inl (cI, 384, .inl (zA G1))), (m7, .inl (cI, 16, .inl (zA b1))), (m8, .inl (cI, 16, .inl (zA c1)))] (by decide) rfl ?_
      refine zj_st (st' := [.int (zI (zPgF x1 (c1 p1) (b1 p1) v2 (zFo G1 (24 * p1) 24) v4 (zBo (zKz Z1) P1 p1 (Z1 1).toNat)))]) (by rw [show zPgF x1 (c1 p1) (b1 p1) v2 (zFo G1 (24 * p1) 24) v4 (zBo (zKz Z1) P1 p1 (Z1 1).toNat) = 0 from by unfold zPgF; rw [if_neg (by omega), if_neg (by omega), if_pos hx1]; rcases hv2 with q | q <;> rcases fw with q2 | q2 <;> first | omega | exact absurd q2.2 q.1 | exact absurd q.1 q2.2]) ?_
      subst hQ
      exact zj_ireturn C hr ⟨v2, v4, hv2, hv4, rfl, rfl⟩ (by decide) (by decide) dX5_toldPage_67
  by_cases hx1 : x1 = 3
  · refine zj_tabIn (a := x1) (off := 67) 68 C (by omega) dX5_toldPage_1 (by omega) (by omega) (by rw [hx1]; rfl) (by decide) ?_
    refine zj_aload_n 69 0 C dX5_toldPage_68 rfl rfl rfl ?_
    refine zj_iload_n 70 1 C dX5_toldPage_69 rfl rfl rfl ?_
    refine zj_ci 73 [0, 3] [1, 2, 4, 5] C (wr := [(m0, .inl (cI, 74, .inl (zA Z1))), (m3, .inl (cI, 24, .inl (zA P1))), (m7, .inl (cI, 16, .inl (zA b1))), (m8, .inl (cI, 16, .inl (zA c1)))]) (zr_V [0, 3] C (As := [.int (zI p1)]) (rest := []) (c_X5_firstOn l D cI cS cJ q5 m0 m1 m2 m3 m4 m5 m6 m7 m8 m9 th sm ty pg rw un pm sp wr ha G1 p1 (fun x h1 h2 => by have := hG x h1 h2; omega) (by omega)) (cwV 1 C.1.2.2.2.2 gX5_toldPage_X5_firstOn rfl rfl rfl (by decide +kernel) ⟨Nat.le_of_ble_eq_true rfl, Nat.le_of_ble_eq_true rfl⟩) rfl (by decide) 0 rfl rfl rfl rfl (Nat.le_of_ble_eq_true rfl) dX5_toldPage_70 ⟨Nat.le_of_ble_eq_true rfl, Nat.le_of_ble_eq_true rfl⟩) rfl rfl (by decide) (by decide) rfl (fun r_9 w_ hp_10 => ?_)
    obtain ⟨rfl, rfl⟩ := hp_10
    refine zj_ws (ws' := [(m0, .inl (cI, 74, .inl (zA Z1))), (m3, .inl (cI, 24, .inl (zA P1))), (m7, .inl (cI, 16, .inl (zA b1))), (m8, .inl (cI, 16, .inl (zA c1))), (q5, .inr (5, [.int (zI th), .ref m0, .ref m1, .int (zI sm), .ref m2, .int (zI ty), .ref m3, .ref m4, .ref m5, .ref m6, .ref m7, .ref m8, .int (zI pg), .int (zI rw), .int (zI un), .ref m9, .int (zI pm), .int (zI sp), .int (zI wr), .long ha])), (m6, .inl (cI, 384, .inl (zA G1)))]) rfl ?_
    refine zj_re [4, 0, 1, 5, 2, 3] [(q5, .inr (5, [.int (zI th), .ref m0, .ref m1, .int (zI sm), .ref m2, .int (zI ty), .ref m3, .ref m4, .ref m5, .ref m6, .ref m7, .ref m8, .int (zI pg), .int (zI rw), .int (zI un), .ref m9, .int (zI pm), .int (zI sp), .int (zI wr), .long ha])), (m0, .inl (cI, 74, .inl (zA Z1))), (m3, .inl (cI, 24, .inl (zA P1))), (m6, .inl (cI, 384, .inl (zA G1))), (m7, .inl (cI, 16, .inl (zA b1))), (m8, .inl (cI, 16, .inl (zA c1)))] (by decide) rfl ?_
    refine zj_st (st' := [.int (zI (zPgF x1 (c1 p1) (b1 p1) v2 (zFo G1 (24 * p1) 24) v4 (zBo (zKz Z1) P1 p1 (Z1 1).toNat)))]) (by unfold zPgF; rw [if_neg (by omega), if_neg (by omega), if_neg (by omega), if_pos hx1]) ?_
    subst hQ
    exact zj_ireturn C hr ⟨v2, v4, hv2, hv4, rfl, rfl⟩ (by decide) (by decide) dX5_toldPage_73
  by_cases hx1 : x1 = 4
  · refine zj_tabIn (a := x1) (off := 73) 74 C (by omega) dX5_toldPage_1 (by omega) (by omega) (by rw [hx1]; rfl) (by decide) ?_
    refine zj_aload_n 75 0 C dX5_toldPage_74 rfl rfl rfl ?_
    refine zj_get 78 0 11 C (T := TX5) im_X5_toldPage_5 fl_X5_toldPage_34 rfl rfl (by decide) rfl rfl dX5_toldPage_75 rfl ?_
    refine zj_iload_n 79 1 C dX5_toldPage_78 rfl rfl rfl ?_
    refine zj_iald 80 5 C (by omega) (by omega) rfl rfl dX5_toldPage_79 rfl ?_
    refine zj_if_ne 83 95 C (by omega) dX5_toldPage_80 rfl (by decide) (fun h80 => ?_) (fun h80 => ?_)
    · skip
      refine zj_iconst 96 C dX5_toldPage_95 rfl ?_
      refine zj_st (st' := [.int (zI (zPgF x1 (c1 p1) (b1 p1) v2 (zFo G1 (24 * p1) 24) v4 (zBo (zKz Z1) P1 p1 (Z1 1).toNat)))]) (by rw [show zPgF x1 (c1 p1) (b1 p1) v2 (zFo G1 (24 * p1) 24) v4 (zBo (zKz Z1) P1 p1 (Z1 1).toNat) = 0 from by unfold zPgF; rw [if_neg (by omega), if_neg (by omega), if_neg (by omega), if_neg (by omega), if_pos hx1]; omega]) ?_
      subst hQ
      exact zj_ireturn C hr ⟨v2, v4, hv2, hv4, rfl, rfl⟩ (by decide) (by decide) dX5_toldPage_96
    · skip
      refine zj_iload_n 84 1 C dX5_toldPage_83 rfl rfl rfl ?_
      refine zj_aload_n 85 0 C dX5_toldPage_84 rfl rfl rfl ?_
      refine zj_ci 88 [0, 5] [1, 2, 3, 4] C (wr := [(m0, .inl (cI, 74, .inl (zA Z1))), (m3, .inl (cI, 24, .inl (zA P1))), (m6, .inl (cI, 384, .inl (zA G1))), (m7, .inl (cI, 16, .inl (zA b1)))]) (zr_V [0, 5] C (As := []) (rest := [.int (zI p1)]) (c_X5_used l D cI cS cJ q5 m0 m1 m2 m3 m4 m5 m6 m7 m8 m9 th sm ty pg rw un pm sp wr ha c1 hc) (cwV 0 C.1.2.2.2.2 gX5_toldPage_X5_used rfl rfl rfl (by decide +kernel) ⟨Nat.le_of_ble_eq_true rfl, Nat.le_of_ble_eq_true rfl⟩) rfl (by decide) 0 rfl rfl rfl rfl (Nat.le_of_ble_eq_true rfl) dX5_toldPage_85 ⟨Nat.le_of_ble_eq_true rfl, Nat.le_of_ble_eq_true rfl⟩) rfl rfl (by decide) (by decide) rfl (fun r_11 w_ hp_12 => ?_)
      obtain ⟨rfl, rfl⟩ := hp_12
      refine zj_ws (ws' := [(m0, .inl (cI, 74, .inl (zA Z1))), (m3, .inl (cI, 24, .inl (zA P1))), (m6, .inl (cI, 384, .inl (zA G1))), (m7, .inl (cI, 16, .inl (zA b1))), (q5, .inr (5, [.int (zI th), .ref m0, .ref m1, .int (zI sm), .ref m2, .int (zI ty), .ref m3, .ref m4, .ref m5, .ref m6, .ref m7, .ref m8, .int (zI pg), .int (zI rw), .int (zI un), .ref m9, .int (zI pm), .int (zI sp), .int (zI wr), .long ha])), (m8, .inl (cI, 16, .inl (zA c1)))]) rfl ?_
      refine zj_icmp_ge 91 95 C (by omega) (by omega) dX5_toldPage_88 rfl (by decide) (fun h_13 => ?_) (fun h_13 => ?_)
      · skip
        refine zj_iconst 96 C dX5_toldPage_95 rfl ?_
        refine zj_re [4, 0, 1, 2, 3, 5] [(q5, .inr (5, [.int (zI th), .ref m0, .ref m1, .int (zI sm), .ref m2, .int (zI ty), .ref m3, .ref m4, .ref m5, .ref m6, .ref m7, .ref m8, .int (zI pg), .int (zI rw), .int (zI un), .ref m9, .int (zI pm), .int (zI sp), .int (zI wr), .long ha])), (m0, .inl (cI, 74, .inl (zA Z1))), (m3, .inl (cI, 24, .inl (zA P1))), (m6, .inl (cI, 384, .inl (zA G1))), (m7, .inl (cI, 16, .inl (zA b1))), (m8, .inl (cI, 16, .inl (zA c1)))] (by decide) rfl ?_
        refine zj_st (st' := [.int (zI (zPgF x1 (c1 p1) (b1 p1) v2 (zFo G1 (24 * p1) 24) v4 (zBo (zKz Z1) P1 p1 (Z1 1).toNat)))]) (by rw [show zPgF x1 (c1 p1) (b1 p1) v2 (zFo G1 (24 * p1) 24) v4 (zBo (zKz Z1) P1 p1 (Z1 1).toNat) = 0 from by unfold zPgF; rw [if_neg (by omega), if_neg (by omega), if_neg (by omega), if_neg (by omega), if_pos hx1]; omega]) ?_
        subst hQ
        exact zj_ireturn C hr ⟨v2, v4, hv2, hv4, rfl, rfl⟩ (by decide) (by decide) dX5_toldPage_96
      · skip
        refine zj_iconst 92 C dX5_toldPage_91 rfl ?_
        refine zj_goto 96 C dX5_toldPage_92 (by decide) ?_
        refine zj_re [4, 0, 1, 2, 3, 5] [(q5, .inr (5, [.int (zI th), .ref m0, .ref m1, .int (zI sm), .ref m2, .int (zI ty), .ref m3, .ref m4, .ref m5, .ref m6, .ref m7, .ref m8, .int (zI pg), .int (zI rw), .int (zI un), .ref m9, .int (zI pm), .int (zI sp), .int (zI wr), .long ha])), (m0, .inl (cI, 74, .inl (zA Z1))), (m3, .inl (cI, 24, .inl (zA P1))), (m6, .inl (cI, 384, .inl (zA G1))), (m7, .inl (cI, 16, .inl (zA b1))), (m8, .inl (cI, 16, .inl (zA c1)))] (by decide) rfl ?_
        refine zj_st (st' := [.int (zI (zPgF x1 (c1 p1) (b1 p1) v2 (zFo G1 (24 * p1) 24) v4 (zBo (zKz Z1) P1 p1 (Z1 1).toNat)))]) (by rw [show zPgF x1 (c1 p1) (b1 p1) v2 (zFo G1 (24 * p1) 24) v4 (zBo (zKz Z1) P1 p1 (Z1 1).toNat) = 1 from by unfold zPgF; rw [if_neg (by omega), if_neg (by omega), if_neg (by omega), if_neg (by omega), if_pos hx1]; omega]) ?_
        subst hQ
        exact zj_ireturn C hr ⟨v2, v4, hv2, hv4, rfl, rfl⟩ (by decide) (by decide) dX5_toldPage_96
  refine zj_tabOut (a := x1) 97 C (by omega) dX5_toldPage_1 (by omega) (by decide) ?_
  refine zj_aload_n 98 0 C dX5_toldPage_97 rfl rfl rfl ?_
  refine zj_iload_n 99 1 C dX5_toldPage_98 rfl rfl rfl ?_
  refine zj_ci 102 [0, 1, 2] [3, 4, 5] C (wr := [(m6, .inl (cI, 384, .inl (zA G1))), (m7, .inl (cI, 16, .inl (zA b1))), (m8, .inl (cI, 16, .inl (zA c1)))]) (zr_V [0, 1, 2] C (As := [.int (zI p1)]) (rest := []) (c_X5_bleedingOn l D cI cS cJ q5 m0 m1 m2 m3 m4 m5 m6 m7 m8 m9 th sm ty pg rw un pm sp wr ha Z1 P1 p1 hst hP (by omega)) (cwV 1 C.1.2.2.2.2 gX5_toldPage_X5_bleedingOn rfl rfl rfl (by decide +kernel) ⟨Nat.le_of_ble_eq_true rfl, Nat.le_of_ble_eq_true rfl⟩) rfl (by decide) 0 rfl rfl rfl rfl (Nat.le_of_ble_eq_true rfl) dX5_toldPage_99 ⟨Nat.le_of_ble_eq_true rfl, Nat.le_of_ble_eq_true rfl⟩) rfl rfl (by decide) (by decide) rfl (fun r_14 w_ hp_15 => ?_)
  obtain ⟨rfl, rfl⟩ := hp_15
  refine zj_ws (ws' := [(m6, .inl (cI, 384, .inl (zA G1))), (m7, .inl (cI, 16, .inl (zA b1))), (m8, .inl (cI, 16, .inl (zA c1))), (q5, .inr (5, [.int (zI th), .ref m0, .ref m1, .int (zI sm), .ref m2, .int (zI ty), .ref m3, .ref m4, .ref m5, .ref m6, .ref m7, .ref m8, .int (zI pg), .int (zI rw), .int (zI un), .ref m9, .int (zI pm), .int (zI sp), .int (zI wr), .long ha])), (m0, .inl (cI, 74, .inl (zA Z1))), (m3, .inl (cI, 24, .inl (zA P1)))]) rfl ?_
  refine zj_re [3, 4, 5, 0, 1, 2] [(q5, .inr (5, [.int (zI th), .ref m0, .ref m1, .int (zI sm), .ref m2, .int (zI ty), .ref m3, .ref m4, .ref m5, .ref m6, .ref m7, .ref m8, .int (zI pg), .int (zI rw), .int (zI un), .ref m9, .int (zI pm), .int (zI sp), .int (zI wr), .long ha])), (m0, .inl (cI, 74, .inl (zA Z1))), (m3, .inl (cI, 24, .inl (zA P1))), (m6, .inl (cI, 384, .inl (zA G1))), (m7, .inl (cI, 16, .inl (zA b1))), (m8, .inl (cI, 16, .inl (zA c1)))] (by decide) rfl ?_
  refine zj_st (st' := [.int (zI (zPgF x1 (c1 p1) (b1 p1) v2 (zFo G1 (24 * p1) 24) v4 (zBo (zKz Z1) P1 p1 (Z1 1).toNat)))]) (by unfold zPgF; rw [if_neg (by omega), if_neg (by omega), if_neg (by omega), if_neg (by omega), if_neg (by omega)]) ?_
  subst hQ
  exact zj_ireturn C hr ⟨v2, v4, hv2, hv4, rfl, rfl⟩ (by decide) (by decide) dX5_toldPage_102

theorem fl_X5_counted_7 : Cond.fieldLink RX5 7 "SplashPagesModel" "z" "[I" ∈ wsX5_counted := by decide +kernel
theorem im_X5_counted_5 : ∀ w ∈ u_ws RX5 TX5 20, w ∈ wsX5_counted := by decide +kernel
theorem fl_X5_counted_44 : Cond.fieldLink RX5 44 "SplashPagesModel" "savedMany" "I" ∈ wsX5_counted := by decide +kernel
abbrev rm_X5_counted : Room := { frames := 2, cells := 0, slots := 0, locals := 45 }
set_option maxRecDepth 100000 in
set_option maxHeartbeats 4000000 in
theorem c_X5_counted (l : Launch) (D : va_G) (cI cS cJ : ClassId) (q5 : Nat) (m0 : Nat) (m1 : Nat) (m2 : Nat) (m3 : Nat) (m4 : Nat) (m5 : Nat) (m6 : Nat) (m7 : Nat) (m8 : Nat) (m9 : Nat) (th : Int) (sm : Int) (ty : Int) (pg : Int) (rw : Int) (un : Int) (pm : Int) (sp : Int) (wr : Int) (ha : Int64) (Z1 : Int → Int) (P1 : Int → Int) (G1 : Int → Int) (b1 : Int → Int) (c1 : Int → Int) (x1 : Int) (hst : zOk (Z1 1) (Z1 0) (zKz Z1) (zWz Z1) (zTz Z1)) (hG : ∀ x, 0 ≤ x → x < 384 → -1 ≤ G1 x ∧ G1 x < Z1 1) (hP : ∀ x, 0 ≤ x → x < Z1 1 → -1 ≤ P1 x ∧ P1 x ≤ 100) (hc : ∀ x, 0 ≤ c1 x ∧ c1 x ≤ 1000) (hb : ∀ x, 0 ≤ b1 x ∧ b1 x ≤ 10000) (hus : 0 ≤ zUs c1 16 ∧ zUs c1 16 ≤ 16) (hx : 0 ≤ x1 ∧ x1 ≤ 8) : zMi l yX5_counted wsX5_counted rm_X5_counted D (zTy cI cS cJ) [.ref q5, .int (zI x1)] [(q5, .inr (5, [.int (zI th), .ref m0, .ref m1, .int (zI sm), .ref m2, .int (zI ty), .ref m3, .ref m4, .ref m5, .ref m6, .ref m7, .ref m8, .int (zI pg), .int (zI rw), .int (zI un), .ref m9, .int (zI pm), .int (zI sp), .int (zI wr), .long ha])), (m0, .inl (cI, 74, .inl (zA Z1))), (m3, .inl (cI, 24, .inl (zA P1))), (m6, .inl (cI, 384, .inl (zA G1))), (m7, .inl (cI, 16, .inl (zA b1))), (m8, .inl (cI, 16, .inl (zA c1)))] (fun r w => r = zI (zCtF x1 (Z1 1) (zUs c1 16) (zPs c1 16) (zLo P1 (Z1 1).toNat) (zMx b1 16) (zEu c1 G1 16) (zUn b1 (zUs c1 16) 8) (Z1 0) sm) ∧ w = [(q5, .inr (5, [.int (zI th), .ref m0, .ref m1, .int (zI sm), .ref m2, .int (zI ty), .ref m3, .ref m4, .ref m5, .ref m6, .ref m7, .ref m8, .int (zI pg), .int (zI rw), .int (zI un), .ref m9, .int (zI pm), .int (zI sp), .int (zI wr), .long ha])), (m0, .inl (cI, 74, .inl (zA Z1))), (m3, .inl (cI, 24, .inl (zA P1))), (m6, .inl (cI, 384, .inl (zA G1))), (m7, .inl (cI, 16, .inl (zA b1))), (m8, .inl (cI, 16, .inl (zA c1)))]) 0 0 := by
  intro sz
  refine zMet_of (Qc := fun A => va_Qi _ (zB D (zTy cI cS cJ) A) A) RX5 [(0, .ref q5), (1, .int (zI x1))] rfl (by decide +kernel) rfl (Nat.le_of_ble_eq_true rfl) rfl ?_ sz
  intro p e s m args below meth c A Q hQ C hr hini
  have hn := hst.1
  refine zj_iload_n 1 1 C dX5_counted_0 rfl rfl rfl ?_
  by_cases hx1 : x1 = 0
  · refine zj_tabIn (a := x1) (off := 47) 48 C (by omega) dX5_counted_1 (by omega) (by omega) (by rw [hx1]; rfl) (by decide) ?_
    refine zj_aload_n 49 0 C dX5_counted_48 rfl rfl rfl ?_
    refine zj_get 52 0 1 C (T := TX5) im_X5_counted_5 fl_X5_counted_7 rfl rfl (by decide) rfl rfl dX5_counted_49 rfl ?_
    refine zj_iconst 53 C dX5_counted_52 rfl ?_
    refine zj_iald 54 1 C (by omega) (by omega) rfl rfl dX5_counted_53 rfl ?_
    refine zj_st (st' := [.int (zI (zCtF x1 (Z1 1) (zUs c1 16) (zPs c1 16) (zLo P1 (Z1 1).toNat) (zMx b1 16) (zEu c1 G1 16) (zUn b1 (zUs c1 16) 8) (Z1 0) sm))]) (by rw [show zCtF x1 (Z1 1) (zUs c1 16) (zPs c1 16) (zLo P1 (Z1 1).toNat) (zMx b1 16) (zEu c1 G1 16) (zUn b1 (zUs c1 16) 8) (Z1 0) sm = Z1 1 from by unfold zCtF; rw [if_pos hx1]]) ?_
    subst hQ
    exact zj_ireturn C hr ⟨rfl, rfl⟩ (by decide) (by decide) dX5_counted_54
  by_cases hx1 : x1 = 1
  · refine zj_tabIn (a := x1) (off := 54) 55 C (by omega) dX5_counted_1 (by omega) (by omega) (by rw [hx1]; rfl) (by decide) ?_
    refine zj_aload_n 56 0 C dX5_counted_55 rfl rfl rfl ?_
    refine zj_ci 59 [0, 5] [1, 2, 3, 4] C (wr := [(m0, .inl (cI, 74, .inl (zA Z1))), (m3, .inl (cI, 24, .inl (zA P1))), (m6, .inl (cI, 384, .inl (zA G1))), (m7, .inl (cI, 16, .inl (zA b1)))]) (zr_V [0, 5] C (As := []) (rest := []) (c_X5_used l D cI cS cJ q5 m0 m1 m2 m3 m4 m5 m6 m7 m8 m9 th sm ty pg rw un pm sp wr ha c1 hc) (cwV 0 C.1.2.2.2.2 gX5_counted_X5_used rfl rfl rfl (by decide +kernel) ⟨Nat.le_of_ble_eq_true rfl, Nat.le_of_ble_eq_true rfl⟩) rfl (by decide) 0 rfl rfl rfl rfl (Nat.le_of_ble_eq_true rfl) dX5_counted_56 ⟨Nat.le_of_ble_eq_true rfl, Nat.le_of_ble_eq_true rfl⟩) rfl rfl (by decide) (by decide) rfl (fun r_1 w_ hp_2 => ?_)
    obtain ⟨rfl, rfl⟩ := hp_2
    refine zj_ws (ws' := [(m0, .inl (cI, 74, .inl (zA Z1))), (m3, .inl (cI, 24, .inl (zA P1))), (m6, .inl (cI, 384, .inl (zA G1))), (m7, .inl (cI, 16, .inl (zA b1))), (q5, .inr (5, [.int (zI th), .ref m0, .ref m1, .int (zI sm), .ref m2, .int (zI ty), .ref m3, .ref m4, .ref m5, .ref m6, .ref m7, .ref m8, .int (zI pg), .int (zI rw), .int (zI un), .ref m9, .int (zI pm), .int (zI sp), .int (zI wr), .long ha])), (m8, .inl (cI, 16, .inl (zA c1)))]) rfl ?_
    refine zj_re [4, 0, 1, 2, 3, 5] [(q5, .inr (5, [.int (zI th), .ref m0, .ref m1, .int (zI sm), .ref m2, .int (zI ty), .ref m3, .ref m4, .ref m5, .ref m6, .ref m7, .ref m8, .int (zI pg), .int (zI rw), .int (zI un), .ref m9, .int (zI pm), .int (zI sp), .int (zI wr), .long ha])), (m0, .inl (cI, 74, .inl (zA Z1))), (m3, .inl (cI, 24, .inl (zA P1))), (m6, .inl (cI, 384, .inl (zA G1))), (m7, .inl (cI, 16, .inl (zA b1))), (m8, .inl (cI, 16, .inl (zA c1)))] (by decide) rfl ?_
    refine zj_st (st' := [.int (zI (zCtF x1 (Z1 1) (zUs c1 16) (zPs c1 16) (zLo P1 (Z1 1).toNat) (zMx b1 16) (zEu c1 G1 16) (zUn b1 (zUs c1 16) 8) (Z1 0) sm))]) (by rw [show zCtF x1 (Z1 1) (zUs c1 16) (zPs c1 16) (zLo P1 (Z1 1).toNat) (zMx b1 16) (zEu c1 G1 16) (zUn b1 (zUs c1 16) 8) (Z1 0) sm = zUs c1 16 from by unfold zCtF; rw [if_neg (by omega), if_pos hx1]]) ?_
    subst hQ
    exact zj_ireturn C hr ⟨rfl, rfl⟩ (by decide) (by decide) dX5_counted_59
  by_cases hx1 : x1 = 2
  · refine zj_tabIn (a := x1) (off := 59) 60 C (by omega) dX5_counted_1 (by omega) (by omega) (by rw [hx1]; rfl) (by decide) ?_
    refine zj_aload_n 61 0 C dX5_counted_60 rfl rfl rfl ?_
    refine zj_ci 64 [0, 5] [1, 2, 3, 4] C (wr := [(m0, .inl (cI, 74, .inl (zA Z1))), (m3, .inl (cI, 24, .inl (zA P1))), (m6, .inl (cI, 384, .inl (zA G1))), (m7, .inl (cI, 16, .inl (zA b1)))]) (zr_V [0, 5] C (As := []) (rest := []) (c_X5_used l D cI cS cJ q5 m0 m1 m2 m3 m4 m5 m6 m7 m8 m9 th sm ty pg rw un pm sp wr ha c1 hc) (cwV 0 C.1.2.2.2.2 gX5_counted_X5_used rfl rfl rfl (by decide +kernel) ⟨Nat.le_of_ble_eq_true rfl, Nat.le_of_ble_eq_true rfl⟩) rfl (by decide) 0 rfl rfl rfl rfl (Nat.le_of_ble_eq_true rfl) dX5_counted_61 ⟨Nat.le_of_ble_eq_true rfl, Nat.le_of_ble_eq_true rfl⟩) rfl rfl (by decide) (by decide) rfl (fun r_3 w_ hp_4 => ?_)
    obtain ⟨rfl, rfl⟩ := hp_4
    refine zj_ws (ws' := [(m0, .inl (cI, 74, .inl (zA Z1))), (m3, .inl (cI, 24, .inl (zA P1))), (m6, .inl (cI, 384, .inl (zA G1))), (m7, .inl (cI, 16, .inl (zA b1))), (q5, .inr (5, [.int (zI th), .ref m0, .ref m1, .int (zI sm), .ref m2, .int (zI ty), .ref m3, .ref m4, .ref m5, .ref m6, .ref m7, .ref m8, .int (zI pg), .int (zI rw), .int (zI un), .ref m9, .int (zI pm), .int (zI sp), .int (zI wr), .long ha])), (m8, .inl (cI, 16, .inl (zA c1)))]) rfl ?_
    refine zj_aload_n 65 0 C dX5_counted_64 rfl rfl rfl ?_
    refine zj_ci 68 [4, 5] [0, 1, 2, 3] C (wr := [(m0, .inl (cI, 74, .inl (zA Z1))), (m3, .inl (cI, 24, .inl (zA P1))), (m6, .inl (cI, 384, .inl (zA G1))), (m7, .inl (cI, 16, .inl (zA b1)))]) (zr_V [4, 5] C (As := []) (rest := [.int (zI (zUs c1 16))]) (c_X5_pagesSet l D cI cS cJ q5 m0 m1 m2 m3 m4 m5 m6 m7 m8 m9 th sm ty pg rw un pm sp wr ha c1 hc) (cwV 0 C.1.2.2.2.2 gX5_counted_X5_pagesSet rfl rfl rfl (by decide +kernel) ⟨Nat.le_of_ble_eq_true rfl, Nat.le_of_ble_eq_true rfl⟩) rfl (by decide) 0 rfl rfl rfl rfl (Nat.le_of_ble_eq_true rfl) dX5_counted_65 ⟨Nat.le_of_ble_eq_true rfl, Nat.le_of_ble_eq_true rfl⟩) rfl rfl (by decide) (by decide) rfl (fun r_5 w_ hp_6 => ?_)
    obtain ⟨r1_7, fps, f_8, rfl, rfl⟩ := hp_6
    refine zj_ws (ws' := [(m0, .inl (cI, 74, .inl (zA Z1))), (m3, .inl (cI, 24, .inl (zA P1))), (m6, .inl (cI, 384, .inl (zA G1))), (m7, .inl (cI, 16, .inl (zA b1))), (q5, .inr (5, [.int (zI th), .ref m0, .ref m1, .int (zI sm), .ref m2, .int (zI ty), .ref m3, .ref m4, .ref m5, .ref m6, .ref m7, .ref m8, .int (zI pg), .int (zI rw), .int (zI un), .ref m9, .int (zI pm), .int (zI sp), .int (zI wr), .long ha])), (m8, .inl (cI, 16, .inl (zA c1)))]) rfl ?_
    refine zj_isub 69 C dX5_counted_68 rfl ?_
    refine zj_re [4, 0, 1, 2, 3, 5] [(q5, .inr (5, [.int (zI th), .ref m0, .ref m1, .int (zI sm), .ref m2, .int (zI ty), .ref m3, .ref m4, .ref m5, .ref m6, .ref m7, .ref m8, .int (zI pg), .int (zI rw), .int (zI un), .ref m9, .int (zI pm), .int (zI sp), .int (zI wr), .long ha])), (m0, .inl (cI, 74, .inl (zA Z1))), (m3, .inl (cI, 24, .inl (zA P1))), (m6, .inl (cI, 384, .inl (zA G1))), (m7, .inl (cI, 16, .inl (zA b1))), (m8, .inl (cI, 16, .inl (zA c1)))] (by decide) rfl ?_
    refine zj_st (st' := [.int (zI (zCtF x1 (Z1 1) (zUs c1 16) (zPs c1 16) (zLo P1 (Z1 1).toNat) (zMx b1 16) (zEu c1 G1 16) (zUn b1 (zUs c1 16) 8) (Z1 0) sm))]) (by rw [show zCtF x1 (Z1 1) (zUs c1 16) (zPs c1 16) (zLo P1 (Z1 1).toNat) (zMx b1 16) (zEu c1 G1 16) (zUn b1 (zUs c1 16) 8) (Z1 0) sm = (zUs c1 16) - r1_7 from by unfold zCtF; rw [if_neg (by omega), if_neg (by omega), if_pos hx1]; omega]) ?_
    subst hQ
    exact zj_ireturn C hr ⟨rfl, rfl⟩ (by decide) (by decide) dX5_counted_69
  by_cases hx1 : x1 = 3
  · refine zj_tabIn (a := x1) (off := 69) 70 C (by omega) dX5_counted_1 (by omega) (by omega) (by rw [hx1]; rfl) (by decide) ?_
    refine zj_aload_n 71 0 C dX5_counted_70 rfl rfl rfl ?_
    refine zj_ci 74 [0, 1, 2] [3, 4, 5] C (wr := [(m6, .inl (cI, 384, .inl (zA G1))), (m7, .inl (cI, 16, .inl (zA b1))), (m8, .inl (cI, 16, .inl (zA c1)))]) (zr_V [0, 1, 2] C (As := []) (rest := []) (c_X5_leftOut l D cI cS cJ q5 m0 m1 m2 m3 m4 m5 m6 m7 m8 m9 th sm ty pg rw un pm sp wr ha Z1 P1 (by omega) hP) (cwV 0 C.1.2.2.2.2 gX5_counted_X5_leftOut rfl rfl rfl (by decide +kernel) ⟨Nat.le_of_ble_eq_true rfl, Nat.le_of_ble_eq_true rfl⟩) rfl (by decide) 0 rfl rfl rfl rfl (Nat.le_of_ble_eq_true rfl) dX5_counted_71 ⟨Nat.le_of_ble_eq_true rfl, Nat.le_of_ble_eq_true rfl⟩) rfl rfl (by decide) (by decide) rfl (fun r_9 w_ hp_10 => ?_)
    obtain ⟨rfl, rfl⟩ := hp_10
    refine zj_ws (ws' := [(m6, .inl (cI, 384, .inl (zA G1))), (m7, .inl (cI, 16, .inl (zA b1))), (m8, .inl (cI, 16, .inl (zA c1))), (q5, .inr (5, [.int (zI th), .ref m0, .ref m1, .int (zI sm), .ref m2, .int (zI ty), .ref m3, .ref m4, .ref m5, .ref m6, .ref m7, .ref m8, .int (zI pg), .int (zI rw), .int (zI un), .ref m9, .int (zI pm), .int (zI sp), .int (zI wr), .long ha])), (m0, .inl (cI, 74, .inl (zA Z1))), (m3, .inl (cI, 24, .inl (zA P1)))]) rfl ?_
    refine zj_re [3, 4, 5, 0, 1, 2] [(q5, .inr (5, [.int (zI th), .ref m0, .ref m1, .int (zI sm), .ref m2, .int (zI ty), .ref m3, .ref m4, .ref m5, .ref m6, .ref m7, .ref m8, .int (zI pg), .int (zI rw), .int (zI un), .ref m9, .int (zI pm), .int (zI sp), .int (zI wr), .long ha])), (m0, .inl (cI, 74, .inl (zA Z1))), (m3, .inl (cI, 24, .inl (zA P1))), (m6, .inl (cI, 384, .inl (zA G1))), (m7, .inl (cI, 16, .inl (zA b1))), (m8, .inl (cI, 16, .inl (zA c1)))] (by decide) rfl ?_
    refine zj_st (st' := [.int (zI (zCtF x1 (Z1 1) (zUs c1 16) (zPs c1 16) (zLo P1 (Z1 1).toNat) (zMx b1 16) (zEu c1 G1 16) (zUn b1 (zUs c1 16) 8) (Z1 0) sm))]) (by rw [show zCtF x1 (Z1 1) (zUs c1 16) (zPs c1 16) (zLo P1 (Z1 1).toNat) (zMx b1 16) (zEu c1 G1 16) (zUn b1 (zUs c1 16) 8) (Z1 0) sm = zLo P1 (Z1 1).toNat from by unfold zCtF; rw [if_neg (by omega), if_neg (by omega), if_neg (by omega), if_pos hx1]]) ?_
    subst hQ
    exact zj_ireturn C hr ⟨rfl, rfl⟩ (by decide) (by decide) dX5_counted_74
  by_cases hx1 : x1 = 4
  · refine zj_tabIn (a := x1) (off := 74) 75 C (by omega) dX5_counted_1 (by omega) (by omega) (by rw [hx1]; rfl) (by decide) ?_
    refine zj_aload_n 76 0 C dX5_counted_75 rfl rfl rfl ?_
    refine zj_ci 79 [0, 4] [1, 2, 3, 5] C (wr := [(m0, .inl (cI, 74, .inl (zA Z1))), (m3, .inl (cI, 24, .inl (zA P1))), (m6, .inl (cI, 384, .inl (zA G1))), (m8, .inl (cI, 16, .inl (zA c1)))]) (zr_V [0, 4] C (As := []) (rest := []) (c_X5_mostBeats l D cI cS cJ q5 m0 m1 m2 m3 m4 m5 m6 m7 m8 m9 th sm ty pg rw un pm sp wr ha b1 hb) (cwV 0 C.1.2.2.2.2 gX5_counted_X5_mostBeats rfl rfl rfl (by decide +kernel) ⟨Nat.le_of_ble_eq_true rfl, Nat.le_of_ble_eq_true rfl⟩) rfl (by decide) 0 rfl rfl rfl rfl (Nat.le_of_ble_eq_true rfl) dX5_counted_76 ⟨Nat.le_of_ble_eq_true rfl, Nat.le_of_ble_eq_true rfl⟩) rfl rfl (by decide) (by decide) rfl (fun r_11 w_ hp_12 => ?_)
    obtain ⟨rfl, rfl⟩ := hp_12
    refine zj_ws (ws' := [(m0, .inl (cI, 74, .inl (zA Z1))), (m3, .inl (cI, 24, .inl (zA P1))), (m6, .inl (cI, 384, .inl (zA G1))), (m8, .inl (cI, 16, .inl (zA c1))), (q5, .inr (5, [.int (zI th), .ref m0, .ref m1, .int (zI sm), .ref m2, .int (zI ty), .ref m3, .ref m4, .ref m5, .ref m6, .ref m7, .ref m8, .int (zI pg), .int (zI rw), .int (zI un), .ref m9, .int (zI pm), .int (zI sp), .int (zI wr), .long ha])), (m7, .inl (cI, 16, .inl (zA b1)))]) rfl ?_
    refine zj_re [4, 0, 1, 2, 5, 3] [(q5, .inr (5, [.int (zI th), .ref m0, .ref m1, .int (zI sm), .ref m2, .int (zI ty), .ref m3, .ref m4, .ref m5, .ref m6, .ref m7, .ref m8, .int (zI pg), .int (zI rw), .int (zI un), .ref m9, .int (zI pm), .int (zI sp), .int (zI wr), .long ha])), (m0, .inl (cI, 74, .inl (zA Z1))), (m3, .inl (cI, 24, .inl (zA P1))), (m6, .inl (cI, 384, .inl (zA G1))), (m7, .inl (cI, 16, .inl (zA b1))), (m8, .inl (cI, 16, .inl (zA c1)))] (by decide) rfl ?_
    refine zj_st (st' := [.int (zI (zCtF x1 (Z1 1) (zUs c1 16) (zPs c1 16) (zLo P1 (Z1 1).toNat) (zMx b1 16) (zEu c1 G1 16) (zUn b1 (zUs c1 16) 8) (Z1 0) sm))]) (by rw [show zCtF x1 (Z1 1) (zUs c1 16) (zPs c1 16) (zLo P1 (Z1 1).toNat) (zMx b1 16) (zEu c1 G1 16) (zUn b1 (zUs c1 16) 8) (Z1 0) sm = zMx b1 16 from by unfold zCtF; rw [if_neg (by omega), if_neg (by omega), if_neg (by omega), if_neg (by omega), if_pos hx1]]) ?_
    subst hQ
    exact zj_ireturn C hr ⟨rfl, rfl⟩ (by decide) (by decide) dX5_counted_79
  by_cases hx1 : x1 = 5
  · refine zj_tabIn (a := x1) (off := 79) 80 C (by omega) dX5_counted_1 (by omega) (by omega) (by rw [hx1]; rfl) (by decide) ?_
    refine zj_aload_n 81 0 C dX5_counted_80 rfl rfl rfl ?_
    refine zj_ci 84 [0, 3, 5] [1, 2, 4] C (wr := [(m0, .inl (cI, 74, .inl (zA Z1))), (m3, .inl (cI, 24, .inl (zA P1))), (m7, .inl (cI, 16, .inl (zA b1)))]) (zr_V [0, 3, 5] C (As := []) (rest := []) (c_X5_emptyUnits l D cI cS cJ q5 m0 m1 m2 m3 m4 m5 m6 m7 m8 m9 th sm ty pg rw un pm sp wr ha G1 c1 (fun x h1 h2 => by have := hG x h1 h2; omega) hc) (cwV 0 C.1.2.2.2.2 gX5_counted_X5_emptyUnits rfl rfl rfl (by decide +kernel) ⟨Nat.le_of_ble_eq_true rfl, Nat.le_of_ble_eq_true rfl⟩) rfl (by decide) 0 rfl rfl rfl rfl (Nat.le_of_ble_eq_true rfl) dX5_counted_81 ⟨Nat.le_of_ble_eq_true rfl, Nat.le_of_ble_eq_true rfl⟩) rfl rfl (by decide) (by decide) rfl (fun r_13 w_ hp_14 => ?_)
    obtain ⟨r1_15, feu, f_16, rfl, rfl⟩ := hp_14
    refine zj_ws (ws' := [(m0, .inl (cI, 74, .inl (zA Z1))), (m3, .inl (cI, 24, .inl (zA P1))), (m7, .inl (cI, 16, .inl (zA b1))), (q5, .inr (5, [.int (zI th), .ref m0, .ref m1, .int (zI sm), .ref m2, .int (zI ty), .ref m3, .ref m4, .ref m5, .ref m6, .ref m7, .ref m8, .int (zI pg), .int (zI rw), .int (zI un), .ref m9, .int (zI pm), .int (zI sp), .int (zI wr), .long ha])), (m6, .inl (cI, 384, .inl (zA G1))), (m8, .inl (cI, 16, .inl (zA c1)))]) rfl ?_
    refine zj_re [3, 0, 1, 4, 2, 5] [(q5, .inr (5, [.int (zI th), .ref m0, .ref m1, .int (zI sm), .ref m2, .int (zI ty), .ref m3, .ref m4, .ref m5, .ref m6, .ref m7, .ref m8, .int (zI pg), .int (zI rw), .int (zI un), .ref m9, .int (zI pm), .int (zI sp), .int (zI wr), .long ha])), (m0, .inl (cI, 74, .inl (zA Z1))), (m3, .inl (cI, 24, .inl (zA P1))), (m6, .inl (cI, 384, .inl (zA G1))), (m7, .inl (cI, 16, .inl (zA b1))), (m8, .inl (cI, 16, .inl (zA c1)))] (by decide) rfl ?_
    refine zj_st (st' := [.int (zI (zCtF x1 (Z1 1) (zUs c1 16) (zPs c1 16) (zLo P1 (Z1 1).toNat) (zMx b1 16) (zEu c1 G1 16) (zUn b1 (zUs c1 16) 8) (Z1 0) sm))]) (by rw [show zCtF x1 (Z1 1) (zUs c1 16) (zPs c1 16) (zLo P1 (Z1 1).toNat) (zMx b1 16) (zEu c1 G1 16) (zUn b1 (zUs c1 16) 8) (Z1 0) sm = r1_15 from by unfold zCtF; rw [if_neg (by omega), if_neg (by omega), if_neg (by omega), if_neg (by omega), if_neg (by omega), if_pos hx1]; omega]) ?_
    subst hQ
    exact zj_ireturn C hr ⟨rfl, rfl⟩ (by decide) (by decide) dX5_counted_84
  by_cases hx1 : x1 = 6
  · refine zj_tabIn (a := x1) (off := 84) 85 C (by omega) dX5_counted_1 (by omega) (by omega) (by rw [hx1]; rfl) (by decide) ?_
    refine zj_aload_n 86 0 C dX5_counted_85 rfl rfl rfl ?_
    refine zj_ci 89 [0, 4, 5] [1, 2, 3] C (wr := [(m0, .inl (cI, 74, .inl (zA Z1))), (m3, .inl (cI, 24, .inl (zA P1))), (m6, .inl (cI, 384, .inl (zA G1)))]) (zr_V [0, 4, 5] C (As := []) (rest := []) (c_X5_unlike l D cI cS cJ q5 m0 m1 m2 m3 m4 m5 m6 m7 m8 m9 th sm ty pg rw un pm sp wr ha b1 c1 hb hc (by omega)) (cwV 0 C.1.2.2.2.2 gX5_counted_X5_unlike rfl rfl rfl (by decide +kernel) ⟨Nat.le_of_ble_eq_true rfl, Nat.le_of_ble_eq_true rfl⟩) rfl (by decide) 0 rfl rfl rfl rfl (Nat.le_of_ble_eq_true rfl) dX5_counted_86 ⟨Nat.le_of_ble_eq_true rfl, Nat.le_of_ble_eq_true rfl⟩) rfl rfl (by decide) (by decide) rfl (fun r_17 w_ hp_18 => ?_)
    obtain ⟨rfl, rfl⟩ := hp_18
    refine zj_ws (ws' := [(m0, .inl (cI, 74, .inl (zA Z1))), (m3, .inl (cI, 24, .inl (zA P1))), (m6, .inl (cI, 384, .inl (zA G1))), (q5, .inr (5, [.int (zI th), .ref m0, .ref m1, .int (zI sm), .ref m2, .int (zI ty), .ref m3, .ref m4, .ref m5, .ref m6, .ref m7, .ref m8, .int (zI pg), .int (zI rw), .int (zI un), .ref m9, .int (zI pm), .int (zI sp), .int (zI wr), .long ha])), (m7, .inl (cI, 16, .inl (zA b1))), (m8, .inl (cI, 16, .inl (zA c1)))]) rfl ?_
    refine zj_re [3, 0, 1, 2, 4, 5] [(q5, .inr (5, [.int (zI th), .ref m0, .ref m1, .int (zI sm), .ref m2, .int (zI ty), .ref m3, .ref m4, .ref m5, .ref m6, .ref m7, .ref m8, .int (zI pg), .int (zI rw), .int (zI un), .ref m9, .int (zI pm), .int (zI sp), .int (zI wr), .long ha])), (m0, .inl (cI, 74, .inl (zA Z1))), (m3, .inl (cI, 24, .inl (zA P1))), (m6, .inl (cI, 384, .inl (zA G1))), (m7, .inl (cI, 16, .inl (zA b1))), (m8, .inl (cI, 16, .inl (zA c1)))] (by decide) rfl ?_
    refine zj_st (st' := [.int (zI (zCtF x1 (Z1 1) (zUs c1 16) (zPs c1 16) (zLo P1 (Z1 1).toNat) (zMx b1 16) (zEu c1 G1 16) (zUn b1 (zUs c1 16) 8) (Z1 0) sm))]) (by rw [show zCtF x1 (Z1 1) (zUs c1 16) (zPs c1 16) (zLo P1 (Z1 1).toNat) (zMx b1 16) (zEu c1 G1 16) (zUn b1 (zUs c1 16) 8) (Z1 0) sm = zUn b1 (zUs c1 16) 8 from by unfold zCtF; rw [if_neg (by omega), if_neg (by omega), if_neg (by omega), if_neg (by omega), if_neg (by omega), if_neg (by omega), if_pos hx1]]) ?_
    subst hQ
    exact zj_ireturn C hr ⟨rfl, rfl⟩ (by decide) (by decide) dX5_counted_89
  by_cases hx1 : x1 = 7
  · refine zj_tabIn (a := x1) (off := 89) 90 C (by omega) dX5_counted_1 (by omega) (by omega) (by rw [hx1]; rfl) (by decide) ?_
    refine zj_aload_n 91 0 C dX5_counted_90 rfl rfl rfl ?_
    refine zj_get 94 0 1 C (T := TX5) im_X5_counted_5 fl_X5_counted_7 rfl rfl (by decide) rfl rfl dX5_counted_91 rfl ?_
    refine zj_iconst 95 C dX5_counted_94 rfl ?_
    refine zj_iald 96 1 C (by omega) (by omega) rfl rfl dX5_counted_95 rfl ?_
    refine zj_st (st' := [.int (zI (zCtF x1 (Z1 1) (zUs c1 16) (zPs c1 16) (zLo P1 (Z1 1).toNat) (zMx b1 16) (zEu c1 G1 16) (zUn b1 (zUs c1 16) 8) (Z1 0) sm))]) (by rw [show zCtF x1 (Z1 1) (zUs c1 16) (zPs c1 16) (zLo P1 (Z1 1).toNat) (zMx b1 16) (zEu c1 G1 16) (zUn b1 (zUs c1 16) 8) (Z1 0) sm = Z1 0 from by unfold zCtF; rw [if_neg (by omega), if_neg (by omega), if_neg (by omega), if_neg (by omega), if_neg (by omega), if_neg (by omega), if_neg (by omega), if_pos hx1]]) ?_
    subst hQ
    exact zj_ireturn C hr ⟨rfl, rfl⟩ (by decide) (by decide) dX5_counted_96
  refine zj_tabOut (a := x1) 97 C (by omega) dX5_counted_1 (by omega) (by decide) ?_
  refine zj_aload_n 98 0 C dX5_counted_97 rfl rfl rfl ?_
  refine zj_get 101 0 3 C (T := TX5) im_X5_counted_5 fl_X5_counted_44 rfl rfl (by decide) rfl rfl dX5_counted_98 rfl ?_
  refine zj_st (st' := [.int (zI (zCtF x1 (Z1 1) (zUs c1 16) (zPs c1 16) (zLo P1 (Z1 1).toNat) (zMx b1 16) (zEu c1 G1 16) (zUn b1 (zUs c1 16) 8) (Z1 0) sm))]) (by rw [show zCtF x1 (Z1 1) (zUs c1 16) (zPs c1 16) (zLo P1 (Z1 1).toNat) (zMx b1 16) (zEu c1 G1 16) (zUn b1 (zUs c1 16) 8) (Z1 0) sm = sm from by unfold zCtF; rw [if_neg (by omega), if_neg (by omega), if_neg (by omega), if_neg (by omega), if_neg (by omega), if_neg (by omega), if_neg (by omega), if_neg (by omega)]]) ?_
  subst hQ
  exact zj_ireturn C hr ⟨rfl, rfl⟩ (by decide) (by decide) dX5_counted_101
