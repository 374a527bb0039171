/-- f with v put in at p -/
def zIns (f : Int → Int) (p v : Int) : Int → Int := fun x => if x < p then f x else if x = p then v else f (x - 1)
/-- f with the place p taken out -/
def zDel (f : Int → Int) (p : Int) : Int → Int := fun x => if x < p then f x else if x < 23 then f (x + 1) else f x

abbrev rm_X4_isWithin : Room := { frames := 0, cells := 0, slots := 0, locals := 0 }
set_option maxRecDepth 100000 in
set_option maxHeartbeats 4000000 in
theorem c_X4_isWithin (l : Launch) (D : va_G) (cI cS cJ : ClassId) (v : Int) (lo : Int) (hi : Int) (hv : -2147483648 ≤ v ∧ v < 2147483648) (hlo : -2147483648 ≤ lo ∧ lo < 2147483648) (hhi : -2147483648 ≤ hi ∧ hi < 2147483648) : zMi l yX4_isWithin wsX4_isWithin rm_X4_isWithin D (zTy cI cS cJ) [.int (zI v), .int (zI lo), .int (zI hi)] [] (fun r w => ∃ (r1 : Int), ((r1 = 1 ∧ lo ≤ v ∧ v ≤ hi) ∨ (r1 = 0 ∧ (v < lo ∨ hi < v))) ∧ r = zI r1 ∧ w = []) 0 0 := by
  intro sz
  refine zMet_of (Qc := fun A => va_Qi _ (zB D (zTy cI cS cJ) A) A) RX4 [(0, .int (zI v)), (1, .int (zI lo)), (2, .int (zI hi))] rfl (by decide +kernel) rfl (Nat.le_of_ble_eq_true rfl) rfl ?_ sz
  intro p e s m args below meth c A Q hQ C hr hini
  refine zj_iload_n 1 0 C dX4_isWithin_0 rfl rfl rfl ?_
  refine zj_iload_n 2 1 C dX4_isWithin_1 rfl rfl rfl ?_
  refine zj_icmp_lt 5 14 C (by omega) (by omega) dX4_isWithin_2 rfl (by decide) (fun h_1 => ?_) (fun h_1 => ?_)
  · skip
    refine zj_iconst 15 C dX4_isWithin_14 rfl ?_
    subst hQ
    exact zj_zret C (zI_bool (by omega)) hr ⟨0, (by omega), rfl, rfl⟩ (by decide) (by decide) dX4_isWithin_15
  · skip
    refine zj_iload_n 6 0 C dX4_isWithin_5 rfl rfl rfl ?_
    refine zj_iload_n 7 2 C dX4_isWithin_6 rfl rfl rfl ?_
    refine zj_icmp_gt 10 14 C (by omega) (by omega) dX4_isWithin_7 rfl (by decide) (fun h_2 => ?_) (fun h_2 => ?_)
    · skip
      refine zj_iconst 15 C dX4_isWithin_14 rfl ?_
      subst hQ
      exact zj_zret C (zI_bool (by omega)) hr ⟨0, (by omega), rfl, rfl⟩ (by decide) (by decide) dX4_isWithin_15
    · skip
      refine zj_iconst 11 C dX4_isWithin_10 rfl ?_
      refine zj_goto 15 C dX4_isWithin_11 (by decide) ?_
      subst hQ
      exact zj_zret C (zI_bool (by omega)) hr ⟨1, (by omega), rfl, rfl⟩ (by decide) (by decide) dX4_isWithin_15

abbrev rm_X4_isPanelSize : Room := { frames := 1, cells := 0, slots := 0, locals := 22 }
set_option maxRecDepth 100000 in
set_option maxHeartbeats 4000000 in
theorem c_X4_isPanelSize (l : Launch) (D : va_G) (cI cS cJ : ClassId) (w1 : Int) (t1 : Int) (hw1 : -2147483648 ≤ w1 ∧ w1 < 2147483648) (ht1 : -2147483648 ≤ t1 ∧ t1 < 2147483648) : zMi l yX4_isPanelSize wsX4_isPanelSize rm_X4_isPanelSize D (zTy cI cS cJ) [.int (zI w1), .int (zI t1)] [] (fun r w => ∃ (r1 : Int), ((r1 = 1 ∧ 1 ≤ w1 ∧ w1 ≤ 6 ∧ 1 ≤ t1 ∧ t1 ≤ 9) ∨ (r1 = 0 ∧ (w1 < 1 ∨ 6 < w1 ∨ t1 < 1 ∨ 9 < t1))) ∧ r = zI r1 ∧ w = []) 0 0 := by
  intro sz
  refine zMet_of (Qc := fun A => va_Qi _ (zB D (zTy cI cS cJ) A) A) RX4 [(0, .int (zI w1)), (1, .int (zI t1))] rfl (by decide +kernel) rfl (Nat.le_of_ble_eq_true rfl) rfl ?_ sz
  intro p e s m args below meth c A Q hQ C hr hini
  refine zj_iload_n 1 0 C dX4_isPanelSize_0 rfl rfl rfl ?_
  refine zj_iconst 2 C dX4_isPanelSize_1 rfl ?_
  refine zj_bipush 4 C dX4_isPanelSize_2 rfl rfl ?_
  refine zj_ci 7 [] [] C (wr := []) (zr_S [] C (As := [.int (zI w1), .int (zI 1), .int (zI 6)]) (rest := []) (c_X4_isWithin l D cI cS cJ w1 1 6 (by omega) (by omega) (by omega)) (va_cwS 3 C.1.2.2.2.2 gX4_isPanelSize_X4_isWithin rfl rfl rfl (by decide +kernel) ⟨Nat.le_of_ble_eq_true rfl, Nat.le_of_ble_eq_true rfl⟩) rfl (by decide) rfl rfl (Nat.le_of_ble_eq_true rfl) dX4_isPanelSize_4 ⟨Nat.le_of_ble_eq_true rfl, Nat.le_of_ble_eq_true rfl⟩) rfl rfl (by decide) (by decide) rfl (fun r_1 w_ hp_2 => ?_)
  obtain ⟨r1_3, f_4, rfl, rfl⟩ := hp_2
  refine zj_ws (ws' := []) rfl ?_
  refine zj_if_eq 10 24 C (by omega) dX4_isPanelSize_7 rfl (by decide) (fun h_5 => ?_) (fun h_5 => ?_)
  · skip
    refine zj_iconst 25 C dX4_isPanelSize_24 rfl ?_
    subst hQ
    exact zj_zret C (zI_bool (by omega)) hr ⟨0, (by omega), rfl, rfl⟩ (by decide) (by decide) dX4_isPanelSize_25
  · skip
    refine zj_iload_n 11 1 C dX4_isPanelSize_10 rfl rfl rfl ?_
    refine zj_iconst 12 C dX4_isPanelSize_11 rfl ?_
    refine zj_bipush 14 C dX4_isPanelSize_12 rfl rfl ?_
    refine zj_ci 17 [] [] C (wr := []) (zr_S [] C (As := [.int (zI t1), .int (zI 1), .int (zI 9)]) (rest := []) (c_X4_isWithin l D cI cS cJ t1 1 9 (by omega) (by omega) (by omega)) (va_cwS 3 C.1.2.2.2.2 gX4_isPanelSize_X4_isWithin rfl rfl rfl (by decide +kernel) ⟨Nat.le_of_ble_eq_true rfl, Nat.le_of_ble_eq_true rfl⟩) rfl (by decide) rfl rfl (Nat.le_of_ble_eq_true rfl) dX4_isPanelSize_14 ⟨Nat.le_of_ble_eq_true rfl, Nat.le_of_ble_eq_true rfl⟩) rfl rfl (by decide) (by decide) rfl (fun r_6 w_ hp_7 => ?_)
    obtain ⟨r1_8, f_9, rfl, rfl⟩ := hp_7
    refine zj_ws (ws' := []) rfl ?_
    refine zj_if_eq 20 24 C (by omega) dX4_isPanelSize_17 rfl (by decide) (fun h_10 => ?_) (fun h_10 => ?_)
    · skip
      refine zj_iconst 25 C dX4_isPanelSize_24 rfl ?_
      subst hQ
      exact zj_zret C (zI_bool (by omega)) hr ⟨0, (by omega), rfl, rfl⟩ (by decide) (by decide) dX4_isPanelSize_25
    · skip
      refine zj_iconst 21 C dX4_isPanelSize_20 rfl ?_
      refine zj_goto 25 C dX4_isPanelSize_21 (by decide) ?_
      subst hQ
      exact zj_zret C (zI_bool (by omega)) hr ⟨1, (by omega), rfl, rfl⟩ (by decide) (by decide) dX4_isPanelSize_25

abbrev rm_X4_read : Room := { frames := 0, cells := 0, slots := 0, locals := 0 }
set_option maxRecDepth 100000 in
set_option maxHeartbeats 4000000 in
theorem c_X4_read (l : Launch) (D : va_G) (cI cS cJ : ClassId) (a1 : Nat) (nn : Nat) (f1 : Int → Int) (i1 : Int) (hn : nn ≤ 1000) (hi1 : 0 ≤ i1 ∧ i1 < (nn : Int)) : zMi l yX4_read wsX4_read rm_X4_read D (zTy cI cS cJ) [.ref a1, .int (zI i1)] [(a1, .inl (cI, nn, .inl (zA f1)))] (fun r w => r = zI (f1 i1) ∧ w = [(a1, .inl (cI, nn, .inl (zA f1)))]) 0 0 := by
  intro sz
  refine zMet_of (Qc := fun A => va_Qi _ (zB D (zTy cI cS cJ) A) A) RX4 [(0, .ref a1), (1, .int (zI i1))] rfl (by decide +kernel) rfl (Nat.le_of_ble_eq_true rfl) rfl ?_ sz
  intro p e s m args below meth c A Q hQ C hr hini
  refine zj_iload_n 1 1 C dX4_read_0 rfl rfl rfl ?_
  refine zj_if_lt 4 16 C (by omega) dX4_read_1 rfl (by decide) (fun h_1 => ?_) (fun h_1 => ?_)
  · exact absurd h_1 (by omega)
  · skip
    refine zj_iload_n 5 1 C dX4_read_4 rfl rfl rfl ?_
    refine zj_aload_n 6 0 C dX4_read_5 rfl rfl rfl ?_
    refine zj_alen 7 0 0 (nn : Int) C rfl rfl rfl dX4_read_6 rfl ?_
    refine zj_icmp_ge 10 16 C (by omega) (by omega) dX4_read_7 rfl (by decide) (fun h_2 => ?_) (fun h_2 => ?_)
    · exact absurd h_2 (by omega)
    · skip
      refine zj_aload_n 11 0 C dX4_read_10 rfl rfl rfl ?_
      refine zj_iload_n 12 1 C dX4_read_11 rfl rfl rfl ?_
      refine zj_iald 13 0 C (by omega) (by omega) rfl rfl dX4_read_12 rfl ?_
      refine zj_goto 17 C dX4_read_13 (by decide) ?_
      subst hQ
      exact zj_ireturn C hr ⟨rfl, rfl⟩ (by decide) (by decide) dX4_read_17

abbrev rm_X4_write : Room := { frames := 0, cells := 0, slots := 0, locals := 0 }
set_option maxRecDepth 100000 in
set_option maxHeartbeats 4000000 in
theorem c_X4_write (l : Launch) (D : va_G) (cI cS cJ : ClassId) (a1 : Nat) (nn : Nat) (f1 : Int → Int) (i1 : Int) (v1 : Int) (hn : nn ≤ 1000) (hi1 : 0 ≤ i1 ∧ i1 < (nn : Int)) : zMv l yX4_write wsX4_write rm_X4_write D (zTy cI cS cJ) [.ref a1, .int (zI i1), .int (zI v1)] [(a1, .inl (cI, nn, .inl (zA f1)))] (fun w => w = [(a1, .inl (cI, nn, .inl (zA (zU f1 i1 v1))))]) 0 0 := by
  intro sz
  refine zMet_of (Qc := fun A => va_Qv _ (zB D (zTy cI cS cJ) A) A) RX4 [(0, .ref a1), (1, .int (zI i1)), (2, .int (zI v1))] rfl (by decide +kernel) rfl (Nat.le_of_ble_eq_true rfl) rfl ?_ sz
  intro p e s m args below meth c A Q hQ C hr hini
  refine zj_iload_n 1 1 C dX4_write_0 rfl rfl rfl ?_
  refine zj_if_lt 4 14 C (by omega) dX4_write_1 rfl (by decide) (fun h_1 => ?_) (fun h_1 => ?_)
  · exact absurd h_1 (by omega)
  · skip
    refine zj_iload_n 5 1 C dX4_write_4 rfl rfl rfl ?_
    refine zj_aload_n 6 0 C dX4_write_5 rfl rfl rfl ?_
    refine zj_alen 7 0 0 (nn : Int) C rfl rfl rfl dX4_write_6 rfl ?_
    refine zj_icmp_ge 10 14 C (by omega) (by omega) dX4_write_7 rfl (by decide) (fun h_2 => ?_) (fun h_2 => ?_)
    · exact absurd h_2 (by omega)
    · skip
      refine zj_aload_n 11 0 C dX4_write_10 rfl rfl rfl ?_
      refine zj_iload_n 12 1 C dX4_write_11 rfl rfl rfl ?_
      refine zj_iload_n 13 2 C dX4_write_12 rfl rfl rfl ?_
      refine zj_iast 14 0 [(a1, .inl (cI, nn, .inl (zA (zU f1 i1 v1))))] C (by omega) (by omega) rfl rfl rfl dX4_write_13 rfl ?_
      subst hQ
      exact zj_return C hr rfl (by decide) (by decide) dX4_write_14

theorem fl_X2_has_21 : Cond.fieldLink RX2 21 "SplashPages$Story" "size" "I" ∈ wsX2_has := by decide +kernel
theorem im_X2_has_2 : ∀ w ∈ u_ws RX2 TX2 5, w ∈ wsX2_has := by decide +kernel
abbrev rm_X2_has : Room := { frames := 0, cells := 0, slots := 0, locals := 0 }
set_option maxRecDepth 100000 in
set_option maxHeartbeats 4000000 in
theorem c_X2_has (l : Launch) (D : va_G) (cI cS cJ : ClassId) (q1 : Nat) (b1 : Nat) (b2 : Nat) (b3 : Nat) (n1 : Int) (s1 : Int) (i1 : Int) (hn1 : 0 ≤ n1 ∧ n1 ≤ 24) (hi1 : -2147483648 ≤ i1 ∧ i1 < 2147483648) : zMi l yX2_has wsX2_has rm_X2_has D (zTy cI cS cJ) [.ref q1, .int (zI i1)] [(q1, .inr (2, [.ref b1, .ref b2, .ref b3, .int (zI n1), .int (zI s1)]))] (fun r w => ∃ (r1 : Int), ((r1 = 1 ∧ 0 ≤ i1 ∧ i1 < n1) ∨ (r1 = 0 ∧ (i1 < 0 ∨ n1 ≤ i1))) ∧ r = zI r1 ∧ w = [(q1, .inr (2, [.ref b1, .ref b2, .ref b3, .int (zI n1), .int (zI s1)]))]) 0 0 := by
  intro sz
  refine zMet_of (Qc := fun A => va_Qi _ (zB D (zTy cI cS cJ) A) A) RX2 [(0, .ref q1), (1, .int (zI i1))] rfl (by decide +kernel) rfl (Nat.le_of_ble_eq_true rfl) rfl ?_ sz
  intro p e s m args below meth c A Q hQ C hr hini
  refine zj_iload_n 1 1 C dX2_has_0 rfl rfl rfl ?_
  refine zj_if_lt 4 16 C (by omega) dX2_has_1 rfl (by decide) (fun h_1 => ?_) (fun h_1 => ?_)
  · skip
    refine zj_iconst 17 C dX2_has_16 rfl ?_
    subst hQ
    exact zj_zret C (zI_bool (by omega)) hr ⟨0, (by omega), rfl, rfl⟩ (by decide) (by decide) dX2_has_17
  · skip
    refine zj_iload_n 5 1 C dX2_has_4 rfl rfl rfl ?_
    refine zj_aload_n 6 0 C dX2_has_5 rfl rfl rfl ?_
    refine zj_get 9 0 3 C (T := TX2) im_X2_has_2 fl_X2_has_21 rfl rfl (by decide) rfl rfl dX2_has_6 rfl ?_
    refine zj_icmp_ge 12 16 C (by omega) (by omega) dX2_has_9 rfl (by decide) (fun h_2 => ?_) (fun h_2 => ?_)
    · skip
      refine zj_iconst 17 C dX2_has_16 rfl ?_
      subst hQ
      exact zj_zret C (zI_bool (by omega)) hr ⟨0, (by omega), rfl, rfl⟩ (by decide) (by decide) dX2_has_17
    · skip
      refine zj_iconst 13 C dX2_has_12 rfl ?_
      refine zj_goto 17 C dX2_has_13 (by decide) ?_
      subst hQ
      exact zj_zret C (zI_bool (by omega)) hr ⟨1, (by omega), rfl, rfl⟩ (by decide) (by decide) dX2_has_17

theorem wn_X2_openGap_RX4 : Cond.initialized RX4 ∈ wsX2_openGap := by decide +kernel
theorem nm_RX2_49 : Cond.methodLinkNest RX2 49 yX4_write "SplashPages" ∈ zNW := by decide +kernel
theorem wst_X2_openGap_X4_write : Cond.static yX4_write ∈ wsX2_openGap := by decide +kernel
abbrev rm_X2_openGap : Room := { frames := 1, cells := 0, slots := 0, locals := 22 }
set_option maxRecDepth 100000 in
set_option maxHeartbeats 4000000 in
theorem c_X2_openGap (l : Launch) (D : va_G) (cI cS cJ : ClassId) (a1 : Nat) (f1 : Int → Int) (p1 : Int) (v1 : Int) (hp1 : 0 ≤ p1 ∧ p1 < 24) : zMv l yX2_openGap wsX2_openGap rm_X2_openGap D (zTy cI cS cJ) [.ref a1, .int (zI p1), .int (zI v1)] [(a1, .inl (cI, 24, .inl (zA f1)))] (fun w => w = [(a1, .inl (cI, 24, .inl (zA (zIns f1 p1 v1))))]) 0 0 := by
  intro sz
  refine zMet_of (Qc := fun A => va_Qv _ (zB D (zTy cI cS cJ) A) A) RX2 [(0, .ref a1), (1, .int (zI p1)), (2, .int (zI v1))] rfl (by decide +kernel) rfl (Nat.le_of_ble_eq_true rfl) rfl ?_ sz
  intro p e s m args below meth c A Q hQ C hr hini
  refine zj_aload_n 1 0 C dX2_openGap_0 rfl rfl rfl ?_
  refine zj_alen 2 0 0 24 C rfl rfl rfl dX2_openGap_1 rfl ?_
  refine zj_iconst 3 C dX2_openGap_2 rfl ?_
  refine zj_isub 4 C dX2_openGap_3 rfl ?_
  refine zj_istore_n 5 [(3, .int (zI (24 - 1))), (0, .ref a1), (1, .int (zI p1)), (2, .int (zI v1))] C dX2_openGap_4 rfl rfl (by decide) rfl ?_
  have hL5 : ∀ (N : Nat) (i : Int) (g : Int → Int), (p1 ≤ i ∧ i ≤ 23) → (∀ x, (x ≤ i → g x = f1 x) ∧ (i < x → x ≤ 23 → g x = f1 (x - 1))) → (i < N) → zJ p l e rm_X2_openGap s m args below meth c Q D A 4 [(a1, .inl (cI, 24, .inl (zA g)))] 0 0 [(0, .ref a1), (1, .int (zI p1)), (2, .int (zI v1)), (3, .int (zI i))] 5 [] := by
    intro N
    induction N with
    | zero => intro i g hi hg hN; exact absurd hN (by omega)
    | succ N ih =>
      intro i g hi hg hN
      refine zj_iload_n 6 3 C dX2_openGap_5 rfl rfl rfl ?_
      refine zj_iload_n 7 1 C dX2_openGap_6 rfl rfl rfl ?_
      refine zj_icmp_le 10 28 C (by omega) (by omega) dX2_openGap_7 rfl (by decide) (fun h_1 => ?_) (fun h_1 => ?_)
      · skip
        refine zj_aload_n 29 0 C dX2_openGap_28 rfl rfl rfl ?_
        refine zj_iload_n 30 1 C dX2_openGap_29 rfl rfl rfl ?_
        refine zj_iload_n 31 2 C dX2_openGap_30 rfl rfl rfl ?_
        refine zj_cv 34 [0] [] C (wr := []) (zr_SN [0] C (As := [.ref a1, .int (zI p1), .int (zI v1)]) (rest := []) (c_X4_write l D cI cS cJ a1 24 g p1 v1 (by omega) (by omega)) (⟨va_cnB 3 C.1.2.2.2.2 gX2_openGap_X4_write_n49 rfl rfl rfl (C.2.2.2.2.1 _ nm_RX2_49) (C.1.2.2.2.2 _ wn_X2_openGap_RX4) (by decide +kernel) ⟨Nat.le_of_ble_eq_true rfl, Nat.le_of_ble_eq_true rfl⟩, C.1.2.2.2.2 _ wst_X2_openGap_X4_write, trivial⟩) rfl (by decide) rfl rfl (Nat.le_of_ble_eq_true rfl) dX2_openGap_31 ⟨Nat.le_of_ble_eq_true rfl, Nat.le_of_ble_eq_true rfl⟩) rfl rfl (by decide) (by decide) rfl (fun w_ hp_3 => ?_)
        obtain rfl := hp_3
        refine zj_ws (ws' := [(a1, .inl (cI, 24, .inl (zA (zU g p1 v1))))]) rfl ?_
        refine zj_ext 0 [(a1, .inl (cI, 24, .inl (zA (zIns f1 p1 v1))))] (fun x h0 h1 => by have h := hg x; simp only [zU, zIns]; split <;> split <;> (try split) <;> omega) rfl rfl ?_
        subst hQ
        exact zj_return C hr rfl (by decide) (by decide) dX2_openGap_34
      · skip
        refine zj_iload_n 11 3 C dX2_openGap_10 rfl rfl rfl ?_
        refine zj_if_le 14 28 C (by omega) dX2_openGap_11 rfl (by decide) (fun h_4 => ?_) (fun h_4 => ?_)
        · skip
          refine zj_aload_n 29 0 C dX2_openGap_28 rfl rfl rfl ?_
          refine zj_iload_n 30 1 C dX2_openGap_29 rfl rfl rfl ?_
          refine zj_iload_n 31 2 C dX2_openGap_30 rfl rfl rfl ?_
          refine zj_cv 34 [0] [] C (wr := []) (zr_SN [0] C (As := [.ref a1, .int (zI p1), .int (zI v1)]) (rest := []) (c_X4_write l D cI cS cJ a1 24 g p1 v1 (by omega) (by omega)) (⟨va_cnB 3 C.1.2.2.2.2 gX2_openGap_X4_write_n49 rfl rfl rfl (C.2.2.2.2.1 _ nm_RX2_49) (C.1.2.2.2.2 _ wn_X2_openGap_RX4) (by decide +kernel) ⟨Nat.le_of_ble_eq_true rfl, Nat.le_of_ble_eq_true rfl⟩, C.1.2.2.2.2 _ wst_X2_openGap_X4_write, trivial⟩) rfl (by decide) rfl rfl (Nat.le_of_ble_eq_true rfl) dX2_openGap_31 ⟨Nat.le_of_ble_eq_true rfl, Nat.le_of_ble_eq_true rfl⟩) rfl rfl (by decide) (by decide) rfl (fun w_ hp_6 => ?_)
          obtain rfl := hp_6
          refine zj_ws (ws' := [(a1, .inl (cI, 24, .inl (zA (zU g p1 v1))))]) rfl ?_
          refine zj_ext 0 [(a1, .inl (cI, 24, .inl (zA (zIns f1 p1 v1))))] (fun x h0 h1 => by have h := hg x; simp only [zU, zIns]; split <;> split <;> (try split) <;> omega) rfl rfl ?_
          subst hQ
          exact zj_return C hr rfl (by decide) (by decide) dX2_openGap_34
        · skip
          refine zj_aload_n 15 0 C dX2_openGap_14 rfl rfl rfl ?_
          refine zj_iload_n 16 3 C dX2_openGap_15 rfl rfl rfl ?_
          refine zj_aload_n 17 0 C dX2_openGap_16 rfl rfl rfl ?_
          refine zj_iload_n 18 3 C dX2_openGap_17 rfl rfl rfl ?_
          refine zj_iconst 19 C dX2_openGap_18 rfl ?_
          refine zj_isub 20 C dX2_openGap_19 rfl ?_
          refine zj_iald 21 0 C (by omega) (by omega) rfl rfl dX2_openGap_20 rfl ?_
          refine zj_iast 22 0 [(a1, .inl (cI, 24, .inl (zA (zU g i (g (i - 1))))))] C (by omega) (by omega) rfl rfl rfl dX2_openGap_21 rfl ?_
          refine zj_iinc 25 3 [(3, .int (zI (i + (-1)))), (0, .ref a1), (1, .int (zI p1)), (2, .int (zI v1))] C dX2_openGap_22 rfl rfl (by decide) rfl ?_
          refine zj_goto 5 C dX2_openGap_25 (by decide) ?_
          refine zj_lv [1, 2, 3, 0] [(0, .ref a1), (1, .int (zI p1)), (2, .int (zI v1)), (3, .int (zI (i + (-1))))] rfl ?_
          exact ih (i + (-1)) (zU g i (g (i - 1))) (by omega) (by intro x; have h := hg x; have h2 := hg (i - 1); simp only [zU]; constructor <;> intros <;> split <;> (try subst x) <;> (try omega) <;> (simp_all <;> omega)) (by omega)
  refine zj_lv [1, 2, 3, 0] [(0, .ref a1), (1, .int (zI p1)), (2, .int (zI v1)), (3, .int (zI (24 - 1)))] rfl ?_
  exact hL5 (24) (24 - 1) f1 (by omega) (by intro x; exact ⟨fun _ => rfl, fun h1 h2 => absurd h1 (by omega)⟩) (by omega)

abbrev rm_X2_closeGap : Room := { frames := 0, cells := 0, slots := 0, locals := 0 }
set_option maxRecDepth 100000 in
set_option maxHeartbeats 4000000 in
theorem c_X2_closeGap (l : Launch) (D : va_G) (cI cS cJ : ClassId) (a1 : Nat) (f1 : Int → Int) (p1 : Int) (hp1 : 0 ≤ p1 ∧ p1 < 24) : zMv l yX2_closeGap wsX2_closeGap rm_X2_closeGap D (zTy cI cS cJ) [.ref a1, .int (zI p1)] [(a1, .inl (cI, 24, .inl (zA f1)))] (fun w => w = [(a1, .inl (cI, 24, .inl (zA (zDel f1 p1))))]) 0 0 := by
  intro sz
  refine zMet_of (Qc := fun A => va_Qv _ (zB D (zTy cI cS cJ) A) A) RX2 [(0, .ref a1), (1, .int (zI p1))] rfl (by decide +kernel) rfl (Nat.le_of_ble_eq_true rfl) rfl ?_ sz
  intro p e s m args below meth c A Q hQ C hr hini
  refine zj_iload_n 1 1 C dX2_closeGap_0 rfl rfl rfl ?_
  refine zj_if_ge 4 5 C (by omega) dX2_closeGap_1 rfl (by decide) (fun h_1 => ?_) (fun h_1 => ?_)
  · skip
    refine zj_iload_n 6 1 C dX2_closeGap_5 rfl rfl rfl ?_
    refine zj_istore_n 7 [(2, .int (zI p1)), (0, .ref a1), (1, .int (zI p1))] C dX2_closeGap_6 rfl rfl (by decide) rfl ?_
    have hL7 : ∀ (N : Nat) (i : Int) (g : Int → Int), (p1 ≤ i ∧ i ≤ 23) → (∀ x, (x < p1 → g x = f1 x) ∧ (p1 ≤ x → x < i → g x = f1 (x + 1)) ∧ (i ≤ x → g x = f1 x)) → (23 - i < N) → zJ p l e rm_X2_closeGap s m args below meth c Q D A 3 [(a1, .inl (cI, 24, .inl (zA g)))] 0 0 [(0, .ref a1), (1, .int (zI p1)), (2, .int (zI i))] 7 [] := by
      intro N
      induction N with
      | zero => intro i g hi hg hN; exact absurd hN (by omega)
      | succ N ih =>
        intro i g hi hg hN
        refine zj_iload_n 8 2 C dX2_closeGap_7 rfl rfl rfl ?_
        refine zj_aload_n 9 0 C dX2_closeGap_8 rfl rfl rfl ?_
        refine zj_alen 10 0 0 24 C rfl rfl rfl dX2_closeGap_9 rfl ?_
        refine zj_iconst 11 C dX2_closeGap_10 rfl ?_
        refine zj_isub 12 C dX2_closeGap_11 rfl ?_
        refine zj_icmp_ge 15 29 C (by omega) (by omega) dX2_closeGap_12 rfl (by decide) (fun h_2 => ?_) (fun h_2 => ?_)
        · skip
          refine zj_ext 0 [(a1, .inl (cI, 24, .inl (zA (zDel f1 p1))))] (fun x h0 h1 => by have h := hg x; simp only [zDel]; split <;> (try split) <;> omega) rfl rfl ?_
          subst hQ
          exact zj_return C hr rfl (by decide) (by decide) dX2_closeGap_29
        · skip
          refine zj_aload_n 16 0 C dX2_closeGap_15 rfl rfl rfl ?_
          refine zj_iload_n 17 2 C dX2_closeGap_16 rfl rfl rfl ?_
          refine zj_aload_n 18 0 C dX2_closeGap_17 rfl rfl rfl ?_
          refine zj_iload_n 19 2 C dX2_closeGap_18 rfl rfl rfl ?_
          refine zj_iconst 20 C dX2_closeGap_19 rfl ?_
          refine zj_iadd 21 C dX2_closeGap_20 rfl ?_
          refine zj_iald 22 0 C (by omega) (by omega) rfl rfl dX2_closeGap_21 rfl ?_
          refine zj_iast 23 0 [(a1, .inl (cI, 24, .inl (zA (zU g i (g (i + 1))))))] C (by omega) (by omega) rfl rfl rfl dX2_closeGap_22 rfl ?_
          refine zj_iinc 26 2 [(2, .int (zI (i + 1))), (0, .ref a1), (1, .int (zI p1))] C dX2_closeGap_23 rfl rfl (by decide) rfl ?_
          refine zj_goto 7 C dX2_closeGap_26 (by decide) ?_
          refine zj_lv [1, 2, 0] [(0, .ref a1), (1, .int (zI p1)), (2, .int (zI (i + 1)))] rfl ?_
          exact ih (i + 1) (zU g i (g (i + 1))) (by omega) (by intro x; have h := hg x; have h2 := (hg (i + 1)).2.2 (by omega); simp only [zU]; split <;> (try subst x) <;> refine ⟨fun _ => ?_, fun _ _ => ?_, fun _ => ?_⟩ <;> omega) (by omega)
    refine zj_lv [1, 2, 0] [(0, .ref a1), (1, .int (zI p1)), (2, .int (zI p1))] rfl ?_
    exact hL7 (24) p1 f1 (by omega) (by intro x; exact ⟨fun _ => rfl, fun h1 h2 => absurd h1 (by omega), fun _ => rfl⟩) (by omega)
  · exact absurd h_1 (by omega)

theorem wn_X2_exchangeInRow_RX4 : Cond.initialized RX4 ∈ wsX2_exchangeInRow := by decide +kernel
theorem nm_RX2_52 : Cond.methodLinkNest RX2 52 yX4_read "SplashPages" ∈ zNW := by decide +kernel
theorem wst_X2_exchangeInRow_X4_read : Cond.static yX4_read ∈ wsX2_exchangeInRow := by decide +kernel
theorem wst_X2_exchangeInRow_X4_write : Cond.static yX4_write ∈ wsX2_exchangeInRow := by decide +kernel
abbrev rm_X2_exchangeInRow : Room := { frames := 1, cells := 0, slots := 0, locals := 22 }
set_option maxRecDepth 100000 in
set_option maxHeartbeats 4000000 in
theorem c_X2_exchangeInRow (l : Launch) (D : va_G) (cI cS cJ : ClassId) (a1 : Nat) (f1 : Int → Int) (p1 : Int) (hp1 : 0 ≤ p1 ∧ p1 < 23) : zMv l yX2_exchangeInRow wsX2_exchangeInRow rm_X2_exchangeInRow D (zTy cI cS cJ) [.ref a1, .int (zI p1)] [(a1, .inl (cI, 24, .inl (zA f1)))] (fun w => w = [(a1, .inl (cI, 24, .inl (zA (zU (zU f1 p1 (f1 (p1 + 1))) (p1 + 1) (f1 p1)))))]) 0 0 := by
  intro sz
  refine zMet_of (Qc := fun A => va_Qv _ (zB D (zTy cI cS cJ) A) A) RX2 [(0, .ref a1), (1, .int (zI p1))] rfl (by decide +kernel) rfl (Nat.le_of_ble_eq_true rfl) rfl ?_ sz
  intro p e s m args below meth c A Q hQ C hr hini
  refine zj_aload_n 1 0 C dX2_exchangeInRow_0 rfl rfl rfl ?_
  refine zj_iload_n 2 1 C dX2_exchangeInRow_1 rfl rfl rfl ?_
  refine zj_ci 5 [0] [] C (wr := []) (zr_SN [0] C (As := [.ref a1, .int (zI p1)]) (rest := []) (c_X4_read l D cI cS cJ a1 24 f1 p1 (by omega) (by omega)) (⟨va_cnB 2 C.1.2.2.2.2 gX2_exchangeInRow_X4_read_n52 rfl rfl rfl (C.2.2.2.2.1 _ nm_RX2_52) (C.1.2.2.2.2 _ wn_X2_exchangeInRow_RX4) (by decide +kernel) ⟨Nat.le_of_ble_eq_true rfl, Nat.le_of_ble_eq_true rfl⟩, C.1.2.2.2.2 _ wst_X2_exchangeInRow_X4_read, trivial⟩) rfl (by decide) rfl rfl (Nat.le_of_ble_eq_true rfl) dX2_exchangeInRow_2 ⟨Nat.le_of_ble_eq_true rfl, Nat.le_of_ble_eq_true rfl⟩) rfl rfl (by decide) (by decide) rfl (fun r_1 w_ hp_2 => ?_)
  obtain ⟨rfl, rfl⟩ := hp_2
  refine zj_ws (ws' := [(a1, .inl (cI, 24, .inl (zA f1)))]) rfl ?_
  refine zj_istore_n 6 [(2, .int (zI (f1 p1))), (0, .ref a1), (1, .int (zI p1))] C dX2_exchangeInRow_5 rfl rfl (by decide) rfl ?_
  refine zj_aload_n 7 1 C dX2_exchangeInRow_6 rfl rfl rfl ?_
  refine zj_iload_n 8 2 C dX2_exchangeInRow_7 rfl rfl rfl ?_
  refine zj_aload_n 9 1 C dX2_exchangeInRow_8 rfl rfl rfl ?_
  refine zj_iload_n 10 2 C dX2_exchangeInRow_9 rfl rfl rfl ?_
  refine zj_iconst 11 C dX2_exchangeInRow_10 rfl ?_
  refine zj_iadd 12 C dX2_exchangeInRow_11 rfl ?_
  refine zj_ci 15 [0] [] C (wr := []) (zr_SN [0] C (As := [.ref a1, .int (zI (p1 + 1))]) (rest := [.int (zI p1), .ref a1]) (c_X4_read l D cI cS cJ a1 24 f1 (p1 + 1) (by omega) (by omega)) (⟨va_cnB 2 C.1.2.2.2.2 gX2_exchangeInRow_X4_read_n52 rfl rfl rfl (C.2.2.2.2.1 _ nm_RX2_52) (C.1.2.2.2.2 _ wn_X2_exchangeInRow_RX4) (by decide +kernel) ⟨Nat.le_of_ble_eq_true rfl, Nat.le_of_ble_eq_true rfl⟩, C.1.2.2.2.2 _ wst_X2_exchangeInRow_X4_read, trivial⟩) rfl (by decide) rfl rfl (Nat.le_of_ble_eq_true rfl) dX2_exchangeInRow_12 ⟨Nat.le_of_ble_eq_true rfl, Nat.le_of_ble_eq_true rfl⟩) rfl rfl (by decide) (by decide) rfl (fun r_3 w_ hp_4 => ?_)
  obtain ⟨rfl, rfl⟩ := hp_4
  refine zj_ws (ws' := [(a1, .inl (cI, 24, .inl (zA f1)))]) rfl ?_
  refine zj_cv 18 [0] [] C (wr := []) (zr_SN [0] C (As := [.ref a1, .int (zI p1), .int (zI (f1 (p1 + 1)))]) (rest := []) (c_X4_write l D cI cS cJ a1 24 f1 p1 (f1 (p1 + 1)) (by omega) (by omega)) (⟨va_cnB 3 C.1.2.2.2.2 gX2_exchangeInRow_X4_write_n49 rfl rfl rfl (C.2.2.2.2.1 _ nm_RX2_49) (C.1.2.2.2.2 _ wn_X2_exchangeInRow_RX4) (by decide +kernel) ⟨Nat.le_of_ble_eq_true rfl, Nat.le_of_ble_eq_true rfl⟩, C.1.2.2.2.2 _ wst_X2_exchangeInRow_X4_write, trivial⟩) rfl (by decide) rfl rfl (Nat.le_of_ble_eq_true rfl) dX2_exchangeInRow_15 ⟨Nat.le_of_ble_eq_true rfl, Nat.le_of_ble_eq_true rfl⟩) rfl rfl (by decide) (by decide) rfl (fun w_ hp_6 => ?_)
  obtain rfl := hp_6
  refine zj_ws (ws' := [(a1, .inl (cI, 24, .inl (zA (zU f1 p1 (f1 (p1 + 1))))))]) rfl ?_
  refine zj_aload_n 19 1 C dX2_exchangeInRow_18 rfl rfl rfl ?_
  refine zj_iload_n 20 2 C dX2_exchangeInRow_19 rfl rfl rfl ?_
  refine zj_iconst 21 C dX2_exchangeInRow_20 rfl ?_
  refine zj_iadd 22 C dX2_exchangeInRow_21 rfl ?_
  refine zj_iload_n 23 0 C dX2_exchangeInRow_22 rfl rfl rfl ?_
  refine zj_cv 26 [0] [] C (wr := []) (zr_SN [0] C (As := [.ref a1, .int (zI (p1 + 1)), .int (zI (f1 p1))]) (rest := []) (c_X4_write l D cI cS cJ a1 24 (zU f1 p1 (f1 (p1 + 1))) (p1 + 1) (f1 p1) (by omega) (by omega)) (⟨va_cnB 3 C.1.2.2.2.2 gX2_exchangeInRow_X4_write_n49 rfl rfl rfl (C.2.2.2.2.1 _ nm_RX2_49) (C.1.2.2.2.2 _ wn_X2_exchangeInRow_RX4) (by decide +kernel) ⟨Nat.le_of_ble_eq_true rfl, Nat.le_of_ble_eq_true rfl⟩, C.1.2.2.2.2 _ wst_X2_exchangeInRow_X4_write, trivial⟩) rfl (by decide) rfl rfl (Nat.le_of_ble_eq_true rfl) dX2_exchangeInRow_23 ⟨Nat.le_of_ble_eq_true rfl, Nat.le_of_ble_eq_true rfl⟩) rfl rfl (by decide) (by decide) rfl (fun w_ hp_8 => ?_)
  obtain rfl := hp_8
  refine zj_ws (ws' := [(a1, .inl (cI, 24, .inl (zA (zU (zU f1 p1 (f1 (p1 + 1))) (p1 + 1) (f1 p1)))))]) rfl ?_
  subst hQ
  exact zj_return C hr rfl (by decide) (by decide) dX2_exchangeInRow_26

theorem fl_X2_insert_21 : Cond.fieldLink RX2 21 "SplashPages$Story" "size" "I" ∈ wsX2_insert := by decide +kernel
theorem im_X2_insert_2 : ∀ w ∈ u_ws RX2 TX2 5, w ∈ wsX2_insert := by decide +kernel
theorem fl_X2_insert_9 : Cond.fieldLink RX2 9 "SplashPages$Story" "kinds" "[I" ∈ wsX2_insert := by decide +kernel
theorem fl_X2_insert_15 : Cond.fieldLink RX2 15 "SplashPages$Story" "widths" "[I" ∈ wsX2_insert := by decide +kernel
theorem fl_X2_insert_18 : Cond.fieldLink RX2 18 "SplashPages$Story" "beats" "[I" ∈ wsX2_insert := by decide +kernel
abbrev rm_X2_insert : Room := { frames := 2, cells := 0, slots := 0, locals := 45 }
set_option maxRecDepth 100000 in
set_option maxHeartbeats 4000000 in
theorem c_X2_insert (l : Launch) (D : va_G) (cI cS cJ : ClassId) (q1 : Nat) (b1 : Nat) (b2 : Nat) (b3 : Nat) (n1 : Int) (s1 : Int) (k1 : Int → Int) (w1 : Int → Int) (t1 : Int → Int) (p1 : Int) (x1 : Int) (x2 : Int) (x3 : Int) (hn1 : 0 ≤ n1 ∧ n1 < 24) (hp1 : 0 ≤ p1 ∧ p1 < 24) : zMv l yX2_insert wsX2_insert rm_X2_insert D (zTy cI cS cJ) [.ref q1, .int (zI p1), .int (zI x1), .int (zI x2), .int (zI x3)] [(q1, .inr (2, [.ref b1, .ref b2, .ref b3, .int (zI n1), .int (zI s1)])), (b1, .inl (cI, 24, .inl (zA k1))), (b2, .inl (cI, 24, .inl (zA w1))), (b3, .inl (cI, 24, .inl (zA t1)))] (fun w => w = [(q1, .inr (2, [.ref b1, .ref b2, .ref b3, .int (zI (n1 + 1)), .int (zI s1)])), (b1, .inl (cI, 24, .inl (zA (zIns k1 p1 x1)))), (b2, .inl (cI, 24, .inl (zA (zIns w1 p1 x2)))), (b3, .inl (cI, 24, .inl (zA (zIns t1 p1 x3))))]) 0 0 := by
  intro sz
  refine zMet_of (Qc := fun A => va_Qv _ (zB D (zTy cI cS cJ) A) A) RX2 [(0, .ref q1), (1, .int (zI p1)), (2, .int (zI x1)), (3, .int (zI x2)), (4, .int (zI x3))] rfl (by decide +kernel) rfl (Nat.le_of_ble_eq_true rfl) rfl ?_ sz
  intro p e s m args below meth c A Q hQ C hr hini
  refine zj_aload_n 1 0 C dX2_insert_0 rfl rfl rfl ?_
  refine zj_get 4 0 3 C (T := TX2) im_X2_insert_2 fl_X2_insert_21 rfl rfl (by decide) rfl rfl dX2_insert_1 rfl ?_
  refine zj_bipush 6 C dX2_insert_4 rfl rfl ?_
  refine zj_icmp_lt 9 10 C (by omega) (by omega) dX2_insert_6 rfl (by decide) (fun h_1 => ?_) (fun h_1 => ?_)
  · skip
    refine zj_aload_n 11 0 C dX2_insert_10 rfl rfl rfl ?_
    refine zj_get 14 0 0 C (T := TX2) im_X2_insert_2 fl_X2_insert_9 rfl rfl (by decide) rfl rfl dX2_insert_11 rfl ?_
    refine zj_iload_n 15 1 C dX2_insert_14 rfl rfl rfl ?_
    refine zj_iload_n 16 2 C dX2_insert_15 rfl rfl rfl ?_
    refine zj_cv 19 [1] [0, 2, 3] C (wr := [(q1, .inr (2, [.ref b1, .ref b2, .ref b3, .int (zI n1), .int (zI s1)])), (b2, .inl (cI, 24, .inl (zA w1))), (b3, .inl (cI, 24, .inl (zA t1)))]) (zr_S [1] C (As := [.ref b1, .int (zI p1), .int (zI x1)]) (rest := []) (c_X2_openGap l D cI cS cJ b1 k1 p1 x1 (by omega)) (va_cwS 3 C.1.2.2.2.2 gX2_insert_X2_openGap rfl rfl rfl (by decide +kernel) ⟨Nat.le_of_ble_eq_true rfl, Nat.le_of_ble_eq_true rfl⟩) rfl (by decide) rfl rfl (Nat.le_of_ble_eq_true rfl) dX2_insert_16 ⟨Nat.le_of_ble_eq_true rfl, Nat.le_of_ble_eq_true rfl⟩) rfl rfl (by decide) (by decide) rfl (fun w_ hp_3 => ?_)
    obtain rfl := hp_3
    refine zj_ws (ws' := [(q1, .inr (2, [.ref b1, .ref b2, .ref b3, .int (zI n1), .int (zI s1)])), (b2, .inl (cI, 24, .inl (zA w1))), (b3, .inl (cI, 24, .inl (zA t1))), (b1, .inl (cI, 24, .inl (zA (zIns k1 p1 x1))))]) rfl ?_
    refine zj_aload_n 20 0 C dX2_insert_19 rfl rfl rfl ?_
    refine zj_get 23 0 1 C (T := TX2) im_X2_insert_2 fl_X2_insert_15 rfl rfl (by decide) rfl rfl dX2_insert_20 rfl ?_
    refine zj_iload_n 24 1 C dX2_insert_23 rfl rfl rfl ?_
    refine zj_iload_n 25 3 C dX2_insert_24 rfl rfl rfl ?_
    refine zj_cv 28 [1] [0, 2, 3] C (wr := [(q1, .inr (2, [.ref b1, .ref b2, .ref b3, .int (zI n1), .int (zI s1)])), (b3, .inl (cI, 24, .inl (zA t1))), (b1, .inl (cI, 24, .inl (zA (zIns k1 p1 x1))))]) (zr_S [1] C (As := [.ref b2, .int (zI p1), .int (zI x2)]) (rest := []) (c_X2_openGap l D cI cS cJ b2 w1 p1 x2 (by omega)) (va_cwS 3 C.1.2.2.2.2 gX2_insert_X2_openGap rfl rfl rfl (by decide +kernel) ⟨Nat.le_of_ble_eq_true rfl, Nat.le_of_ble_eq_true rfl⟩) rfl (by decide) rfl rfl (Nat.le_of_ble_eq_true rfl) dX2_insert_25 ⟨Nat.le_of_ble_eq_true rfl, Nat.le_of_ble_eq_true rfl⟩) rfl rfl (by decide) (by decide) rfl (fun w_ hp_5 => ?_)
    obtain rfl := hp_5
    refine zj_ws (ws' := [(q1, .inr (2, [.ref b1, .ref b2, .ref b3, .int (zI n1), .int (zI s1)])), (b3, .inl (cI, 24, .inl (zA t1))), (b1, .inl (cI, 24, .inl (zA (zIns k1 p1 x1)))), (b2, .inl (cI, 24, .inl (zA (zIns w1 p1 x2))))]) rfl ?_
    refine zj_aload_n 29 0 C dX2_insert_28 rfl rfl rfl ?_
    refine zj_get 32 0 2 C (T := TX2) im_X2_insert_2 fl_X2_insert_18 rfl rfl (by decide) rfl rfl dX2_insert_29 rfl ?_
    refine zj_iload_n 33 1 C dX2_insert_32 rfl rfl rfl ?_
    refine zj_iload 35 4 C dX2_insert_33 rfl rfl ?_
    refine zj_cv 38 [1] [0, 2, 3] C (wr := [(q1, .inr (2, [.ref b1, .ref b2, .ref b3, .int (zI n1), .int (zI s1)])), (b1, .inl (cI, 24, .inl (zA (zIns k1 p1 x1)))), (b2, .inl (cI, 24, .inl (zA (zIns w1 p1 x2))))]) (zr_S [1] C (As := [.ref b3, .int (zI p1), .int (zI x3)]) (rest := []) (c_X2_openGap l D cI cS cJ b3 t1 p1 x3 (by omega)) (va_cwS 3 C.1.2.2.2.2 gX2_insert_X2_openGap rfl rfl rfl (by decide +kernel) ⟨Nat.le_of_ble_eq_true rfl, Nat.le_of_ble_eq_true rfl⟩) rfl (by decide) rfl rfl (Nat.le_of_ble_eq_true rfl) dX2_insert_35 ⟨Nat.le_of_ble_eq_true rfl, Nat.le_of_ble_eq_true rfl⟩) rfl rfl (by decide) (by decide) rfl (fun w_ hp_7 => ?_)
    obtain rfl := hp_7
    refine zj_ws (ws' := [(q1, .inr (2, [.ref b1, .ref b2, .ref b3, .int (zI n1), .int (zI s1)])), (b1, .inl (cI, 24, .inl (zA (zIns k1 p1 x1)))), (b2, .inl (cI, 24, .inl (zA (zIns w1 p1 x2)))), (b3, .inl (cI, 24, .inl (zA (zIns t1 p1 x3))))]) rfl ?_
    refine zj_aload_n 39 0 C dX2_insert_38 rfl rfl rfl ?_
    refine zj_dup 40 C dX2_insert_39 rfl rfl ?_
    refine zj_get 43 0 3 C (T := TX2) im_X2_insert_2 fl_X2_insert_21 rfl rfl (by decide) rfl rfl dX2_insert_40 rfl ?_
    refine zj_iconst 44 C dX2_insert_43 rfl ?_
    refine zj_iadd 45 C dX2_insert_44 rfl ?_
    refine zj_put 48 0 3 [(q1, .inr (2, [.ref b1, .ref b2, .ref b3, .int (zI (n1 + 1)), .int (zI s1)])), (b1, .inl (cI, 24, .inl (zA (zIns k1 p1 x1)))), (b2, .inl (cI, 24, .inl (zA (zIns w1 p1 x2)))), (b3, .inl (cI, 24, .inl (zA (zIns t1 p1 x3))))] C (T := TX2) tyX2 tyX2_ok nmX2 im_X2_insert_2 fl_X2_insert_21 rfl rfl (by decide) rfl rfl rfl rfl rfl (Nat.le_of_ble_eq_true rfl) rfl dX2_insert_45 rfl ?_
    subst hQ
    exact zj_return C hr rfl (by decide) (by decide) dX2_insert_48
  · exact absurd h_1 (by omega)

theorem fl_X2_remove_9 : Cond.fieldLink RX2 9 "SplashPages$Story" "kinds" "[I" ∈ wsX2_remove := by decide +kernel
theorem im_X2_remove_2 : ∀ w ∈ u_ws RX2 TX2 5, w ∈ wsX2_remove := by decide +kernel
theorem fl_X2_remove_15 : Cond.fieldLink RX2 15 "SplashPages$Story" "widths" "[I" ∈ wsX2_remove := by decide +kernel
theorem fl_X2_remove_18 : Cond.fieldLink RX2 18 "SplashPages$Story" "beats" "[I" ∈ wsX2_remove := by decide +kernel
theorem fl_X2_remove_21 : Cond.fieldLink RX2 21 "SplashPages$Story" "size" "I" ∈ wsX2_remove := by decide +kernel
abbrev rm_X2_remove : Room := { frames := 1, cells := 0, slots := 0, locals := 22 }
set_option maxRecDepth 100000 in
set_option maxHeartbeats 4000000 in
theorem c_X2_remove (l : Launch) (D : va_G) (cI cS cJ : ClassId) (q1 : Nat) (b1 : Nat) (b2 : Nat) (b3 : Nat) (n1 : Int) (s1 : Int) (k1 : Int → Int) (w1 : Int → Int) (t1 : Int → Int) (p1 : Int) (hn1 : 0 ≤ n1 ∧ n1 ≤ 24) (hp1 : 0 ≤ p1 ∧ p1 < n1) : zMv l yX2_remove wsX2_remove rm_X2_remove D (zTy cI cS cJ) [.ref q1, .int (zI p1)] [(q1, .inr (2, [.ref b1, .ref b2, .ref b3, .int (zI n1), .int (zI s1)])), (b1, .inl (cI, 24, .inl (zA k1))), (b2, .inl (cI, 24, .inl (zA w1))), (b3, .inl (cI, 24, .inl (zA t1)))] (fun w => w = [(q1, .inr (2, [.ref b1, .ref b2, .ref b3, .int (zI (n1 - 1)), .int (zI s1)])), (b1, .inl (cI, 24, .inl (zA (zDel k1 p1)))), (b2, .inl (cI, 24, .inl (zA (zDel w1 p1)))), (b3, .inl (cI, 24, .inl (zA (zDel t1 p1))))]) 0 0 := by
  intro sz
  refine zMet_of (Qc := fun A => va_Qv _ (zB D (zTy cI cS cJ) A) A) RX2 [(0, .ref q1), (1, .int (zI p1))] rfl (by decide +kernel) rfl (Nat.le_of_ble_eq_true rfl) rfl ?_ sz
  intro p e s m args below meth c A Q hQ C hr hini
  refine zj_aload_n 1 0 C dX2_remove_0 rfl rfl rfl ?_
  refine zj_iload_n 2 1 C dX2_remove_1 rfl rfl rfl ?_
  refine zj_ci 5 [0] [1, 2, 3] C (wr := [(b1, .inl (cI, 24, .inl (zA k1))), (b2, .inl (cI, 24, .inl (zA w1))), (b3, .inl (cI, 24, .inl (zA t1)))]) (zr_V [0] C (As := [.int (zI p1)]) (rest := []) (c_X2_has l D cI cS cJ q1 b1 b2 b3 n1 s1 p1 (by omega) (by omega)) (cwV 1 C.1.2.2.2.2 gX2_remove_X2_has rfl rfl rfl (by decide +kernel) ⟨Nat.le_of_ble_eq_true rfl, Nat.le_of_ble_eq_true rfl⟩) rfl (by decide) 0 rfl rfl rfl rfl (Nat.le_of_ble_eq_true rfl) dX2_remove_2 ⟨Nat.le_of_ble_eq_true rfl, Nat.le_of_ble_eq_true rfl⟩) rfl rfl (by decide) (by decide) rfl (fun r_1 w_ hp_2 => ?_)
  obtain ⟨r1_3, f_4, rfl, rfl⟩ := hp_2
  refine zj_ws (ws' := [(b1, .inl (cI, 24, .inl (zA k1))), (b2, .inl (cI, 24, .inl (zA w1))), (b3, .inl (cI, 24, .inl (zA t1))), (q1, .inr (2, [.ref b1, .ref b2, .ref b3, .int (zI n1), .int (zI s1)]))]) rfl ?_
  refine zj_if_ne 8 9 C (by omega) dX2_remove_5 rfl (by decide) (fun h_5 => ?_) (fun h_5 => ?_)
  · skip
    refine zj_aload_n 10 0 C dX2_remove_9 rfl rfl rfl ?_
    refine zj_get 13 3 0 C (T := TX2) im_X2_remove_2 fl_X2_remove_9 rfl rfl (by decide) rfl rfl dX2_remove_10 rfl ?_
    refine zj_iload_n 14 1 C dX2_remove_13 rfl rfl rfl ?_
    refine zj_cv 17 [0] [1, 2, 3] C (wr := [(b2, .inl (cI, 24, .inl (zA w1))), (b3, .inl (cI, 24, .inl (zA t1))), (q1, .inr (2, [.ref b1, .ref b2, .ref b3, .int (zI n1), .int (zI s1)]))]) (zr_S [0] C (As := [.ref b1, .int (zI p1)]) (rest := []) (c_X2_closeGap l D cI cS cJ b1 k1 p1 (by omega)) (va_cwS 2 C.1.2.2.2.2 gX2_remove_X2_closeGap rfl rfl rfl (by decide +kernel) ⟨Nat.le_of_ble_eq_true rfl, Nat.le_of_ble_eq_true rfl⟩) rfl (by decide) rfl rfl (Nat.le_of_ble_eq_true rfl) dX2_remove_14 ⟨Nat.le_of_ble_eq_true rfl, Nat.le_of_ble_eq_true rfl⟩) rfl rfl (by decide) (by decide) rfl (fun w_ hp_7 => ?_)
    obtain rfl := hp_7
    refine zj_ws (ws' := [(b2, .inl (cI, 24, .inl (zA w1))), (b3, .inl (cI, 24, .inl (zA t1))), (q1, .inr (2, [.ref b1, .ref b2, .ref b3, .int (zI n1), .int (zI s1)])), (b1, .inl (cI, 24, .inl (zA (zDel k1 p1))))]) rfl ?_
    refine zj_aload_n 18 0 C dX2_remove_17 rfl rfl rfl ?_
    refine zj_get 21 2 1 C (T := TX2) im_X2_remove_2 fl_X2_remove_15 rfl rfl (by decide) rfl rfl dX2_remove_18 rfl ?_
    refine zj_iload_n 22 1 C dX2_remove_21 rfl rfl rfl ?_
    refine zj_cv 25 [0] [1, 2, 3] C (wr := [(b3, .inl (cI, 24, .inl (zA t1))), (q1, .inr (2, [.ref b1, .ref b2, .ref b3, .int (zI n1), .int (zI s1)])), (b1, .inl (cI, 24, .inl (zA (zDel k1 p1))))]) (zr_S [0] C (As := [.ref b2, .int (zI p1)]) (rest := []) (c_X2_closeGap l D cI cS cJ b2 w1 p1 (by omega)) (va_cwS 2 C.1.2.2.2.2 gX2_remove_X2_closeGap rfl rfl rfl (by decide +kernel) ⟨Nat.le_of_ble_eq_true rfl, Nat.le_of_ble_eq_true rfl⟩) rfl (by decide) rfl rfl (Nat.le_of_ble_eq_true rfl) dX2_remove_22 ⟨Nat.le_of_ble_eq_true rfl, Nat.le_of_ble_eq_true rfl⟩) rfl rfl (by decide) (by decide) rfl (fun w_ hp_9 => ?_)
    obtain rfl := hp_9
    refine zj_ws (ws' := [(b3, .inl (cI, 24, .inl (zA t1))), (q1, .inr (2, [.ref b1, .ref b2, .ref b3, .int (zI n1), .int (zI s1)])), (b1, .inl (cI, 24, .inl (zA (zDel k1 p1)))), (b2, .inl (cI, 24, .inl (zA (zDel w1 p1))))]) rfl ?_
    refine zj_aload_n 26 0 C dX2_remove_25 rfl rfl rfl ?_
    refine zj_get 29 1 2 C (T := TX2) im_X2_remove_2 fl_X2_remove_18 rfl rfl (by decide) rfl rfl dX2_remove_26 rfl ?_
    refine zj_iload_n 30 1 C dX2_remove_29 rfl rfl rfl ?_
    refine zj_cv 33 [0] [1, 2, 3] C (wr := [(q1, .inr (2, [.ref b1, .ref b2, .ref b3, .int (zI n1), .int (zI s1)])), (b1, .inl (cI, 24, .inl (zA (zDel k1 p1)))), (b2, .inl (cI, 24, .inl (zA (zDel w1 p1))))]) (zr_S [0] C (As := [.ref b3, .int (zI p1)]) (rest := []) (c_X2_closeGap l D cI cS cJ b3 t1 p1 (by omega)) (va_cwS 2 C.1.2.2.2.2 gX2_remove_X2_closeGap rfl rfl rfl (by decide +kernel) ⟨Nat.le_of_ble_eq_true rfl, Nat.le_of_ble_eq_true rfl⟩) rfl (by decide) rfl rfl (Nat.le_of_ble_eq_true rfl) dX2_remove_30 ⟨Nat.le_of_ble_eq_true rfl, Nat.le_of_ble_eq_true rfl⟩) rfl rfl (by decide) (by decide) rfl (fun w_ hp_11 => ?_)
    obtain rfl := hp_11
    refine zj_ws (ws' := [(q1, .inr (2, [.ref b1, .ref b2, .ref b3, .int (zI n1), .int (zI s1)])), (b1, .inl (cI, 24, .inl (zA (zDel k1 p1)))), (b2, .inl (cI, 24, .inl (zA (zDel w1 p1)))), (b3, .inl (cI, 24, .inl (zA (zDel t1 p1))))]) rfl ?_
    refine zj_aload_n 34 0 C dX2_remove_33 rfl rfl rfl ?_
    refine zj_dup 35 C dX2_remove_34 rfl rfl ?_
    refine zj_get 38 0 3 C (T := TX2) im_X2_remove_2 fl_X2_remove_21 rfl rfl (by decide) rfl rfl dX2_remove_35 rfl ?_
    refine zj_iconst 39 C dX2_remove_38 rfl ?_
    refine zj_isub 40 C dX2_remove_39 rfl ?_
    refine zj_put 43 0 3 [(q1, .inr (2, [.ref b1, .ref b2, .ref b3, .int (zI (n1 - 1)), .int (zI s1)])), (b1, .inl (cI, 24, .inl (zA (zDel k1 p1)))), (b2, .inl (cI, 24, .inl (zA (zDel w1 p1)))), (b3, .inl (cI, 24, .inl (zA (zDel t1 p1))))] C (T := TX2) tyX2 tyX2_ok nmX2 im_X2_remove_2 fl_X2_remove_21 rfl rfl (by decide) rfl rfl rfl rfl rfl (Nat.le_of_ble_eq_true rfl) rfl dX2_remove_40 rfl ?_
    subst hQ
    exact zj_return C hr rfl (by decide) (by decide) dX2_remove_43
  · exact absurd h_5 (by omega)

theorem fl_X2_exchangeWithNext_9 : Cond.fieldLink RX2 9 "SplashPages$Story" "kinds" "[I" ∈ wsX2_exchangeWithNext := by decide +kernel
theorem im_X2_exchangeWithNext_2 : ∀ w ∈ u_ws RX2 TX2 5, w ∈ wsX2_exchangeWithNext := by decide +kernel
theorem fl_X2_exchangeWithNext_15 : Cond.fieldLink RX2 15 "SplashPages$Story" "widths" "[I" ∈ wsX2_exchangeWithNext := by decide +kernel
theorem fl_X2_exchangeWithNext_18 : Cond.fieldLink RX2 18 "SplashPages$Story" "beats" "[I" ∈ wsX2_exchangeWithNext := by decide +kernel
abbrev rm_X2_exchangeWithNext : Room := { frames := 2, cells := 0, slots := 0, locals := 44 }
set_option maxRecDepth 100000 in
set_option maxHeartbeats 4000000 in
theorem c_X2_exchangeWithNext (l : Launch) (D : va_G) (cI cS cJ : ClassId) (q1 : Nat) (b1 : Nat) (b2 : Nat) (b3 : Nat) (n1 : Int) (s1 : Int) (k1 : Int → Int) (w1 : Int → Int) (t1 : Int → Int) (p1 : Int) (hp1 : 0 ≤ p1 ∧ p1 < 23) : zMv l yX2_exchangeWithNext wsX2_exchangeWithNext rm_X2_exchangeWithNext D (zTy cI cS cJ) [.ref q1, .int (zI p1)] [(q1, .inr (2, [.ref b1, .ref b2, .ref b3, .int (zI n1), .int (zI s1)])), (b1, .inl (cI, 24, .inl (zA k1))), (b2, .inl (cI, 24, .inl (zA w1))), (b3, .inl (cI, 24, .inl (zA t1)))] (fun w => w = [(q1, .inr (2, [.ref b1, .ref b2, .ref b3, .int (zI n1), .int (zI s1)])), (b1, .inl (cI, 24, .inl (zA (zU (zU k1 p1 (k1 (p1 + 1))) (p1 + 1) (k1 p1))))), (b2, .inl (cI, 24, .inl (zA (zU (zU w1 p1 (w1 (p1 + 1))) (p1 + 1) (w1 p1))))), (b3, .inl (cI, 24, .inl (zA (zU (zU t1 p1 (t1 (p1 + 1))) (p1 + 1) (t1 p1)))))]) 0 0 := by
  intro sz
  refine zMet_of (Qc := fun A => va_Qv _ (zB D (zTy cI cS cJ) A) A) RX2 [(0, .ref q1), (1, .int (zI p1))] rfl (by decide +kernel) rfl (Nat.le_of_ble_eq_true rfl) rfl ?_ sz
  intro p e s m args below meth c A Q hQ C hr hini
  refine zj_aload_n 1 0 C dX2_exchangeWithNext_0 rfl rfl rfl ?_
  refine zj_get 4 0 0 C (T := TX2) im_X2_exchangeWithNext_2 fl_X2_exchangeWithNext_9 rfl rfl (by decide) rfl rfl dX2_exchangeWithNext_1 rfl ?_
  refine zj_iload_n 5 1 C dX2_exchangeWithNext_4 rfl rfl rfl ?_
  refine zj_cv 8 [1] [0, 2, 3] C (wr := [(q1, .inr (2, [.ref b1, .ref b2, .ref b3, .int (zI n1), .int (zI s1)])), (b2, .inl (cI, 24, .inl (zA w1))), (b3, .inl (cI, 24, .inl (zA t1)))]) (zr_S [1] C (As := [.ref b1, .int (zI p1)]) (rest := []) (c_X2_exchangeInRow l D cI cS cJ b1 k1 p1 (by omega)) (va_cwS 2 C.1.2.2.2.2 gX2_exchangeWithNext_X2_exchangeInRow rfl rfl rfl (by decide +kernel) ⟨Nat.le_of_ble_eq_true rfl, Nat.le_of_ble_eq_true rfl⟩) rfl (by decide) rfl rfl (Nat.le_of_ble_eq_true rfl) dX2_exchangeWithNext_5 ⟨Nat.le_of_ble_eq_true rfl, Nat.le_of_ble_eq_true rfl⟩) rfl rfl (by decide) (by decide) rfl (fun w_ hp_2 => ?_)
  obtain rfl := hp_2
  refine zj_ws (ws' := [(q1, .inr (2, [.ref b1, .ref b2, .ref b3, .int (zI n1), .int (zI s1)])), (b2, .inl (cI, 24, .inl (zA w1))), (b3, .inl (cI, 24, .inl (zA t1))), (b1, .inl (cI, 24, .inl (zA (zU (zU k1 p1 (k1 (p1 + 1))) (p1 + 1) (k1 p1)))))]) rfl ?_
  refine zj_aload_n 9 0 C dX2_exchangeWithNext_8 rfl rfl rfl ?_
  refine zj_get 12 0 1 C (T := TX2) im_X2_exchangeWithNext_2 fl_X2_exchangeWithNext_15 rfl rfl (by decide) rfl rfl dX2_exchangeWithNext_9 rfl ?_
  refine zj_iload_n 13 1 C dX2_exchangeWithNext_12 rfl rfl rfl ?_
  refine zj_cv 16 [1] [0, 2, 3] C (wr := [(q1, .inr (2, [.ref b1, .ref b2, .ref b3, .int (zI n1), .int (zI s1)])), (b3, .inl (cI, 24, .inl (zA t1))), (b1, .inl (cI, 24, .inl (zA (zU (zU k1 p1 (k1 (p1 + 1))) (p1 + 1) (k1 p1)))))]) (zr_S [1] C (As := [.ref b2, .int (zI p1)]) (rest := []) (c_X2_exchangeInRow l D cI cS cJ b2 w1 p1 (by omega)) (va_cwS 2 C.1.2.2.2.2 gX2_exchangeWithNext_X2_exchangeInRow rfl rfl rfl (by decide +kernel) ⟨Nat.le_of_ble_eq_true rfl, Nat.le_of_ble_eq_true rfl⟩) rfl (by decide) rfl rfl (Nat.le_of_ble_eq_true rfl) dX2_exchangeWithNext_13 ⟨Nat.le_of_ble_eq_true rfl, Nat.le_of_ble_eq_true rfl⟩) rfl rfl (by decide) (by decide) rfl (fun w_ hp_4 => ?_)
  obtain rfl := hp_4
  refine zj_ws (ws' := [(q1, .inr (2, [.ref b1, .ref b2, .ref b3, .int (zI n1), .int (zI s1)])), (b3, .inl (cI, 24, .inl (zA t1))), (b1, .inl (cI, 24, .inl (zA (zU (zU k1 p1 (k1 (p1 + 1))) (p1 + 1) (k1 p1))))), (b2, .inl (cI, 24, .inl (zA (zU (zU w1 p1 (w1 (p1 + 1))) (p1 + 1) (w1 p1)))))]) rfl ?_
  refine zj_aload_n 17 0 C dX2_exchangeWithNext_16 rfl rfl rfl ?_
  refine zj_get 20 0 2 C (T := TX2) im_X2_exchangeWithNext_2 fl_X2_exchangeWithNext_18 rfl rfl (by decide) rfl rfl dX2_exchangeWithNext_17 rfl ?_
  refine zj_iload_n 21 1 C dX2_exchangeWithNext_20 rfl rfl rfl ?_
  refine zj_cv 24 [1] [0, 2, 3] C (wr := [(q1, .inr (2, [.ref b1, .ref b2, .ref b3, .int (zI n1), .int (zI s1)])), (b1, .inl (cI, 24, .inl (zA (zU (zU k1 p1 (k1 (p1 + 1))) (p1 + 1) (k1 p1))))), (b2, .inl (cI, 24, .inl (zA (zU (zU w1 p1 (w1 (p1 + 1))) (p1 + 1) (w1 p1)))))]) (zr_S [1] C (As := [.ref b3, .int (zI p1)]) (rest := []) (c_X2_exchangeInRow l D cI cS cJ b3 t1 p1 (by omega)) (va_cwS 2 C.1.2.2.2.2 gX2_exchangeWithNext_X2_exchangeInRow rfl rfl rfl (by decide +kernel) ⟨Nat.le_of_ble_eq_true rfl, Nat.le_of_ble_eq_true rfl⟩) rfl (by decide) rfl rfl (Nat.le_of_ble_eq_true rfl) dX2_exchangeWithNext_21 ⟨Nat.le_of_ble_eq_true rfl, Nat.le_of_ble_eq_true rfl⟩) rfl rfl (by decide) (by decide) rfl (fun w_ hp_6 => ?_)
  obtain rfl := hp_6
  refine zj_ws (ws' := [(q1, .inr (2, [.ref b1, .ref b2, .ref b3, .int (zI n1), .int (zI s1)])), (b1, .inl (cI, 24, .inl (zA (zU (zU k1 p1 (k1 (p1 + 1))) (p1 + 1) (k1 p1))))), (b2, .inl (cI, 24, .inl (zA (zU (zU w1 p1 (w1 (p1 + 1))) (p1 + 1) (w1 p1))))), (b3, .inl (cI, 24, .inl (zA (zU (zU t1 p1 (t1 (p1 + 1))) (p1 + 1) (t1 p1)))))]) rfl ?_
  subst hQ
  exact zj_return C hr rfl (by decide) (by decide) dX2_exchangeWithNext_24

theorem fl_X2_copyFrom_9 : Cond.fieldLink RX2 9 "SplashPages$Story" "kinds" "[I" ∈ wsX2_copyFrom := by decide +kernel
theorem im_X2_copyFrom_2 : ∀ w ∈ u_ws RX2 TX2 5, w ∈ wsX2_copyFrom := by decide +kernel
theorem wl_X2_copyFrom_28 : Cond.methodLink RX2 28 arraycopyName ∈ wsX2_copyFrom := by decide +kernel
theorem wcn_X2_copyFrom : Cond.native arraycopyName ∈ wsX2_copyFrom := by decide +kernel
theorem wcs_X2_copyFrom : Cond.static arraycopyName ∈ wsX2_copyFrom := by decide +kernel
theorem wci_X2_copyFrom : Cond.initialized "java/lang/System" ∈ wsX2_copyFrom := by decide +kernel
theorem fl_X2_copyFrom_15 : Cond.fieldLink RX2 15 "SplashPages$Story" "widths" "[I" ∈ wsX2_copyFrom := by decide +kernel
theorem fl_X2_copyFrom_18 : Cond.fieldLink RX2 18 "SplashPages$Story" "beats" "[I" ∈ wsX2_copyFrom := by decide +kernel
theorem fl_X2_copyFrom_21 : Cond.fieldLink RX2 21 "SplashPages$Story" "size" "I" ∈ wsX2_copyFrom := by decide +kernel
theorem fl_X2_copyFrom_25 : Cond.fieldLink RX2 25 "SplashPages$Story" "setting" "I" ∈ wsX2_copyFrom := by decide +kernel
abbrev rm_X2_copyFrom : Room := { frames := 1, cells := 0, slots := 0, locals := 60 }
set_option maxRecDepth 100000 in
set_option maxHeartbeats 4000000 in
theorem c_X2_copyFrom (l : Launch) (D : va_G) (cI cS cJ : ClassId) (q1 : Nat) (b1 : Nat) (b2 : Nat) (b3 : Nat) (n1 : Int) (s1 : Int) (k1 : Int → Int) (w1 : Int → Int) (t1 : Int → Int) (q2 : Nat) (d1 : Nat) (d2 : Nat) (d3 : Nat) (n2 : Int) (s2 : Int) (k2 : Int → Int) (w2 : Int → Int) (t2 : Int → Int) : zMv l yX2_copyFrom wsX2_copyFrom rm_X2_copyFrom D (zTy cI cS cJ) [.ref q1, .ref q2] [(q1, .inr (2, [.ref b1, .ref b2, .ref b3, .int (zI n1), .int (zI s1)])), (b1, .inl (cI, 24, .inl (zA k1))), (b2, .inl (cI, 24, .inl (zA w1))), (b3, .inl (cI, 24, .inl (zA t1))), (q2, .inr (2, [.ref d1, .ref d2, .ref d3, .int (zI n2), .int (zI s2)])), (d1, .inl (cI, 24, .inl (zA k2))), (d2, .inl (cI, 24, .inl (zA w2))), (d3, .inl (cI, 24, .inl (zA t2)))] (fun w => w = [(q1, .inr (2, [.ref b1, .ref b2, .ref b3, .int (zI n2), .int (zI s2)])), (b1, .inl (cI, 24, .inl (zA (zCp k2 k1 24)))), (b2, .inl (cI, 24, .inl (zA (zCp w2 w1 24)))), (b3, .inl (cI, 24, .inl (zA (zCp t2 t1 24)))), (q2, .inr (2, [.ref d1, .ref d2, .ref d3, .int (zI n2), .int (zI s2)])), (d1, .inl (cI, 24, .inl (zA k2))), (d2, .inl (cI, 24, .inl (zA w2))), (d3, .inl (cI, 24, .inl (zA t2)))]) 0 0 := by
  intro sz
  refine zMet_of (Qc := fun A => va_Qv _ (zB D (zTy cI cS cJ) A) A) RX2 [(0, .ref q1), (1, .ref q2)] rfl (by decide +kernel) rfl (Nat.le_of_ble_eq_true rfl) rfl ?_ sz
  intro p e s m args below meth c A Q hQ C hr hini
  refine zj_aload_n 1 1 C dX2_copyFrom_0 rfl rfl rfl ?_
  refine zj_get 4 4 0 C (T := TX2) im_X2_copyFrom_2 fl_X2_copyFrom_9 rfl rfl (by decide) rfl rfl dX2_copyFrom_1 rfl ?_
  refine zj_iconst 5 C dX2_copyFrom_4 rfl ?_
  refine zj_aload_n 6 0 C dX2_copyFrom_5 rfl rfl rfl ?_
  refine zj_get 9 0 0 C (T := TX2) im_X2_copyFrom_2 fl_X2_copyFrom_9 rfl rfl (by decide) rfl rfl dX2_copyFrom_6 rfl ?_
  refine zj_iconst 10 C dX2_copyFrom_9 rfl ?_
  refine zj_bipush 12 C dX2_copyFrom_10 rfl rfl ?_
  refine zj_copy 15 5 1 [(q1, .inr (2, [.ref b1, .ref b2, .ref b3, .int (zI n1), .int (zI s1)])), (b1, .inl (cI, 24, .inl (zA (zCp k2 k1 24)))), (b2, .inl (cI, 24, .inl (zA w1))), (b3, .inl (cI, 24, .inl (zA t1))), (q2, .inr (2, [.ref d1, .ref d2, .ref d3, .int (zI n2), .int (zI s2)])), (d1, .inl (cI, 24, .inl (zA k2))), (d2, .inl (cI, 24, .inl (zA w2))), (d3, .inl (cI, 24, .inl (zA t2)))] C (nn := 24) rfl (by decide) (by decide) (by decide) rfl rfl rfl wl_X2_copyFrom_28 wcn_X2_copyFrom wcs_X2_copyFrom wci_X2_copyFrom (Nat.le_of_ble_eq_true rfl) (Nat.le_of_ble_eq_true rfl) rfl dX2_copyFrom_12 rfl ?_
  refine zj_aload_n 16 1 C dX2_copyFrom_15 rfl rfl rfl ?_
  refine zj_get 19 4 1 C (T := TX2) im_X2_copyFrom_2 fl_X2_copyFrom_15 rfl rfl (by decide) rfl rfl dX2_copyFrom_16 rfl ?_
  refine zj_iconst 20 C dX2_copyFrom_19 rfl ?_
  refine zj_aload_n 21 0 C dX2_copyFrom_20 rfl rfl rfl ?_
  refine zj_get 24 0 1 C (T := TX2) im_X2_copyFrom_2 fl_X2_copyFrom_15 rfl rfl (by decide) rfl rfl dX2_copyFrom_21 rfl ?_
  refine zj_iconst 25 C dX2_copyFrom_24 rfl ?_
  refine zj_bipush 27 C dX2_copyFrom_25 rfl rfl ?_
  refine zj_copy 30 6 2 [(q1, .inr (2, [.ref b1, .ref b2, .ref b3, .int (zI n1), .int (zI s1)])), (b1, .inl (cI, 24, .inl (zA (zCp k2 k1 24)))), (b2, .inl (cI, 24, .inl (zA (zCp w2 w1 24)))), (b3, .inl (cI, 24, .inl (zA t1))), (q2, .inr (2, [.ref d1, .ref d2, .ref d3, .int (zI n2), .int (zI s2)])), (d1, .inl (cI, 24, .inl (zA k2))), (d2, .inl (cI, 24, .inl (zA w2))), (d3, .inl (cI, 24, .inl (zA t2)))] C (nn := 24) rfl (by decide) (by decide) (by decide) rfl rfl rfl wl_X2_copyFrom_28 wcn_X2_copyFrom wcs_X2_copyFrom wci_X2_copyFrom (Nat.le_of_ble_eq_true rfl) (Nat.le_of_ble_eq_true rfl) rfl dX2_copyFrom_27 rfl ?_
  refine zj_aload_n 31 1 C dX2_copyFrom_30 rfl rfl rfl ?_
  refine zj_get 34 4 2 C (T := TX2) im_X2_copyFrom_2 fl_X2_copyFrom_18 rfl rfl (by decide) rfl rfl dX2_copyFrom_31 rfl ?_
  refine zj_iconst 35 C dX2_copyFrom_34 rfl ?_
  refine zj_aload_n 36 0 C dX2_copyFrom_35 rfl rfl rfl ?_
  refine zj_get 39 0 2 C (T := TX2) im_X2_copyFrom_2 fl_X2_copyFrom_18 rfl rfl (by decide) rfl rfl dX2_copyFrom_36 rfl ?_
  refine zj_iconst 40 C dX2_copyFrom_39 rfl ?_
  refine zj_bipush 42 C dX2_copyFrom_40 rfl rfl ?_
  refine zj_copy 45 7 3 [(q1, .inr (2, [.ref b1, .ref b2, .ref b3, .int (zI n1), .int (zI s1)])), (b1, .inl (cI, 24, .inl (zA (zCp k2 k1 24)))), (b2, .inl (cI, 24, .inl (zA (zCp w2 w1 24)))), (b3, .inl (cI, 24, .inl (zA (zCp t2 t1 24)))), (q2, .inr (2, [.ref d1, .ref d2, .ref d3, .int (zI n2), .int (zI s2)])), (d1, .inl (cI, 24, .inl (zA k2))), (d2, .inl (cI, 24, .inl (zA w2))), (d3, .inl (cI, 24, .inl (zA t2)))] C (nn := 24) rfl (by decide) (by decide) (by decide) rfl rfl rfl wl_X2_copyFrom_28 wcn_X2_copyFrom wcs_X2_copyFrom wci_X2_copyFrom (Nat.le_of_ble_eq_true rfl) (Nat.le_of_ble_eq_true rfl) rfl dX2_copyFrom_42 rfl ?_
  refine zj_aload_n 46 0 C dX2_copyFrom_45 rfl rfl rfl ?_
  refine zj_aload_n 47 1 C dX2_copyFrom_46 rfl rfl rfl ?_
  refine zj_get 50 4 3 C (T := TX2) im_X2_copyFrom_2 fl_X2_copyFrom_21 rfl rfl (by decide) rfl rfl dX2_copyFrom_47 rfl ?_
  refine zj_put 53 0 3 [(q1, .inr (2, [.ref b1, .ref b2, .ref b3, .int (zI n2), .int (zI s1)])), (b1, .inl (cI, 24, .inl (zA (zCp k2 k1 24)))), (b2, .inl (cI, 24, .inl (zA (zCp w2 w1 24)))), (b3, .inl (cI, 24, .inl (zA (zCp t2 t1 24)))), (q2, .inr (2, [.ref d1, .ref d2, .ref d3, .int (zI n2), .int (zI s2)])), (d1, .inl (cI, 24, .inl (zA k2))), (d2, .inl (cI, 24, .inl (zA w2))), (d3, .inl (cI, 24, .inl (zA t2)))] C (T := TX2) tyX2 tyX2_ok nmX2 im_X2_copyFrom_2 fl_X2_copyFrom_21 rfl rfl (by decide) rfl rfl rfl rfl rfl (Nat.le_of_ble_eq_true rfl) rfl dX2_copyFrom_50 rfl ?_
  refine zj_aload_n 54 0 C dX2_copyFrom_53 rfl rfl rfl ?_
  refine zj_aload_n 55 1 C dX2_copyFrom_54 rfl rfl rfl ?_
  refine zj_get 58 4 4 C (T := TX2) im_X2_copyFrom_2 fl_X2_copyFrom_25 rfl rfl (by decide) rfl rfl dX2_copyFrom_55 rfl ?_
  refine zj_put 61 0 4 [(q1, .inr (2, [.ref b1, .ref b2, .ref b3, .int (zI n2), .int (zI s2)])), (b1, .inl (cI, 24, .inl (zA (zCp k2 k1 24)))), (b2, .inl (cI, 24, .inl (zA (zCp w2 w1 24)))), (b3, .inl (cI, 24, .inl (zA (zCp t2 t1 24)))), (q2, .inr (2, [.ref d1, .ref d2, .ref d3, .int (zI n2), .int (zI s2)])), (d1, .inl (cI, 24, .inl (zA k2))), (d2, .inl (cI, 24, .inl (zA w2))), (d3, .inl (cI, 24, .inl (zA t2)))] C (T := TX2) tyX2 tyX2_ok nmX2 im_X2_copyFrom_2 fl_X2_copyFrom_25 rfl rfl (by decide) rfl rfl rfl rfl rfl (Nat.le_of_ble_eq_true rfl) rfl dX2_copyFrom_58 rfl ?_
  subst hQ
  exact zj_return C hr rfl (by decide) (by decide) dX2_copyFrom_61

theorem wl_X2_init_3 : Cond.methodLink RX2 3 objectInit ∈ wsX2_init := by decide +kernel
theorem wi_X2_init_obj : Cond.instanceMethod objectInit ∈ wsX2_init := by decide +kernel
theorem wo_X2_init_obj : Cond.code objectInit ⟨#[0xb1]⟩ 1 none ∈ wsX2_init := by decide +kernel
theorem wa_X2_init_i : Cond.arrayClass .int ∈ wsX2_init := by decide +kernel
theorem fl_X2_init_9 : Cond.fieldLink RX2 9 "SplashPages$Story" "kinds" "[I" ∈ wsX2_init := by decide +kernel
theorem im_X2_init_2 : ∀ w ∈ u_ws RX2 TX2 5, w ∈ wsX2_init := by decide +kernel
theorem fl_X2_init_15 : Cond.fieldLink RX2 15 "SplashPages$Story" "widths" "[I" ∈ wsX2_init := by decide +kernel
theorem fl_X2_init_18 : Cond.fieldLink RX2 18 "SplashPages$Story" "beats" "[I" ∈ wsX2_init := by decide +kernel
theorem fl_X2_init_21 : Cond.fieldLink RX2 21 "SplashPages$Story" "size" "I" ∈ wsX2_init := by decide +kernel
theorem fl_X2_init_25 : Cond.fieldLink RX2 25 "SplashPages$Story" "setting" "I" ∈ wsX2_init := by decide +kernel
abbrev rm_X2_init : Room := { frames := 1, cells := 3, slots := 72, locals := 12 }
set_option maxRecDepth 100000 in
set_option maxHeartbeats 4000000 in
theorem c_X2_init (l : Launch) (D : va_G) (cI cS cJ : ClassId) (q1 : Nat) : zMv l yX2_init wsX2_init rm_X2_init D (zTy cI cS cJ) [.ref q1] [(q1, .inr (2, [.null, .null, .null, .int (zI 0), .int (zI 0)]))] (fun w => ∃ (b1 : Nat), ∃ (b2 : Nat), ∃ (b3 : Nat), w = [(q1, .inr (2, [.ref b1, .ref b2, .ref b3, .int (zI 0), .int (zI 30)])), (b1, .inl (cI, 24, .inl (zA (fun _ => 0)))), (b2, .inl (cI, 24, .inl (zA (fun _ => 0)))), (b3, .inl (cI, 24, .inl (zA (fun _ => 0))))]) 3 72 := by
  intro sz
  refine zMet_of (Qc := fun A => va_Qv _ (zB D (zTy cI cS cJ) A) A) RX2 [(0, .ref q1)] rfl (by decide +kernel) rfl (Nat.le_of_ble_eq_true rfl) rfl ?_ sz
  intro p e s m args below meth c A Q hQ C hr hini
  refine zj_aload_n 1 0 C dX2_init_0 rfl rfl rfl ?_
  refine zj_objInit 4 C wl_X2_init_3 wi_X2_init_obj wo_X2_init_obj (Nat.le_of_ble_eq_true rfl) (Nat.le_of_ble_eq_true rfl) dX2_init_1 rfl ?_
  refine zj_aload_n 5 0 C dX2_init_4 rfl rfl rfl ?_
  refine zj_bipush 7 C dX2_init_5 rfl rfl ?_
  refine zj_newi 9 1 24 (fun q7 => [(q1, .inr (2, [.null, .null, .null, .int (zI 0), .int (zI 0)])), (q7, .inl (cI, 24, .inl (zA (fun _ => 0))))]) C (N' := 24) rfl wa_X2_init_i rfl (by decide) rfl rfl ⟨Nat.le_of_ble_eq_true rfl, Nat.le_of_ble_eq_true rfl⟩ (fun _ => rfl) dX2_init_7 rfl (fun q7 => ?_)
  refine zj_putF 12 0 0 [(q1, .inr (2, [.ref q7, .null, .null, .int (zI 0), .int (zI 0)])), (q7, .inl (cI, 24, .inl (zA (fun _ => 0))))] C (T := TX2) tyX2 tyX2_ok nmX2 im_X2_init_2 fl_X2_init_9 rfl rfl (by decide) rfl rfl (hini rfl) rfl rfl rfl rfl (Nat.le_of_ble_eq_true rfl) rfl dX2_init_9 rfl ?_
  refine zj_aload_n 13 0 C dX2_init_12 rfl rfl rfl ?_
  refine zj_bipush 15 C dX2_init_13 rfl rfl ?_
  refine zj_newi 17 2 48 (fun q15 => [(q1, .inr (2, [.ref q7, .null, .null, .int (zI 0), .int (zI 0)])), (q7, .inl (cI, 24, .inl (zA (fun _ => 0)))), (q15, .inl (cI, 24, .inl (zA (fun _ => 0))))]) C (N' := 24) rfl wa_X2_init_i rfl (by decide) rfl rfl ⟨Nat.le_of_ble_eq_true rfl, Nat.le_of_ble_eq_true rfl⟩ (fun _ => rfl) dX2_init_15 rfl (fun q15 => ?_)
  refine zj_putF 20 0 1 [(q1, .inr (2, [.ref q7, .ref q15, .null, .int (zI 0), .int (zI 0)])), (q7, .inl (cI, 24, .inl (zA (fun _ => 0)))), (q15, .inl (cI, 24, .inl (zA (fun _ => 0))))] C (T := TX2) tyX2 tyX2_ok nmX2 im_X2_init_2 fl_X2_init_15 rfl rfl (by decide) rfl rfl (hini rfl) rfl rfl rfl rfl (Nat.le_of_ble_eq_true rfl) rfl dX2_init_17 rfl ?_
  refine zj_aload_n 21 0 C dX2_init_20 rfl rfl rfl ?_
  refine zj_bipush 23 C dX2_init_21 rfl rfl ?_
  refine zj_newi 25 3 72 (fun q23 => [(q1, .inr (2, [.ref q7, .ref q15, .null, .int (zI 0), .int (zI 0)])), (q7, .inl (cI, 24, .inl (zA (fun _ => 0)))), (q15, .inl (cI, 24, .inl (zA (fun _ => 0)))), (q23, .inl (cI, 24, .inl (zA (fun _ => 0))))]) C (N' := 24) rfl wa_X2_init_i rfl (by decide) rfl rfl ⟨Nat.le_of_ble_eq_true rfl, Nat.le_of_ble_eq_true rfl⟩ (fun _ => rfl) dX2_init_23 rfl (fun q23 => ?_)
  refine zj_putF 28 0 2 [(q1, .inr (2, [.ref q7, .ref q15, .ref q23, .int (zI 0), .int (zI 0)])), (q7, .inl (cI, 24, .inl (zA (fun _ => 0)))), (q15, .inl (cI, 24, .inl (zA (fun _ => 0)))), (q23, .inl (cI, 24, .inl (zA (fun _ => 0))))] C (T := TX2) tyX2 tyX2_ok nmX2 im_X2_init_2 fl_X2_init_18 rfl rfl (by decide) rfl rfl (hini rfl) rfl rfl rfl rfl (Nat.le_of_ble_eq_true rfl) rfl dX2_init_25 rfl ?_
  refine zj_aload_n 29 0 C dX2_init_28 rfl rfl rfl ?_
  refine zj_iconst 30 C dX2_init_29 rfl ?_
  refine zj_put 33 0 3 [(q1, .inr (2, [.ref q7, .ref q15, .ref q23, .int (zI 0), .int (zI 0)])), (q7, .inl (cI, 24, .inl (zA (fun _ => 0)))), (q15, .inl (cI, 24, .inl (zA (fun _ => 0)))), (q23, .inl (cI, 24, .inl (zA (fun _ => 0))))] C (T := TX2) tyX2 tyX2_ok nmX2 im_X2_init_2 fl_X2_init_21 rfl rfl (by decide) rfl rfl rfl rfl rfl (Nat.le_of_ble_eq_true rfl) rfl dX2_init_30 rfl ?_
  refine zj_aload_n 34 0 C dX2_init_33 rfl rfl rfl ?_
  refine zj_bipush 36 C dX2_init_34 rfl rfl ?_
  refine zj_put 39 0 4 [(q1, .inr (2, [.ref q7, .ref q15, .ref q23, .int (zI 0), .int (zI 30)])), (q7, .inl (cI, 24, .inl (zA (fun _ => 0)))), (q15, .inl (cI, 24, .inl (zA (fun _ => 0)))), (q23, .inl (cI, 24, .inl (zA (fun _ => 0))))] C (T := TX2) tyX2 tyX2_ok nmX2 im_X2_init_2 fl_X2_init_25 rfl rfl (by decide) rfl rfl rfl rfl rfl (Nat.le_of_ble_eq_true rfl) rfl dX2_init_36 rfl ?_
  subst hQ
  exact zj_return C hr ⟨q7, q15, q23, rfl⟩ (by decide) (by decide) dX2_init_39
