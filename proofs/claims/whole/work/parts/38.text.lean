def zKd (c : Int) : Int := if c = 98 then 1 else if c = 100 then 3 else if c = 112 then 0 else if c = 115 then 2 else -1
def zAk (k : Int) : Int := if k = 0 then 1 else if k = 1 then 1 else if k = 2 then 2 else if k = 3 then 2 else -1
def zAw (a c : Int) : Int := if a = 0 then zAk (zKd c) else if a = 1 then (if 1 ≤ c - 48 ∧ c - 48 ≤ 6 then 2 else -1) else if a = 2 then (if 1 ≤ c - 48 ∧ c - 48 ≤ 9 then 0 else -1) else -1
def zRun (F : Int → Int) : Nat → Int | 0 => 0 | k + 1 => zAw (zRun F k) (F k)
def zErr (F : Int → Int) : Nat → Nat → Int | 0, i => i | m + 1, i => if zAw (zRun F i) (F i) = -1 then i else zErr F m (i + 1)
abbrev zTs : Type := (Int × Int × Int) × Int × (Int → Int) × (Int → Int) × (Int → Int)
/-- a character of the text laid to the story -/
def zTx1 (c : Int) (t : zTs) : zTs :=
  if 24 ≤ t.2.1 then t else if t.1.1 = 0 then ((zAw t.1.1 c, zKd c, 6), t.2) else if t.1.1 = 1 then ((zAw t.1.1 c, t.1.2.1, c - 48), t.2)
  else ((zAw t.1.1 c, t.1.2), t.2.1 + 1, zIns t.2.2.1 t.2.1 t.1.2.1, zIns t.2.2.2.1 t.2.1 t.1.2.2, zIns t.2.2.2.2 t.2.1 (c - 48))
def zTx (F : Int → Int) (t : zTs) : Nat → zTs | 0 => t | k + 1 => zTx1 (F k) (zTx F t k)
theorem zKd_b (c : Int) : -1 ≤ zKd c ∧ zKd c ≤ 3 := by unfold zKd; (repeat' split) <;> omega
theorem zAk_b (k : Int) : -1 ≤ zAk k ∧ zAk k ≤ 2 := by unfold zAk; (repeat' split) <;> omega
theorem zAw_b (a c : Int) : -1 ≤ zAw a c ∧ zAw a c ≤ 2 := by have h := zAk_b (zKd c); unfold zAw; (repeat' split) <;> omega
theorem zRun_b (F : Int → Int) (k : Nat) : -1 ≤ zRun F k ∧ zRun F k ≤ 2 := by cases k with | zero => exact ⟨by show (-1 : Int) ≤ 0; omega, by show (0 : Int) ≤ 2; omega⟩ | succ k => exact zAw_b _ _
theorem zTx_full (F : Int → Int) (t : zTs) (k : Nat) (h : 24 ≤ (zTx F t k).2.1) : ∀ m : Nat, zTx F t (k + m) = zTx F t k
  | 0 => rfl
  | m + 1 => by show zTx1 _ (zTx F t (k + m)) = _; rw [zTx_full F t k h m]; unfold zTx1; rw [if_pos h]
def zHm (h : Int64) (v : Int) : Int64 := 31 * h + (zI v).toInt64
def zHf (f : Int → Int) : Nat → Int64 → Int64 | 0, h => h | k + 1, h => zHm (zHf f k h) (f k)
def zPgN (c b f s e : Int → Int) (us p x : Int) : Int := zPgF x (c p) (b p) (24 - f p) (if 0 < c p then s p else -1) (if ¬ 0 < c p ∧ p < us then 1 else 0) (e p)

abbrev rm_X3_kindOf : Room := { frames := 0, cells := 0, slots := 0, locals := 0 }
set_option maxRecDepth 100000 in
set_option maxHeartbeats 4000000 in
theorem c_X3_kindOf (l : Launch) (D : va_G) (cI cS cJ : ClassId) (x1 : Int) (hx : -1000000 ≤ x1 ∧ x1 ≤ 1000000) : zMi l yX3_kindOf wsX3_kindOf rm_X3_kindOf D (zTy cI cS cJ) [.int (zI x1)] [] (fun r w => r = zI (zKd x1) ∧ w = []) 0 0 := by
  intro sz
  refine zMet_of (Qc := fun A => va_Qi _ (zB D (zTy cI cS cJ) A) A) RX3 [(0, .int (zI x1))] rfl (by decide +kernel) rfl (Nat.le_of_ble_eq_true rfl) rfl ?_ sz
  intro p e s m args below meth c A Q hQ C hr hini
  refine zj_iload_n 1 0 C dX3_kindOf_0 rfl rfl rfl ?_
  by_cases h_1 : x1 = 98
  · refine zj_lookup (a := x1) (off := 45) 46 C (by omega) dX3_kindOf_1 (by decide) (by rw [h_1]; rfl) (by decide) ?_
    refine zj_iconst 47 C dX3_kindOf_46 rfl ?_
    refine zj_st (st' := [.int (zI (zKd x1))]) (by unfold zKd; rw [if_pos (by omega)]) ?_
    subst hQ
    exact zj_ireturn C hr ⟨rfl, rfl⟩ (by decide) (by decide) dX3_kindOf_47
  by_cases h_2 : x1 = 100
  · refine zj_lookup (a := x1) (off := 49) 50 C (by omega) dX3_kindOf_1 (by decide) (by rw [h_2]; rfl) (by decide) ?_
    refine zj_iconst 51 C dX3_kindOf_50 rfl ?_
    refine zj_st (st' := [.int (zI (zKd x1))]) (by unfold zKd; rw [if_neg (by omega), if_pos (by omega)]) ?_
    subst hQ
    exact zj_ireturn C hr ⟨rfl, rfl⟩ (by decide) (by decide) dX3_kindOf_51
  by_cases h_3 : x1 = 112
  · refine zj_lookup (a := x1) (off := 43) 44 C (by omega) dX3_kindOf_1 (by decide) (by rw [h_3]; rfl) (by decide) ?_
    refine zj_iconst 45 C dX3_kindOf_44 rfl ?_
    refine zj_st (st' := [.int (zI (zKd x1))]) (by unfold zKd; rw [if_neg (by omega), if_neg (by omega), if_pos (by omega)]) ?_
    subst hQ
    exact zj_ireturn C hr ⟨rfl, rfl⟩ (by decide) (by decide) dX3_kindOf_45
  by_cases h_4 : x1 = 115
  · refine zj_lookup (a := x1) (off := 47) 48 C (by omega) dX3_kindOf_1 (by decide) (by rw [h_4]; rfl) (by decide) ?_
    refine zj_iconst 49 C dX3_kindOf_48 rfl ?_
    refine zj_st (st' := [.int (zI (zKd x1))]) (by unfold zKd; rw [if_neg (by omega), if_neg (by omega), if_neg (by omega), if_pos (by omega)]) ?_
    subst hQ
    exact zj_ireturn C hr ⟨rfl, rfl⟩ (by decide) (by decide) dX3_kindOf_49
  refine zj_lookup (a := x1) (off := 51) 52 C (by omega) dX3_kindOf_1 (by decide) (by simp [Op.lookupswitch.offset, h_1, h_2, h_3, h_4]; try omega) (by decide) ?_
  refine zj_iconst 53 C dX3_kindOf_52 rfl ?_
  refine zj_st (st' := [.int (zI (zKd x1))]) (by unfold zKd; rw [if_neg (by omega), if_neg (by omega), if_neg (by omega), if_neg (by omega)]) ?_
  subst hQ
  exact zj_ireturn C hr ⟨rfl, rfl⟩ (by decide) (by decide) dX3_kindOf_53

abbrev rm_X3_awaitedBehindKind : Room := { frames := 0, cells := 0, slots := 0, locals := 0 }
set_option maxRecDepth 100000 in
set_option maxHeartbeats 4000000 in
theorem c_X3_awaitedBehindKind (l : Launch) (D : va_G) (cI cS cJ : ClassId) (x1 : Int) (hx : -1000000 ≤ x1 ∧ x1 ≤ 1000000) : zMi l yX3_awaitedBehindKind wsX3_awaitedBehindKind rm_X3_awaitedBehindKind D (zTy cI cS cJ) [.int (zI x1)] [] (fun r w => r = zI (zAk x1) ∧ w = []) 0 0 := by
  intro sz
  refine zMet_of (Qc := fun A => va_Qi _ (zB D (zTy cI cS cJ) A) A) RX3 [(0, .int (zI x1))] rfl (by decide +kernel) rfl (Nat.le_of_ble_eq_true rfl) rfl ?_ sz
  intro p e s m args below meth c A Q hQ C hr hini
  refine zj_iload_n 1 0 C dX3_awaitedBehindKind_0 rfl rfl rfl ?_
  by_cases h_1 : x1 = 0
  · refine zj_tabIn (a := x1) (off := 31) 32 C (by omega) dX3_awaitedBehindKind_1 (by omega) (by omega) (by rw [h_1]; rfl) (by decide) ?_
    refine zj_iconst 33 C dX3_awaitedBehindKind_32 rfl ?_
    refine zj_st (st' := [.int (zI (zAk x1))]) (by unfold zAk; rw [if_pos (by omega)]) ?_
    subst hQ
    exact zj_ireturn C hr ⟨rfl, rfl⟩ (by decide) (by decide) dX3_awaitedBehindKind_33
  by_cases h_2 : x1 = 1
  · refine zj_tabIn (a := x1) (off := 31) 32 C (by omega) dX3_awaitedBehindKind_1 (by omega) (by omega) (by rw [h_2]; rfl) (by decide) ?_
    refine zj_iconst 33 C dX3_awaitedBehindKind_32 rfl ?_
    refine zj_st (st' := [.int (zI (zAk x1))]) (by unfold zAk; rw [if_neg (by omega), if_pos (by omega)]) ?_
    subst hQ
    exact zj_ireturn C hr ⟨rfl, rfl⟩ (by decide) (by decide) dX3_awaitedBehindKind_33
  by_cases h_3 : x1 = 2
  · refine zj_tabIn (a := x1) (off := 33) 34 C (by omega) dX3_awaitedBehindKind_1 (by omega) (by omega) (by rw [h_3]; rfl) (by decide) ?_
    refine zj_iconst 35 C dX3_awaitedBehindKind_34 rfl ?_
    refine zj_st (st' := [.int (zI (zAk x1))]) (by unfold zAk; rw [if_neg (by omega), if_neg (by omega), if_pos (by omega)]) ?_
    subst hQ
    exact zj_ireturn C hr ⟨rfl, rfl⟩ (by decide) (by decide) dX3_awaitedBehindKind_35
  by_cases h_4 : x1 = 3
  · refine zj_tabIn (a := x1) (off := 33) 34 C (by omega) dX3_awaitedBehindKind_1 (by omega) (by omega) (by rw [h_4]; rfl) (by decide) ?_
    refine zj_iconst 35 C dX3_awaitedBehindKind_34 rfl ?_
    refine zj_st (st' := [.int (zI (zAk x1))]) (by unfold zAk; rw [if_neg (by omega), if_neg (by omega), if_neg (by omega), if_pos (by omega)]) ?_
    subst hQ
    exact zj_ireturn C hr ⟨rfl, rfl⟩ (by decide) (by decide) dX3_awaitedBehindKind_35
  refine zj_tabOut (a := x1) 36 C (by omega) dX3_awaitedBehindKind_1 (by omega) (by decide) ?_
  refine zj_iconst 37 C dX3_awaitedBehindKind_36 rfl ?_
  refine zj_st (st' := [.int (zI (zAk x1))]) (by unfold zAk; rw [if_neg (by omega), if_neg (by omega), if_neg (by omega), if_neg (by omega)]) ?_
  subst hQ
  exact zj_ireturn C hr ⟨rfl, rfl⟩ (by decide) (by decide) dX3_awaitedBehindKind_37

theorem wn_X3_awaitedBehind_RX4 : Cond.initialized RX4 ∈ wsX3_awaitedBehind := by decide +kernel
theorem nm_RX3_34 : Cond.methodLinkNest RX3 34 yX4_isWithin "SplashPages" ∈ zNW := by decide +kernel
theorem wst_X3_awaitedBehind_X4_isWithin : Cond.static yX4_isWithin ∈ wsX3_awaitedBehind := by decide +kernel
abbrev rm_X3_awaitedBehind : Room := { frames := 1, cells := 0, slots := 0, locals := 22 }
set_option maxRecDepth 100000 in
set_option maxHeartbeats 4000000 in
theorem c_X3_awaitedBehind (l : Launch) (D : va_G) (cI cS cJ : ClassId) (x1 : Int) (x2 : Int) (hx : -1000000 ≤ x1 ∧ x1 ≤ 1000000) (hy : -1000000 ≤ x2 ∧ x2 ≤ 1000000) : zMi l yX3_awaitedBehind wsX3_awaitedBehind rm_X3_awaitedBehind D (zTy cI cS cJ) [.int (zI x1), .int (zI x2)] [] (fun r w => r = zI (zAw x1 x2) ∧ w = []) 0 0 := by
  intro sz
  refine zMet_of (Qc := fun A => va_Qi _ (zB D (zTy cI cS cJ) A) A) RX3 [(0, .int (zI x1)), (1, .int (zI x2))] rfl (by decide +kernel) rfl (Nat.le_of_ble_eq_true rfl) rfl ?_ sz
  intro p e s m args below meth c A Q hQ C hr hini
  refine zj_iload_n 1 0 C dX3_awaitedBehind_0 rfl rfl rfl ?_
  by_cases h_1 : x1 = 0
  · refine zj_tabIn (a := x1) (off := 27) 28 C (by omega) dX3_awaitedBehind_1 (by omega) (by omega) (by rw [h_1]; rfl) (by decide) ?_
    have hkb := zKd_b x2
    refine zj_iload_n 29 1 C dX3_awaitedBehind_28 rfl rfl rfl ?_
    refine zj_ci 32 [] [] C (wr := []) (zr_S [] C (As := [.int (zI x2)]) (rest := []) (c_X3_kindOf l D cI cS cJ x2 (by omega)) (va_cwS 1 C.1.2.2.2.2 gX3_awaitedBehind_X3_kindOf rfl rfl rfl (by decide +kernel) ⟨Nat.le_of_ble_eq_true rfl, Nat.le_of_ble_eq_true rfl⟩) rfl (by decide) rfl rfl (Nat.le_of_ble_eq_true rfl) dX3_awaitedBehind_29 ⟨Nat.le_of_ble_eq_true rfl, Nat.le_of_ble_eq_true rfl⟩) rfl rfl (by decide) (by decide) rfl (fun r_2 w_ hp_3 => ?_)
    obtain ⟨rfl, rfl⟩ := hp_3
    refine zj_ws (ws' := []) rfl ?_
    refine zj_ci 35 [] [] C (wr := []) (zr_S [] C (As := [.int (zI (zKd x2))]) (rest := []) (c_X3_awaitedBehindKind l D cI cS cJ (zKd x2) (by omega)) (va_cwS 1 C.1.2.2.2.2 gX3_awaitedBehind_X3_awaitedBehindKind rfl rfl rfl (by decide +kernel) ⟨Nat.le_of_ble_eq_true rfl, Nat.le_of_ble_eq_true rfl⟩) rfl (by decide) rfl rfl (Nat.le_of_ble_eq_true rfl) dX3_awaitedBehind_32 ⟨Nat.le_of_ble_eq_true rfl, Nat.le_of_ble_eq_true rfl⟩) rfl rfl (by decide) (by decide) rfl (fun r_4 w_ hp_5 => ?_)
    obtain ⟨rfl, rfl⟩ := hp_5
    refine zj_ws (ws' := []) rfl ?_
    refine zj_st (st' := [.int (zI (zAw x1 x2))]) (by unfold zAw; rw [if_pos (by omega)]) ?_
    subst hQ
    exact zj_ireturn C hr ⟨rfl, rfl⟩ (by decide) (by decide) dX3_awaitedBehind_35
  by_cases h_6 : x1 = 1
  · refine zj_tabIn (a := x1) (off := 35) 36 C (by omega) dX3_awaitedBehind_1 (by omega) (by omega) (by rw [h_6]; rfl) (by decide) ?_
    refine zj_iload_n 37 1 C dX3_awaitedBehind_36 rfl rfl rfl ?_
    refine zj_bipush 39 C dX3_awaitedBehind_37 rfl rfl ?_
    refine zj_isub 40 C dX3_awaitedBehind_39 rfl ?_
    refine zj_iconst 41 C dX3_awaitedBehind_40 rfl ?_
    refine zj_bipush 43 C dX3_awaitedBehind_41 rfl rfl ?_
    refine zj_ci 46 [] [] C (wr := []) (zr_SN [] C (As := [.int (zI (x2 - 48)), .int (zI 1), .int (zI 6)]) (rest := []) (c_X4_isWithin l D cI cS cJ (x2 - 48) 1 6 (by omega) (by omega) (by omega)) (⟨va_cnB 3 C.1.2.2.2.2 gX3_awaitedBehind_X4_isWithin_n34 rfl rfl rfl (C.2.2.2.2.1 _ nm_RX3_34) (C.1.2.2.2.2 _ wn_X3_awaitedBehind_RX4) (by decide +kernel) ⟨Nat.le_of_ble_eq_true rfl, Nat.le_of_ble_eq_true rfl⟩, C.1.2.2.2.2 _ wst_X3_awaitedBehind_X4_isWithin, trivial⟩) rfl (by decide) rfl rfl (Nat.le_of_ble_eq_true rfl) dX3_awaitedBehind_43 ⟨Nat.le_of_ble_eq_true rfl, Nat.le_of_ble_eq_true rfl⟩) rfl rfl (by decide) (by decide) rfl (fun r_7 w_ hp_8 => ?_)
    obtain ⟨r1_9, f_10, rfl, rfl⟩ := hp_8
    refine zj_ws (ws' := []) rfl ?_
    refine zj_if_eq 49 53 C (by omega) dX3_awaitedBehind_46 rfl (by decide) (fun h_11 => ?_) (fun h_11 => ?_)
    · skip
      refine zj_iconst 54 C dX3_awaitedBehind_53 rfl ?_
      refine zj_st (st' := [.int (zI (zAw x1 x2))]) (by unfold zAw; rw [if_neg (by omega), if_pos (by omega)]; rw [if_neg (by omega)]) ?_
      subst hQ
      exact zj_ireturn C hr ⟨rfl, rfl⟩ (by decide) (by decide) dX3_awaitedBehind_54
    · skip
      refine zj_iconst 50 C dX3_awaitedBehind_49 rfl ?_
      refine zj_goto 54 C dX3_awaitedBehind_50 (by decide) ?_
      refine zj_st (st' := [.int (zI (zAw x1 x2))]) (by unfold zAw; rw [if_neg (by omega), if_pos (by omega)]; rw [if_pos (by omega)]) ?_
      subst hQ
      exact zj_ireturn C hr ⟨rfl, rfl⟩ (by decide) (by decide) dX3_awaitedBehind_54
  by_cases h_12 : x1 = 2
  · refine zj_tabIn (a := x1) (off := 54) 55 C (by omega) dX3_awaitedBehind_1 (by omega) (by omega) (by rw [h_12]; rfl) (by decide) ?_
    refine zj_iload_n 56 1 C dX3_awaitedBehind_55 rfl rfl rfl ?_
    refine zj_bipush 58 C dX3_awaitedBehind_56 rfl rfl ?_
    refine zj_isub 59 C dX3_awaitedBehind_58 rfl ?_
    refine zj_iconst 60 C dX3_awaitedBehind_59 rfl ?_
    refine zj_bipush 62 C dX3_awaitedBehind_60 rfl rfl ?_
    refine zj_ci 65 [] [] C (wr := []) (zr_SN [] C (As := [.int (zI (x2 - 48)), .int (zI 1), .int (zI 9)]) (rest := []) (c_X4_isWithin l D cI cS cJ (x2 - 48) 1 9 (by omega) (by omega) (by omega)) (⟨va_cnB 3 C.1.2.2.2.2 gX3_awaitedBehind_X4_isWithin_n34 rfl rfl rfl (C.2.2.2.2.1 _ nm_RX3_34) (C.1.2.2.2.2 _ wn_X3_awaitedBehind_RX4) (by decide +kernel) ⟨Nat.le_of_ble_eq_true rfl, Nat.le_of_ble_eq_true rfl⟩, C.1.2.2.2.2 _ wst_X3_awaitedBehind_X4_isWithin, trivial⟩) rfl (by decide) rfl rfl (Nat.le_of_ble_eq_true rfl) dX3_awaitedBehind_62 ⟨Nat.le_of_ble_eq_true rfl, Nat.le_of_ble_eq_true rfl⟩) rfl rfl (by decide) (by decide) rfl (fun r_13 w_ hp_14 => ?_)
    obtain ⟨r1_15, f_16, rfl, rfl⟩ := hp_14
    refine zj_ws (ws' := []) rfl ?_
    refine zj_if_eq 68 72 C (by omega) dX3_awaitedBehind_65 rfl (by decide) (fun h_17 => ?_) (fun h_17 => ?_)
    · skip
      refine zj_iconst 73 C dX3_awaitedBehind_72 rfl ?_
      refine zj_st (st' := [.int (zI (zAw x1 x2))]) (by unfold zAw; rw [if_neg (by omega), if_neg (by omega), if_pos (by omega)]; rw [if_neg (by omega)]) ?_
      subst hQ
      exact zj_ireturn C hr ⟨rfl, rfl⟩ (by decide) (by decide) dX3_awaitedBehind_73
    · skip
      refine zj_iconst 69 C dX3_awaitedBehind_68 rfl ?_
      refine zj_goto 73 C dX3_awaitedBehind_69 (by decide) ?_
      refine zj_st (st' := [.int (zI (zAw x1 x2))]) (by unfold zAw; rw [if_neg (by omega), if_neg (by omega), if_pos (by omega)]; rw [if_pos (by omega)]) ?_
      subst hQ
      exact zj_ireturn C hr ⟨rfl, rfl⟩ (by decide) (by decide) dX3_awaitedBehind_73
  refine zj_tabOut (a := x1) 74 C (by omega) dX3_awaitedBehind_1 (by omega) (by decide) ?_
  refine zj_iconst 75 C dX3_awaitedBehind_74 rfl ?_
  refine zj_st (st' := [.int (zI (zAw x1 x2))]) (by unfold zAw; rw [if_neg (by omega), if_neg (by omega), if_neg (by omega)]) ?_
  subst hQ
  exact zj_ireturn C hr ⟨rfl, rfl⟩ (by decide) (by decide) dX3_awaitedBehind_75

theorem fl_X3_add_15 : Cond.fieldLink RX3 15 "SplashPages$Text" "length" "I" ∈ wsX3_add := by decide +kernel
theorem im_X3_add_3 : ∀ w ∈ u_ws RX3 TX3 2, w ∈ wsX3_add := by decide +kernel
theorem fl_X3_add_9 : Cond.fieldLink RX3 9 "SplashPages$Text" "codes" "[I" ∈ wsX3_add := by decide +kernel
abbrev rm_X3_add : Room := { frames := 0, cells := 0, slots := 0, locals := 0 }
set_option maxRecDepth 100000 in
set_option maxHeartbeats 4000000 in
theorem c_X3_add (l : Launch) (D : va_G) (cI cS cJ : ClassId) (q1 : Nat) (b1 : Nat) (tl : Int) (F1 : Int → Int) (x1 : Int) (htl : 0 ≤ tl ∧ tl < 60) : zMv l yX3_add wsX3_add rm_X3_add D (zTy cI cS cJ) [.ref q1, .int (zI x1)] [(q1, .inr (3, [.ref b1, .int (zI tl)])), (b1, .inl (cI, 60, .inl (zA F1)))] (fun w => w = [(q1, .inr (3, [.ref b1, .int (zI (tl + 1))])), (b1, .inl (cI, 60, .inl (zA (zU F1 tl x1))))]) 0 0 := by
  intro sz
  refine zMet_of (Qc := fun A => va_Qv _ (zB D (zTy cI cS cJ) A) A) RX3 [(0, .ref q1), (1, .int (zI x1))] rfl (by decide +kernel) rfl (Nat.le_of_ble_eq_true rfl) rfl ?_ sz
  intro p e s m args below meth c A Q hQ C hr hini
  refine zj_aload_n 1 0 C dX3_add_0 rfl rfl rfl ?_
  refine zj_get 4 0 1 C (T := TX3) im_X3_add_3 fl_X3_add_15 rfl rfl (by decide) rfl rfl dX3_add_1 rfl ?_
  refine zj_if_lt 7 36 C (by omega) dX3_add_4 rfl (by decide) (fun h_1 => ?_) (fun h_1 => ?_)
  · exact absurd h_1 (by omega)
  · skip
    refine zj_aload_n 8 0 C dX3_add_7 rfl rfl rfl ?_
    refine zj_get 11 0 1 C (T := TX3) im_X3_add_3 fl_X3_add_15 rfl rfl (by decide) rfl rfl dX3_add_8 rfl ?_
    refine zj_bipush 13 C dX3_add_11 rfl rfl ?_
    refine zj_icmp_ge 16 36 C (by omega) (by omega) dX3_add_13 rfl (by decide) (fun h_2 => ?_) (fun h_2 => ?_)
    · exact absurd h_2 (by omega)
    · skip
      refine zj_aload_n 17 0 C dX3_add_16 rfl rfl rfl ?_
      refine zj_get 20 0 0 C (T := TX3) im_X3_add_3 fl_X3_add_9 rfl rfl (by decide) rfl rfl dX3_add_17 rfl ?_
      refine zj_aload_n 21 0 C dX3_add_20 rfl rfl rfl ?_
      refine zj_get 24 0 1 C (T := TX3) im_X3_add_3 fl_X3_add_15 rfl rfl (by decide) rfl rfl dX3_add_21 rfl ?_
      refine zj_iload_n 25 1 C dX3_add_24 rfl rfl rfl ?_
      refine zj_iast 26 1 [(q1, .inr (3, [.ref b1, .int (zI tl)])), (b1, .inl (cI, 60, .inl (zA (zU F1 tl x1))))] C (by omega) (by omega) rfl rfl rfl dX3_add_25 rfl ?_
      refine zj_aload_n 27 0 C dX3_add_26 rfl rfl rfl ?_
      refine zj_dup 28 C dX3_add_27 rfl rfl ?_
      refine zj_get 31 0 1 C (T := TX3) im_X3_add_3 fl_X3_add_15 rfl rfl (by decide) rfl rfl dX3_add_28 rfl ?_
      refine zj_iconst 32 C dX3_add_31 rfl ?_
      refine zj_iadd 33 C dX3_add_32 rfl ?_
      refine zj_put 36 0 1 [(q1, .inr (3, [.ref b1, .int (zI (tl + 1))])), (b1, .inl (cI, 60, .inl (zA (zU F1 tl x1))))] C (T := TX3) tyX3 tyX3_ok nmX3 im_X3_add_3 fl_X3_add_15 rfl rfl (by decide) rfl rfl rfl rfl rfl (Nat.le_of_ble_eq_true rfl) rfl dX3_add_33 rfl ?_
      subst hQ
      exact zj_return C hr rfl (by decide) (by decide) dX3_add_36

theorem fl_X3_indexOfError_15 : Cond.fieldLink RX3 15 "SplashPages$Text" "length" "I" ∈ wsX3_indexOfError := by decide +kernel
theorem im_X3_indexOfError_3 : ∀ w ∈ u_ws RX3 TX3 2, w ∈ wsX3_indexOfError := by decide +kernel
theorem fl_X3_indexOfError_9 : Cond.fieldLink RX3 9 "SplashPages$Text" "codes" "[I" ∈ wsX3_indexOfError := by decide +kernel
theorem wn_X3_indexOfError_RX4 : Cond.initialized RX4 ∈ wsX3_indexOfError := by decide +kernel
theorem nm_RX3_19 : Cond.methodLinkNest RX3 19 yX4_read "SplashPages" ∈ zNW := by decide +kernel
theorem wst_X3_indexOfError_X4_read : Cond.static yX4_read ∈ wsX3_indexOfError := by decide +kernel
abbrev rm_X3_indexOfError : Room := { frames := 2, cells := 0, slots := 0, locals := 43 }
set_option maxRecDepth 100000 in
set_option maxHeartbeats 4000000 in
theorem c_X3_indexOfError (l : Launch) (D : va_G) (cI cS cJ : ClassId) (q1 : Nat) (b1 : Nat) (tl : Int) (F1 : Int → Int) (htl : 0 ≤ tl ∧ tl ≤ 60) (htf : ∀ x, 0 ≤ x → x < tl → 0 ≤ F1 x ∧ F1 x ≤ 1000) : zMi l yX3_indexOfError wsX3_indexOfError rm_X3_indexOfError D (zTy cI cS cJ) [.ref q1] [(q1, .inr (3, [.ref b1, .int (zI tl)])), (b1, .inl (cI, 60, .inl (zA F1)))] (fun r w => r = zI (zErr F1 tl.toNat 0) ∧ w = [(q1, .inr (3, [.ref b1, .int (zI tl)])), (b1, .inl (cI, 60, .inl (zA F1)))]) 0 0 := by
  intro sz
  refine zMet_of (Qc := fun A => va_Qi _ (zB D (zTy cI cS cJ) A) A) RX3 [(0, .ref q1)] rfl (by decide +kernel) rfl (Nat.le_of_ble_eq_true rfl) rfl ?_ sz
  intro p e s m args below meth c A Q hQ C hr hini
  refine zj_iconst 1 C dX3_indexOfError_0 rfl ?_
  refine zj_istore_n 2 [(1, .int (zI 0)), (0, .ref q1)] C dX3_indexOfError_1 rfl rfl (by decide) rfl ?_
  refine zj_iconst 3 C dX3_indexOfError_2 rfl ?_
  refine zj_istore_n 4 [(2, .int (zI 0)), (1, .int (zI 0)), (0, .ref q1)] C dX3_indexOfError_3 rfl rfl (by decide) rfl ?_
  have hL4 : ∀ (N : Nat) (k : Nat), ((k : Int) ≤ tl) → (zErr F1 tl.toNat 0 = zErr F1 (tl.toNat - k) k) → (tl - (k : Int) < N) → zJ p l e rm_X3_indexOfError s m args below meth c Q D A 3 [(q1, .inr (3, [.ref b1, .int (zI tl)])), (b1, .inl (cI, 60, .inl (zA F1)))] 0 0 [(0, .ref q1), (1, .int (zI (zRun F1 k))), (2, .int (zI (k : Int)))] 4 [] := by
    intro N
    induction N with
    | zero => intro k hk he hN; exact absurd hN (by omega)
    | succ N ih =>
      intro k hk he hN
      refine zj_iload_n 5 2 C dX3_indexOfError_4 rfl rfl rfl ?_
      refine zj_aload_n 6 0 C dX3_indexOfError_5 rfl rfl rfl ?_
      refine zj_get 9 0 1 C (T := TX3) im_X3_indexOfError_3 fl_X3_indexOfError_15 rfl rfl (by decide) rfl rfl dX3_indexOfError_6 rfl ?_
      refine zj_icmp_ge 12 38 C (by omega) (by omega) dX3_indexOfError_9 rfl (by decide) (fun h9 => ?_) (fun h9 => ?_)
      · skip
        refine zj_aload_n 39 0 C dX3_indexOfError_38 rfl rfl rfl ?_
        refine zj_get 42 0 1 C (T := TX3) im_X3_indexOfError_3 fl_X3_indexOfError_15 rfl rfl (by decide) rfl rfl dX3_indexOfError_39 rfl ?_
        refine zj_st (st' := [.int (zI (zErr F1 tl.toNat 0))]) (by rw [he, show tl.toNat - k = 0 by omega, zErr, show tl = (k : Int) by omega]) ?_
        subst hQ
        exact zj_ireturn C hr ⟨rfl, rfl⟩ (by decide) (by decide) dX3_indexOfError_42
      · skip
        have hF := htf k (by omega) (by omega)
        have hr0 := zRun_b F1 k
        refine zj_iload_n 13 1 C dX3_indexOfError_12 rfl rfl rfl ?_
        refine zj_aload_n 14 0 C dX3_indexOfError_13 rfl rfl rfl ?_
        refine zj_get 17 0 0 C (T := TX3) im_X3_indexOfError_3 fl_X3_indexOfError_9 rfl rfl (by decide) rfl rfl dX3_indexOfError_14 rfl ?_
        refine zj_iload_n 18 2 C dX3_indexOfError_17 rfl rfl rfl ?_
        refine zj_ci 21 [1] [0] C (wr := [(q1, .inr (3, [.ref b1, .int (zI tl)]))]) (zr_SN [1] C (As := [.ref b1, .int (zI (k : Int))]) (rest := [.int (zI (zRun F1 k))]) (c_X4_read l D cI cS cJ b1 60 F1 (k : Int) (by omega) (by omega)) (⟨va_cnB 2 C.1.2.2.2.2 gX3_indexOfError_X4_read_n19 rfl rfl rfl (C.2.2.2.2.1 _ nm_RX3_19) (C.1.2.2.2.2 _ wn_X3_indexOfError_RX4) (by decide +kernel) ⟨Nat.le_of_ble_eq_true rfl, Nat.le_of_ble_eq_true rfl⟩, C.1.2.2.2.2 _ wst_X3_indexOfError_X4_read, trivial⟩) rfl (by decide) rfl rfl (Nat.le_of_ble_eq_true rfl) dX3_indexOfError_18 ⟨Nat.le_of_ble_eq_true rfl, Nat.le_of_ble_eq_true rfl⟩) rfl rfl (by decide) (by decide) rfl (fun r_1 w_ hp_2 => ?_)
        obtain ⟨rfl, rfl⟩ := hp_2
        refine zj_ws (ws' := [(q1, .inr (3, [.ref b1, .int (zI tl)])), (b1, .inl (cI, 60, .inl (zA F1)))]) rfl ?_
        refine zj_ci 24 [] [0, 1] C (wr := [(q1, .inr (3, [.ref b1, .int (zI tl)])), (b1, .inl (cI, 60, .inl (zA F1)))]) (zr_S [] C (As := [.int (zI (zRun F1 k)), .int (zI (F1 (k : Int)))]) (rest := []) (c_X3_awaitedBehind l D cI cS cJ (zRun F1 k) (F1 (k : Int)) (by omega) (by omega)) (va_cwS 2 C.1.2.2.2.2 gX3_indexOfError_X3_awaitedBehind rfl rfl rfl (by decide +kernel) ⟨Nat.le_of_ble_eq_true rfl, Nat.le_of_ble_eq_true rfl⟩) rfl (by decide) rfl rfl (Nat.le_of_ble_eq_true rfl) dX3_indexOfError_21 ⟨Nat.le_of_ble_eq_true rfl, Nat.le_of_ble_eq_true rfl⟩) rfl rfl (by decide) (by decide) rfl (fun r_3 w_ hp_4 => ?_)
        obtain ⟨rfl, rfl⟩ := hp_4
        refine zj_ws (ws' := [(q1, .inr (3, [.ref b1, .int (zI tl)])), (b1, .inl (cI, 60, .inl (zA F1)))]) rfl ?_
        refine zj_istore_n 25 [(1, .int (zI (zAw (zRun F1 k) (F1 (k : Int))))), (0, .ref q1), (2, .int (zI (k : Int)))] C dX3_indexOfError_24 rfl rfl (by decide) rfl ?_
        have hr1 := zAw_b (zRun F1 k) (F1 k)
        refine zj_iload_n 26 0 C dX3_indexOfError_25 rfl rfl rfl ?_
        refine zj_iconst 27 C dX3_indexOfError_26 rfl ?_
        refine zj_icmp_ne 30 32 C (by omega) (by omega) dX3_indexOfError_27 rfl (by decide) (fun h27 => ?_) (fun h27 => ?_)
        · skip
          refine zj_iinc 35 2 [(2, .int (zI ((k : Int) + 1))), (1, .int (zI (zAw (zRun F1 k) (F1 (k : Int))))), (0, .ref q1)] C dX3_indexOfError_32 rfl rfl (by decide) rfl ?_
          refine zj_goto 4 C dX3_indexOfError_35 (by decide) ?_
          refine zj_lv [2, 1, 0] [(0, .ref q1), (1, .int (zI (zAw (zRun F1 k) (F1 (k : Int))))), (2, .int (zI ((k : Int) + 1)))] rfl ?_
          refine zj_eqlv (lv' := [(0, .ref q1), (1, .int (zI (zRun F1 (k + 1)))), (2, .int (zI ((k + 1) : Int)))]) (by rfl) ?_
          exact ih (k + 1) (by omega) (by rw [he, show tl.toNat - k = (tl.toNat - (k + 1)) + 1 by omega, zErr, if_neg (by omega)]) (by omega)
        · skip
          refine zj_iload_n 31 2 C dX3_indexOfError_30 rfl rfl rfl ?_
          refine zj_st (st' := [.int (zI (zErr F1 tl.toNat 0))]) (by rw [he, show tl.toNat - k = (tl.toNat - (k + 1)) + 1 by omega, zErr, if_pos (by omega)]) ?_
          subst hQ
          exact zj_ireturn C hr ⟨rfl, rfl⟩ (by decide) (by decide) dX3_indexOfError_31
  refine zj_lv [2, 1, 0] [(0, .ref q1), (1, .int (zI 0)), (2, .int (zI 0))] rfl ?_
  refine zj_eqlv (lv' := [(0, .ref q1), (1, .int (zI (zRun F1 0))), (2, .int (zI (0 : Int)))]) (by rfl) ?_
  exact hL4 (61) 0 (by omega) (rfl) (by omega)

theorem fl_X3_isWhole_15 : Cond.fieldLink RX3 15 "SplashPages$Text" "length" "I" ∈ wsX3_isWhole := by decide +kernel
theorem im_X3_isWhole_3 : ∀ w ∈ u_ws RX3 TX3 2, w ∈ wsX3_isWhole := by decide +kernel
theorem fl_X3_isWhole_9 : Cond.fieldLink RX3 9 "SplashPages$Text" "codes" "[I" ∈ wsX3_isWhole := by decide +kernel
theorem wn_X3_isWhole_RX4 : Cond.initialized RX4 ∈ wsX3_isWhole := by decide +kernel
theorem wst_X3_isWhole_X4_read : Cond.static yX4_read ∈ wsX3_isWhole := by decide +kernel
abbrev rm_X3_isWhole : Room := { frames := 2, cells := 0, slots := 0, locals := 43 }
set_option maxRecDepth 100000 in
set_option maxHeartbeats 4000000 in
theorem c_X3_isWhole (l : Launch) (D : va_G) (cI cS cJ : ClassId) (q1 : Nat) (b1 : Nat) (tl : Int) (F1 : Int → Int) (htl : 0 ≤ tl ∧ tl ≤ 60) (htf : ∀ x, 0 ≤ x → x < tl → 0 ≤ F1 x ∧ F1 x ≤ 1000) : zMi l yX3_isWhole wsX3_isWhole rm_X3_isWhole D (zTy cI cS cJ) [.ref q1] [(q1, .inr (3, [.ref b1, .int (zI tl)])), (b1, .inl (cI, 60, .inl (zA F1)))] (fun r w => ∃ (r1 : Int), ((r1 = 1 ∧ 0 < tl ∧ zRun F1 tl.toNat = 0) ∨ (r1 = 0 ∧ ¬ (0 < tl ∧ zRun F1 tl.toNat = 0))) ∧ r = zI r1 ∧ w = [(q1, .inr (3, [.ref b1, .int (zI tl)])), (b1, .inl (cI, 60, .inl (zA F1)))]) 0 0 := by
  intro sz
  refine zMet_of (Qc := fun A => va_Qi _ (zB D (zTy cI cS cJ) A) A) RX3 [(0, .ref q1)] rfl (by decide +kernel) rfl (Nat.le_of_ble_eq_true rfl) rfl ?_ sz
  intro p e s m args below meth c A Q hQ C hr hini
  refine zj_iconst 1 C dX3_isWhole_0 rfl ?_
  refine zj_istore_n 2 [(1, .int (zI 0)), (0, .ref q1)] C dX3_isWhole_1 rfl rfl (by decide) rfl ?_
  refine zj_iconst 3 C dX3_isWhole_2 rfl ?_
  refine zj_istore_n 4 [(2, .int (zI 0)), (1, .int (zI 0)), (0, .ref q1)] C dX3_isWhole_3 rfl rfl (by decide) rfl ?_
  have hL4 : ∀ (N : Nat) (k : Nat), ((k : Int) ≤ tl) → (tl - (k : Int) < N) → zJ p l e rm_X3_isWhole s m args below meth c Q D A 3 [(q1, .inr (3, [.ref b1, .int (zI tl)])), (b1, .inl (cI, 60, .inl (zA F1)))] 0 0 [(0, .ref q1), (1, .int (zI (zRun F1 k))), (2, .int (zI (k : Int)))] 4 [] := by
    intro N
    induction N with
    | zero => intro k hk hN; exact absurd hN (by omega)
    | succ N ih =>
      intro k hk hN
      refine zj_iload_n 5 2 C dX3_isWhole_4 rfl rfl rfl ?_
      refine zj_aload_n 6 0 C dX3_isWhole_5 rfl rfl rfl ?_
      refine zj_get 9 0 1 C (T := TX3) im_X3_isWhole_3 fl_X3_isWhole_15 rfl rfl (by decide) rfl rfl dX3_isWhole_6 rfl ?_
      refine zj_icmp_ge 12 31 C (by omega) (by omega) dX3_isWhole_9 rfl (by decide) (fun h9 => ?_) (fun h9 => ?_)
      · skip
        have hr0 := zRun_b F1 k
        have hk2 : tl.toNat = k := by omega
        refine zj_aload_n 32 0 C dX3_isWhole_31 rfl rfl rfl ?_
        refine zj_get 35 0 1 C (T := TX3) im_X3_isWhole_3 fl_X3_isWhole_15 rfl rfl (by decide) rfl rfl dX3_isWhole_32 rfl ?_
        refine zj_if_le 38 46 C (by omega) dX3_isWhole_35 rfl (by decide) (fun h_1 => ?_) (fun h_1 => ?_)
        · skip
          refine zj_iconst 47 C dX3_isWhole_46 rfl ?_
          subst hQ
          exact zj_zret C (zI_bool (by omega)) hr ⟨0, (by rw [hk2]; omega), rfl, rfl⟩ (by decide) (by decide) dX3_isWhole_47
        · skip
          refine zj_iload_n 39 1 C dX3_isWhole_38 rfl rfl rfl ?_
          refine zj_if_ne 42 46 C (by omega) dX3_isWhole_39 rfl (by decide) (fun h_2 => ?_) (fun h_2 => ?_)
          · skip
            refine zj_iconst 47 C dX3_isWhole_46 rfl ?_
            subst hQ
            exact zj_zret C (zI_bool (by omega)) hr ⟨0, (by rw [hk2]; omega), rfl, rfl⟩ (by decide) (by decide) dX3_isWhole_47
          · skip
            refine zj_iconst 43 C dX3_isWhole_42 rfl ?_
            refine zj_goto 47 C dX3_isWhole_43 (by decide) ?_
            subst hQ
            exact zj_zret C (zI_bool (by omega)) hr ⟨1, (by rw [hk2]; omega), rfl, rfl⟩ (by decide) (by decide) dX3_isWhole_47
      · skip
        have hF := htf k (by omega) (by omega)
        have hr0 := zRun_b F1 k
        refine zj_iload_n 13 1 C dX3_isWhole_12 rfl rfl rfl ?_
        refine zj_aload_n 14 0 C dX3_isWhole_13 rfl rfl rfl ?_
        refine zj_get 17 0 0 C (T := TX3) im_X3_isWhole_3 fl_X3_isWhole_9 rfl rfl (by decide) rfl rfl dX3_isWhole_14 rfl ?_
        refine zj_iload_n 18 2 C dX3_isWhole_17 rfl rfl rfl ?_
        refine zj_ci 21 [1] [0] C (wr := [(q1, .inr (3, [.ref b1, .int (zI tl)]))]) (zr_SN [1] C (As := [.ref b1, .int (zI (k : Int))]) (rest := [.int (zI (zRun F1 k))]) (c_X4_read l D cI cS cJ b1 60 F1 (k : Int) (by omega) (by omega)) (⟨va_cnB 2 C.1.2.2.2.2 gX3_isWhole_X4_read_n19 rfl rfl rfl (C.2.2.2.2.1 _ nm_RX3_19) (C.1.2.2.2.2 _ wn_X3_isWhole_RX4) (by decide +kernel) ⟨Nat.le_of_ble_eq_true rfl, Nat.le_of_ble_eq_true rfl⟩, C.1.2.2.2.2 _ wst_X3_isWhole_X4_read, trivial⟩) rfl (by decide) rfl rfl (Nat.le_of_ble_eq_true rfl) dX3_isWhole_18 ⟨Nat.le_of_ble_eq_true rfl, Nat.le_of_ble_eq_true rfl⟩) rfl rfl (by decide) (by decide) rfl (fun r_3 w_ hp_4 => ?_)
        obtain ⟨rfl, rfl⟩ := hp_4
        refine zj_ws (ws' := [(q1, .inr (3, [.ref b1, .int (zI tl)])), (b1, .inl (cI, 60, .inl (zA F1)))]) rfl ?_
        refine zj_ci 24 [] [0, 1] C (wr := [(q1, .inr (3, [.ref b1, .int (zI tl)])), (b1, .inl (cI, 60, .inl (zA F1)))]) (zr_S [] C (As := [.int (zI (zRun F1 k)), .int (zI (F1 (k : Int)))]) (rest := []) (c_X3_awaitedBehind l D cI cS cJ (zRun F1 k) (F1 (k : Int)) (by omega) (by omega)) (va_cwS 2 C.1.2.2.2.2 gX3_isWhole_X3_awaitedBehind rfl rfl rfl (by decide +kernel) ⟨Nat.le_of_ble_eq_true rfl, Nat.le_of_ble_eq_true rfl⟩) rfl (by decide) rfl rfl (Nat.le_of_ble_eq_true rfl) dX3_isWhole_21 ⟨Nat.le_of_ble_eq_true rfl, Nat.le_of_ble_eq_true rfl⟩) rfl rfl (by decide) (by decide) rfl (fun r_5 w_ hp_6 => ?_)
        obtain ⟨rfl, rfl⟩ := hp_6
        refine zj_ws (ws' := [(q1, .inr (3, [.ref b1, .int (zI tl)])), (b1, .inl (cI, 60, .inl (zA F1)))]) rfl ?_
        refine zj_istore_n 25 [(1, .int (zI (zAw (zRun F1 k) (F1 (k : Int))))), (0, .ref q1), (2, .int (zI (k : Int)))] C dX3_isWhole_24 rfl rfl (by decide) rfl ?_
        refine zj_iinc 28 2 [(2, .int (zI ((k : Int) + 1))), (1, .int (zI (zAw (zRun F1 k) (F1 (k : Int))))), (0, .ref q1)] C dX3_isWhole_25 rfl rfl (by decide) rfl ?_
        refine zj_goto 4 C dX3_isWhole_28 (by decide) ?_
        refine zj_lv [2, 1, 0] [(0, .ref q1), (1, .int (zI (zAw (zRun F1 k) (F1 (k : Int))))), (2, .int (zI ((k : Int) + 1)))] rfl ?_
        refine zj_eqlv (lv' := [(0, .ref q1), (1, .int (zI (zRun F1 (k + 1)))), (2, .int (zI ((k + 1) : Int)))]) (by rfl) ?_
        exact ih (k + 1) (by omega) (by omega)
  refine zj_lv [2, 1, 0] [(0, .ref q1), (1, .int (zI 0)), (2, .int (zI 0))] rfl ?_
  refine zj_eqlv (lv' := [(0, .ref q1), (1, .int (zI (zRun F1 0))), (2, .int (zI (0 : Int)))]) (by rfl) ?_
  exact hL4 (61) 0 (by omega) (by omega)

theorem fl_X4_addPanelsOfText_12 : Cond.fieldLink RX4 12 "SplashPages" "now" "LSplashPages$Story;" ∈ wsX4_addPanelsOfText := by decide +kernel
theorem im_X4_addPanelsOfText_4 : ∀ w ∈ u_ws RX4 TX4 6, w ∈ wsX4_addPanelsOfText := by decide +kernel
theorem im_X4_addPanelsOfText_2 : ∀ w ∈ u_ws RX2 TX2 5, w ∈ wsX4_addPanelsOfText := by decide +kernel
theorem fl_X4_addPanelsOfText_39 : Cond.fieldLink RX4 39 "SplashPages" "text" "LSplashPages$Text;" ∈ wsX4_addPanelsOfText := by decide +kernel
theorem nf_RX4_116 : Cond.fieldLinkNest RX4 116 "SplashPages$Text" "length" "I" "SplashPages" ∈ zNW := by decide +kernel
theorem im_X4_addPanelsOfText_3 : ∀ w ∈ u_ws RX3 TX3 2, w ∈ wsX4_addPanelsOfText := by decide +kernel
theorem nf_RX4_198 : Cond.fieldLinkNest RX4 198 "SplashPages$Text" "codes" "[I" "SplashPages" ∈ zNW := by decide +kernel
theorem wn_X4_addPanelsOfText_RX2 : Cond.initialized RX2 ∈ wsX4_addPanelsOfText := by decide +kernel
theorem nm_RX4_76 : Cond.methodLinkNest RX4 76 yX2_insert "SplashPages" ∈ zNW := by decide +kernel
theorem wi_X4_addPanelsOfText_X2_insert : Cond.instanceMethod yX2_insert ∈ wsX4_addPanelsOfText := by decide +kernel
theorem wse_X4_addPanelsOfText_X2_insert : Cond.selects RX2 yX2_insert yX2_insert ∈ wsX4_addPanelsOfText := by decide +kernel
theorem wn_X4_addPanelsOfText_RX3 : Cond.initialized RX3 ∈ wsX4_addPanelsOfText := by decide +kernel
theorem nm_RX4_253 : Cond.methodLinkNest RX4 253 yX3_awaitedBehind "SplashPages" ∈ zNW := by decide +kernel
theorem wst_X4_addPanelsOfText_X3_awaitedBehind : Cond.static yX3_awaitedBehind ∈ wsX4_addPanelsOfText := by decide +kernel
theorem nm_RX4_250 : Cond.methodLinkNest RX4 250 yX3_kindOf "SplashPages" ∈ zNW := by decide +kernel
theorem wst_X4_addPanelsOfText_X3_kindOf : Cond.static yX3_kindOf ∈ wsX4_addPanelsOfText := by decide +kernel
abbrev rm_X4_addPanelsOfText : Room := { frames := 3, cells := 0, slots := 0, locals := 69 }
set_option maxRecDepth 100000 in
set_option maxHeartbeats 4000000 in
theorem c_X4_addPanelsOfText (l : Launch) (D : va_G) (cI cS cJ : ClassId) (q0 : Nat) (q2 : Nat) (g1 : Nat) (g2 : Nat) (g3 : Nat) (q1 : Nat) (qt : Nat) (ql : Nat) (qh : Nat) (qx : Nat) (n1 : Int) (sg : Int) (K1 : Int → Int) (W1 : Int → Int) (T1 : Int → Int) (xb : Nat) (tl : Int) (F1 : Int → Int) (hn : 0 ≤ n1 ∧ n1 ≤ 24) (htl : 0 ≤ tl ∧ tl ≤ 60) (htf : ∀ x, 0 ≤ x → x < tl → 0 ≤ F1 x ∧ F1 x ≤ 1000) : zMi l yX4_addPanelsOfText wsX4_addPanelsOfText rm_X4_addPanelsOfText D (zTy cI cS cJ) [.ref q0] [(q0, .inr (4, [.ref q2, .ref q1, .ref qt, .ref ql, .ref qh, .ref qx])), (q2, .inr (2, [.ref g1, .ref g2, .ref g3, .int (zI n1), .int (zI sg)])), (g1, .inl (cI, 24, .inl (zA K1))), (g2, .inl (cI, 24, .inl (zA W1))), (g3, .inl (cI, 24, .inl (zA T1))), (qx, .inr (3, [.ref xb, .int (zI tl)])), (xb, .inl (cI, 60, .inl (zA F1)))] (fun r w => r = zI ((zTx F1 ((0, 0, 6), n1, K1, W1, T1) tl.toNat).2.1 - n1) ∧ w = [(q0, .inr (4, [.ref q2, .ref q1, .ref qt, .ref ql, .ref qh, .ref qx])), (q2, .inr (2, [.ref g1, .ref g2, .ref g3, .int (zI ((zTx F1 ((0, 0, 6), n1, K1, W1, T1) tl.toNat).2.1)), .int (zI sg)])), (g1, .inl (cI, 24, .inl (zA ((zTx F1 ((0, 0, 6), n1, K1, W1, T1) tl.toNat).2.2.1)))), (g2, .inl (cI, 24, .inl (zA ((zTx F1 ((0, 0, 6), n1, K1, W1, T1) tl.toNat).2.2.2.1)))), (g3, .inl (cI, 24, .inl (zA ((zTx F1 ((0, 0, 6), n1, K1, W1, T1) tl.toNat).2.2.2.2)))), (qx, .inr (3, [.ref xb, .int (zI tl)])), (xb, .inl (cI, 60, .inl (zA F1)))]) 0 0 := by
  intro sz
  refine zMet_of (Qc := fun A => va_Qi _ (zB D (zTy cI cS cJ) A) A) RX4 [(0, .ref q0)] rfl (by decide +kernel) rfl (Nat.le_of_ble_eq_true rfl) rfl ?_ sz
  intro p e s m args below meth c A Q hQ C hr hini
  refine zj_aload_n 1 0 C dX4_addPanelsOfText_0 rfl rfl rfl ?_
  refine zj_get 4 0 0 C (T := TX4) im_X4_addPanelsOfText_4 fl_X4_addPanelsOfText_12 rfl rfl (by decide) rfl rfl dX4_addPanelsOfText_1 rfl ?_
  refine zj_getN 7 1 3 C (T := TX2) im_X4_addPanelsOfText_2 nf_RX4_43 rfl rfl (by decide) rfl rfl dX4_addPanelsOfText_4 rfl ?_
  refine zj_istore_n 8 [(1, .int (zI n1)), (0, .ref q0)] C dX4_addPanelsOfText_7 rfl rfl (by decide) rfl ?_
  refine zj_iconst 9 C dX4_addPanelsOfText_8 rfl ?_
  refine zj_istore_n 10 [(2, .int (zI 0)), (1, .int (zI n1)), (0, .ref q0)] C dX4_addPanelsOfText_9 rfl rfl (by decide) rfl ?_
  refine zj_iconst 11 C dX4_addPanelsOfText_10 rfl ?_
  refine zj_istore_n 12 [(3, .int (zI 0)), (2, .int (zI 0)), (1, .int (zI n1)), (0, .ref q0)] C dX4_addPanelsOfText_11 rfl rfl (by decide) rfl ?_
  refine zj_bipush 14 C dX4_addPanelsOfText_12 rfl rfl ?_
  refine zj_istore 16 [(4, .int (zI 6)), (3, .int (zI 0)), (2, .int (zI 0)), (1, .int (zI n1)), (0, .ref q0)] C dX4_addPanelsOfText_14 rfl (by decide) rfl ?_
  refine zj_iconst 17 C dX4_addPanelsOfText_16 rfl ?_
  refine zj_istore 19 [(5, .int (zI 0)), (4, .int (zI 6)), (3, .int (zI 0)), (2, .int (zI 0)), (1, .int (zI n1)), (0, .ref q0)] C dX4_addPanelsOfText_17 rfl (by decide) rfl ?_
  have hL19 : ∀ (N : Nat) (k : Nat), ((k : Int) ≤ tl) → (-1 ≤ (zTx F1 ((0, 0, 6), n1, K1, W1, T1) k).1.1 ∧ (zTx F1 ((0, 0, 6), n1, K1, W1, T1) k).1.1 ≤ 2 ∧ -1 ≤ (zTx F1 ((0, 0, 6), n1, K1, W1, T1) k).1.2.1 ∧ (zTx F1 ((0, 0, 6), n1, K1, W1, T1) k).1.2.1 ≤ 3 ∧ -100 ≤ (zTx F1 ((0, 0, 6), n1, K1, W1, T1) k).1.2.2 ∧ (zTx F1 ((0, 0, 6), n1, K1, W1, T1) k).1.2.2 ≤ 1000 ∧ 0 ≤ (zTx F1 ((0, 0, 6), n1, K1, W1, T1) k).2.1 ∧ (zTx F1 ((0, 0, 6), n1, K1, W1, T1) k).2.1 ≤ 24) → (tl - (k : Int) < N) → zJ p l e rm_X4_addPanelsOfText s m args below meth c Q D A 7 [(q0, .inr (4, [.ref q2, .ref q1, .ref qt, .ref ql, .ref qh, .ref qx])), (q2, .inr (2, [.ref g1, .ref g2, .ref g3, .int (zI ((zTx F1 ((0, 0, 6), n1, K1, W1, T1) k).2.1)), .int (zI sg)])), (g1, .inl (cI, 24, .inl (zA ((zTx F1 ((0, 0, 6), n1, K1, W1, T1) k).2.2.1)))), (g2, .inl (cI, 24, .inl (zA ((zTx F1 ((0, 0, 6), n1, K1, W1, T1) k).2.2.2.1)))), (g3, .inl (cI, 24, .inl (zA ((zTx F1 ((0, 0, 6), n1, K1, W1, T1) k).2.2.2.2)))), (qx, .inr (3, [.ref xb, .int (zI tl)])), (xb, .inl (cI, 60, .inl (zA F1)))] 0 0 [(0, .ref q0), (1, .int (zI n1)), (2, .int (zI ((zTx F1 ((0, 0, 6), n1, K1, W1, T1) k).1.1))), (3, .int (zI ((zTx F1 ((0, 0, 6), n1, K1, W1, T1) k).1.2.1))), (4, .int (zI ((zTx F1 ((0, 0, 6), n1, K1, W1, T1) k).1.2.2))), (5, .int (zI (k : Int)))] 19 [] := by
    intro N
    induction N with
    | zero => intro k hk hbd hN; exact absurd hN (by omega)
    | succ N ih =>
      intro k hk hbd hN
      refine zj_iload 21 5 C dX4_addPanelsOfText_19 rfl rfl ?_
      refine zj_aload_n 22 0 C dX4_addPanelsOfText_21 rfl rfl rfl ?_
      refine zj_get 25 0 5 C (T := TX4) im_X4_addPanelsOfText_4 fl_X4_addPanelsOfText_39 rfl rfl (by decide) rfl rfl dX4_addPanelsOfText_22 rfl ?_
      refine zj_getN 28 5 1 C (T := TX3) im_X4_addPanelsOfText_3 nf_RX4_116 rfl rfl (by decide) rfl rfl dX4_addPanelsOfText_25 rfl ?_
      refine zj_icmp_ge 31 124 C (by omega) (by omega) dX4_addPanelsOfText_28 rfl (by decide) (fun h28 => ?_) (fun h28 => ?_)
      · skip
        refine zj_aload_n 125 0 C dX4_addPanelsOfText_124 rfl rfl rfl ?_
        refine zj_get 128 0 0 C (T := TX4) im_X4_addPanelsOfText_4 fl_X4_addPanelsOfText_12 rfl rfl (by decide) rfl rfl dX4_addPanelsOfText_125 rfl ?_
        refine zj_getN 131 1 3 C (T := TX2) im_X4_addPanelsOfText_2 nf_RX4_43 rfl rfl (by decide) rfl rfl dX4_addPanelsOfText_128 rfl ?_
        refine zj_iload_n 132 1 C dX4_addPanelsOfText_131 rfl rfl rfl ?_
        refine zj_isub 133 C dX4_addPanelsOfText_132 rfl ?_
        have hz : (zTx F1 ((0, 0, 6), n1, K1, W1, T1) tl.toNat) = (zTx F1 ((0, 0, 6), n1, K1, W1, T1) k) := by rw [show tl.toNat = k by omega]
        refine zj_ws (ws' := [(q0, .inr (4, [.ref q2, .ref q1, .ref qt, .ref ql, .ref qh, .ref qx])), (q2, .inr (2, [.ref g1, .ref g2, .ref g3, .int (zI ((zTx F1 ((0, 0, 6), n1, K1, W1, T1) tl.toNat).2.1)), .int (zI sg)])), (g1, .inl (cI, 24, .inl (zA ((zTx F1 ((0, 0, 6), n1, K1, W1, T1) tl.toNat).2.2.1)))), (g2, .inl (cI, 24, .inl (zA ((zTx F1 ((0, 0, 6), n1, K1, W1, T1) tl.toNat).2.2.2.1)))), (g3, .inl (cI, 24, .inl (zA ((zTx F1 ((0, 0, 6), n1, K1, W1, T1) tl.toNat).2.2.2.2)))), (qx, .inr (3, [.ref xb, .int (zI tl)])), (xb, .inl (cI, 60, .inl (zA F1)))]) (by rw [hz]) ?_
        refine zj_st (st' := [.int (zI ((zTx F1 ((0, 0, 6), n1, K1, W1, T1) tl.toNat).2.1 - n1))]) (by rw [hz]) ?_
        subst hQ
        exact zj_ireturn C hr ⟨rfl, rfl⟩ (by decide) (by decide) dX4_addPanelsOfText_133
      · skip
        refine zj_aload_n 32 0 C dX4_addPanelsOfText_31 rfl rfl rfl ?_
        refine zj_get 35 0 0 C (T := TX4) im_X4_addPanelsOfText_4 fl_X4_addPanelsOfText_12 rfl rfl (by decide) rfl rfl dX4_addPanelsOfText_32 rfl ?_
        refine zj_getN 38 1 3 C (T := TX2) im_X4_addPanelsOfText_2 nf_RX4_43 rfl rfl (by decide) rfl rfl dX4_addPanelsOfText_35 rfl ?_
        refine zj_bipush 40 C dX4_addPanelsOfText_38 rfl rfl ?_
        refine zj_icmp_ge 43 124 C (by omega) (by omega) dX4_addPanelsOfText_40 rfl (by decide) (fun h40 => ?_) (fun h40 => ?_)
        · skip
          refine zj_aload_n 125 0 C dX4_addPanelsOfText_124 rfl rfl rfl ?_
          refine zj_get 128 0 0 C (T := TX4) im_X4_addPanelsOfText_4 fl_X4_addPanelsOfText_12 rfl rfl (by decide) rfl rfl dX4_addPanelsOfText_125 rfl ?_
          refine zj_getN 131 1 3 C (T := TX2) im_X4_addPanelsOfText_2 nf_RX4_43 rfl rfl (by decide) rfl rfl dX4_addPanelsOfText_128 rfl ?_
          refine zj_iload_n 132 1 C dX4_addPanelsOfText_131 rfl rfl rfl ?_
          refine zj_isub 133 C dX4_addPanelsOfText_132 rfl ?_
          have hz : (zTx F1 ((0, 0, 6), n1, K1, W1, T1) tl.toNat) = (zTx F1 ((0, 0, 6), n1, K1, W1, T1) k) := by rw [show tl.toNat = k + (tl.toNat - k) by omega, zTx_full _ _ _ (by omega)]
          refine zj_ws (ws' := [(q0, .inr (4, [.ref q2, .ref q1, .ref qt, .ref ql, .ref qh, .ref qx])), (q2, .inr (2, [.ref g1, .ref g2, .ref g3, .int (zI ((zTx F1 ((0, 0, 6), n1, K1, W1, T1) tl.toNat).2.1)), .int (zI sg)])), (g1, .inl (cI, 24, .inl (zA ((zTx F1 ((0, 0, 6), n1, K1, W1, T1) tl.toNat).2.2.1)))), (g2, .inl (cI, 24, .inl (zA ((zTx F1 ((0, 0, 6), n1, K1, W1, T1) tl.toNat).2.2.2.1)))), (g3, .inl (cI, 24, .inl (zA ((zTx F1 ((0, 0, 6), n1, K1, W1, T1) tl.toNat).2.2.2.2)))), (qx, .inr (3, [.ref xb, .int (zI tl)])), (xb, .inl (cI, 60, .inl (zA F1)))]) (by rw [hz]) ?_
          refine zj_st (st' := [.int (zI ((zTx F1 ((0, 0, 6), n1, K1, W1, T1) tl.toNat).2.1 - n1))]) (by rw [hz]) ?_
          subst hQ
          exact zj_ireturn C hr ⟨rfl, rfl⟩ (by decide) (by decide) dX4_addPanelsOfText_133
        · skip
          have hF := htf k (by omega) (by omega)
          have hab := zAw_b (zTx F1 ((0, 0, 6), n1, K1, W1, T1) k).1.1 (F1 k)
          have hkb := zKd_b (F1 k)
          refine zj_aload_n 44 0 C dX4_addPanelsOfText_43 rfl rfl rfl ?_
          refine zj_get 47 0 5 C (T := TX4) im_X4_addPanelsOfText_4 fl_X4_addPanelsOfText_39 rfl rfl (by decide) rfl rfl dX4_addPanelsOfText_44 rfl ?_
          refine zj_getN 50 5 0 C (T := TX3) im_X4_addPanelsOfText_3 nf_RX4_198 rfl rfl (by decide) rfl rfl dX4_addPanelsOfText_47 rfl ?_
          refine zj_iload 52 5 C dX4_addPanelsOfText_50 rfl rfl ?_
          refine zj_ci 55 [6] [0, 1, 2, 3, 4, 5] C (wr := [(q0, .inr (4, [.ref q2, .ref q1, .ref qt, .ref ql, .ref qh, .ref qx])), (q2, .inr (2, [.ref g1, .ref g2, .ref g3, .int (zI ((zTx F1 ((0, 0, 6), n1, K1, W1, T1) k).2.1)), .int (zI sg)])), (g1, .inl (cI, 24, .inl (zA ((zTx F1 ((0, 0, 6), n1, K1, W1, T1) k).2.2.1)))), (g2, .inl (cI, 24, .inl (zA ((zTx F1 ((0, 0, 6), n1, K1, W1, T1) k).2.2.2.1)))), (g3, .inl (cI, 24, .inl (zA ((zTx F1 ((0, 0, 6), n1, K1, W1, T1) k).2.2.2.2)))), (qx, .inr (3, [.ref xb, .int (zI tl)]))]) (zr_S [6] C (As := [.ref xb, .int (zI (k : Int))]) (rest := []) (c_X4_read l D cI cS cJ xb 60 F1 (k : Int) (by omega) (by omega)) (va_cwS 2 C.1.2.2.2.2 gX4_addPanelsOfText_X4_read rfl rfl rfl (by decide +kernel) ⟨Nat.le_of_ble_eq_true rfl, Nat.le_of_ble_eq_true rfl⟩) rfl (by decide) rfl rfl (Nat.le_of_ble_eq_true rfl) dX4_addPanelsOfText_52 ⟨Nat.le_of_ble_eq_true rfl, Nat.le_of_ble_eq_true rfl⟩) rfl rfl (by decide) (by decide) rfl (fun r_1 w_ hp_2 => ?_)
          obtain ⟨rfl, rfl⟩ := hp_2
          refine zj_ws (ws' := [(q0, .inr (4, [.ref q2, .ref q1, .ref qt, .ref ql, .ref qh, .ref qx])), (q2, .inr (2, [.ref g1, .ref g2, .ref g3, .int (zI ((zTx F1 ((0, 0, 6), n1, K1, W1, T1) k).2.1)), .int (zI sg)])), (g1, .inl (cI, 24, .inl (zA ((zTx F1 ((0, 0, 6), n1, K1, W1, T1) k).2.2.1)))), (g2, .inl (cI, 24, .inl (zA ((zTx F1 ((0, 0, 6), n1, K1, W1, T1) k).2.2.2.1)))), (g3, .inl (cI, 24, .inl (zA ((zTx F1 ((0, 0, 6), n1, K1, W1, T1) k).2.2.2.2)))), (qx, .inr (3, [.ref xb, .int (zI tl)])), (xb, .inl (cI, 60, .inl (zA F1)))]) rfl ?_
          refine zj_istore 57 [(6, .int (zI (F1 (k : Int)))), (0, .ref q0), (1, .int (zI n1)), (2, .int (zI ((zTx F1 ((0, 0, 6), n1, K1, W1, T1) k).1.1))), (3, .int (zI ((zTx F1 ((0, 0, 6), n1, K1, W1, T1) k).1.2.1))), (4, .int (zI ((zTx F1 ((0, 0, 6), n1, K1, W1, T1) k).1.2.2))), (5, .int (zI (k : Int)))] C dX4_addPanelsOfText_55 rfl (by decide) rfl ?_
          refine zj_iload_n 58 3 C dX4_addPanelsOfText_57 rfl rfl rfl ?_
          refine zj_if_ne 61 74 C (by omega) dX4_addPanelsOfText_58 rfl (by decide) (fun h58 => ?_) (fun h58 => ?_)
          · skip
            refine zj_iload_n 75 3 C dX4_addPanelsOfText_74 rfl rfl rfl ?_
            refine zj_iconst 76 C dX4_addPanelsOfText_75 rfl ?_
            refine zj_icmp_ne 79 89 C (by omega) (by omega) dX4_addPanelsOfText_76 rfl (by decide) (fun h76 => ?_) (fun h76 => ?_)
            · skip
              refine zj_aload_n 90 1 C dX4_addPanelsOfText_89 rfl rfl rfl ?_
              refine zj_get 93 0 0 C (T := TX4) im_X4_addPanelsOfText_4 fl_X4_addPanelsOfText_12 rfl rfl (by decide) rfl rfl dX4_addPanelsOfText_90 rfl ?_
              refine zj_aload_n 94 1 C dX4_addPanelsOfText_93 rfl rfl rfl ?_
              refine zj_get 97 0 0 C (T := TX4) im_X4_addPanelsOfText_4 fl_X4_addPanelsOfText_12 rfl rfl (by decide) rfl rfl dX4_addPanelsOfText_94 rfl ?_
              refine zj_getN 100 1 3 C (T := TX2) im_X4_addPanelsOfText_2 nf_RX4_43 rfl rfl (by decide) rfl rfl dX4_addPanelsOfText_97 rfl ?_
              refine zj_iload_n 101 4 C dX4_addPanelsOfText_100 rfl rfl rfl ?_
              refine zj_iload 103 5 C dX4_addPanelsOfText_101 rfl rfl ?_
              refine zj_iload 105 0 C dX4_addPanelsOfText_103 rfl rfl ?_
              refine zj_bipush 107 C dX4_addPanelsOfText_105 rfl rfl ?_
              refine zj_isub 108 C dX4_addPanelsOfText_107 rfl ?_
              refine zj_cv 111 [1, 2, 3, 4] [0, 5, 6] C (wr := [(q0, .inr (4, [.ref q2, .ref q1, .ref qt, .ref ql, .ref qh, .ref qx])), (qx, .inr (3, [.ref xb, .int (zI tl)])), (xb, .inl (cI, 60, .inl (zA F1)))]) (zr_VN [1, 2, 3, 4] C (As := [.int (zI ((zTx F1 ((0, 0, 6), n1, K1, W1, T1) k).2.1)), .int (zI ((zTx F1 ((0, 0, 6), n1, K1, W1, T1) k).1.2.1)), .int (zI ((zTx F1 ((0, 0, 6), n1, K1, W1, T1) k).1.2.2)), .int (zI ((F1 (k : Int)) - 48))]) (rest := []) (c_X2_insert l D cI cS cJ q2 g1 g2 g3 ((zTx F1 ((0, 0, 6), n1, K1, W1, T1) k).2.1) sg ((zTx F1 ((0, 0, 6), n1, K1, W1, T1) k).2.2.1) ((zTx F1 ((0, 0, 6), n1, K1, W1, T1) k).2.2.2.1) ((zTx F1 ((0, 0, 6), n1, K1, W1, T1) k).2.2.2.2) ((zTx F1 ((0, 0, 6), n1, K1, W1, T1) k).2.1) ((zTx F1 ((0, 0, 6), n1, K1, W1, T1) k).1.2.1) ((zTx F1 ((0, 0, 6), n1, K1, W1, T1) k).1.2.2) ((F1 (k : Int)) - 48) (by omega) (by omega)) (⟨va_cnB 4 C.1.2.2.2.2 gX4_addPanelsOfText_X2_insert_n76 rfl rfl rfl (C.2.2.2.2.1 _ nm_RX4_76) (C.1.2.2.2.2 _ wn_X4_addPanelsOfText_RX2) (by decide +kernel) ⟨Nat.le_of_ble_eq_true rfl, Nat.le_of_ble_eq_true rfl⟩, C.1.2.2.2.2 _ wi_X4_addPanelsOfText_X2_insert, C.1.2.2.2.2 _ wse_X4_addPanelsOfText_X2_insert⟩) rfl (by decide) 0 rfl rfl rfl rfl (Nat.le_of_ble_eq_true rfl) dX4_addPanelsOfText_108 ⟨Nat.le_of_ble_eq_true rfl, Nat.le_of_ble_eq_true rfl⟩) rfl rfl (by decide) (by decide) rfl (fun w_ hp_4 => ?_)
              obtain rfl := hp_4
              refine zj_ws (ws' := [(q0, .inr (4, [.ref q2, .ref q1, .ref qt, .ref ql, .ref qh, .ref qx])), (qx, .inr (3, [.ref xb, .int (zI tl)])), (xb, .inl (cI, 60, .inl (zA F1))), (q2, .inr (2, [.ref g1, .ref g2, .ref g3, .int (zI (((zTx F1 ((0, 0, 6), n1, K1, W1, T1) k).2.1) + 1)), .int (zI sg)])), (g1, .inl (cI, 24, .inl (zA (zIns ((zTx F1 ((0, 0, 6), n1, K1, W1, T1) k).2.2.1) ((zTx F1 ((0, 0, 6), n1, K1, W1, T1) k).2.1) ((zTx F1 ((0, 0, 6), n1, K1, W1, T1) k).1.2.1))))), (g2, .inl (cI, 24, .inl (zA (zIns ((zTx F1 ((0, 0, 6), n1, K1, W1, T1) k).2.2.2.1) ((zTx F1 ((0, 0, 6), n1, K1, W1, T1) k).2.1) ((zTx F1 ((0, 0, 6), n1, K1, W1, T1) k).1.2.2))))), (g3, .inl (cI, 24, .inl (zA (zIns ((zTx F1 ((0, 0, 6), n1, K1, W1, T1) k).2.2.2.2) ((zTx F1 ((0, 0, 6), n1, K1, W1, T1) k).2.1) ((F1 (k : Int)) - 48)))))]) rfl ?_
              refine zj_iload_n 112 3 C dX4_addPanelsOfText_111 rfl rfl rfl ?_
              refine zj_iload 114 0 C dX4_addPanelsOfText_112 rfl rfl ?_
              refine zj_ci 117 [] [0, 1, 2, 3, 4, 5, 6] C (wr := [(q0, .inr (4, [.ref q2, .ref q1, .ref qt, .ref ql, .ref qh, .ref qx])), (qx, .inr (3, [.ref xb, .int (zI tl)])), (xb, .inl (cI, 60, .inl (zA F1))), (q2, .inr (2, [.ref g1, .ref g2, .ref g3, .int (zI (((zTx F1 ((0, 0, 6), n1, K1, W1, T1) k).2.1) + 1)), .int (zI sg)])), (g1, .inl (cI, 24, .inl (zA (zIns ((zTx F1 ((0, 0, 6), n1, K1, W1, T1) k).2.2.1) ((zTx F1 ((0, 0, 6), n1, K1, W1, T1) k).2.1) ((zTx F1 ((0, 0, 6), n1, K1, W1, T1) k).1.2.1))))), (g2, .inl (cI, 24, .inl (zA (zIns ((zTx F1 ((0, 0, 6), n1, K1, W1, T1) k).2.2.2.1) ((zTx F1 ((0, 0, 6), n1, K1, W1, T1) k).2.1) ((zTx F1 ((0, 0, 6), n1, K1, W1, T1) k).1.2.2))))), (g3, .inl (cI, 24, .inl (zA (zIns ((zTx F1 ((0, 0, 6), n1, K1, W1, T1) k).2.2.2.2) ((zTx F1 ((0, 0, 6), n1, K1, W1, T1) k).2.1) ((F1 (k : Int)) - 48)))))]) (zr_SN [] C (As := [.int (zI ((zTx F1 ((0, 0, 6), n1, K1, W1, T1) k).1.1)), .int (zI (F1 (k : Int)))]) (rest := []) (c_X3_awaitedBehind l D cI cS cJ ((zTx F1 ((0, 0, 6), n1, K1, W1, T1) k).1.1) (F1 (k : Int)) (by omega) (by omega)) (⟨va_cnB 2 C.1.2.2.2.2 gX4_addPanelsOfText_X3_awaitedBehind_n253 rfl rfl rfl (C.2.2.2.2.1 _ nm_RX4_253) (C.1.2.2.2.2 _ wn_X4_addPanelsOfText_RX3) (by decide +kernel) ⟨Nat.le_of_ble_eq_true rfl, Nat.le_of_ble_eq_true rfl⟩, C.1.2.2.2.2 _ wst_X4_addPanelsOfText_X3_awaitedBehind, trivial⟩) rfl (by decide) rfl rfl (Nat.le_of_ble_eq_true rfl) dX4_addPanelsOfText_114 ⟨Nat.le_of_ble_eq_true rfl, Nat.le_of_ble_eq_true rfl⟩) rfl rfl (by decide) (by decide) rfl (fun r_5 w_ hp_6 => ?_)
              obtain ⟨rfl, rfl⟩ := hp_6
              refine zj_ws (ws' := [(q0, .inr (4, [.ref q2, .ref q1, .ref qt, .ref ql, .ref qh, .ref qx])), (qx, .inr (3, [.ref xb, .int (zI tl)])), (xb, .inl (cI, 60, .inl (zA F1))), (q2, .inr (2, [.ref g1, .ref g2, .ref g3, .int (zI (((zTx F1 ((0, 0, 6), n1, K1, W1, T1) k).2.1) + 1)), .int (zI sg)])), (g1, .inl (cI, 24, .inl (zA (zIns ((zTx F1 ((0, 0, 6), n1, K1, W1, T1) k).2.2.1) ((zTx F1 ((0, 0, 6), n1, K1, W1, T1) k).2.1) ((zTx F1 ((0, 0, 6), n1, K1, W1, T1) k).1.2.1))))), (g2, .inl (cI, 24, .inl (zA (zIns ((zTx F1 ((0, 0, 6), n1, K1, W1, T1) k).2.2.2.1) ((zTx F1 ((0, 0, 6), n1, K1, W1, T1) k).2.1) ((zTx F1 ((0, 0, 6), n1, K1, W1, T1) k).1.2.2))))), (g3, .inl (cI, 24, .inl (zA (zIns ((zTx F1 ((0, 0, 6), n1, K1, W1, T1) k).2.2.2.2) ((zTx F1 ((0, 0, 6), n1, K1, W1, T1) k).2.1) ((F1 (k : Int)) - 48)))))]) rfl ?_
              refine zj_istore_n 118 [(2, .int (zI (zAw ((zTx F1 ((0, 0, 6), n1, K1, W1, T1) k).1.1) (F1 (k : Int))))), (6, .int (zI (F1 (k : Int)))), (0, .ref q0), (1, .int (zI n1)), (3, .int (zI ((zTx F1 ((0, 0, 6), n1, K1, W1, T1) k).1.2.1))), (4, .int (zI ((zTx F1 ((0, 0, 6), n1, K1, W1, T1) k).1.2.2))), (5, .int (zI (k : Int)))] C dX4_addPanelsOfText_117 rfl rfl (by decide) rfl ?_
              refine zj_iinc 121 6 [(5, .int (zI ((k : Int) + 1))), (2, .int (zI (zAw ((zTx F1 ((0, 0, 6), n1, K1, W1, T1) k).1.1) (F1 (k : Int))))), (6, .int (zI (F1 (k : Int)))), (0, .ref q0), (1, .int (zI n1)), (3, .int (zI ((zTx F1 ((0, 0, 6), n1, K1, W1, T1) k).1.2.1))), (4, .int (zI ((zTx F1 ((0, 0, 6), n1, K1, W1, T1) k).1.2.2)))] C dX4_addPanelsOfText_118 rfl rfl (by decide) rfl ?_
              refine zj_goto 19 C dX4_addPanelsOfText_121 (by decide) ?_
              have hz : zTx F1 ((0, 0, 6), n1, K1, W1, T1) (k + 1) = ((zAw (zTx F1 ((0, 0, 6), n1, K1, W1, T1) k).1.1 (F1 k), (zTx F1 ((0, 0, 6), n1, K1, W1, T1) k).1.2), (zTx F1 ((0, 0, 6), n1, K1, W1, T1) k).2.1 + 1, zIns (zTx F1 ((0, 0, 6), n1, K1, W1, T1) k).2.2.1 (zTx F1 ((0, 0, 6), n1, K1, W1, T1) k).2.1 (zTx F1 ((0, 0, 6), n1, K1, W1, T1) k).1.2.1, zIns (zTx F1 ((0, 0, 6), n1, K1, W1, T1) k).2.2.2.1 (zTx F1 ((0, 0, 6), n1, K1, W1, T1) k).2.1 (zTx F1 ((0, 0, 6), n1, K1, W1, T1) k).1.2.2, zIns (zTx F1 ((0, 0, 6), n1, K1, W1, T1) k).2.2.2.2 (zTx F1 ((0, 0, 6), n1, K1, W1, T1) k).2.1 (F1 k - 48)) := by show zTx1 _ _ = _; unfold zTx1; rw [if_neg (by omega), if_neg (by omega), if_neg (by omega)]
              refine zj_re [0, 3, 4, 5, 6, 1, 2] [(q0, .inr (4, [.ref q2, .ref q1, .ref qt, .ref ql, .ref qh, .ref qx])), (q2, .inr (2, [.ref g1, .ref g2, .ref g3, .int (zI (((zTx F1 ((0, 0, 6), n1, K1, W1, T1) k).2.1) + 1)), .int (zI sg)])), (g1, .inl (cI, 24, .inl (zA (zIns ((zTx F1 ((0, 0, 6), n1, K1, W1, T1) k).2.2.1) ((zTx F1 ((0, 0, 6), n1, K1, W1, T1) k).2.1) ((zTx F1 ((0, 0, 6), n1, K1, W1, T1) k).1.2.1))))), (g2, .inl (cI, 24, .inl (zA (zIns ((zTx F1 ((0, 0, 6), n1, K1, W1, T1) k).2.2.2.1) ((zTx F1 ((0, 0, 6), n1, K1, W1, T1) k).2.1) ((zTx F1 ((0, 0, 6), n1, K1, W1, T1) k).1.2.2))))), (g3, .inl (cI, 24, .inl (zA (zIns ((zTx F1 ((0, 0, 6), n1, K1, W1, T1) k).2.2.2.2) ((zTx F1 ((0, 0, 6), n1, K1, W1, T1) k).2.1) ((F1 (k : Int)) - 48))))), (qx, .inr (3, [.ref xb, .int (zI tl)])), (xb, .inl (cI, 60, .inl (zA F1)))] (by decide) rfl ?_
              refine zj_lv [3, 4, 1, 5, 6, 0] [(0, .ref q0), (1, .int (zI n1)), (2, .int (zI (zAw ((zTx F1 ((0, 0, 6), n1, K1, W1, T1) k).1.1) (F1 (k : Int))))), (3, .int (zI ((zTx F1 ((0, 0, 6), n1, K1, W1, T1) k).1.2.1))), (4, .int (zI ((zTx F1 ((0, 0, 6), n1, K1, W1, T1) k).1.2.2))), (5, .int (zI ((k : Int) + 1)))] rfl ?_
              refine zj_ws (ws' := [(q0, .inr (4, [.ref q2, .ref q1, .ref qt, .ref ql, .ref qh, .ref qx])), (q2, .inr (2, [.ref g1, .ref g2, .ref g3, .int (zI ((zTx F1 ((0, 0, 6), n1, K1, W1, T1) (k + 1)).2.1)), .int (zI sg)])), (g1, .inl (cI, 24, .inl (zA ((zTx F1 ((0, 0, 6), n1, K1, W1, T1) (k + 1)).2.2.1)))), (g2, .inl (cI, 24, .inl (zA ((zTx F1 ((0, 0, 6), n1, K1, W1, T1) (k + 1)).2.2.2.1)))), (g3, .inl (cI, 24, .inl (zA ((zTx F1 ((0, 0, 6), n1, K1, W1, T1) (k + 1)).2.2.2.2)))), (qx, .inr (3, [.ref xb, .int (zI tl)])), (xb, .inl (cI, 60, .inl (zA F1)))]) (by rw [hz]) ?_
              refine zj_eqlv (lv' := [(0, .ref q0), (1, .int (zI n1)), (2, .int (zI ((zTx F1 ((0, 0, 6), n1, K1, W1, T1) (k + 1)).1.1))), (3, .int (zI ((zTx F1 ((0, 0, 6), n1, K1, W1, T1) (k + 1)).1.2.1))), (4, .int (zI ((zTx F1 ((0, 0, 6), n1, K1, W1, T1) (k + 1)).1.2.2))), (5, .int (zI ((k + 1) : Int)))]) (by rw [hz]) ?_
              exact ih (k + 1) (by omega) (by rw [hz]; exact ⟨by simp only []; omega, by simp only []; omega, by simp only []; omega, by simp only []; omega, by simp only []; omega, by simp only []; omega, by simp only []; omega, by simp only []; omega⟩) (by omega)
            · skip
              refine zj_iload 81 0 C dX4_addPanelsOfText_79 rfl rfl ?_
              refine zj_bipush 83 C dX4_addPanelsOfText_81 rfl rfl ?_
              refine zj_isub 84 C dX4_addPanelsOfText_83 rfl ?_
              refine zj_istore 86 [(4, .int (zI ((F1 (k : Int)) - 48))), (6, .int (zI (F1 (k : Int)))), (0, .ref q0), (1, .int (zI n1)), (2, .int (zI ((zTx F1 ((0, 0, 6), n1, K1, W1, T1) k).1.1))), (3, .int (zI ((zTx F1 ((0, 0, 6), n1, K1, W1, T1) k).1.2.1))), (5, .int (zI (k : Int)))] C dX4_addPanelsOfText_84 rfl (by decide) rfl ?_
              refine zj_goto 111 C dX4_addPanelsOfText_86 (by decide) ?_
              refine zj_iload_n 112 4 C dX4_addPanelsOfText_111 rfl rfl rfl ?_
              refine zj_iload 114 1 C dX4_addPanelsOfText_112 rfl rfl ?_
              refine zj_ci 117 [] [0, 1, 2, 3, 4, 5, 6] C (wr := [(q0, .inr (4, [.ref q2, .ref q1, .ref qt, .ref ql, .ref qh, .ref qx])), (q2, .inr (2, [.ref g1, .ref g2, .ref g3, .int (zI ((zTx F1 ((0, 0, 6), n1, K1, W1, T1) k).2.1)), .int (zI sg)])), (g1, .inl (cI, 24, .inl (zA ((zTx F1 ((0, 0, 6), n1, K1, W1, T1) k).2.2.1)))), (g2, .inl (cI, 24, .inl (zA ((zTx F1 ((0, 0, 6), n1, K1, W1, T1) k).2.2.2.1)))), (g3, .inl (cI, 24, .inl (zA ((zTx F1 ((0, 0, 6), n1, K1, W1, T1) k).2.2.2.2)))), (qx, .inr (3, [.ref xb, .int (zI tl)])), (xb, .inl (cI, 60, .inl (zA F1)))]) (zr_SN [] C (As := [.int (zI ((zTx F1 ((0, 0, 6), n1, K1, W1, T1) k).1.1)), .int (zI (F1 (k : Int)))]) (rest := []) (c_X3_awaitedBehind l D cI cS cJ ((zTx F1 ((0, 0, 6), n1, K1, W1, T1) k).1.1) (F1 (k : Int)) (by omega) (by omega)) (⟨va_cnB 2 C.1.2.2.2.2 gX4_addPanelsOfText_X3_awaitedBehind_n253 rfl rfl rfl (C.2.2.2.2.1 _ nm_RX4_253) (C.1.2.2.2.2 _ wn_X4_addPanelsOfText_RX3) (by decide +kernel) ⟨Nat.le_of_ble_eq_true rfl, Nat.le_of_ble_eq_true rfl⟩, C.1.2.2.2.2 _ wst_X4_addPanelsOfText_X3_awaitedBehind, trivial⟩) rfl (by decide) rfl rfl (Nat.le_of_ble_eq_true rfl) dX4_addPanelsOfText_114 ⟨Nat.le_of_ble_eq_true rfl, Nat.le_of_ble_eq_true rfl⟩) rfl rfl (by decide) (by decide) rfl (fun r_7 w_ hp_8 => ?_)
              obtain ⟨rfl, rfl⟩ := hp_8
              refine zj_ws (ws' := [(q0, .inr (4, [.ref q2, .ref q1, .ref qt, .ref ql, .ref qh, .ref qx])), (q2, .inr (2, [.ref g1, .ref g2, .ref g3, .int (zI ((zTx F1 ((0, 0, 6), n1, K1, W1, T1) k).2.1)), .int (zI sg)])), (g1, .inl (cI, 24, .inl (zA ((zTx F1 ((0, 0, 6), n1, K1, W1, T1) k).2.2.1)))), (g2, .inl (cI, 24, .inl (zA ((zTx F1 ((0, 0, 6), n1, K1, W1, T1) k).2.2.2.1)))), (g3, .inl (cI, 24, .inl (zA ((zTx F1 ((0, 0, 6), n1, K1, W1, T1) k).2.2.2.2)))), (qx, .inr (3, [.ref xb, .int (zI tl)])), (xb, .inl (cI, 60, .inl (zA F1)))]) rfl ?_
              refine zj_istore_n 118 [(2, .int (zI (zAw ((zTx F1 ((0, 0, 6), n1, K1, W1, T1) k).1.1) (F1 (k : Int))))), (4, .int (zI ((F1 (k : Int)) - 48))), (6, .int (zI (F1 (k : Int)))), (0, .ref q0), (1, .int (zI n1)), (3, .int (zI ((zTx F1 ((0, 0, 6), n1, K1, W1, T1) k).1.2.1))), (5, .int (zI (k : Int)))] C dX4_addPanelsOfText_117 rfl rfl (by decide) rfl ?_
              refine zj_iinc 121 6 [(5, .int (zI ((k : Int) + 1))), (2, .int (zI (zAw ((zTx F1 ((0, 0, 6), n1, K1, W1, T1) k).1.1) (F1 (k : Int))))), (4, .int (zI ((F1 (k : Int)) - 48))), (6, .int (zI (F1 (k : Int)))), (0, .ref q0), (1, .int (zI n1)), (3, .int (zI ((zTx F1 ((0, 0, 6), n1, K1, W1, T1) k).1.2.1)))] C dX4_addPanelsOfText_118 rfl rfl (by decide) rfl ?_
              refine zj_goto 19 C dX4_addPanelsOfText_121 (by decide) ?_
              have hz : zTx F1 ((0, 0, 6), n1, K1, W1, T1) (k + 1) = ((zAw (zTx F1 ((0, 0, 6), n1, K1, W1, T1) k).1.1 (F1 k), (zTx F1 ((0, 0, 6), n1, K1, W1, T1) k).1.2.1, F1 k - 48), (zTx F1 ((0, 0, 6), n1, K1, W1, T1) k).2) := by show zTx1 _ _ = _; unfold zTx1; rw [if_neg (by omega), if_neg (by omega), if_pos (by omega)]
              refine zj_lv [4, 5, 1, 6, 2, 0] [(0, .ref q0), (1, .int (zI n1)), (2, .int (zI (zAw ((zTx F1 ((0, 0, 6), n1, K1, W1, T1) k).1.1) (F1 (k : Int))))), (3, .int (zI ((zTx F1 ((0, 0, 6), n1, K1, W1, T1) k).1.2.1))), (4, .int (zI ((F1 (k : Int)) - 48))), (5, .int (zI ((k : Int) + 1)))] rfl ?_
              refine zj_ws (ws' := [(q0, .inr (4, [.ref q2, .ref q1, .ref qt, .ref ql, .ref qh, .ref qx])), (q2, .inr (2, [.ref g1, .ref g2, .ref g3, .int (zI ((zTx F1 ((0, 0, 6), n1, K1, W1, T1) (k + 1)).2.1)), .int (zI sg)])), (g1, .inl (cI, 24, .inl (zA ((zTx F1 ((0, 0, 6), n1, K1, W1, T1) (k + 1)).2.2.1)))), (g2, .inl (cI, 24, .inl (zA ((zTx F1 ((0, 0, 6), n1, K1, W1, T1) (k + 1)).2.2.2.1)))), (g3, .inl (cI, 24, .inl (zA ((zTx F1 ((0, 0, 6), n1, K1, W1, T1) (k + 1)).2.2.2.2)))), (qx, .inr (3, [.ref xb, .int (zI tl)])), (xb, .inl (cI, 60, .inl (zA F1)))]) (by rw [hz]) ?_
              refine zj_eqlv (lv' := [(0, .ref q0), (1, .int (zI n1)), (2, .int (zI ((zTx F1 ((0, 0, 6), n1, K1, W1, T1) (k + 1)).1.1))), (3, .int (zI ((zTx F1 ((0, 0, 6), n1, K1, W1, T1) (k + 1)).1.2.1))), (4, .int (zI ((zTx F1 ((0, 0, 6), n1, K1, W1, T1) (k + 1)).1.2.2))), (5, .int (zI ((k + 1) : Int)))]) (by rw [hz]) ?_
              exact ih (k + 1) (by omega) (by rw [hz]; exact ⟨by simp only []; omega, by simp only []; omega, by simp only []; omega, by simp only []; omega, by simp only []; omega, by simp only []; omega, by simp only []; omega, by simp only []; omega⟩) (by omega)
          · skip
            refine zj_iload 63 0 C dX4_addPanelsOfText_61 rfl rfl ?_
            refine zj_ci 66 [] [0, 1, 2, 3, 4, 5, 6] C (wr := [(q0, .inr (4, [.ref q2, .ref q1, .ref qt, .ref ql, .ref qh, .ref qx])), (q2, .inr (2, [.ref g1, .ref g2, .ref g3, .int (zI ((zTx F1 ((0, 0, 6), n1, K1, W1, T1) k).2.1)), .int (zI sg)])), (g1, .inl (cI, 24, .inl (zA ((zTx F1 ((0, 0, 6), n1, K1, W1, T1) k).2.2.1)))), (g2, .inl (cI, 24, .inl (zA ((zTx F1 ((0, 0, 6), n1, K1, W1, T1) k).2.2.2.1)))), (g3, .inl (cI, 24, .inl (zA ((zTx F1 ((0, 0, 6), n1, K1, W1, T1) k).2.2.2.2)))), (qx, .inr (3, [.ref xb, .int (zI tl)])), (xb, .inl (cI, 60, .inl (zA F1)))]) (zr_SN [] C (As := [.int (zI (F1 (k : Int)))]) (rest := []) (c_X3_kindOf l D cI cS cJ (F1 (k : Int)) (by omega)) (⟨va_cnB 1 C.1.2.2.2.2 gX4_addPanelsOfText_X3_kindOf_n250 rfl rfl rfl (C.2.2.2.2.1 _ nm_RX4_250) (C.1.2.2.2.2 _ wn_X4_addPanelsOfText_RX3) (by decide +kernel) ⟨Nat.le_of_ble_eq_true rfl, Nat.le_of_ble_eq_true rfl⟩, C.1.2.2.2.2 _ wst_X4_addPanelsOfText_X3_kindOf, trivial⟩) rfl (by decide) rfl rfl (Nat.le_of_ble_eq_true rfl) dX4_addPanelsOfText_63 ⟨Nat.le_of_ble_eq_true rfl, Nat.le_of_ble_eq_true rfl⟩) rfl rfl (by decide) (by decide) rfl (fun r_9 w_ hp_10 => ?_)
            obtain ⟨rfl, rfl⟩ := hp_10
            refine zj_ws (ws' := [(q0, .inr (4, [.ref q2, .ref q1, .ref qt, .ref ql, .ref qh, .ref qx])), (q2, .inr (2, [.ref g1, .ref g2, .ref g3, .int (zI ((zTx F1 ((0, 0, 6), n1, K1, W1, T1) k).2.1)), .int (zI sg)])), (g1, .inl (cI, 24, .inl (zA ((zTx F1 ((0, 0, 6), n1, K1, W1, T1) k).2.2.1)))), (g2, .inl (cI, 24, .inl (zA ((zTx F1 ((0, 0, 6), n1, K1, W1, T1) k).2.2.2.1)))), (g3, .inl (cI, 24, .inl (zA ((zTx F1 ((0, 0, 6), n1, K1, W1, T1) k).2.2.2.2)))), (qx, .inr (3, [.ref xb, .int (zI tl)])), (xb, .inl (cI, 60, .inl (zA F1)))]) rfl ?_
            refine zj_istore_n 67 [(3, .int (zI (zKd (F1 (k : Int))))), (6, .int (zI (F1 (k : Int)))), (0, .ref q0), (1, .int (zI n1)), (2, .int (zI ((zTx F1 ((0, 0, 6), n1, K1, W1, T1) k).1.1))), (4, .int (zI ((zTx F1 ((0, 0, 6), n1, K1, W1, T1) k).1.2.2))), (5, .int (zI (k : Int)))] C dX4_addPanelsOfText_66 rfl rfl (by decide) rfl ?_
            refine zj_bipush 69 C dX4_addPanelsOfText_67 rfl rfl ?_
            refine zj_istore 71 [(4, .int (zI 6)), (3, .int (zI (zKd (F1 (k : Int))))), (6, .int (zI (F1 (k : Int)))), (0, .ref q0), (1, .int (zI n1)), (2, .int (zI ((zTx F1 ((0, 0, 6), n1, K1, W1, T1) k).1.1))), (5, .int (zI (k : Int)))] C dX4_addPanelsOfText_69 rfl (by decide) rfl ?_
            refine zj_goto 111 C dX4_addPanelsOfText_71 (by decide) ?_
            refine zj_iload_n 112 5 C dX4_addPanelsOfText_111 rfl rfl rfl ?_
            refine zj_iload 114 2 C dX4_addPanelsOfText_112 rfl rfl ?_
            refine zj_ci 117 [] [0, 1, 2, 3, 4, 5, 6] C (wr := [(q0, .inr (4, [.ref q2, .ref q1, .ref qt, .ref ql, .ref qh, .ref qx])), (q2, .inr (2, [.ref g1, .ref g2, .ref g3, .int (zI ((zTx F1 ((0, 0, 6), n1, K1, W1, T1) k).2.1)), .int (zI sg)])), (g1, .inl (cI, 24, .inl (zA ((zTx F1 ((0, 0, 6), n1, K1, W1, T1) k).2.2.1)))), (g2, .inl (cI, 24, .inl (zA ((zTx F1 ((0, 0, 6), n1, K1, W1, T1) k).2.2.2.1)))), (g3, .inl (cI, 24, .inl (zA ((zTx F1 ((0, 0, 6), n1, K1, W1, T1) k).2.2.2.2)))), (qx, .inr (3, [.ref xb, .int (zI tl)])), (xb, .inl (cI, 60, .inl (zA F1)))]) (zr_SN [] C (As := [.int (zI ((zTx F1 ((0, 0, 6), n1, K1, W1, T1) k).1.1)), .int (zI (F1 (k : Int)))]) (rest := []) (c_X3_awaitedBehind l D cI cS cJ ((zTx F1 ((0, 0, 6), n1, K1, W1, T1) k).1.1) (F1 (k : Int)) (by omega) (by omega)) (⟨va_cnB 2 C.1.2.2.2.2 gX4_addPanelsOfText_X3_awaitedBehind_n253 rfl rfl rfl (C.2.2.2.2.1 _ nm_RX4_253) (C.1.2.2.2.2 _ wn_X4_addPanelsOfText_RX3) (by decide +kernel) ⟨Nat.le_of_ble_eq_true rfl, Nat.le_of_ble_eq_true rfl⟩, C.1.2.2.2.2 _ wst_X4_addPanelsOfText_X3_awaitedBehind, trivial⟩) rfl (by decide) rfl rfl (Nat.le_of_ble_eq_true rfl) dX4_addPanelsOfText_114 ⟨Nat.le_of_ble_eq_true rfl, Nat.le_of_ble_eq_true rfl⟩) rfl rfl (by decide) (by decide) rfl (fun r_11 w_ hp_12 => ?_)
            obtain ⟨rfl, rfl⟩ := hp_12
            refine zj_ws (ws' := [(q0, .inr (4, [.ref q2, .ref q1, .ref qt, .ref ql, .ref qh, .ref qx])), (q2, .inr (2, [.ref g1, .ref g2, .ref g3, .int (zI ((zTx F1 ((0, 0, 6), n1, K1, W1, T1) k).2.1)), .int (zI sg)])), (g1, .inl (cI, 24, .inl (zA ((zTx F1 ((0, 0, 6), n1, K1, W1, T1) k).2.2.1)))), (g2, .inl (cI, 24, .inl (zA ((zTx F1 ((0, 0, 6), n1, K1, W1, T1) k).2.2.2.1)))), (g3, .inl (cI, 24, .inl (zA ((zTx F1 ((0, 0, 6), n1, K1, W1, T1) k).2.2.2.2)))), (qx, .inr (3, [.ref xb, .int (zI tl)])), (xb, .inl (cI, 60, .inl (zA F1)))]) rfl ?_
            refine zj_istore_n 118 [(2, .int (zI (zAw ((zTx F1 ((0, 0, 6), n1, K1, W1, T1) k).1.1) (F1 (k : Int))))), (4, .int (zI 6)), (3, .int (zI (zKd (F1 (k : Int))))), (6, .int (zI (F1 (k : Int)))), (0, .ref q0), (1, .int (zI n1)), (5, .int (zI (k : Int)))] C dX4_addPanelsOfText_117 rfl rfl (by decide) rfl ?_
            refine zj_iinc 121 6 [(5, .int (zI ((k : Int) + 1))), (2, .int (zI (zAw ((zTx F1 ((0, 0, 6), n1, K1, W1, T1) k).1.1) (F1 (k : Int))))), (4, .int (zI 6)), (3, .int (zI (zKd (F1 (k : Int))))), (6, .int (zI (F1 (k : Int)))), (0, .ref q0), (1, .int (zI n1))] C dX4_addPanelsOfText_118 rfl rfl (by decide) rfl ?_
            refine zj_goto 19 C dX4_addPanelsOfText_121 (by decide) ?_
            have hz : zTx F1 ((0, 0, 6), n1, K1, W1, T1) (k + 1) = ((zAw (zTx F1 ((0, 0, 6), n1, K1, W1, T1) k).1.1 (F1 k), zKd (F1 k), 6), (zTx F1 ((0, 0, 6), n1, K1, W1, T1) k).2) := by show zTx1 _ _ = _; unfold zTx1; rw [if_neg (by omega), if_pos (by omega)]
            refine zj_lv [5, 6, 1, 3, 2, 0] [(0, .ref q0), (1, .int (zI n1)), (2, .int (zI (zAw ((zTx F1 ((0, 0, 6), n1, K1, W1, T1) k).1.1) (F1 (k : Int))))), (3, .int (zI (zKd (F1 (k : Int))))), (4, .int (zI 6)), (5, .int (zI ((k : Int) + 1)))] rfl ?_
            refine zj_ws (ws' := [(q0, .inr (4, [.ref q2, .ref q1, .ref qt, .ref ql, .ref qh, .ref qx])), (q2, .inr (2, [.ref g1, .ref g2, .ref g3, .int (zI ((zTx F1 ((0, 0, 6), n1, K1, W1, T1) (k + 1)).2.1)), .int (zI sg)])), (g1, .inl (cI, 24, .inl (zA ((zTx F1 ((0, 0, 6), n1, K1, W1, T1) (k + 1)).2.2.1)))), (g2, .inl (cI, 24, .inl (zA ((zTx F1 ((0, 0, 6), n1, K1, W1, T1) (k + 1)).2.2.2.1)))), (g3, .inl (cI, 24, .inl (zA ((zTx F1 ((0, 0, 6), n1, K1, W1, T1) (k + 1)).2.2.2.2)))), (qx, .inr (3, [.ref xb, .int (zI tl)])), (xb, .inl (cI, 60, .inl (zA F1)))]) (by rw [hz]) ?_
            refine zj_eqlv (lv' := [(0, .ref q0), (1, .int (zI n1)), (2, .int (zI ((zTx F1 ((0, 0, 6), n1, K1, W1, T1) (k + 1)).1.1))), (3, .int (zI ((zTx F1 ((0, 0, 6), n1, K1, W1, T1) (k + 1)).1.2.1))), (4, .int (zI ((zTx F1 ((0, 0, 6), n1, K1, W1, T1) (k + 1)).1.2.2))), (5, .int (zI ((k + 1) : Int)))]) (by rw [hz]) ?_
            exact ih (k + 1) (by omega) (by rw [hz]; exact ⟨by simp only []; omega, by simp only []; omega, by simp only []; omega, by simp only []; omega, by simp only []; omega, by simp only []; omega, by simp only []; omega, by simp only []; omega⟩) (by omega)
  refine zj_lv [5, 4, 3, 2, 1, 0] [(0, .ref q0), (1, .int (zI n1)), (2, .int (zI 0)), (3, .int (zI 0)), (4, .int (zI 6)), (5, .int (zI 0))] rfl ?_
  refine zj_ws (ws' := [(q0, .inr (4, [.ref q2, .ref q1, .ref qt, .ref ql, .ref qh, .ref qx])), (q2, .inr (2, [.ref g1, .ref g2, .ref g3, .int (zI ((zTx F1 ((0, 0, 6), n1, K1, W1, T1) 0).2.1)), .int (zI sg)])), (g1, .inl (cI, 24, .inl (zA ((zTx F1 ((0, 0, 6), n1, K1, W1, T1) 0).2.2.1)))), (g2, .inl (cI, 24, .inl (zA ((zTx F1 ((0, 0, 6), n1, K1, W1, T1) 0).2.2.2.1)))), (g3, .inl (cI, 24, .inl (zA ((zTx F1 ((0, 0, 6), n1, K1, W1, T1) 0).2.2.2.2)))), (qx, .inr (3, [.ref xb, .int (zI tl)])), (xb, .inl (cI, 60, .inl (zA F1)))]) (by rfl) ?_
  refine zj_eqlv (lv' := [(0, .ref q0), (1, .int (zI n1)), (2, .int (zI ((zTx F1 ((0, 0, 6), n1, K1, W1, T1) 0).1.1))), (3, .int (zI ((zTx F1 ((0, 0, 6), n1, K1, W1, T1) 0).1.2.1))), (4, .int (zI ((zTx F1 ((0, 0, 6), n1, K1, W1, T1) 0).1.2.2))), (5, .int (zI (0 : Int)))]) (by rfl) ?_
  exact hL19 (61) 0 (by omega) (by show -1 ≤ (0 : Int) ∧ (0 : Int) ≤ 2 ∧ -1 ≤ (0 : Int) ∧ (0 : Int) ≤ 3 ∧ -100 ≤ (6 : Int) ∧ (6 : Int) ≤ 1000 ∧ 0 ≤ n1 ∧ n1 ≤ 24; omega) (by omega)

def zHP (n1 sg : Int) (K1 W1 T1 P1 R1 U1 : Int → Int) (i1 : Int) (h0 : Int64) : Int64 := if i1 + 1 < n1 then zHm (zHm (zHm (zHf (fun x => zPgF x (K1 i1) (W1 i1) (T1 i1) (P1 i1) (R1 i1) (U1 i1)) 6 h0) (zBw (fun w => zCost n1 sg K1 (zU W1 i1 w) T1) 6).1) (zUsed (zFin sg (zEx K1 i1) (zEx W1 i1) (zEx T1 i1) n1))) (zEmp (zFin sg (zEx K1 i1) (zEx W1 i1) (zEx T1 i1) n1)) else (zHm (zHf (fun x => zPgF x (K1 i1) (W1 i1) (T1 i1) (P1 i1) (R1 i1) (U1 i1)) 6 h0) (zBw (fun w => zCost n1 sg K1 (zU W1 i1 w) T1) 6).1)

theorem wc_X4_hashWithPanel_185 : Cond.constantLong RX4 185 (31) ∈ wsX4_hashWithPanel := by decide +kernel
theorem fl_X4_hashWithPanel_12 : Cond.fieldLink RX4 12 "SplashPages" "now" "LSplashPages$Story;" ∈ wsX4_hashWithPanel := by decide +kernel
theorem im_X4_hashWithPanel_4 : ∀ w ∈ u_ws RX4 TX4 6, w ∈ wsX4_hashWithPanel := by decide +kernel
theorem wn_X4_hashWithPanel_RX2 : Cond.initialized RX2 ∈ wsX4_hashWithPanel := by decide +kernel
theorem nm_RX4_83 : Cond.methodLinkNest RX4 83 yX2_has "SplashPages" ∈ zNW := by decide +kernel
theorem wi_X4_hashWithPanel_X2_has : Cond.instanceMethod yX2_has ∈ wsX4_hashWithPanel := by decide +kernel
theorem wse_X4_hashWithPanel_X2_has : Cond.selects RX2 yX2_has yX2_has ∈ wsX4_hashWithPanel := by decide +kernel
abbrev rm_X4_hashWithPanel : Room := { frames := 5, cells := 0, slots := 0, locals := 120 }
set_option maxRecDepth 100000 in
set_option maxHeartbeats 4000000 in
theorem c_X4_hashWithPanel (l : Launch) (D : va_G) (cI cS cJ : ClassId) (q0 : Nat) (q2 : Nat) (g1 : Nat) (g2 : Nat) (g3 : Nat) (q1 : Nat) (a0 : Nat) (a1 : Nat) (a2 : Nat) (a3 : Nat) (a4 : Nat) (a5 : Nat) (a6 : Nat) (a7 : Nat) (qt : Nat) (ql : Nat) (qh : Nat) (qx : Nat) (n1 : Int) (sg : Int) (pg : Int) (rw : Int) (un : Int) (us : Int) (be : Int) (fi : Int) (lo : Int) (K1 : Int → Int) (W1 : Int → Int) (T1 : Int → Int) (P1 : Int → Int) (R1 : Int → Int) (U1 : Int → Int) (u1 : Nat) (u2 : Nat) (u3 : Nat) (v0 : Nat) (v1 : Nat) (v2 : Nat) (v3 : Nat) (v4 : Nat) (v5 : Nat) (v6 : Nat) (v7 : Nat) (nt : Int) (st : Int) (pgt : Int) (rwt : Int) (unt : Int) (ust : Int) (bet : Int) (fit : Int) (lot : Int) (kt : Int → Int) (wt : Int → Int) (tt : Int → Int) (Pt : Int → Int) (Rt : Int → Int) (Ut : Int → Int) (ct : Int → Int) (bt : Int → Int) (ft : Int → Int) (srt : Int → Int) (et : Int → Int) (h0 : Int64) (i1 : Int) (hst : zOk n1 sg K1 W1 T1) (hi : 0 ≤ i1 ∧ i1 < n1) : zMl l yX4_hashWithPanel wsX4_hashWithPanel rm_X4_hashWithPanel D (zTy cI cS cJ) [.ref q0, .long h0, .int (zI i1)] [(q0, .inr (4, [.ref q2, .ref q1, .ref qt, .ref ql, .ref qh, .ref qx])), (q2, .inr (2, [.ref g1, .ref g2, .ref g3, .int (zI n1), .int (zI sg)])), (g1, .inl (cI, 24, .inl (zA K1))), (g2, .inl (cI, 24, .inl (zA W1))), (g3, .inl (cI, 24, .inl (zA T1))), (q1, .inr (1, [.ref a0, .ref a1, .ref a2, .ref a3, .ref a4, .ref a5, .ref a6, .ref a7, .int (zI pg), .int (zI rw), .int (zI un), .int (zI us), .int (zI be), .int (zI fi), .int (zI lo)])), (a0, .inl (cI, 24, .inl (zA P1))), (a1, .inl (cI, 24, .inl (zA R1))), (a2, .inl (cI, 24, .inl (zA U1))), (qt, .inr (2, [.ref u1, .ref u2, .ref u3, .int (zI nt), .int (zI st)])), (u1, .inl (cI, 24, .inl (zA kt))), (u2, .inl (cI, 24, .inl (zA wt))), (u3, .inl (cI, 24, .inl (zA tt))), (ql, .inr (1, [.ref v0, .ref v1, .ref v2, .ref v3, .ref v4, .ref v5, .ref v6, .ref v7, .int (zI pgt), .int (zI rwt), .int (zI unt), .int (zI ust), .int (zI bet), .int (zI fit), .int (zI lot)])), (v0, .inl (cI, 24, .inl (zA Pt))), (v1, .inl (cI, 24, .inl (zA Rt))), (v2, .inl (cI, 24, .inl (zA Ut))), (v3, .inl (cI, 16, .inl (zA ct))), (v4, .inl (cI, 16, .inl (zA bt))), (v5, .inl (cI, 16, .inl (zA ft))), (v6, .inl (cI, 16, .inl (zA srt))), (v7, .inl (cI, 16, .inl (zA et)))] (fun r w => ∃ (nt2 : Int), ∃ (st2 : Int), ∃ (pgt2 : Int), ∃ (rwt2 : Int), ∃ (unt2 : Int), ∃ (ust2 : Int), ∃ (bet2 : Int), ∃ (fit2 : Int), ∃ (lot2 : Int), ∃ (kt2 : Int → Int), ∃ (wt2 : Int → Int), ∃ (tt2 : Int → Int), ∃ (Pt2 : Int → Int), ∃ (Rt2 : Int → Int), ∃ (Ut2 : Int → Int), ∃ (ct2 : Int → Int), ∃ (bt2 : Int → Int), ∃ (ft2 : Int → Int), ∃ (srt2 : Int → Int), ∃ (et2 : Int → Int), r = (zHP n1 sg K1 W1 T1 P1 R1 U1 i1 h0) ∧ w = [(q0, .inr (4, [.ref q2, .ref q1, .ref qt, .ref ql, .ref qh, .ref qx])), (q2, .inr (2, [.ref g1, .ref g2, .ref g3, .int (zI n1), .int (zI sg)])), (g1, .inl (cI, 24, .inl (zA K1))), (g2, .inl (cI, 24, .inl (zA W1))), (g3, .inl (cI, 24, .inl (zA T1))), (q1, .inr (1, [.ref a0, .ref a1, .ref a2, .ref a3, .ref a4, .ref a5, .ref a6, .ref a7, .int (zI pg), .int (zI rw), .int (zI un), .int (zI us), .int (zI be), .int (zI fi), .int (zI lo)])), (a0, .inl (cI, 24, .inl (zA P1))), (a1, .inl (cI, 24, .inl (zA R1))), (a2, .inl (cI, 24, .inl (zA U1))), (qt, .inr (2, [.ref u1, .ref u2, .ref u3, .int (zI nt2), .int (zI st2)])), (u1, .inl (cI, 24, .inl (zA kt2))), (u2, .inl (cI, 24, .inl (zA wt2))), (u3, .inl (cI, 24, .inl (zA tt2))), (ql, .inr (1, [.ref v0, .ref v1, .ref v2, .ref v3, .ref v4, .ref v5, .ref v6, .ref v7, .int (zI pgt2), .int (zI rwt2), .int (zI unt2), .int (zI ust2), .int (zI bet2), .int (zI fit2), .int (zI lot2)])), (v0, .inl (cI, 24, .inl (zA Pt2))), (v1, .inl (cI, 24, .inl (zA Rt2))), (v2, .inl (cI, 24, .inl (zA Ut2))), (v3, .inl (cI, 16, .inl (zA ct2))), (v4, .inl (cI, 16, .inl (zA bt2))), (v5, .inl (cI, 16, .inl (zA ft2))), (v6, .inl (cI, 16, .inl (zA srt2))), (v7, .inl (cI, 16, .inl (zA et2)))]) 0 0 := by
  intro sz
  refine zMet_of (Qc := fun A => va_Ql _ (zB D (zTy cI cS cJ) A) A) RX4 [(0, .ref q0), (1, .long h0), (3, .int (zI i1))] rfl (by decide +kernel) rfl (Nat.le_of_ble_eq_true rfl) rfl ?_ sz
  intro p e s m args below meth c A Q hQ C hr hini
  have hn := hst.1
  refine zj_lload_n 1 1 C dX4_hashWithPanel_0 rfl rfl rfl ?_
  refine zj_lstore 3 [(4, .long h0), (0, .ref q0), (1, .long h0), (3, .int (zI i1))] C dX4_hashWithPanel_1 rfl (by decide) rfl ?_
  refine zj_iconst 4 C dX4_hashWithPanel_3 rfl ?_
  refine zj_istore 6 [(6, .int (zI 0)), (4, .long h0), (0, .ref q0), (1, .long h0), (3, .int (zI i1))] C dX4_hashWithPanel_4 rfl (by decide) rfl ?_
  have hL6 : ∀ (N : Nat) (k : Nat), ((k : Int) ≤ 6) → (6 - (k : Int) < N) → zJ p l e rm_X4_hashWithPanel s m args below meth c Q D A 7 [(q0, .inr (4, [.ref q2, .ref q1, .ref qt, .ref ql, .ref qh, .ref qx])), (q2, .inr (2, [.ref g1, .ref g2, .ref g3, .int (zI n1), .int (zI sg)])), (g1, .inl (cI, 24, .inl (zA K1))), (g2, .inl (cI, 24, .inl (zA W1))), (g3, .inl (cI, 24, .inl (zA T1))), (q1, .inr (1, [.ref a0, .ref a1, .ref a2, .ref a3, .ref a4, .ref a5, .ref a6, .ref a7, .int (zI pg), .int (zI rw), .int (zI un), .int (zI us), .int (zI be), .int (zI fi), .int (zI lo)])), (a0, .inl (cI, 24, .inl (zA P1))), (a1, .inl (cI, 24, .inl (zA R1))), (a2, .inl (cI, 24, .inl (zA U1))), (qt, .inr (2, [.ref u1, .ref u2, .ref u3, .int (zI nt), .int (zI st)])), (u1, .inl (cI, 24, .inl (zA kt))), (u2, .inl (cI, 24, .inl (zA wt))), (u3, .inl (cI, 24, .inl (zA tt))), (ql, .inr (1, [.ref v0, .ref v1, .ref v2, .ref v3, .ref v4, .ref v5, .ref v6, .ref v7, .int (zI pgt), .int (zI rwt), .int (zI unt), .int (zI ust), .int (zI bet), .int (zI fit), .int (zI lot)])), (v0, .inl (cI, 24, .inl (zA Pt))), (v1, .inl (cI, 24, .inl (zA Rt))), (v2, .inl (cI, 24, .inl (zA Ut))), (v3, .inl (cI, 16, .inl (zA ct))), (v4, .inl (cI, 16, .inl (zA bt))), (v5, .inl (cI, 16, .inl (zA ft))), (v6, .inl (cI, 16, .inl (zA srt))), (v7, .inl (cI, 16, .inl (zA et)))] 0 0 [(0, .ref q0), (3, .int (zI i1)), (4, .long (zHf (fun x => zPgF x (K1 i1) (W1 i1) (T1 i1) (P1 i1) (R1 i1) (U1 i1)) k h0)), (6, .int (zI (k : Int)))] 6 [] := by
    intro N
    induction N with
    | zero => intro k hk hN; exact absurd hN (by omega)
    | succ N ih =>
      intro k hk hN
      refine zj_iload 8 3 C dX4_hashWithPanel_6 rfl rfl ?_
      refine zj_iconst 9 C dX4_hashWithPanel_8 rfl ?_
      refine zj_icmp_gt 12 35 C (by omega) (by omega) dX4_hashWithPanel_9 rfl (by decide) (fun h9 => ?_) (fun h9 => ?_)
      · skip
        refine zj_ldc2 38 C (31) wc_X4_hashWithPanel_185 dX4_hashWithPanel_35 rfl ?_
        refine zj_lload 40 2 C dX4_hashWithPanel_38 rfl rfl ?_
        refine zj_lmul 41 C dX4_hashWithPanel_40 rfl ?_
        refine zj_aload_n 42 0 C dX4_hashWithPanel_41 rfl rfl rfl ?_
        refine zj_iload_n 43 1 C dX4_hashWithPanel_42 rfl rfl rfl ?_
        refine zj_ci 46 [0, 1, 2, 3, 4, 9, 10, 11, 12, 13, 14, 15, 16, 17, 18, 19, 20, 21] [5, 6, 7, 8] C (wr := [(q1, .inr (1, [.ref a0, .ref a1, .ref a2, .ref a3, .ref a4, .ref a5, .ref a6, .ref a7, .int (zI pg), .int (zI rw), .int (zI un), .int (zI us), .int (zI be), .int (zI fi), .int (zI lo)])), (a0, .inl (cI, 24, .inl (zA P1))), (a1, .inl (cI, 24, .inl (zA R1))), (a2, .inl (cI, 24, .inl (zA U1)))]) (zr_V [0, 1, 2, 3, 4, 9, 10, 11, 12, 13, 14, 15, 16, 17, 18, 19, 20, 21] C (As := [.int (zI i1)]) (rest := [.long ((31 : Int64) * (zHf (fun x => zPgF x (K1 i1) (W1 i1) (T1 i1) (P1 i1) (R1 i1) (U1 i1)) k h0))]) (c_X4_widthOfLeastCost l D cI cS cJ q0 q2 g1 g2 g3 q1 0 0 0 0 0 0 0 0 qt ql qh qx n1 sg K1 W1 T1 u1 u2 u3 v0 v1 v2 v3 v4 v5 v6 v7 nt st pgt rwt unt ust bet fit lot kt wt tt Pt Rt Ut ct bt ft srt et i1 hst (by omega)) (cwV 1 C.1.2.2.2.2 gX4_hashWithPanel_X4_widthOfLeastCost rfl rfl rfl (by decide +kernel) ⟨Nat.le_of_ble_eq_true rfl, Nat.le_of_ble_eq_true rfl⟩) rfl (by decide) 0 rfl rfl rfl rfl (Nat.le_of_ble_eq_true rfl) dX4_hashWithPanel_43 ⟨Nat.le_of_ble_eq_true rfl, Nat.le_of_ble_eq_true rfl⟩) rfl rfl (by decide) (by decide) rfl (fun r_1 w_ hp_2 => ?_)
        obtain ⟨nt2_3, st2_4, pgt2_5, rwt2_6, unt2_7, ust2_8, bet2_9, fit2_10, lot2_11, kt2_12, wt2_13, tt2_14, Pt2_15, Rt2_16, Ut2_17, ct2_18, bt2_19, ft2_20, srt2_21, et2_22, rfl, rfl⟩ := hp_2
        refine zj_ws (ws' := [(q1, .inr (1, [.ref a0, .ref a1, .ref a2, .ref a3, .ref a4, .ref a5, .ref a6, .ref a7, .int (zI pg), .int (zI rw), .int (zI un), .int (zI us), .int (zI be), .int (zI fi), .int (zI lo)])), (a0, .inl (cI, 24, .inl (zA P1))), (a1, .inl (cI, 24, .inl (zA R1))), (a2, .inl (cI, 24, .inl (zA U1))), (q0, .inr (4, [.ref q2, .ref q1, .ref qt, .ref ql, .ref qh, .ref qx])), (q2, .inr (2, [.ref g1, .ref g2, .ref g3, .int (zI n1), .int (zI sg)])), (g1, .inl (cI, 24, .inl (zA K1))), (g2, .inl (cI, 24, .inl (zA W1))), (g3, .inl (cI, 24, .inl (zA T1))), (qt, .inr (2, [.ref u1, .ref u2, .ref u3, .int (zI nt2_3), .int (zI st2_4)])), (u1, .inl (cI, 24, .inl (zA kt2_12))), (u2, .inl (cI, 24, .inl (zA wt2_13))), (u3, .inl (cI, 24, .inl (zA tt2_14))), (ql, .inr (1, [.ref v0, .ref v1, .ref v2, .ref v3, .ref v4, .ref v5, .ref v6, .ref v7, .int (zI pgt2_5), .int (zI rwt2_6), .int (zI unt2_7), .int (zI ust2_8), .int (zI bet2_9), .int (zI fit2_10), .int (zI lot2_11)])), (v0, .inl (cI, 24, .inl (zA Pt2_15))), (v1, .inl (cI, 24, .inl (zA Rt2_16))), (v2, .inl (cI, 24, .inl (zA Ut2_17))), (v3, .inl (cI, 16, .inl (zA ct2_18))), (v4, .inl (cI, 16, .inl (zA bt2_19))), (v5, .inl (cI, 16, .inl (zA ft2_20))), (v6, .inl (cI, 16, .inl (zA srt2_21))), (v7, .inl (cI, 16, .inl (zA et2_22)))]) rfl ?_
        refine zj_i2lu 47 C dX4_hashWithPanel_46 rfl ?_
        refine zj_ladd 48 C dX4_hashWithPanel_47 rfl ?_
        refine zj_lstore 50 [(4, .long (((31 : Int64) * (zHf (fun x => zPgF x (K1 i1) (W1 i1) (T1 i1) (P1 i1) (R1 i1) (U1 i1)) k h0)) + ((zI ((zBw (fun w => zCost n1 sg K1 (zU W1 i1 w) T1) 6).1)).toInt64))), (0, .ref q0), (3, .int (zI i1)), (6, .int (zI (k : Int)))] C dX4_hashWithPanel_48 rfl (by decide) rfl ?_
        refine zj_aload_n 51 1 C dX4_hashWithPanel_50 rfl rfl rfl ?_
        refine zj_get 54 4 0 C (T := TX4) im_X4_hashWithPanel_4 fl_X4_hashWithPanel_12 rfl rfl (by decide) rfl rfl dX4_hashWithPanel_51 rfl ?_
        refine zj_iload_n 55 2 C dX4_hashWithPanel_54 rfl rfl rfl ?_
        refine zj_iconst 56 C dX4_hashWithPanel_55 rfl ?_
        refine zj_iadd 57 C dX4_hashWithPanel_56 rfl ?_
        refine zj_ci 60 [5] [0, 1, 2, 3, 4, 6, 7, 8, 9, 10, 11, 12, 13, 14, 15, 16, 17, 18, 19, 20, 21] C (wr := [(q1, .inr (1, [.ref a0, .ref a1, .ref a2, .ref a3, .ref a4, .ref a5, .ref a6, .ref a7, .int (zI pg), .int (zI rw), .int (zI un), .int (zI us), .int (zI be), .int (zI fi), .int (zI lo)])), (a0, .inl (cI, 24, .inl (zA P1))), (a1, .inl (cI, 24, .inl (zA R1))), (a2, .inl (cI, 24, .inl (zA U1))), (q0, .inr (4, [.ref q2, .ref q1, .ref qt, .ref ql, .ref qh, .ref qx])), (g1, .inl (cI, 24, .inl (zA K1))), (g2, .inl (cI, 24, .inl (zA W1))), (g3, .inl (cI, 24, .inl (zA T1))), (qt, .inr (2, [.ref u1, .ref u2, .ref u3, .int (zI nt2_3), .int (zI st2_4)])), (u1, .inl (cI, 24, .inl (zA kt2_12))), (u2, .inl (cI, 24, .inl (zA wt2_13))), (u3, .inl (cI, 24, .inl (zA tt2_14))), (ql, .inr (1, [.ref v0, .ref v1, .ref v2, .ref v3, .ref v4, .ref v5, .ref v6, .ref v7, .int (zI pgt2_5), .int (zI rwt2_6), .int (zI unt2_7), .int (zI ust2_8), .int (zI bet2_9), .int (zI fit2_10), .int (zI lot2_11)])), (v0, .inl (cI, 24, .inl (zA Pt2_15))), (v1, .inl (cI, 24, .inl (zA Rt2_16))), (v2, .inl (cI, 24, .inl (zA Ut2_17))), (v3, .inl (cI, 16, .inl (zA ct2_18))), (v4, .inl (cI, 16, .inl (zA bt2_19))), (v5, .inl (cI, 16, .inl (zA ft2_20))), (v6, .inl (cI, 16, .inl (zA srt2_21))), (v7, .inl (cI, 16, .inl (zA et2_22)))]) (zr_VN [5] C (As := [.int (zI (i1 + 1))]) (rest := []) (c_X2_has l D cI cS cJ q2 g1 g2 g3 n1 sg (i1 + 1) (by omega) (by omega)) (⟨va_cnB 1 C.1.2.2.2.2 gX4_hashWithPanel_X2_has_n83 rfl rfl rfl (C.2.2.2.2.1 _ nm_RX4_83) (C.1.2.2.2.2 _ wn_X4_hashWithPanel_RX2) (by decide +kernel) ⟨Nat.le_of_ble_eq_true rfl, Nat.le_of_ble_eq_true rfl⟩, C.1.2.2.2.2 _ wi_X4_hashWithPanel_X2_has, C.1.2.2.2.2 _ wse_X4_hashWithPanel_X2_has⟩) rfl (by decide) 0 rfl rfl rfl rfl (Nat.le_of_ble_eq_true rfl) dX4_hashWithPanel_57 ⟨Nat.le_of_ble_eq_true rfl, Nat.le_of_ble_eq_true rfl⟩) rfl rfl (by decide) (by decide) rfl (fun r_23 w_ hp_24 => ?_)
        obtain ⟨r1_25, fh, rfl, rfl⟩ := hp_24
        refine zj_ws (ws' := [(q1, .inr (1, [.ref a0, .ref a1, .ref a2, .ref a3, .ref a4, .ref a5, .ref a6, .ref a7, .int (zI pg), .int (zI rw), .int (zI un), .int (zI us), .int (zI be), .int (zI fi), .int (zI lo)])), (a0, .inl (cI, 24, .inl (zA P1))), (a1, .inl (cI, 24, .inl (zA R1))), (a2, .inl (cI, 24, .inl (zA U1))), (q0, .inr (4, [.ref q2, .ref q1, .ref qt, .ref ql, .ref qh, .ref qx])), (g1, .inl (cI, 24, .inl (zA K1))), (g2, .inl (cI, 24, .inl (zA W1))), (g3, .inl (cI, 24, .inl (zA T1))), (qt, .inr (2, [.ref u1, .ref u2, .ref u3, .int (zI nt2_3), .int (zI st2_4)])), (u1, .inl (cI, 24, .inl (zA kt2_12))), (u2, .inl (cI, 24, .inl (zA wt2_13))), (u3, .inl (cI, 24, .inl (zA tt2_14))), (ql, .inr (1, [.ref v0, .ref v1, .ref v2, .ref v3, .ref v4, .ref v5, .ref v6, .ref v7, .int (zI pgt2_5), .int (zI rwt2_6), .int (zI unt2_7), .int (zI ust2_8), .int (zI bet2_9), .int (zI fit2_10), .int (zI lot2_11)])), (v0, .inl (cI, 24, .inl (zA Pt2_15))), (v1, .inl (cI, 24, .inl (zA Rt2_16))), (v2, .inl (cI, 24, .inl (zA Ut2_17))), (v3, .inl (cI, 16, .inl (zA ct2_18))), (v4, .inl (cI, 16, .inl (zA bt2_19))), (v5, .inl (cI, 16, .inl (zA ft2_20))), (v6, .inl (cI, 16, .inl (zA srt2_21))), (v7, .inl (cI, 16, .inl (zA et2_22))), (q2, .inr (2, [.ref g1, .ref g2, .ref g3, .int (zI n1), .int (zI sg)]))]) rfl ?_
        refine zj_if_eq 63 95 C (by omega) dX4_hashWithPanel_60 rfl (by decide) (fun h_26 => ?_) (fun h_26 => ?_)
        · skip
          refine zj_lload 97 0 C dX4_hashWithPanel_95 rfl rfl ?_
          refine zj_re [4, 21, 5, 6, 7, 0, 1, 2, 3, 8, 9, 10, 11, 12, 13, 14, 15, 16, 17, 18, 19, 20] [(q0, .inr (4, [.ref q2, .ref q1, .ref qt, .ref ql, .ref qh, .ref qx])), (q2, .inr (2, [.ref g1, .ref g2, .ref g3, .int (zI n1), .int (zI sg)])), (g1, .inl (cI, 24, .inl (zA K1))), (g2, .inl (cI, 24, .inl (zA W1))), (g3, .inl (cI, 24, .inl (zA T1))), (q1, .inr (1, [.ref a0, .ref a1, .ref a2, .ref a3, .ref a4, .ref a5, .ref a6, .ref a7, .int (zI pg), .int (zI rw), .int (zI un), .int (zI us), .int (zI be), .int (zI fi), .int (zI lo)])), (a0, .inl (cI, 24, .inl (zA P1))), (a1, .inl (cI, 24, .inl (zA R1))), (a2, .inl (cI, 24, .inl (zA U1))), (qt, .inr (2, [.ref u1, .ref u2, .ref u3, .int (zI nt2_3), .int (zI st2_4)])), (u1, .inl (cI, 24, .inl (zA kt2_12))), (u2, .inl (cI, 24, .inl (zA wt2_13))), (u3, .inl (cI, 24, .inl (zA tt2_14))), (ql, .inr (1, [.ref v0, .ref v1, .ref v2, .ref v3, .ref v4, .ref v5, .ref v6, .ref v7, .int (zI pgt2_5), .int (zI rwt2_6), .int (zI unt2_7), .int (zI ust2_8), .int (zI bet2_9), .int (zI fit2_10), .int (zI lot2_11)])), (v0, .inl (cI, 24, .inl (zA Pt2_15))), (v1, .inl (cI, 24, .inl (zA Rt2_16))), (v2, .inl (cI, 24, .inl (zA Ut2_17))), (v3, .inl (cI, 16, .inl (zA ct2_18))), (v4, .inl (cI, 16, .inl (zA bt2_19))), (v5, .inl (cI, 16, .inl (zA ft2_20))), (v6, .inl (cI, 16, .inl (zA srt2_21))), (v7, .inl (cI, 16, .inl (zA et2_22)))] (by decide) rfl ?_
          refine zj_st (st' := [.long (zHP n1 sg K1 W1 T1 P1 R1 U1 i1 h0)]) (by rw [show k = 6 by omega]; unfold zHP; rw [if_neg (show ¬ i1 + 1 < n1 by omega)]; rfl) ?_
          subst hQ
          exact zj_lreturn C hr ⟨nt2_3, st2_4, pgt2_5, rwt2_6, unt2_7, ust2_8, bet2_9, fit2_10, lot2_11, kt2_12, wt2_13, tt2_14, Pt2_15, Rt2_16, Ut2_17, ct2_18, bt2_19, ft2_20, srt2_21, et2_22, rfl, rfl⟩ (by decide) (by decide) dX4_hashWithPanel_97
        · skip
          refine zj_ldc2 66 C (31) wc_X4_hashWithPanel_185 dX4_hashWithPanel_63 rfl ?_
          refine zj_lload 68 0 C dX4_hashWithPanel_66 rfl rfl ?_
          refine zj_lmul 69 C dX4_hashWithPanel_68 rfl ?_
          refine zj_aload_n 70 1 C dX4_hashWithPanel_69 rfl rfl rfl ?_
          refine zj_iload_n 71 2 C dX4_hashWithPanel_70 rfl rfl rfl ?_
          refine zj_iconst 72 C dX4_hashWithPanel_71 rfl ?_
          refine zj_ci 75 [4, 21, 5, 6, 7, 8, 9, 10, 11, 12, 13, 14, 15, 16, 17, 18, 19, 20] [0, 1, 2, 3] C (wr := [(q1, .inr (1, [.ref a0, .ref a1, .ref a2, .ref a3, .ref a4, .ref a5, .ref a6, .ref a7, .int (zI pg), .int (zI rw), .int (zI un), .int (zI us), .int (zI be), .int (zI fi), .int (zI lo)])), (a0, .inl (cI, 24, .inl (zA P1))), (a1, .inl (cI, 24, .inl (zA R1))), (a2, .inl (cI, 24, .inl (zA U1)))]) (zr_V [4, 21, 5, 6, 7, 8, 9, 10, 11, 12, 13, 14, 15, 16, 17, 18, 19, 20] C (As := [.int (zI i1), .int (zI 0)]) (rest := [.long ((31 : Int64) * (((31 : Int64) * (zHf (fun x => zPgF x (K1 i1) (W1 i1) (T1 i1) (P1 i1) (R1 i1) (U1 i1)) k h0)) + ((zI ((zBw (fun w => zCost n1 sg K1 (zU W1 i1 w) T1) 6).1)).toInt64)))]) (c_X4_afterExchange l D cI cS cJ q0 q2 g1 g2 g3 q1 0 0 0 0 0 0 0 0 qt ql qh qx n1 sg K1 W1 T1 u1 u2 u3 v0 v1 v2 v3 v4 v5 v6 v7 nt2_3 st2_4 pgt2_5 rwt2_6 unt2_7 ust2_8 bet2_9 fit2_10 lot2_11 kt2_12 wt2_13 tt2_14 Pt2_15 Rt2_16 Ut2_17 ct2_18 bt2_19 ft2_20 srt2_21 et2_22 i1 0 hst (by omega) (by omega)) (cwV 2 C.1.2.2.2.2 gX4_hashWithPanel_X4_afterExchange rfl rfl rfl (by decide +kernel) ⟨Nat.le_of_ble_eq_true rfl, Nat.le_of_ble_eq_true rfl⟩) rfl (by decide) 0 rfl rfl rfl rfl (Nat.le_of_ble_eq_true rfl) dX4_hashWithPanel_72 ⟨Nat.le_of_ble_eq_true rfl, Nat.le_of_ble_eq_true rfl⟩) rfl rfl (by decide) (by decide) rfl (fun r_27 w_ hp_28 => ?_)
          obtain ⟨nt2_29, st2_30, pgt2_31, rwt2_32, unt2_33, ust2_34, bet2_35, fit2_36, lot2_37, kt2_38, wt2_39, tt2_40, Pt2_41, Rt2_42, Ut2_43, ct2_44, bt2_45, ft2_46, srt2_47, et2_48, rfl, rfl⟩ := hp_28
          refine zj_ws (ws' := [(q1, .inr (1, [.ref a0, .ref a1, .ref a2, .ref a3, .ref a4, .ref a5, .ref a6, .ref a7, .int (zI pg), .int (zI rw), .int (zI un), .int (zI us), .int (zI be), .int (zI fi), .int (zI lo)])), (a0, .inl (cI, 24, .inl (zA P1))), (a1, .inl (cI, 24, .inl (zA R1))), (a2, .inl (cI, 24, .inl (zA U1))), (q0, .inr (4, [.ref q2, .ref q1, .ref qt, .ref ql, .ref qh, .ref qx])), (q2, .inr (2, [.ref g1, .ref g2, .ref g3, .int (zI n1), .int (zI sg)])), (g1, .inl (cI, 24, .inl (zA K1))), (g2, .inl (cI, 24, .inl (zA W1))), (g3, .inl (cI, 24, .inl (zA T1))), (qt, .inr (2, [.ref u1, .ref u2, .ref u3, .int (zI nt2_29), .int (zI st2_30)])), (u1, .inl (cI, 24, .inl (zA kt2_38))), (u2, .inl (cI, 24, .inl (zA wt2_39))), (u3, .inl (cI, 24, .inl (zA tt2_40))), (ql, .inr (1, [.ref v0, .ref v1, .ref v2, .ref v3, .ref v4, .ref v5, .ref v6, .ref v7, .int (zI pgt2_31), .int (zI rwt2_32), .int (zI unt2_33), .int (zI ust2_34), .int (zI bet2_35), .int (zI fit2_36), .int (zI lot2_37)])), (v0, .inl (cI, 24, .inl (zA Pt2_41))), (v1, .inl (cI, 24, .inl (zA Rt2_42))), (v2, .inl (cI, 24, .inl (zA Ut2_43))), (v3, .inl (cI, 16, .inl (zA ct2_44))), (v4, .inl (cI, 16, .inl (zA bt2_45))), (v5, .inl (cI, 16, .inl (zA ft2_46))), (v6, .inl (cI, 16, .inl (zA srt2_47))), (v7, .inl (cI, 16, .inl (zA et2_48)))]) rfl ?_
          refine zj_i2lu 76 C dX4_hashWithPanel_75 rfl ?_
          refine zj_ladd 77 C dX4_hashWithPanel_76 rfl ?_
          refine zj_lstore 79 [(4, .long (((31 : Int64) * (((31 : Int64) * (zHf (fun x => zPgF x (K1 i1) (W1 i1) (T1 i1) (P1 i1) (R1 i1) (U1 i1)) k h0)) + ((zI ((zBw (fun w => zCost n1 sg K1 (zU W1 i1 w) T1) 6).1)).toInt64))) + ((zI (if 0 = 0 then zUsed (zFin sg (zEx K1 i1) (zEx W1 i1) (zEx T1 i1) n1) else zEmp (zFin sg (zEx K1 i1) (zEx W1 i1) (zEx T1 i1) n1))).toInt64))), (0, .ref q0), (3, .int (zI i1)), (6, .int (zI (k : Int)))] C dX4_hashWithPanel_77 rfl (by decide) rfl ?_
          refine zj_ldc2 82 C (31) wc_X4_hashWithPanel_185 dX4_hashWithPanel_79 rfl ?_
          refine zj_lload 84 0 C dX4_hashWithPanel_82 rfl rfl ?_
          refine zj_lmul 85 C dX4_hashWithPanel_84 rfl ?_
          refine zj_aload_n 86 1 C dX4_hashWithPanel_85 rfl rfl rfl ?_
          refine zj_iload_n 87 2 C dX4_hashWithPanel_86 rfl rfl rfl ?_
          refine zj_iconst 88 C dX4_hashWithPanel_87 rfl ?_
          refine zj_ci 91 [4, 5, 6, 7, 8, 9, 10, 11, 12, 13, 14, 15, 16, 17, 18, 19, 20, 21] [0, 1, 2, 3] C (wr := [(q1, .inr (1, [.ref a0, .ref a1, .ref a2, .ref a3, .ref a4, .ref a5, .ref a6, .ref a7, .int (zI pg), .int (zI rw), .int (zI un), .int (zI us), .int (zI be), .int (zI fi), .int (zI lo)])), (a0, .inl (cI, 24, .inl (zA P1))), (a1, .inl (cI, 24, .inl (zA R1))), (a2, .inl (cI, 24, .inl (zA U1)))]) (zr_V [4, 5, 6, 7, 8, 9, 10, 11, 12, 13, 14, 15, 16, 17, 18, 19, 20, 21] C (As := [.int (zI i1), .int (zI 1)]) (rest := [.long ((31 : Int64) * (((31 : Int64) * (((31 : Int64) * (zHf (fun x => zPgF x (K1 i1) (W1 i1) (T1 i1) (P1 i1) (R1 i1) (U1 i1)) k h0)) + ((zI ((zBw (fun w => zCost n1 sg K1 (zU W1 i1 w) T1) 6).1)).toInt64))) + ((zI (if 0 = 0 then zUsed (zFin sg (zEx K1 i1) (zEx W1 i1) (zEx T1 i1) n1) else zEmp (zFin sg (zEx K1 i1) (zEx W1 i1) (zEx T1 i1) n1))).toInt64)))]) (c_X4_afterExchange l D cI cS cJ q0 q2 g1 g2 g3 q1 0 0 0 0 0 0 0 0 qt ql qh qx n1 sg K1 W1 T1 u1 u2 u3 v0 v1 v2 v3 v4 v5 v6 v7 nt2_29 st2_30 pgt2_31 rwt2_32 unt2_33 ust2_34 bet2_35 fit2_36 lot2_37 kt2_38 wt2_39 tt2_40 Pt2_41 Rt2_42 Ut2_43 ct2_44 bt2_45 ft2_46 srt2_47 et2_48 i1 1 hst (by omega) (by omega)) (cwV 2 C.1.2.2.2.2 gX4_hashWithPanel_X4_afterExchange rfl rfl rfl (by decide +kernel) ⟨Nat.le_of_ble_eq_true rfl, Nat.le_of_ble_eq_true rfl⟩) rfl (by decide) 0 rfl rfl rfl rfl (Nat.le_of_ble_eq_true rfl) dX4_hashWithPanel_88 ⟨Nat.le_of_ble_eq_true rfl, Nat.le_of_ble_eq_true rfl⟩) rfl rfl (by decide) (by decide) rfl (fun r_49 w_ hp_50 => ?_)
          obtain ⟨nt2_51, st2_52, pgt2_53, rwt2_54, unt2_55, ust2_56, bet2_57, fit2_58, lot2_59, kt2_60, wt2_61, tt2_62, Pt2_63, Rt2_64, Ut2_65, ct2_66, bt2_67, ft2_68, srt2_69, et2_70, rfl, rfl⟩ := hp_50
          refine zj_ws (ws' := [(q1, .inr (1, [.ref a0, .ref a1, .ref a2, .ref a3, .ref a4, .ref a5, .ref a6, .ref a7, .int (zI pg), .int (zI rw), .int (zI un), .int (zI us), .int (zI be), .int (zI fi), .int (zI lo)])), (a0, .inl (cI, 24, .inl (zA P1))), (a1, .inl (cI, 24, .inl (zA R1))), (a2, .inl (cI, 24, .inl (zA U1))), (q0, .inr (4, [.ref q2, .ref q1, .ref qt, .ref ql, .ref qh, .ref qx])), (q2, .inr (2, [.ref g1, .ref g2, .ref g3, .int (zI n1), .int (zI sg)])), (g1, .inl (cI, 24, .inl (zA K1))), (g2, .inl (cI, 24, .inl (zA W1))), (g3, .inl (cI, 24, .inl (zA T1))), (qt, .inr (2, [.ref u1, .ref u2, .ref u3, .int (zI nt2_51), .int (zI st2_52)])), (u1, .inl (cI, 24, .inl (zA kt2_60))), (u2, .inl (cI, 24, .inl (zA wt2_61))), (u3, .inl (cI, 24, .inl (zA tt2_62))), (ql, .inr (1, [.ref v0, .ref v1, .ref v2, .ref v3, .ref v4, .ref v5, .ref v6, .ref v7, .int (zI pgt2_53), .int (zI rwt2_54), .int (zI unt2_55), .int (zI ust2_56), .int (zI bet2_57), .int (zI fit2_58), .int (zI lot2_59)])), (v0, .inl (cI, 24, .inl (zA Pt2_63))), (v1, .inl (cI, 24, .inl (zA Rt2_64))), (v2, .inl (cI, 24, .inl (zA Ut2_65))), (v3, .inl (cI, 16, .inl (zA ct2_66))), (v4, .inl (cI, 16, .inl (zA bt2_67))), (v5, .inl (cI, 16, .inl (zA ft2_68))), (v6, .inl (cI, 16, .inl (zA srt2_69))), (v7, .inl (cI, 16, .inl (zA et2_70)))]) rfl ?_
          refine zj_i2lu 92 C dX4_hashWithPanel_91 rfl ?_
          refine zj_ladd 93 C dX4_hashWithPanel_92 rfl ?_
          refine zj_lstore 95 [(4, .long (((31 : Int64) * (((31 : Int64) * (((31 : Int64) * (zHf (fun x => zPgF x (K1 i1) (W1 i1) (T1 i1) (P1 i1) (R1 i1) (U1 i1)) k h0)) + ((zI ((zBw (fun w => zCost n1 sg K1 (zU W1 i1 w) T1) 6).1)).toInt64))) + ((zI (if 0 = 0 then zUsed (zFin sg (zEx K1 i1) (zEx W1 i1) (zEx T1 i1) n1) else zEmp (zFin sg (zEx K1 i1) (zEx W1 i1) (zEx T1 i1) n1))).toInt64))) + ((zI (if 1 = 0 then zUsed (zFin sg (zEx K1 i1) (zEx W1 i1) (zEx T1 i1) n1) else zEmp (zFin sg (zEx K1 i1) (zEx W1 i1) (zEx T1 i1) n1))).toInt64))), (0, .ref q0), (3, .int (zI i1)), (6, .int (zI (k : Int)))] C dX4_hashWithPanel_93 rfl (by decide) rfl ?_
          refine zj_lload 97 0 C dX4_hashWithPanel_95 rfl rfl ?_
          refine zj_re [4, 5, 6, 7, 8, 0, 1, 2, 3, 9, 10, 11, 12, 13, 14, 15, 16, 17, 18, 19, 20, 21] [(q0, .inr (4, [.ref q2, .ref q1, .ref qt, .ref ql, .ref qh, .ref qx])), (q2, .inr (2, [.ref g1, .ref g2, .ref g3, .int (zI n1), .int (zI sg)])), (g1, .inl (cI, 24, .inl (zA K1))), (g2, .inl (cI, 24, .inl (zA W1))), (g3, .inl (cI, 24, .inl (zA T1))), (q1, .inr (1, [.ref a0, .ref a1, .ref a2, .ref a3, .ref a4, .ref a5, .ref a6, .ref a7, .int (zI pg), .int (zI rw), .int (zI un), .int (zI us), .int (zI be), .int (zI fi), .int (zI lo)])), (a0, .inl (cI, 24, .inl (zA P1))), (a1, .inl (cI, 24, .inl (zA R1))), (a2, .inl (cI, 24, .inl (zA U1))), (qt, .inr (2, [.ref u1, .ref u2, .ref u3, .int (zI nt2_51), .int (zI st2_52)])), (u1, .inl (cI, 24, .inl (zA kt2_60))), (u2, .inl (cI, 24, .inl (zA wt2_61))), (u3, .inl (cI, 24, .inl (zA tt2_62))), (ql, .inr (1, [.ref v0, .ref v1, .ref v2, .ref v3, .ref v4, .ref v5, .ref v6, .ref v7, .int (zI pgt2_53), .int (zI rwt2_54), .int (zI unt2_55), .int (zI ust2_56), .int (zI bet2_57), .int (zI fit2_58), .int (zI lot2_59)])), (v0, .inl (cI, 24, .inl (zA Pt2_63))), (v1, .inl (cI, 24, .inl (zA Rt2_64))), (v2, .inl (cI, 24, .inl (zA Ut2_65))), (v3, .inl (cI, 16, .inl (zA ct2_66))), (v4, .inl (cI, 16, .inl (zA bt2_67))), (v5, .inl (cI, 16, .inl (zA ft2_68))), (v6, .inl (cI, 16, .inl (zA srt2_69))), (v7, .inl (cI, 16, .inl (zA et2_70)))] (by decide) rfl ?_
          refine zj_st (st' := [.long (zHP n1 sg K1 W1 T1 P1 R1 U1 i1 h0)]) (by rw [show k = 6 by omega]; unfold zHP; rw [if_pos (show i1 + 1 < n1 by omega)]; rfl) ?_
          subst hQ
          exact zj_lreturn C hr ⟨nt2_51, st2_52, pgt2_53, rwt2_54, unt2_55, ust2_56, bet2_57, fit2_58, lot2_59, kt2_60, wt2_61, tt2_62, Pt2_63, Rt2_64, Ut2_65, ct2_66, bt2_67, ft2_68, srt2_69, et2_70, rfl, rfl⟩ (by decide) (by decide) dX4_hashWithPanel_97
      · skip
        refine zj_ldc2 15 C (31) wc_X4_hashWithPanel_185 dX4_hashWithPanel_12 rfl ?_
        refine zj_lload 17 2 C dX4_hashWithPanel_15 rfl rfl ?_
        refine zj_lmul 18 C dX4_hashWithPanel_17 rfl ?_
        refine zj_aload_n 19 0 C dX4_hashWithPanel_18 rfl rfl rfl ?_
        refine zj_iload_n 20 1 C dX4_hashWithPanel_19 rfl rfl rfl ?_
        refine zj_iload 22 3 C dX4_hashWithPanel_20 rfl rfl ?_
        refine zj_ci 25 [0, 1, 2, 3, 4, 5, 6, 7, 8] [9, 10, 11, 12, 13, 14, 15, 16, 17, 18, 19, 20, 21] C (wr := [(qt, .inr (2, [.ref u1, .ref u2, .ref u3, .int (zI nt), .int (zI st)])), (u1, .inl (cI, 24, .inl (zA kt))), (u2, .inl (cI, 24, .inl (zA wt))), (u3, .inl (cI, 24, .inl (zA tt))), (ql, .inr (1, [.ref v0, .ref v1, .ref v2, .ref v3, .ref v4, .ref v5, .ref v6, .ref v7, .int (zI pgt), .int (zI rwt), .int (zI unt), .int (zI ust), .int (zI bet), .int (zI fit), .int (zI lot)])), (v0, .inl (cI, 24, .inl (zA Pt))), (v1, .inl (cI, 24, .inl (zA Rt))), (v2, .inl (cI, 24, .inl (zA Ut))), (v3, .inl (cI, 16, .inl (zA ct))), (v4, .inl (cI, 16, .inl (zA bt))), (v5, .inl (cI, 16, .inl (zA ft))), (v6, .inl (cI, 16, .inl (zA srt))), (v7, .inl (cI, 16, .inl (zA et)))]) (zr_V [0, 1, 2, 3, 4, 5, 6, 7, 8] C (As := [.int (zI i1), .int (zI (k : Int))]) (rest := [.long ((31 : Int64) * (zHf (fun x => zPgF x (K1 i1) (W1 i1) (T1 i1) (P1 i1) (R1 i1) (U1 i1)) k h0))]) (c_X4_numberOfPanel l D cI cS cJ q0 q2 g1 g2 g3 q1 a0 a1 a2 a3 a4 a5 a6 a7 qt ql qh qx n1 sg pg rw un us be fi lo K1 W1 T1 P1 R1 U1 i1 (k : Int) (by omega) (by omega)) (cwV 2 C.1.2.2.2.2 gX4_hashWithPanel_X4_numberOfPanel rfl rfl rfl (by decide +kernel) ⟨Nat.le_of_ble_eq_true rfl, Nat.le_of_ble_eq_true rfl⟩) rfl (by decide) 0 rfl rfl rfl rfl (Nat.le_of_ble_eq_true rfl) dX4_hashWithPanel_22 ⟨Nat.le_of_ble_eq_true rfl, Nat.le_of_ble_eq_true rfl⟩) rfl rfl (by decide) (by decide) rfl (fun r_71 w_ hp_72 => ?_)
        obtain ⟨rfl, rfl⟩ := hp_72
        refine zj_ws (ws' := [(qt, .inr (2, [.ref u1, .ref u2, .ref u3, .int (zI nt), .int (zI st)])), (u1, .inl (cI, 24, .inl (zA kt))), (u2, .inl (cI, 24, .inl (zA wt))), (u3, .inl (cI, 24, .inl (zA tt))), (ql, .inr (1, [.ref v0, .ref v1, .ref v2, .ref v3, .ref v4, .ref v5, .ref v6, .ref v7, .int (zI pgt), .int (zI rwt), .int (zI unt), .int (zI ust), .int (zI bet), .int (zI fit), .int (zI lot)])), (v0, .inl (cI, 24, .inl (zA Pt))), (v1, .inl (cI, 24, .inl (zA Rt))), (v2, .inl (cI, 24, .inl (zA Ut))), (v3, .inl (cI, 16, .inl (zA ct))), (v4, .inl (cI, 16, .inl (zA bt))), (v5, .inl (cI, 16, .inl (zA ft))), (v6, .inl (cI, 16, .inl (zA srt))), (v7, .inl (cI, 16, .inl (zA et))), (q0, .inr (4, [.ref q2, .ref q1, .ref qt, .ref ql, .ref qh, .ref qx])), (q2, .inr (2, [.ref g1, .ref g2, .ref g3, .int (zI n1), .int (zI sg)])), (g1, .inl (cI, 24, .inl (zA K1))), (g2, .inl (cI, 24, .inl (zA W1))), (g3, .inl (cI, 24, .inl (zA T1))), (q1, .inr (1, [.ref a0, .ref a1, .ref a2, .ref a3, .ref a4, .ref a5, .ref a6, .ref a7, .int (zI pg), .int (zI rw), .int (zI un), .int (zI us), .int (zI be), .int (zI fi), .int (zI lo)])), (a0, .inl (cI, 24, .inl (zA P1))), (a1, .inl (cI, 24, .inl (zA R1))), (a2, .inl (cI, 24, .inl (zA U1)))]) rfl ?_
        refine zj_i2lu 26 C dX4_hashWithPanel_25 rfl ?_
        refine zj_ladd 27 C dX4_hashWithPanel_26 rfl ?_
        refine zj_lstore 29 [(4, .long (((31 : Int64) * (zHf (fun x => zPgF x (K1 i1) (W1 i1) (T1 i1) (P1 i1) (R1 i1) (U1 i1)) k h0)) + ((zI (zPgF (k : Int) (K1 i1) (W1 i1) (T1 i1) (P1 i1) (R1 i1) (U1 i1))).toInt64))), (0, .ref q0), (3, .int (zI i1)), (6, .int (zI (k : Int)))] C dX4_hashWithPanel_27 rfl (by decide) rfl ?_
        refine zj_iinc 32 3 [(6, .int (zI ((k : Int) + 1))), (4, .long (((31 : Int64) * (zHf (fun x => zPgF x (K1 i1) (W1 i1) (T1 i1) (P1 i1) (R1 i1) (U1 i1)) k h0)) + ((zI (zPgF (k : Int) (K1 i1) (W1 i1) (T1 i1) (P1 i1) (R1 i1) (U1 i1))).toInt64))), (0, .ref q0), (3, .int (zI i1))] C dX4_hashWithPanel_29 rfl rfl (by decide) rfl ?_
        refine zj_goto 6 C dX4_hashWithPanel_32 (by decide) ?_
        refine zj_re [13, 14, 15, 16, 17, 18, 19, 20, 21, 0, 1, 2, 3, 4, 5, 6, 7, 8, 9, 10, 11, 12] [(q0, .inr (4, [.ref q2, .ref q1, .ref qt, .ref ql, .ref qh, .ref qx])), (q2, .inr (2, [.ref g1, .ref g2, .ref g3, .int (zI n1), .int (zI sg)])), (g1, .inl (cI, 24, .inl (zA K1))), (g2, .inl (cI, 24, .inl (zA W1))), (g3, .inl (cI, 24, .inl (zA T1))), (q1, .inr (1, [.ref a0, .ref a1, .ref a2, .ref a3, .ref a4, .ref a5, .ref a6, .ref a7, .int (zI pg), .int (zI rw), .int (zI un), .int (zI us), .int (zI be), .int (zI fi), .int (zI lo)])), (a0, .inl (cI, 24, .inl (zA P1))), (a1, .inl (cI, 24, .inl (zA R1))), (a2, .inl (cI, 24, .inl (zA U1))), (qt, .inr (2, [.ref u1, .ref u2, .ref u3, .int (zI nt), .int (zI st)])), (u1, .inl (cI, 24, .inl (zA kt))), (u2, .inl (cI, 24, .inl (zA wt))), (u3, .inl (cI, 24, .inl (zA tt))), (ql, .inr (1, [.ref v0, .ref v1, .ref v2, .ref v3, .ref v4, .ref v5, .ref v6, .ref v7, .int (zI pgt), .int (zI rwt), .int (zI unt), .int (zI ust), .int (zI bet), .int (zI fit), .int (zI lot)])), (v0, .inl (cI, 24, .inl (zA Pt))), (v1, .inl (cI, 24, .inl (zA Rt))), (v2, .inl (cI, 24, .inl (zA Ut))), (v3, .inl (cI, 16, .inl (zA ct))), (v4, .inl (cI, 16, .inl (zA bt))), (v5, .inl (cI, 16, .inl (zA ft))), (v6, .inl (cI, 16, .inl (zA srt))), (v7, .inl (cI, 16, .inl (zA et)))] (by decide) rfl ?_
        refine zj_lv [2, 3, 1, 0] [(0, .ref q0), (3, .int (zI i1)), (4, .long (((31 : Int64) * (zHf (fun x => zPgF x (K1 i1) (W1 i1) (T1 i1) (P1 i1) (R1 i1) (U1 i1)) k h0)) + ((zI (zPgF (k : Int) (K1 i1) (W1 i1) (T1 i1) (P1 i1) (R1 i1) (U1 i1))).toInt64))), (6, .int (zI ((k : Int) + 1)))] rfl ?_
        refine zj_eqlv (lv' := [(0, .ref q0), (3, .int (zI i1)), (4, .long (zHf (fun x => zPgF x (K1 i1) (W1 i1) (T1 i1) (P1 i1) (R1 i1) (U1 i1)) (k + 1) h0)), (6, .int (zI ((k + 1) : Int)))]) (by rfl) ?_
        exact ih (k + 1) (by omega) (by omega)
  refine zj_lv [2, 4, 1, 0] [(0, .ref q0), (3, .int (zI i1)), (4, .long h0), (6, .int (zI 0))] rfl ?_
  refine zj_eqlv (lv' := [(0, .ref q0), (3, .int (zI i1)), (4, .long (zHf (fun x => zPgF x (K1 i1) (W1 i1) (T1 i1) (P1 i1) (R1 i1) (U1 i1)) 0 h0)), (6, .int (zI (0 : Int)))]) (by rfl) ?_
  exact hL6 (7) 0 (by omega) (by omega)

def zHG (W1 R1 U1 c1 b1 f1 s1 e1 : Int → Int) (us i1 : Int) (h0 : Int64) : Int64 := zHf (fun x => zAt R1 U1 W1 (x / 6) (x % 6) (c1 i1).toNat (s1 i1)) 24 (zHf (fun x => zPgN c1 b1 f1 s1 e1 us i1 x) 6 h0)

theorem wc_X4_hashWithPage_185 : Cond.constantLong RX4 185 (31) ∈ wsX4_hashWithPage := by decide +kernel
theorem fl_X4_hashWithPage_19 : Cond.fieldLink RX4 19 "SplashPages" "layout" "LSplashPages$Layout;" ∈ wsX4_hashWithPage := by decide +kernel
theorem im_X4_hashWithPage_4 : ∀ w ∈ u_ws RX4 TX4 6, w ∈ wsX4_hashWithPage := by decide +kernel
theorem wn_X4_hashWithPage_RX1 : Cond.initialized RX1 ∈ wsX4_hashWithPage := by decide +kernel
theorem nm_RX4_151 : Cond.methodLinkNest RX4 151 yX1_numberOfPage "SplashPages" ∈ zNW := by decide +kernel
theorem wi_X4_hashWithPage_X1_numberOfPage : Cond.instanceMethod yX1_numberOfPage ∈ wsX4_hashWithPage := by decide +kernel
theorem wse_X4_hashWithPage_X1_numberOfPage : Cond.selects RX1 yX1_numberOfPage yX1_numberOfPage ∈ wsX4_hashWithPage := by decide +kernel
abbrev rm_X4_hashWithPage : Room := { frames := 2, cells := 0, slots := 0, locals := 49 }
set_option maxRecDepth 100000 in
set_option maxHeartbeats 4000000 in
theorem c_X4_hashWithPage (l : Launch) (D : va_G) (cI cS cJ : ClassId) (q0 : Nat) (q2 : Nat) (g1 : Nat) (g2 : Nat) (g3 : Nat) (q1 : Nat) (a0 : Nat) (a1 : Nat) (a2 : Nat) (a3 : Nat) (a4 : Nat) (a5 : Nat) (a6 : Nat) (a7 : Nat) (qt : Nat) (ql : Nat) (qh : Nat) (qx : Nat) (n1 : Int) (sg : Int) (pg : Int) (rw : Int) (un : Int) (us : Int) (be : Int) (fi : Int) (lo : Int) (W1 : Int → Int) (R1 : Int → Int) (U1 : Int → Int) (c1 : Int → Int) (b1 : Int → Int) (f1 : Int → Int) (s1 : Int → Int) (e1 : Int → Int) (h0 : Int64) (i1 : Int) (hi : 0 ≤ i1 ∧ i1 < 16) (hu : 0 ≤ us ∧ us ≤ 16) (hc : ∀ x, 0 ≤ c1 x ∧ c1 x ≤ 1000) (hsc : 0 ≤ s1 i1 ∧ 0 ≤ c1 i1 ∧ s1 i1 + c1 i1 ≤ 24) (hR : ∀ x, s1 i1 ≤ x → x < s1 i1 + c1 i1 → (-1 ≤ R1 x ∧ R1 x ≤ 100) ∧ (-1 ≤ U1 x ∧ U1 x ≤ 100) ∧ (0 ≤ W1 x ∧ W1 x ≤ 100)) : zMl l yX4_hashWithPage wsX4_hashWithPage rm_X4_hashWithPage D (zTy cI cS cJ) [.ref q0, .long h0, .int (zI i1)] [(q0, .inr (4, [.ref q2, .ref q1, .ref qt, .ref ql, .ref qh, .ref qx])), (q2, .inr (2, [.ref g1, .ref g2, .ref g3, .int (zI n1), .int (zI sg)])), (g2, .inl (cI, 24, .inl (zA W1))), (q1, .inr (1, [.ref a0, .ref a1, .ref a2, .ref a3, .ref a4, .ref a5, .ref a6, .ref a7, .int (zI pg), .int (zI rw), .int (zI un), .int (zI us), .int (zI be), .int (zI fi), .int (zI lo)])), (a1, .inl (cI, 24, .inl (zA R1))), (a2, .inl (cI, 24, .inl (zA U1))), (a3, .inl (cI, 16, .inl (zA c1))), (a4, .inl (cI, 16, .inl (zA b1))), (a5, .inl (cI, 16, .inl (zA f1))), (a6, .inl (cI, 16, .inl (zA s1))), (a7, .inl (cI, 16, .inl (zA e1)))] (fun r w => r = (zHG W1 R1 U1 c1 b1 f1 s1 e1 us i1 h0) ∧ w = [(q0, .inr (4, [.ref q2, .ref q1, .ref qt, .ref ql, .ref qh, .ref qx])), (q2, .inr (2, [.ref g1, .ref g2, .ref g3, .int (zI n1), .int (zI sg)])), (g2, .inl (cI, 24, .inl (zA W1))), (q1, .inr (1, [.ref a0, .ref a1, .ref a2, .ref a3, .ref a4, .ref a5, .ref a6, .ref a7, .int (zI pg), .int (zI rw), .int (zI un), .int (zI us), .int (zI be), .int (zI fi), .int (zI lo)])), (a1, .inl (cI, 24, .inl (zA R1))), (a2, .inl (cI, 24, .inl (zA U1))), (a3, .inl (cI, 16, .inl (zA c1))), (a4, .inl (cI, 16, .inl (zA b1))), (a5, .inl (cI, 16, .inl (zA f1))), (a6, .inl (cI, 16, .inl (zA s1))), (a7, .inl (cI, 16, .inl (zA e1)))]) 0 0 := by
  intro sz
  refine zMet_of (Qc := fun A => va_Ql _ (zB D (zTy cI cS cJ) A) A) RX4 [(0, .ref q0), (1, .long h0), (3, .int (zI i1))] rfl (by decide +kernel) rfl (Nat.le_of_ble_eq_true rfl) rfl ?_ sz
  intro p e s m args below meth c A Q hQ C hr hini
  refine zj_lload_n 1 1 C dX4_hashWithPage_0 rfl rfl rfl ?_
  refine zj_lstore 3 [(4, .long h0), (0, .ref q0), (1, .long h0), (3, .int (zI i1))] C dX4_hashWithPage_1 rfl (by decide) rfl ?_
  refine zj_iconst 4 C dX4_hashWithPage_3 rfl ?_
  refine zj_istore 6 [(6, .int (zI 0)), (4, .long h0), (0, .ref q0), (1, .long h0), (3, .int (zI i1))] C dX4_hashWithPage_4 rfl (by decide) rfl ?_
  have hL6 : ∀ (N : Nat) (k : Nat), ((k : Int) ≤ 6) → (6 - (k : Int) < N) → zJ p l e rm_X4_hashWithPage s m args below meth c Q D A 8 [(q0, .inr (4, [.ref q2, .ref q1, .ref qt, .ref ql, .ref qh, .ref qx])), (q2, .inr (2, [.ref g1, .ref g2, .ref g3, .int (zI n1), .int (zI sg)])), (g2, .inl (cI, 24, .inl (zA W1))), (q1, .inr (1, [.ref a0, .ref a1, .ref a2, .ref a3, .ref a4, .ref a5, .ref a6, .ref a7, .int (zI pg), .int (zI rw), .int (zI un), .int (zI us), .int (zI be), .int (zI fi), .int (zI lo)])), (a1, .inl (cI, 24, .inl (zA R1))), (a2, .inl (cI, 24, .inl (zA U1))), (a3, .inl (cI, 16, .inl (zA c1))), (a4, .inl (cI, 16, .inl (zA b1))), (a5, .inl (cI, 16, .inl (zA f1))), (a6, .inl (cI, 16, .inl (zA s1))), (a7, .inl (cI, 16, .inl (zA e1)))] 0 0 [(0, .ref q0), (3, .int (zI i1)), (4, .long (zHf (fun x => zPgN c1 b1 f1 s1 e1 us i1 x) k h0)), (6, .int (zI (k : Int)))] 6 [] := by
    intro N
    induction N with
    | zero => intro k hk hN; exact absurd hN (by omega)
    | succ N ih =>
      intro k hk hN
      refine zj_iload 8 3 C dX4_hashWithPage_6 rfl rfl ?_
      refine zj_iconst 9 C dX4_hashWithPage_8 rfl ?_
      refine zj_icmp_gt 12 38 C (by omega) (by omega) dX4_hashWithPage_9 rfl (by decide) (fun h_1 => ?_) (fun h_1 => ?_)
      · skip
        refine zj_iconst 39 C dX4_hashWithPage_38 rfl ?_
        refine zj_istore 41 [(6, .int (zI 0)), (0, .ref q0), (3, .int (zI i1)), (4, .long (zHf (fun x => zPgN c1 b1 f1 s1 e1 us i1 x) k h0))] C dX4_hashWithPage_39 rfl (by decide) rfl ?_
        have hL41 : ∀ (N41 : Nat) (r : Nat), ((r : Int) ≤ 4) → (4 - (r : Int) < N41) → zJ p l e rm_X4_hashWithPage s m args below meth c Q D A 8 [(q0, .inr (4, [.ref q2, .ref q1, .ref qt, .ref ql, .ref qh, .ref qx])), (q2, .inr (2, [.ref g1, .ref g2, .ref g3, .int (zI n1), .int (zI sg)])), (g2, .inl (cI, 24, .inl (zA W1))), (q1, .inr (1, [.ref a0, .ref a1, .ref a2, .ref a3, .ref a4, .ref a5, .ref a6, .ref a7, .int (zI pg), .int (zI rw), .int (zI un), .int (zI us), .int (zI be), .int (zI fi), .int (zI lo)])), (a1, .inl (cI, 24, .inl (zA R1))), (a2, .inl (cI, 24, .inl (zA U1))), (a3, .inl (cI, 16, .inl (zA c1))), (a4, .inl (cI, 16, .inl (zA b1))), (a5, .inl (cI, 16, .inl (zA f1))), (a6, .inl (cI, 16, .inl (zA s1))), (a7, .inl (cI, 16, .inl (zA e1)))] 0 0 [(0, .ref q0), (3, .int (zI i1)), (4, .long (zHf (fun x => zAt R1 U1 W1 (x / 6) (x % 6) (c1 i1).toNat (s1 i1)) (6 * r) (zHf (fun x => zPgN c1 b1 f1 s1 e1 us i1 x) 6 h0))), (6, .int (zI (r : Int)))] 41 [] := by
          intro N41
          induction N41 with
          | zero => intro r hr4 hN41; exact absurd hN41 (by omega)
          | succ N41 ih41 =>
            intro r hr4 hN41
            refine zj_iload 43 3 C dX4_hashWithPage_41 rfl rfl ?_
            refine zj_iconst 44 C dX4_hashWithPage_43 rfl ?_
            refine zj_icmp_ge 47 88 C (by omega) (by omega) dX4_hashWithPage_44 rfl (by decide) (fun h_2 => ?_) (fun h_2 => ?_)
            · skip
              refine zj_lload 90 2 C dX4_hashWithPage_88 rfl rfl ?_
              refine zj_st (st' := [.long (zHG W1 R1 U1 c1 b1 f1 s1 e1 us i1 h0)]) (by rw [show r = 4 by omega]; rfl) ?_
              subst hQ
              exact zj_lreturn C hr ⟨rfl, rfl⟩ (by decide) (by decide) dX4_hashWithPage_90
            · skip
              refine zj_iconst 48 C dX4_hashWithPage_47 rfl ?_
              refine zj_istore 50 [(7, .int (zI 0)), (0, .ref q0), (3, .int (zI i1)), (4, .long (zHf (fun x => zAt R1 U1 W1 (x / 6) (x % 6) (c1 i1).toNat (s1 i1)) (6 * r) (zHf (fun x => zPgN c1 b1 f1 s1 e1 us i1 x) 6 h0))), (6, .int (zI (r : Int)))] C dX4_hashWithPage_48 rfl (by decide) rfl ?_
              have hL50 : ∀ (N50 : Nat) (u : Nat), ((u : Int) ≤ 6) → (6 - (u : Int) < N50) → zJ p l e rm_X4_hashWithPage s m args below meth c Q D A 8 [(q0, .inr (4, [.ref q2, .ref q1, .ref qt, .ref ql, .ref qh, .ref qx])), (q2, .inr (2, [.ref g1, .ref g2, .ref g3, .int (zI n1), .int (zI sg)])), (g2, .inl (cI, 24, .inl (zA W1))), (q1, .inr (1, [.ref a0, .ref a1, .ref a2, .ref a3, .ref a4, .ref a5, .ref a6, .ref a7, .int (zI pg), .int (zI rw), .int (zI un), .int (zI us), .int (zI be), .int (zI fi), .int (zI lo)])), (a1, .inl (cI, 24, .inl (zA R1))), (a2, .inl (cI, 24, .inl (zA U1))), (a3, .inl (cI, 16, .inl (zA c1))), (a4, .inl (cI, 16, .inl (zA b1))), (a5, .inl (cI, 16, .inl (zA f1))), (a6, .inl (cI, 16, .inl (zA s1))), (a7, .inl (cI, 16, .inl (zA e1)))] 0 0 [(0, .ref q0), (3, .int (zI i1)), (4, .long (zHf (fun x => zAt R1 U1 W1 (x / 6) (x % 6) (c1 i1).toNat (s1 i1)) (6 * r + u) (zHf (fun x => zPgN c1 b1 f1 s1 e1 us i1 x) 6 h0))), (6, .int (zI (r : Int))), (7, .int (zI (u : Int)))] 50 [] := by
                intro N50
                induction N50 with
                | zero => intro u hu6 hN50; exact absurd hN50 (by omega)
                | succ N50 ih50 =>
                  intro u hu6 hN50
                  refine zj_iload 52 4 C dX4_hashWithPage_50 rfl rfl ?_
                  refine zj_bipush 54 C dX4_hashWithPage_52 rfl rfl ?_
                  refine zj_icmp_ge 57 82 C (by omega) (by omega) dX4_hashWithPage_54 rfl (by decide) (fun h_3 => ?_) (fun h_3 => ?_)
                  · skip
                    refine zj_iinc 85 3 [(6, .int (zI ((r : Int) + 1))), (0, .ref q0), (3, .int (zI i1)), (4, .long (zHf (fun x => zAt R1 U1 W1 (x / 6) (x % 6) (c1 i1).toNat (s1 i1)) (6 * r + u) (zHf (fun x => zPgN c1 b1 f1 s1 e1 us i1 x) 6 h0))), (7, .int (zI (u : Int)))] C dX4_hashWithPage_82 rfl rfl (by decide) rfl ?_
                    refine zj_goto 41 C dX4_hashWithPage_85 (by decide) ?_
                    refine zj_lv [1, 2, 3, 0] [(0, .ref q0), (3, .int (zI i1)), (4, .long (zHf (fun x => zAt R1 U1 W1 (x / 6) (x % 6) (c1 i1).toNat (s1 i1)) (6 * r + u) (zHf (fun x => zPgN c1 b1 f1 s1 e1 us i1 x) 6 h0))), (6, .int (zI ((r : Int) + 1)))] rfl ?_
                    refine zj_eqlv (lv' := [(0, .ref q0), (3, .int (zI i1)), (4, .long (zHf (fun x => zAt R1 U1 W1 (x / 6) (x % 6) (c1 i1).toNat (s1 i1)) (6 * (r + 1)) (zHf (fun x => zPgN c1 b1 f1 s1 e1 us i1 x) 6 h0))), (6, .int (zI ((r + 1) : Int)))]) (by rw [show u = 6 by omega]; rfl) ?_
                    exact ih41 (r + 1) (by omega) (by omega)
                  · skip
                    refine zj_ldc2 60 C (31) wc_X4_hashWithPage_185 dX4_hashWithPage_57 rfl ?_
                    refine zj_lload 62 2 C dX4_hashWithPage_60 rfl rfl ?_
                    refine zj_lmul 63 C dX4_hashWithPage_62 rfl ?_
                    refine zj_aload_n 64 0 C dX4_hashWithPage_63 rfl rfl rfl ?_
                    refine zj_iload_n 65 1 C dX4_hashWithPage_64 rfl rfl rfl ?_
                    refine zj_iload 67 3 C dX4_hashWithPage_65 rfl rfl ?_
                    refine zj_iload 69 4 C dX4_hashWithPage_67 rfl rfl ?_
                    refine zj_ci 72 [0, 1, 2, 3, 4, 5, 6, 9] [7, 8, 10] C (wr := [(a4, .inl (cI, 16, .inl (zA b1))), (a5, .inl (cI, 16, .inl (zA f1))), (a7, .inl (cI, 16, .inl (zA e1)))]) (zr_V [0, 1, 2, 3, 4, 5, 6, 9] C (As := [.int (zI i1), .int (zI (r : Int)), .int (zI (u : Int))]) (rest := [.long ((31 : Int64) * (zHf (fun x => zAt R1 U1 W1 (x / 6) (x % 6) (c1 i1).toNat (s1 i1)) (6 * r + u) (zHf (fun x => zPgN c1 b1 f1 s1 e1 us i1 x) 6 h0)))]) (c_X4_panelAt l D cI cS cJ q0 q2 g1 g2 g3 q1 a0 a1 a2 a3 a4 a5 a6 a7 qt ql qh qx n1 sg pg rw un us be fi lo W1 R1 U1 c1 s1 i1 (r : Int) (u : Int) (by omega) (by omega) (by omega) hsc hR) (cwV 3 C.1.2.2.2.2 gX4_hashWithPage_X4_panelAt rfl rfl rfl (by decide +kernel) ⟨Nat.le_of_ble_eq_true rfl, Nat.le_of_ble_eq_true rfl⟩) rfl (by decide) 0 rfl rfl rfl rfl (Nat.le_of_ble_eq_true rfl) dX4_hashWithPage_69 ⟨Nat.le_of_ble_eq_true rfl, Nat.le_of_ble_eq_true rfl⟩) rfl rfl (by decide) (by decide) rfl (fun r_4 w_ hp_5 => ?_)
                    obtain ⟨rfl, rfl⟩ := hp_5
                    refine zj_ws (ws' := [(a4, .inl (cI, 16, .inl (zA b1))), (a5, .inl (cI, 16, .inl (zA f1))), (a7, .inl (cI, 16, .inl (zA e1))), (q0, .inr (4, [.ref q2, .ref q1, .ref qt, .ref ql, .ref qh, .ref qx])), (q2, .inr (2, [.ref g1, .ref g2, .ref g3, .int (zI n1), .int (zI sg)])), (g2, .inl (cI, 24, .inl (zA W1))), (q1, .inr (1, [.ref a0, .ref a1, .ref a2, .ref a3, .ref a4, .ref a5, .ref a6, .ref a7, .int (zI pg), .int (zI rw), .int (zI un), .int (zI us), .int (zI be), .int (zI fi), .int (zI lo)])), (a1, .inl (cI, 24, .inl (zA R1))), (a2, .inl (cI, 24, .inl (zA U1))), (a3, .inl (cI, 16, .inl (zA c1))), (a6, .inl (cI, 16, .inl (zA s1)))]) rfl ?_
                    refine zj_i2lu 73 C dX4_hashWithPage_72 rfl ?_
                    refine zj_ladd 74 C dX4_hashWithPage_73 rfl ?_
                    refine zj_lstore 76 [(4, .long (((31 : Int64) * (zHf (fun x => zAt R1 U1 W1 (x / 6) (x % 6) (c1 i1).toNat (s1 i1)) (6 * r + u) (zHf (fun x => zPgN c1 b1 f1 s1 e1 us i1 x) 6 h0))) + ((zI (zAt R1 U1 W1 (r : Int) (u : Int) (c1 i1).toNat (s1 i1))).toInt64))), (0, .ref q0), (3, .int (zI i1)), (6, .int (zI (r : Int))), (7, .int (zI (u : Int)))] C dX4_hashWithPage_74 rfl (by decide) rfl ?_
                    refine zj_iinc 79 4 [(7, .int (zI ((u : Int) + 1))), (4, .long (((31 : Int64) * (zHf (fun x => zAt R1 U1 W1 (x / 6) (x % 6) (c1 i1).toNat (s1 i1)) (6 * r + u) (zHf (fun x => zPgN c1 b1 f1 s1 e1 us i1 x) 6 h0))) + ((zI (zAt R1 U1 W1 (r : Int) (u : Int) (c1 i1).toNat (s1 i1))).toInt64))), (0, .ref q0), (3, .int (zI i1)), (6, .int (zI (r : Int)))] C dX4_hashWithPage_76 rfl rfl (by decide) rfl ?_
                    refine zj_goto 50 C dX4_hashWithPage_79 (by decide) ?_
                    refine zj_re [3, 4, 5, 6, 7, 8, 9, 0, 1, 10, 2] [(q0, .inr (4, [.ref q2, .ref q1, .ref qt, .ref ql, .ref qh, .ref qx])), (q2, .inr (2, [.ref g1, .ref g2, .ref g3, .int (zI n1), .int (zI sg)])), (g2, .inl (cI, 24, .inl (zA W1))), (q1, .inr (1, [.ref a0, .ref a1, .ref a2, .ref a3, .ref a4, .ref a5, .ref a6, .ref a7, .int (zI pg), .int (zI rw), .int (zI un), .int (zI us), .int (zI be), .int (zI fi), .int (zI lo)])), (a1, .inl (cI, 24, .inl (zA R1))), (a2, .inl (cI, 24, .inl (zA U1))), (a3, .inl (cI, 16, .inl (zA c1))), (a4, .inl (cI, 16, .inl (zA b1))), (a5, .inl (cI, 16, .inl (zA f1))), (a6, .inl (cI, 16, .inl (zA s1))), (a7, .inl (cI, 16, .inl (zA e1)))] (by decide) rfl ?_
                    refine zj_lv [2, 3, 1, 4, 0] [(0, .ref q0), (3, .int (zI i1)), (4, .long (((31 : Int64) * (zHf (fun x => zAt R1 U1 W1 (x / 6) (x % 6) (c1 i1).toNat (s1 i1)) (6 * r + u) (zHf (fun x => zPgN c1 b1 f1 s1 e1 us i1 x) 6 h0))) + ((zI (zAt R1 U1 W1 (r : Int) (u : Int) (c1 i1).toNat (s1 i1))).toInt64))), (6, .int (zI (r : Int))), (7, .int (zI ((u : Int) + 1)))] rfl ?_
                    refine zj_eqlv (lv' := [(0, .ref q0), (3, .int (zI i1)), (4, .long (zHf (fun x => zAt R1 U1 W1 (x / 6) (x % 6) (c1 i1).toNat (s1 i1)) (6 * r + (u + 1)) (zHf (fun x => zPgN c1 b1 f1 s1 e1 us i1 x) 6 h0))), (6, .int (zI (r : Int))), (7, .int (zI ((u + 1) : Int)))]) (by have e1 : ((6 * r + u : Nat) : Int) / 6 = r := (by omega); have e2 : ((6 * r + u : Nat) : Int) % 6 = u := (by omega); show _ = [_, _, (4, Value.long (zHm (zHf _ (6 * r + u) _) (zAt R1 U1 W1 (((6 * r + u : Nat) : Int) / 6) (((6 * r + u : Nat) : Int) % 6) (c1 i1).toNat (s1 i1)))), _, _]; rw [e1, e2]; rfl) ?_
                    exact ih50 (u + 1) (by omega) (by omega)
              refine zj_lv [1, 2, 3, 4, 0] [(0, .ref q0), (3, .int (zI i1)), (4, .long (zHf (fun x => zAt R1 U1 W1 (x / 6) (x % 6) (c1 i1).toNat (s1 i1)) (6 * r) (zHf (fun x => zPgN c1 b1 f1 s1 e1 us i1 x) 6 h0))), (6, .int (zI (r : Int))), (7, .int (zI 0))] rfl ?_
              refine zj_eqlv (lv' := [(0, .ref q0), (3, .int (zI i1)), (4, .long (zHf (fun x => zAt R1 U1 W1 (x / 6) (x % 6) (c1 i1).toNat (s1 i1)) (6 * r + 0) (zHf (fun x => zPgN c1 b1 f1 s1 e1 us i1 x) 6 h0))), (6, .int (zI (r : Int))), (7, .int (zI (0 : Int)))]) (by rfl) ?_
              exact hL50 (7) 0 (by omega) (by omega)
        refine zj_lv [1, 2, 3, 0] [(0, .ref q0), (3, .int (zI i1)), (4, .long (zHf (fun x => zPgN c1 b1 f1 s1 e1 us i1 x) k h0)), (6, .int (zI 0))] rfl ?_
        refine zj_eqlv (lv' := [(0, .ref q0), (3, .int (zI i1)), (4, .long (zHf (fun x => zAt R1 U1 W1 (x / 6) (x % 6) (c1 i1).toNat (s1 i1)) (6 * 0) (zHf (fun x => zPgN c1 b1 f1 s1 e1 us i1 x) 6 h0))), (6, .int (zI (0 : Int)))]) (by rw [show k = 6 by omega]; rfl) ?_
        exact hL41 (5) 0 (by omega) (by omega)
      · skip
        refine zj_ldc2 15 C (31) wc_X4_hashWithPage_185 dX4_hashWithPage_12 rfl ?_
        refine zj_lload 17 2 C dX4_hashWithPage_15 rfl rfl ?_
        refine zj_lmul 18 C dX4_hashWithPage_17 rfl ?_
        refine zj_aload_n 19 0 C dX4_hashWithPage_18 rfl rfl rfl ?_
        refine zj_get 22 0 1 C (T := TX4) im_X4_hashWithPage_4 fl_X4_hashWithPage_19 rfl rfl (by decide) rfl rfl dX4_hashWithPage_19 rfl ?_
        refine zj_iload_n 23 1 C dX4_hashWithPage_22 rfl rfl rfl ?_
        refine zj_iload 25 3 C dX4_hashWithPage_23 rfl rfl ?_
        refine zj_ci 28 [3, 6, 7, 8, 9, 10] [0, 1, 2, 4, 5] C (wr := [(q0, .inr (4, [.ref q2, .ref q1, .ref qt, .ref ql, .ref qh, .ref qx])), (q2, .inr (2, [.ref g1, .ref g2, .ref g3, .int (zI n1), .int (zI sg)])), (g2, .inl (cI, 24, .inl (zA W1))), (a1, .inl (cI, 24, .inl (zA R1))), (a2, .inl (cI, 24, .inl (zA U1)))]) (zr_VN [3, 6, 7, 8, 9, 10] C (As := [.int (zI i1), .int (zI (k : Int))]) (rest := [.long ((31 : Int64) * (zHf (fun x => zPgN c1 b1 f1 s1 e1 us i1 x) k h0))]) (c_X1_numberOfPage l D cI cS cJ q1 a0 a1 a2 a3 a4 a5 a6 a7 pg rw un us be fi lo c1 b1 f1 s1 e1 i1 (k : Int) (by omega) (by omega) hu hc) (⟨va_cnB 2 C.1.2.2.2.2 gX4_hashWithPage_X1_numberOfPage_n151 rfl rfl rfl (C.2.2.2.2.1 _ nm_RX4_151) (C.1.2.2.2.2 _ wn_X4_hashWithPage_RX1) (by decide +kernel) ⟨Nat.le_of_ble_eq_true rfl, Nat.le_of_ble_eq_true rfl⟩, C.1.2.2.2.2 _ wi_X4_hashWithPage_X1_numberOfPage, C.1.2.2.2.2 _ wse_X4_hashWithPage_X1_numberOfPage⟩) rfl (by decide) 0 rfl rfl rfl rfl (Nat.le_of_ble_eq_true rfl) dX4_hashWithPage_25 ⟨Nat.le_of_ble_eq_true rfl, Nat.le_of_ble_eq_true rfl⟩) rfl rfl (by decide) (by decide) rfl (fun r_6 w_ hp_7 => ?_)
        obtain ⟨v3k, v4k, hv3, hv4, rfl, rfl⟩ := hp_7
        refine zj_ws (ws' := [(q0, .inr (4, [.ref q2, .ref q1, .ref qt, .ref ql, .ref qh, .ref qx])), (q2, .inr (2, [.ref g1, .ref g2, .ref g3, .int (zI n1), .int (zI sg)])), (g2, .inl (cI, 24, .inl (zA W1))), (a1, .inl (cI, 24, .inl (zA R1))), (a2, .inl (cI, 24, .inl (zA U1))), (q1, .inr (1, [.ref a0, .ref a1, .ref a2, .ref a3, .ref a4, .ref a5, .ref a6, .ref a7, .int (zI pg), .int (zI rw), .int (zI un), .int (zI us), .int (zI be), .int (zI fi), .int (zI lo)])), (a3, .inl (cI, 16, .inl (zA c1))), (a4, .inl (cI, 16, .inl (zA b1))), (a5, .inl (cI, 16, .inl (zA f1))), (a6, .inl (cI, 16, .inl (zA s1))), (a7, .inl (cI, 16, .inl (zA e1)))]) rfl ?_
        refine zj_st (st' := [.int (zI (zPgN c1 b1 f1 s1 e1 us i1 (k : Int))), .long ((31 : Int64) * (zHf (fun x => zPgN c1 b1 f1 s1 e1 us i1 x) k h0))]) (by unfold zPgN; rw [show v3k = (if 0 < c1 i1 then s1 i1 else -1) by split <;> omega, show v4k = (if ¬ 0 < c1 i1 ∧ i1 < us then 1 else 0) by split <;> omega]) ?_
        refine zj_i2lu 29 C dX4_hashWithPage_28 rfl ?_
        refine zj_ladd 30 C dX4_hashWithPage_29 rfl ?_
        refine zj_lstore 32 [(4, .long (((31 : Int64) * (zHf (fun x => zPgN c1 b1 f1 s1 e1 us i1 x) k h0)) + ((zI (zPgN c1 b1 f1 s1 e1 us i1 (k : Int))).toInt64))), (0, .ref q0), (3, .int (zI i1)), (6, .int (zI (k : Int)))] C dX4_hashWithPage_30 rfl (by decide) rfl ?_
        refine zj_iinc 35 3 [(6, .int (zI ((k : Int) + 1))), (4, .long (((31 : Int64) * (zHf (fun x => zPgN c1 b1 f1 s1 e1 us i1 x) k h0)) + ((zI (zPgN c1 b1 f1 s1 e1 us i1 (k : Int))).toInt64))), (0, .ref q0), (3, .int (zI i1))] C dX4_hashWithPage_32 rfl rfl (by decide) rfl ?_
        refine zj_goto 6 C dX4_hashWithPage_35 (by decide) ?_
        refine zj_re [0, 1, 2, 5, 3, 4, 6, 7, 8, 9, 10] [(q0, .inr (4, [.ref q2, .ref q1, .ref qt, .ref ql, .ref qh, .ref qx])), (q2, .inr (2, [.ref g1, .ref g2, .ref g3, .int (zI n1), .int (zI sg)])), (g2, .inl (cI, 24, .inl (zA W1))), (q1, .inr (1, [.ref a0, .ref a1, .ref a2, .ref a3, .ref a4, .ref a5, .ref a6, .ref a7, .int (zI pg), .int (zI rw), .int (zI un), .int (zI us), .int (zI be), .int (zI fi), .int (zI lo)])), (a1, .inl (cI, 24, .inl (zA R1))), (a2, .inl (cI, 24, .inl (zA U1))), (a3, .inl (cI, 16, .inl (zA c1))), (a4, .inl (cI, 16, .inl (zA b1))), (a5, .inl (cI, 16, .inl (zA f1))), (a6, .inl (cI, 16, .inl (zA s1))), (a7, .inl (cI, 16, .inl (zA e1)))] (by decide) rfl ?_
        refine zj_lv [2, 3, 1, 0] [(0, .ref q0), (3, .int (zI i1)), (4, .long (((31 : Int64) * (zHf (fun x => zPgN c1 b1 f1 s1 e1 us i1 x) k h0)) + ((zI (zPgN c1 b1 f1 s1 e1 us i1 (k : Int))).toInt64))), (6, .int (zI ((k : Int) + 1)))] rfl ?_
        refine zj_eqlv (lv' := [(0, .ref q0), (3, .int (zI i1)), (4, .long (zHf (fun x => zPgN c1 b1 f1 s1 e1 us i1 x) (k + 1) h0)), (6, .int (zI ((k + 1) : Int)))]) (by rfl) ?_
        exact ih (k + 1) (by omega) (by omega)
  refine zj_lv [2, 4, 1, 0] [(0, .ref q0), (3, .int (zI i1)), (4, .long h0), (6, .int (zI 0))] rfl ?_
  refine zj_eqlv (lv' := [(0, .ref q0), (3, .int (zI i1)), (4, .long (zHf (fun x => zPgN c1 b1 f1 s1 e1 us i1 x) 0 h0)), (6, .int (zI (0 : Int)))]) (by rfl) ?_
  exact hL6 (7) 0 (by omega) (by omega)
