theorem zQr_u {ks : List Nat} (h : zQr ks = true) {k a : Nat} (hk : k ∈ ks) (ha : 1 ≤ a ∧ a ≤ 24 * k) : zQk (zQd a k) = true := by
  have h1 := List.all_eq_true.mp (List.all_eq_true.mp h k hk) a (List.mem_range.mpr (by omega))
  rcases Bool.or_eq_true _ _ ▸ h1 with h2 | h2
  · exact absurd (eq_of_beq h2) (by omega)
  · exact h2
theorem zQ_of {fi be : Int} (h1 : 1 ≤ be ∧ be ≤ 16) (h2 : 1 ≤ fi ∧ fi ≤ be * 24) : zQk (FP.ddiv (FP.i2d (zI fi)) (FP.i2d (zI (be * 24)))) = true := by
  obtain ⟨k, rfl⟩ := Int.eq_ofNat_of_zero_le (show 0 ≤ be by omega)
  obtain ⟨a, rfl⟩ := Int.eq_ofNat_of_zero_le (show 0 ≤ fi by omega)
  show zQk (zQd a k) = true
  have hc : k = 1 ∨ k = 2 ∨ k = 3 ∨ k = 4 ∨ k = 5 ∨ k = 6 ∨ k = 7 ∨ k = 8 ∨ k = 9 ∨ k = 10 ∨ k = 11 ∨ k = 12 ∨ k = 13 ∨ k = 14 ∨ k = 15 ∨ k = 16 := by omega
  have ha : 1 ≤ a ∧ a ≤ 24 * k := by omega
  rcases hc with rfl | rfl | rfl | rfl | rfl | rfl | rfl | rfl | rfl | rfl | rfl | rfl | rfl | rfl | rfl | rfl
  · exact zQr_u zQ_g0 (by decide) ha
  · exact zQr_u zQ_g0 (by decide) ha
  · exact zQr_u zQ_g0 (by decide) ha
  · exact zQr_u zQ_g0 (by decide) ha
  · exact zQr_u zQ_g0 (by decide) ha
  · exact zQr_u zQ_g0 (by decide) ha
  · exact zQr_u zQ_g1 (by decide) ha
  · exact zQr_u zQ_g1 (by decide) ha
  · exact zQr_u zQ_g1 (by decide) ha
  · exact zQr_u zQ_g2 (by decide) ha
  · exact zQr_u zQ_g2 (by decide) ha
  · exact zQr_u zQ_g3 (by decide) ha
  · exact zQr_u zQ_g3 (by decide) ha
  · exact zQr_u zQ_g4 (by decide) ha
  · exact zQr_u zQ_g5 (by decide) ha
  · exact zQr_u zQ_g6 (by decide) ha
theorem zQ_shr {fi be : Int} (h1 : 0 ≤ be ∧ be ≤ 16) (h2 : be ≤ fi ∧ fi ≤ be * 24) : zQk (zShr fi be) = true := by
  unfold zShr
  by_cases h : be * 24 ≤ 0
  · rw [if_pos h]; exact zQ_1
  · rw [if_neg h]; exact zQ_of (by omega) (by omega)
theorem zNn_n {r : UInt64} (h : zNn r = true) : vf_n64 r := by
  have h2 := of_decide_eq_true (show decide (r &&& 0x7fffffffffffffff ≤ 0x7ff0000000000000) = true from h)
  exact h2
theorem zQk_n {d : UInt64} (h : zQk d = true) : vf_n64 d ∧ zBk 12 d = true ∧ zBc d = zBm d := by
  unfold zQk at h
  rw [Bool.and_eq_true, Bool.and_eq_true] at h
  exact ⟨zNn_n h.1.1, h.1.2, eq_of_beq h.2⟩
theorem zBk_e {m : Nat} {v : UInt64} (h : zBk m v = true) (hc : 0 ≤ zCm (FP.dcmp v FP.dconst1)) : vf_n64 (FP.dsub v FP.dconst1) ∧ vf_n64 (FP.dmul (FP.dsub v FP.dconst1) zD52) ∧ vf_n64 (FP.dmul v zD52) := by
  cases m with
  | zero => exact absurd h (by simp [zBk])
  | succ m =>
    rw [zBk, if_pos hc, Bool.and_eq_true, Bool.and_eq_true] at h
    exact ⟨zNn_n h.1.1, zNn_n h.1.2, zNn_n h.2⟩
theorem zBk_s {m : Nat} {v : UInt64} (h : zBk m v = true) (hc : ¬ 0 ≤ zCm (FP.dcmp v FP.dconst1)) : 0 < m ∧ vf_n64 (FP.dmul v zD2) ∧ zBk (m - 1) (FP.dmul v zD2) = true := by
  cases m with
  | zero => exact absurd h (by simp [zBk])
  | succ m =>
    rw [zBk, if_neg hc, Bool.and_eq_true] at h
    exact ⟨by omega, zNn_n h.1, h.2⟩
theorem zBl_e {m : Nat} {v : UInt64} {x : Int} (hc : 0 ≤ zCm (FP.dcmp v FP.dconst1)) : zBl m v x = (v, x) := by
  cases m with
  | zero => rfl
  | succ m => rw [zBl, if_pos hc]
theorem zBl_s {m : Nat} {v : UInt64} {x : Int} (hm : 0 < m) (hc : ¬ 0 ≤ zCm (FP.dcmp v FP.dconst1)) : zBl m v x = zBl (m - 1) (FP.dmul v zD2) (x - 1) := by
  cases m with
  | zero => exact absurd hm (by omega)
  | succ m => rw [zBl, if_neg hc]; rfl
theorem zCm_eq (o : Option Ordering) : Op.cmpValue o .g = zI (zCm o) := by rcases o with _ | (_ | _ | _) <;> rfl

theorem wc_X4_bitsOf_258 : Cond.constantDouble RX4 258 (4841369599423283200) ∈ wsX4_bitsOf := by decide +kernel
theorem wc_X4_bitsOf_256 : Cond.constantDouble RX4 256 (4611686018427387904) ∈ wsX4_bitsOf := by decide +kernel
abbrev rm_X4_bitsOf : Room := { frames := 0, cells := 0, slots := 0, locals := 0 }
set_option maxRecDepth 100000 in
set_option maxHeartbeats 4000000 in
theorem c_X4_bitsOf (l : Launch) (D : va_G) (cI cS cJ : ClassId) (d1 : UInt64) (hq : zBk 12 d1 = true) : zMl l yX4_bitsOf wsX4_bitsOf rm_X4_bitsOf D (zTy cI cS cJ) [.double d1] [] (fun r w => r = (zBc d1) ∧ w = []) 0 0 := by
  intro sz
  refine zMet_of (Qc := fun A => va_Ql _ (zB D (zTy cI cS cJ) A) A) RX4 [(0, .double d1)] rfl (by decide +kernel) rfl (Nat.le_of_ble_eq_true rfl) rfl ?_ sz
  intro p e s m args below meth c A Q hQ C hr hini
  refine zj_dload_n 1 0 C dX4_bitsOf_0 rfl rfl rfl ?_
  refine zj_dstore_n 2 [(2, .double d1), (0, .double d1)] C dX4_bitsOf_1 rfl rfl (by decide) rfl ?_
  refine zj_sipush 5 C dX4_bitsOf_2 rfl rfl ?_
  refine zj_istore 7 [(4, .int (zI 1023)), (2, .double d1), (0, .double d1)] C dX4_bitsOf_5 rfl (by decide) rfl ?_
  have hL7 : ∀ (N : Nat) (k : Nat) (v1 : UInt64), ((k : Int) ≤ 12) → (zBk (12 - k) v1 = true) → (zBl 12 d1 1023 = zBl (12 - k) v1 (1023 - (k : Int))) → (12 - (k : Int) < N) → zJ p l e rm_X4_bitsOf s m args below meth c Q D A 7 [] 0 0 [(2, .double v1), (4, .int (zI (1023 - (k : Int))))] 7 [] := by
    intro N
    induction N with
    | zero => intro k v1 hk hbk hbl hN; exact absurd hN (by omega)
    | succ N ih =>
      intro k v1 hk hbk hbl hN
      have hcm := zCm_b (FP.dcmp v1 FP.dconst1)
      refine zj_dload_n 8 0 C dX4_bitsOf_7 rfl rfl rfl ?_
      refine zj_dconst1 9 C dX4_bitsOf_8 rfl ?_
      refine zj_dcmp 10 C dX4_bitsOf_9 rfl ?_
      refine zj_st (st' := [.int (zI (zCm (FP.dcmp v1 FP.dconst1)))]) (by rw [zCm_eq]) ?_
      refine zj_if_ge 13 31 C (by omega) dX4_bitsOf_10 rfl (by decide) (fun h10 => ?_) (fun h10 => ?_)
      · skip
        have hy := zBk_e hbk h10
        have hl := hbl.trans (zBl_e h10)
        refine zj_dload_n 32 0 C dX4_bitsOf_31 rfl rfl rfl ?_
        refine zj_dconst1 33 C dX4_bitsOf_32 rfl ?_
        refine zj_dsub 34 C (hy.1) dX4_bitsOf_33 rfl ?_
        refine zj_ldc2d 37 C (4841369599423283200) wc_X4_bitsOf_258 dX4_bitsOf_34 rfl ?_
        refine zj_dmul 38 C (hy.2.1) dX4_bitsOf_37 rfl ?_
        refine zj_d2l 39 C dX4_bitsOf_38 rfl ?_
        refine zj_lstore 41 [(5, .long (FP.d2l (FP.dmul (FP.dsub v1 FP.dconst1) (4841369599423283200 : UInt64)))), (2, .double v1), (4, .int (zI (1023 - (k : Int))))] C dX4_bitsOf_39 rfl (by decide) rfl ?_
        refine zj_iload 43 2 C dX4_bitsOf_41 rfl rfl ?_
        refine zj_i2lu 44 C dX4_bitsOf_43 rfl ?_
        refine zj_bipush 46 C dX4_bitsOf_44 rfl rfl ?_
        refine zj_lshl 47 C dX4_bitsOf_46 rfl ?_
        refine zj_lload 49 0 C dX4_bitsOf_47 rfl rfl ?_
        refine zj_ladd 50 C dX4_bitsOf_49 rfl ?_
        refine zj_st (st' := [.long (zBc d1)]) (by unfold zBc; rw [hl]; rfl) ?_
        subst hQ
        exact zj_lreturn C hr ⟨rfl, rfl⟩ (by decide) (by decide) dX4_bitsOf_50
      · skip
        have h10n : ¬ 0 ≤ zCm (FP.dcmp v1 FP.dconst1) := by omega
        have hz := zBk_s hbk h10n
        refine zj_iload 15 1 C dX4_bitsOf_13 rfl rfl ?_
        refine zj_iconst 16 C dX4_bitsOf_15 rfl ?_
        refine zj_icmp_le 19 31 C (by omega) (by omega) dX4_bitsOf_16 rfl (by decide) (fun h16 => ?_) (fun h16 => ?_)
        · exact absurd h16 (by omega)
        · skip
          refine zj_dload_n 20 0 C dX4_bitsOf_19 rfl rfl rfl ?_
          refine zj_ldc2d 23 C (4611686018427387904) wc_X4_bitsOf_256 dX4_bitsOf_20 rfl ?_
          refine zj_dmul 24 C (hz.2.1) dX4_bitsOf_23 rfl ?_
          refine zj_dstore_n 25 [(2, .double (FP.dmul v1 (4611686018427387904 : UInt64))), (4, .int (zI (1023 - (k : Int))))] C dX4_bitsOf_24 rfl rfl (by decide) rfl ?_
          refine zj_iinc 28 1 [(4, .int (zI ((1023 - (k : Int)) + (-1)))), (2, .double (FP.dmul v1 (4611686018427387904 : UInt64)))] C dX4_bitsOf_25 rfl rfl (by decide) rfl ?_
          refine zj_goto 7 C dX4_bitsOf_28 (by decide) ?_
          refine zj_lv [1, 0] [(2, .double (FP.dmul v1 (4611686018427387904 : UInt64))), (4, .int (zI ((1023 - (k : Int)) + (-1))))] rfl ?_
          refine zj_eqlv (lv' := [(2, .double (FP.dmul v1 zD2)), (4, .int (zI (1023 - ((k + 1) : Int))))]) (by rw [show (1023 - (k : Int) + (-1)) = 1023 - ((k : Int) + 1) by omega] <;> rfl) ?_
          exact ih (k + 1) (FP.dmul v1 zD2) (by omega) (hz.2.2) (by rw [hbl, zBl_s hz.1 h10n, show (12 - k) - 1 = 12 - (k + 1) by omega, show (1023 - (k : Int) - 1) = 1023 - ((k + 1 : Nat) : Int) by omega]) (by omega)
  refine zj_lv [1, 0] [(2, .double d1), (4, .int (zI 1023))] rfl ?_
  refine zj_eqlv (lv' := [(2, .double d1), (4, .int (zI (1023 - (0 : Int))))]) (by rfl) ?_
  exact hL7 (13) 0 d1 (by omega) (hq) (rfl) (by omega)

theorem wc_X5_bitsOf_195 : Cond.constantLong RX5 195 (1023) ∈ wsX5_bitsOf := by decide +kernel
theorem wc_X5_bitsOf_199 : Cond.constantDouble RX5 199 (4841369599423283200) ∈ wsX5_bitsOf := by decide +kernel
theorem wc_X5_bitsOf_201 : Cond.constantLong RX5 201 (4503599627370496) ∈ wsX5_bitsOf := by decide +kernel
theorem wc_X5_bitsOf_197 : Cond.constantDouble RX5 197 (4611686018427387904) ∈ wsX5_bitsOf := by decide +kernel
abbrev rm_X5_bitsOf : Room := { frames := 0, cells := 0, slots := 0, locals := 0 }
set_option maxRecDepth 100000 in
set_option maxHeartbeats 4000000 in
theorem c_X5_bitsOf (l : Launch) (D : va_G) (cI cS cJ : ClassId) (d1 : UInt64) (hq : zBk 12 d1 = true) : zMl l yX5_bitsOf wsX5_bitsOf rm_X5_bitsOf D (zTy cI cS cJ) [.double d1] [] (fun r w => r = (zBm d1) ∧ w = []) 0 0 := by
  intro sz
  refine zMet_of (Qc := fun A => va_Ql _ (zB D (zTy cI cS cJ) A) A) RX5 [(0, .double d1)] rfl (by decide +kernel) rfl (Nat.le_of_ble_eq_true rfl) rfl ?_ sz
  intro p e s m args below meth c A Q hQ C hr hini
  refine zj_dload_n 1 0 C dX5_bitsOf_0 rfl rfl rfl ?_
  refine zj_dstore_n 2 [(2, .double d1), (0, .double d1)] C dX5_bitsOf_1 rfl rfl (by decide) rfl ?_
  refine zj_ldc2 5 C (1023) wc_X5_bitsOf_195 dX5_bitsOf_2 rfl ?_
  refine zj_lstore 7 [(4, .long (1023 : Int64)), (2, .double d1), (0, .double d1)] C dX5_bitsOf_5 rfl (by decide) rfl ?_
  have hL7 : ∀ (N : Nat) (k : Nat) (v1 : UInt64), ((k : Int) ≤ 12) → (zBk (12 - k) v1 = true) → (zBl 12 d1 1023 = zBl (12 - k) v1 (1023 - (k : Int))) → (12 - (k : Int) < N) → zJ p l e rm_X5_bitsOf s m args below meth c Q D A 6 [] 0 0 [(2, .double v1), (4, .long (Int64.ofInt (1023 - (k : Int))))] 7 [] := by
    intro N
    induction N with
    | zero => intro k v1 hk hbk hbl hN; exact absurd hN (by omega)
    | succ N ih =>
      intro k v1 hk hbk hbl hN
      have hcm := zCm_b (FP.dcmp v1 FP.dconst1)
      refine zj_dload_n 8 0 C dX5_bitsOf_7 rfl rfl rfl ?_
      refine zj_dconst1 9 C dX5_bitsOf_8 rfl ?_
      refine zj_dcmp 10 C dX5_bitsOf_9 rfl ?_
      refine zj_st (st' := [.int (zI (zCm (FP.dcmp v1 FP.dconst1)))]) (by rw [zCm_eq]) ?_
      refine zj_if_ge 13 28 C (by omega) dX5_bitsOf_10 rfl (by decide) (fun h10 => ?_) (fun h10 => ?_)
      · skip
        have hy := zBk_e hbk h10
        have hl := hbl.trans (zBl_e h10)
        refine zj_lload 30 1 C dX5_bitsOf_28 rfl rfl ?_
        refine zj_bipush 32 C dX5_bitsOf_30 rfl rfl ?_
        refine zj_lshl 33 C dX5_bitsOf_32 rfl ?_
        refine zj_dload_n 34 0 C dX5_bitsOf_33 rfl rfl rfl ?_
        refine zj_ldc2d 37 C (4841369599423283200) wc_X5_bitsOf_199 dX5_bitsOf_34 rfl ?_
        refine zj_dmul 38 C (hy.2.2) dX5_bitsOf_37 rfl ?_
        refine zj_d2l 39 C dX5_bitsOf_38 rfl ?_
        refine zj_ladd 40 C dX5_bitsOf_39 rfl ?_
        refine zj_ldc2 43 C (4503599627370496) wc_X5_bitsOf_201 dX5_bitsOf_40 rfl ?_
        refine zj_lsub 44 C dX5_bitsOf_43 rfl ?_
        refine zj_st (st' := [.long (zBm d1)]) (by unfold zBm; rw [hl]; rfl) ?_
        subst hQ
        exact zj_lreturn C hr ⟨rfl, rfl⟩ (by decide) (by decide) dX5_bitsOf_44
      · skip
        have h10n : ¬ 0 ≤ zCm (FP.dcmp v1 FP.dconst1) := by omega
        have hz := zBk_s hbk h10n
        refine zj_dload_n 14 0 C dX5_bitsOf_13 rfl rfl rfl ?_
        refine zj_ldc2d 17 C (4611686018427387904) wc_X5_bitsOf_197 dX5_bitsOf_14 rfl ?_
        refine zj_dmul 18 C (hz.2.1) dX5_bitsOf_17 rfl ?_
        refine zj_dstore_n 19 [(2, .double (FP.dmul v1 (4611686018427387904 : UInt64))), (4, .long (Int64.ofInt (1023 - (k : Int))))] C dX5_bitsOf_18 rfl rfl (by decide) rfl ?_
        refine zj_lload 21 1 C dX5_bitsOf_19 rfl rfl ?_
        refine zj_lconst 22 C 1 rfl dX5_bitsOf_21 rfl ?_
        refine zj_lsub 23 C dX5_bitsOf_22 rfl ?_
        refine zj_lstore 25 [(4, .long ((Int64.ofInt (1023 - (k : Int))) - (1 : Int64))), (2, .double (FP.dmul v1 (4611686018427387904 : UInt64)))] C dX5_bitsOf_23 rfl (by decide) rfl ?_
        refine zj_goto 7 C dX5_bitsOf_25 (by decide) ?_
        refine zj_lv [1, 0] [(2, .double (FP.dmul v1 (4611686018427387904 : UInt64))), (4, .long ((Int64.ofInt (1023 - (k : Int))) - (1 : Int64)))] rfl ?_
        refine zj_eqlv (lv' := [(2, .double (FP.dmul v1 zD2)), (4, .long (Int64.ofInt (1023 - ((k + 1) : Int))))]) (by rw [show Int64.ofInt (1023 - ((k : Int) + 1)) = Int64.ofInt (1023 - (k : Int)) - 1 from by (rw [show (1023 - ((k : Int) + 1)) = (1023 - (k : Int)) - 1 by omega]; exact Int64.ofInt_sub _ _)] <;> rfl) ?_
        exact ih (k + 1) (FP.dmul v1 zD2) (by omega) (hz.2.2) (by rw [hbl, zBl_s hz.1 h10n, show (12 - k) - 1 = 12 - (k + 1) by omega, show (1023 - (k : Int) - 1) = 1023 - ((k + 1 : Nat) : Int) by omega]) (by omega)
  refine zj_lv [1, 0] [(2, .double d1), (4, .long (1023 : Int64))] rfl ?_
  refine zj_eqlv (lv' := [(2, .double d1), (4, .long (Int64.ofInt (1023 - (0 : Int))))]) (by rfl) ?_
  exact hL7 (13) 0 d1 (by omega) (hq) (rfl) (by omega)
