def zNn (r : UInt64) : Bool := decide (r &&& 0x7fffffffffffffff ≤ 0x7ff0000000000000)
def zQd (a k : Nat) : UInt64 := FP.ddiv (FP.i2d (Int32.ofInt a)) (FP.i2d (Int32.ofInt ((k : Int) * 24)))
/-- a share is no NaN, and equal to itself -/
def zQk (d : UInt64) : Bool := zNn d && decide (FP.dcmp d d = some .eq)
set_option maxRecDepth 100000 in
theorem zQ_1 : zQk FP.dconst1 = true := by decide +kernel
def zQr (ks : List Nat) : Bool := ks.all fun k => (List.range (24 * k + 1)).all fun a => a == 0 || zQk (zQd a k)
set_option maxRecDepth 100000 in
theorem zQ_g0 : zQr [1, 2, 3, 4, 5, 6, 7, 8, 9] = true := by decide +kernel
set_option maxRecDepth 100000 in
theorem zQ_g1 : zQr [10, 11, 12, 13] = true := by decide +kernel
set_option maxRecDepth 100000 in
theorem zQ_g2 : zQr [14, 15, 16] = true := by decide +kernel
theorem zQr_u {ks : List Nat} (h : zQr ks = true) {k a : Nat} (hk : k ∈ ks) (ha : 1 ≤ a ∧ a ≤ 24 * k) : zQk (zQd a k) = true := by
  have h1 := List.all_eq_true.mp (List.all_eq_true.mp h k hk) a (List.mem_range.mpr (by omega))
  rcases Bool.or_eq_true _ _ ▸ h1 with h2 | h2
  · exact absurd (eq_of_beq h2) (by omega)
  · exact h2
theorem zQ_of {fi be : Int} (h1 : 1 ≤ be ∧ be ≤ 16) (h2 : 1 ≤ fi ∧ fi ≤ be * 24) : zQk (FP.ddiv (FP.i2d (zI fi)) (FP.i2d (zI (be * 24)))) = true := by
  obtain ⟨k, rfl⟩ := Int.eq_ofNat_of_zero_le (show 0 ≤ be by omega)
  obtain ⟨a, rfl⟩ := Int.eq_ofNat_of_zero_le (show 0 ≤ fi by omega)
  show zQk (zQd a k) = true
  have hc : k = 1 ∨ k = 2 ∨ k = 3 ∨ k = 4 ∨ k = 5 ∨ k = 6 ∨ k = 7 ∨ k = 8 ∨ k = 9 ∨ k = 10 ∨ k = 11 ∨ k = 12 ∨ k = 13 ∨ k = 14 ∨ k = 15 ∨ k = 16 := by omega
  have ha : 1 ≤ a ∧ a ≤ 24 * k := by omega
  rcases hc with rfl | rfl | rfl | rfl | rfl | rfl | rfl | rfl | rfl | rfl | rfl | rfl | rfl | rfl | rfl | rfl
  · exact zQr_u zQ_g0 (by decide) ha
  · exact zQr_u zQ_g0 (by decide) ha
  · exact zQr_u zQ_g0 (by decide) ha
  · exact zQr_u zQ_g0 (by decide) ha
  · exact zQr_u zQ_g0 (by decide) ha
  · exact zQr_u zQ_g0 (by decide) ha
  · exact zQr_u zQ_g0 (by decide) ha
  · exact zQr_u zQ_g0 (by decide) ha
  · exact zQr_u zQ_g0 (by decide) ha
  · exact zQr_u zQ_g1 (by decide) ha
  · exact zQr_u zQ_g1 (by decide) ha
  · exact zQr_u zQ_g1 (by decide) ha
  · exact zQr_u zQ_g1 (by decide) ha
  · exact zQr_u zQ_g2 (by decide) ha
  · exact zQr_u zQ_g2 (by decide) ha
  · exact zQr_u zQ_g2 (by decide) ha
theorem zQ_shr {fi be : Int} (h1 : 0 ≤ be ∧ be ≤ 16) (h2 : be ≤ fi ∧ fi ≤ be * 24) : zQk (zShr fi be) = true := by
  unfold zShr
  by_cases h : be * 24 ≤ 0
  · rw [if_pos h]; exact zQ_1
  · rw [if_neg h]; exact zQ_of (by omega) (by omega)
theorem zNn_n {r : UInt64} (h : zNn r = true) : vf_n64 r := by
  have h2 := of_decide_eq_true (show decide (r &&& 0x7fffffffffffffff ≤ 0x7ff0000000000000) = true from h)
  exact h2
theorem zQk_n {d : UInt64} (h : zQk d = true) : vf_n64 d ∧ FP.dcmp d d = some .eq := by
  unfold zQk at h
  rw [Bool.and_eq_true] at h
  exact ⟨zNn_n h.1, of_decide_eq_true h.2⟩
