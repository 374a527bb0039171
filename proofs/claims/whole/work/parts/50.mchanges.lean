def zSvd (S Z : Int → Int) (sm : Int) : Int → Int := fun x => if sm = 6 then (if x < 370 then S (x + 74) else Z (x - 370)) else (if 74 * sm ≤ x ∧ x < 74 * sm + 74 then Z (x - 74 * sm) else S x)
theorem zRel_e {n sg : Int} {K W T Z Z' : Int → Int} (h : zRel n sg K W T Z) (hn : n ≤ 24) (he : ∀ x, 0 ≤ x → x < 74 → Z' x = Z x) : zRel n sg K W T Z' :=
  ⟨by rw [he 1 (by omega) (by omega)]; exact h.1, by rw [he 0 (by omega) (by omega)]; exact h.2.1, fun x x1 x2 => by
    dsimp only [zKz, zWz, zTz]
    rw [he (2 + 3 * x + 0) (by omega) (by omega), he (2 + 3 * x + 1) (by omega) (by omega), he (2 + 3 * x + 2) (by omega) (by omega)]
    exact h.2.2 x x1 x2⟩
theorem zRel_i {n sg j k w t : Int} {K W T Z Z' : Int → Int} (h : zRel n sg K W T Z) (hj : 0 ≤ j ∧ j ≤ n) (h1 : Z' 1 = n + 1) (h0 : Z' 0 = Z 0) (hk : Z' (2 + 3 * j + 0) = k) (hw : Z' (2 + 3 * j + 1) = w) (ht : Z' (2 + 3 * j + 2) = t)
    (hz : ∀ x, 2 ≤ x → x < 2 + 3 * (n + 1) → ¬ (2 + 3 * j ≤ x ∧ x < 2 + 3 * j + 3) → Z' x = if 2 + 3 * (j + 1) ≤ x then Z (x - 3) else Z x) : zRel (n + 1) sg (zIns K j k) (zIns W j w) (zIns T j t) Z' := by
  refine ⟨h1, by rw [h0]; exact h.2.1, fun x x1 x2 => ?_⟩
  have key : ∀ (f : Int → Int) (c v : Int), 0 ≤ c → c < 3 → Z' (2 + 3 * j + c) = v → (∀ y, 0 ≤ y → y < n → Z (2 + 3 * y + c) = f y) → Z' (2 + 3 * x + c) = zIns f j v x := fun f c v c1 c2 hv hf => by
    unfold zIns
    by_cases e1 : x < j
    · rw [if_pos e1, hz _ (by omega) (by omega) (by omega), if_neg (by omega)]
      exact hf x x1 (by omega)
    · rw [if_neg e1]
      by_cases e2 : x = j
      · subst e2; rw [if_pos rfl]; exact hv
      · rw [if_neg e2, hz _ (by omega) (by omega) (by omega), if_pos (by omega), ← hf (x - 1) (by omega) (by omega)]
        congr 1; omega
  exact ⟨key K 0 k (by omega) (by omega) hk (fun y y1 y2 => (h.2.2 y y1 y2).1), key W 1 w (by omega) (by omega) hw (fun y y1 y2 => (h.2.2 y y1 y2).2.1), key T 2 t (by omega) (by omega) ht (fun y y1 y2 => (h.2.2 y y1 y2).2.2)⟩
theorem zRel_d {n sg j : Int} {K W T Z Z' : Int → Int} (h : zRel n sg K W T Z) (hn : n ≤ 24) (hj : 0 ≤ j ∧ j < n) (h1 : Z' 1 = n - 1) (h0 : Z' 0 = Z 0) (hz : ∀ x, 2 ≤ x → x < 2 + 3 * (n - 1) → Z' x = if 2 + 3 * j ≤ x then Z (x + 3) else Z x) : zRel (n - 1) sg (zDel K j) (zDel W j) (zDel T j) Z' := by
  refine ⟨h1, by rw [h0]; exact h.2.1, fun x x1 x2 => ?_⟩
  have key : ∀ (f : Int → Int) (c : Int), 0 ≤ c → c < 3 → (∀ y, 0 ≤ y → y < n → Z (2 + 3 * y + c) = f y) → Z' (2 + 3 * x + c) = zDel f j x := fun f c c1 c2 hf => by
    unfold zDel
    rw [hz _ (by omega) (by omega)]
    by_cases e1 : x < j
    · rw [if_pos e1, if_neg (by omega)]
      exact hf x x1 (by omega)
    · rw [if_neg e1, if_pos (by omega), if_pos (show x < 23 by omega), ← hf (x + 1) (by omega) (by omega)]
      congr 1; omega
  exact ⟨key K 0 (by omega) (by omega) (fun y y1 y2 => (h.2.2 y y1 y2).1), key W 1 (by omega) (by omega) (fun y y1 y2 => (h.2.2 y y1 y2).2.1), key T 2 (by omega) (by omega) (fun y y1 y2 => (h.2.2 y y1 y2).2.2)⟩
theorem zRel_t {n sg p w t : Int} {K W T Z : Int → Int} (h : zRel n sg K W T Z) (hp : 0 ≤ p) : zRel n sg K (zU W p w) (zU T p t) (zU (zU Z (2 + 3 * p + 1) w) (2 + 3 * p + 2) t) :=
  ⟨by rw [zU_ne _ _ (by omega), zU_ne _ _ (by omega)]; exact h.1, by rw [zU_ne _ _ (by omega), zU_ne _ _ (by omega)]; exact h.2.1, fun x x1 x2 => by
    dsimp only [zKz, zWz, zTz]
    obtain ⟨h3, h4, h5⟩ := h.2.2 x x1 x2
    refine ⟨by rw [zU_ne _ _ (by omega), zU_ne _ _ (by omega)]; exact h3, ?_, ?_⟩
    · rw [zU_ne _ _ (by omega)]
      by_cases e : x = p
      · subst e; rw [zU_eq, zU_eq]
      · rw [zU_ne _ _ e, zU_ne _ _ (by omega)]; exact h4
    · by_cases e : x = p
      · subst e; rw [zU_eq, zU_eq]
      · rw [zU_ne _ _ e, zU_ne _ _ (by omega), zU_ne _ _ (by omega)]; exact h5⟩
/-- one step of the shifting -/
theorem zSh_i {Z z : Int → Int} {k n : Int} (hk : 1 ≤ k ∧ k ≤ n) (h : ∀ x, z x = if 2 + 3 * (k + 1) ≤ x ∧ x < 2 + 3 * (n + 1) then Z (x - 3) else Z x) (x : Int) :
    zU (zU (zU z (2 + 3 * k + 0) (z (2 + 3 * (k - 1) + 0))) (2 + 3 * k + 1) (zU z (2 + 3 * k + 0) (z (2 + 3 * (k - 1) + 0)) (2 + 3 * (k - 1) + 1))) (2 + 3 * k + 2) (zU (zU z (2 + 3 * k + 0) (z (2 + 3 * (k - 1) + 0))) (2 + 3 * k + 1) (zU z (2 + 3 * k + 0) (z (2 + 3 * (k - 1) + 0)) (2 + 3 * (k - 1) + 1)) (2 + 3 * (k - 1) + 2)) x = if 2 + 3 * k ≤ x ∧ x < 2 + 3 * (n + 1) then Z (x - 3) else Z x := by
  have e0 : z (2 + 3 * (k - 1) + 0) = Z (2 + 3 * (k - 1) + 0) := by rw [h, if_neg (by omega)]
  have e1 : zU z (2 + 3 * k + 0) (z (2 + 3 * (k - 1) + 0)) (2 + 3 * (k - 1) + 1) = Z (2 + 3 * (k - 1) + 1) := by rw [zU_ne _ _ (by omega), h, if_neg (by omega)]
  have e2 : zU (zU z (2 + 3 * k + 0) (z (2 + 3 * (k - 1) + 0))) (2 + 3 * k + 1) (zU z (2 + 3 * k + 0) (z (2 + 3 * (k - 1) + 0)) (2 + 3 * (k - 1) + 1)) (2 + 3 * (k - 1) + 2) = Z (2 + 3 * (k - 1) + 2) := by rw [zU_ne _ _ (by omega), zU_ne _ _ (by omega), h, if_neg (by omega)]
  rw [e2, e1, e0]
  by_cases h2 : x = 2 + 3 * k + 2
  · subst h2; rw [zU_eq, if_pos (by omega)]; congr 1; omega
  · rw [zU_ne _ _ h2]
    by_cases h1 : x = 2 + 3 * k + 1
    · subst h1; rw [zU_eq, if_pos (by omega)]; congr 1; omega
    · rw [zU_ne _ _ h1]
      by_cases h0 : x = 2 + 3 * k + 0
      · subst h0; rw [zU_eq, if_pos (by omega)]; congr 1; omega
      · rw [zU_ne _ _ h0, h]
        by_cases h9 : 2 + 3 * (k + 1) ≤ x ∧ x < 2 + 3 * (n + 1)
        · rw [if_pos h9, if_pos (show 2 + 3 * k ≤ x ∧ x < 2 + 3 * (n + 1) by omega)]
        · rw [if_neg h9, if_neg (show ¬ (2 + 3 * k ≤ x ∧ x < 2 + 3 * (n + 1)) by omega)]

theorem fl_X5_save_44 : Cond.fieldLink RX5 44 "SplashPagesModel" "savedMany" "I" ∈ wsX5_save := by decide +kernel
theorem im_X5_save_5 : ∀ w ∈ u_ws RX5 TX5 20, w ∈ wsX5_save := by decide +kernel
theorem fl_X5_save_13 : Cond.fieldLink RX5 13 "SplashPagesModel" "saved" "[I" ∈ wsX5_save := by decide +kernel
theorem fl_X5_save_7 : Cond.fieldLink RX5 7 "SplashPagesModel" "z" "[I" ∈ wsX5_save := by decide +kernel
abbrev rm_X5_save : Room := { frames := 0, cells := 0, slots := 0, locals := 0 }
set_option maxRecDepth 100000 in
set_option maxHeartbeats 4000000 in
theorem c_X5_save (l : Launch) (D : va_G) (cI cS cJ : ClassId) (q5 : Nat) (m0 : Nat) (m1 : Nat) (m2 : Nat) (m3 : Nat) (m4 : Nat) (m5 : Nat) (m6 : Nat) (m7 : Nat) (m8 : Nat) (m9 : Nat) (th : Int) (sm : Int) (ty : Int) (pg : Int) (rw : Int) (un : Int) (pm : Int) (sp : Int) (wr : Int) (ha : Int64) (Z1 : Int → Int) (S1 : Int → Int) (hsm : 0 ≤ sm ∧ sm ≤ 6) : zMv l yX5_save wsX5_save rm_X5_save D (zTy cI cS cJ) [.ref q5] [(q5, .inr (5, [.int (zI th), .ref m0, .ref m1, .int (zI sm), .ref m2, .int (zI ty), .ref m3, .ref m4, .ref m5, .ref m6, .ref m7, .ref m8, .int (zI pg), .int (zI rw), .int (zI un), .ref m9, .int (zI pm), .int (zI sp), .int (zI wr), .long ha])), (m0, .inl (cI, 74, .inl (zA Z1))), (m1, .inl (cI, 444, .inl (zA S1)))] (fun w => w = [(q5, .inr (5, [.int (zI th), .ref m0, .ref m1, .int (zI (zHn sm)), .ref m2, .int (zI ty), .ref m3, .ref m4, .ref m5, .ref m6, .ref m7, .ref m8, .int (zI pg), .int (zI rw), .int (zI un), .ref m9, .int (zI pm), .int (zI sp), .int (zI wr), .long ha])), (m0, .inl (cI, 74, .inl (zA Z1))), (m1, .inl (cI, 444, .inl (zA (zSvd S1 Z1 sm))))]) 0 0 := by
  intro sz
  refine zMet_of (Qc := fun A => va_Qv _ (zB D (zTy cI cS cJ) A) A) RX5 [(0, .ref q5)] rfl (by decide +kernel) rfl (Nat.le_of_ble_eq_true rfl) rfl ?_ sz
  intro p e s m args below meth c A Q hQ C hr hini
  have hL51 : ∀ (N : Nat) (k : Int) (s3 : Int) (gb : Int → Int) (g : Int → Int), (0 ≤ k ∧ k ≤ 74) → ((sm = 6 ∧ s3 = 5 ∧ ∀ x, 0 ≤ x → x < 370 → gb x = S1 (x + 74)) ∨ (¬ sm = 6 ∧ s3 = sm ∧ ∀ x, gb x = S1 x)) → (∀ x, g x = if 74 * s3 ≤ x ∧ x < 74 * s3 + k then Z1 (x - 74 * s3) else gb x) → (74 - k < N) → zJ p l e rm_X5_save s m args below meth c Q D A 2 [(q5, .inr (5, [.int (zI th), .ref m0, .ref m1, .int (zI s3), .ref m2, .int (zI ty), .ref m3, .ref m4, .ref m5, .ref m6, .ref m7, .ref m8, .int (zI pg), .int (zI rw), .int (zI un), .ref m9, .int (zI pm), .int (zI sp), .int (zI wr), .long ha])), (m0, .inl (cI, 74, .inl (zA Z1))), (m1, .inl (cI, 444, .inl (zA g)))] 0 0 [(0, .ref q5), (1, .int (zI k))] 51 [] := by
    intro N
    induction N with
    | zero => intro k s3 gb g hk hb hg hN; exact absurd hN (by omega)
    | succ N ih =>
      intro k s3 gb g hk hb hg hN
      have hs3 : 0 ≤ s3 ∧ s3 ≤ 5 := by rcases hb with q | q <;> omega
      refine zj_iload_n 52 1 C dX5_save_51 rfl rfl rfl ?_
      refine zj_bipush 54 C dX5_save_52 rfl rfl ?_
      refine zj_icmp_ge 57 83 C (by omega) (by omega) dX5_save_54 rfl (by decide) (fun h54 => ?_) (fun h54 => ?_)
      · skip
        refine zj_aload_n 84 0 C dX5_save_83 rfl rfl rfl ?_
        refine zj_dup 85 C dX5_save_84 rfl rfl ?_
        refine zj_get 88 0 3 C (T := TX5) im_X5_save_5 fl_X5_save_44 rfl rfl (by decide) rfl rfl dX5_save_85 rfl ?_
        refine zj_iconst 89 C dX5_save_88 rfl ?_
        refine zj_iadd 90 C dX5_save_89 rfl ?_
        refine zj_put 93 0 3 [(q5, .inr (5, [.int (zI th), .ref m0, .ref m1, .int (zI (s3 + 1)), .ref m2, .int (zI ty), .ref m3, .ref m4, .ref m5, .ref m6, .ref m7, .ref m8, .int (zI pg), .int (zI rw), .int (zI un), .ref m9, .int (zI pm), .int (zI sp), .int (zI wr), .long ha])), (m0, .inl (cI, 74, .inl (zA Z1))), (m1, .inl (cI, 444, .inl (zA g)))] C (T := TX5) tyX5 tyX5_ok nmX5 im_X5_save_5 fl_X5_save_44 rfl rfl (by decide) rfl rfl rfl rfl rfl (Nat.le_of_ble_eq_true rfl) rfl dX5_save_90 rfl ?_
        refine zj_ext 2 [(q5, .inr (5, [.int (zI th), .ref m0, .ref m1, .int (zI (s3 + 1)), .ref m2, .int (zI ty), .ref m3, .ref m4, .ref m5, .ref m6, .ref m7, .ref m8, .int (zI pg), .int (zI rw), .int (zI un), .ref m9, .int (zI pm), .int (zI sp), .int (zI wr), .long ha])), (m0, .inl (cI, 74, .inl (zA Z1))), (m1, .inl (cI, 444, .inl (zA (zSvd S1 Z1 sm))))] (fun x x1 x2 => by rw [hg]; unfold zSvd; rcases hb with ⟨b1, b2, b3⟩ | ⟨b1, b2, b3⟩; (rw [if_pos b1, b2]; by_cases e : x < 370; (rw [if_pos e, if_neg (by omega)]; exact b3 x x1 e); rw [if_neg e, if_pos (by omega)]; congr 1); (rw [if_neg b1, b2]; by_cases e : 74 * sm ≤ x ∧ x < 74 * sm + 74; (rw [if_pos e, if_pos (by omega)]); rw [if_neg e, if_neg (by omega)]; exact b3 x)) rfl rfl ?_
        refine zj_ws (ws' := [(q5, .inr (5, [.int (zI th), .ref m0, .ref m1, .int (zI (zHn sm)), .ref m2, .int (zI ty), .ref m3, .ref m4, .ref m5, .ref m6, .ref m7, .ref m8, .int (zI pg), .int (zI rw), .int (zI un), .ref m9, .int (zI pm), .int (zI sp), .int (zI wr), .long ha])), (m0, .inl (cI, 74, .inl (zA Z1))), (m1, .inl (cI, 444, .inl (zA (zSvd S1 Z1 sm))))]) (by rw [show zHn sm = s3 + 1 from by unfold zHn; rcases hb with q | q; (rw [if_neg (by omega)]; omega); (rw [if_pos (by omega)]; omega)]) ?_
        subst hQ
        exact zj_return C hr rfl (by decide) (by decide) dX5_save_93
      · skip
        refine zj_aload_n 58 0 C dX5_save_57 rfl rfl rfl ?_
        refine zj_get 61 0 2 C (T := TX5) im_X5_save_5 fl_X5_save_13 rfl rfl (by decide) rfl rfl dX5_save_58 rfl ?_
        refine zj_aload_n 62 0 C dX5_save_61 rfl rfl rfl ?_
        refine zj_get 65 0 3 C (T := TX5) im_X5_save_5 fl_X5_save_44 rfl rfl (by decide) rfl rfl dX5_save_62 rfl ?_
        refine zj_bipush 67 C dX5_save_65 rfl rfl ?_
        refine zj_imul 68 C dX5_save_67 rfl ?_
        refine zj_iload_n 69 1 C dX5_save_68 rfl rfl rfl ?_
        refine zj_iadd 70 C dX5_save_69 rfl ?_
        refine zj_aload_n 71 0 C dX5_save_70 rfl rfl rfl ?_
        refine zj_get 74 0 1 C (T := TX5) im_X5_save_5 fl_X5_save_7 rfl rfl (by decide) rfl rfl dX5_save_71 rfl ?_
        refine zj_iload_n 75 1 C dX5_save_74 rfl rfl rfl ?_
        refine zj_iald 76 1 C (by omega) (by omega) rfl rfl dX5_save_75 rfl ?_
        refine zj_iast 77 2 [(q5, .inr (5, [.int (zI th), .ref m0, .ref m1, .int (zI s3), .ref m2, .int (zI ty), .ref m3, .ref m4, .ref m5, .ref m6, .ref m7, .ref m8, .int (zI pg), .int (zI rw), .int (zI un), .ref m9, .int (zI pm), .int (zI sp), .int (zI wr), .long ha])), (m0, .inl (cI, 74, .inl (zA Z1))), (m1, .inl (cI, 444, .inl (zA (zU g ((s3 * 74) + k) (Z1 k)))))] C (by omega) (by omega) rfl rfl rfl dX5_save_76 rfl ?_
        refine zj_iinc 80 1 [(1, .int (zI (k + 1))), (0, .ref q5)] C dX5_save_77 rfl rfl (by decide) rfl ?_
        refine zj_goto 51 C dX5_save_80 (by decide) ?_
        refine zj_lv [1, 0] [(0, .ref q5), (1, .int (zI (k + 1)))] rfl ?_
        exact ih (k + 1) s3 gb (zU g ((s3 * 74) + k) (Z1 k)) (by omega) (hb) (fun x => by rw [show s3 * 74 + k = 74 * s3 + k by omega]; by_cases e : x = 74 * s3 + k; (subst e; rw [zU_eq, if_pos (by omega)]; congr 1; omega); rw [zU_ne _ _ e, hg]; by_cases e2 : 74 * s3 ≤ x ∧ x < 74 * s3 + k; (rw [if_pos e2, if_pos (show 74 * s3 ≤ x ∧ x < 74 * s3 + (k + 1) by omega)]); rw [if_neg e2, if_neg (show ¬ (74 * s3 ≤ x ∧ x < 74 * s3 + (k + 1)) by omega)]) (by omega)
  refine zj_aload_n 1 0 C dX5_save_0 rfl rfl rfl ?_
  refine zj_get 4 0 3 C (T := TX5) im_X5_save_5 fl_X5_save_44 rfl rfl (by decide) rfl rfl dX5_save_1 rfl ?_
  refine zj_bipush 6 C dX5_save_4 rfl rfl ?_
  refine zj_icmp_ne 9 49 C (by omega) (by omega) dX5_save_6 rfl (by decide) (fun h6 => ?_) (fun h6 => ?_)
  · skip
    refine zj_iconst 50 C dX5_save_49 rfl ?_
    refine zj_istore_n 51 [(1, .int (zI 0)), (0, .ref q5)] C dX5_save_50 rfl rfl (by decide) rfl ?_
    refine zj_lv [1, 0] [(0, .ref q5), (1, .int (zI 0))] rfl ?_
    exact hL51 (75) 0 sm S1 S1 (by omega) (Or.inr ⟨h6, rfl, fun _ => rfl⟩) (fun x => by rw [if_neg (by omega)]) (by omega)
  · skip
    refine zj_iconst 10 C dX5_save_9 rfl ?_
    refine zj_istore_n 11 [(1, .int (zI 0)), (0, .ref q5)] C dX5_save_10 rfl rfl (by decide) rfl ?_
    have hL11 : ∀ (N : Nat) (k : Int) (g3 : Int → Int), (0 ≤ k ∧ k ≤ 370) → (∀ x, 0 ≤ x → x < k → g3 x = S1 (x + 74)) → (∀ x, k ≤ x → g3 x = S1 x) → (370 - k < N) → zJ p l e rm_X5_save s m args below meth c Q D A 2 [(q5, .inr (5, [.int (zI th), .ref m0, .ref m1, .int (zI sm), .ref m2, .int (zI ty), .ref m3, .ref m4, .ref m5, .ref m6, .ref m7, .ref m8, .int (zI pg), .int (zI rw), .int (zI un), .ref m9, .int (zI pm), .int (zI sp), .int (zI wr), .long ha])), (m0, .inl (cI, 74, .inl (zA Z1))), (m1, .inl (cI, 444, .inl (zA g3)))] 0 0 [(0, .ref q5), (1, .int (zI k))] 11 [] := by
      intro N
      induction N with
      | zero => intro k g3 hk hg3 hg4 hN; exact absurd hN (by omega)
      | succ N ih =>
        intro k g3 hk hg3 hg4 hN
        refine zj_iload_n 12 1 C dX5_save_11 rfl rfl rfl ?_
        refine zj_sipush 15 C dX5_save_12 rfl rfl ?_
        refine zj_icmp_ge 18 39 C (by omega) (by omega) dX5_save_15 rfl (by decide) (fun h15 => ?_) (fun h15 => ?_)
        · skip
          refine zj_aload_n 40 0 C dX5_save_39 rfl rfl rfl ?_
          refine zj_dup 41 C dX5_save_40 rfl rfl ?_
          refine zj_get 44 0 3 C (T := TX5) im_X5_save_5 fl_X5_save_44 rfl rfl (by decide) rfl rfl dX5_save_41 rfl ?_
          refine zj_iconst 45 C dX5_save_44 rfl ?_
          refine zj_isub 46 C dX5_save_45 rfl ?_
          refine zj_put 49 0 3 [(q5, .inr (5, [.int (zI th), .ref m0, .ref m1, .int (zI (sm - 1)), .ref m2, .int (zI ty), .ref m3, .ref m4, .ref m5, .ref m6, .ref m7, .ref m8, .int (zI pg), .int (zI rw), .int (zI un), .ref m9, .int (zI pm), .int (zI sp), .int (zI wr), .long ha])), (m0, .inl (cI, 74, .inl (zA Z1))), (m1, .inl (cI, 444, .inl (zA g3)))] C (T := TX5) tyX5 tyX5_ok nmX5 im_X5_save_5 fl_X5_save_44 rfl rfl (by decide) rfl rfl rfl rfl rfl (Nat.le_of_ble_eq_true rfl) rfl dX5_save_46 rfl ?_
          refine zj_iconst 50 C dX5_save_49 rfl ?_
          refine zj_istore_n 51 [(1, .int (zI 0)), (0, .ref q5)] C dX5_save_50 rfl rfl (by decide) rfl ?_
          refine zj_lv [1, 0] [(0, .ref q5), (1, .int (zI 0))] rfl ?_
          refine zj_ws (ws' := [(q5, .inr (5, [.int (zI th), .ref m0, .ref m1, .int (zI 5), .ref m2, .int (zI ty), .ref m3, .ref m4, .ref m5, .ref m6, .ref m7, .ref m8, .int (zI pg), .int (zI rw), .int (zI un), .ref m9, .int (zI pm), .int (zI sp), .int (zI wr), .long ha])), (m0, .inl (cI, 74, .inl (zA Z1))), (m1, .inl (cI, 444, .inl (zA g3)))]) (by rw [show sm - 1 = 5 by omega]) ?_
          exact hL51 (75) 0 5 g3 g3 (by omega) (Or.inl ⟨by omega, rfl, fun x x1 x2 => hg3 x x1 (by omega)⟩) (fun x => by rw [if_neg (by omega)]) (by omega)
        · skip
          refine zj_aload_n 19 0 C dX5_save_18 rfl rfl rfl ?_
          refine zj_get 22 0 2 C (T := TX5) im_X5_save_5 fl_X5_save_13 rfl rfl (by decide) rfl rfl dX5_save_19 rfl ?_
          refine zj_iload_n 23 1 C dX5_save_22 rfl rfl rfl ?_
          refine zj_aload_n 24 0 C dX5_save_23 rfl rfl rfl ?_
          refine zj_get 27 0 2 C (T := TX5) im_X5_save_5 fl_X5_save_13 rfl rfl (by decide) rfl rfl dX5_save_24 rfl ?_
          refine zj_iload_n 28 1 C dX5_save_27 rfl rfl rfl ?_
          refine zj_bipush 30 C dX5_save_28 rfl rfl ?_
          refine zj_iadd 31 C dX5_save_30 rfl ?_
          refine zj_iald 32 2 C (by omega) (by omega) rfl rfl dX5_save_31 rfl ?_
          refine zj_iast 33 2 [(q5, .inr (5, [.int (zI th), .ref m0, .ref m1, .int (zI sm), .ref m2, .int (zI ty), .ref m3, .ref m4, .ref m5, .ref m6, .ref m7, .ref m8, .int (zI pg), .int (zI rw), .int (zI un), .ref m9, .int (zI pm), .int (zI sp), .int (zI wr), .long ha])), (m0, .inl (cI, 74, .inl (zA Z1))), (m1, .inl (cI, 444, .inl (zA (zU g3 k (g3 (k + 74))))))] C (by omega) (by omega) rfl rfl rfl dX5_save_32 rfl ?_
          refine zj_iinc 36 1 [(1, .int (zI (k + 1))), (0, .ref q5)] C dX5_save_33 rfl rfl (by decide) rfl ?_
          refine zj_goto 11 C dX5_save_36 (by decide) ?_
          refine zj_lv [1, 0] [(0, .ref q5), (1, .int (zI (k + 1)))] rfl ?_
          exact ih (k + 1) (zU g3 k (g3 (k + 74))) (by omega) (fun x h1 h2 => by by_cases e : x = k; (subst e; rw [zU_eq]; exact hg4 _ (by omega)); rw [zU_ne _ _ e]; exact hg3 x h1 (by omega)) (fun x h1 => by rw [zU_ne _ _ (by omega)]; exact hg4 x (by omega)) (by omega)
    refine zj_lv [1, 0] [(0, .ref q5), (1, .int (zI 0))] rfl ?_
    exact hL11 (371) 0 S1 (by omega) (fun x h1 h2 => absurd h2 (by omega)) (fun x _ => rfl) (by omega)

theorem fl_X5_insert_7 : Cond.fieldLink RX5 7 "SplashPagesModel" "z" "[I" ∈ wsX5_insert := by decide +kernel
theorem im_X5_insert_5 : ∀ w ∈ u_ws RX5 TX5 20, w ∈ wsX5_insert := by decide +kernel
abbrev rm_X5_insert : Room := { frames := 1, cells := 0, slots := 0, locals := 23 }
set_option maxRecDepth 100000 in
set_option maxHeartbeats 4000000 in
theorem c_X5_insert (l : Launch) (D : va_G) (cI cS cJ : ClassId) (q5 : Nat) (m0 : Nat) (m1 : Nat) (m2 : Nat) (m3 : Nat) (m4 : Nat) (m5 : Nat) (m6 : Nat) (m7 : Nat) (m8 : Nat) (m9 : Nat) (th : Int) (sm : Int) (ty : Int) (pg : Int) (rw : Int) (un : Int) (pm : Int) (sp : Int) (wr : Int) (ha : Int64) (Z1 : Int → Int) (n1 : Int) (sg : Int) (K1 : Int → Int) (W1 : Int → Int) (T1 : Int → Int) (j1 : Int) (k9 : Int) (w9 : Int) (t9 : Int) (hn : 0 ≤ n1 ∧ n1 < 24) (hz : zRel n1 sg K1 W1 T1 Z1) (hj : 0 ≤ j1 ∧ j1 ≤ n1) : zMv l yX5_insert wsX5_insert rm_X5_insert D (zTy cI cS cJ) [.ref q5, .int (zI j1), .int (zI k9), .int (zI w9), .int (zI t9)] [(q5, .inr (5, [.int (zI th), .ref m0, .ref m1, .int (zI sm), .ref m2, .int (zI ty), .ref m3, .ref m4, .ref m5, .ref m6, .ref m7, .ref m8, .int (zI pg), .int (zI rw), .int (zI un), .ref m9, .int (zI pm), .int (zI sp), .int (zI wr), .long ha])), (m0, .inl (cI, 74, .inl (zA Z1)))] (fun w => ∃ (Z2 : Int → Int), zRel (n1 + 1) sg (zIns K1 j1 k9) (zIns W1 j1 w9) (zIns T1 j1 t9) Z2 ∧ w = [(q5, .inr (5, [.int (zI th), .ref m0, .ref m1, .int (zI sm), .ref m2, .int (zI ty), .ref m3, .ref m4, .ref m5, .ref m6, .ref m7, .ref m8, .int (zI pg), .int (zI rw), .int (zI un), .ref m9, .int (zI pm), .int (zI sp), .int (zI wr), .long ha])), (m0, .inl (cI, 74, .inl (zA Z2)))]) 0 0 := by
  intro sz
  refine zMet_of (Qc := fun A => va_Qv _ (zB D (zTy cI cS cJ) A) A) RX5 [(0, .ref q5), (1, .int (zI j1)), (2, .int (zI k9)), (3, .int (zI w9)), (4, .int (zI t9))] rfl (by decide +kernel) rfl (Nat.le_of_ble_eq_true rfl) rfl ?_ sz
  intro p e s m args below meth c A Q hQ C hr hini
  have hz1 := hz.1
  refine zj_aload_n 1 0 C dX5_insert_0 rfl rfl rfl ?_
  refine zj_get 4 0 1 C (T := TX5) im_X5_insert_5 fl_X5_insert_7 rfl rfl (by decide) rfl rfl dX5_insert_1 rfl ?_
  refine zj_iconst 5 C dX5_insert_4 rfl ?_
  refine zj_iald 6 1 C (by omega) (by omega) rfl rfl dX5_insert_5 rfl ?_
  refine zj_istore 8 [(5, .int (zI (Z1 1))), (0, .ref q5), (1, .int (zI j1)), (2, .int (zI k9)), (3, .int (zI w9)), (4, .int (zI t9))] C dX5_insert_6 rfl (by decide) rfl ?_
  have hL8 : ∀ (N : Nat) (k : Int) (z3 : Int → Int), (j1 ≤ k ∧ k ≤ n1) → (∀ x, z3 x = if 2 + 3 * (k + 1) ≤ x ∧ x < 2 + 3 * (n1 + 1) then Z1 (x - 3) else Z1 x) → (k - j1 < N) → zJ p l e rm_X5_insert s m args below meth c Q D A 6 [(q5, .inr (5, [.int (zI th), .ref m0, .ref m1, .int (zI sm), .ref m2, .int (zI ty), .ref m3, .ref m4, .ref m5, .ref m6, .ref m7, .ref m8, .int (zI pg), .int (zI rw), .int (zI un), .ref m9, .int (zI pm), .int (zI sp), .int (zI wr), .long ha])), (m0, .inl (cI, 74, .inl (zA z3)))] 0 0 [(0, .ref q5), (1, .int (zI j1)), (2, .int (zI k9)), (3, .int (zI w9)), (4, .int (zI t9)), (5, .int (zI k))] 8 [] := by
    intro N
    induction N with
    | zero => intro k z3 hk hz3 hN; exact absurd hN (by omega)
    | succ N ih =>
      intro k z3 hk hz3 hN
      refine zj_iload 10 5 C dX5_insert_8 rfl rfl ?_
      refine zj_iload_n 11 1 C dX5_insert_10 rfl rfl rfl ?_
      refine zj_icmp_le 14 68 C (by omega) (by omega) dX5_insert_11 rfl (by decide) (fun h11 => ?_) (fun h11 => ?_)
      · skip
        refine zj_aload_n 69 0 C dX5_insert_68 rfl rfl rfl ?_
        refine zj_iload_n 70 1 C dX5_insert_69 rfl rfl rfl ?_
        refine zj_iconst 71 C dX5_insert_70 rfl ?_
        refine zj_iload_n 72 2 C dX5_insert_71 rfl rfl rfl ?_
        refine zj_cv 75 [0, 1] [] C (wr := []) (zr_V [0, 1] C (As := [.int (zI j1), .int (zI 0), .int (zI k9)]) (rest := []) (c_X5_lay l D cI cS cJ q5 m0 m1 m2 m3 m4 m5 m6 m7 m8 m9 th sm ty pg rw un pm sp wr ha z3 j1 0 k9 (by omega) (by omega)) (cwV 3 C.1.2.2.2.2 gX5_insert_X5_lay rfl rfl rfl (by decide +kernel) ⟨Nat.le_of_ble_eq_true rfl, Nat.le_of_ble_eq_true rfl⟩) rfl (by decide) 0 rfl rfl rfl rfl (Nat.le_of_ble_eq_true rfl) dX5_insert_72 ⟨Nat.le_of_ble_eq_true rfl, Nat.le_of_ble_eq_true rfl⟩) rfl rfl (by decide) (by decide) rfl (fun w_ hp_2 => ?_)
        obtain rfl := hp_2
        refine zj_ws (ws' := [(q5, .inr (5, [.int (zI th), .ref m0, .ref m1, .int (zI sm), .ref m2, .int (zI ty), .ref m3, .ref m4, .ref m5, .ref m6, .ref m7, .ref m8, .int (zI pg), .int (zI rw), .int (zI un), .ref m9, .int (zI pm), .int (zI sp), .int (zI wr), .long ha])), (m0, .inl (cI, 74, .inl (zA (zU z3 (2 + 3 * j1 + 0) k9))))]) rfl ?_
        refine zj_aload_n 76 0 C dX5_insert_75 rfl rfl rfl ?_
        refine zj_iload_n 77 1 C dX5_insert_76 rfl rfl rfl ?_
        refine zj_iconst 78 C dX5_insert_77 rfl ?_
        refine zj_iload_n 79 3 C dX5_insert_78 rfl rfl rfl ?_
        refine zj_cv 82 [0, 1] [] C (wr := []) (zr_V [0, 1] C (As := [.int (zI j1), .int (zI 1), .int (zI w9)]) (rest := []) (c_X5_lay l D cI cS cJ q5 m0 m1 m2 m3 m4 m5 m6 m7 m8 m9 th sm ty pg rw un pm sp wr ha (zU z3 (2 + 3 * j1 + 0) k9) j1 1 w9 (by omega) (by omega)) (cwV 3 C.1.2.2.2.2 gX5_insert_X5_lay rfl rfl rfl (by decide +kernel) ⟨Nat.le_of_ble_eq_true rfl, Nat.le_of_ble_eq_true rfl⟩) rfl (by decide) 0 rfl rfl rfl rfl (Nat.le_of_ble_eq_true rfl) dX5_insert_79 ⟨Nat.le_of_ble_eq_true rfl, Nat.le_of_ble_eq_true rfl⟩) rfl rfl (by decide) (by decide) rfl (fun w_ hp_4 => ?_)
        obtain rfl := hp_4
        refine zj_ws (ws' := [(q5, .inr (5, [.int (zI th), .ref m0, .ref m1, .int (zI sm), .ref m2, .int (zI ty), .ref m3, .ref m4, .ref m5, .ref m6, .ref m7, .ref m8, .int (zI pg), .int (zI rw), .int (zI un), .ref m9, .int (zI pm), .int (zI sp), .int (zI wr), .long ha])), (m0, .inl (cI, 74, .inl (zA (zU (zU z3 (2 + 3 * j1 + 0) k9) (2 + 3 * j1 + 1) w9))))]) rfl ?_
        refine zj_aload_n 83 0 C dX5_insert_82 rfl rfl rfl ?_
        refine zj_iload_n 84 1 C dX5_insert_83 rfl rfl rfl ?_
        refine zj_iconst 85 C dX5_insert_84 rfl ?_
        refine zj_iload 87 4 C dX5_insert_85 rfl rfl ?_
        refine zj_cv 90 [0, 1] [] C (wr := []) (zr_V [0, 1] C (As := [.int (zI j1), .int (zI 2), .int (zI t9)]) (rest := []) (c_X5_lay l D cI cS cJ q5 m0 m1 m2 m3 m4 m5 m6 m7 m8 m9 th sm ty pg rw un pm sp wr ha (zU (zU z3 (2 + 3 * j1 + 0) k9) (2 + 3 * j1 + 1) w9) j1 2 t9 (by omega) (by omega)) (cwV 3 C.1.2.2.2.2 gX5_insert_X5_lay rfl rfl rfl (by decide +kernel) ⟨Nat.le_of_ble_eq_true rfl, Nat.le_of_ble_eq_true rfl⟩) rfl (by decide) 0 rfl rfl rfl rfl (Nat.le_of_ble_eq_true rfl) dX5_insert_87 ⟨Nat.le_of_ble_eq_true rfl, Nat.le_of_ble_eq_true rfl⟩) rfl rfl (by decide) (by decide) rfl (fun w_ hp_6 => ?_)
        obtain rfl := hp_6
        refine zj_ws (ws' := [(q5, .inr (5, [.int (zI th), .ref m0, .ref m1, .int (zI sm), .ref m2, .int (zI ty), .ref m3, .ref m4, .ref m5, .ref m6, .ref m7, .ref m8, .int (zI pg), .int (zI rw), .int (zI un), .ref m9, .int (zI pm), .int (zI sp), .int (zI wr), .long ha])), (m0, .inl (cI, 74, .inl (zA (zU (zU (zU z3 (2 + 3 * j1 + 0) k9) (2 + 3 * j1 + 1) w9) (2 + 3 * j1 + 2) t9))))]) rfl ?_
        refine zj_aload_n 91 0 C dX5_insert_90 rfl rfl rfl ?_
        refine zj_get 94 0 1 C (T := TX5) im_X5_insert_5 fl_X5_insert_7 rfl rfl (by decide) rfl rfl dX5_insert_91 rfl ?_
        refine zj_iconst 95 C dX5_insert_94 rfl ?_
        refine zj_dup2 96 C dX5_insert_95 rfl rfl rfl ?_
        refine zj_iald 97 1 C (by omega) (by omega) rfl rfl dX5_insert_96 rfl ?_
        refine zj_iconst 98 C dX5_insert_97 rfl ?_
        refine zj_iadd 99 C dX5_insert_98 rfl ?_
        refine zj_iast 100 1 [(q5, .inr (5, [.int (zI th), .ref m0, .ref m1, .int (zI sm), .ref m2, .int (zI ty), .ref m3, .ref m4, .ref m5, .ref m6, .ref m7, .ref m8, .int (zI pg), .int (zI rw), .int (zI un), .ref m9, .int (zI pm), .int (zI sp), .int (zI wr), .long ha])), (m0, .inl (cI, 74, .inl (zA (zU (zU (zU (zU z3 (2 + 3 * j1 + 0) k9) (2 + 3 * j1 + 1) w9) (2 + 3 * j1 + 2) t9) 1 (((zU (zU (zU z3 (2 + 3 * j1 + 0) k9) (2 + 3 * j1 + 1) w9) (2 + 3 * j1 + 2) t9) 1) + 1)))))] C (by omega) (by omega) rfl rfl rfl dX5_insert_99 rfl ?_
        subst hQ
        exact zj_return C hr ⟨(zU (zU (zU (zU z3 (2 + 3 * j1 + 0) k9) (2 + 3 * j1 + 1) w9) (2 + 3 * j1 + 2) t9) 1 (((zU (zU (zU z3 (2 + 3 * j1 + 0) k9) (2 + 3 * j1 + 1) w9) (2 + 3 * j1 + 2) t9) 1) + 1)), (zRel_i hz hj (by rw [zU_eq, zU_ne _ _ (by omega), zU_ne _ _ (by omega), zU_ne _ _ (by omega), hz3, if_neg (by omega), hz1]) (by rw [zU_ne _ _ (by omega), zU_ne _ _ (by omega), zU_ne _ _ (by omega), zU_ne _ _ (by omega), hz3, if_neg (by omega)]) (by rw [zU_ne _ _ (by omega), zU_ne _ _ (by omega), zU_ne _ _ (by omega), zU_eq]) (by rw [zU_ne _ _ (by omega), zU_ne _ _ (by omega), zU_eq]) (by rw [zU_ne _ _ (by omega), zU_eq]) (fun x x1 x2 x3 => by rw [zU_ne _ _ (by omega), zU_ne _ _ (by omega), zU_ne _ _ (by omega), zU_ne _ _ (by omega), hz3, show k = j1 by omega]; by_cases e : 2 + 3 * (j1 + 1) ≤ x; (rw [if_pos e, if_pos ⟨e, x2⟩]); (rw [if_neg e, if_neg (fun q => e q.1)]))), rfl⟩ (by decide) (by decide) dX5_insert_100
      · skip
        refine zj_aload_n 15 0 C dX5_insert_14 rfl rfl rfl ?_
        refine zj_iload 17 5 C dX5_insert_15 rfl rfl ?_
        refine zj_iconst 18 C dX5_insert_17 rfl ?_
        refine zj_aload_n 19 0 C dX5_insert_18 rfl rfl rfl ?_
        refine zj_iload 21 5 C dX5_insert_19 rfl rfl ?_
        refine zj_iconst 22 C dX5_insert_21 rfl ?_
        refine zj_isub 23 C dX5_insert_22 rfl ?_
        refine zj_iconst 24 C dX5_insert_23 rfl ?_
        refine zj_ci 27 [0, 1] [] C (wr := []) (zr_V [0, 1] C (As := [.int (zI (k - 1)), .int (zI 0)]) (rest := [.int (zI 0), .int (zI k), .ref q5]) (c_X5_of l D cI cS cJ q5 m0 m1 m2 m3 m4 m5 m6 m7 m8 m9 th sm ty pg rw un pm sp wr ha z3 (k - 1) 0 (by omega) (by omega)) (cwV 2 C.1.2.2.2.2 gX5_insert_X5_of rfl rfl rfl (by decide +kernel) ⟨Nat.le_of_ble_eq_true rfl, Nat.le_of_ble_eq_true rfl⟩) rfl (by decide) 0 rfl rfl rfl rfl (Nat.le_of_ble_eq_true rfl) dX5_insert_24 ⟨Nat.le_of_ble_eq_true rfl, Nat.le_of_ble_eq_true rfl⟩) rfl rfl (by decide) (by decide) rfl (fun r_7 w_ hp_8 => ?_)
        obtain ⟨rfl, rfl⟩ := hp_8
        refine zj_ws (ws' := [(q5, .inr (5, [.int (zI th), .ref m0, .ref m1, .int (zI sm), .ref m2, .int (zI ty), .ref m3, .ref m4, .ref m5, .ref m6, .ref m7, .ref m8, .int (zI pg), .int (zI rw), .int (zI un), .ref m9, .int (zI pm), .int (zI sp), .int (zI wr), .long ha])), (m0, .inl (cI, 74, .inl (zA z3)))]) rfl ?_
        refine zj_cv 30 [0, 1] [] C (wr := []) (zr_V [0, 1] C (As := [.int (zI k), .int (zI 0), .int (zI (z3 (2 + 3 * (k - 1) + 0)))]) (rest := []) (c_X5_lay l D cI cS cJ q5 m0 m1 m2 m3 m4 m5 m6 m7 m8 m9 th sm ty pg rw un pm sp wr ha z3 k 0 (z3 (2 + 3 * (k - 1) + 0)) (by omega) (by omega)) (cwV 3 C.1.2.2.2.2 gX5_insert_X5_lay rfl rfl rfl (by decide +kernel) ⟨Nat.le_of_ble_eq_true rfl, Nat.le_of_ble_eq_true rfl⟩) rfl (by decide) 0 rfl rfl rfl rfl (Nat.le_of_ble_eq_true rfl) dX5_insert_27 ⟨Nat.le_of_ble_eq_true rfl, Nat.le_of_ble_eq_true rfl⟩) rfl rfl (by decide) (by decide) rfl (fun w_ hp_10 => ?_)
        obtain rfl := hp_10
        refine zj_ws (ws' := [(q5, .inr (5, [.int (zI th), .ref m0, .ref m1, .int (zI sm), .ref m2, .int (zI ty), .ref m3, .ref m4, .ref m5, .ref m6, .ref m7, .ref m8, .int (zI pg), .int (zI rw), .int (zI un), .ref m9, .int (zI pm), .int (zI sp), .int (zI wr), .long ha])), (m0, .inl (cI, 74, .inl (zA (zU z3 (2 + 3 * k + 0) (z3 (2 + 3 * (k - 1) + 0))))))]) rfl ?_
        refine zj_aload_n 31 0 C dX5_insert_30 rfl rfl rfl ?_
        refine zj_iload 33 5 C dX5_insert_31 rfl rfl ?_
        refine zj_iconst 34 C dX5_insert_33 rfl ?_
        refine zj_aload_n 35 0 C dX5_insert_34 rfl rfl rfl ?_
        refine zj_iload 37 5 C dX5_insert_35 rfl rfl ?_
        refine zj_iconst 38 C dX5_insert_37 rfl ?_
        refine zj_isub 39 C dX5_insert_38 rfl ?_
        refine zj_iconst 40 C dX5_insert_39 rfl ?_
        refine zj_ci 43 [0, 1] [] C (wr := []) (zr_V [0, 1] C (As := [.int (zI (k - 1)), .int (zI 1)]) (rest := [.int (zI 1), .int (zI k), .ref q5]) (c_X5_of l D cI cS cJ q5 m0 m1 m2 m3 m4 m5 m6 m7 m8 m9 th sm ty pg rw un pm sp wr ha (zU z3 (2 + 3 * k + 0) (z3 (2 + 3 * (k - 1) + 0))) (k - 1) 1 (by omega) (by omega)) (cwV 2 C.1.2.2.2.2 gX5_insert_X5_of rfl rfl rfl (by decide +kernel) ⟨Nat.le_of_ble_eq_true rfl, Nat.le_of_ble_eq_true rfl⟩) rfl (by decide) 0 rfl rfl rfl rfl (Nat.le_of_ble_eq_true rfl) dX5_insert_40 ⟨Nat.le_of_ble_eq_true rfl, Nat.le_of_ble_eq_true rfl⟩) rfl rfl (by decide) (by decide) rfl (fun r_11 w_ hp_12 => ?_)
        obtain ⟨rfl, rfl⟩ := hp_12
        refine zj_ws (ws' := [(q5, .inr (5, [.int (zI th), .ref m0, .ref m1, .int (zI sm), .ref m2, .int (zI ty), .ref m3, .ref m4, .ref m5, .ref m6, .ref m7, .ref m8, .int (zI pg), .int (zI rw), .int (zI un), .ref m9, .int (zI pm), .int (zI sp), .int (zI wr), .long ha])), (m0, .inl (cI, 74, .inl (zA (zU z3 (2 + 3 * k + 0) (z3 (2 + 3 * (k - 1) + 0))))))]) rfl ?_
        refine zj_cv 46 [0, 1] [] C (wr := []) (zr_V [0, 1] C (As := [.int (zI k), .int (zI 1), .int (zI ((zU z3 (2 + 3 * k + 0) (z3 (2 + 3 * (k - 1) + 0))) (2 + 3 * (k - 1) + 1)))]) (rest := []) (c_X5_lay l D cI cS cJ q5 m0 m1 m2 m3 m4 m5 m6 m7 m8 m9 th sm ty pg rw un pm sp wr ha (zU z3 (2 + 3 * k + 0) (z3 (2 + 3 * (k - 1) + 0))) k 1 ((zU z3 (2 + 3 * k + 0) (z3 (2 + 3 * (k - 1) + 0))) (2 + 3 * (k - 1) + 1)) (by omega) (by omega)) (cwV 3 C.1.2.2.2.2 gX5_insert_X5_lay rfl rfl rfl (by decide +kernel) ⟨Nat.le_of_ble_eq_true rfl, Nat.le_of_ble_eq_true rfl⟩) rfl (by decide) 0 rfl rfl rfl rfl (Nat.le_of_ble_eq_true rfl) dX5_insert_43 ⟨Nat.le_of_ble_eq_true rfl, Nat.le_of_ble_eq_true rfl⟩) rfl rfl (by decide) (by decide) rfl (fun w_ hp_14 => ?_)
        obtain rfl := hp_14
        refine zj_ws (ws' := [(q5, .inr (5, [.int (zI th), .ref m0, .ref m1, .int (zI sm), .ref m2, .int (zI ty), .ref m3, .ref m4, .ref m5, .ref m6, .ref m7, .ref m8, .int (zI pg), .int (zI rw), .int (zI un), .ref m9, .int (zI pm), .int (zI sp), .int (zI wr), .long ha])), (m0, .inl (cI, 74, .inl (zA (zU (zU z3 (2 + 3 * k + 0) (z3 (2 + 3 * (k - 1) + 0))) (2 + 3 * k + 1) ((zU z3 (2 + 3 * k + 0) (z3 (2 + 3 * (k - 1) + 0))) (2 + 3 * (k - 1) + 1))))))]) rfl ?_
        refine zj_aload_n 47 0 C dX5_insert_46 rfl rfl rfl ?_
        refine zj_iload 49 5 C dX5_insert_47 rfl rfl ?_
        refine zj_iconst 50 C dX5_insert_49 rfl ?_
        refine zj_aload_n 51 0 C dX5_insert_50 rfl rfl rfl ?_
        refine zj_iload 53 5 C dX5_insert_51 rfl rfl ?_
        refine zj_iconst 54 C dX5_insert_53 rfl ?_
        refine zj_isub 55 C dX5_insert_54 rfl ?_
        refine zj_iconst 56 C dX5_insert_55 rfl ?_
        refine zj_ci 59 [0, 1] [] C (wr := []) (zr_V [0, 1] C (As := [.int (zI (k - 1)), .int (zI 2)]) (rest := [.int (zI 2), .int (zI k), .ref q5]) (c_X5_of l D cI cS cJ q5 m0 m1 m2 m3 m4 m5 m6 m7 m8 m9 th sm ty pg rw un pm sp wr ha (zU (zU z3 (2 + 3 * k + 0) (z3 (2 + 3 * (k - 1) + 0))) (2 + 3 * k + 1) ((zU z3 (2 + 3 * k + 0) (z3 (2 + 3 * (k - 1) + 0))) (2 + 3 * (k - 1) + 1))) (k - 1) 2 (by omega) (by omega)) (cwV 2 C.1.2.2.2.2 gX5_insert_X5_of rfl rfl rfl (by decide +kernel) ⟨Nat.le_of_ble_eq_true rfl, Nat.le_of_ble_eq_true rfl⟩) rfl (by decide) 0 rfl rfl rfl rfl (Nat.le_of_ble_eq_true rfl) dX5_insert_56 ⟨Nat.le_of_ble_eq_true rfl, Nat.le_of_ble_eq_true rfl⟩) rfl rfl (by decide) (by decide) rfl (fun r_15 w_ hp_16 => ?_)
        obtain ⟨rfl, rfl⟩ := hp_16
        refine zj_ws (ws' := [(q5, .inr (5, [.int (zI th), .ref m0, .ref m1, .int (zI sm), .ref m2, .int (zI ty), .ref m3, .ref m4, .ref m5, .ref m6, .ref m7, .ref m8, .int (zI pg), .int (zI rw), .int (zI un), .ref m9, .int (zI pm), .int (zI sp), .int (zI wr), .long ha])), (m0, .inl (cI, 74, .inl (zA (zU (zU z3 (2 + 3 * k + 0) (z3 (2 + 3 * (k - 1) + 0))) (2 + 3 * k + 1) ((zU z3 (2 + 3 * k + 0) (z3 (2 + 3 * (k - 1) + 0))) (2 + 3 * (k - 1) + 1))))))]) rfl ?_
        refine zj_cv 62 [0, 1] [] C (wr := []) (zr_V [0, 1] C (As := [.int (zI k), .int (zI 2), .int (zI ((zU (zU z3 (2 + 3 * k + 0) (z3 (2 + 3 * (k - 1) + 0))) (2 + 3 * k + 1) ((zU z3 (2 + 3 * k + 0) (z3 (2 + 3 * (k - 1) + 0))) (2 + 3 * (k - 1) + 1))) (2 + 3 * (k - 1) + 2)))]) (rest := []) (c_X5_lay l D cI cS cJ q5 m0 m1 m2 m3 m4 m5 m6 m7 m8 m9 th sm ty pg rw un pm sp wr ha (zU (zU z3 (2 + 3 * k + 0) (z3 (2 + 3 * (k - 1) + 0))) (2 + 3 * k + 1) ((zU z3 (2 + 3 * k + 0) (z3 (2 + 3 * (k - 1) + 0))) (2 + 3 * (k - 1) + 1))) k 2 ((zU (zU z3 (2 + 3 * k + 0) (z3 (2 + 3 * (k - 1) + 0))) (2 + 3 * k + 1) ((zU z3 (2 + 3 * k + 0) (z3 (2 + 3 * (k - 1) + 0))) (2 + 3 * (k - 1) + 1))) (2 + 3 * (k - 1) + 2)) (by omega) (by omega)) (cwV 3 C.1.2.2.2.2 gX5_insert_X5_lay rfl rfl rfl (by decide +kernel) ⟨Nat.le_of_ble_eq_true rfl, Nat.le_of_ble_eq_true rfl⟩) rfl (by decide) 0 rfl rfl rfl rfl (Nat.le_of_ble_eq_true rfl) dX5_insert_59 ⟨Nat.le_of_ble_eq_true rfl, Nat.le_of_ble_eq_true rfl⟩) rfl rfl (by decide) (by decide) rfl (fun w_ hp_18 => ?_)
        obtain rfl := hp_18
        refine zj_ws (ws' := [(q5, .inr (5, [.int (zI th), .ref m0, .ref m1, .int (zI sm), .ref m2, .int (zI ty), .ref m3, .ref m4, .ref m5, .ref m6, .ref m7, .ref m8, .int (zI pg), .int (zI rw), .int (zI un), .ref m9, .int (zI pm), .int (zI sp), .int (zI wr), .long ha])), (m0, .inl (cI, 74, .inl (zA (zU (zU (zU z3 (2 + 3 * k + 0) (z3 (2 + 3 * (k - 1) + 0))) (2 + 3 * k + 1) ((zU z3 (2 + 3 * k + 0) (z3 (2 + 3 * (k - 1) + 0))) (2 + 3 * (k - 1) + 1))) (2 + 3 * k + 2) ((zU (zU z3 (2 + 3 * k + 0) (z3 (2 + 3 * (k - 1) + 0))) (2 + 3 * k + 1) ((zU z3 (2 + 3 * k + 0) (z3 (2 + 3 * (k - 1) + 0))) (2 + 3 * (k - 1) + 1))) (2 + 3 * (k - 1) + 2))))))]) rfl ?_
        refine zj_iinc 65 5 [(5, .int (zI (k + (-1)))), (0, .ref q5), (1, .int (zI j1)), (2, .int (zI k9)), (3, .int (zI w9)), (4, .int (zI t9))] C dX5_insert_62 rfl rfl (by decide) rfl ?_
        refine zj_goto 8 C dX5_insert_65 (by decide) ?_
        refine zj_lv [1, 2, 3, 4, 5, 0] [(0, .ref q5), (1, .int (zI j1)), (2, .int (zI k9)), (3, .int (zI w9)), (4, .int (zI t9)), (5, .int (zI (k + (-1))))] rfl ?_
        exact ih (k + (-1)) (zU (zU (zU z3 (2 + 3 * k + 0) (z3 (2 + 3 * (k - 1) + 0))) (2 + 3 * k + 1) ((zU z3 (2 + 3 * k + 0) (z3 (2 + 3 * (k - 1) + 0))) (2 + 3 * (k - 1) + 1))) (2 + 3 * k + 2) ((zU (zU z3 (2 + 3 * k + 0) (z3 (2 + 3 * (k - 1) + 0))) (2 + 3 * k + 1) ((zU z3 (2 + 3 * k + 0) (z3 (2 + 3 * (k - 1) + 0))) (2 + 3 * (k - 1) + 1))) (2 + 3 * (k - 1) + 2))) (by omega) (fun x => by have h := zSh_i (k := k) (n := n1) (by omega) hz3 x; rw [show 2 + 3 * (k + -1 + 1) = 2 + 3 * k by omega]; exact h) (by omega)
  refine zj_lv [1, 2, 3, 4, 5, 0] [(0, .ref q5), (1, .int (zI j1)), (2, .int (zI k9)), (3, .int (zI w9)), (4, .int (zI t9)), (5, .int (zI (Z1 1)))] rfl ?_
  exact hL8 (25) (Z1 1) Z1 (by omega) (fun x => by rw [if_neg (by omega)]) (by omega)

theorem fl_X5_put_7 : Cond.fieldLink RX5 7 "SplashPagesModel" "z" "[I" ∈ wsX5_put := by decide +kernel
theorem im_X5_put_5 : ∀ w ∈ u_ws RX5 TX5 20, w ∈ wsX5_put := by decide +kernel
theorem fl_X5_put_40 : Cond.fieldLink RX5 40 "SplashPagesModel" "thrown" "I" ∈ wsX5_put := by decide +kernel
abbrev rm_X5_put : Room := { frames := 2, cells := 0, slots := 0, locals := 48 }
set_option maxRecDepth 100000 in
set_option maxHeartbeats 4000000 in
theorem c_X5_put (l : Launch) (D : va_G) (cI cS cJ : ClassId) (q5 : Nat) (m0 : Nat) (m1 : Nat) (m2 : Nat) (m3 : Nat) (m4 : Nat) (m5 : Nat) (m6 : Nat) (m7 : Nat) (m8 : Nat) (m9 : Nat) (th : Int) (sm : Int) (ty : Int) (pg : Int) (rw : Int) (un : Int) (pm : Int) (sp : Int) (wr : Int) (ha : Int64) (Z1 : Int → Int) (S1 : Int → Int) (n1 : Int) (sg : Int) (K1 : Int → Int) (W1 : Int → Int) (T1 : Int → Int) (j1 : Int) (k9 : Int) (w9 : Int) (t9 : Int) (hst : zOk n1 sg K1 W1 T1) (hz : zRel n1 sg K1 W1 T1 Z1) (hsm : 0 ≤ sm ∧ sm ≤ 6) (hj : -2147483648 ≤ j1 ∧ j1 < 2147483648) (hk9 : -2147483648 ≤ k9 ∧ k9 < 2147483648) (hw9 : -2147483648 ≤ w9 ∧ w9 < 2147483648) (ht9 : -2147483648 ≤ t9 ∧ t9 < 2147483648) : zMi l yX5_put wsX5_put rm_X5_put D (zTy cI cS cJ) [.ref q5, .int (zI j1), .int (zI k9), .int (zI w9), .int (zI t9)] [(q5, .inr (5, [.int (zI th), .ref m0, .ref m1, .int (zI sm), .ref m2, .int (zI ty), .ref m3, .ref m4, .ref m5, .ref m6, .ref m7, .ref m8, .int (zI pg), .int (zI rw), .int (zI un), .ref m9, .int (zI pm), .int (zI sp), .int (zI wr), .long ha])), (m0, .inl (cI, 74, .inl (zA Z1))), (m1, .inl (cI, 444, .inl (zA S1)))] (fun r w => ∃ (Z2 : Int → Int), zRel ((zIt (zKt n1 j1 k9 w9 t9) (n1 + 1, sg, zIns K1 j1 k9, zIns W1 j1 w9, zIns T1 j1 t9) (n1, sg, K1, W1, T1)).1) ((zIt (zKt n1 j1 k9 w9 t9) (n1 + 1, sg, zIns K1 j1 k9, zIns W1 j1 w9, zIns T1 j1 t9) (n1, sg, K1, W1, T1)).2.1) ((zIt (zKt n1 j1 k9 w9 t9) (n1 + 1, sg, zIns K1 j1 k9, zIns W1 j1 w9, zIns T1 j1 t9) (n1, sg, K1, W1, T1)).2.2.1) ((zIt (zKt n1 j1 k9 w9 t9) (n1 + 1, sg, zIns K1 j1 k9, zIns W1 j1 w9, zIns T1 j1 t9) (n1, sg, K1, W1, T1)).2.2.2.1) ((zIt (zKt n1 j1 k9 w9 t9) (n1 + 1, sg, zIns K1 j1 k9, zIns W1 j1 w9, zIns T1 j1 t9) (n1, sg, K1, W1, T1)).2.2.2.2) Z2 ∧ r = zI (zIt (zKt n1 j1 k9 w9 t9) (n1 + 1) 0) ∧ w = [(q5, .inr (5, [.int (zI (zKt n1 j1 k9 w9 t9)), .ref m0, .ref m1, .int (zI (zIt (zKt n1 j1 k9 w9 t9) (zHn sm) sm)), .ref m2, .int (zI ty), .ref m3, .ref m4, .ref m5, .ref m6, .ref m7, .ref m8, .int (zI pg), .int (zI rw), .int (zI un), .ref m9, .int (zI pm), .int (zI sp), .int (zI wr), .long ha])), (m0, .inl (cI, 74, .inl (zA Z2))), (m1, .inl (cI, 444, .inl (zA (zIt (zKt n1 j1 k9 w9 t9) (zSvd S1 Z1 sm) S1))))]) 0 0 := by
  intro sz
  refine zMet_of (Qc := fun A => va_Qi _ (zB D (zTy cI cS cJ) A) A) RX5 [(0, .ref q5), (1, .int (zI j1)), (2, .int (zI k9)), (3, .int (zI w9)), (4, .int (zI t9))] rfl (by decide +kernel) rfl (Nat.le_of_ble_eq_true rfl) rfl ?_ sz
  intro p e s m args below meth c A Q hQ C hr hini
  have hn := hst.1
  have hz1 := hz.1
  have hz0 := hz.2.1
  refine zj_aload_n 1 0 C dX5_put_0 rfl rfl rfl ?_
  refine zj_iload_n 2 1 C dX5_put_1 rfl rfl rfl ?_
  refine zj_iconst 3 C dX5_put_2 rfl ?_
  refine zj_aload_n 4 0 C dX5_put_3 rfl rfl rfl ?_
  refine zj_get 7 0 1 C (T := TX5) im_X5_put_5 fl_X5_put_7 rfl rfl (by decide) rfl rfl dX5_put_4 rfl ?_
  refine zj_iconst 8 C dX5_put_7 rfl ?_
  refine zj_iald 9 1 C (by omega) (by omega) rfl rfl dX5_put_8 rfl ?_
  refine zj_ci 12 [] [0, 1, 2] C (wr := [(q5, .inr (5, [.int (zI th), .ref m0, .ref m1, .int (zI sm), .ref m2, .int (zI ty), .ref m3, .ref m4, .ref m5, .ref m6, .ref m7, .ref m8, .int (zI pg), .int (zI rw), .int (zI un), .ref m9, .int (zI pm), .int (zI sp), .int (zI wr), .long ha])), (m0, .inl (cI, 74, .inl (zA Z1))), (m1, .inl (cI, 444, .inl (zA S1)))]) (zr_S [] C (As := [.int (zI j1), .int (zI 0), .int (zI (Z1 1))]) (rest := [.ref q5]) (c_X5_in l D cI cS cJ j1 0 (Z1 1) (by omega) (by omega) (by omega)) (va_cwS 3 C.1.2.2.2.2 gX5_put_X5_in rfl rfl rfl (by decide +kernel) ⟨Nat.le_of_ble_eq_true rfl, Nat.le_of_ble_eq_true rfl⟩) rfl (by decide) rfl rfl (Nat.le_of_ble_eq_true rfl) dX5_put_9 ⟨Nat.le_of_ble_eq_true rfl, Nat.le_of_ble_eq_true rfl⟩) rfl rfl (by decide) (by decide) rfl (fun r_1 w_ hp_2 => ?_)
  obtain ⟨r1_3, fa, rfl, rfl⟩ := hp_2
  refine zj_ws (ws' := [(q5, .inr (5, [.int (zI th), .ref m0, .ref m1, .int (zI sm), .ref m2, .int (zI ty), .ref m3, .ref m4, .ref m5, .ref m6, .ref m7, .ref m8, .int (zI pg), .int (zI rw), .int (zI un), .ref m9, .int (zI pm), .int (zI sp), .int (zI wr), .long ha])), (m0, .inl (cI, 74, .inl (zA Z1))), (m1, .inl (cI, 444, .inl (zA S1)))]) rfl ?_
  refine zj_if_ne 15 19 C (by omega) dX5_put_12 rfl (by decide) (fun h_4 => ?_) (fun h_4 => ?_)
  · skip
    refine zj_iload_n 20 2 C dX5_put_19 rfl rfl rfl ?_
    refine zj_iconst 21 C dX5_put_20 rfl ?_
    refine zj_iconst 22 C dX5_put_21 rfl ?_
    refine zj_ci 25 [] [0, 1, 2] C (wr := [(q5, .inr (5, [.int (zI th), .ref m0, .ref m1, .int (zI sm), .ref m2, .int (zI ty), .ref m3, .ref m4, .ref m5, .ref m6, .ref m7, .ref m8, .int (zI pg), .int (zI rw), .int (zI un), .ref m9, .int (zI pm), .int (zI sp), .int (zI wr), .long ha])), (m0, .inl (cI, 74, .inl (zA Z1))), (m1, .inl (cI, 444, .inl (zA S1)))]) (zr_S [] C (As := [.int (zI k9), .int (zI 0), .int (zI 3)]) (rest := [.ref q5]) (c_X5_in l D cI cS cJ k9 0 3 (by omega) (by omega) (by omega)) (va_cwS 3 C.1.2.2.2.2 gX5_put_X5_in rfl rfl rfl (by decide +kernel) ⟨Nat.le_of_ble_eq_true rfl, Nat.le_of_ble_eq_true rfl⟩) rfl (by decide) rfl rfl (Nat.le_of_ble_eq_true rfl) dX5_put_22 ⟨Nat.le_of_ble_eq_true rfl, Nat.le_of_ble_eq_true rfl⟩) rfl rfl (by decide) (by decide) rfl (fun r_5 w_ hp_6 => ?_)
    obtain ⟨r1_7, fb, rfl, rfl⟩ := hp_6
    refine zj_ws (ws' := [(q5, .inr (5, [.int (zI th), .ref m0, .ref m1, .int (zI sm), .ref m2, .int (zI ty), .ref m3, .ref m4, .ref m5, .ref m6, .ref m7, .ref m8, .int (zI pg), .int (zI rw), .int (zI un), .ref m9, .int (zI pm), .int (zI sp), .int (zI wr), .long ha])), (m0, .inl (cI, 74, .inl (zA Z1))), (m1, .inl (cI, 444, .inl (zA S1)))]) rfl ?_
    refine zj_if_eq 28 37 C (by omega) dX5_put_25 rfl (by decide) (fun h_8 => ?_) (fun h_8 => ?_)
    · skip
      refine zj_iconst 38 C dX5_put_37 rfl ?_
      refine zj_goto 57 C dX5_put_38 (by decide) ?_
      have hkv : zKt n1 j1 k9 w9 t9 = 2 := by unfold zKt; (repeat' split) <;> omega
      refine zj_put 60 0 0 [(q5, .inr (5, [.int (zI 2), .ref m0, .ref m1, .int (zI sm), .ref m2, .int (zI ty), .ref m3, .ref m4, .ref m5, .ref m6, .ref m7, .ref m8, .int (zI pg), .int (zI rw), .int (zI un), .ref m9, .int (zI pm), .int (zI sp), .int (zI wr), .long ha])), (m0, .inl (cI, 74, .inl (zA Z1))), (m1, .inl (cI, 444, .inl (zA S1)))] C (T := TX5) tyX5 tyX5_ok nmX5 im_X5_put_5 fl_X5_put_40 rfl rfl (by decide) rfl rfl rfl rfl rfl (Nat.le_of_ble_eq_true rfl) rfl dX5_put_57 rfl ?_
      refine zj_aload_n 61 0 C dX5_put_60 rfl rfl rfl ?_
      refine zj_get 64 0 0 C (T := TX5) im_X5_put_5 fl_X5_put_40 rfl rfl (by decide) rfl rfl dX5_put_61 rfl ?_
      refine zj_if_le 67 69 C (by omega) dX5_put_64 rfl (by decide) (fun h_9 => ?_) (fun h_9 => ?_)
      · exact absurd h_9 (by omega)
      · skip
        refine zj_iconst 68 C dX5_put_67 rfl ?_
        refine zj_ws (ws' := [(q5, .inr (5, [.int (zI (zKt n1 j1 k9 w9 t9)), .ref m0, .ref m1, .int (zI (zIt (zKt n1 j1 k9 w9 t9) (zHn sm) sm)), .ref m2, .int (zI ty), .ref m3, .ref m4, .ref m5, .ref m6, .ref m7, .ref m8, .int (zI pg), .int (zI rw), .int (zI un), .ref m9, .int (zI pm), .int (zI sp), .int (zI wr), .long ha])), (m0, .inl (cI, 74, .inl (zA Z1))), (m1, .inl (cI, 444, .inl (zA (zIt (zKt n1 j1 k9 w9 t9) (zSvd S1 Z1 sm) S1))))]) (by rw [zIt_n (show ¬ zKt n1 j1 k9 w9 t9 = 0 by omega), zIt_n (show ¬ zKt n1 j1 k9 w9 t9 = 0 by omega), hkv]) ?_
        refine zj_st (st' := [.int (zI (zIt (zKt n1 j1 k9 w9 t9) (n1 + 1) 0))]) (by rw [zIt_n (show ¬ zKt n1 j1 k9 w9 t9 = 0 by omega)]) ?_
        subst hQ
        exact zj_ireturn C hr ⟨Z1, (by simp only [zIt_n (show ¬ zKt n1 j1 k9 w9 t9 = 0 by omega)]; exact hz), rfl, rfl⟩ (by decide) (by decide) dX5_put_68
    · skip
      refine zj_iload_n 29 3 C dX5_put_28 rfl rfl rfl ?_
      refine zj_iload 31 4 C dX5_put_29 rfl rfl ?_
      refine zj_ci 34 [] [0, 1, 2] C (wr := [(q5, .inr (5, [.int (zI th), .ref m0, .ref m1, .int (zI sm), .ref m2, .int (zI ty), .ref m3, .ref m4, .ref m5, .ref m6, .ref m7, .ref m8, .int (zI pg), .int (zI rw), .int (zI un), .ref m9, .int (zI pm), .int (zI sp), .int (zI wr), .long ha])), (m0, .inl (cI, 74, .inl (zA Z1))), (m1, .inl (cI, 444, .inl (zA S1)))]) (zr_S [] C (As := [.int (zI w9), .int (zI t9)]) (rest := [.ref q5]) (c_X5_isForm l D cI cS cJ w9 t9 (by omega) (by omega)) (va_cwS 2 C.1.2.2.2.2 gX5_put_X5_isForm rfl rfl rfl (by decide +kernel) ⟨Nat.le_of_ble_eq_true rfl, Nat.le_of_ble_eq_true rfl⟩) rfl (by decide) rfl rfl (Nat.le_of_ble_eq_true rfl) dX5_put_31 ⟨Nat.le_of_ble_eq_true rfl, Nat.le_of_ble_eq_true rfl⟩) rfl rfl (by decide) (by decide) rfl (fun r_10 w_ hp_11 => ?_)
      obtain ⟨r1_12, fc, rfl, rfl⟩ := hp_11
      refine zj_ws (ws' := [(q5, .inr (5, [.int (zI th), .ref m0, .ref m1, .int (zI sm), .ref m2, .int (zI ty), .ref m3, .ref m4, .ref m5, .ref m6, .ref m7, .ref m8, .int (zI pg), .int (zI rw), .int (zI un), .ref m9, .int (zI pm), .int (zI sp), .int (zI wr), .long ha])), (m0, .inl (cI, 74, .inl (zA Z1))), (m1, .inl (cI, 444, .inl (zA S1)))]) rfl ?_
      refine zj_if_ne 37 41 C (by omega) dX5_put_34 rfl (by decide) (fun h_13 => ?_) (fun h_13 => ?_)
      · skip
        refine zj_aload_n 42 0 C dX5_put_41 rfl rfl rfl ?_
        refine zj_get 45 0 1 C (T := TX5) im_X5_put_5 fl_X5_put_7 rfl rfl (by decide) rfl rfl dX5_put_42 rfl ?_
        refine zj_iconst 46 C dX5_put_45 rfl ?_
        refine zj_iald 47 1 C (by omega) (by omega) rfl rfl dX5_put_46 rfl ?_
        refine zj_bipush 49 C dX5_put_47 rfl rfl ?_
        refine zj_icmp_ne 52 56 C (by omega) (by omega) dX5_put_49 rfl (by decide) (fun h_14 => ?_) (fun h_14 => ?_)
        · skip
          refine zj_iconst 57 C dX5_put_56 rfl ?_
          have hkv : zKt n1 j1 k9 w9 t9 = 0 := by unfold zKt; (repeat' split) <;> omega
          refine zj_put 60 0 0 [(q5, .inr (5, [.int (zI 0), .ref m0, .ref m1, .int (zI sm), .ref m2, .int (zI ty), .ref m3, .ref m4, .ref m5, .ref m6, .ref m7, .ref m8, .int (zI pg), .int (zI rw), .int (zI un), .ref m9, .int (zI pm), .int (zI sp), .int (zI wr), .long ha])), (m0, .inl (cI, 74, .inl (zA Z1))), (m1, .inl (cI, 444, .inl (zA S1)))] C (T := TX5) tyX5 tyX5_ok nmX5 im_X5_put_5 fl_X5_put_40 rfl rfl (by decide) rfl rfl rfl rfl rfl (Nat.le_of_ble_eq_true rfl) rfl dX5_put_57 rfl ?_
          refine zj_aload_n 61 0 C dX5_put_60 rfl rfl rfl ?_
          refine zj_get 64 0 0 C (T := TX5) im_X5_put_5 fl_X5_put_40 rfl rfl (by decide) rfl rfl dX5_put_61 rfl ?_
          refine zj_if_le 67 69 C (by omega) dX5_put_64 rfl (by decide) (fun h_15 => ?_) (fun h_15 => ?_)
          · skip
            refine zj_aload_n 70 0 C dX5_put_69 rfl rfl rfl ?_
            refine zj_cv 73 [0, 1, 2] [] C (wr := []) (zr_V [0, 1, 2] C (As := []) (rest := []) (c_X5_save l D cI cS cJ q5 m0 m1 m2 m3 m4 m5 m6 m7 m8 m9 0 sm ty pg rw un pm sp wr ha Z1 S1 (by omega)) (cwV 0 C.1.2.2.2.2 gX5_put_X5_save rfl rfl rfl (by decide +kernel) ⟨Nat.le_of_ble_eq_true rfl, Nat.le_of_ble_eq_true rfl⟩) rfl (by decide) 0 rfl rfl rfl rfl (Nat.le_of_ble_eq_true rfl) dX5_put_70 ⟨Nat.le_of_ble_eq_true rfl, Nat.le_of_ble_eq_true rfl⟩) rfl rfl (by decide) (by decide) rfl (fun w_ hp_17 => ?_)
            obtain rfl := hp_17
            refine zj_ws (ws' := [(q5, .inr (5, [.int (zI 0), .ref m0, .ref m1, .int (zI (zHn sm)), .ref m2, .int (zI ty), .ref m3, .ref m4, .ref m5, .ref m6, .ref m7, .ref m8, .int (zI pg), .int (zI rw), .int (zI un), .ref m9, .int (zI pm), .int (zI sp), .int (zI wr), .long ha])), (m0, .inl (cI, 74, .inl (zA Z1))), (m1, .inl (cI, 444, .inl (zA (zSvd S1 Z1 sm))))]) rfl ?_
            refine zj_aload_n 74 0 C dX5_put_73 rfl rfl rfl ?_
            refine zj_iload_n 75 1 C dX5_put_74 rfl rfl rfl ?_
            refine zj_iload_n 76 2 C dX5_put_75 rfl rfl rfl ?_
            refine zj_iload_n 77 3 C dX5_put_76 rfl rfl rfl ?_
            refine zj_iload 79 4 C dX5_put_77 rfl rfl ?_
            refine zj_cv 82 [0, 1] [2] C (wr := [(m1, .inl (cI, 444, .inl (zA (zSvd S1 Z1 sm))))]) (zr_V [0, 1] C (As := [.int (zI j1), .int (zI k9), .int (zI w9), .int (zI t9)]) (rest := []) (c_X5_insert l D cI cS cJ q5 m0 m1 m2 m3 m4 m5 m6 m7 m8 m9 0 (zHn sm) ty pg rw un pm sp wr ha Z1 n1 sg K1 W1 T1 j1 k9 w9 t9 (by omega) hz (by omega)) (cwV 4 C.1.2.2.2.2 gX5_put_X5_insert rfl rfl rfl (by decide +kernel) ⟨Nat.le_of_ble_eq_true rfl, Nat.le_of_ble_eq_true rfl⟩) rfl (by decide) 0 rfl rfl rfl rfl (Nat.le_of_ble_eq_true rfl) dX5_put_79 ⟨Nat.le_of_ble_eq_true rfl, Nat.le_of_ble_eq_true rfl⟩) rfl rfl (by decide) (by decide) rfl (fun w_ hp_19 => ?_)
            obtain ⟨Zn, hzn, rfl⟩ := hp_19
            refine zj_ws (ws' := [(m1, .inl (cI, 444, .inl (zA (zSvd S1 Z1 sm)))), (q5, .inr (5, [.int (zI 0), .ref m0, .ref m1, .int (zI (zHn sm)), .ref m2, .int (zI ty), .ref m3, .ref m4, .ref m5, .ref m6, .ref m7, .ref m8, .int (zI pg), .int (zI rw), .int (zI un), .ref m9, .int (zI pm), .int (zI sp), .int (zI wr), .long ha])), (m0, .inl (cI, 74, .inl (zA Zn)))]) rfl ?_
            refine zj_aload_n 83 0 C dX5_put_82 rfl rfl rfl ?_
            refine zj_get 86 1 1 C (T := TX5) im_X5_put_5 fl_X5_put_7 rfl rfl (by decide) rfl rfl dX5_put_83 rfl ?_
            refine zj_iconst 87 C dX5_put_86 rfl ?_
            refine zj_iald 88 2 C (by omega) (by omega) rfl rfl dX5_put_87 rfl ?_
            refine zj_re [1, 2, 0] [(q5, .inr (5, [.int (zI 0), .ref m0, .ref m1, .int (zI (zHn sm)), .ref m2, .int (zI ty), .ref m3, .ref m4, .ref m5, .ref m6, .ref m7, .ref m8, .int (zI pg), .int (zI rw), .int (zI un), .ref m9, .int (zI pm), .int (zI sp), .int (zI wr), .long ha])), (m0, .inl (cI, 74, .inl (zA Zn))), (m1, .inl (cI, 444, .inl (zA (zSvd S1 Z1 sm))))] (by decide) rfl ?_
            refine zj_ws (ws' := [(q5, .inr (5, [.int (zI (zKt n1 j1 k9 w9 t9)), .ref m0, .ref m1, .int (zI (zIt (zKt n1 j1 k9 w9 t9) (zHn sm) sm)), .ref m2, .int (zI ty), .ref m3, .ref m4, .ref m5, .ref m6, .ref m7, .ref m8, .int (zI pg), .int (zI rw), .int (zI un), .ref m9, .int (zI pm), .int (zI sp), .int (zI wr), .long ha])), (m0, .inl (cI, 74, .inl (zA Zn))), (m1, .inl (cI, 444, .inl (zA (zIt (zKt n1 j1 k9 w9 t9) (zSvd S1 Z1 sm) S1))))]) (by rw [zIt_0 (show zKt n1 j1 k9 w9 t9 = 0 by omega), zIt_0 (show zKt n1 j1 k9 w9 t9 = 0 by omega), hkv]) ?_
            refine zj_st (st' := [.int (zI (zIt (zKt n1 j1 k9 w9 t9) (n1 + 1) 0))]) (by rw [zIt_0 (show zKt n1 j1 k9 w9 t9 = 0 by omega), hzn.1]) ?_
            subst hQ
            exact zj_ireturn C hr ⟨Zn, (by simp only [zIt_0 (show zKt n1 j1 k9 w9 t9 = 0 by omega)]; exact hzn), rfl, rfl⟩ (by decide) (by decide) dX5_put_88
          · exact absurd h_15 (by omega)
        · skip
          refine zj_iconst 53 C dX5_put_52 rfl ?_
          refine zj_goto 57 C dX5_put_53 (by decide) ?_
          have hkv : zKt n1 j1 k9 w9 t9 = 3 := by unfold zKt; (repeat' split) <;> omega
          refine zj_put 60 0 0 [(q5, .inr (5, [.int (zI 3), .ref m0, .ref m1, .int (zI sm), .ref m2, .int (zI ty), .ref m3, .ref m4, .ref m5, .ref m6, .ref m7, .ref m8, .int (zI pg), .int (zI rw), .int (zI un), .ref m9, .int (zI pm), .int (zI sp), .int (zI wr), .long ha])), (m0, .inl (cI, 74, .inl (zA Z1))), (m1, .inl (cI, 444, .inl (zA S1)))] C (T := TX5) tyX5 tyX5_ok nmX5 im_X5_put_5 fl_X5_put_40 rfl rfl (by decide) rfl rfl rfl rfl rfl (Nat.le_of_ble_eq_true rfl) rfl dX5_put_57 rfl ?_
          refine zj_aload_n 61 0 C dX5_put_60 rfl rfl rfl ?_
          refine zj_get 64 0 0 C (T := TX5) im_X5_put_5 fl_X5_put_40 rfl rfl (by decide) rfl rfl dX5_put_61 rfl ?_
          refine zj_if_le 67 69 C (by omega) dX5_put_64 rfl (by decide) (fun h_20 => ?_) (fun h_20 => ?_)
          · exact absurd h_20 (by omega)
          · skip
            refine zj_iconst 68 C dX5_put_67 rfl ?_
            refine zj_ws (ws' := [(q5, .inr (5, [.int (zI (zKt n1 j1 k9 w9 t9)), .ref m0, .ref m1, .int (zI (zIt (zKt n1 j1 k9 w9 t9) (zHn sm) sm)), .ref m2, .int (zI ty), .ref m3, .ref m4, .ref m5, .ref m6, .ref m7, .ref m8, .int (zI pg), .int (zI rw), .int (zI un), .ref m9, .int (zI pm), .int (zI sp), .int (zI wr), .long ha])), (m0, .inl (cI, 74, .inl (zA Z1))), (m1, .inl (cI, 444, .inl (zA (zIt (zKt n1 j1 k9 w9 t9) (zSvd S1 Z1 sm) S1))))]) (by rw [zIt_n (show ¬ zKt n1 j1 k9 w9 t9 = 0 by omega), zIt_n (show ¬ zKt n1 j1 k9 w9 t9 = 0 by omega), hkv]) ?_
            refine zj_st (st' := [.int (zI (zIt (zKt n1 j1 k9 w9 t9) (n1 + 1) 0))]) (by rw [zIt_n (show ¬ zKt n1 j1 k9 w9 t9 = 0 by omega)]) ?_
            subst hQ
            exact zj_ireturn C hr ⟨Z1, (by simp only [zIt_n (show ¬ zKt n1 j1 k9 w9 t9 = 0 by omega)]; exact hz), rfl, rfl⟩ (by decide) (by decide) dX5_put_68
      · skip
        refine zj_iconst 38 C dX5_put_37 rfl ?_
        refine zj_goto 57 C dX5_put_38 (by decide) ?_
        have hkv : zKt n1 j1 k9 w9 t9 = 2 := by unfold zKt; (repeat' split) <;> omega
        refine zj_put 60 0 0 [(q5, .inr (5, [.int (zI 2), .ref m0, .ref m1, .int (zI sm), .ref m2, .int (zI ty), .ref m3, .ref m4, .ref m5, .ref m6, .ref m7, .ref m8, .int (zI pg), .int (zI rw), .int (zI un), .ref m9, .int (zI pm), .int (zI sp), .int (zI wr), .long ha])), (m0, .inl (cI, 74, .inl (zA Z1))), (m1, .inl (cI, 444, .inl (zA S1)))] C (T := TX5) tyX5 tyX5_ok nmX5 im_X5_put_5 fl_X5_put_40 rfl rfl (by decide) rfl rfl rfl rfl rfl (Nat.le_of_ble_eq_true rfl) rfl dX5_put_57 rfl ?_
        refine zj_aload_n 61 0 C dX5_put_60 rfl rfl rfl ?_
        refine zj_get 64 0 0 C (T := TX5) im_X5_put_5 fl_X5_put_40 rfl rfl (by decide) rfl rfl dX5_put_61 rfl ?_
        refine zj_if_le 67 69 C (by omega) dX5_put_64 rfl (by decide) (fun h_21 => ?_) (fun h_21 => ?_)
        · exact absurd h_21 (by omega)
        · skip
          refine zj_iconst 68 C dX5_put_67 rfl ?_
          refine zj_ws (ws' := [(q5, .inr (5, [.int (zI (zKt n1 j1 k9 w9 t9)), .ref m0, .ref m1, .int (zI (zIt (zKt n1 j1 k9 w9 t9) (zHn sm) sm)), .ref m2, .int (zI ty), .ref m3, .ref m4, .ref m5, .ref m6, .ref m7, .ref m8, .int (zI pg), .int (zI rw), .int (zI un), .ref m9, .int (zI pm), .int (zI sp), .int (zI wr), .long ha])), (m0, .inl (cI, 74, .inl (zA Z1))), (m1, .inl (cI, 444, .inl (zA (zIt (zKt n1 j1 k9 w9 t9) (zSvd S1 Z1 sm) S1))))]) (by rw [zIt_n (show ¬ zKt n1 j1 k9 w9 t9 = 0 by omega), zIt_n (show ¬ zKt n1 j1 k9 w9 t9 = 0 by omega), hkv]) ?_
          refine zj_st (st' := [.int (zI (zIt (zKt n1 j1 k9 w9 t9) (n1 + 1) 0))]) (by rw [zIt_n (show ¬ zKt n1 j1 k9 w9 t9 = 0 by omega)]) ?_
          subst hQ
          exact zj_ireturn C hr ⟨Z1, (by simp only [zIt_n (show ¬ zKt n1 j1 k9 w9 t9 = 0 by omega)]; exact hz), rfl, rfl⟩ (by decide) (by decide) dX5_put_68
  · skip
    refine zj_iconst 16 C dX5_put_15 rfl ?_
    refine zj_goto 57 C dX5_put_16 (by decide) ?_
    have hkv : zKt n1 j1 k9 w9 t9 = 1 := by unfold zKt; (repeat' split) <;> omega
    refine zj_put 60 0 0 [(q5, .inr (5, [.int (zI 1), .ref m0, .ref m1, .int (zI sm), .ref m2, .int (zI ty), .ref m3, .ref m4, .ref m5, .ref m6, .ref m7, .ref m8, .int (zI pg), .int (zI rw), .int (zI un), .ref m9, .int (zI pm), .int (zI sp), .int (zI wr), .long ha])), (m0, .inl (cI, 74, .inl (zA Z1))), (m1, .inl (cI, 444, .inl (zA S1)))] C (T := TX5) tyX5 tyX5_ok nmX5 im_X5_put_5 fl_X5_put_40 rfl rfl (by decide) rfl rfl rfl rfl rfl (Nat.le_of_ble_eq_true rfl) rfl dX5_put_57 rfl ?_
    refine zj_aload_n 61 0 C dX5_put_60 rfl rfl rfl ?_
    refine zj_get 64 0 0 C (T := TX5) im_X5_put_5 fl_X5_put_40 rfl rfl (by decide) rfl rfl dX5_put_61 rfl ?_
    refine zj_if_le 67 69 C (by omega) dX5_put_64 rfl (by decide) (fun h_22 => ?_) (fun h_22 => ?_)
    · exact absurd h_22 (by omega)
    · skip
      refine zj_iconst 68 C dX5_put_67 rfl ?_
      refine zj_ws (ws' := [(q5, .inr (5, [.int (zI (zKt n1 j1 k9 w9 t9)), .ref m0, .ref m1, .int (zI (zIt (zKt n1 j1 k9 w9 t9) (zHn sm) sm)), .ref m2, .int (zI ty), .ref m3, .ref m4, .ref m5, .ref m6, .ref m7, .ref m8, .int (zI pg), .int (zI rw), .int (zI un), .ref m9, .int (zI pm), .int (zI sp), .int (zI wr), .long ha])), (m0, .inl (cI, 74, .inl (zA Z1))), (m1, .inl (cI, 444, .inl (zA (zIt (zKt n1 j1 k9 w9 t9) (zSvd S1 Z1 sm) S1))))]) (by rw [zIt_n (show ¬ zKt n1 j1 k9 w9 t9 = 0 by omega), zIt_n (show ¬ zKt n1 j1 k9 w9 t9 = 0 by omega), hkv]) ?_
      refine zj_st (st' := [.int (zI (zIt (zKt n1 j1 k9 w9 t9) (n1 + 1) 0))]) (by rw [zIt_n (show ¬ zKt n1 j1 k9 w9 t9 = 0 by omega)]) ?_
      subst hQ
      exact zj_ireturn C hr ⟨Z1, (by simp only [zIt_n (show ¬ zKt n1 j1 k9 w9 t9 = 0 by omega)]; exact hz), rfl, rfl⟩ (by decide) (by decide) dX5_put_68

theorem fl_X5_set_40 : Cond.fieldLink RX5 40 "SplashPagesModel" "thrown" "I" ∈ wsX5_set := by decide +kernel
theorem im_X5_set_5 : ∀ w ∈ u_ws RX5 TX5 20, w ∈ wsX5_set := by decide +kernel
theorem fl_X5_set_7 : Cond.fieldLink RX5 7 "SplashPagesModel" "z" "[I" ∈ wsX5_set := by decide +kernel
abbrev rm_X5_set : Room := { frames := 1, cells := 0, slots := 0, locals := 22 }
set_option maxRecDepth 100000 in
set_option maxHeartbeats 4000000 in
theorem c_X5_set (l : Launch) (D : va_G) (cI cS cJ : ClassId) (q5 : Nat) (m0 : Nat) (m1 : Nat) (m2 : Nat) (m3 : Nat) (m4 : Nat) (m5 : Nat) (m6 : Nat) (m7 : Nat) (m8 : Nat) (m9 : Nat) (th : Int) (sm : Int) (ty : Int) (pg : Int) (rw : Int) (un : Int) (pm : Int) (sp : Int) (wr : Int) (ha : Int64) (Z1 : Int → Int) (S1 : Int → Int) (n1 : Int) (sg : Int) (K1 : Int → Int) (W1 : Int → Int) (T1 : Int → Int) (j1 : Int) (hst : zOk n1 sg K1 W1 T1) (hz : zRel n1 sg K1 W1 T1 Z1) (hsm : 0 ≤ sm ∧ sm ≤ 6) (hj : -2147483648 ≤ j1 ∧ j1 < 2147483648) : zMi l yX5_set wsX5_set rm_X5_set D (zTy cI cS cJ) [.ref q5, .int (zI j1)] [(q5, .inr (5, [.int (zI th), .ref m0, .ref m1, .int (zI sm), .ref m2, .int (zI ty), .ref m3, .ref m4, .ref m5, .ref m6, .ref m7, .ref m8, .int (zI pg), .int (zI rw), .int (zI un), .ref m9, .int (zI pm), .int (zI sp), .int (zI wr), .long ha])), (m0, .inl (cI, 74, .inl (zA Z1))), (m1, .inl (cI, 444, .inl (zA S1)))] (fun r w => ∃ (Z2 : Int → Int), zRel ((zIt (zKs j1) (n1, j1, K1, W1, T1) (n1, sg, K1, W1, T1)).1) ((zIt (zKs j1) (n1, j1, K1, W1, T1) (n1, sg, K1, W1, T1)).2.1) ((zIt (zKs j1) (n1, j1, K1, W1, T1) (n1, sg, K1, W1, T1)).2.2.1) ((zIt (zKs j1) (n1, j1, K1, W1, T1) (n1, sg, K1, W1, T1)).2.2.2.1) ((zIt (zKs j1) (n1, j1, K1, W1, T1) (n1, sg, K1, W1, T1)).2.2.2.2) Z2 ∧ r = zI (zIt (zKs j1) (sg) 0) ∧ w = [(q5, .inr (5, [.int (zI (zKs j1)), .ref m0, .ref m1, .int (zI (zIt (zKs j1) (zHn sm) sm)), .ref m2, .int (zI ty), .ref m3, .ref m4, .ref m5, .ref m6, .ref m7, .ref m8, .int (zI pg), .int (zI rw), .int (zI un), .ref m9, .int (zI pm), .int (zI sp), .int (zI wr), .long ha])), (m0, .inl (cI, 74, .inl (zA Z2))), (m1, .inl (cI, 444, .inl (zA (zIt (zKs j1) (zSvd S1 Z1 sm) S1))))]) 0 0 := by
  intro sz
  refine zMet_of (Qc := fun A => va_Qi _ (zB D (zTy cI cS cJ) A) A) RX5 [(0, .ref q5), (1, .int (zI j1))] rfl (by decide +kernel) rfl (Nat.le_of_ble_eq_true rfl) rfl ?_ sz
  intro p e s m args below meth c A Q hQ C hr hini
  have hn := hst.1
  have hz1 := hz.1
  have hz0 := hz.2.1
  refine zj_aload_n 1 0 C dX5_set_0 rfl rfl rfl ?_
  refine zj_iload_n 2 1 C dX5_set_1 rfl rfl rfl ?_
  refine zj_bipush 4 C dX5_set_2 rfl rfl ?_
  refine zj_bipush 6 C dX5_set_4 rfl rfl ?_
  refine zj_ci 9 [] [0, 1, 2] C (wr := [(q5, .inr (5, [.int (zI th), .ref m0, .ref m1, .int (zI sm), .ref m2, .int (zI ty), .ref m3, .ref m4, .ref m5, .ref m6, .ref m7, .ref m8, .int (zI pg), .int (zI rw), .int (zI un), .ref m9, .int (zI pm), .int (zI sp), .int (zI wr), .long ha])), (m0, .inl (cI, 74, .inl (zA Z1))), (m1, .inl (cI, 444, .inl (zA S1)))]) (zr_S [] C (As := [.int (zI j1), .int (zI 9), .int (zI 60)]) (rest := [.ref q5]) (c_X5_in l D cI cS cJ j1 9 60 (by omega) (by omega) (by omega)) (va_cwS 3 C.1.2.2.2.2 gX5_set_X5_in rfl rfl rfl (by decide +kernel) ⟨Nat.le_of_ble_eq_true rfl, Nat.le_of_ble_eq_true rfl⟩) rfl (by decide) rfl rfl (Nat.le_of_ble_eq_true rfl) dX5_set_6 ⟨Nat.le_of_ble_eq_true rfl, Nat.le_of_ble_eq_true rfl⟩) rfl rfl (by decide) (by decide) rfl (fun r_1 w_ hp_2 => ?_)
  obtain ⟨r1_3, fa, rfl, rfl⟩ := hp_2
  refine zj_ws (ws' := [(q5, .inr (5, [.int (zI th), .ref m0, .ref m1, .int (zI sm), .ref m2, .int (zI ty), .ref m3, .ref m4, .ref m5, .ref m6, .ref m7, .ref m8, .int (zI pg), .int (zI rw), .int (zI un), .ref m9, .int (zI pm), .int (zI sp), .int (zI wr), .long ha])), (m0, .inl (cI, 74, .inl (zA Z1))), (m1, .inl (cI, 444, .inl (zA S1)))]) rfl ?_
  refine zj_if_eq 12 16 C (by omega) dX5_set_9 rfl (by decide) (fun h_4 => ?_) (fun h_4 => ?_)
  · skip
    refine zj_iconst 17 C dX5_set_16 rfl ?_
    have hkv : zKs j1 = 1 := by unfold zKs; (repeat' split) <;> omega
    refine zj_put 20 0 0 [(q5, .inr (5, [.int (zI 1), .ref m0, .ref m1, .int (zI sm), .ref m2, .int (zI ty), .ref m3, .ref m4, .ref m5, .ref m6, .ref m7, .ref m8, .int (zI pg), .int (zI rw), .int (zI un), .ref m9, .int (zI pm), .int (zI sp), .int (zI wr), .long ha])), (m0, .inl (cI, 74, .inl (zA Z1))), (m1, .inl (cI, 444, .inl (zA S1)))] C (T := TX5) tyX5 tyX5_ok nmX5 im_X5_set_5 fl_X5_set_40 rfl rfl (by decide) rfl rfl rfl rfl rfl (Nat.le_of_ble_eq_true rfl) rfl dX5_set_17 rfl ?_
    refine zj_aload_n 21 0 C dX5_set_20 rfl rfl rfl ?_
    refine zj_get 24 0 0 C (T := TX5) im_X5_set_5 fl_X5_set_40 rfl rfl (by decide) rfl rfl dX5_set_21 rfl ?_
    refine zj_if_le 27 29 C (by omega) dX5_set_24 rfl (by decide) (fun h_5 => ?_) (fun h_5 => ?_)
    · exact absurd h_5 (by omega)
    · skip
      refine zj_iconst 28 C dX5_set_27 rfl ?_
      refine zj_ws (ws' := [(q5, .inr (5, [.int (zI (zKs j1)), .ref m0, .ref m1, .int (zI (zIt (zKs j1) (zHn sm) sm)), .ref m2, .int (zI ty), .ref m3, .ref m4, .ref m5, .ref m6, .ref m7, .ref m8, .int (zI pg), .int (zI rw), .int (zI un), .ref m9, .int (zI pm), .int (zI sp), .int (zI wr), .long ha])), (m0, .inl (cI, 74, .inl (zA Z1))), (m1, .inl (cI, 444, .inl (zA (zIt (zKs j1) (zSvd S1 Z1 sm) S1))))]) (by rw [zIt_n (show ¬ zKs j1 = 0 by omega), zIt_n (show ¬ zKs j1 = 0 by omega), hkv]) ?_
      refine zj_st (st' := [.int (zI (zIt (zKs j1) (sg) 0))]) (by rw [zIt_n (show ¬ zKs j1 = 0 by omega)]) ?_
      subst hQ
      exact zj_ireturn C hr ⟨Z1, (by simp only [zIt_n (show ¬ zKs j1 = 0 by omega)]; exact hz), rfl, rfl⟩ (by decide) (by decide) dX5_set_28
  · skip
    refine zj_iconst 13 C dX5_set_12 rfl ?_
    refine zj_goto 17 C dX5_set_13 (by decide) ?_
    have hkv : zKs j1 = 0 := by unfold zKs; (repeat' split) <;> omega
    refine zj_put 20 0 0 [(q5, .inr (5, [.int (zI 0), .ref m0, .ref m1, .int (zI sm), .ref m2, .int (zI ty), .ref m3, .ref m4, .ref m5, .ref m6, .ref m7, .ref m8, .int (zI pg), .int (zI rw), .int (zI un), .ref m9, .int (zI pm), .int (zI sp), .int (zI wr), .long ha])), (m0, .inl (cI, 74, .inl (zA Z1))), (m1, .inl (cI, 444, .inl (zA S1)))] C (T := TX5) tyX5 tyX5_ok nmX5 im_X5_set_5 fl_X5_set_40 rfl rfl (by decide) rfl rfl rfl rfl rfl (Nat.le_of_ble_eq_true rfl) rfl dX5_set_17 rfl ?_
    refine zj_aload_n 21 0 C dX5_set_20 rfl rfl rfl ?_
    refine zj_get 24 0 0 C (T := TX5) im_X5_set_5 fl_X5_set_40 rfl rfl (by decide) rfl rfl dX5_set_21 rfl ?_
    refine zj_if_le 27 29 C (by omega) dX5_set_24 rfl (by decide) (fun h_6 => ?_) (fun h_6 => ?_)
    · skip
      refine zj_aload_n 30 0 C dX5_set_29 rfl rfl rfl ?_
      refine zj_cv 33 [0, 1, 2] [] C (wr := []) (zr_V [0, 1, 2] C (As := []) (rest := []) (c_X5_save l D cI cS cJ q5 m0 m1 m2 m3 m4 m5 m6 m7 m8 m9 0 sm ty pg rw un pm sp wr ha Z1 S1 (by omega)) (cwV 0 C.1.2.2.2.2 gX5_set_X5_save rfl rfl rfl (by decide +kernel) ⟨Nat.le_of_ble_eq_true rfl, Nat.le_of_ble_eq_true rfl⟩) rfl (by decide) 0 rfl rfl rfl rfl (Nat.le_of_ble_eq_true rfl) dX5_set_30 ⟨Nat.le_of_ble_eq_true rfl, Nat.le_of_ble_eq_true rfl⟩) rfl rfl (by decide) (by decide) rfl (fun w_ hp_8 => ?_)
      obtain rfl := hp_8
      refine zj_ws (ws' := [(q5, .inr (5, [.int (zI 0), .ref m0, .ref m1, .int (zI (zHn sm)), .ref m2, .int (zI ty), .ref m3, .ref m4, .ref m5, .ref m6, .ref m7, .ref m8, .int (zI pg), .int (zI rw), .int (zI un), .ref m9, .int (zI pm), .int (zI sp), .int (zI wr), .long ha])), (m0, .inl (cI, 74, .inl (zA Z1))), (m1, .inl (cI, 444, .inl (zA (zSvd S1 Z1 sm))))]) rfl ?_
      refine zj_aload_n 34 0 C dX5_set_33 rfl rfl rfl ?_
      refine zj_get 37 0 1 C (T := TX5) im_X5_set_5 fl_X5_set_7 rfl rfl (by decide) rfl rfl dX5_set_34 rfl ?_
      refine zj_iconst 38 C dX5_set_37 rfl ?_
      refine zj_iald 39 1 C (by omega) (by omega) rfl rfl dX5_set_38 rfl ?_
      refine zj_istore_n 40 [(2, .int (zI (Z1 0))), (0, .ref q5), (1, .int (zI j1))] C dX5_set_39 rfl rfl (by decide) rfl ?_
      refine zj_aload_n 41 1 C dX5_set_40 rfl rfl rfl ?_
      refine zj_get 44 0 1 C (T := TX5) im_X5_set_5 fl_X5_set_7 rfl rfl (by decide) rfl rfl dX5_set_41 rfl ?_
      refine zj_iconst 45 C dX5_set_44 rfl ?_
      refine zj_iload_n 46 2 C dX5_set_45 rfl rfl rfl ?_
      refine zj_iast 47 1 [(q5, .inr (5, [.int (zI 0), .ref m0, .ref m1, .int (zI (zHn sm)), .ref m2, .int (zI ty), .ref m3, .ref m4, .ref m5, .ref m6, .ref m7, .ref m8, .int (zI pg), .int (zI rw), .int (zI un), .ref m9, .int (zI pm), .int (zI sp), .int (zI wr), .long ha])), (m0, .inl (cI, 74, .inl (zA (zU Z1 0 j1)))), (m1, .inl (cI, 444, .inl (zA (zSvd S1 Z1 sm))))] C (by omega) (by omega) rfl rfl rfl dX5_set_46 rfl ?_
      refine zj_iload_n 48 0 C dX5_set_47 rfl rfl rfl ?_
      refine zj_ws (ws' := [(q5, .inr (5, [.int (zI (zKs j1)), .ref m0, .ref m1, .int (zI (zIt (zKs j1) (zHn sm) sm)), .ref m2, .int (zI ty), .ref m3, .ref m4, .ref m5, .ref m6, .ref m7, .ref m8, .int (zI pg), .int (zI rw), .int (zI un), .ref m9, .int (zI pm), .int (zI sp), .int (zI wr), .long ha])), (m0, .inl (cI, 74, .inl (zA (zU Z1 0 j1)))), (m1, .inl (cI, 444, .inl (zA (zIt (zKs j1) (zSvd S1 Z1 sm) S1))))]) (by rw [zIt_0 (show zKs j1 = 0 by omega), zIt_0 (show zKs j1 = 0 by omega), hkv]) ?_
      refine zj_st (st' := [.int (zI (zIt (zKs j1) (sg) 0))]) (by rw [zIt_0 (show zKs j1 = 0 by omega), hz0]) ?_
      subst hQ
      exact zj_ireturn C hr ⟨(zU Z1 0 j1), (by simp only [zIt_0 (show zKs j1 = 0 by omega)]; exact zRel_s hz), rfl, rfl⟩ (by decide) (by decide) dX5_set_48
    · exact absurd h_6 (by omega)

theorem fl_X5_take_40 : Cond.fieldLink RX5 40 "SplashPagesModel" "thrown" "I" ∈ wsX5_take := by decide +kernel
theorem im_X5_take_5 : ∀ w ∈ u_ws RX5 TX5 20, w ∈ wsX5_take := by decide +kernel
theorem fl_X5_take_7 : Cond.fieldLink RX5 7 "SplashPagesModel" "z" "[I" ∈ wsX5_take := by decide +kernel
abbrev rm_X5_take : Room := { frames := 1, cells := 0, slots := 0, locals := 21 }
set_option maxRecDepth 100000 in
set_option maxHeartbeats 4000000 in
theorem c_X5_take (l : Launch) (D : va_G) (cI cS cJ : ClassId) (q5 : Nat) (m0 : Nat) (m1 : Nat) (m2 : Nat) (m3 : Nat) (m4 : Nat) (m5 : Nat) (m6 : Nat) (m7 : Nat) (m8 : Nat) (m9 : Nat) (th : Int) (sm : Int) (ty : Int) (pg : Int) (rw : Int) (un : Int) (pm : Int) (sp : Int) (wr : Int) (ha : Int64) (Z1 : Int → Int) (S1 : Int → Int) (n1 : Int) (sg : Int) (K1 : Int → Int) (W1 : Int → Int) (T1 : Int → Int) (j1 : Int) (hst : zOk n1 sg K1 W1 T1) (hz : zRel n1 sg K1 W1 T1 Z1) (hsm : 0 ≤ sm ∧ sm ≤ 6) (hj : -2147483648 ≤ j1 ∧ j1 < 2147483648) : zMi l yX5_take wsX5_take rm_X5_take D (zTy cI cS cJ) [.ref q5, .int (zI j1)] [(q5, .inr (5, [.int (zI th), .ref m0, .ref m1, .int (zI sm), .ref m2, .int (zI ty), .ref m3, .ref m4, .ref m5, .ref m6, .ref m7, .ref m8, .int (zI pg), .int (zI rw), .int (zI un), .ref m9, .int (zI pm), .int (zI sp), .int (zI wr), .long ha])), (m0, .inl (cI, 74, .inl (zA Z1))), (m1, .inl (cI, 444, .inl (zA S1)))] (fun r w => ∃ (Z2 : Int → Int), zRel ((zIt (zKb n1 j1) (n1 - 1, sg, zDel K1 j1, zDel W1 j1, zDel T1 j1) (n1, sg, K1, W1, T1)).1) ((zIt (zKb n1 j1) (n1 - 1, sg, zDel K1 j1, zDel W1 j1, zDel T1 j1) (n1, sg, K1, W1, T1)).2.1) ((zIt (zKb n1 j1) (n1 - 1, sg, zDel K1 j1, zDel W1 j1, zDel T1 j1) (n1, sg, K1, W1, T1)).2.2.1) ((zIt (zKb n1 j1) (n1 - 1, sg, zDel K1 j1, zDel W1 j1, zDel T1 j1) (n1, sg, K1, W1, T1)).2.2.2.1) ((zIt (zKb n1 j1) (n1 - 1, sg, zDel K1 j1, zDel W1 j1, zDel T1 j1) (n1, sg, K1, W1, T1)).2.2.2.2) Z2 ∧ r = zI (zIt (zKb n1 j1) (n1 - 1) 0) ∧ w = [(q5, .inr (5, [.int (zI (zKb n1 j1)), .ref m0, .ref m1, .int (zI (zIt (zKb n1 j1) (zHn sm) sm)), .ref m2, .int (zI ty), .ref m3, .ref m4, .ref m5, .ref m6, .ref m7, .ref m8, .int (zI pg), .int (zI rw), .int (zI un), .ref m9, .int (zI pm), .int (zI sp), .int (zI wr), .long ha])), (m0, .inl (cI, 74, .inl (zA Z2))), (m1, .inl (cI, 444, .inl (zA (zIt (zKb n1 j1) (zSvd S1 Z1 sm) S1))))]) 0 0 := by
  intro sz
  refine zMet_of (Qc := fun A => va_Qi _ (zB D (zTy cI cS cJ) A) A) RX5 [(0, .ref q5), (1, .int (zI j1))] rfl (by decide +kernel) rfl (Nat.le_of_ble_eq_true rfl) rfl ?_ sz
  intro p e s m args below meth c A Q hQ C hr hini
  have hn := hst.1
  have hz1 := hz.1
  have hz0 := hz.2.1
  refine zj_aload_n 1 0 C dX5_take_0 rfl rfl rfl ?_
  refine zj_aload_n 2 0 C dX5_take_1 rfl rfl rfl ?_
  refine zj_iload_n 3 1 C dX5_take_2 rfl rfl rfl ?_
  refine zj_ci 6 [0, 1] [2] C (wr := [(m1, .inl (cI, 444, .inl (zA S1)))]) (zr_V [0, 1] C (As := [.int (zI j1)]) (rest := [.ref q5]) (c_X5_isPanel l D cI cS cJ q5 m0 m1 m2 m3 m4 m5 m6 m7 m8 m9 th sm ty pg rw un pm sp wr ha Z1 j1 (by omega) (by omega)) (cwV 1 C.1.2.2.2.2 gX5_take_X5_isPanel rfl rfl rfl (by decide +kernel) ⟨Nat.le_of_ble_eq_true rfl, Nat.le_of_ble_eq_true rfl⟩) rfl (by decide) 0 rfl rfl rfl rfl (Nat.le_of_ble_eq_true rfl) dX5_take_3 ⟨Nat.le_of_ble_eq_true rfl, Nat.le_of_ble_eq_true rfl⟩) rfl rfl (by decide) (by decide) rfl (fun r_1 w_ hp_2 => ?_)
  obtain ⟨r1_3, fa, rfl, rfl⟩ := hp_2
  refine zj_ws (ws' := [(m1, .inl (cI, 444, .inl (zA S1))), (q5, .inr (5, [.int (zI th), .ref m0, .ref m1, .int (zI sm), .ref m2, .int (zI ty), .ref m3, .ref m4, .ref m5, .ref m6, .ref m7, .ref m8, .int (zI pg), .int (zI rw), .int (zI un), .ref m9, .int (zI pm), .int (zI sp), .int (zI wr), .long ha])), (m0, .inl (cI, 74, .inl (zA Z1)))]) rfl ?_
  refine zj_if_eq 9 13 C (by omega) dX5_take_6 rfl (by decide) (fun h_4 => ?_) (fun h_4 => ?_)
  · skip
    refine zj_iconst 14 C dX5_take_13 rfl ?_
    have hkv : zKb n1 j1 = 1 := by unfold zKb; (repeat' split) <;> omega
    refine zj_put 17 1 0 [(m1, .inl (cI, 444, .inl (zA S1))), (q5, .inr (5, [.int (zI 1), .ref m0, .ref m1, .int (zI sm), .ref m2, .int (zI ty), .ref m3, .ref m4, .ref m5, .ref m6, .ref m7, .ref m8, .int (zI pg), .int (zI rw), .int (zI un), .ref m9, .int (zI pm), .int (zI sp), .int (zI wr), .long ha])), (m0, .inl (cI, 74, .inl (zA Z1)))] C (T := TX5) tyX5 tyX5_ok nmX5 im_X5_take_5 fl_X5_take_40 rfl rfl (by decide) rfl rfl rfl rfl rfl (Nat.le_of_ble_eq_true rfl) rfl dX5_take_14 rfl ?_
    refine zj_aload_n 18 0 C dX5_take_17 rfl rfl rfl ?_
    refine zj_get 21 1 0 C (T := TX5) im_X5_take_5 fl_X5_take_40 rfl rfl (by decide) rfl rfl dX5_take_18 rfl ?_
    refine zj_if_le 24 26 C (by omega) dX5_take_21 rfl (by decide) (fun h_5 => ?_) (fun h_5 => ?_)
    · exact absurd h_5 (by omega)
    · skip
      refine zj_iconst 25 C dX5_take_24 rfl ?_
      refine zj_re [1, 2, 0] [(q5, .inr (5, [.int (zI 1), .ref m0, .ref m1, .int (zI sm), .ref m2, .int (zI ty), .ref m3, .ref m4, .ref m5, .ref m6, .ref m7, .ref m8, .int (zI pg), .int (zI rw), .int (zI un), .ref m9, .int (zI pm), .int (zI sp), .int (zI wr), .long ha])), (m0, .inl (cI, 74, .inl (zA Z1))), (m1, .inl (cI, 444, .inl (zA S1)))] (by decide) rfl ?_
      refine zj_ws (ws' := [(q5, .inr (5, [.int (zI (zKb n1 j1)), .ref m0, .ref m1, .int (zI (zIt (zKb n1 j1) (zHn sm) sm)), .ref m2, .int (zI ty), .ref m3, .ref m4, .ref m5, .ref m6, .ref m7, .ref m8, .int (zI pg), .int (zI rw), .int (zI un), .ref m9, .int (zI pm), .int (zI sp), .int (zI wr), .long ha])), (m0, .inl (cI, 74, .inl (zA Z1))), (m1, .inl (cI, 444, .inl (zA (zIt (zKb n1 j1) (zSvd S1 Z1 sm) S1))))]) (by rw [zIt_n (show ¬ zKb n1 j1 = 0 by omega), zIt_n (show ¬ zKb n1 j1 = 0 by omega), hkv]) ?_
      refine zj_st (st' := [.int (zI (zIt (zKb n1 j1) (n1 - 1) 0))]) (by rw [zIt_n (show ¬ zKb n1 j1 = 0 by omega)]) ?_
      subst hQ
      exact zj_ireturn C hr ⟨Z1, (by simp only [zIt_n (show ¬ zKb n1 j1 = 0 by omega)]; exact hz), rfl, rfl⟩ (by decide) (by decide) dX5_take_25
  · skip
    refine zj_iconst 10 C dX5_take_9 rfl ?_
    refine zj_goto 14 C dX5_take_10 (by decide) ?_
    have hkv : zKb n1 j1 = 0 := by unfold zKb; (repeat' split) <;> omega
    refine zj_put 17 1 0 [(m1, .inl (cI, 444, .inl (zA S1))), (q5, .inr (5, [.int (zI 0), .ref m0, .ref m1, .int (zI sm), .ref m2, .int (zI ty), .ref m3, .ref m4, .ref m5, .ref m6, .ref m7, .ref m8, .int (zI pg), .int (zI rw), .int (zI un), .ref m9, .int (zI pm), .int (zI sp), .int (zI wr), .long ha])), (m0, .inl (cI, 74, .inl (zA Z1)))] C (T := TX5) tyX5 tyX5_ok nmX5 im_X5_take_5 fl_X5_take_40 rfl rfl (by decide) rfl rfl rfl rfl rfl (Nat.le_of_ble_eq_true rfl) rfl dX5_take_14 rfl ?_
    refine zj_aload_n 18 0 C dX5_take_17 rfl rfl rfl ?_
    refine zj_get 21 1 0 C (T := TX5) im_X5_take_5 fl_X5_take_40 rfl rfl (by decide) rfl rfl dX5_take_18 rfl ?_
    refine zj_if_le 24 26 C (by omega) dX5_take_21 rfl (by decide) (fun h_6 => ?_) (fun h_6 => ?_)
    · skip
      refine zj_aload_n 27 0 C dX5_take_26 rfl rfl rfl ?_
      refine zj_cv 30 [1, 2, 0] [] C (wr := []) (zr_V [1, 2, 0] C (As := []) (rest := []) (c_X5_save l D cI cS cJ q5 m0 m1 m2 m3 m4 m5 m6 m7 m8 m9 0 sm ty pg rw un pm sp wr ha Z1 S1 (by omega)) (cwV 0 C.1.2.2.2.2 gX5_take_X5_save rfl rfl rfl (by decide +kernel) ⟨Nat.le_of_ble_eq_true rfl, Nat.le_of_ble_eq_true rfl⟩) rfl (by decide) 0 rfl rfl rfl rfl (Nat.le_of_ble_eq_true rfl) dX5_take_27 ⟨Nat.le_of_ble_eq_true rfl, Nat.le_of_ble_eq_true rfl⟩) rfl rfl (by decide) (by decide) rfl (fun w_ hp_8 => ?_)
      obtain rfl := hp_8
      refine zj_ws (ws' := [(q5, .inr (5, [.int (zI 0), .ref m0, .ref m1, .int (zI (zHn sm)), .ref m2, .int (zI ty), .ref m3, .ref m4, .ref m5, .ref m6, .ref m7, .ref m8, .int (zI pg), .int (zI rw), .int (zI un), .ref m9, .int (zI pm), .int (zI sp), .int (zI wr), .long ha])), (m0, .inl (cI, 74, .inl (zA Z1))), (m1, .inl (cI, 444, .inl (zA (zSvd S1 Z1 sm))))]) rfl ?_
      refine zj_aload_n 31 0 C dX5_take_30 rfl rfl rfl ?_
      refine zj_get 34 0 1 C (T := TX5) im_X5_take_5 fl_X5_take_7 rfl rfl (by decide) rfl rfl dX5_take_31 rfl ?_
      refine zj_iconst 35 C dX5_take_34 rfl ?_
      refine zj_dup2 36 C dX5_take_35 rfl rfl rfl ?_
      refine zj_iald 37 1 C (by omega) (by omega) rfl rfl dX5_take_36 rfl ?_
      refine zj_iconst 38 C dX5_take_37 rfl ?_
      refine zj_isub 39 C dX5_take_38 rfl ?_
      refine zj_iast 40 1 [(q5, .inr (5, [.int (zI 0), .ref m0, .ref m1, .int (zI (zHn sm)), .ref m2, .int (zI ty), .ref m3, .ref m4, .ref m5, .ref m6, .ref m7, .ref m8, .int (zI pg), .int (zI rw), .int (zI un), .ref m9, .int (zI pm), .int (zI sp), .int (zI wr), .long ha])), (m0, .inl (cI, 74, .inl (zA (zU Z1 1 ((Z1 1) - 1))))), (m1, .inl (cI, 444, .inl (zA (zSvd S1 Z1 sm))))] C (by omega) (by omega) rfl rfl rfl dX5_take_39 rfl ?_
      refine zj_iconst 41 C dX5_take_40 rfl ?_
      refine zj_iconst 42 C dX5_take_41 rfl ?_
      refine zj_iload_n 43 1 C dX5_take_42 rfl rfl rfl ?_
      refine zj_imul 44 C dX5_take_43 rfl ?_
      refine zj_iadd 45 C dX5_take_44 rfl ?_
      refine zj_istore_n 46 [(2, .int (zI (2 + (3 * j1)))), (0, .ref q5), (1, .int (zI j1))] C dX5_take_45 rfl rfl (by decide) rfl ?_
      have hL46 : ∀ (N : Nat) (k : Int) (z3 : Int → Int), (2 + 3 * j1 ≤ k ∧ k ≤ 2 + 3 * (n1 - 1)) → (∀ x, z3 x = if 2 + 3 * j1 ≤ x ∧ x < k then Z1 (x + 3) else if x = 1 then n1 - 1 else Z1 x) → (2 + 3 * (n1 - 1) - k < N) → zJ p l e rm_X5_take s m args below meth c Q D A 3 [(q5, .inr (5, [.int (zI 0), .ref m0, .ref m1, .int (zI (zHn sm)), .ref m2, .int (zI ty), .ref m3, .ref m4, .ref m5, .ref m6, .ref m7, .ref m8, .int (zI pg), .int (zI rw), .int (zI un), .ref m9, .int (zI pm), .int (zI sp), .int (zI wr), .long ha])), (m0, .inl (cI, 74, .inl (zA z3))), (m1, .inl (cI, 444, .inl (zA (zSvd S1 Z1 sm))))] 0 0 [(0, .ref q5), (1, .int (zI j1)), (2, .int (zI k))] 46 [] := by
        intro N
        induction N with
        | zero => intro k z3 hk hz3 hN; exact absurd hN (by omega)
        | succ N ih =>
          intro k z3 hk hz3 hN
          have hz31 : z3 1 = n1 - 1 := by rw [hz3, if_neg (by omega), if_pos rfl]
          refine zj_iload_n 47 2 C dX5_take_46 rfl rfl rfl ?_
          refine zj_iconst 48 C dX5_take_47 rfl ?_
          refine zj_iconst 49 C dX5_take_48 rfl ?_
          refine zj_aload_n 50 0 C dX5_take_49 rfl rfl rfl ?_
          refine zj_get 53 0 1 C (T := TX5) im_X5_take_5 fl_X5_take_7 rfl rfl (by decide) rfl rfl dX5_take_50 rfl ?_
          refine zj_iconst 54 C dX5_take_53 rfl ?_
          refine zj_iald 55 1 C (by omega) (by omega) rfl rfl dX5_take_54 rfl ?_
          refine zj_imul 56 C dX5_take_55 rfl ?_
          refine zj_iadd 57 C dX5_take_56 rfl ?_
          refine zj_icmp_ge 60 80 C (by omega) (by omega) dX5_take_57 rfl (by decide) (fun h57 => ?_) (fun h57 => ?_)
          · skip
            refine zj_aload_n 81 0 C dX5_take_80 rfl rfl rfl ?_
            refine zj_get 84 0 1 C (T := TX5) im_X5_take_5 fl_X5_take_7 rfl rfl (by decide) rfl rfl dX5_take_81 rfl ?_
            refine zj_iconst 85 C dX5_take_84 rfl ?_
            refine zj_iald 86 1 C (by omega) (by omega) rfl rfl dX5_take_85 rfl ?_
            refine zj_ws (ws' := [(q5, .inr (5, [.int (zI (zKb n1 j1)), .ref m0, .ref m1, .int (zI (zIt (zKb n1 j1) (zHn sm) sm)), .ref m2, .int (zI ty), .ref m3, .ref m4, .ref m5, .ref m6, .ref m7, .ref m8, .int (zI pg), .int (zI rw), .int (zI un), .ref m9, .int (zI pm), .int (zI sp), .int (zI wr), .long ha])), (m0, .inl (cI, 74, .inl (zA z3))), (m1, .inl (cI, 444, .inl (zA (zIt (zKb n1 j1) (zSvd S1 Z1 sm) S1))))]) (by rw [zIt_0 (show zKb n1 j1 = 0 by omega), zIt_0 (show zKb n1 j1 = 0 by omega), hkv]) ?_
            refine zj_st (st' := [.int (zI (zIt (zKb n1 j1) (n1 - 1) 0))]) (by rw [zIt_0 (show zKb n1 j1 = 0 by omega), show z3 1 = n1 - 1 from by rw [hz3, if_neg (by omega), if_pos rfl]]) ?_
            subst hQ
            exact zj_ireturn C hr ⟨z3, (by simp only [zIt_0 (show zKb n1 j1 = 0 by omega)]; exact zRel_d hz (by omega) (by omega) (by rw [hz3, if_neg (by omega), if_pos rfl]) (by rw [hz3, if_neg (by omega), if_neg (by omega)]) (fun x x1 x2 => by rw [hz3]; by_cases e : 2 + 3 * j1 ≤ x; (rw [if_pos e, if_pos (by omega)]); (rw [if_neg e, if_neg (by omega), if_neg (by omega)]))), rfl, rfl⟩ (by decide) (by decide) dX5_take_86
          · skip
            refine zj_aload_n 61 0 C dX5_take_60 rfl rfl rfl ?_
            refine zj_get 64 0 1 C (T := TX5) im_X5_take_5 fl_X5_take_7 rfl rfl (by decide) rfl rfl dX5_take_61 rfl ?_
            refine zj_iload_n 65 2 C dX5_take_64 rfl rfl rfl ?_
            refine zj_aload_n 66 0 C dX5_take_65 rfl rfl rfl ?_
            refine zj_get 69 0 1 C (T := TX5) im_X5_take_5 fl_X5_take_7 rfl rfl (by decide) rfl rfl dX5_take_66 rfl ?_
            refine zj_iload_n 70 2 C dX5_take_69 rfl rfl rfl ?_
            refine zj_iconst 71 C dX5_take_70 rfl ?_
            refine zj_iadd 72 C dX5_take_71 rfl ?_
            refine zj_iald 73 1 C (by omega) (by omega) rfl rfl dX5_take_72 rfl ?_
            refine zj_iast 74 1 [(q5, .inr (5, [.int (zI 0), .ref m0, .ref m1, .int (zI (zHn sm)), .ref m2, .int (zI ty), .ref m3, .ref m4, .ref m5, .ref m6, .ref m7, .ref m8, .int (zI pg), .int (zI rw), .int (zI un), .ref m9, .int (zI pm), .int (zI sp), .int (zI wr), .long ha])), (m0, .inl (cI, 74, .inl (zA (zU z3 k (z3 (k + 3)))))), (m1, .inl (cI, 444, .inl (zA (zSvd S1 Z1 sm))))] C (by omega) (by omega) rfl rfl rfl dX5_take_73 rfl ?_
            refine zj_iinc 77 2 [(2, .int (zI (k + 1))), (0, .ref q5), (1, .int (zI j1))] C dX5_take_74 rfl rfl (by decide) rfl ?_
            refine zj_goto 46 C dX5_take_77 (by decide) ?_
            refine zj_lv [1, 2, 0] [(0, .ref q5), (1, .int (zI j1)), (2, .int (zI (k + 1)))] rfl ?_
            exact ih (k + 1) (zU z3 k (z3 (k + 3))) (by omega) (fun x => by by_cases e : x = k; (subst e; rw [zU_eq, if_pos (show 2 + 3 * j1 ≤ x ∧ x < x + 1 by omega), hz3, if_neg (by omega), if_neg (by omega)]); rw [zU_ne _ _ e, hz3]; by_cases e2 : 2 + 3 * j1 ≤ x ∧ x < k; (rw [if_pos e2, if_pos (show 2 + 3 * j1 ≤ x ∧ x < k + 1 by omega)]); rw [if_neg e2, if_neg (show ¬ (2 + 3 * j1 ≤ x ∧ x < k + 1) by omega)]) (by omega)
      refine zj_lv [1, 2, 0] [(0, .ref q5), (1, .int (zI j1)), (2, .int (zI (2 + (3 * j1))))] rfl ?_
      exact hL46 (80) (2 + (3 * j1)) (zU Z1 1 ((Z1 1) - 1)) (by omega) (fun x => by rw [if_neg (by omega)]; by_cases e : x = 1; (subst e; rw [zU_eq, if_pos rfl, hz1]); (rw [zU_ne _ _ e, if_neg e])) (by omega)
    · exact absurd h_6 (by omega)
