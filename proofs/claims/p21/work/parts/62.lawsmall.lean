/-! ===== what the law's walks need ===== -/
theorem zSel_1 (x : Int) : zSel 1 x = x := if_pos rfl
theorem zSel_0 (x : Int) : zSel 0 x = -1 := if_neg (by omega)
theorem zLS_w {sg pg ua be sx go p2 g2 : Int} {K W T : Int → Int} {j : Nat} (hS : zLS sg K W T j = (pg, ua, be, sx, go)) (hk : 1 < K j) (hp : p2 = zL1 (K j) pg sx) (hg : (g2 = 1 ∧ go = 1 ∧ p2 + K j - 2 < 16) ∨ (g2 = 0 ∧ ¬ (go = 1 ∧ p2 + K j - 2 < 16))) :
    zLS sg K W T (j + 1) = (p2 + (K j - 1), 0, 0, 0, g2) ∧ zLO sg (K j) (W j) (T j) (zLS sg K W T j) = (zSel g2 p2, -1, -1) := by
  have e : zLg go (p2 + K j - 2) = g2 := by unfold zLg; split <;> omega
  rw [zLS, hS]
  unfold zLN zLO
  rw [if_pos hk, if_pos hk]
  unfold zLW
  dsimp only
  rw [← hp, e]
  exact ⟨rfl, rfl⟩
theorem zLS_r {sg pg ua be sx go p3 a3 b3 a4 g2 : Int} {K W T : Int → Int} {j : Nat} (hS : zLS sg K W T j = (pg, ua, be, sx, go)) (hk : ¬ 1 < K j) (hx : (p3, a3, b3) = zLX sg (K j) (W j) (T j) (pg, ua, be, sx, go)) (ha : a4 = zLD (K j) (W j) p3 a3) (hg : (g2 = 1 ∧ go = 1 ∧ p3 < 16) ∨ (g2 = 0 ∧ ¬ (go = 1 ∧ p3 < 16))) :
    zLS sg K W T (j + 1) = (p3, a4 + W j, b3 + T j, 1, g2) ∧ zLO sg (K j) (W j) (T j) (zLS sg K W T j) = (zSel g2 p3, zSel g2 (a4 / 6), zSel g2 (a4 % 6)) := by
  have e : zLg go p3 = g2 := by unfold zLg; split <;> omega
  rw [zLS, hS]
  unfold zLN zLO
  rw [if_neg hk, if_neg hk]
  unfold zLR
  rw [← hx]
  dsimp only
  rw [← ha, e]
  exact ⟨rfl, rfl⟩
theorem zLC_v {k p a b p' a' b' : Int} (h : (a = 24 ∧ p' = p + 1 ∧ b' = 0 ∧ a' = 0) ∨ (a ≠ 24 ∧ p' = p ∧ b' = b ∧ ((k = 1 ∧ p % 2 = 0 ∧ 0 < a % 6 ∧ a' = a + (6 - a % 6)) ∨ (¬ (k = 1 ∧ p % 2 = 0 ∧ 0 < a % 6) ∧ a' = a)))) : (p', a', b') = zLC k (p, a, b) := by
  rcases h with ⟨h1, h2, h3, h4⟩ | ⟨h1, h2, h3, h4⟩
  · subst h1; rw [zLC_t, h2, h3, h4]
  · rw [zLC_n h1, h2, h3]
    unfold zLp
    rcases h4 with ⟨q1, q2, q3, q4⟩ | ⟨q1, q2⟩
    · rw [if_pos ⟨q1, q2, q3⟩, q4]
    · rw [if_neg q1, q2]
theorem zPut0 {P R U : Int → Int} {po : Nat → Int × Int × Int} {j : Nat} {y z : Int} (h : ∀ i : Nat, i < j → P i = (po i).1 ∧ R i = (po i).2.1 ∧ U i = (po i).2.2) :
    ∀ i : Nat, i < j → P i = (po i).1 ∧ zU R (j : Int) y i = (po i).2.1 ∧ zU U (j : Int) z i = (po i).2.2 := by
  intro i hi
  have q2 : (i : Int) ≠ (j : Int) := by omega
  rw [zU_ne _ _ q2, zU_ne _ _ q2]
  exact h i hi
theorem kPb {n sg : Int} {K W T P : Int → Int} (hok : zOk n sg K W T) (hP : ∀ i : Nat, (i : Int) < n → P i = (zPos sg K W T i).1) : ∀ i : Nat, (i : Int) < n → -1 ≤ P i ∧ P i ≤ 15 ∧ (K i = 3 → P i ≤ 14) := by
  intro i hi
  rw [hP i hi]
  unfold zPos
  by_cases hs : (zSeq sg K W T (i + 1)).1 = true
  · rw [if_pos hs]
    obtain ⟨s1, s2, s3⟩ := zSeq_s hs
    obtain ⟨l1, l2, l3, -, -⟩ := zSeq_b hok i (by omega)
    obtain ⟨k1, k2, k3⟩ := hok.2.2 i (by omega) (by omega)
    by_cases hk : K i < 2
    · have r := (zPlc_r hk k2 l1 l2 l3 s2).2
      unfold zPlL
      omega
    · have r := zPlc_w hk l1 s2
      unfold zPlL
      rw [r.1]
      dsimp only
      omega
  · rw [if_neg hs]; dsimp only; omega
theorem kBt_b {n : Int} {K P : Int → Int} (hb : ∀ i : Nat, (i : Int) < n → -1 ≤ P i ∧ P i ≤ 15 ∧ (K i = 3 → P i ≤ 14)) : ∀ k : Nat, (k : Int) ≤ n → kBt K P k < 65536
  | 0, _ => by rw [kBt]; omega
  | k + 1, h => by
    have ih := kBt_b hb k (by omega)
    have hk := hb k (by omega)
    rw [kBt]
    by_cases h0 : 0 ≤ P k
    · rw [if_pos h0]
      have e : (65536 : Nat) = 2 ^ 16 := rfl
      rw [e] at ih ⊢
      refine Nat.or_lt_two_pow ih (Nat.or_lt_two_pow (Nat.pow_lt_pow_right (by omega) (by omega)) (Nat.pow_lt_pow_right (by omega) ?_))
      unfold kLa
      split <;> omega
    · rw [if_neg h0]; exact ih
theorem kUs_b {n : Int} {K P : Int → Int} (hb : ∀ i : Nat, (i : Int) < n → -1 ≤ P i ∧ P i ≤ 15 ∧ (K i = 3 → P i ≤ 14)) : ∀ k : Nat, (k : Int) ≤ n → 0 ≤ kUs K P k ∧ kUs K P k ≤ 16
  | 0, _ => by rw [kUs]; omega
  | k + 1, h => by
    have ih := kUs_b hb k (by omega)
    have hk := hb k (by omega)
    rw [kUs]
    unfold kLa
    (repeat' split) <;> omega
theorem kPc_b (M : Nat) : ∀ q : Nat, 0 ≤ kPc M q ∧ kPc M q ≤ q
  | 0 => by rw [kPc]; omega
  | q + 1 => by
    have ih := kPc_b M q
    have h2 : M / 2 ^ q % 2 < 2 := Nat.mod_lt _ (by omega)
    rw [kPc]
    generalize M / 2 ^ q % 2 = z at h2
    omega
theorem kCos {n sg : Int} {K W T P : Int → Int} (hok : zOk n sg K W T) (hP : ∀ i : Nat, (i : Int) < n → P i = (zPos sg K W T i).1) : 100000 * zLo P n.toNat + 1000 * kUs K P n.toNat + 24 * kPc (kBt K P n.toNat) 16 - kTk K W P n.toNat = zCosM n sg K W T := by
  obtain ⟨h1, h2, h3, -⟩ := kFin hok hP
  rw [h1, h2, h3, zq_lo hok hP]
  unfold zCosM zEmp
  omega
theorem kCos_u {n sg : Int} {K W T : Int → Int} (hok : zOk n sg K W T) : (0 ≤ zCosM n sg K W T ∧ zCosM n sg K W T ≤ 3000000) ∧ zCosM n sg K W T / 1000 % 100 = zUsed (zFin sg K W T n) ∧ zCosM n sg K W T / 100000 = zOut n sg K W T ∧ zCosM n sg K W T % 1000 = zEmp (zFin sg K W T n) := by
  have h1 := (zFin_m hok).1
  have h2 := zq_emp hok
  have h3 := zOut_b hok
  unfold zCosM
  omega

theorem wc_L_low_9 : Cond.constant RL 9 (2147483647) ∈ wsL_low := by decide +kernel
abbrev rm_L_low : Room := { frames := 0, cells := 0, slots := 0, locals := 0 }
set_option maxRecDepth 100000 in
set_option maxHeartbeats 4000000 in
theorem c_L_low (l : Launch) (D : va_G) (cI cS cJ : ClassId) (v1 : Int) (n9 : Int) (hn : 0 < n9 ∧ n9 ≤ 1000) : zMi l yL_low wsL_low rm_L_low D (zTy cI cS cJ) [.int (zI v1), .int (zI n9)] [] (fun r w => ∃ (r1 : Int), (0 ≤ r1 ∧ r1 < n9) ∧ r = zI r1 ∧ w = []) 0 0 := by
  intro sz
  refine zMet_of (Qc := fun A => va_Qi _ (zB D (zTy cI cS cJ) A) A) RL [(0, .int (zI v1)), (1, .int (zI n9))] rfl (by decide +kernel) rfl (Nat.le_of_ble_eq_true rfl) rfl ?_ sz
  intro p e s m args below meth c A Q hQ C hr hini
  refine zj_iload_n 1 0 C dL_low_0 rfl rfl rfl ?_
  refine zj_ldc 3 C (2147483647) rfl wc_L_low_9 dL_low_1 rfl ?_
  refine zj_iandM 4 C dL_low_3 rfl (fun vm_1 hvm_1 => ?_)
  refine zj_iload_n 5 1 C dL_low_4 rfl rfl rfl ?_
  refine zj_irem 6 C (by omega) (by omega) dL_low_5 rfl ?_
  subst hQ
  exact zj_ireturn C hr ⟨(vm_1 % n9), (by exact ⟨Int.emod_nonneg _ (by omega), Int.emod_lt_of_pos _ hn.1⟩), rfl, rfl⟩ (by decide) (by decide) dL_low_6

abbrev rm_L_exchange : Room := { frames := 0, cells := 0, slots := 0, locals := 0 }
set_option maxRecDepth 100000 in
set_option maxHeartbeats 4000000 in
theorem c_L_exchange (l : Launch) (D : va_G) (cI cS cJ : ClassId) (y1 : Nat) (f1 : Int → Int) (i1 : Int) (hi : 0 ≤ i1 ∧ i1 < 23) : zMv l yL_exchange wsL_exchange rm_L_exchange D (zTy cI cS cJ) [.ref y1, .int (zI i1)] [(y1, .inl (cI, 24, .inl (zA f1)))] (fun w => w = [(y1, .inl (cI, 24, .inl (zA (zEx f1 i1))))]) 0 0 := by
  intro sz
  refine zMet_of (Qc := fun A => va_Qv _ (zB D (zTy cI cS cJ) A) A) RL [(0, .ref y1), (1, .int (zI i1))] rfl (by decide +kernel) rfl (Nat.le_of_ble_eq_true rfl) rfl ?_ sz
  intro p e s m args below meth c A Q hQ C hr hini
  refine zj_aload_n 1 0 C dL_exchange_0 rfl rfl rfl ?_
  refine zj_iload_n 2 1 C dL_exchange_1 rfl rfl rfl ?_
  refine zj_iald 3 0 C (by omega) (by omega) rfl rfl dL_exchange_2 rfl ?_
  refine zj_istore_n 4 [(2, .int (zI (f1 i1))), (0, .ref y1), (1, .int (zI i1))] C dL_exchange_3 rfl rfl (by decide) rfl ?_
  refine zj_aload_n 5 1 C dL_exchange_4 rfl rfl rfl ?_
  refine zj_iload_n 6 2 C dL_exchange_5 rfl rfl rfl ?_
  refine zj_aload_n 7 1 C dL_exchange_6 rfl rfl rfl ?_
  refine zj_iload_n 8 2 C dL_exchange_7 rfl rfl rfl ?_
  refine zj_iconst 9 C dL_exchange_8 rfl ?_
  refine zj_iadd 10 C dL_exchange_9 rfl ?_
  refine zj_iald 11 0 C (by omega) (by omega) rfl rfl dL_exchange_10 rfl ?_
  refine zj_iast 12 0 [(y1, .inl (cI, 24, .inl (zA (zU f1 i1 (f1 (i1 + 1))))))] C (by omega) (by omega) rfl rfl rfl dL_exchange_11 rfl ?_
  refine zj_aload_n 13 1 C dL_exchange_12 rfl rfl rfl ?_
  refine zj_iload_n 14 2 C dL_exchange_13 rfl rfl rfl ?_
  refine zj_iconst 15 C dL_exchange_14 rfl ?_
  refine zj_iadd 16 C dL_exchange_15 rfl ?_
  refine zj_iload_n 17 0 C dL_exchange_16 rfl rfl rfl ?_
  refine zj_iast 18 0 [(y1, .inl (cI, 24, .inl (zA (zU (zU f1 i1 (f1 (i1 + 1))) (i1 + 1) (f1 i1)))))] C (by omega) (by omega) rfl rfl rfl dL_exchange_17 rfl ?_
  refine zj_ws (ws' := [(y1, .inl (cI, 24, .inl (zA (zEx f1 i1))))]) (by rfl) ?_
  subst hQ
  exact zj_return C hr rfl (by decide) (by decide) dL_exchange_18

abbrev rm_L_put : Room := { frames := 0, cells := 0, slots := 0, locals := 0 }
set_option maxRecDepth 100000 in
set_option maxHeartbeats 4000000 in
theorem c_L_put (l : Launch) (D : va_G) (cI cS cJ : ClassId) (y1 : Nat) (yt : Nat) (f1 : Int → Int) (ty : Int → Int) (n1 : Int) (p1 : Int) (v1 : Int) (hp : 0 ≤ p1 ∧ p1 ≤ n1 ∧ n1 < 24) (ht : ty 1 = n1) : zMv l yL_put wsL_put rm_L_put D (zTy cI cS cJ) [.ref y1, .ref yt, .int (zI p1), .int (zI v1)] [(y1, .inl (cI, 24, .inl (zA f1))), (yt, .inl (cI, 2, .inl (zA ty)))] (fun w => ∃ (f2 : Int → Int), (∀ x, 0 ≤ x → x ≤ n1 → f2 x = zIns f1 p1 v1 x) ∧ w = [(y1, .inl (cI, 24, .inl (zA f2))), (yt, .inl (cI, 2, .inl (zA ty)))]) 0 0 := by
  intro sz
  refine zMet_of (Qc := fun A => va_Qv _ (zB D (zTy cI cS cJ) A) A) RL [(0, .ref y1), (1, .ref yt), (2, .int (zI p1)), (3, .int (zI v1))] rfl (by decide +kernel) rfl (Nat.le_of_ble_eq_true rfl) rfl ?_ sz
  intro p e s m args below meth c A Q hQ C hr hini
  refine zj_aload_n 1 1 C dL_put_0 rfl rfl rfl ?_
  refine zj_iconst 2 C dL_put_1 rfl ?_
  refine zj_iald 3 1 C (by omega) (by omega) rfl rfl dL_put_2 rfl ?_
  refine zj_istore 5 [(4, .int (zI (ty 1))), (0, .ref y1), (1, .ref yt), (2, .int (zI p1)), (3, .int (zI v1))] C dL_put_3 rfl (by decide) rfl ?_
  have hL5 : ∀ (N : Nat) (i : Int) (g : Int → Int), (p1 ≤ i ∧ i ≤ n1) → (∀ x, (x ≤ i → g x = f1 x) ∧ (i < x → x ≤ n1 → g x = f1 (x - 1))) → (i < N) → zJ p l e rm_L_put s m args below meth c Q D A 5 [(y1, .inl (cI, 24, .inl (zA g))), (yt, .inl (cI, 2, .inl (zA ty)))] (0) (0) [(0, .ref y1), (1, .ref yt), (2, .int (zI p1)), (3, .int (zI v1)), (4, .int (zI i))] 5 [] := by
    intro N
    induction N with
    | zero => intro i g hi hg hN; exact absurd hN (by omega)
    | succ N ih =>
      intro i g hi hg hN
      refine zj_iload 7 4 C dL_put_5 rfl rfl ?_
      refine zj_iload_n 8 2 C dL_put_7 rfl rfl rfl ?_
      refine zj_icmp_le 11 27 C (by omega) (by omega) dL_put_8 rfl (by decide) (fun h_1 => ?_) (fun h_1 => ?_)
      · skip
        refine zj_aload_n 28 0 C dL_put_27 rfl rfl rfl ?_
        refine zj_iload_n 29 2 C dL_put_28 rfl rfl rfl ?_
        refine zj_iload_n 30 3 C dL_put_29 rfl rfl rfl ?_
        refine zj_iast 31 0 [(y1, .inl (cI, 24, .inl (zA (zU g p1 v1)))), (yt, .inl (cI, 2, .inl (zA ty)))] C (by omega) (by omega) rfl rfl rfl dL_put_30 rfl ?_
        subst hQ
        exact zj_return C hr ⟨(zU g p1 v1), (fun x h0 h1 => by have h := hg x; simp only [zU, zIns]; split <;> split <;> (try split) <;> omega), rfl⟩ (by decide) (by decide) dL_put_31
      · skip
        refine zj_aload_n 12 0 C dL_put_11 rfl rfl rfl ?_
        refine zj_iload 14 4 C dL_put_12 rfl rfl ?_
        refine zj_aload_n 15 0 C dL_put_14 rfl rfl rfl ?_
        refine zj_iload 17 4 C dL_put_15 rfl rfl ?_
        refine zj_iconst 18 C dL_put_17 rfl ?_
        refine zj_isub 19 C dL_put_18 rfl ?_
        refine zj_iald 20 0 C (by omega) (by omega) rfl rfl dL_put_19 rfl ?_
        refine zj_iast 21 0 [(y1, .inl (cI, 24, .inl (zA (zU g i (g (i - 1)))))), (yt, .inl (cI, 2, .inl (zA ty)))] C (by omega) (by omega) rfl rfl rfl dL_put_20 rfl ?_
        refine zj_iinc 24 4 [(4, .int (zI (i + (-1)))), (0, .ref y1), (1, .ref yt), (2, .int (zI p1)), (3, .int (zI v1))] C dL_put_21 rfl rfl (by decide) rfl ?_
        refine zj_goto 5 C dL_put_24 (by decide) ?_
        refine zj_lv [1, 2, 3, 4, 0] [(0, .ref y1), (1, .ref yt), (2, .int (zI p1)), (3, .int (zI v1)), (4, .int (zI (i + (-1))))] rfl ?_
        exact ih (i + (-1)) (zU g i (g (i - 1))) (by omega) (by intro x; have h := hg x; have h2 := hg (i - 1); simp only [zU]; constructor <;> intros <;> split <;> (try subst x) <;> (try omega) <;> (simp_all <;> omega)) (by omega)
  refine zj_lv [1, 2, 3, 4, 0] [(0, .ref y1), (1, .ref yt), (2, .int (zI p1)), (3, .int (zI v1)), (4, .int (zI (ty 1)))] rfl ?_
  exact hL5 (24) (ty 1) f1 (by omega) (by intro x; exact ⟨fun _ => rfl, fun h1 h2 => absurd h1 (by omega)⟩) (by omega)

abbrev rm_L_take : Room := { frames := 0, cells := 0, slots := 0, locals := 0 }
set_option maxRecDepth 100000 in
set_option maxHeartbeats 4000000 in
theorem c_L_take (l : Launch) (D : va_G) (cI cS cJ : ClassId) (y1 : Nat) (yt : Nat) (f1 : Int → Int) (ty : Int → Int) (n1 : Int) (p1 : Int) (hp : 0 ≤ p1 ∧ p1 < n1 ∧ n1 ≤ 24) (ht : ty 1 = n1) : zMv l yL_take wsL_take rm_L_take D (zTy cI cS cJ) [.ref y1, .ref yt, .int (zI p1)] [(y1, .inl (cI, 24, .inl (zA f1))), (yt, .inl (cI, 2, .inl (zA ty)))] (fun w => ∃ (f2 : Int → Int), (∀ x, 0 ≤ x → x < n1 - 1 → f2 x = zDel f1 p1 x) ∧ w = [(y1, .inl (cI, 24, .inl (zA f2))), (yt, .inl (cI, 2, .inl (zA ty)))]) 0 0 := by
  intro sz
  refine zMet_of (Qc := fun A => va_Qv _ (zB D (zTy cI cS cJ) A) A) RL [(0, .ref y1), (1, .ref yt), (2, .int (zI p1))] rfl (by decide +kernel) rfl (Nat.le_of_ble_eq_true rfl) rfl ?_ sz
  intro p e s m args below meth c A Q hQ C hr hini
  refine zj_iload_n 1 2 C dL_take_0 rfl rfl rfl ?_
  refine zj_istore_n 2 [(3, .int (zI p1)), (0, .ref y1), (1, .ref yt), (2, .int (zI p1))] C dL_take_1 rfl rfl (by decide) rfl ?_
  have hL2 : ∀ (N : Nat) (i : Int) (g : Int → Int), (p1 ≤ i ∧ i ≤ n1 - 1) → (∀ x, (x < p1 → g x = f1 x) ∧ (p1 ≤ x → x < i → g x = f1 (x + 1)) ∧ (i ≤ x → g x = f1 x)) → (23 - i < N) → zJ p l e rm_L_take s m args below meth c Q D A 4 [(y1, .inl (cI, 24, .inl (zA g))), (yt, .inl (cI, 2, .inl (zA ty)))] (0) (0) [(0, .ref y1), (1, .ref yt), (2, .int (zI p1)), (3, .int (zI i))] 2 [] := by
    intro N
    induction N with
    | zero => intro i g hi hg hN; exact absurd hN (by omega)
    | succ N ih =>
      intro i g hi hg hN
      refine zj_iload_n 3 3 C dL_take_2 rfl rfl rfl ?_
      refine zj_aload_n 4 1 C dL_take_3 rfl rfl rfl ?_
      refine zj_iconst 5 C dL_take_4 rfl ?_
      refine zj_iald 6 1 C (by omega) (by omega) rfl rfl dL_take_5 rfl ?_
      refine zj_iconst 7 C dL_take_6 rfl ?_
      refine zj_isub 8 C dL_take_7 rfl ?_
      refine zj_icmp_ge 11 25 C (by omega) (by omega) dL_take_8 rfl (by decide) (fun h_1 => ?_) (fun h_1 => ?_)
      · skip
        subst hQ
        exact zj_return C hr ⟨g, (fun x h0 h1 => by have h := hg x; simp only [zDel]; split <;> (try split) <;> omega), rfl⟩ (by decide) (by decide) dL_take_25
      · skip
        refine zj_aload_n 12 0 C dL_take_11 rfl rfl rfl ?_
        refine zj_iload_n 13 3 C dL_take_12 rfl rfl rfl ?_
        refine zj_aload_n 14 0 C dL_take_13 rfl rfl rfl ?_
        refine zj_iload_n 15 3 C dL_take_14 rfl rfl rfl ?_
        refine zj_iconst 16 C dL_take_15 rfl ?_
        refine zj_iadd 17 C dL_take_16 rfl ?_
        refine zj_iald 18 0 C (by omega) (by omega) rfl rfl dL_take_17 rfl ?_
        refine zj_iast 19 0 [(y1, .inl (cI, 24, .inl (zA (zU g i (g (i + 1)))))), (yt, .inl (cI, 2, .inl (zA ty)))] C (by omega) (by omega) rfl rfl rfl dL_take_18 rfl ?_
        refine zj_iinc 22 3 [(3, .int (zI (i + 1))), (0, .ref y1), (1, .ref yt), (2, .int (zI p1))] C dL_take_19 rfl rfl (by decide) rfl ?_
        refine zj_goto 2 C dL_take_22 (by decide) ?_
        refine zj_lv [1, 2, 3, 0] [(0, .ref y1), (1, .ref yt), (2, .int (zI p1)), (3, .int (zI (i + 1)))] rfl ?_
        exact ih (i + 1) (zU g i (g (i + 1))) (by omega) (by intro x; have h := hg x; have h2 := (hg (i + 1)).2.2 (by omega); simp only [zU]; split <;> (try subst x) <;> refine ⟨fun _ => ?_, fun _ _ => ?_, fun _ => ?_⟩ <;> omega) (by omega)
  refine zj_lv [1, 2, 3, 0] [(0, .ref y1), (1, .ref yt), (2, .int (zI p1)), (3, .int (zI p1))] rfl ?_
  exact hL2 (24) p1 f1 (by omega) (by intro x; exact ⟨fun _ => rfl, fun h1 h2 => absurd h1 (by omega), fun _ => rfl⟩) (by omega)

abbrev rm_L_takes : Room := { frames := 0, cells := 0, slots := 0, locals := 0 }
set_option maxRecDepth 100000 in
set_option maxHeartbeats 4000000 in
theorem c_L_takes (l : Launch) (D : va_G) (cI cS cJ : ClassId) (yk : Nat) (yw : Nat) (yp : Nat) (yr : Nat) (yu : Nat) (Kl : Int → Int) (Wl : Int → Int) (Pl : Int → Int) (Rl : Int → Int) (Ul : Int → Int) (i1 : Int) (p1 : Int) (x1 : Int) (hi : 0 ≤ i1 ∧ i1 < 24) (hp : 0 ≤ p1 ∧ p1 < 16) (hx : 0 ≤ x1 ∧ x1 < 24) (hb : (0 ≤ Kl i1 ∧ Kl i1 ≤ 3) ∧ (0 ≤ Wl i1 ∧ Wl i1 ≤ 100) ∧ (-1 ≤ Pl i1 ∧ Pl i1 ≤ 100) ∧ (-1 ≤ Rl i1 ∧ Rl i1 ≤ 100) ∧ (-1 ≤ Ul i1 ∧ Ul i1 ≤ 100)) : zMi l yL_takes wsL_takes rm_L_takes D (zTy cI cS cJ) [.ref yk, .ref yw, .ref yp, .ref yr, .ref yu, .int (zI i1), .int (zI p1), .int (zI x1)] [(yk, .inl (cI, 24, .inl (zA Kl))), (yw, .inl (cI, 24, .inl (zA Wl))), (yp, .inl (cI, 24, .inl (zA Pl))), (yr, .inl (cI, 24, .inl (zA Rl))), (yu, .inl (cI, 24, .inl (zA Ul)))] (fun r w => ∃ (r1 : Int), ((r1 = 1 ∧ kTs Kl Wl Pl Rl Ul i1 p1 x1) ∨ (r1 = 0 ∧ ¬ kTs Kl Wl Pl Rl Ul i1 p1 x1)) ∧ r = zI r1 ∧ w = [(yk, .inl (cI, 24, .inl (zA Kl))), (yw, .inl (cI, 24, .inl (zA Wl))), (yp, .inl (cI, 24, .inl (zA Pl))), (yr, .inl (cI, 24, .inl (zA Rl))), (yu, .inl (cI, 24, .inl (zA Ul)))]) 0 0 := by
  intro sz
  refine zMet_of (Qc := fun A => va_Qi _ (zB D (zTy cI cS cJ) A) A) RL [(0, .ref yk), (1, .ref yw), (2, .ref yp), (3, .ref yr), (4, .ref yu), (5, .int (zI i1)), (6, .int (zI p1)), (7, .int (zI x1))] rfl (by decide +kernel) rfl (Nat.le_of_ble_eq_true rfl) rfl ?_ sz
  intro p e s m args below meth c A Q hQ C hr hini
  refine zj_aload_n 1 2 C dL_takes_0 rfl rfl rfl ?_
  refine zj_iload 3 5 C dL_takes_1 rfl rfl ?_
  refine zj_iald 4 2 C (by omega) (by omega) rfl rfl dL_takes_3 rfl ?_
  refine zj_if_ge 7 9 C (by omega) dL_takes_4 rfl (by decide) (fun h_1 => ?_) (fun h_1 => ?_)
  · skip
    refine zj_aload_n 10 0 C dL_takes_9 rfl rfl rfl ?_
    refine zj_iload 12 5 C dL_takes_10 rfl rfl ?_
    refine zj_iald 13 0 C (by omega) (by omega) rfl rfl dL_takes_12 rfl ?_
    refine zj_iconst 14 C dL_takes_13 rfl ?_
    refine zj_icmp_le 17 51 C (by omega) (by omega) dL_takes_14 rfl (by decide) (fun h_2 => ?_) (fun h_2 => ?_)
    · skip
      refine zj_iload 53 6 C dL_takes_51 rfl rfl ?_
      refine zj_aload_n 54 2 C dL_takes_53 rfl rfl rfl ?_
      refine zj_iload 56 5 C dL_takes_54 rfl rfl ?_
      refine zj_iald 57 2 C (by omega) (by omega) rfl rfl dL_takes_56 rfl ?_
      refine zj_icmp_ne 60 107 C (by omega) (by omega) dL_takes_57 rfl (by decide) (fun h_3 => ?_) (fun h_3 => ?_)
      · skip
        refine zj_iconst 108 C dL_takes_107 rfl ?_
        subst hQ
        exact zj_zret C (zI_bool (by omega)) hr ⟨0, (by unfold kTs; omega), rfl, rfl⟩ (by decide) (by decide) dL_takes_108
      · skip
        refine zj_iload 62 7 C dL_takes_60 rfl rfl ?_
        refine zj_bipush 64 C dL_takes_62 rfl rfl ?_
        refine zj_idiv 65 C (by omega) (by omega) dL_takes_64 rfl ?_
        refine zj_aload_n 66 3 C dL_takes_65 rfl rfl rfl ?_
        refine zj_iload 68 5 C dL_takes_66 rfl rfl ?_
        refine zj_iald 69 3 C (by omega) (by omega) rfl rfl dL_takes_68 rfl ?_
        refine zj_icmp_ne 72 107 C (by omega) (by omega) dL_takes_69 rfl (by decide) (fun h_4 => ?_) (fun h_4 => ?_)
        · skip
          refine zj_iconst 108 C dL_takes_107 rfl ?_
          subst hQ
          exact zj_zret C (zI_bool (by omega)) hr ⟨0, (by unfold kTs; omega), rfl, rfl⟩ (by decide) (by decide) dL_takes_108
        · skip
          refine zj_iload 74 7 C dL_takes_72 rfl rfl ?_
          refine zj_bipush 76 C dL_takes_74 rfl rfl ?_
          refine zj_irem 77 C (by omega) (by omega) dL_takes_76 rfl ?_
          refine zj_aload 79 4 C dL_takes_77 rfl rfl ?_
          refine zj_iload 81 5 C dL_takes_79 rfl rfl ?_
          refine zj_iald 82 4 C (by omega) (by omega) rfl rfl dL_takes_81 rfl ?_
          refine zj_icmp_lt 85 107 C (by omega) (by omega) dL_takes_82 rfl (by decide) (fun h_5 => ?_) (fun h_5 => ?_)
          · skip
            refine zj_iconst 108 C dL_takes_107 rfl ?_
            subst hQ
            exact zj_zret C (zI_bool (by omega)) hr ⟨0, (by unfold kTs; omega), rfl, rfl⟩ (by decide) (by decide) dL_takes_108
          · skip
            refine zj_iload 87 7 C dL_takes_85 rfl rfl ?_
            refine zj_bipush 89 C dL_takes_87 rfl rfl ?_
            refine zj_irem 90 C (by omega) (by omega) dL_takes_89 rfl ?_
            refine zj_aload 92 4 C dL_takes_90 rfl rfl ?_
            refine zj_iload 94 5 C dL_takes_92 rfl rfl ?_
            refine zj_iald 95 4 C (by omega) (by omega) rfl rfl dL_takes_94 rfl ?_
            refine zj_aload_n 96 1 C dL_takes_95 rfl rfl rfl ?_
            refine zj_iload 98 5 C dL_takes_96 rfl rfl ?_
            refine zj_iald 99 1 C (by omega) (by omega) rfl rfl dL_takes_98 rfl ?_
            refine zj_iadd 100 C dL_takes_99 rfl ?_
            refine zj_icmp_ge 103 107 C (by omega) (by omega) dL_takes_100 rfl (by decide) (fun h_6 => ?_) (fun h_6 => ?_)
            · skip
              refine zj_iconst 108 C dL_takes_107 rfl ?_
              subst hQ
              exact zj_zret C (zI_bool (by omega)) hr ⟨0, (by unfold kTs; omega), rfl, rfl⟩ (by decide) (by decide) dL_takes_108
            · skip
              refine zj_iconst 104 C dL_takes_103 rfl ?_
              refine zj_goto 108 C dL_takes_104 (by decide) ?_
              subst hQ
              exact zj_zret C (zI_bool (by omega)) hr ⟨1, (by unfold kTs; omega), rfl, rfl⟩ (by decide) (by decide) dL_takes_108
    · skip
      refine zj_iload 19 6 C dL_takes_17 rfl rfl ?_
      refine zj_aload_n 20 2 C dL_takes_19 rfl rfl rfl ?_
      refine zj_iload 22 5 C dL_takes_20 rfl rfl ?_
      refine zj_iald 23 2 C (by omega) (by omega) rfl rfl dL_takes_22 rfl ?_
      refine zj_icmp_eq 26 45 C (by omega) (by omega) dL_takes_23 rfl (by decide) (fun h_7 => ?_) (fun h_7 => ?_)
      · skip
        refine zj_iconst 46 C dL_takes_45 rfl ?_
        refine zj_goto 50 C dL_takes_46 (by decide) ?_
        subst hQ
        exact zj_zret C (zI_bool (by omega)) hr ⟨1, (by unfold kTs; omega), rfl, rfl⟩ (by decide) (by decide) dL_takes_50
      · skip
        refine zj_aload_n 27 0 C dL_takes_26 rfl rfl rfl ?_
        refine zj_iload 29 5 C dL_takes_27 rfl rfl ?_
        refine zj_iald 30 0 C (by omega) (by omega) rfl rfl dL_takes_29 rfl ?_
        refine zj_iconst 31 C dL_takes_30 rfl ?_
        refine zj_icmp_ne 34 49 C (by omega) (by omega) dL_takes_31 rfl (by decide) (fun h_8 => ?_) (fun h_8 => ?_)
        · skip
          refine zj_iconst 50 C dL_takes_49 rfl ?_
          subst hQ
          exact zj_zret C (zI_bool (by omega)) hr ⟨0, (by unfold kTs; omega), rfl, rfl⟩ (by decide) (by decide) dL_takes_50
        · skip
          refine zj_iload 36 6 C dL_takes_34 rfl rfl ?_
          refine zj_aload_n 37 2 C dL_takes_36 rfl rfl rfl ?_
          refine zj_iload 39 5 C dL_takes_37 rfl rfl ?_
          refine zj_iald 40 2 C (by omega) (by omega) rfl rfl dL_takes_39 rfl ?_
          refine zj_iconst 41 C dL_takes_40 rfl ?_
          refine zj_iadd 42 C dL_takes_41 rfl ?_
          refine zj_icmp_ne 45 49 C (by omega) (by omega) dL_takes_42 rfl (by decide) (fun h_9 => ?_) (fun h_9 => ?_)
          · skip
            refine zj_iconst 50 C dL_takes_49 rfl ?_
            subst hQ
            exact zj_zret C (zI_bool (by omega)) hr ⟨0, (by unfold kTs; omega), rfl, rfl⟩ (by decide) (by decide) dL_takes_50
          · skip
            refine zj_iconst 46 C dL_takes_45 rfl ?_
            refine zj_goto 50 C dL_takes_46 (by decide) ?_
            subst hQ
            exact zj_zret C (zI_bool (by omega)) hr ⟨1, (by unfold kTs; omega), rfl, rfl⟩ (by decide) (by decide) dL_takes_50
  · skip
    refine zj_iconst 8 C dL_takes_7 rfl ?_
    subst hQ
    exact zj_zret C (zI_bool (by omega)) hr ⟨0, (by unfold kTs; omega), rfl, rfl⟩ (by decide) (by decide) dL_takes_8

abbrev rm_L_pour : Room := { frames := 0, cells := 0, slots := 0, locals := 0 }
set_option maxRecDepth 100000 in
set_option maxHeartbeats 4000000 in
theorem c_L_pour (l : Launch) (D : va_G) (cI cS cJ : ClassId) (yk : Nat) (yw : Nat) (yb : Nat) (yp : Nat) (yr : Nat) (yu : Nat) (yt : Nat) (Kl : Int → Int) (Wl : Int → Int) (Bl : Int → Int) (Pl : Int → Int) (Rl : Int → Int) (Ul : Int → Int) (ty : Int → Int) (n1 : Int) (sg : Int) (hst : zOk n1 sg Kl Wl Bl) (ht : ty 0 = sg ∧ ty 1 = n1) : zMv l yL_pour wsL_pour rm_L_pour D (zTy cI cS cJ) [.ref yk, .ref yw, .ref yb, .ref yp, .ref yr, .ref yu, .ref yt] [(yk, .inl (cI, 24, .inl (zA Kl))), (yw, .inl (cI, 24, .inl (zA Wl))), (yb, .inl (cI, 24, .inl (zA Bl))), (yp, .inl (cI, 24, .inl (zA Pl))), (yr, .inl (cI, 24, .inl (zA Rl))), (yu, .inl (cI, 24, .inl (zA Ul))), (yt, .inl (cI, 2, .inl (zA ty)))] (fun w => ∃ (Pl2 : Int → Int), ∃ (Rl2 : Int → Int), ∃ (Ul2 : Int → Int), (∀ i : Nat, (i : Int) < n1 → Pl2 i = (zPos sg Kl Wl Bl i).1 ∧ Rl2 i = (zPos sg Kl Wl Bl i).2.1 ∧ Ul2 i = (zPos sg Kl Wl Bl i).2.2) ∧ w = [(yk, .inl (cI, 24, .inl (zA Kl))), (yw, .inl (cI, 24, .inl (zA Wl))), (yb, .inl (cI, 24, .inl (zA Bl))), (yp, .inl (cI, 24, .inl (zA Pl2))), (yr, .inl (cI, 24, .inl (zA Rl2))), (yu, .inl (cI, 24, .inl (zA Ul2))), (yt, .inl (cI, 2, .inl (zA ty)))]) 0 0 := by
  intro sz
  refine zMet_of (Qc := fun A => va_Qv _ (zB D (zTy cI cS cJ) A) A) RL [(0, .ref yk), (1, .ref yw), (2, .ref yb), (3, .ref yp), (4, .ref yr), (5, .ref yu), (6, .ref yt)] rfl (by decide +kernel) rfl (Nat.le_of_ble_eq_true rfl) rfl ?_ sz
  intro p e s m args below meth c A Q hQ C hr hini
  have hn := hst.1
  have hsg := hst.2.1
  refine zj_iconst 1 C dL_pour_0 rfl ?_
  refine zj_istore 3 [(7, .int (zI 0)), (0, .ref yk), (1, .ref yw), (2, .ref yb), (3, .ref yp), (4, .ref yr), (5, .ref yu), (6, .ref yt)] C dL_pour_1 rfl (by decide) rfl ?_
  refine zj_iconst 4 C dL_pour_3 rfl ?_
  refine zj_istore 6 [(8, .int (zI 0)), (7, .int (zI 0)), (0, .ref yk), (1, .ref yw), (2, .ref yb), (3, .ref yp), (4, .ref yr), (5, .ref yu), (6, .ref yt)] C dL_pour_4 rfl (by decide) rfl ?_
  refine zj_iconst 7 C dL_pour_6 rfl ?_
  refine zj_istore 9 [(9, .int (zI 0)), (8, .int (zI 0)), (7, .int (zI 0)), (0, .ref yk), (1, .ref yw), (2, .ref yb), (3, .ref yp), (4, .ref yr), (5, .ref yu), (6, .ref yt)] C dL_pour_7 rfl (by decide) rfl ?_
  refine zj_iconst 10 C dL_pour_9 rfl ?_
  refine zj_istore 12 [(10, .int (zI 0)), (9, .int (zI 0)), (8, .int (zI 0)), (7, .int (zI 0)), (0, .ref yk), (1, .ref yw), (2, .ref yb), (3, .ref yp), (4, .ref yr), (5, .ref yu), (6, .ref yt)] C dL_pour_10 rfl (by decide) rfl ?_
  refine zj_iconst 13 C dL_pour_12 rfl ?_
  refine zj_istore 15 [(11, .int (zI 1)), (10, .int (zI 0)), (9, .int (zI 0)), (8, .int (zI 0)), (7, .int (zI 0)), (0, .ref yk), (1, .ref yw), (2, .ref yb), (3, .ref yp), (4, .ref yr), (5, .ref yu), (6, .ref yt)] C dL_pour_13 rfl (by decide) rfl ?_
  refine zj_iconst 16 C dL_pour_15 rfl ?_
  refine zj_istore 18 [(12, .int (zI 0)), (11, .int (zI 1)), (10, .int (zI 0)), (9, .int (zI 0)), (8, .int (zI 0)), (7, .int (zI 0)), (0, .ref yk), (1, .ref yw), (2, .ref yb), (3, .ref yp), (4, .ref yr), (5, .ref yu), (6, .ref yt)] C dL_pour_16 rfl (by decide) rfl ?_
  have hL18 : ∀ (N : Nat) (j : Nat) (pg : Int) (ua : Int) (be : Int) (sx : Int) (go : Int) (P3 : Int → Int) (R3 : Int → Int) (U3 : Int → Int), ((j : Int) ≤ n1) → (zLS sg Kl Wl Bl j = (pg, ua, be, sx, go)) → (∀ i : Nat, i < j → P3 i = (zPos sg Kl Wl Bl i).1 ∧ R3 i = (zPos sg Kl Wl Bl i).2.1 ∧ U3 i = (zPos sg Kl Wl Bl i).2.2) → (n1 - (j : Int) < N) → zJ p l e rm_L_pour s m args below meth c Q D A 16 [(yk, .inl (cI, 24, .inl (zA Kl))), (yw, .inl (cI, 24, .inl (zA Wl))), (yb, .inl (cI, 24, .inl (zA Bl))), (yp, .inl (cI, 24, .inl (zA P3))), (yr, .inl (cI, 24, .inl (zA R3))), (yu, .inl (cI, 24, .inl (zA U3))), (yt, .inl (cI, 2, .inl (zA ty)))] (0) (0) [(0, .ref yk), (1, .ref yw), (2, .ref yb), (3, .ref yp), (4, .ref yr), (5, .ref yu), (6, .ref yt), (7, .int (zI pg)), (8, .int (zI ua)), (9, .int (zI be)), (10, .int (zI sx)), (11, .int (zI go)), (12, .int (zI (j : Int)))] 18 [] := by
    intro N
    induction N with
    | zero => intro j pg ua be sx go P3 R3 U3 hj hS hI hN; exact absurd hN (by omega)
    | succ N ih =>
      intro j pg ua be sx go P3 R3 U3 hj hS hI hN
      have hb := zLS_b hst j hj
      rw [hS] at hb
      dsimp only at hb
      have hL332 : ∀ (p3 : Int) (a3 : Int) (b3 : Int) (a4 : Int), ((j : Int) < n1) → (¬ 1 < Kl j) → ((p3, a3, b3) = zLX sg (Kl j) (Wl j) (Bl j) (pg, ua, be, sx, go)) → ((0 ≤ p3 ∧ p3 ≤ pg + 1) ∧ (0 ≤ b3 ∧ b3 ≤ be)) → (a4 = zLD (Kl j) (Wl j) p3 a3) → (0 ≤ a4 ∧ a4 + Wl j ≤ 24) → zJ p l e rm_L_pour s m args below meth c Q D A 16 [(yk, .inl (cI, 24, .inl (zA Kl))), (yw, .inl (cI, 24, .inl (zA Wl))), (yb, .inl (cI, 24, .inl (zA Bl))), (yp, .inl (cI, 24, .inl (zA P3))), (yr, .inl (cI, 24, .inl (zA (zU R3 (j : Int) (-1))))), (yu, .inl (cI, 24, .inl (zA (zU U3 (j : Int) (-1))))), (yt, .inl (cI, 2, .inl (zA ty)))] (0) (0) [(0, .ref yk), (1, .ref yw), (2, .ref yb), (3, .ref yp), (4, .ref yr), (5, .ref yu), (6, .ref yt), (7, .int (zI p3)), (8, .int (zI a4)), (9, .int (zI b3)), (10, .int (zI sx)), (11, .int (zI go)), (12, .int (zI (j : Int)))] 332 [] := by
        intro p3 a3 b3 a4 hjn hk1 hx2 hxp ha4 hab4
        have hk := hst.2.2 j (by omega) (by omega)
        refine zj_iload 334 11 C dL_pour_332 rfl rfl ?_
        refine zj_if_eq 337 348 C (by omega) dL_pour_334 rfl (by decide) (fun h_1 => ?_) (fun h_1 => ?_)
        · skip
          refine zj_iconst 349 C dL_pour_348 rfl ?_
          refine zj_istore 351 [(11, .int (zI 0)), (0, .ref yk), (1, .ref yw), (2, .ref yb), (3, .ref yp), (4, .ref yr), (5, .ref yu), (6, .ref yt), (7, .int (zI p3)), (8, .int (zI a4)), (9, .int (zI b3)), (10, .int (zI sx)), (12, .int (zI (j : Int)))] C dL_pour_349 rfl (by decide) rfl ?_
          refine zj_aload_n 352 4 C dL_pour_351 rfl rfl rfl ?_
          refine zj_iload 354 12 C dL_pour_352 rfl rfl ?_
          refine zj_iload 356 0 C dL_pour_354 rfl rfl ?_
          refine zj_if_eq 359 364 C (by omega) dL_pour_356 rfl (by decide) (fun h_2 => ?_) (fun h_2 => ?_)
          · skip
            refine zj_iconst 365 C dL_pour_364 rfl ?_
            refine zj_iast 366 3 [(yk, .inl (cI, 24, .inl (zA Kl))), (yw, .inl (cI, 24, .inl (zA Wl))), (yb, .inl (cI, 24, .inl (zA Bl))), (yp, .inl (cI, 24, .inl (zA (zU P3 (j : Int) (-1))))), (yr, .inl (cI, 24, .inl (zA (zU R3 (j : Int) (-1))))), (yu, .inl (cI, 24, .inl (zA (zU U3 (j : Int) (-1))))), (yt, .inl (cI, 2, .inl (zA ty)))] C (by omega) (by omega) rfl rfl rfl dL_pour_365 rfl ?_
            refine zj_aload 368 5 C dL_pour_366 rfl rfl ?_
            refine zj_iload 370 12 C dL_pour_368 rfl rfl ?_
            refine zj_iload 372 0 C dL_pour_370 rfl rfl ?_
            refine zj_if_eq 375 383 C (by omega) dL_pour_372 rfl (by decide) (fun h_3 => ?_) (fun h_3 => ?_)
            · skip
              refine zj_iconst 384 C dL_pour_383 rfl ?_
              refine zj_iast 385 4 [(yk, .inl (cI, 24, .inl (zA Kl))), (yw, .inl (cI, 24, .inl (zA Wl))), (yb, .inl (cI, 24, .inl (zA Bl))), (yp, .inl (cI, 24, .inl (zA (zU P3 (j : Int) (-1))))), (yr, .inl (cI, 24, .inl (zA (zU (zU R3 (j : Int) (-1)) (j : Int) (-1))))), (yu, .inl (cI, 24, .inl (zA (zU U3 (j : Int) (-1))))), (yt, .inl (cI, 2, .inl (zA ty)))] C (by omega) (by omega) rfl rfl rfl dL_pour_384 rfl ?_
              refine zj_aload 387 6 C dL_pour_385 rfl rfl ?_
              refine zj_iload 389 12 C dL_pour_387 rfl rfl ?_
              refine zj_iload 391 0 C dL_pour_389 rfl rfl ?_
              refine zj_if_eq 394 402 C (by omega) dL_pour_391 rfl (by decide) (fun h_4 => ?_) (fun h_4 => ?_)
              · skip
                refine zj_iconst 403 C dL_pour_402 rfl ?_
                refine zj_iast 404 5 [(yk, .inl (cI, 24, .inl (zA Kl))), (yw, .inl (cI, 24, .inl (zA Wl))), (yb, .inl (cI, 24, .inl (zA Bl))), (yp, .inl (cI, 24, .inl (zA (zU P3 (j : Int) (-1))))), (yr, .inl (cI, 24, .inl (zA (zU (zU R3 (j : Int) (-1)) (j : Int) (-1))))), (yu, .inl (cI, 24, .inl (zA (zU (zU U3 (j : Int) (-1)) (j : Int) (-1))))), (yt, .inl (cI, 2, .inl (zA ty)))] C (by omega) (by omega) rfl rfl rfl dL_pour_403 rfl ?_
                refine zj_iload 406 9 C dL_pour_404 rfl rfl ?_
                refine zj_aload_n 407 2 C dL_pour_406 rfl rfl rfl ?_
                refine zj_iload 409 12 C dL_pour_407 rfl rfl ?_
                refine zj_iald 410 1 C (by omega) (by omega) rfl rfl dL_pour_409 rfl ?_
                refine zj_iadd 411 C dL_pour_410 rfl ?_
                refine zj_istore 413 [(8, .int (zI (a4 + (Wl (j : Int))))), (11, .int (zI 0)), (0, .ref yk), (1, .ref yw), (2, .ref yb), (3, .ref yp), (4, .ref yr), (5, .ref yu), (6, .ref yt), (7, .int (zI p3)), (9, .int (zI b3)), (10, .int (zI sx)), (12, .int (zI (j : Int)))] C dL_pour_411 rfl (by decide) rfl ?_
                refine zj_iload 415 10 C dL_pour_413 rfl rfl ?_
                refine zj_aload_n 416 4 C dL_pour_415 rfl rfl rfl ?_
                refine zj_iload 418 12 C dL_pour_416 rfl rfl ?_
                refine zj_iald 419 2 C (by omega) (by omega) rfl rfl dL_pour_418 rfl ?_
                refine zj_iadd 420 C dL_pour_419 rfl ?_
                refine zj_istore 422 [(9, .int (zI (b3 + (Bl (j : Int))))), (8, .int (zI (a4 + (Wl (j : Int))))), (11, .int (zI 0)), (0, .ref yk), (1, .ref yw), (2, .ref yb), (3, .ref yp), (4, .ref yr), (5, .ref yu), (6, .ref yt), (7, .int (zI p3)), (10, .int (zI sx)), (12, .int (zI (j : Int)))] C dL_pour_420 rfl (by decide) rfl ?_
                refine zj_iconst 423 C dL_pour_422 rfl ?_
                refine zj_istore 425 [(10, .int (zI 1)), (9, .int (zI (b3 + (Bl (j : Int))))), (8, .int (zI (a4 + (Wl (j : Int))))), (11, .int (zI 0)), (0, .ref yk), (1, .ref yw), (2, .ref yb), (3, .ref yp), (4, .ref yr), (5, .ref yu), (6, .ref yt), (7, .int (zI p3)), (12, .int (zI (j : Int)))] C dL_pour_423 rfl (by decide) rfl ?_
                refine zj_iinc 428 12 [(12, .int (zI ((j : Int) + 1))), (10, .int (zI 1)), (9, .int (zI (b3 + (Bl (j : Int))))), (8, .int (zI (a4 + (Wl (j : Int))))), (11, .int (zI 0)), (0, .ref yk), (1, .ref yw), (2, .ref yb), (3, .ref yp), (4, .ref yr), (5, .ref yu), (6, .ref yt), (7, .int (zI p3))] C dL_pour_425 rfl rfl (by decide) rfl ?_
                refine zj_goto 18 C dL_pour_428 (by decide) ?_
                obtain ⟨hn1, hn2⟩ := zLS_r (g2 := 0) hS hk1 hx2 ha4 (by omega)
                simp only [zSel_0] at hn2
                have hpo := (zLO_pos hst j (by omega)).symm.trans hn2
                refine zj_lv [5, 6, 7, 8, 9, 10, 11, 12, 3, 2, 1, 4, 0] [(0, .ref yk), (1, .ref yw), (2, .ref yb), (3, .ref yp), (4, .ref yr), (5, .ref yu), (6, .ref yt), (7, .int (zI p3)), (8, .int (zI (a4 + (Wl (j : Int))))), (9, .int (zI (b3 + (Bl (j : Int))))), (10, .int (zI 1)), (11, .int (zI 0)), (12, .int (zI ((j : Int) + 1)))] rfl ?_
                refine zj_eqlv (lv' := [(0, .ref yk), (1, .ref yw), (2, .ref yb), (3, .ref yp), (4, .ref yr), (5, .ref yu), (6, .ref yt), (7, .int (zI p3)), (8, .int (zI (a4 + (Wl (j : Int))))), (9, .int (zI (b3 + (Bl (j : Int))))), (10, .int (zI 1)), (11, .int (zI 0)), (12, .int (zI ((j + 1) : Int)))]) (by rfl) ?_
                exact ih (j + 1) p3 (a4 + (Wl (j : Int))) (b3 + (Bl (j : Int))) 1 0 (zU P3 (j : Int) (-1)) (zU (zU R3 (j : Int) (-1)) (j : Int) (-1)) (zU (zU U3 (j : Int) (-1)) (j : Int) (-1)) (by omega) (hn1) ((zPut3 (zPut0 hI) hpo)) (by omega)
              · exact absurd h_4 (by omega)
            · exact absurd h_3 (by omega)
          · exact absurd h_2 (by omega)
        · skip
          refine zj_iload 339 7 C dL_pour_337 rfl rfl ?_
          refine zj_bipush 341 C dL_pour_339 rfl rfl ?_
          refine zj_icmp_ge 344 348 C (by omega) (by omega) dL_pour_341 rfl (by decide) (fun h_5 => ?_) (fun h_5 => ?_)
          · skip
            refine zj_iconst 349 C dL_pour_348 rfl ?_
            refine zj_istore 351 [(11, .int (zI 0)), (0, .ref yk), (1, .ref yw), (2, .ref yb), (3, .ref yp), (4, .ref yr), (5, .ref yu), (6, .ref yt), (7, .int (zI p3)), (8, .int (zI a4)), (9, .int (zI b3)), (10, .int (zI sx)), (12, .int (zI (j : Int)))] C dL_pour_349 rfl (by decide) rfl ?_
            refine zj_aload_n 352 4 C dL_pour_351 rfl rfl rfl ?_
            refine zj_iload 354 12 C dL_pour_352 rfl rfl ?_
            refine zj_iload 356 0 C dL_pour_354 rfl rfl ?_
            refine zj_if_eq 359 364 C (by omega) dL_pour_356 rfl (by decide) (fun h_6 => ?_) (fun h_6 => ?_)
            · skip
              refine zj_iconst 365 C dL_pour_364 rfl ?_
              refine zj_iast 366 3 [(yk, .inl (cI, 24, .inl (zA Kl))), (yw, .inl (cI, 24, .inl (zA Wl))), (yb, .inl (cI, 24, .inl (zA Bl))), (yp, .inl (cI, 24, .inl (zA (zU P3 (j : Int) (-1))))), (yr, .inl (cI, 24, .inl (zA (zU R3 (j : Int) (-1))))), (yu, .inl (cI, 24, .inl (zA (zU U3 (j : Int) (-1))))), (yt, .inl (cI, 2, .inl (zA ty)))] C (by omega) (by omega) rfl rfl rfl dL_pour_365 rfl ?_
              refine zj_aload 368 5 C dL_pour_366 rfl rfl ?_
              refine zj_iload 370 12 C dL_pour_368 rfl rfl ?_
              refine zj_iload 372 0 C dL_pour_370 rfl rfl ?_
              refine zj_if_eq 375 383 C (by omega) dL_pour_372 rfl (by decide) (fun h_7 => ?_) (fun h_7 => ?_)
              · skip
                refine zj_iconst 384 C dL_pour_383 rfl ?_
                refine zj_iast 385 4 [(yk, .inl (cI, 24, .inl (zA Kl))), (yw, .inl (cI, 24, .inl (zA Wl))), (yb, .inl (cI, 24, .inl (zA Bl))), (yp, .inl (cI, 24, .inl (zA (zU P3 (j : Int) (-1))))), (yr, .inl (cI, 24, .inl (zA (zU (zU R3 (j : Int) (-1)) (j : Int) (-1))))), (yu, .inl (cI, 24, .inl (zA (zU U3 (j : Int) (-1))))), (yt, .inl (cI, 2, .inl (zA ty)))] C (by omega) (by omega) rfl rfl rfl dL_pour_384 rfl ?_
                refine zj_aload 387 6 C dL_pour_385 rfl rfl ?_
                refine zj_iload 389 12 C dL_pour_387 rfl rfl ?_
                refine zj_iload 391 0 C dL_pour_389 rfl rfl ?_
                refine zj_if_eq 394 402 C (by omega) dL_pour_391 rfl (by decide) (fun h_8 => ?_) (fun h_8 => ?_)
                · skip
                  refine zj_iconst 403 C dL_pour_402 rfl ?_
                  refine zj_iast 404 5 [(yk, .inl (cI, 24, .inl (zA Kl))), (yw, .inl (cI, 24, .inl (zA Wl))), (yb, .inl (cI, 24, .inl (zA Bl))), (yp, .inl (cI, 24, .inl (zA (zU P3 (j : Int) (-1))))), (yr, .inl (cI, 24, .inl (zA (zU (zU R3 (j : Int) (-1)) (j : Int) (-1))))), (yu, .inl (cI, 24, .inl (zA (zU (zU U3 (j : Int) (-1)) (j : Int) (-1))))), (yt, .inl (cI, 2, .inl (zA ty)))] C (by omega) (by omega) rfl rfl rfl dL_pour_403 rfl ?_
                  refine zj_iload 406 9 C dL_pour_404 rfl rfl ?_
                  refine zj_aload_n 407 2 C dL_pour_406 rfl rfl rfl ?_
                  refine zj_iload 409 12 C dL_pour_407 rfl rfl ?_
                  refine zj_iald 410 1 C (by omega) (by omega) rfl rfl dL_pour_409 rfl ?_
                  refine zj_iadd 411 C dL_pour_410 rfl ?_
                  refine zj_istore 413 [(8, .int (zI (a4 + (Wl (j : Int))))), (11, .int (zI 0)), (0, .ref yk), (1, .ref yw), (2, .ref yb), (3, .ref yp), (4, .ref yr), (5, .ref yu), (6, .ref yt), (7, .int (zI p3)), (9, .int (zI b3)), (10, .int (zI sx)), (12, .int (zI (j : Int)))] C dL_pour_411 rfl (by decide) rfl ?_
                  refine zj_iload 415 10 C dL_pour_413 rfl rfl ?_
                  refine zj_aload_n 416 4 C dL_pour_415 rfl rfl rfl ?_
                  refine zj_iload 418 12 C dL_pour_416 rfl rfl ?_
                  refine zj_iald 419 2 C (by omega) (by omega) rfl rfl dL_pour_418 rfl ?_
                  refine zj_iadd 420 C dL_pour_419 rfl ?_
                  refine zj_istore 422 [(9, .int (zI (b3 + (Bl (j : Int))))), (8, .int (zI (a4 + (Wl (j : Int))))), (11, .int (zI 0)), (0, .ref yk), (1, .ref yw), (2, .ref yb), (3, .ref yp), (4, .ref yr), (5, .ref yu), (6, .ref yt), (7, .int (zI p3)), (10, .int (zI sx)), (12, .int (zI (j : Int)))] C dL_pour_420 rfl (by decide) rfl ?_
                  refine zj_iconst 423 C dL_pour_422 rfl ?_
                  refine zj_istore 425 [(10, .int (zI 1)), (9, .int (zI (b3 + (Bl (j : Int))))), (8, .int (zI (a4 + (Wl (j : Int))))), (11, .int (zI 0)), (0, .ref yk), (1, .ref yw), (2, .ref yb), (3, .ref yp), (4, .ref yr), (5, .ref yu), (6, .ref yt), (7, .int (zI p3)), (12, .int (zI (j : Int)))] C dL_pour_423 rfl (by decide) rfl ?_
                  refine zj_iinc 428 12 [(12, .int (zI ((j : Int) + 1))), (10, .int (zI 1)), (9, .int (zI (b3 + (Bl (j : Int))))), (8, .int (zI (a4 + (Wl (j : Int))))), (11, .int (zI 0)), (0, .ref yk), (1, .ref yw), (2, .ref yb), (3, .ref yp), (4, .ref yr), (5, .ref yu), (6, .ref yt), (7, .int (zI p3))] C dL_pour_425 rfl rfl (by decide) rfl ?_
                  refine zj_goto 18 C dL_pour_428 (by decide) ?_
                  obtain ⟨hn1, hn2⟩ := zLS_r (g2 := 0) hS hk1 hx2 ha4 (by omega)
                  simp only [zSel_0] at hn2
                  have hpo := (zLO_pos hst j (by omega)).symm.trans hn2
                  refine zj_lv [5, 6, 7, 8, 9, 10, 11, 12, 3, 2, 1, 4, 0] [(0, .ref yk), (1, .ref yw), (2, .ref yb), (3, .ref yp), (4, .ref yr), (5, .ref yu), (6, .ref yt), (7, .int (zI p3)), (8, .int (zI (a4 + (Wl (j : Int))))), (9, .int (zI (b3 + (Bl (j : Int))))), (10, .int (zI 1)), (11, .int (zI 0)), (12, .int (zI ((j : Int) + 1)))] rfl ?_
                  refine zj_eqlv (lv' := [(0, .ref yk), (1, .ref yw), (2, .ref yb), (3, .ref yp), (4, .ref yr), (5, .ref yu), (6, .ref yt), (7, .int (zI p3)), (8, .int (zI (a4 + (Wl (j : Int))))), (9, .int (zI (b3 + (Bl (j : Int))))), (10, .int (zI 1)), (11, .int (zI 0)), (12, .int (zI ((j + 1) : Int)))]) (by rfl) ?_
                  exact ih (j + 1) p3 (a4 + (Wl (j : Int))) (b3 + (Bl (j : Int))) 1 0 (zU P3 (j : Int) (-1)) (zU (zU R3 (j : Int) (-1)) (j : Int) (-1)) (zU (zU U3 (j : Int) (-1)) (j : Int) (-1)) (by omega) (hn1) ((zPut3 (zPut0 hI) hpo)) (by omega)
                · exact absurd h_8 (by omega)
              · exact absurd h_7 (by omega)
            · exact absurd h_6 (by omega)
          · skip
            refine zj_iconst 345 C dL_pour_344 rfl ?_
            refine zj_goto 349 C dL_pour_345 (by decide) ?_
            refine zj_istore 351 [(11, .int (zI 1)), (0, .ref yk), (1, .ref yw), (2, .ref yb), (3, .ref yp), (4, .ref yr), (5, .ref yu), (6, .ref yt), (7, .int (zI p3)), (8, .int (zI a4)), (9, .int (zI b3)), (10, .int (zI sx)), (12, .int (zI (j : Int)))] C dL_pour_349 rfl (by decide) rfl ?_
            refine zj_aload_n 352 4 C dL_pour_351 rfl rfl rfl ?_
            refine zj_iload 354 12 C dL_pour_352 rfl rfl ?_
            refine zj_iload 356 0 C dL_pour_354 rfl rfl ?_
            refine zj_if_eq 359 364 C (by omega) dL_pour_356 rfl (by decide) (fun h_9 => ?_) (fun h_9 => ?_)
            · exact absurd h_9 (by omega)
            · skip
              refine zj_iload 361 8 C dL_pour_359 rfl rfl ?_
              refine zj_goto 365 C dL_pour_361 (by decide) ?_
              refine zj_iast 366 3 [(yk, .inl (cI, 24, .inl (zA Kl))), (yw, .inl (cI, 24, .inl (zA Wl))), (yb, .inl (cI, 24, .inl (zA Bl))), (yp, .inl (cI, 24, .inl (zA (zU P3 (j : Int) p3)))), (yr, .inl (cI, 24, .inl (zA (zU R3 (j : Int) (-1))))), (yu, .inl (cI, 24, .inl (zA (zU U3 (j : Int) (-1))))), (yt, .inl (cI, 2, .inl (zA ty)))] C (by omega) (by omega) rfl rfl rfl dL_pour_365 rfl ?_
              refine zj_aload 368 5 C dL_pour_366 rfl rfl ?_
              refine zj_iload 370 12 C dL_pour_368 rfl rfl ?_
              refine zj_iload 372 0 C dL_pour_370 rfl rfl ?_
              refine zj_if_eq 375 383 C (by omega) dL_pour_372 rfl (by decide) (fun h_10 => ?_) (fun h_10 => ?_)
              · exact absurd h_10 (by omega)
              · skip
                refine zj_iload 377 9 C dL_pour_375 rfl rfl ?_
                refine zj_bipush 379 C dL_pour_377 rfl rfl ?_
                refine zj_idiv 380 C (by omega) (by omega) dL_pour_379 rfl ?_
                refine zj_goto 384 C dL_pour_380 (by decide) ?_
                refine zj_iast 385 4 [(yk, .inl (cI, 24, .inl (zA Kl))), (yw, .inl (cI, 24, .inl (zA Wl))), (yb, .inl (cI, 24, .inl (zA Bl))), (yp, .inl (cI, 24, .inl (zA (zU P3 (j : Int) p3)))), (yr, .inl (cI, 24, .inl (zA (zU (zU R3 (j : Int) (-1)) (j : Int) (a4 / 6))))), (yu, .inl (cI, 24, .inl (zA (zU U3 (j : Int) (-1))))), (yt, .inl (cI, 2, .inl (zA ty)))] C (by omega) (by omega) rfl rfl rfl dL_pour_384 rfl ?_
                refine zj_aload 387 6 C dL_pour_385 rfl rfl ?_
                refine zj_iload 389 12 C dL_pour_387 rfl rfl ?_
                refine zj_iload 391 0 C dL_pour_389 rfl rfl ?_
                refine zj_if_eq 394 402 C (by omega) dL_pour_391 rfl (by decide) (fun h_11 => ?_) (fun h_11 => ?_)
                · exact absurd h_11 (by omega)
                · skip
                  refine zj_iload 396 9 C dL_pour_394 rfl rfl ?_
                  refine zj_bipush 398 C dL_pour_396 rfl rfl ?_
                  refine zj_irem 399 C (by omega) (by omega) dL_pour_398 rfl ?_
                  refine zj_goto 403 C dL_pour_399 (by decide) ?_
                  refine zj_iast 404 5 [(yk, .inl (cI, 24, .inl (zA Kl))), (yw, .inl (cI, 24, .inl (zA Wl))), (yb, .inl (cI, 24, .inl (zA Bl))), (yp, .inl (cI, 24, .inl (zA (zU P3 (j : Int) p3)))), (yr, .inl (cI, 24, .inl (zA (zU (zU R3 (j : Int) (-1)) (j : Int) (a4 / 6))))), (yu, .inl (cI, 24, .inl (zA (zU (zU U3 (j : Int) (-1)) (j : Int) (a4 % 6))))), (yt, .inl (cI, 2, .inl (zA ty)))] C (by omega) (by omega) rfl rfl rfl dL_pour_403 rfl ?_
                  refine zj_iload 406 9 C dL_pour_404 rfl rfl ?_
                  refine zj_aload_n 407 2 C dL_pour_406 rfl rfl rfl ?_
                  refine zj_iload 409 12 C dL_pour_407 rfl rfl ?_
                  refine zj_iald 410 1 C (by omega) (by omega) rfl rfl dL_pour_409 rfl ?_
                  refine zj_iadd 411 C dL_pour_410 rfl ?_
                  refine zj_istore 413 [(8, .int (zI (a4 + (Wl (j : Int))))), (11, .int (zI 1)), (0, .ref yk), (1, .ref yw), (2, .ref yb), (3, .ref yp), (4, .ref yr), (5, .ref yu), (6, .ref yt), (7, .int (zI p3)), (9, .int (zI b3)), (10, .int (zI sx)), (12, .int (zI (j : Int)))] C dL_pour_411 rfl (by decide) rfl ?_
                  refine zj_iload 415 10 C dL_pour_413 rfl rfl ?_
                  refine zj_aload_n 416 4 C dL_pour_415 rfl rfl rfl ?_
                  refine zj_iload 418 12 C dL_pour_416 rfl rfl ?_
                  refine zj_iald 419 2 C (by omega) (by omega) rfl rfl dL_pour_418 rfl ?_
                  refine zj_iadd 420 C dL_pour_419 rfl ?_
                  refine zj_istore 422 [(9, .int (zI (b3 + (Bl (j : Int))))), (8, .int (zI (a4 + (Wl (j : Int))))), (11, .int (zI 1)), (0, .ref yk), (1, .ref yw), (2, .ref yb), (3, .ref yp), (4, .ref yr), (5, .ref yu), (6, .ref yt), (7, .int (zI p3)), (10, .int (zI sx)), (12, .int (zI (j : Int)))] C dL_pour_420 rfl (by decide) rfl ?_
                  refine zj_iconst 423 C dL_pour_422 rfl ?_
                  refine zj_istore 425 [(10, .int (zI 1)), (9, .int (zI (b3 + (Bl (j : Int))))), (8, .int (zI (a4 + (Wl (j : Int))))), (11, .int (zI 1)), (0, .ref yk), (1, .ref yw), (2, .ref yb), (3, .ref yp), (4, .ref yr), (5, .ref yu), (6, .ref yt), (7, .int (zI p3)), (12, .int (zI (j : Int)))] C dL_pour_423 rfl (by decide) rfl ?_
                  refine zj_iinc 428 12 [(12, .int (zI ((j : Int) + 1))), (10, .int (zI 1)), (9, .int (zI (b3 + (Bl (j : Int))))), (8, .int (zI (a4 + (Wl (j : Int))))), (11, .int (zI 1)), (0, .ref yk), (1, .ref yw), (2, .ref yb), (3, .ref yp), (4, .ref yr), (5, .ref yu), (6, .ref yt), (7, .int (zI p3))] C dL_pour_425 rfl rfl (by decide) rfl ?_
                  refine zj_goto 18 C dL_pour_428 (by decide) ?_
                  obtain ⟨hn1, hn2⟩ := zLS_r (g2 := 1) hS hk1 hx2 ha4 (by omega)
                  simp only [zSel_1] at hn2
                  have hpo := (zLO_pos hst j (by omega)).symm.trans hn2
                  refine zj_lv [5, 6, 7, 8, 9, 10, 11, 12, 3, 2, 1, 4, 0] [(0, .ref yk), (1, .ref yw), (2, .ref yb), (3, .ref yp), (4, .ref yr), (5, .ref yu), (6, .ref yt), (7, .int (zI p3)), (8, .int (zI (a4 + (Wl (j : Int))))), (9, .int (zI (b3 + (Bl (j : Int))))), (10, .int (zI 1)), (11, .int (zI 1)), (12, .int (zI ((j : Int) + 1)))] rfl ?_
                  refine zj_eqlv (lv' := [(0, .ref yk), (1, .ref yw), (2, .ref yb), (3, .ref yp), (4, .ref yr), (5, .ref yu), (6, .ref yt), (7, .int (zI p3)), (8, .int (zI (a4 + (Wl (j : Int))))), (9, .int (zI (b3 + (Bl (j : Int))))), (10, .int (zI 1)), (11, .int (zI 1)), (12, .int (zI ((j + 1) : Int)))]) (by rfl) ?_
                  exact ih (j + 1) p3 (a4 + (Wl (j : Int))) (b3 + (Bl (j : Int))) 1 1 (zU P3 (j : Int) p3) (zU (zU R3 (j : Int) (-1)) (j : Int) (a4 / 6)) (zU (zU U3 (j : Int) (-1)) (j : Int) (a4 % 6)) (by omega) (hn1) ((zPut3 (zPut0 hI) hpo)) (by omega)
      have hL225 : ∀ (N225 : Nat) (a2 : Int) (ag : Int) (p3 : Int) (a3 : Int) (b3 : Int), ((j : Int) < n1) → (¬ 1 < Kl j) → (a2 = zLB (Wl j) (zLA (Bl j) sg ua be sx)) → ((ag = 0 ∧ (p3, a3, b3) = (pg, a2, be)) ∨ (ag = 1 ∧ (p3, a3, b3) = zLC (Kl j) (pg, a2, be)) ∨ (ag = 2 ∧ (p3, a3, b3) = zLC (Kl j) (zLC (Kl j) (pg, a2, be)))) → ((0 ≤ ag ∧ ag ≤ 2) ∧ (0 ≤ p3 ∧ p3 ≤ pg + ag) ∧ (0 ≤ a3 ∧ a3 ≤ 24) ∧ (0 ≤ b3 ∧ b3 ≤ be)) → (2 - ag < N225) → zJ p l e rm_L_pour s m args below meth c Q D A 16 [(yk, .inl (cI, 24, .inl (zA Kl))), (yw, .inl (cI, 24, .inl (zA Wl))), (yb, .inl (cI, 24, .inl (zA Bl))), (yp, .inl (cI, 24, .inl (zA P3))), (yr, .inl (cI, 24, .inl (zA (zU R3 (j : Int) (-1))))), (yu, .inl (cI, 24, .inl (zA (zU U3 (j : Int) (-1))))), (yt, .inl (cI, 2, .inl (zA ty)))] (0) (0) [(0, .ref yk), (1, .ref yw), (2, .ref yb), (3, .ref yp), (4, .ref yr), (5, .ref yu), (6, .ref yt), (7, .int (zI p3)), (8, .int (zI a3)), (9, .int (zI b3)), (10, .int (zI sx)), (11, .int (zI go)), (12, .int (zI (j : Int))), (15, .int (zI ag))] 225 [] := by
        intro N225
        induction N225 with
        | zero => intro a2 ag p3 a3 b3 hjn hk1 ha2 hX hX2 hN225; exact absurd hN225 (by omega)
        | succ N225 ih225 =>
          intro a2 ag p3 a3 b3 hjn hk1 ha2 hX hX2 hN225
          have hk := hst.2.2 j (by omega) (by omega)
          refine zj_iload 227 13 C dL_pour_225 rfl rfl ?_
          refine zj_iconst 228 C dL_pour_227 rfl ?_
          refine zj_icmp_ge 231 293 C (by omega) (by omega) dL_pour_228 rfl (by decide) (fun h_12 => ?_) (fun h_12 => ?_)
          · skip
            have hx2 : (p3, a3, b3) = zLX sg (Kl j) (Wl j) (Bl j) (pg, ua, be, sx, go) := by (rcases hX with ⟨q, e⟩ | ⟨q, e⟩ | ⟨q, e⟩; exact absurd q (by omega); exact absurd q (by omega); (rw [e, ha2]; rfl))
            have hxb := zLX_b (sg := sg) (k := Kl j) (w := Wl j) (t := Bl j) (S := (pg, ua, be, sx, go)) (by omega) (by dsimp only; omega) (by dsimp only; omega)
            rw [← hx2] at hxb
            dsimp only at hxb
            refine zj_aload_n 294 0 C dL_pour_293 rfl rfl rfl ?_
            refine zj_iload 296 12 C dL_pour_294 rfl rfl ?_
            refine zj_iald 297 0 C (by omega) (by omega) rfl rfl dL_pour_296 rfl ?_
            refine zj_iconst 298 C dL_pour_297 rfl ?_
            refine zj_icmp_ne 301 328 C (by omega) (by omega) dL_pour_298 rfl (by decide) (fun h_13 => ?_) (fun h_13 => ?_)
            · skip
              refine zj_iload 330 8 C dL_pour_328 rfl rfl ?_
              refine zj_istore 332 [(8, .int (zI a3)), (0, .ref yk), (1, .ref yw), (2, .ref yb), (3, .ref yp), (4, .ref yr), (5, .ref yu), (6, .ref yt), (7, .int (zI p3)), (9, .int (zI b3)), (10, .int (zI sx)), (11, .int (zI go)), (12, .int (zI (j : Int))), (15, .int (zI ag))] C dL_pour_330 rfl (by decide) rfl ?_
              refine zj_lv [1, 2, 3, 4, 5, 6, 7, 8, 0, 9, 10, 11, 12] [(0, .ref yk), (1, .ref yw), (2, .ref yb), (3, .ref yp), (4, .ref yr), (5, .ref yu), (6, .ref yt), (7, .int (zI p3)), (8, .int (zI a3)), (9, .int (zI b3)), (10, .int (zI sx)), (11, .int (zI go)), (12, .int (zI (j : Int)))] rfl ?_
              exact hL332 p3 a3 b3 a3 (by omega) (by omega) (hx2) (by omega) (by unfold zLD; split <;> omega) (by omega)
            · skip
              refine zj_iload 303 7 C dL_pour_301 rfl rfl ?_
              refine zj_iconst 304 C dL_pour_303 rfl ?_
              refine zj_irem 305 C (by omega) (by omega) dL_pour_304 rfl ?_
              refine zj_iconst 306 C dL_pour_305 rfl ?_
              refine zj_icmp_ne 309 328 C (by omega) (by omega) dL_pour_306 rfl (by decide) (fun h_14 => ?_) (fun h_14 => ?_)
              · skip
                refine zj_iload 330 8 C dL_pour_328 rfl rfl ?_
                refine zj_istore 332 [(8, .int (zI a3)), (0, .ref yk), (1, .ref yw), (2, .ref yb), (3, .ref yp), (4, .ref yr), (5, .ref yu), (6, .ref yt), (7, .int (zI p3)), (9, .int (zI b3)), (10, .int (zI sx)), (11, .int (zI go)), (12, .int (zI (j : Int))), (15, .int (zI ag))] C dL_pour_330 rfl (by decide) rfl ?_
                refine zj_lv [1, 2, 3, 4, 5, 6, 7, 8, 0, 9, 10, 11, 12] [(0, .ref yk), (1, .ref yw), (2, .ref yb), (3, .ref yp), (4, .ref yr), (5, .ref yu), (6, .ref yt), (7, .int (zI p3)), (8, .int (zI a3)), (9, .int (zI b3)), (10, .int (zI sx)), (11, .int (zI go)), (12, .int (zI (j : Int)))] rfl ?_
                exact hL332 p3 a3 b3 a3 (by omega) (by omega) (hx2) (by omega) (by unfold zLD; split <;> omega) (by omega)
              · skip
                refine zj_iload 311 8 C dL_pour_309 rfl rfl ?_
                refine zj_bipush 313 C dL_pour_311 rfl rfl ?_
                refine zj_idiv 314 C (by omega) (by omega) dL_pour_313 rfl ?_
                refine zj_bipush 316 C dL_pour_314 rfl rfl ?_
                refine zj_imul 317 C dL_pour_316 rfl ?_
                refine zj_bipush 319 C dL_pour_317 rfl rfl ?_
                refine zj_iadd 320 C dL_pour_319 rfl ?_
                refine zj_aload_n 321 1 C dL_pour_320 rfl rfl rfl ?_
                refine zj_iload 323 12 C dL_pour_321 rfl rfl ?_
                refine zj_iald 324 1 C (by omega) (by omega) rfl rfl dL_pour_323 rfl ?_
                refine zj_isub 325 C dL_pour_324 rfl ?_
                refine zj_goto 330 C dL_pour_325 (by decide) ?_
                refine zj_istore 332 [(8, .int (zI ((((a3 / 6) * 6) + 6) - (Wl (j : Int))))), (0, .ref yk), (1, .ref yw), (2, .ref yb), (3, .ref yp), (4, .ref yr), (5, .ref yu), (6, .ref yt), (7, .int (zI p3)), (9, .int (zI b3)), (10, .int (zI sx)), (11, .int (zI go)), (12, .int (zI (j : Int))), (15, .int (zI ag))] C dL_pour_330 rfl (by decide) rfl ?_
                refine zj_lv [1, 2, 3, 4, 5, 6, 7, 8, 0, 9, 10, 11, 12] [(0, .ref yk), (1, .ref yw), (2, .ref yb), (3, .ref yp), (4, .ref yr), (5, .ref yu), (6, .ref yt), (7, .int (zI p3)), (8, .int (zI ((((a3 / 6) * 6) + 6) - (Wl (j : Int))))), (9, .int (zI b3)), (10, .int (zI sx)), (11, .int (zI go)), (12, .int (zI (j : Int)))] rfl ?_
                exact hL332 p3 a3 b3 ((((a3 / 6) * 6) + 6) - (Wl (j : Int))) (by omega) (by omega) (hx2) (by omega) (by unfold zLD; split <;> omega) (by omega)
          · skip
            refine zj_iload 233 8 C dL_pour_231 rfl rfl ?_
            refine zj_bipush 235 C dL_pour_233 rfl rfl ?_
            refine zj_icmp_ne 238 247 C (by omega) (by omega) dL_pour_235 rfl (by decide) (fun h_15 => ?_) (fun h_15 => ?_)
            · skip
              refine zj_iload 249 8 C dL_pour_247 rfl rfl ?_
              refine zj_aload_n 250 0 C dL_pour_249 rfl rfl rfl ?_
              refine zj_iload 252 12 C dL_pour_250 rfl rfl ?_
              refine zj_iald 253 0 C (by omega) (by omega) rfl rfl dL_pour_252 rfl ?_
              refine zj_iconst 254 C dL_pour_253 rfl ?_
              refine zj_icmp_ne 257 283 C (by omega) (by omega) dL_pour_254 rfl (by decide) (fun h_16 => ?_) (fun h_16 => ?_)
              · skip
                refine zj_iconst 284 C dL_pour_283 rfl ?_
                refine zj_iadd 285 C dL_pour_284 rfl ?_
                refine zj_istore 287 [(8, .int (zI (a3 + 0))), (0, .ref yk), (1, .ref yw), (2, .ref yb), (3, .ref yp), (4, .ref yr), (5, .ref yu), (6, .ref yt), (7, .int (zI p3)), (9, .int (zI b3)), (10, .int (zI sx)), (11, .int (zI go)), (12, .int (zI (j : Int))), (15, .int (zI ag))] C dL_pour_285 rfl (by decide) rfl ?_
                refine zj_iinc 290 13 [(15, .int (zI (ag + 1))), (8, .int (zI (a3 + 0))), (0, .ref yk), (1, .ref yw), (2, .ref yb), (3, .ref yp), (4, .ref yr), (5, .ref yu), (6, .ref yt), (7, .int (zI p3)), (9, .int (zI b3)), (10, .int (zI sx)), (11, .int (zI go)), (12, .int (zI (j : Int)))] C dL_pour_287 rfl rfl (by decide) rfl ?_
                refine zj_goto 225 C dL_pour_290 (by decide) ?_
                refine zj_lv [2, 3, 4, 5, 6, 7, 8, 9, 1, 10, 11, 12, 13, 0] [(0, .ref yk), (1, .ref yw), (2, .ref yb), (3, .ref yp), (4, .ref yr), (5, .ref yu), (6, .ref yt), (7, .int (zI p3)), (8, .int (zI (a3 + 0))), (9, .int (zI b3)), (10, .int (zI sx)), (11, .int (zI go)), (12, .int (zI (j : Int))), (15, .int (zI (ag + 1)))] rfl ?_
                exact ih225 a2 (ag + 1) p3 (a3 + 0) b3 (by omega) (by omega) (ha2) (by have hz : (p3, a3 + 0, b3) = zLC (Kl j) (p3, a3, b3) := zLC_v (by omega); rcases hX with ⟨q, e⟩ | ⟨q, e⟩ | ⟨q, e⟩; exact Or.inr (Or.inl ⟨by omega, by rw [hz, e]⟩); exact Or.inr (Or.inr ⟨by omega, by rw [hz, e]⟩); exact absurd q (by omega)) (by omega) (by omega)
              · skip
                refine zj_iload 259 7 C dL_pour_257 rfl rfl ?_
                refine zj_iconst 260 C dL_pour_259 rfl ?_
                refine zj_irem 261 C (by omega) (by omega) dL_pour_260 rfl ?_
                refine zj_if_ne 264 283 C (by omega) dL_pour_261 rfl (by decide) (fun h_17 => ?_) (fun h_17 => ?_)
                · skip
                  refine zj_iconst 284 C dL_pour_283 rfl ?_
                  refine zj_iadd 285 C dL_pour_284 rfl ?_
                  refine zj_istore 287 [(8, .int (zI (a3 + 0))), (0, .ref yk), (1, .ref yw), (2, .ref yb), (3, .ref yp), (4, .ref yr), (5, .ref yu), (6, .ref yt), (7, .int (zI p3)), (9, .int (zI b3)), (10, .int (zI sx)), (11, .int (zI go)), (12, .int (zI (j : Int))), (15, .int (zI ag))] C dL_pour_285 rfl (by decide) rfl ?_
                  refine zj_iinc 290 13 [(15, .int (zI (ag + 1))), (8, .int (zI (a3 + 0))), (0, .ref yk), (1, .ref yw), (2, .ref yb), (3, .ref yp), (4, .ref yr), (5, .ref yu), (6, .ref yt), (7, .int (zI p3)), (9, .int (zI b3)), (10, .int (zI sx)), (11, .int (zI go)), (12, .int (zI (j : Int)))] C dL_pour_287 rfl rfl (by decide) rfl ?_
                  refine zj_goto 225 C dL_pour_290 (by decide) ?_
                  refine zj_lv [2, 3, 4, 5, 6, 7, 8, 9, 1, 10, 11, 12, 13, 0] [(0, .ref yk), (1, .ref yw), (2, .ref yb), (3, .ref yp), (4, .ref yr), (5, .ref yu), (6, .ref yt), (7, .int (zI p3)), (8, .int (zI (a3 + 0))), (9, .int (zI b3)), (10, .int (zI sx)), (11, .int (zI go)), (12, .int (zI (j : Int))), (15, .int (zI (ag + 1)))] rfl ?_
                  exact ih225 a2 (ag + 1) p3 (a3 + 0) b3 (by omega) (by omega) (ha2) (by have hz : (p3, a3 + 0, b3) = zLC (Kl j) (p3, a3, b3) := zLC_v (by omega); rcases hX with ⟨q, e⟩ | ⟨q, e⟩ | ⟨q, e⟩; exact Or.inr (Or.inl ⟨by omega, by rw [hz, e]⟩); exact Or.inr (Or.inr ⟨by omega, by rw [hz, e]⟩); exact absurd q (by omega)) (by omega) (by omega)
                · skip
                  refine zj_iload 266 8 C dL_pour_264 rfl rfl ?_
                  refine zj_bipush 268 C dL_pour_266 rfl rfl ?_
                  refine zj_irem 269 C (by omega) (by omega) dL_pour_268 rfl ?_
                  refine zj_if_le 272 283 C (by omega) dL_pour_269 rfl (by decide) (fun h_18 => ?_) (fun h_18 => ?_)
                  · skip
                    refine zj_iconst 284 C dL_pour_283 rfl ?_
                    refine zj_iadd 285 C dL_pour_284 rfl ?_
                    refine zj_istore 287 [(8, .int (zI (a3 + 0))), (0, .ref yk), (1, .ref yw), (2, .ref yb), (3, .ref yp), (4, .ref yr), (5, .ref yu), (6, .ref yt), (7, .int (zI p3)), (9, .int (zI b3)), (10, .int (zI sx)), (11, .int (zI go)), (12, .int (zI (j : Int))), (15, .int (zI ag))] C dL_pour_285 rfl (by decide) rfl ?_
                    refine zj_iinc 290 13 [(15, .int (zI (ag + 1))), (8, .int (zI (a3 + 0))), (0, .ref yk), (1, .ref yw), (2, .ref yb), (3, .ref yp), (4, .ref yr), (5, .ref yu), (6, .ref yt), (7, .int (zI p3)), (9, .int (zI b3)), (10, .int (zI sx)), (11, .int (zI go)), (12, .int (zI (j : Int)))] C dL_pour_287 rfl rfl (by decide) rfl ?_
                    refine zj_goto 225 C dL_pour_290 (by decide) ?_
                    refine zj_lv [2, 3, 4, 5, 6, 7, 8, 9, 1, 10, 11, 12, 13, 0] [(0, .ref yk), (1, .ref yw), (2, .ref yb), (3, .ref yp), (4, .ref yr), (5, .ref yu), (6, .ref yt), (7, .int (zI p3)), (8, .int (zI (a3 + 0))), (9, .int (zI b3)), (10, .int (zI sx)), (11, .int (zI go)), (12, .int (zI (j : Int))), (15, .int (zI (ag + 1)))] rfl ?_
                    exact ih225 a2 (ag + 1) p3 (a3 + 0) b3 (by omega) (by omega) (ha2) (by have hz : (p3, a3 + 0, b3) = zLC (Kl j) (p3, a3, b3) := zLC_v (by omega); rcases hX with ⟨q, e⟩ | ⟨q, e⟩ | ⟨q, e⟩; exact Or.inr (Or.inl ⟨by omega, by rw [hz, e]⟩); exact Or.inr (Or.inr ⟨by omega, by rw [hz, e]⟩); exact absurd q (by omega)) (by omega) (by omega)
                  · skip
                    refine zj_bipush 274 C dL_pour_272 rfl rfl ?_
                    refine zj_iload 276 8 C dL_pour_274 rfl rfl ?_
                    refine zj_bipush 278 C dL_pour_276 rfl rfl ?_
                    refine zj_irem 279 C (by omega) (by omega) dL_pour_278 rfl ?_
                    refine zj_isub 280 C dL_pour_279 rfl ?_
                    refine zj_goto 284 C dL_pour_280 (by decide) ?_
                    refine zj_iadd 285 C dL_pour_284 rfl ?_
                    refine zj_istore 287 [(8, .int (zI (a3 + (6 - (a3 % 6))))), (0, .ref yk), (1, .ref yw), (2, .ref yb), (3, .ref yp), (4, .ref yr), (5, .ref yu), (6, .ref yt), (7, .int (zI p3)), (9, .int (zI b3)), (10, .int (zI sx)), (11, .int (zI go)), (12, .int (zI (j : Int))), (15, .int (zI ag))] C dL_pour_285 rfl (by decide) rfl ?_
                    refine zj_iinc 290 13 [(15, .int (zI (ag + 1))), (8, .int (zI (a3 + (6 - (a3 % 6))))), (0, .ref yk), (1, .ref yw), (2, .ref yb), (3, .ref yp), (4, .ref yr), (5, .ref yu), (6, .ref yt), (7, .int (zI p3)), (9, .int (zI b3)), (10, .int (zI sx)), (11, .int (zI go)), (12, .int (zI (j : Int)))] C dL_pour_287 rfl rfl (by decide) rfl ?_
                    refine zj_goto 225 C dL_pour_290 (by decide) ?_
                    refine zj_lv [2, 3, 4, 5, 6, 7, 8, 9, 1, 10, 11, 12, 13, 0] [(0, .ref yk), (1, .ref yw), (2, .ref yb), (3, .ref yp), (4, .ref yr), (5, .ref yu), (6, .ref yt), (7, .int (zI p3)), (8, .int (zI (a3 + (6 - (a3 % 6))))), (9, .int (zI b3)), (10, .int (zI sx)), (11, .int (zI go)), (12, .int (zI (j : Int))), (15, .int (zI (ag + 1)))] rfl ?_
                    exact ih225 a2 (ag + 1) p3 (a3 + (6 - (a3 % 6))) b3 (by omega) (by omega) (ha2) (by have hz : (p3, a3 + (6 - (a3 % 6)), b3) = zLC (Kl j) (p3, a3, b3) := zLC_v (by omega); rcases hX with ⟨q, e⟩ | ⟨q, e⟩ | ⟨q, e⟩; exact Or.inr (Or.inl ⟨by omega, by rw [hz, e]⟩); exact Or.inr (Or.inr ⟨by omega, by rw [hz, e]⟩); exact absurd q (by omega)) (by omega) (by omega)
            · skip
              refine zj_iinc 241 7 [(7, .int (zI (p3 + 1))), (0, .ref yk), (1, .ref yw), (2, .ref yb), (3, .ref yp), (4, .ref yr), (5, .ref yu), (6, .ref yt), (8, .int (zI a3)), (9, .int (zI b3)), (10, .int (zI sx)), (11, .int (zI go)), (12, .int (zI (j : Int))), (15, .int (zI ag))] C dL_pour_238 rfl rfl (by decide) rfl ?_
              refine zj_iconst 242 C dL_pour_241 rfl ?_
              refine zj_istore 244 [(8, .int (zI 0)), (7, .int (zI (p3 + 1))), (0, .ref yk), (1, .ref yw), (2, .ref yb), (3, .ref yp), (4, .ref yr), (5, .ref yu), (6, .ref yt), (9, .int (zI b3)), (10, .int (zI sx)), (11, .int (zI go)), (12, .int (zI (j : Int))), (15, .int (zI ag))] C dL_pour_242 rfl (by decide) rfl ?_
              refine zj_iconst 245 C dL_pour_244 rfl ?_
              refine zj_istore 247 [(9, .int (zI 0)), (8, .int (zI 0)), (7, .int (zI (p3 + 1))), (0, .ref yk), (1, .ref yw), (2, .ref yb), (3, .ref yp), (4, .ref yr), (5, .ref yu), (6, .ref yt), (10, .int (zI sx)), (11, .int (zI go)), (12, .int (zI (j : Int))), (15, .int (zI ag))] C dL_pour_245 rfl (by decide) rfl ?_
              refine zj_iload 249 1 C dL_pour_247 rfl rfl ?_
              refine zj_aload_n 250 3 C dL_pour_249 rfl rfl rfl ?_
              refine zj_iload 252 12 C dL_pour_250 rfl rfl ?_
              refine zj_iald 253 0 C (by omega) (by omega) rfl rfl dL_pour_252 rfl ?_
              refine zj_iconst 254 C dL_pour_253 rfl ?_
              refine zj_icmp_ne 257 283 C (by omega) (by omega) dL_pour_254 rfl (by decide) (fun h_19 => ?_) (fun h_19 => ?_)
              · skip
                refine zj_iconst 284 C dL_pour_283 rfl ?_
                refine zj_iadd 285 C dL_pour_284 rfl ?_
                refine zj_istore 287 [(8, .int (zI (0 + 0))), (9, .int (zI 0)), (7, .int (zI (p3 + 1))), (0, .ref yk), (1, .ref yw), (2, .ref yb), (3, .ref yp), (4, .ref yr), (5, .ref yu), (6, .ref yt), (10, .int (zI sx)), (11, .int (zI go)), (12, .int (zI (j : Int))), (15, .int (zI ag))] C dL_pour_285 rfl (by decide) rfl ?_
                refine zj_iinc 290 13 [(15, .int (zI (ag + 1))), (8, .int (zI (0 + 0))), (9, .int (zI 0)), (7, .int (zI (p3 + 1))), (0, .ref yk), (1, .ref yw), (2, .ref yb), (3, .ref yp), (4, .ref yr), (5, .ref yu), (6, .ref yt), (10, .int (zI sx)), (11, .int (zI go)), (12, .int (zI (j : Int)))] C dL_pour_287 rfl rfl (by decide) rfl ?_
                refine zj_goto 225 C dL_pour_290 (by decide) ?_
                refine zj_lv [4, 5, 6, 7, 8, 9, 10, 3, 1, 2, 11, 12, 13, 0] [(0, .ref yk), (1, .ref yw), (2, .ref yb), (3, .ref yp), (4, .ref yr), (5, .ref yu), (6, .ref yt), (7, .int (zI (p3 + 1))), (8, .int (zI (0 + 0))), (9, .int (zI 0)), (10, .int (zI sx)), (11, .int (zI go)), (12, .int (zI (j : Int))), (15, .int (zI (ag + 1)))] rfl ?_
                exact ih225 a2 (ag + 1) (p3 + 1) (0 + 0) 0 (by omega) (by omega) (ha2) (by have hz : (p3 + 1, 0 + 0, 0) = zLC (Kl j) (p3, a3, b3) := zLC_v (by omega); rcases hX with ⟨q, e⟩ | ⟨q, e⟩ | ⟨q, e⟩; exact Or.inr (Or.inl ⟨by omega, by rw [hz, e]⟩); exact Or.inr (Or.inr ⟨by omega, by rw [hz, e]⟩); exact absurd q (by omega)) (by omega) (by omega)
              · skip
                refine zj_iload 259 2 C dL_pour_257 rfl rfl ?_
                refine zj_iconst 260 C dL_pour_259 rfl ?_
                refine zj_irem 261 C (by omega) (by omega) dL_pour_260 rfl ?_
                refine zj_if_ne 264 283 C (by omega) dL_pour_261 rfl (by decide) (fun h_20 => ?_) (fun h_20 => ?_)
                · skip
                  refine zj_iconst 284 C dL_pour_283 rfl ?_
                  refine zj_iadd 285 C dL_pour_284 rfl ?_
                  refine zj_istore 287 [(8, .int (zI (0 + 0))), (9, .int (zI 0)), (7, .int (zI (p3 + 1))), (0, .ref yk), (1, .ref yw), (2, .ref yb), (3, .ref yp), (4, .ref yr), (5, .ref yu), (6, .ref yt), (10, .int (zI sx)), (11, .int (zI go)), (12, .int (zI (j : Int))), (15, .int (zI ag))] C dL_pour_285 rfl (by decide) rfl ?_
                  refine zj_iinc 290 13 [(15, .int (zI (ag + 1))), (8, .int (zI (0 + 0))), (9, .int (zI 0)), (7, .int (zI (p3 + 1))), (0, .ref yk), (1, .ref yw), (2, .ref yb), (3, .ref yp), (4, .ref yr), (5, .ref yu), (6, .ref yt), (10, .int (zI sx)), (11, .int (zI go)), (12, .int (zI (j : Int)))] C dL_pour_287 rfl rfl (by decide) rfl ?_
                  refine zj_goto 225 C dL_pour_290 (by decide) ?_
                  refine zj_lv [4, 5, 6, 7, 8, 9, 10, 3, 1, 2, 11, 12, 13, 0] [(0, .ref yk), (1, .ref yw), (2, .ref yb), (3, .ref yp), (4, .ref yr), (5, .ref yu), (6, .ref yt), (7, .int (zI (p3 + 1))), (8, .int (zI (0 + 0))), (9, .int (zI 0)), (10, .int (zI sx)), (11, .int (zI go)), (12, .int (zI (j : Int))), (15, .int (zI (ag + 1)))] rfl ?_
                  exact ih225 a2 (ag + 1) (p3 + 1) (0 + 0) 0 (by omega) (by omega) (ha2) (by have hz : (p3 + 1, 0 + 0, 0) = zLC (Kl j) (p3, a3, b3) := zLC_v (by omega); rcases hX with ⟨q, e⟩ | ⟨q, e⟩ | ⟨q, e⟩; exact Or.inr (Or.inl ⟨by omega, by rw [hz, e]⟩); exact Or.inr (Or.inr ⟨by omega, by rw [hz, e]⟩); exact absurd q (by omega)) (by omega) (by omega)
                · skip
                  refine zj_iload 266 1 C dL_pour_264 rfl rfl ?_
                  refine zj_bipush 268 C dL_pour_266 rfl rfl ?_
                  refine zj_irem 269 C (by omega) (by omega) dL_pour_268 rfl ?_
                  refine zj_if_le 272 283 C (by omega) dL_pour_269 rfl (by decide) (fun h_21 => ?_) (fun h_21 => ?_)
                  · skip
                    refine zj_iconst 284 C dL_pour_283 rfl ?_
                    refine zj_iadd 285 C dL_pour_284 rfl ?_
                    refine zj_istore 287 [(8, .int (zI (0 + 0))), (9, .int (zI 0)), (7, .int (zI (p3 + 1))), (0, .ref yk), (1, .ref yw), (2, .ref yb), (3, .ref yp), (4, .ref yr), (5, .ref yu), (6, .ref yt), (10, .int (zI sx)), (11, .int (zI go)), (12, .int (zI (j : Int))), (15, .int (zI ag))] C dL_pour_285 rfl (by decide) rfl ?_
                    refine zj_iinc 290 13 [(15, .int (zI (ag + 1))), (8, .int (zI (0 + 0))), (9, .int (zI 0)), (7, .int (zI (p3 + 1))), (0, .ref yk), (1, .ref yw), (2, .ref yb), (3, .ref yp), (4, .ref yr), (5, .ref yu), (6, .ref yt), (10, .int (zI sx)), (11, .int (zI go)), (12, .int (zI (j : Int)))] C dL_pour_287 rfl rfl (by decide) rfl ?_
                    refine zj_goto 225 C dL_pour_290 (by decide) ?_
                    refine zj_lv [4, 5, 6, 7, 8, 9, 10, 3, 1, 2, 11, 12, 13, 0] [(0, .ref yk), (1, .ref yw), (2, .ref yb), (3, .ref yp), (4, .ref yr), (5, .ref yu), (6, .ref yt), (7, .int (zI (p3 + 1))), (8, .int (zI (0 + 0))), (9, .int (zI 0)), (10, .int (zI sx)), (11, .int (zI go)), (12, .int (zI (j : Int))), (15, .int (zI (ag + 1)))] rfl ?_
                    exact ih225 a2 (ag + 1) (p3 + 1) (0 + 0) 0 (by omega) (by omega) (ha2) (by have hz : (p3 + 1, 0 + 0, 0) = zLC (Kl j) (p3, a3, b3) := zLC_v (by omega); rcases hX with ⟨q, e⟩ | ⟨q, e⟩ | ⟨q, e⟩; exact Or.inr (Or.inl ⟨by omega, by rw [hz, e]⟩); exact Or.inr (Or.inr ⟨by omega, by rw [hz, e]⟩); exact absurd q (by omega)) (by omega) (by omega)
                  · skip
                    refine zj_bipush 274 C dL_pour_272 rfl rfl ?_
                    refine zj_iload 276 1 C dL_pour_274 rfl rfl ?_
                    refine zj_bipush 278 C dL_pour_276 rfl rfl ?_
                    refine zj_irem 279 C (by omega) (by omega) dL_pour_278 rfl ?_
                    refine zj_isub 280 C dL_pour_279 rfl ?_
                    refine zj_goto 284 C dL_pour_280 (by decide) ?_
                    refine zj_iadd 285 C dL_pour_284 rfl ?_
                    refine zj_istore 287 [(8, .int (zI (0 + (6 - (0 % 6))))), (9, .int (zI 0)), (7, .int (zI (p3 + 1))), (0, .ref yk), (1, .ref yw), (2, .ref yb), (3, .ref yp), (4, .ref yr), (5, .ref yu), (6, .ref yt), (10, .int (zI sx)), (11, .int (zI go)), (12, .int (zI (j : Int))), (15, .int (zI ag))] C dL_pour_285 rfl (by decide) rfl ?_
                    refine zj_iinc 290 13 [(15, .int (zI (ag + 1))), (8, .int (zI (0 + (6 - (0 % 6))))), (9, .int (zI 0)), (7, .int (zI (p3 + 1))), (0, .ref yk), (1, .ref yw), (2, .ref yb), (3, .ref yp), (4, .ref yr), (5, .ref yu), (6, .ref yt), (10, .int (zI sx)), (11, .int (zI go)), (12, .int (zI (j : Int)))] C dL_pour_287 rfl rfl (by decide) rfl ?_
                    refine zj_goto 225 C dL_pour_290 (by decide) ?_
                    refine zj_lv [4, 5, 6, 7, 8, 9, 10, 3, 1, 2, 11, 12, 13, 0] [(0, .ref yk), (1, .ref yw), (2, .ref yb), (3, .ref yp), (4, .ref yr), (5, .ref yu), (6, .ref yt), (7, .int (zI (p3 + 1))), (8, .int (zI (0 + (6 - (0 % 6))))), (9, .int (zI 0)), (10, .int (zI sx)), (11, .int (zI go)), (12, .int (zI (j : Int))), (15, .int (zI (ag + 1)))] rfl ?_
                    exact ih225 a2 (ag + 1) (p3 + 1) (0 + (6 - (0 % 6))) 0 (by omega) (by omega) (ha2) (by have hz : (p3 + 1, 0 + (6 - (0 % 6)), 0) = zLC (Kl j) (p3, a3, b3) := zLC_v (by omega); rcases hX with ⟨q, e⟩ | ⟨q, e⟩ | ⟨q, e⟩; exact Or.inr (Or.inl ⟨by omega, by rw [hz, e]⟩); exact Or.inr (Or.inr ⟨by omega, by rw [hz, e]⟩); exact absurd q (by omega)) (by omega) (by omega)
      have hL222 : ∀ (a1 : Int) (a2 : Int), ((j : Int) < n1) → (¬ 1 < Kl j) → (a1 = zLA (Bl j) sg ua be sx) → (a2 = zLB (Wl j) a1) → ((0 ≤ a2 ∧ a2 ≤ 24) ∧ a2 % 6 + Wl j ≤ 6) → zJ p l e rm_L_pour s m args below meth c Q D A 16 [(yk, .inl (cI, 24, .inl (zA Kl))), (yw, .inl (cI, 24, .inl (zA Wl))), (yb, .inl (cI, 24, .inl (zA Bl))), (yp, .inl (cI, 24, .inl (zA P3))), (yr, .inl (cI, 24, .inl (zA (zU R3 (j : Int) (-1))))), (yu, .inl (cI, 24, .inl (zA (zU U3 (j : Int) (-1))))), (yt, .inl (cI, 2, .inl (zA ty)))] (0) (0) [(0, .ref yk), (1, .ref yw), (2, .ref yb), (3, .ref yp), (4, .ref yr), (5, .ref yu), (6, .ref yt), (7, .int (zI pg)), (8, .int (zI a2)), (9, .int (zI be)), (10, .int (zI sx)), (11, .int (zI go)), (12, .int (zI (j : Int)))] 222 [] := by
        intro a1 a2 hjn hk1 ha1 ha2 hab2
        have hk := hst.2.2 j (by omega) (by omega)
        refine zj_iconst 223 C dL_pour_222 rfl ?_
        refine zj_istore 225 [(15, .int (zI 0)), (0, .ref yk), (1, .ref yw), (2, .ref yb), (3, .ref yp), (4, .ref yr), (5, .ref yu), (6, .ref yt), (7, .int (zI pg)), (8, .int (zI a2)), (9, .int (zI be)), (10, .int (zI sx)), (11, .int (zI go)), (12, .int (zI (j : Int)))] C dL_pour_223 rfl (by decide) rfl ?_
        refine zj_lv [1, 2, 3, 4, 5, 6, 7, 8, 9, 10, 11, 12, 13, 0] [(0, .ref yk), (1, .ref yw), (2, .ref yb), (3, .ref yp), (4, .ref yr), (5, .ref yu), (6, .ref yt), (7, .int (zI pg)), (8, .int (zI a2)), (9, .int (zI be)), (10, .int (zI sx)), (11, .int (zI go)), (12, .int (zI (j : Int))), (15, .int (zI 0))] rfl ?_
        exact hL225 (3) a2 0 pg a2 be (by omega) (by omega) (by rw [ha2, ha1]) (Or.inl ⟨rfl, rfl⟩) (by omega) (by omega)
      have hL192 : ∀ (a1 : Int), ((j : Int) < n1) → (¬ 1 < Kl j) → (a1 = zLA (Bl j) sg ua be sx) → (0 ≤ a1 ∧ a1 ≤ 24) → zJ p l e rm_L_pour s m args below meth c Q D A 16 [(yk, .inl (cI, 24, .inl (zA Kl))), (yw, .inl (cI, 24, .inl (zA Wl))), (yb, .inl (cI, 24, .inl (zA Bl))), (yp, .inl (cI, 24, .inl (zA P3))), (yr, .inl (cI, 24, .inl (zA (zU R3 (j : Int) (-1))))), (yu, .inl (cI, 24, .inl (zA (zU U3 (j : Int) (-1))))), (yt, .inl (cI, 2, .inl (zA ty)))] (0) (0) [(0, .ref yk), (1, .ref yw), (2, .ref yb), (3, .ref yp), (4, .ref yr), (5, .ref yu), (6, .ref yt), (7, .int (zI pg)), (8, .int (zI a1)), (9, .int (zI be)), (10, .int (zI sx)), (11, .int (zI go)), (12, .int (zI (j : Int)))] 192 [] := by
        intro a1 hjn hk1 ha1 hab
        have hk := hst.2.2 j (by omega) (by omega)
        refine zj_bipush 194 C dL_pour_192 rfl rfl ?_
        refine zj_iload 196 8 C dL_pour_194 rfl rfl ?_
        refine zj_bipush 198 C dL_pour_196 rfl rfl ?_
        refine zj_irem 199 C (by omega) (by omega) dL_pour_198 rfl ?_
        refine zj_isub 200 C dL_pour_199 rfl ?_
        refine zj_istore 202 [(14, .int (zI (6 - (a1 % 6)))), (0, .ref yk), (1, .ref yw), (2, .ref yb), (3, .ref yp), (4, .ref yr), (5, .ref yu), (6, .ref yt), (7, .int (zI pg)), (8, .int (zI a1)), (9, .int (zI be)), (10, .int (zI sx)), (11, .int (zI go)), (12, .int (zI (j : Int)))] C dL_pour_200 rfl (by decide) rfl ?_
        refine zj_iload 204 9 C dL_pour_202 rfl rfl ?_
        refine zj_iload 206 0 C dL_pour_204 rfl rfl ?_
        refine zj_aload_n 207 2 C dL_pour_206 rfl rfl rfl ?_
        refine zj_iload 209 13 C dL_pour_207 rfl rfl ?_
        refine zj_iald 210 1 C (by omega) (by omega) rfl rfl dL_pour_209 rfl ?_
        refine zj_icmp_ge 213 218 C (by omega) (by omega) dL_pour_210 rfl (by decide) (fun h_22 => ?_) (fun h_22 => ?_)
        · skip
          refine zj_iconst 219 C dL_pour_218 rfl ?_
          refine zj_iadd 220 C dL_pour_219 rfl ?_
          refine zj_istore 222 [(8, .int (zI (a1 + 0))), (14, .int (zI (6 - (a1 % 6)))), (0, .ref yk), (1, .ref yw), (2, .ref yb), (3, .ref yp), (4, .ref yr), (5, .ref yu), (6, .ref yt), (7, .int (zI pg)), (9, .int (zI be)), (10, .int (zI sx)), (11, .int (zI go)), (12, .int (zI (j : Int)))] C dL_pour_220 rfl (by decide) rfl ?_
          refine zj_lv [2, 3, 4, 5, 6, 7, 8, 9, 0, 10, 11, 12, 13] [(0, .ref yk), (1, .ref yw), (2, .ref yb), (3, .ref yp), (4, .ref yr), (5, .ref yu), (6, .ref yt), (7, .int (zI pg)), (8, .int (zI (a1 + 0))), (9, .int (zI be)), (10, .int (zI sx)), (11, .int (zI go)), (12, .int (zI (j : Int)))] rfl ?_
          exact hL222 a1 (a1 + 0) (by omega) (by omega) (ha1) (by unfold zLB; split <;> omega) (by omega)
        · skip
          refine zj_iload 215 0 C dL_pour_213 rfl rfl ?_
          refine zj_goto 219 C dL_pour_215 (by decide) ?_
          refine zj_iadd 220 C dL_pour_219 rfl ?_
          refine zj_istore 222 [(8, .int (zI (a1 + (6 - (a1 % 6))))), (14, .int (zI (6 - (a1 % 6)))), (0, .ref yk), (1, .ref yw), (2, .ref yb), (3, .ref yp), (4, .ref yr), (5, .ref yu), (6, .ref yt), (7, .int (zI pg)), (9, .int (zI be)), (10, .int (zI sx)), (11, .int (zI go)), (12, .int (zI (j : Int)))] C dL_pour_220 rfl (by decide) rfl ?_
          refine zj_lv [2, 3, 4, 5, 6, 7, 8, 9, 0, 10, 11, 12, 13] [(0, .ref yk), (1, .ref yw), (2, .ref yb), (3, .ref yp), (4, .ref yr), (5, .ref yu), (6, .ref yt), (7, .int (zI pg)), (8, .int (zI (a1 + (6 - (a1 % 6))))), (9, .int (zI be)), (10, .int (zI sx)), (11, .int (zI go)), (12, .int (zI (j : Int)))] rfl ?_
          exact hL222 a1 (a1 + (6 - (a1 % 6))) (by omega) (by omega) (ha1) (by unfold zLB; split <;> omega) (by omega)
      have hL88 : ∀ (p2 : Int), ((j : Int) < n1) → (1 < Kl j) → (p2 = zL1 (Kl j) pg sx) → (0 ≤ p2 ∧ p2 ≤ pg + 2) → zJ p l e rm_L_pour s m args below meth c Q D A 16 [(yk, .inl (cI, 24, .inl (zA Kl))), (yw, .inl (cI, 24, .inl (zA Wl))), (yb, .inl (cI, 24, .inl (zA Bl))), (yp, .inl (cI, 24, .inl (zA P3))), (yr, .inl (cI, 24, .inl (zA (zU R3 (j : Int) (-1))))), (yu, .inl (cI, 24, .inl (zA (zU U3 (j : Int) (-1))))), (yt, .inl (cI, 2, .inl (zA ty)))] (0) (0) [(0, .ref yk), (1, .ref yw), (2, .ref yb), (3, .ref yp), (4, .ref yr), (5, .ref yu), (6, .ref yt), (7, .int (zI p2)), (8, .int (zI ua)), (9, .int (zI be)), (10, .int (zI sx)), (11, .int (zI go)), (12, .int (zI (j : Int)))] 88 [] := by
        intro p2 hjn hk1 hp2 hpb
        have hk := hst.2.2 j (by omega) (by omega)
        refine zj_iload 90 11 C dL_pour_88 rfl rfl ?_
        refine zj_if_eq 93 111 C (by omega) dL_pour_90 rfl (by decide) (fun h_23 => ?_) (fun h_23 => ?_)
        · skip
          refine zj_iconst 112 C dL_pour_111 rfl ?_
          refine zj_istore 114 [(11, .int (zI 0)), (0, .ref yk), (1, .ref yw), (2, .ref yb), (3, .ref yp), (4, .ref yr), (5, .ref yu), (6, .ref yt), (7, .int (zI p2)), (8, .int (zI ua)), (9, .int (zI be)), (10, .int (zI sx)), (12, .int (zI (j : Int)))] C dL_pour_112 rfl (by decide) rfl ?_
          refine zj_aload_n 115 4 C dL_pour_114 rfl rfl rfl ?_
          refine zj_iload 117 12 C dL_pour_115 rfl rfl ?_
          refine zj_iload 119 0 C dL_pour_117 rfl rfl ?_
          refine zj_if_eq 122 127 C (by omega) dL_pour_119 rfl (by decide) (fun h_24 => ?_) (fun h_24 => ?_)
          · skip
            refine zj_iconst 128 C dL_pour_127 rfl ?_
            refine zj_iast 129 3 [(yk, .inl (cI, 24, .inl (zA Kl))), (yw, .inl (cI, 24, .inl (zA Wl))), (yb, .inl (cI, 24, .inl (zA Bl))), (yp, .inl (cI, 24, .inl (zA (zU P3 (j : Int) (-1))))), (yr, .inl (cI, 24, .inl (zA (zU R3 (j : Int) (-1))))), (yu, .inl (cI, 24, .inl (zA (zU U3 (j : Int) (-1))))), (yt, .inl (cI, 2, .inl (zA ty)))] C (by omega) (by omega) rfl rfl rfl dL_pour_128 rfl ?_
            refine zj_iload 131 8 C dL_pour_129 rfl rfl ?_
            refine zj_aload_n 132 1 C dL_pour_131 rfl rfl rfl ?_
            refine zj_iload 134 12 C dL_pour_132 rfl rfl ?_
            refine zj_iald 135 0 C (by omega) (by omega) rfl rfl dL_pour_134 rfl ?_
            refine zj_iconst 136 C dL_pour_135 rfl ?_
            refine zj_isub 137 C dL_pour_136 rfl ?_
            refine zj_iadd 138 C dL_pour_137 rfl ?_
            refine zj_istore 140 [(7, .int (zI (p2 + ((Kl (j : Int)) - 1)))), (11, .int (zI 0)), (0, .ref yk), (1, .ref yw), (2, .ref yb), (3, .ref yp), (4, .ref yr), (5, .ref yu), (6, .ref yt), (8, .int (zI ua)), (9, .int (zI be)), (10, .int (zI sx)), (12, .int (zI (j : Int)))] C dL_pour_138 rfl (by decide) rfl ?_
            refine zj_iconst 141 C dL_pour_140 rfl ?_
            refine zj_istore 143 [(8, .int (zI 0)), (7, .int (zI (p2 + ((Kl (j : Int)) - 1)))), (11, .int (zI 0)), (0, .ref yk), (1, .ref yw), (2, .ref yb), (3, .ref yp), (4, .ref yr), (5, .ref yu), (6, .ref yt), (9, .int (zI be)), (10, .int (zI sx)), (12, .int (zI (j : Int)))] C dL_pour_141 rfl (by decide) rfl ?_
            refine zj_iconst 144 C dL_pour_143 rfl ?_
            refine zj_istore 146 [(9, .int (zI 0)), (8, .int (zI 0)), (7, .int (zI (p2 + ((Kl (j : Int)) - 1)))), (11, .int (zI 0)), (0, .ref yk), (1, .ref yw), (2, .ref yb), (3, .ref yp), (4, .ref yr), (5, .ref yu), (6, .ref yt), (10, .int (zI sx)), (12, .int (zI (j : Int)))] C dL_pour_144 rfl (by decide) rfl ?_
            refine zj_iconst 147 C dL_pour_146 rfl ?_
            refine zj_istore 149 [(10, .int (zI 0)), (9, .int (zI 0)), (8, .int (zI 0)), (7, .int (zI (p2 + ((Kl (j : Int)) - 1)))), (11, .int (zI 0)), (0, .ref yk), (1, .ref yw), (2, .ref yb), (3, .ref yp), (4, .ref yr), (5, .ref yu), (6, .ref yt), (12, .int (zI (j : Int)))] C dL_pour_147 rfl (by decide) rfl ?_
            refine zj_goto 425 C dL_pour_149 (by decide) ?_
            refine zj_iinc 428 12 [(12, .int (zI ((j : Int) + 1))), (10, .int (zI 0)), (9, .int (zI 0)), (8, .int (zI 0)), (7, .int (zI (p2 + ((Kl (j : Int)) - 1)))), (11, .int (zI 0)), (0, .ref yk), (1, .ref yw), (2, .ref yb), (3, .ref yp), (4, .ref yr), (5, .ref yu), (6, .ref yt)] C dL_pour_425 rfl rfl (by decide) rfl ?_
            refine zj_goto 18 C dL_pour_428 (by decide) ?_
            obtain ⟨hn1, hn2⟩ := zLS_w (g2 := 0) hS hk1 hp2 (by omega)
            rw [zSel_0] at hn2
            have hpo := (zLO_pos hst j (by omega)).symm.trans hn2
            refine zj_lv [6, 7, 8, 9, 10, 11, 12, 4, 3, 2, 1, 5, 0] [(0, .ref yk), (1, .ref yw), (2, .ref yb), (3, .ref yp), (4, .ref yr), (5, .ref yu), (6, .ref yt), (7, .int (zI (p2 + ((Kl (j : Int)) - 1)))), (8, .int (zI 0)), (9, .int (zI 0)), (10, .int (zI 0)), (11, .int (zI 0)), (12, .int (zI ((j : Int) + 1)))] rfl ?_
            refine zj_eqlv (lv' := [(0, .ref yk), (1, .ref yw), (2, .ref yb), (3, .ref yp), (4, .ref yr), (5, .ref yu), (6, .ref yt), (7, .int (zI (p2 + ((Kl (j : Int)) - 1)))), (8, .int (zI 0)), (9, .int (zI 0)), (10, .int (zI 0)), (11, .int (zI 0)), (12, .int (zI ((j + 1) : Int)))]) (by rfl) ?_
            exact ih (j + 1) (p2 + ((Kl (j : Int)) - 1)) 0 0 0 0 (zU P3 (j : Int) (-1)) (zU R3 (j : Int) (-1)) (zU U3 (j : Int) (-1)) (by omega) (hn1) ((zPut3 hI hpo)) (by omega)
          · exact absurd h_24 (by omega)
        · skip
          refine zj_iload 95 7 C dL_pour_93 rfl rfl ?_
          refine zj_aload_n 96 0 C dL_pour_95 rfl rfl rfl ?_
          refine zj_iload 98 12 C dL_pour_96 rfl rfl ?_
          refine zj_iald 99 0 C (by omega) (by omega) rfl rfl dL_pour_98 rfl ?_
          refine zj_iadd 100 C dL_pour_99 rfl ?_
          refine zj_iconst 101 C dL_pour_100 rfl ?_
          refine zj_isub 102 C dL_pour_101 rfl ?_
          refine zj_bipush 104 C dL_pour_102 rfl rfl ?_
          refine zj_icmp_ge 107 111 C (by omega) (by omega) dL_pour_104 rfl (by decide) (fun h_25 => ?_) (fun h_25 => ?_)
          · skip
            refine zj_iconst 112 C dL_pour_111 rfl ?_
            refine zj_istore 114 [(11, .int (zI 0)), (0, .ref yk), (1, .ref yw), (2, .ref yb), (3, .ref yp), (4, .ref yr), (5, .ref yu), (6, .ref yt), (7, .int (zI p2)), (8, .int (zI ua)), (9, .int (zI be)), (10, .int (zI sx)), (12, .int (zI (j : Int)))] C dL_pour_112 rfl (by decide) rfl ?_
            refine zj_aload_n 115 4 C dL_pour_114 rfl rfl rfl ?_
            refine zj_iload 117 12 C dL_pour_115 rfl rfl ?_
            refine zj_iload 119 0 C dL_pour_117 rfl rfl ?_
            refine zj_if_eq 122 127 C (by omega) dL_pour_119 rfl (by decide) (fun h_26 => ?_) (fun h_26 => ?_)
            · skip
              refine zj_iconst 128 C dL_pour_127 rfl ?_
              refine zj_iast 129 3 [(yk, .inl (cI, 24, .inl (zA Kl))), (yw, .inl (cI, 24, .inl (zA Wl))), (yb, .inl (cI, 24, .inl (zA Bl))), (yp, .inl (cI, 24, .inl (zA (zU P3 (j : Int) (-1))))), (yr, .inl (cI, 24, .inl (zA (zU R3 (j : Int) (-1))))), (yu, .inl (cI, 24, .inl (zA (zU U3 (j : Int) (-1))))), (yt, .inl (cI, 2, .inl (zA ty)))] C (by omega) (by omega) rfl rfl rfl dL_pour_128 rfl ?_
              refine zj_iload 131 8 C dL_pour_129 rfl rfl ?_
              refine zj_aload_n 132 1 C dL_pour_131 rfl rfl rfl ?_
              refine zj_iload 134 12 C dL_pour_132 rfl rfl ?_
              refine zj_iald 135 0 C (by omega) (by omega) rfl rfl dL_pour_134 rfl ?_
              refine zj_iconst 136 C dL_pour_135 rfl ?_
              refine zj_isub 137 C dL_pour_136 rfl ?_
              refine zj_iadd 138 C dL_pour_137 rfl ?_
              refine zj_istore 140 [(7, .int (zI (p2 + ((Kl (j : Int)) - 1)))), (11, .int (zI 0)), (0, .ref yk), (1, .ref yw), (2, .ref yb), (3, .ref yp), (4, .ref yr), (5, .ref yu), (6, .ref yt), (8, .int (zI ua)), (9, .int (zI be)), (10, .int (zI sx)), (12, .int (zI (j : Int)))] C dL_pour_138 rfl (by decide) rfl ?_
              refine zj_iconst 141 C dL_pour_140 rfl ?_
              refine zj_istore 143 [(8, .int (zI 0)), (7, .int (zI (p2 + ((Kl (j : Int)) - 1)))), (11, .int (zI 0)), (0, .ref yk), (1, .ref yw), (2, .ref yb), (3, .ref yp), (4, .ref yr), (5, .ref yu), (6, .ref yt), (9, .int (zI be)), (10, .int (zI sx)), (12, .int (zI (j : Int)))] C dL_pour_141 rfl (by decide) rfl ?_
              refine zj_iconst 144 C dL_pour_143 rfl ?_
              refine zj_istore 146 [(9, .int (zI 0)), (8, .int (zI 0)), (7, .int (zI (p2 + ((Kl (j : Int)) - 1)))), (11, .int (zI 0)), (0, .ref yk), (1, .ref yw), (2, .ref yb), (3, .ref yp), (4, .ref yr), (5, .ref yu), (6, .ref yt), (10, .int (zI sx)), (12, .int (zI (j : Int)))] C dL_pour_144 rfl (by decide) rfl ?_
              refine zj_iconst 147 C dL_pour_146 rfl ?_
              refine zj_istore 149 [(10, .int (zI 0)), (9, .int (zI 0)), (8, .int (zI 0)), (7, .int (zI (p2 + ((Kl (j : Int)) - 1)))), (11, .int (zI 0)), (0, .ref yk), (1, .ref yw), (2, .ref yb), (3, .ref yp), (4, .ref yr), (5, .ref yu), (6, .ref yt), (12, .int (zI (j : Int)))] C dL_pour_147 rfl (by decide) rfl ?_
              refine zj_goto 425 C dL_pour_149 (by decide) ?_
              refine zj_iinc 428 12 [(12, .int (zI ((j : Int) + 1))), (10, .int (zI 0)), (9, .int (zI 0)), (8, .int (zI 0)), (7, .int (zI (p2 + ((Kl (j : Int)) - 1)))), (11, .int (zI 0)), (0, .ref yk), (1, .ref yw), (2, .ref yb), (3, .ref yp), (4, .ref yr), (5, .ref yu), (6, .ref yt)] C dL_pour_425 rfl rfl (by decide) rfl ?_
              refine zj_goto 18 C dL_pour_428 (by decide) ?_
              obtain ⟨hn1, hn2⟩ := zLS_w (g2 := 0) hS hk1 hp2 (by omega)
              rw [zSel_0] at hn2
              have hpo := (zLO_pos hst j (by omega)).symm.trans hn2
              refine zj_lv [6, 7, 8, 9, 10, 11, 12, 4, 3, 2, 1, 5, 0] [(0, .ref yk), (1, .ref yw), (2, .ref yb), (3, .ref yp), (4, .ref yr), (5, .ref yu), (6, .ref yt), (7, .int (zI (p2 + ((Kl (j : Int)) - 1)))), (8, .int (zI 0)), (9, .int (zI 0)), (10, .int (zI 0)), (11, .int (zI 0)), (12, .int (zI ((j : Int) + 1)))] rfl ?_
              refine zj_eqlv (lv' := [(0, .ref yk), (1, .ref yw), (2, .ref yb), (3, .ref yp), (4, .ref yr), (5, .ref yu), (6, .ref yt), (7, .int (zI (p2 + ((Kl (j : Int)) - 1)))), (8, .int (zI 0)), (9, .int (zI 0)), (10, .int (zI 0)), (11, .int (zI 0)), (12, .int (zI ((j + 1) : Int)))]) (by rfl) ?_
              exact ih (j + 1) (p2 + ((Kl (j : Int)) - 1)) 0 0 0 0 (zU P3 (j : Int) (-1)) (zU R3 (j : Int) (-1)) (zU U3 (j : Int) (-1)) (by omega) (hn1) ((zPut3 hI hpo)) (by omega)
            · exact absurd h_26 (by omega)
          · skip
            refine zj_iconst 108 C dL_pour_107 rfl ?_
            refine zj_goto 112 C dL_pour_108 (by decide) ?_
            refine zj_istore 114 [(11, .int (zI 1)), (0, .ref yk), (1, .ref yw), (2, .ref yb), (3, .ref yp), (4, .ref yr), (5, .ref yu), (6, .ref yt), (7, .int (zI p2)), (8, .int (zI ua)), (9, .int (zI be)), (10, .int (zI sx)), (12, .int (zI (j : Int)))] C dL_pour_112 rfl (by decide) rfl ?_
            refine zj_aload_n 115 4 C dL_pour_114 rfl rfl rfl ?_
            refine zj_iload 117 12 C dL_pour_115 rfl rfl ?_
            refine zj_iload 119 0 C dL_pour_117 rfl rfl ?_
            refine zj_if_eq 122 127 C (by omega) dL_pour_119 rfl (by decide) (fun h_27 => ?_) (fun h_27 => ?_)
            · exact absurd h_27 (by omega)
            · skip
              refine zj_iload 124 8 C dL_pour_122 rfl rfl ?_
              refine zj_goto 128 C dL_pour_124 (by decide) ?_
              refine zj_iast 129 3 [(yk, .inl (cI, 24, .inl (zA Kl))), (yw, .inl (cI, 24, .inl (zA Wl))), (yb, .inl (cI, 24, .inl (zA Bl))), (yp, .inl (cI, 24, .inl (zA (zU P3 (j : Int) p2)))), (yr, .inl (cI, 24, .inl (zA (zU R3 (j : Int) (-1))))), (yu, .inl (cI, 24, .inl (zA (zU U3 (j : Int) (-1))))), (yt, .inl (cI, 2, .inl (zA ty)))] C (by omega) (by omega) rfl rfl rfl dL_pour_128 rfl ?_
              refine zj_iload 131 8 C dL_pour_129 rfl rfl ?_
              refine zj_aload_n 132 1 C dL_pour_131 rfl rfl rfl ?_
              refine zj_iload 134 12 C dL_pour_132 rfl rfl ?_
              refine zj_iald 135 0 C (by omega) (by omega) rfl rfl dL_pour_134 rfl ?_
              refine zj_iconst 136 C dL_pour_135 rfl ?_
              refine zj_isub 137 C dL_pour_136 rfl ?_
              refine zj_iadd 138 C dL_pour_137 rfl ?_
              refine zj_istore 140 [(7, .int (zI (p2 + ((Kl (j : Int)) - 1)))), (11, .int (zI 1)), (0, .ref yk), (1, .ref yw), (2, .ref yb), (3, .ref yp), (4, .ref yr), (5, .ref yu), (6, .ref yt), (8, .int (zI ua)), (9, .int (zI be)), (10, .int (zI sx)), (12, .int (zI (j : Int)))] C dL_pour_138 rfl (by decide) rfl ?_
              refine zj_iconst 141 C dL_pour_140 rfl ?_
              refine zj_istore 143 [(8, .int (zI 0)), (7, .int (zI (p2 + ((Kl (j : Int)) - 1)))), (11, .int (zI 1)), (0, .ref yk), (1, .ref yw), (2, .ref yb), (3, .ref yp), (4, .ref yr), (5, .ref yu), (6, .ref yt), (9, .int (zI be)), (10, .int (zI sx)), (12, .int (zI (j : Int)))] C dL_pour_141 rfl (by decide) rfl ?_
              refine zj_iconst 144 C dL_pour_143 rfl ?_
              refine zj_istore 146 [(9, .int (zI 0)), (8, .int (zI 0)), (7, .int (zI (p2 + ((Kl (j : Int)) - 1)))), (11, .int (zI 1)), (0, .ref yk), (1, .ref yw), (2, .ref yb), (3, .ref yp), (4, .ref yr), (5, .ref yu), (6, .ref yt), (10, .int (zI sx)), (12, .int (zI (j : Int)))] C dL_pour_144 rfl (by decide) rfl ?_
              refine zj_iconst 147 C dL_pour_146 rfl ?_
              refine zj_istore 149 [(10, .int (zI 0)), (9, .int (zI 0)), (8, .int (zI 0)), (7, .int (zI (p2 + ((Kl (j : Int)) - 1)))), (11, .int (zI 1)), (0, .ref yk), (1, .ref yw), (2, .ref yb), (3, .ref yp), (4, .ref yr), (5, .ref yu), (6, .ref yt), (12, .int (zI (j : Int)))] C dL_pour_147 rfl (by decide) rfl ?_
              refine zj_goto 425 C dL_pour_149 (by decide) ?_
              refine zj_iinc 428 12 [(12, .int (zI ((j : Int) + 1))), (10, .int (zI 0)), (9, .int (zI 0)), (8, .int (zI 0)), (7, .int (zI (p2 + ((Kl (j : Int)) - 1)))), (11, .int (zI 1)), (0, .ref yk), (1, .ref yw), (2, .ref yb), (3, .ref yp), (4, .ref yr), (5, .ref yu), (6, .ref yt)] C dL_pour_425 rfl rfl (by decide) rfl ?_
              refine zj_goto 18 C dL_pour_428 (by decide) ?_
              obtain ⟨hn1, hn2⟩ := zLS_w (g2 := 1) hS hk1 hp2 (by omega)
              rw [zSel_1] at hn2
              have hpo := (zLO_pos hst j (by omega)).symm.trans hn2
              refine zj_lv [6, 7, 8, 9, 10, 11, 12, 4, 3, 2, 1, 5, 0] [(0, .ref yk), (1, .ref yw), (2, .ref yb), (3, .ref yp), (4, .ref yr), (5, .ref yu), (6, .ref yt), (7, .int (zI (p2 + ((Kl (j : Int)) - 1)))), (8, .int (zI 0)), (9, .int (zI 0)), (10, .int (zI 0)), (11, .int (zI 1)), (12, .int (zI ((j : Int) + 1)))] rfl ?_
              refine zj_eqlv (lv' := [(0, .ref yk), (1, .ref yw), (2, .ref yb), (3, .ref yp), (4, .ref yr), (5, .ref yu), (6, .ref yt), (7, .int (zI (p2 + ((Kl (j : Int)) - 1)))), (8, .int (zI 0)), (9, .int (zI 0)), (10, .int (zI 0)), (11, .int (zI 1)), (12, .int (zI ((j + 1) : Int)))]) (by rfl) ?_
              exact ih (j + 1) (p2 + ((Kl (j : Int)) - 1)) 0 0 0 1 (zU P3 (j : Int) p2) (zU R3 (j : Int) (-1)) (zU U3 (j : Int) (-1)) (by omega) (hn1) ((zPut3 hI hpo)) (by omega)
      refine zj_iload 20 12 C dL_pour_18 rfl rfl ?_
      refine zj_aload 22 6 C dL_pour_20 rfl rfl ?_
      refine zj_iconst 23 C dL_pour_22 rfl ?_
      refine zj_iald 24 6 C (by omega) (by omega) rfl rfl dL_pour_23 rfl ?_
      refine zj_icmp_ge 27 431 C (by omega) (by omega) dL_pour_24 rfl (by decide) (fun h_28 => ?_) (fun h_28 => ?_)
      · skip
        subst hQ
        exact zj_return C hr ⟨P3, R3, U3, (fun i hi => hI i (by omega)), rfl⟩ (by decide) (by decide) dL_pour_431
      · skip
        have hk := hst.2.2 j (by omega) (by omega)
        refine zj_aload 29 4 C dL_pour_27 rfl rfl ?_
        refine zj_iload 31 12 C dL_pour_29 rfl rfl ?_
        refine zj_iconst 32 C dL_pour_31 rfl ?_
        refine zj_iast 33 4 [(yk, .inl (cI, 24, .inl (zA Kl))), (yw, .inl (cI, 24, .inl (zA Wl))), (yb, .inl (cI, 24, .inl (zA Bl))), (yp, .inl (cI, 24, .inl (zA P3))), (yr, .inl (cI, 24, .inl (zA (zU R3 (j : Int) (-1))))), (yu, .inl (cI, 24, .inl (zA U3))), (yt, .inl (cI, 2, .inl (zA ty)))] C (by omega) (by omega) rfl rfl rfl dL_pour_32 rfl ?_
        refine zj_aload 35 5 C dL_pour_33 rfl rfl ?_
        refine zj_iload 37 12 C dL_pour_35 rfl rfl ?_
        refine zj_iconst 38 C dL_pour_37 rfl ?_
        refine zj_iast 39 5 [(yk, .inl (cI, 24, .inl (zA Kl))), (yw, .inl (cI, 24, .inl (zA Wl))), (yb, .inl (cI, 24, .inl (zA Bl))), (yp, .inl (cI, 24, .inl (zA P3))), (yr, .inl (cI, 24, .inl (zA (zU R3 (j : Int) (-1))))), (yu, .inl (cI, 24, .inl (zA (zU U3 (j : Int) (-1))))), (yt, .inl (cI, 2, .inl (zA ty)))] C (by omega) (by omega) rfl rfl rfl dL_pour_38 rfl ?_
        refine zj_aload_n 40 0 C dL_pour_39 rfl rfl rfl ?_
        refine zj_iload 42 12 C dL_pour_40 rfl rfl ?_
        refine zj_iald 43 0 C (by omega) (by omega) rfl rfl dL_pour_42 rfl ?_
        refine zj_iconst 44 C dL_pour_43 rfl ?_
        refine zj_icmp_le 47 152 C (by omega) (by omega) dL_pour_44 rfl (by decide) (fun h_29 => ?_) (fun h_29 => ?_)
        · skip
          refine zj_iload 154 10 C dL_pour_152 rfl rfl ?_
          refine zj_if_eq 157 175 C (by omega) dL_pour_154 rfl (by decide) (fun h_30 => ?_) (fun h_30 => ?_)
          · skip
            refine zj_iconst 176 C dL_pour_175 rfl ?_
            refine zj_istore 178 [(13, .int (zI 0)), (0, .ref yk), (1, .ref yw), (2, .ref yb), (3, .ref yp), (4, .ref yr), (5, .ref yu), (6, .ref yt), (7, .int (zI pg)), (8, .int (zI ua)), (9, .int (zI be)), (10, .int (zI sx)), (11, .int (zI go)), (12, .int (zI (j : Int)))] C dL_pour_176 rfl (by decide) rfl ?_
            refine zj_iload 180 0 C dL_pour_178 rfl rfl ?_
            refine zj_if_eq 183 188 C (by omega) dL_pour_180 rfl (by decide) (fun h_31 => ?_) (fun h_31 => ?_)
            · skip
              refine zj_iload 190 9 C dL_pour_188 rfl rfl ?_
              refine zj_istore 192 [(8, .int (zI ua)), (13, .int (zI 0)), (0, .ref yk), (1, .ref yw), (2, .ref yb), (3, .ref yp), (4, .ref yr), (5, .ref yu), (6, .ref yt), (7, .int (zI pg)), (9, .int (zI be)), (10, .int (zI sx)), (11, .int (zI go)), (12, .int (zI (j : Int)))] C dL_pour_190 rfl (by decide) rfl ?_
              refine zj_lv [2, 3, 4, 5, 6, 7, 8, 9, 0, 10, 11, 12, 13] [(0, .ref yk), (1, .ref yw), (2, .ref yb), (3, .ref yp), (4, .ref yr), (5, .ref yu), (6, .ref yt), (7, .int (zI pg)), (8, .int (zI ua)), (9, .int (zI be)), (10, .int (zI sx)), (11, .int (zI go)), (12, .int (zI (j : Int)))] rfl ?_
              exact hL192 ua (by omega) (by omega) (by unfold zLA; split <;> omega) (by omega)
            · exact absurd h_31 (by omega)
          · skip
            refine zj_iload 159 9 C dL_pour_157 rfl rfl ?_
            refine zj_aload_n 160 2 C dL_pour_159 rfl rfl rfl ?_
            refine zj_iload 162 12 C dL_pour_160 rfl rfl ?_
            refine zj_iald 163 2 C (by omega) (by omega) rfl rfl dL_pour_162 rfl ?_
            refine zj_iadd 164 C dL_pour_163 rfl ?_
            refine zj_aload 166 6 C dL_pour_164 rfl rfl ?_
            refine zj_iconst 167 C dL_pour_166 rfl ?_
            refine zj_iald 168 6 C (by omega) (by omega) rfl rfl dL_pour_167 rfl ?_
            refine zj_icmp_le 171 175 C (by omega) (by omega) dL_pour_168 rfl (by decide) (fun h_32 => ?_) (fun h_32 => ?_)
            · skip
              refine zj_iconst 176 C dL_pour_175 rfl ?_
              refine zj_istore 178 [(13, .int (zI 0)), (0, .ref yk), (1, .ref yw), (2, .ref yb), (3, .ref yp), (4, .ref yr), (5, .ref yu), (6, .ref yt), (7, .int (zI pg)), (8, .int (zI ua)), (9, .int (zI be)), (10, .int (zI sx)), (11, .int (zI go)), (12, .int (zI (j : Int)))] C dL_pour_176 rfl (by decide) rfl ?_
              refine zj_iload 180 0 C dL_pour_178 rfl rfl ?_
              refine zj_if_eq 183 188 C (by omega) dL_pour_180 rfl (by decide) (fun h_33 => ?_) (fun h_33 => ?_)
              · skip
                refine zj_iload 190 9 C dL_pour_188 rfl rfl ?_
                refine zj_istore 192 [(8, .int (zI ua)), (13, .int (zI 0)), (0, .ref yk), (1, .ref yw), (2, .ref yb), (3, .ref yp), (4, .ref yr), (5, .ref yu), (6, .ref yt), (7, .int (zI pg)), (9, .int (zI be)), (10, .int (zI sx)), (11, .int (zI go)), (12, .int (zI (j : Int)))] C dL_pour_190 rfl (by decide) rfl ?_
                refine zj_lv [2, 3, 4, 5, 6, 7, 8, 9, 0, 10, 11, 12, 13] [(0, .ref yk), (1, .ref yw), (2, .ref yb), (3, .ref yp), (4, .ref yr), (5, .ref yu), (6, .ref yt), (7, .int (zI pg)), (8, .int (zI ua)), (9, .int (zI be)), (10, .int (zI sx)), (11, .int (zI go)), (12, .int (zI (j : Int)))] rfl ?_
                exact hL192 ua (by omega) (by omega) (by unfold zLA; split <;> omega) (by omega)
              · exact absurd h_33 (by omega)
            · skip
              refine zj_iconst 172 C dL_pour_171 rfl ?_
              refine zj_goto 176 C dL_pour_172 (by decide) ?_
              refine zj_istore 178 [(13, .int (zI 1)), (0, .ref yk), (1, .ref yw), (2, .ref yb), (3, .ref yp), (4, .ref yr), (5, .ref yu), (6, .ref yt), (7, .int (zI pg)), (8, .int (zI ua)), (9, .int (zI be)), (10, .int (zI sx)), (11, .int (zI go)), (12, .int (zI (j : Int)))] C dL_pour_176 rfl (by decide) rfl ?_
              refine zj_iload 180 0 C dL_pour_178 rfl rfl ?_
              refine zj_if_eq 183 188 C (by omega) dL_pour_180 rfl (by decide) (fun h_34 => ?_) (fun h_34 => ?_)
              · exact absurd h_34 (by omega)
              · skip
                refine zj_bipush 185 C dL_pour_183 rfl rfl ?_
                refine zj_goto 190 C dL_pour_185 (by decide) ?_
                refine zj_istore 192 [(8, .int (zI 24)), (13, .int (zI 1)), (0, .ref yk), (1, .ref yw), (2, .ref yb), (3, .ref yp), (4, .ref yr), (5, .ref yu), (6, .ref yt), (7, .int (zI pg)), (9, .int (zI be)), (10, .int (zI sx)), (11, .int (zI go)), (12, .int (zI (j : Int)))] C dL_pour_190 rfl (by decide) rfl ?_
                refine zj_lv [2, 3, 4, 5, 6, 7, 8, 9, 0, 10, 11, 12, 13] [(0, .ref yk), (1, .ref yw), (2, .ref yb), (3, .ref yp), (4, .ref yr), (5, .ref yu), (6, .ref yt), (7, .int (zI pg)), (8, .int (zI 24)), (9, .int (zI be)), (10, .int (zI sx)), (11, .int (zI go)), (12, .int (zI (j : Int)))] rfl ?_
                exact hL192 24 (by omega) (by omega) (by unfold zLA; split <;> omega) (by omega)
        · skip
          refine zj_iload 49 7 C dL_pour_47 rfl rfl ?_
          refine zj_iload 51 10 C dL_pour_49 rfl rfl ?_
          refine zj_if_eq 54 58 C (by omega) dL_pour_51 rfl (by decide) (fun h_35 => ?_) (fun h_35 => ?_)
          · skip
            refine zj_iconst 59 C dL_pour_58 rfl ?_
            refine zj_iadd 60 C dL_pour_59 rfl ?_
            refine zj_istore 62 [(7, .int (zI (pg + 0))), (0, .ref yk), (1, .ref yw), (2, .ref yb), (3, .ref yp), (4, .ref yr), (5, .ref yu), (6, .ref yt), (8, .int (zI ua)), (9, .int (zI be)), (10, .int (zI sx)), (11, .int (zI go)), (12, .int (zI (j : Int)))] C dL_pour_60 rfl (by decide) rfl ?_
            refine zj_iload 64 0 C dL_pour_62 rfl rfl ?_
            refine zj_aload_n 65 1 C dL_pour_64 rfl rfl rfl ?_
            refine zj_iload 67 12 C dL_pour_65 rfl rfl ?_
            refine zj_iald 68 0 C (by omega) (by omega) rfl rfl dL_pour_67 rfl ?_
            refine zj_iconst 69 C dL_pour_68 rfl ?_
            refine zj_icmp_ne 72 84 C (by omega) (by omega) dL_pour_69 rfl (by decide) (fun h_36 => ?_) (fun h_36 => ?_)
            · skip
              refine zj_iconst 85 C dL_pour_84 rfl ?_
              refine zj_iadd 86 C dL_pour_85 rfl ?_
              refine zj_istore 88 [(7, .int (zI ((pg + 0) + 0))), (0, .ref yk), (1, .ref yw), (2, .ref yb), (3, .ref yp), (4, .ref yr), (5, .ref yu), (6, .ref yt), (8, .int (zI ua)), (9, .int (zI be)), (10, .int (zI sx)), (11, .int (zI go)), (12, .int (zI (j : Int)))] C dL_pour_86 rfl (by decide) rfl ?_
              refine zj_lv [1, 2, 3, 4, 5, 6, 7, 0, 8, 9, 10, 11, 12] [(0, .ref yk), (1, .ref yw), (2, .ref yb), (3, .ref yp), (4, .ref yr), (5, .ref yu), (6, .ref yt), (7, .int (zI ((pg + 0) + 0))), (8, .int (zI ua)), (9, .int (zI be)), (10, .int (zI sx)), (11, .int (zI go)), (12, .int (zI (j : Int)))] rfl ?_
              exact hL88 ((pg + 0) + 0) (by omega) (by omega) (by unfold zL1; split <;> omega) (by omega)
            · skip
              refine zj_iload 74 0 C dL_pour_72 rfl rfl ?_
              refine zj_iconst 75 C dL_pour_74 rfl ?_
              refine zj_irem 76 C (by omega) (by omega) dL_pour_75 rfl ?_
              refine zj_iconst 77 C dL_pour_76 rfl ?_
              refine zj_icmp_ne 80 84 C (by omega) (by omega) dL_pour_77 rfl (by decide) (fun h_37 => ?_) (fun h_37 => ?_)
              · skip
                refine zj_iconst 85 C dL_pour_84 rfl ?_
                refine zj_iadd 86 C dL_pour_85 rfl ?_
                refine zj_istore 88 [(7, .int (zI ((pg + 0) + 0))), (0, .ref yk), (1, .ref yw), (2, .ref yb), (3, .ref yp), (4, .ref yr), (5, .ref yu), (6, .ref yt), (8, .int (zI ua)), (9, .int (zI be)), (10, .int (zI sx)), (11, .int (zI go)), (12, .int (zI (j : Int)))] C dL_pour_86 rfl (by decide) rfl ?_
                refine zj_lv [1, 2, 3, 4, 5, 6, 7, 0, 8, 9, 10, 11, 12] [(0, .ref yk), (1, .ref yw), (2, .ref yb), (3, .ref yp), (4, .ref yr), (5, .ref yu), (6, .ref yt), (7, .int (zI ((pg + 0) + 0))), (8, .int (zI ua)), (9, .int (zI be)), (10, .int (zI sx)), (11, .int (zI go)), (12, .int (zI (j : Int)))] rfl ?_
                exact hL88 ((pg + 0) + 0) (by omega) (by omega) (by unfold zL1; split <;> omega) (by omega)
              · skip
                refine zj_iconst 81 C dL_pour_80 rfl ?_
                refine zj_goto 85 C dL_pour_81 (by decide) ?_
                refine zj_iadd 86 C dL_pour_85 rfl ?_
                refine zj_istore 88 [(7, .int (zI ((pg + 0) + 1))), (0, .ref yk), (1, .ref yw), (2, .ref yb), (3, .ref yp), (4, .ref yr), (5, .ref yu), (6, .ref yt), (8, .int (zI ua)), (9, .int (zI be)), (10, .int (zI sx)), (11, .int (zI go)), (12, .int (zI (j : Int)))] C dL_pour_86 rfl (by decide) rfl ?_
                refine zj_lv [1, 2, 3, 4, 5, 6, 7, 0, 8, 9, 10, 11, 12] [(0, .ref yk), (1, .ref yw), (2, .ref yb), (3, .ref yp), (4, .ref yr), (5, .ref yu), (6, .ref yt), (7, .int (zI ((pg + 0) + 1))), (8, .int (zI ua)), (9, .int (zI be)), (10, .int (zI sx)), (11, .int (zI go)), (12, .int (zI (j : Int)))] rfl ?_
                exact hL88 ((pg + 0) + 1) (by omega) (by omega) (by unfold zL1; split <;> omega) (by omega)
          · skip
            refine zj_iconst 55 C dL_pour_54 rfl ?_
            refine zj_goto 59 C dL_pour_55 (by decide) ?_
            refine zj_iadd 60 C dL_pour_59 rfl ?_
            refine zj_istore 62 [(7, .int (zI (pg + 1))), (0, .ref yk), (1, .ref yw), (2, .ref yb), (3, .ref yp), (4, .ref yr), (5, .ref yu), (6, .ref yt), (8, .int (zI ua)), (9, .int (zI be)), (10, .int (zI sx)), (11, .int (zI go)), (12, .int (zI (j : Int)))] C dL_pour_60 rfl (by decide) rfl ?_
            refine zj_iload 64 0 C dL_pour_62 rfl rfl ?_
            refine zj_aload_n 65 1 C dL_pour_64 rfl rfl rfl ?_
            refine zj_iload 67 12 C dL_pour_65 rfl rfl ?_
            refine zj_iald 68 0 C (by omega) (by omega) rfl rfl dL_pour_67 rfl ?_
            refine zj_iconst 69 C dL_pour_68 rfl ?_
            refine zj_icmp_ne 72 84 C (by omega) (by omega) dL_pour_69 rfl (by decide) (fun h_38 => ?_) (fun h_38 => ?_)
            · skip
              refine zj_iconst 85 C dL_pour_84 rfl ?_
              refine zj_iadd 86 C dL_pour_85 rfl ?_
              refine zj_istore 88 [(7, .int (zI ((pg + 1) + 0))), (0, .ref yk), (1, .ref yw), (2, .ref yb), (3, .ref yp), (4, .ref yr), (5, .ref yu), (6, .ref yt), (8, .int (zI ua)), (9, .int (zI be)), (10, .int (zI sx)), (11, .int (zI go)), (12, .int (zI (j : Int)))] C dL_pour_86 rfl (by decide) rfl ?_
              refine zj_lv [1, 2, 3, 4, 5, 6, 7, 0, 8, 9, 10, 11, 12] [(0, .ref yk), (1, .ref yw), (2, .ref yb), (3, .ref yp), (4, .ref yr), (5, .ref yu), (6, .ref yt), (7, .int (zI ((pg + 1) + 0))), (8, .int (zI ua)), (9, .int (zI be)), (10, .int (zI sx)), (11, .int (zI go)), (12, .int (zI (j : Int)))] rfl ?_
              exact hL88 ((pg + 1) + 0) (by omega) (by omega) (by unfold zL1; split <;> omega) (by omega)
            · skip
              refine zj_iload 74 0 C dL_pour_72 rfl rfl ?_
              refine zj_iconst 75 C dL_pour_74 rfl ?_
              refine zj_irem 76 C (by omega) (by omega) dL_pour_75 rfl ?_
              refine zj_iconst 77 C dL_pour_76 rfl ?_
              refine zj_icmp_ne 80 84 C (by omega) (by omega) dL_pour_77 rfl (by decide) (fun h_39 => ?_) (fun h_39 => ?_)
              · skip
                refine zj_iconst 85 C dL_pour_84 rfl ?_
                refine zj_iadd 86 C dL_pour_85 rfl ?_
                refine zj_istore 88 [(7, .int (zI ((pg + 1) + 0))), (0, .ref yk), (1, .ref yw), (2, .ref yb), (3, .ref yp), (4, .ref yr), (5, .ref yu), (6, .ref yt), (8, .int (zI ua)), (9, .int (zI be)), (10, .int (zI sx)), (11, .int (zI go)), (12, .int (zI (j : Int)))] C dL_pour_86 rfl (by decide) rfl ?_
                refine zj_lv [1, 2, 3, 4, 5, 6, 7, 0, 8, 9, 10, 11, 12] [(0, .ref yk), (1, .ref yw), (2, .ref yb), (3, .ref yp), (4, .ref yr), (5, .ref yu), (6, .ref yt), (7, .int (zI ((pg + 1) + 0))), (8, .int (zI ua)), (9, .int (zI be)), (10, .int (zI sx)), (11, .int (zI go)), (12, .int (zI (j : Int)))] rfl ?_
                exact hL88 ((pg + 1) + 0) (by omega) (by omega) (by unfold zL1; split <;> omega) (by omega)
              · skip
                refine zj_iconst 81 C dL_pour_80 rfl ?_
                refine zj_goto 85 C dL_pour_81 (by decide) ?_
                refine zj_iadd 86 C dL_pour_85 rfl ?_
                refine zj_istore 88 [(7, .int (zI ((pg + 1) + 1))), (0, .ref yk), (1, .ref yw), (2, .ref yb), (3, .ref yp), (4, .ref yr), (5, .ref yu), (6, .ref yt), (8, .int (zI ua)), (9, .int (zI be)), (10, .int (zI sx)), (11, .int (zI go)), (12, .int (zI (j : Int)))] C dL_pour_86 rfl (by decide) rfl ?_
                refine zj_lv [1, 2, 3, 4, 5, 6, 7, 0, 8, 9, 10, 11, 12] [(0, .ref yk), (1, .ref yw), (2, .ref yb), (3, .ref yp), (4, .ref yr), (5, .ref yu), (6, .ref yt), (7, .int (zI ((pg + 1) + 1))), (8, .int (zI ua)), (9, .int (zI be)), (10, .int (zI sx)), (11, .int (zI go)), (12, .int (zI (j : Int)))] rfl ?_
                exact hL88 ((pg + 1) + 1) (by omega) (by omega) (by unfold zL1; split <;> omega) (by omega)
  refine zj_lv [6, 7, 8, 9, 10, 11, 12, 5, 4, 3, 2, 1, 0] [(0, .ref yk), (1, .ref yw), (2, .ref yb), (3, .ref yp), (4, .ref yr), (5, .ref yu), (6, .ref yt), (7, .int (zI 0)), (8, .int (zI 0)), (9, .int (zI 0)), (10, .int (zI 0)), (11, .int (zI 1)), (12, .int (zI 0))] rfl ?_
  refine zj_eqlv (lv' := [(0, .ref yk), (1, .ref yw), (2, .ref yb), (3, .ref yp), (4, .ref yr), (5, .ref yu), (6, .ref yt), (7, .int (zI 0)), (8, .int (zI 0)), (9, .int (zI 0)), (10, .int (zI 0)), (11, .int (zI 1)), (12, .int (zI (0 : Int)))]) (by rfl) ?_
  exact hL18 (25) 0 0 0 0 0 1 Pl Rl Ul (by omega) (rfl) (fun i h => absurd h (by omega)) (by omega)

theorem wc_L_whole_10 : Cond.constant RL 10 (100000) ∈ wsL_whole := by decide +kernel
abbrev rm_L_whole : Room := { frames := 0, cells := 0, slots := 0, locals := 0 }
set_option maxRecDepth 100000 in
set_option maxHeartbeats 4000000 in
theorem c_L_whole (l : Launch) (D : va_G) (cI cS cJ : ClassId) (yk : Nat) (yw : Nat) (yp : Nat) (yt : Nat) (Kl : Int → Int) (Wl : Int → Int) (Bl : Int → Int) (Pl : Int → Int) (ty : Int → Int) (n1 : Int) (sg : Int) (hst : zOk n1 sg Kl Wl Bl) (ht : ty 0 = sg ∧ ty 1 = n1) (hP : ∀ i : Nat, (i : Int) < n1 → Pl i = (zPos sg Kl Wl Bl i).1) : zMi l yL_whole wsL_whole rm_L_whole D (zTy cI cS cJ) [.ref yk, .ref yw, .ref yp, .ref yt] [(yk, .inl (cI, 24, .inl (zA Kl))), (yw, .inl (cI, 24, .inl (zA Wl))), (yp, .inl (cI, 24, .inl (zA Pl))), (yt, .inl (cI, 2, .inl (zA ty)))] (fun r w => r = zI (zCosM n1 sg Kl Wl Bl) ∧ w = [(yk, .inl (cI, 24, .inl (zA Kl))), (yw, .inl (cI, 24, .inl (zA Wl))), (yp, .inl (cI, 24, .inl (zA Pl))), (yt, .inl (cI, 2, .inl (zA ty)))]) 0 0 := by
  intro sz
  refine zMet_of (Qc := fun A => va_Qi _ (zB D (zTy cI cS cJ) A) A) RL [(0, .ref yk), (1, .ref yw), (2, .ref yp), (3, .ref yt)] rfl (by decide +kernel) rfl (Nat.le_of_ble_eq_true rfl) rfl ?_ sz
  intro p e s m args below meth c A Q hQ C hr hini
  have hn := hst.1
  have hPb := kPb hst hP
  refine zj_iconst 1 C dL_whole_0 rfl ?_
  refine zj_istore 3 [(4, .int (zI 0)), (0, .ref yk), (1, .ref yw), (2, .ref yp), (3, .ref yt)] C dL_whole_1 rfl (by decide) rfl ?_
  refine zj_iconst 4 C dL_whole_3 rfl ?_
  refine zj_istore 6 [(5, .int (zI 0)), (4, .int (zI 0)), (0, .ref yk), (1, .ref yw), (2, .ref yp), (3, .ref yt)] C dL_whole_4 rfl (by decide) rfl ?_
  refine zj_iconst 7 C dL_whole_6 rfl ?_
  refine zj_istore 9 [(6, .int (zI 0)), (5, .int (zI 0)), (4, .int (zI 0)), (0, .ref yk), (1, .ref yw), (2, .ref yp), (3, .ref yt)] C dL_whole_7 rfl (by decide) rfl ?_
  refine zj_iconst 10 C dL_whole_9 rfl ?_
  refine zj_istore 12 [(7, .int (zI 0)), (6, .int (zI 0)), (5, .int (zI 0)), (4, .int (zI 0)), (0, .ref yk), (1, .ref yw), (2, .ref yp), (3, .ref yt)] C dL_whole_10 rfl (by decide) rfl ?_
  refine zj_iconst 13 C dL_whole_12 rfl ?_
  refine zj_istore 15 [(8, .int (zI 0)), (7, .int (zI 0)), (6, .int (zI 0)), (5, .int (zI 0)), (4, .int (zI 0)), (0, .ref yk), (1, .ref yw), (2, .ref yp), (3, .ref yt)] C dL_whole_13 rfl (by decide) rfl ?_
  have hL15 : ∀ (N : Nat) (k : Nat) (ou : Int) (us : Int) (M : Nat) (tk : Int), ((k : Int) ≤ n1) → (ou = zLo Pl k) → (us = kUs Kl Pl k) → (M = kBt Kl Pl k) → (tk = kTk Kl Wl Pl k) → (0 ≤ ou ∧ ou ≤ k) → (M < 65536) → (0 ≤ tk ∧ tk ≤ 48 * k) → (n1 - (k : Int) < N) → zJ p l e rm_L_whole s m args below meth c Q D A 10 [(yk, .inl (cI, 24, .inl (zA Kl))), (yw, .inl (cI, 24, .inl (zA Wl))), (yp, .inl (cI, 24, .inl (zA Pl))), (yt, .inl (cI, 2, .inl (zA ty)))] (0) (0) [(0, .ref yk), (1, .ref yw), (2, .ref yp), (3, .ref yt), (4, .int (zI ou)), (5, .int (zI us)), (6, .int (zI ((M : Nat) : Int))), (7, .int (zI tk)), (8, .int (zI (k : Int)))] 15 [] := by
    intro N
    induction N with
    | zero => intro k ou us M tk hkn ho hu hM hK hob hMb hKb hN; exact absurd hN (by omega)
    | succ N ih =>
      intro k ou us M tk hkn ho hu hM hK hob hMb hKb hN
      have hL90 : ∀ (o2 : Int) (la : Int) (u2 : Int), ((k : Int) < n1) → (0 ≤ Pl k) → (o2 = zLo Pl (k + 1)) → (0 ≤ o2 ∧ o2 ≤ k + 1) → (la = kLa Kl Pl k) → (0 ≤ la ∧ la ≤ 15) → (u2 = kUs Kl Pl (k + 1)) → zJ p l e rm_L_whole s m args below meth c Q D A 10 [(yk, .inl (cI, 24, .inl (zA Kl))), (yw, .inl (cI, 24, .inl (zA Wl))), (yp, .inl (cI, 24, .inl (zA Pl))), (yt, .inl (cI, 2, .inl (zA ty)))] (0) (0) [(0, .ref yk), (1, .ref yw), (2, .ref yp), (3, .ref yt), (4, .int (zI o2)), (5, .int (zI u2)), (6, .int (zI ((M : Nat) : Int))), (7, .int (zI tk)), (8, .int (zI (k : Int))), (9, .int (zI la))] 90 [] := by
        intro o2 la u2 hkn2 hp0 ho2 hob2 hla hlb hu2
        have hk := hst.2.2 k (by omega) (by omega)
        have hpk := hPb k (by omega)
        refine zj_iload 92 6 C dL_whole_90 rfl rfl ?_
        refine zj_iconst 93 C dL_whole_92 rfl ?_
        refine zj_aload_n 94 2 C dL_whole_93 rfl rfl rfl ?_
        refine zj_iload 96 8 C dL_whole_94 rfl rfl ?_
        refine zj_iald 97 2 C (by omega) (by omega) rfl rfl dL_whole_96 rfl ?_
        refine zj_ishl1 98 C (k2 := (Pl (k : Int)).toNat) (by omega) (by omega) dL_whole_97 rfl ?_
        refine zj_iconst 99 C dL_whole_98 rfl ?_
        refine zj_iload 101 9 C dL_whole_99 rfl rfl ?_
        refine zj_ishl1 102 C (k2 := (la).toNat) (by omega) (by omega) dL_whole_101 rfl ?_
        refine zj_ior 103 C (k1 := 2 ^ ((Pl (k : Int)).toNat)) (k2 := 2 ^ ((la).toNat)) dL_whole_102 rfl ?_
        refine zj_ior 104 C (k1 := M) (k2 := (2 ^ ((Pl (k : Int)).toNat)) ||| (2 ^ ((la).toNat))) dL_whole_103 rfl ?_
        refine zj_istore 106 [(6, .int (zI (((M) ||| ((2 ^ ((Pl (k : Int)).toNat)) ||| (2 ^ ((la).toNat))) : Nat) : Int))), (0, .ref yk), (1, .ref yw), (2, .ref yp), (3, .ref yt), (4, .int (zI o2)), (5, .int (zI u2)), (7, .int (zI tk)), (8, .int (zI (k : Int))), (9, .int (zI la))] C dL_whole_104 rfl (by decide) rfl ?_
        refine zj_iload 108 7 C dL_whole_106 rfl rfl ?_
        refine zj_aload_n 109 1 C dL_whole_108 rfl rfl rfl ?_
        refine zj_iload 111 8 C dL_whole_109 rfl rfl ?_
        refine zj_iald 112 0 C (by omega) (by omega) rfl rfl dL_whole_111 rfl ?_
        refine zj_iconst 113 C dL_whole_112 rfl ?_
        refine zj_icmp_ne 116 121 C (by omega) (by omega) dL_whole_113 rfl (by decide) (fun h_1 => ?_) (fun h_1 => ?_)
        · skip
          refine zj_aload_n 122 1 C dL_whole_121 rfl rfl rfl ?_
          refine zj_iload 124 8 C dL_whole_122 rfl rfl ?_
          refine zj_iald 125 0 C (by omega) (by omega) rfl rfl dL_whole_124 rfl ?_
          refine zj_iconst 126 C dL_whole_125 rfl ?_
          refine zj_icmp_ne 129 134 C (by omega) (by omega) dL_whole_126 rfl (by decide) (fun h_2 => ?_) (fun h_2 => ?_)
          · skip
            refine zj_aload_n 135 2 C dL_whole_134 rfl rfl rfl ?_
            refine zj_iload 137 8 C dL_whole_135 rfl rfl ?_
            refine zj_iald 138 1 C (by omega) (by omega) rfl rfl dL_whole_137 rfl ?_
            refine zj_iadd 139 C dL_whole_138 rfl ?_
            refine zj_istore 141 [(7, .int (zI (tk + (Wl (k : Int))))), (6, .int (zI (((M) ||| ((2 ^ ((Pl (k : Int)).toNat)) ||| (2 ^ ((la).toNat))) : Nat) : Int))), (0, .ref yk), (1, .ref yw), (2, .ref yp), (3, .ref yt), (4, .int (zI o2)), (5, .int (zI u2)), (8, .int (zI (k : Int))), (9, .int (zI la))] C dL_whole_139 rfl (by decide) rfl ?_
            refine zj_iinc 144 8 [(8, .int (zI ((k : Int) + 1))), (7, .int (zI (tk + (Wl (k : Int))))), (6, .int (zI (((M) ||| ((2 ^ ((Pl (k : Int)).toNat)) ||| (2 ^ ((la).toNat))) : Nat) : Int))), (0, .ref yk), (1, .ref yw), (2, .ref yp), (3, .ref yt), (4, .int (zI o2)), (5, .int (zI u2)), (9, .int (zI la))] C dL_whole_141 rfl rfl (by decide) rfl ?_
            refine zj_goto 15 C dL_whole_144 (by decide) ?_
            refine zj_lv [3, 4, 5, 6, 7, 8, 2, 1, 0] [(0, .ref yk), (1, .ref yw), (2, .ref yp), (3, .ref yt), (4, .int (zI o2)), (5, .int (zI u2)), (6, .int (zI (((M) ||| ((2 ^ ((Pl (k : Int)).toNat)) ||| (2 ^ ((la).toNat))) : Nat) : Int))), (7, .int (zI (tk + (Wl (k : Int))))), (8, .int (zI ((k : Int) + 1)))] rfl ?_
            refine zj_eqlv (lv' := [(0, .ref yk), (1, .ref yw), (2, .ref yp), (3, .ref yt), (4, .int (zI o2)), (5, .int (zI u2)), (6, .int (zI ((((M) ||| ((2 ^ ((Pl (k : Int)).toNat)) ||| (2 ^ ((la).toNat)))) : Nat) : Int))), (7, .int (zI (tk + (Wl (k : Int))))), (8, .int (zI ((k + 1) : Int)))]) (by rfl) ?_
            exact ih (k + 1) o2 u2 ((M) ||| ((2 ^ ((Pl (k : Int)).toNat)) ||| (2 ^ ((la).toNat)))) (tk + (Wl (k : Int))) (by omega) (ho2) (hu2) (by rw [kBt, if_pos (by omega), ← hM, ← hla]) (by rw [kTk]; (repeat' split) <;> omega) (by omega) (by rw [show (M) ||| ((2 ^ ((Pl (k : Int)).toNat)) ||| (2 ^ ((la).toNat))) = kBt Kl Pl (k + 1) from by rw [kBt, if_pos (by omega), ← hM, ← hla]]; exact kBt_b hPb (k + 1) (by omega)) (by omega) (by omega)
          · skip
            refine zj_bipush 131 C dL_whole_129 rfl rfl ?_
            refine zj_goto 138 C dL_whole_131 (by decide) ?_
            refine zj_iadd 139 C dL_whole_138 rfl ?_
            refine zj_istore 141 [(7, .int (zI (tk + 48))), (6, .int (zI (((M) ||| ((2 ^ ((Pl (k : Int)).toNat)) ||| (2 ^ ((la).toNat))) : Nat) : Int))), (0, .ref yk), (1, .ref yw), (2, .ref yp), (3, .ref yt), (4, .int (zI o2)), (5, .int (zI u2)), (8, .int (zI (k : Int))), (9, .int (zI la))] C dL_whole_139 rfl (by decide) rfl ?_
            refine zj_iinc 144 8 [(8, .int (zI ((k : Int) + 1))), (7, .int (zI (tk + 48))), (6, .int (zI (((M) ||| ((2 ^ ((Pl (k : Int)).toNat)) ||| (2 ^ ((la).toNat))) : Nat) : Int))), (0, .ref yk), (1, .ref yw), (2, .ref yp), (3, .ref yt), (4, .int (zI o2)), (5, .int (zI u2)), (9, .int (zI la))] C dL_whole_141 rfl rfl (by decide) rfl ?_
            refine zj_goto 15 C dL_whole_144 (by decide) ?_
            refine zj_lv [3, 4, 5, 6, 7, 8, 2, 1, 0] [(0, .ref yk), (1, .ref yw), (2, .ref yp), (3, .ref yt), (4, .int (zI o2)), (5, .int (zI u2)), (6, .int (zI (((M) ||| ((2 ^ ((Pl (k : Int)).toNat)) ||| (2 ^ ((la).toNat))) : Nat) : Int))), (7, .int (zI (tk + 48))), (8, .int (zI ((k : Int) + 1)))] rfl ?_
            refine zj_eqlv (lv' := [(0, .ref yk), (1, .ref yw), (2, .ref yp), (3, .ref yt), (4, .int (zI o2)), (5, .int (zI u2)), (6, .int (zI ((((M) ||| ((2 ^ ((Pl (k : Int)).toNat)) ||| (2 ^ ((la).toNat)))) : Nat) : Int))), (7, .int (zI (tk + 48))), (8, .int (zI ((k + 1) : Int)))]) (by rfl) ?_
            exact ih (k + 1) o2 u2 ((M) ||| ((2 ^ ((Pl (k : Int)).toNat)) ||| (2 ^ ((la).toNat)))) (tk + 48) (by omega) (ho2) (hu2) (by rw [kBt, if_pos (by omega), ← hM, ← hla]) (by rw [kTk]; (repeat' split) <;> omega) (by omega) (by rw [show (M) ||| ((2 ^ ((Pl (k : Int)).toNat)) ||| (2 ^ ((la).toNat))) = kBt Kl Pl (k + 1) from by rw [kBt, if_pos (by omega), ← hM, ← hla]]; exact kBt_b hPb (k + 1) (by omega)) (by omega) (by omega)
        · skip
          refine zj_bipush 118 C dL_whole_116 rfl rfl ?_
          refine zj_goto 138 C dL_whole_118 (by decide) ?_
          refine zj_iadd 139 C dL_whole_138 rfl ?_
          refine zj_istore 141 [(7, .int (zI (tk + 24))), (6, .int (zI (((M) ||| ((2 ^ ((Pl (k : Int)).toNat)) ||| (2 ^ ((la).toNat))) : Nat) : Int))), (0, .ref yk), (1, .ref yw), (2, .ref yp), (3, .ref yt), (4, .int (zI o2)), (5, .int (zI u2)), (8, .int (zI (k : Int))), (9, .int (zI la))] C dL_whole_139 rfl (by decide) rfl ?_
          refine zj_iinc 144 8 [(8, .int (zI ((k : Int) + 1))), (7, .int (zI (tk + 24))), (6, .int (zI (((M) ||| ((2 ^ ((Pl (k : Int)).toNat)) ||| (2 ^ ((la).toNat))) : Nat) : Int))), (0, .ref yk), (1, .ref yw), (2, .ref yp), (3, .ref yt), (4, .int (zI o2)), (5, .int (zI u2)), (9, .int (zI la))] C dL_whole_141 rfl rfl (by decide) rfl ?_
          refine zj_goto 15 C dL_whole_144 (by decide) ?_
          refine zj_lv [3, 4, 5, 6, 7, 8, 2, 1, 0] [(0, .ref yk), (1, .ref yw), (2, .ref yp), (3, .ref yt), (4, .int (zI o2)), (5, .int (zI u2)), (6, .int (zI (((M) ||| ((2 ^ ((Pl (k : Int)).toNat)) ||| (2 ^ ((la).toNat))) : Nat) : Int))), (7, .int (zI (tk + 24))), (8, .int (zI ((k : Int) + 1)))] rfl ?_
          refine zj_eqlv (lv' := [(0, .ref yk), (1, .ref yw), (2, .ref yp), (3, .ref yt), (4, .int (zI o2)), (5, .int (zI u2)), (6, .int (zI ((((M) ||| ((2 ^ ((Pl (k : Int)).toNat)) ||| (2 ^ ((la).toNat)))) : Nat) : Int))), (7, .int (zI (tk + 24))), (8, .int (zI ((k + 1) : Int)))]) (by rfl) ?_
          exact ih (k + 1) o2 u2 ((M) ||| ((2 ^ ((Pl (k : Int)).toNat)) ||| (2 ^ ((la).toNat)))) (tk + 24) (by omega) (ho2) (hu2) (by rw [kBt, if_pos (by omega), ← hM, ← hla]) (by rw [kTk]; (repeat' split) <;> omega) (by omega) (by rw [show (M) ||| ((2 ^ ((Pl (k : Int)).toNat)) ||| (2 ^ ((la).toNat))) = kBt Kl Pl (k + 1) from by rw [kBt, if_pos (by omega), ← hM, ← hla]]; exact kBt_b hPb (k + 1) (by omega)) (by omega) (by omega)
      have hL70 : ∀ (o2 : Int) (la : Int), ((k : Int) < n1) → (0 ≤ Pl k) → (o2 = zLo Pl (k + 1)) → (0 ≤ o2 ∧ o2 ≤ k + 1) → (la = kLa Kl Pl k) → (0 ≤ la ∧ la ≤ 15) → zJ p l e rm_L_whole s m args below meth c Q D A 10 [(yk, .inl (cI, 24, .inl (zA Kl))), (yw, .inl (cI, 24, .inl (zA Wl))), (yp, .inl (cI, 24, .inl (zA Pl))), (yt, .inl (cI, 2, .inl (zA ty)))] (0) (0) [(0, .ref yk), (1, .ref yw), (2, .ref yp), (3, .ref yt), (4, .int (zI o2)), (5, .int (zI us)), (6, .int (zI ((M : Nat) : Int))), (7, .int (zI tk)), (8, .int (zI (k : Int))), (9, .int (zI la))] 70 [] := by
        intro o2 la hkn2 hp0 ho2 hob2 hla hlb
        have hk := hst.2.2 k (by omega) (by omega)
        have hpk := hPb k (by omega)
        have hub := kUs_b (K := Kl) hPb k (by omega)
        refine zj_iload 72 9 C dL_whole_70 rfl rfl ?_
        refine zj_iconst 73 C dL_whole_72 rfl ?_
        refine zj_iadd 74 C dL_whole_73 rfl ?_
        refine zj_iload 76 5 C dL_whole_74 rfl rfl ?_
        refine zj_icmp_le 79 86 C (by omega) (by omega) dL_whole_76 rfl (by decide) (fun h_3 => ?_) (fun h_3 => ?_)
        · skip
          refine zj_iload 88 5 C dL_whole_86 rfl rfl ?_
          refine zj_istore 90 [(5, .int (zI us)), (0, .ref yk), (1, .ref yw), (2, .ref yp), (3, .ref yt), (4, .int (zI o2)), (6, .int (zI ((M : Nat) : Int))), (7, .int (zI tk)), (8, .int (zI (k : Int))), (9, .int (zI la))] C dL_whole_88 rfl (by decide) rfl ?_
          refine zj_lv [1, 2, 3, 4, 5, 0, 6, 7, 8, 9] [(0, .ref yk), (1, .ref yw), (2, .ref yp), (3, .ref yt), (4, .int (zI o2)), (5, .int (zI us)), (6, .int (zI ((M : Nat) : Int))), (7, .int (zI tk)), (8, .int (zI (k : Int))), (9, .int (zI la))] rfl ?_
          exact hL90 o2 la us (by omega) (by omega) (ho2) (by omega) (hla) (by omega) (by rw [kUs, ← hla]; split <;> omega)
        · skip
          refine zj_iload 81 9 C dL_whole_79 rfl rfl ?_
          refine zj_iconst 82 C dL_whole_81 rfl ?_
          refine zj_iadd 83 C dL_whole_82 rfl ?_
          refine zj_goto 88 C dL_whole_83 (by decide) ?_
          refine zj_istore 90 [(5, .int (zI (la + 1))), (0, .ref yk), (1, .ref yw), (2, .ref yp), (3, .ref yt), (4, .int (zI o2)), (6, .int (zI ((M : Nat) : Int))), (7, .int (zI tk)), (8, .int (zI (k : Int))), (9, .int (zI la))] C dL_whole_88 rfl (by decide) rfl ?_
          refine zj_lv [1, 2, 3, 4, 5, 0, 6, 7, 8, 9] [(0, .ref yk), (1, .ref yw), (2, .ref yp), (3, .ref yt), (4, .int (zI o2)), (5, .int (zI (la + 1))), (6, .int (zI ((M : Nat) : Int))), (7, .int (zI tk)), (8, .int (zI (k : Int))), (9, .int (zI la))] rfl ?_
          exact hL90 o2 la (la + 1) (by omega) (by omega) (ho2) (by omega) (hla) (by omega) (by rw [kUs, ← hla]; split <;> omega)
      have hL40 : ∀ (o2 : Int), ((k : Int) < n1) → (o2 = zLo Pl (k + 1)) → (0 ≤ o2 ∧ o2 ≤ k + 1) → zJ p l e rm_L_whole s m args below meth c Q D A 10 [(yk, .inl (cI, 24, .inl (zA Kl))), (yw, .inl (cI, 24, .inl (zA Wl))), (yp, .inl (cI, 24, .inl (zA Pl))), (yt, .inl (cI, 2, .inl (zA ty)))] (0) (0) [(0, .ref yk), (1, .ref yw), (2, .ref yp), (3, .ref yt), (4, .int (zI o2)), (5, .int (zI us)), (6, .int (zI ((M : Nat) : Int))), (7, .int (zI tk)), (8, .int (zI (k : Int)))] 40 [] := by
        intro o2 hkn2 ho2 hob2
        have hk := hst.2.2 k (by omega) (by omega)
        have hpk := hPb k (by omega)
        have hub := kUs_b (K := Kl) hPb k (by omega)
        refine zj_aload_n 41 2 C dL_whole_40 rfl rfl rfl ?_
        refine zj_iload 43 8 C dL_whole_41 rfl rfl ?_
        refine zj_iald 44 2 C (by omega) (by omega) rfl rfl dL_whole_43 rfl ?_
        refine zj_if_lt 47 141 C (by omega) dL_whole_44 rfl (by decide) (fun h_4 => ?_) (fun h_4 => ?_)
        · skip
          refine zj_iinc 144 8 [(8, .int (zI ((k : Int) + 1))), (0, .ref yk), (1, .ref yw), (2, .ref yp), (3, .ref yt), (4, .int (zI o2)), (5, .int (zI us)), (6, .int (zI ((M : Nat) : Int))), (7, .int (zI tk))] C dL_whole_141 rfl rfl (by decide) rfl ?_
          refine zj_goto 15 C dL_whole_144 (by decide) ?_
          refine zj_lv [1, 2, 3, 4, 5, 6, 7, 8, 0] [(0, .ref yk), (1, .ref yw), (2, .ref yp), (3, .ref yt), (4, .int (zI o2)), (5, .int (zI us)), (6, .int (zI ((M : Nat) : Int))), (7, .int (zI tk)), (8, .int (zI ((k : Int) + 1)))] rfl ?_
          refine zj_eqlv (lv' := [(0, .ref yk), (1, .ref yw), (2, .ref yp), (3, .ref yt), (4, .int (zI o2)), (5, .int (zI us)), (6, .int (zI ((M : Nat) : Int))), (7, .int (zI tk)), (8, .int (zI ((k + 1) : Int)))]) (by rfl) ?_
          exact ih (k + 1) o2 us M tk (by omega) (ho2) (by rw [kUs, if_neg (by omega)]; exact hu) (by rw [kBt, if_neg (by omega)]; exact hM) (by rw [kTk]; (repeat' split) <;> omega) (by omega) (by rw [show M = kBt Kl Pl (k + 1) from by rw [kBt, if_neg (by omega)]; exact hM]; exact kBt_b hPb (k + 1) (by omega)) (by omega) (by omega)
        · skip
          refine zj_aload_n 48 0 C dL_whole_47 rfl rfl rfl ?_
          refine zj_iload 50 8 C dL_whole_48 rfl rfl ?_
          refine zj_iald 51 0 C (by omega) (by omega) rfl rfl dL_whole_50 rfl ?_
          refine zj_iconst 52 C dL_whole_51 rfl ?_
          refine zj_icmp_ne 55 64 C (by omega) (by omega) dL_whole_52 rfl (by decide) (fun h_5 => ?_) (fun h_5 => ?_)
          · skip
            refine zj_aload_n 65 2 C dL_whole_64 rfl rfl rfl ?_
            refine zj_iload 67 8 C dL_whole_65 rfl rfl ?_
            refine zj_iald 68 2 C (by omega) (by omega) rfl rfl dL_whole_67 rfl ?_
            refine zj_istore 70 [(9, .int (zI (Pl (k : Int)))), (0, .ref yk), (1, .ref yw), (2, .ref yp), (3, .ref yt), (4, .int (zI o2)), (5, .int (zI us)), (6, .int (zI ((M : Nat) : Int))), (7, .int (zI tk)), (8, .int (zI (k : Int)))] C dL_whole_68 rfl (by decide) rfl ?_
            refine zj_lv [1, 2, 3, 4, 5, 6, 7, 8, 9, 0] [(0, .ref yk), (1, .ref yw), (2, .ref yp), (3, .ref yt), (4, .int (zI o2)), (5, .int (zI us)), (6, .int (zI ((M : Nat) : Int))), (7, .int (zI tk)), (8, .int (zI (k : Int))), (9, .int (zI (Pl (k : Int))))] rfl ?_
            exact hL70 o2 (Pl (k : Int)) (by omega) (by omega) (ho2) (by omega) (by unfold kLa; split <;> omega) (by omega)
          · skip
            refine zj_aload_n 56 2 C dL_whole_55 rfl rfl rfl ?_
            refine zj_iload 58 8 C dL_whole_56 rfl rfl ?_
            refine zj_iald 59 2 C (by omega) (by omega) rfl rfl dL_whole_58 rfl ?_
            refine zj_iconst 60 C dL_whole_59 rfl ?_
            refine zj_iadd 61 C dL_whole_60 rfl ?_
            refine zj_goto 68 C dL_whole_61 (by decide) ?_
            refine zj_istore 70 [(9, .int (zI ((Pl (k : Int)) + 1))), (0, .ref yk), (1, .ref yw), (2, .ref yp), (3, .ref yt), (4, .int (zI o2)), (5, .int (zI us)), (6, .int (zI ((M : Nat) : Int))), (7, .int (zI tk)), (8, .int (zI (k : Int)))] C dL_whole_68 rfl (by decide) rfl ?_
            refine zj_lv [1, 2, 3, 4, 5, 6, 7, 8, 9, 0] [(0, .ref yk), (1, .ref yw), (2, .ref yp), (3, .ref yt), (4, .int (zI o2)), (5, .int (zI us)), (6, .int (zI ((M : Nat) : Int))), (7, .int (zI tk)), (8, .int (zI (k : Int))), (9, .int (zI ((Pl (k : Int)) + 1)))] rfl ?_
            exact hL70 o2 ((Pl (k : Int)) + 1) (by omega) (by omega) (ho2) (by omega) (by unfold kLa; split <;> omega) (by omega)
      refine zj_iload 17 8 C dL_whole_15 rfl rfl ?_
      refine zj_aload_n 18 3 C dL_whole_17 rfl rfl rfl ?_
      refine zj_iconst 19 C dL_whole_18 rfl ?_
      refine zj_iald 20 3 C (by omega) (by omega) rfl rfl dL_whole_19 rfl ?_
      refine zj_icmp_ge 23 147 C (by omega) (by omega) dL_whole_20 rfl (by decide) (fun h_6 => ?_) (fun h_6 => ?_)
      · skip
        refine zj_iconst 148 C dL_whole_147 rfl ?_
        refine zj_istore 150 [(8, .int (zI 0)), (0, .ref yk), (1, .ref yw), (2, .ref yp), (3, .ref yt), (4, .int (zI ou)), (5, .int (zI us)), (6, .int (zI ((M : Nat) : Int))), (7, .int (zI tk))] C dL_whole_148 rfl (by decide) rfl ?_
        refine zj_iconst 151 C dL_whole_150 rfl ?_
        refine zj_istore 153 [(9, .int (zI 0)), (8, .int (zI 0)), (0, .ref yk), (1, .ref yw), (2, .ref yp), (3, .ref yt), (4, .int (zI ou)), (5, .int (zI us)), (6, .int (zI ((M : Nat) : Int))), (7, .int (zI tk))] C dL_whole_151 rfl (by decide) rfl ?_
        have hL153 : ∀ (N153 : Nat) (q : Nat) (ps : Int), ((q : Int) ≤ 16) → (ps = kPc M q) → (0 ≤ ps ∧ ps ≤ q) → (16 - (q : Int) < N153) → zJ p l e rm_L_whole s m args below meth c Q D A 10 [(yk, .inl (cI, 24, .inl (zA Kl))), (yw, .inl (cI, 24, .inl (zA Wl))), (yp, .inl (cI, 24, .inl (zA Pl))), (yt, .inl (cI, 2, .inl (zA ty)))] (0) (0) [(4, .int (zI ou)), (5, .int (zI us)), (6, .int (zI ((M : Nat) : Int))), (7, .int (zI tk)), (8, .int (zI ps)), (9, .int (zI (q : Int)))] 153 [] := by
          intro N153
          induction N153 with
          | zero => intro q ps hq hps hpb hN153; exact absurd hN153 (by omega)
          | succ N153 ih153 =>
            intro q ps hq hps hpb hN153
            refine zj_iload 155 5 C dL_whole_153 rfl rfl ?_
            refine zj_bipush 157 C dL_whole_155 rfl rfl ?_
            refine zj_icmp_ge 160 178 C (by omega) (by omega) dL_whole_157 rfl (by decide) (fun h_7 => ?_) (fun h_7 => ?_)
            · skip
              refine zj_ldc 180 C (100000) rfl wc_L_whole_10 dL_whole_178 rfl ?_
              refine zj_iload 182 0 C dL_whole_180 rfl rfl ?_
              refine zj_imul 183 C dL_whole_182 rfl ?_
              refine zj_sipush 186 C dL_whole_183 rfl rfl ?_
              refine zj_iload 188 1 C dL_whole_186 rfl rfl ?_
              refine zj_imul 189 C dL_whole_188 rfl ?_
              refine zj_iadd 190 C dL_whole_189 rfl ?_
              refine zj_bipush 192 C dL_whole_190 rfl rfl ?_
              refine zj_iload 194 4 C dL_whole_192 rfl rfl ?_
              refine zj_imul 195 C dL_whole_194 rfl ?_
              refine zj_iadd 196 C dL_whole_195 rfl ?_
              refine zj_iload 198 3 C dL_whole_196 rfl rfl ?_
              refine zj_isub 199 C dL_whole_198 rfl ?_
              refine zj_st (st' := [.int (zI (zCosM n1 sg Kl Wl Bl))]) (by rw [ho, hu, hps, hK, hM, show q = 16 by omega, show k = n1.toNat by omega, kCos hst hP]) ?_
              subst hQ
              exact zj_ireturn C hr ⟨rfl, rfl⟩ (by decide) (by decide) dL_whole_199
            · skip
              have hpcb := kPc_b M q
              refine zj_iload 162 4 C dL_whole_160 rfl rfl ?_
              refine zj_iload 164 2 C dL_whole_162 rfl rfl ?_
              refine zj_iload 166 5 C dL_whole_164 rfl rfl ?_
              refine zj_ishrN 167 C (k1 := M) (k2 := q) (by omega) (by omega) dL_whole_166 rfl (fun vs_8 hvs_8 hbvs_8 => ?_)
              refine zj_iconst 168 C dL_whole_167 rfl ?_
              refine zj_iand1 169 C dL_whole_168 rfl (by omega) ?_
              refine zj_iadd 170 C dL_whole_169 rfl ?_
              refine zj_istore 172 [(8, .int (zI (ps + ((vs_8 : Int) % 2)))), (4, .int (zI ou)), (5, .int (zI us)), (6, .int (zI ((M : Nat) : Int))), (7, .int (zI tk)), (9, .int (zI (q : Int)))] C dL_whole_170 rfl (by decide) rfl ?_
              refine zj_iinc 175 5 [(9, .int (zI ((q : Int) + 1))), (8, .int (zI (ps + ((vs_8 : Int) % 2)))), (4, .int (zI ou)), (5, .int (zI us)), (6, .int (zI ((M : Nat) : Int))), (7, .int (zI tk))] C dL_whole_172 rfl rfl (by decide) rfl ?_
              refine zj_goto 153 C dL_whole_175 (by decide) ?_
              refine zj_lv [2, 3, 4, 5, 1, 0] [(4, .int (zI ou)), (5, .int (zI us)), (6, .int (zI ((M : Nat) : Int))), (7, .int (zI tk)), (8, .int (zI (ps + ((vs_8 : Int) % 2)))), (9, .int (zI ((q : Int) + 1)))] rfl ?_
              refine zj_eqlv (lv' := [(4, .int (zI ou)), (5, .int (zI us)), (6, .int (zI ((M : Nat) : Int))), (7, .int (zI tk)), (8, .int (zI (ps + ((vs_8 : Int) % 2)))), (9, .int (zI ((q + 1) : Int)))]) (by rfl) ?_
              exact ih153 (q + 1) (ps + ((vs_8 : Int) % 2)) (by omega) (by rw [kPc, ← hps]; omega) (by omega) (by omega)
        refine zj_lv [6, 7, 8, 9, 1, 0] [(4, .int (zI ou)), (5, .int (zI us)), (6, .int (zI ((M : Nat) : Int))), (7, .int (zI tk)), (8, .int (zI 0)), (9, .int (zI 0))] rfl ?_
        refine zj_eqlv (lv' := [(4, .int (zI ou)), (5, .int (zI us)), (6, .int (zI ((M : Nat) : Int))), (7, .int (zI tk)), (8, .int (zI 0)), (9, .int (zI (0 : Int)))]) (by rfl) ?_
        exact hL153 (17) 0 0 (by omega) (rfl) (by omega) (by omega)
      · skip
        have hk := hst.2.2 k (by omega) (by omega)
        have hpk := hPb k (by omega)
        have hub := kUs_b (K := Kl) hPb k (by omega)
        refine zj_iload 25 4 C dL_whole_23 rfl rfl ?_
        refine zj_aload_n 26 2 C dL_whole_25 rfl rfl rfl ?_
        refine zj_iload 28 8 C dL_whole_26 rfl rfl ?_
        refine zj_iald 29 2 C (by omega) (by omega) rfl rfl dL_whole_28 rfl ?_
        refine zj_if_ge 32 36 C (by omega) dL_whole_29 rfl (by decide) (fun h_9 => ?_) (fun h_9 => ?_)
        · skip
          refine zj_iconst 37 C dL_whole_36 rfl ?_
          refine zj_iadd 38 C dL_whole_37 rfl ?_
          refine zj_istore 40 [(4, .int (zI (ou + 0))), (0, .ref yk), (1, .ref yw), (2, .ref yp), (3, .ref yt), (5, .int (zI us)), (6, .int (zI ((M : Nat) : Int))), (7, .int (zI tk)), (8, .int (zI (k : Int)))] C dL_whole_38 rfl (by decide) rfl ?_
          refine zj_lv [1, 2, 3, 4, 0, 5, 6, 7, 8] [(0, .ref yk), (1, .ref yw), (2, .ref yp), (3, .ref yt), (4, .int (zI (ou + 0))), (5, .int (zI us)), (6, .int (zI ((M : Nat) : Int))), (7, .int (zI tk)), (8, .int (zI (k : Int)))] rfl ?_
          exact hL40 (ou + 0) (by omega) (by rw [zLo]; split <;> omega) (by omega)
        · skip
          refine zj_iconst 33 C dL_whole_32 rfl ?_
          refine zj_goto 37 C dL_whole_33 (by decide) ?_
          refine zj_iadd 38 C dL_whole_37 rfl ?_
          refine zj_istore 40 [(4, .int (zI (ou + 1))), (0, .ref yk), (1, .ref yw), (2, .ref yp), (3, .ref yt), (5, .int (zI us)), (6, .int (zI ((M : Nat) : Int))), (7, .int (zI tk)), (8, .int (zI (k : Int)))] C dL_whole_38 rfl (by decide) rfl ?_
          refine zj_lv [1, 2, 3, 4, 0, 5, 6, 7, 8] [(0, .ref yk), (1, .ref yw), (2, .ref yp), (3, .ref yt), (4, .int (zI (ou + 1))), (5, .int (zI us)), (6, .int (zI ((M : Nat) : Int))), (7, .int (zI tk)), (8, .int (zI (k : Int)))] rfl ?_
          exact hL40 (ou + 1) (by omega) (by rw [zLo]; split <;> omega) (by omega)
  refine zj_lv [5, 6, 7, 8, 4, 3, 2, 1, 0] [(0, .ref yk), (1, .ref yw), (2, .ref yp), (3, .ref yt), (4, .int (zI 0)), (5, .int (zI 0)), (6, .int (zI 0)), (7, .int (zI 0)), (8, .int (zI 0))] rfl ?_
  refine zj_eqlv (lv' := [(0, .ref yk), (1, .ref yw), (2, .ref yp), (3, .ref yt), (4, .int (zI 0)), (5, .int (zI 0)), (6, .int (zI ((0 : Nat) : Int))), (7, .int (zI 0)), (8, .int (zI (0 : Int)))]) (by rfl) ?_
  exact hL15 (25) 0 0 0 0 0 (by omega) (rfl) (rfl) (rfl) (rfl) (by omega) (by omega) (by omega) (by omega)
