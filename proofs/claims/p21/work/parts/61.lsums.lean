/-! ===== the law's sums over the panels ===== -/
def kLa (K P : Int → Int) (i : Int) : Int := if K i = 3 then P i + 1 else P i
def kUs (K P : Int → Int) : Nat → Int | 0 => 0 | i + 1 => if 0 ≤ P i ∧ kUs K P i < kLa K P i + 1 then kLa K P i + 1 else kUs K P i
def kBt (K P : Int → Int) : Nat → Nat | 0 => 0 | i + 1 => if 0 ≤ P i then kBt K P i ||| (2 ^ (P i).toNat ||| 2 ^ (kLa K P i).toNat) else kBt K P i
def kTk (K W P : Int → Int) : Nat → Int | 0 => 0 | i + 1 => if 0 ≤ P i then kTk K W P i + (if K i = 2 then 24 else if K i = 3 then 48 else W i) else kTk K W P i
def kPc (M : Nat) : Nat → Int | 0 => 0 | m + 1 => kPc M m + ((M / 2 ^ m % 2 : Nat) : Int)
/-- a panel is on a page -/
abbrev kOn (K P : Int → Int) (p i : Int) : Prop := P i = p ∨ (K i = 3 ∧ 0 ≤ P i ∧ P i + 1 = p)
def kMn (K P : Int → Int) (p : Int) : Nat → Int | 0 => 0 | i + 1 => kMn K P p i + if kOn K P p i then 1 else 0
def kBs (T P : Int → Int) (p : Int) : Nat → Int | 0 => 0 | i + 1 => kBs T P p i + if P i = p then T i else 0
def kTn (K W P : Int → Int) (p : Int) : Nat → Int | 0 => 0 | i + 1 => kTn K W P p i + if kOn K P p i then (if 1 < K i then 24 else W i) else 0
theorem kBit (n a b q : Nat) : (n ||| (2 ^ a ||| 2 ^ b)).testBit q = (n.testBit q || decide (a = q) || decide (b = q)) := by
  rw [Nat.testBit_or, Nat.testBit_or, Nat.testBit_two_pow, Nat.testBit_two_pow, Bool.or_assoc]
theorem kPc_s {M : Nat} {c : Int → Int} : ∀ m : Nat, (∀ q : Nat, q < m → M.testBit q = decide (0 < c q)) → kPc M m = zPs c m
  | 0, _ => rfl
  | m + 1, h => by
    have h1 := h m (by omega)
    rw [Nat.testBit_eq_decide_div_mod_eq] at h1
    rw [kPc, zPs, kPc_s m (fun q hq => h q (by omega))]
    have h2 : M / 2 ^ m % 2 < 2 := Nat.mod_lt _ (by omega)
    by_cases hc : 0 < c m
    · rw [if_pos hc]
      have h3 : M / 2 ^ m % 2 = 1 := of_decide_eq_true (by rw [h1]; exact decide_eq_true hc)
      rw [h3]; rfl
    · rw [if_neg hc]
      have h3 : ¬ M / 2 ^ m % 2 = 1 := of_decide_eq_false (by rw [h1]; exact decide_eq_false hc)
      have h4 : M / 2 ^ m % 2 = 0 := by omega
      rw [h4]; rfl
/-- what the sums are while all panels are set -/
def kInv (K W T P : Int → Int) (j : Nat) (L : ZL) : Prop :=
  kUs K P j = L.2.2.2.2.2.2.2.2.1 ∧ (∀ q : Nat, q < 16 → (kBt K P j).testBit q = decide (0 < L.2.2.2.2.1 q)) ∧ kTk K W P j = L.2.2.2.2.2.2.2.2.2.2 ∧
  ∀ p : Int, 0 ≤ p → p < 16 → kMn K P p j = L.2.2.2.2.1 p ∧ kBs T P p j = L.2.2.2.2.2.1 p ∧ kTn K W P p j = L.2.2.2.2.2.2.1 p ∧ (∀ i : Int, 0 ≤ i → i < j → kOn K P p i → 0 < L.2.2.2.2.1 p) ∧ (0 < L.2.2.2.2.1 p → 0 ≤ L.2.2.2.2.2.2.2.1 p ∧ L.2.2.2.2.2.2.2.1 p < j ∧ kOn K P p (L.2.2.2.2.2.2.2.1 p) ∧ ∀ x : Int, 0 ≤ x → x < L.2.2.2.2.2.2.2.1 p → ¬ kOn K P p x)
/-- one page more -/
theorem kPg {K W T P c b f s : Int → Int} {p Q t u : Int} {j : Nat} (hon : kOn K P p j ↔ p = Q) (hb : (if P j = p then T j else 0) = if p = Q then t else 0) (hf : (if kOn K P p j then (if 1 < K j then 24 else W j) else (0 : Int)) = if p = Q then u else 0) (hc : 0 ≤ c p)
    (h : kMn K P p j = c p ∧ kBs T P p j = b p ∧ kTn K W P p j = f p ∧ (∀ i : Int, 0 ≤ i → i < j → kOn K P p i → 0 < c p) ∧ (0 < c p → 0 ≤ s p ∧ s p < j ∧ kOn K P p (s p) ∧ ∀ x : Int, 0 ≤ x → x < s p → ¬ kOn K P p x)) :
    kMn K P p (j + 1) = zU c Q (c Q + 1) p ∧ kBs T P p (j + 1) = zU b Q (b Q + t) p ∧ kTn K W P p (j + 1) = zU f Q (f Q + u) p ∧ (∀ i : Int, 0 ≤ i → i < ((j + 1 : Nat) : Int) → kOn K P p i → 0 < zU c Q (c Q + 1) p) ∧ (0 < zU c Q (c Q + 1) p → 0 ≤ zFs c s Q j p ∧ zFs c s Q j p < ((j + 1 : Nat) : Int) ∧ kOn K P p (zFs c s Q j p) ∧ ∀ x : Int, 0 ≤ x → x < zFs c s Q j p → ¬ kOn K P p x) := by
  obtain ⟨h1, h2, h3, h4, h5⟩ := h
  rw [kMn, kBs, kTn, h1, h2, h3, hb, hf]
  by_cases e : p = Q
  · subst e
    rw [if_pos (hon.mpr rfl), if_pos rfl, if_pos rfl, zU_eq, zU_eq, zU_eq, zFs_p]
    refine ⟨rfl, rfl, rfl, fun i _ _ _ => by omega, fun _ => ?_⟩
    by_cases e0 : c p = 0
    · rw [if_pos e0]
      exact ⟨by omega, by omega, hon.mpr rfl, fun x x1 x2 hx => by have := h4 x x1 x2 hx; omega⟩
    · rw [if_neg e0]
      obtain ⟨g1, g2, g3, g4⟩ := h5 (by omega)
      exact ⟨g1, by omega, g3, g4⟩
  · rw [if_neg (fun q => e (hon.mp q)), if_neg e, if_neg e, zU_ne _ _ e, zU_ne _ _ e, zU_ne _ _ e, zFs_ne e]
    refine ⟨Int.add_zero _, Int.add_zero _, Int.add_zero _, fun i i1 i2 hi => ?_, fun hc2 => ?_⟩
    · by_cases ei : i = j
      · subst ei; exact absurd (hon.mp hi) e
      · exact h4 i i1 (by omega) hi
    · obtain ⟨g1, g2, g3, g4⟩ := h5 hc2
      exact ⟨g1, by omega, g3, g4⟩
theorem kInv_all {n sg : Int} {K W T P : Int → Int} (hok : zOk n sg K W T) (hP : ∀ i : Nat, (i : Int) < n → P i = (zPos sg K W T i).1) : ∀ j : Nat, (j : Int) ≤ n → (zSeq sg K W T j).1 = true → kInv K W T P j (zSeq sg K W T j).2
  | 0, _, _ => by
    refine ⟨rfl, fun q _ => ?_, rfl, fun p _ _ => ⟨rfl, rfl, rfl, fun i i1 i2 => absurd i2 (by omega), fun h => absurd h (by show ¬ (0 : Int) < 0; omega)⟩⟩
    show (0 : Nat).testBit q = decide ((0 : Int) < 0)
    rw [Nat.zero_testBit]; rfl
  | j + 1, hj, h => by
    obtain ⟨s1, s2, s3⟩ := zSeq_s h
    have ih := kInv_all hok hP j (by omega) s1
    have hw := zW_all hok j (by omega) s1
    have hb := zSeq_b hok j (by omega)
    obtain ⟨k1, k2, k3⟩ := hok.2.2 j (by omega) (by omega)
    have eP := hP j (by omega)
    rw [zPos_yes s1 s2] at eP
    rw [s3]
    generalize (zSeq sg K W T j).2 = L at *
    obtain ⟨pg, rw, un, e, c, b, f, s, us, be, fi⟩ := L
    obtain ⟨i1, i2, i3, i4⟩ := ih
    obtain ⟨hv, -, hus, -⟩ := hw
    obtain ⟨l1, l2, l3, l4, -⟩ := hb
    dsimp only at i1 i2 i3 i4 hus l1 l2 l3 l4
    unfold zPlL at s2 eP
    dsimp only at s2 eP
    by_cases hk2 : K j < 2
    · obtain ⟨e1, b1, b2, b3⟩ := zPlc_r hk2 k2 l1 l2 l3 s2
      have xm := (zXr_m (sg := sg) (k := K j) (t := T j) (c := c) (b := b) k2 l1 l2 l3).2
      rw [e1] at eP b1
      dsimp only at eP b1
      unfold zNext zPlL
      rw [if_pos hk2]
      dsimp only
      rw [e1]
      dsimp only
      generalize (zXr sg (K j) (W j) (T j) pg rw un c b).1 = Q at *
      have eL : kLa K P j = Q := by unfold kLa; rw [if_neg (by omega), eP]
      have p0 : 0 ≤ P j := by omega
      refine ⟨?_, fun q hq => ?_, ?_, fun p p1 p2 => ?_⟩
      · show kUs K P (j + 1) = Q + 1
        rw [kUs, i1, eL]
        by_cases hlt : us < Q + 1
        · rw [if_pos ⟨p0, hlt⟩]
        · rw [if_neg (fun z => hlt z.2)]; omega
      · show (kBt K P (j + 1)).testBit q = decide (0 < zU c Q (c Q + 1) q)
        rw [kBt, if_pos p0, kBit, i2 q hq, eL, eP]
        have cq := (l4 Q).1
        by_cases eq : (q : Int) = Q
        · rw [eq, zU_eq, decide_eq_true (show Q.toNat = q by omega), decide_eq_true (show 0 < c Q + 1 by omega), Bool.or_true]
        · rw [zU_ne _ _ eq, decide_eq_false (show ¬ Q.toNat = q by omega), Bool.or_false, Bool.or_false]
      · show kTk K W P (j + 1) = fi + W j
        rw [kTk, if_pos p0, i3, if_neg (by omega), if_neg (by omega)]
      · have hon : kOn K P p j ↔ p = Q := by unfold kOn; omega
        refine kPg (t := T j) (u := W j) hon ?_ ?_ (l4 p).1 (i4 p p1 p2)
        · by_cases ep : p = Q
          · rw [if_pos (by omega), if_pos ep]
          · rw [if_neg (by omega), if_neg ep]
        · by_cases ep : p = Q
          · rw [if_pos (hon.mpr ep), if_pos ep, if_neg (by omega)]
          · rw [if_neg (fun z => ep (hon.mp z)), if_neg ep]
    · obtain ⟨e1, b1, b2⟩ := zPlc_w hk2 l1 s2
      have fm := (zFst_m (c := c) (pg := pg) (tk := K j - 1)).1
      rw [e1] at eP
      dsimp only at eP
      unfold zNext zPlL
      rw [if_neg hk2]
      dsimp only
      rw [e1]
      dsimp only
      generalize zFst c pg (K j - 1) = Q at *
      have p0 : 0 ≤ P j := by omega
      unfold zWhole
      by_cases h3 : K j - 1 = 2
      · rw [if_pos h3]
        have eL : kLa K P j = Q + 1 := by unfold kLa; rw [if_pos (by omega), eP]
        refine ⟨?_, fun q hq => ?_, ?_, fun p p1 p2 => ?_⟩
        · show kUs K P (j + 1) = Q + 1 + 1
          rw [kUs, i1, eL]
          by_cases hlt : us < Q + 1 + 1
          · rw [if_pos ⟨p0, hlt⟩]
          · rw [if_neg (fun z => hlt z.2)]; omega
        · show (kBt K P (j + 1)).testBit q = decide (0 < zU (zU c Q (c Q + 1)) (Q + 1) (zU c Q (c Q + 1) (Q + 1) + 1) q)
          rw [kBt, if_pos p0, kBit, i2 q hq, eL, eP]
          have cq := (l4 Q).1
          have cq1 := (l4 (Q + 1)).1
          by_cases eq1 : (q : Int) = Q + 1
          · rw [eq1, zU_eq, zU_ne _ _ (by omega), decide_eq_true (show (Q + 1).toNat = q by omega), decide_eq_true (show 0 < c (Q + 1) + 1 by omega), Bool.or_true]
          · rw [zU_ne _ _ eq1, decide_eq_false (show ¬ (Q + 1).toNat = q by omega), Bool.or_false]
            by_cases eq : (q : Int) = Q
            · rw [eq, zU_eq, decide_eq_true (show Q.toNat = q by omega), decide_eq_true (show 0 < c Q + 1 by omega), Bool.or_true]
            · rw [zU_ne _ _ eq, decide_eq_false (show ¬ Q.toNat = q by omega), Bool.or_false]
        · show kTk K W P (j + 1) = fi + 24 + 24
          rw [kTk, if_pos p0, i3, if_neg (by omega), if_pos (by omega)]; omega
        · have hon : kOn K P p j ↔ (p = Q ∨ p = Q + 1) := by unfold kOn; omega
          obtain ⟨g1, g2, g3, g4, g5⟩ := i4 p p1 p2
          show kMn K P p (j + 1) = zU (zU c Q (c Q + 1)) (Q + 1) (zU c Q (c Q + 1) (Q + 1) + 1) p ∧ kBs T P p (j + 1) = zU (zU b Q (b Q + T j)) (Q + 1) (zU b Q (b Q + T j) (Q + 1) + 0) p ∧ kTn K W P p (j + 1) = zU (zU f Q (f Q + 24)) (Q + 1) (zU f Q (f Q + 24) (Q + 1) + 24) p ∧ (∀ i : Int, 0 ≤ i → i < ((j + 1 : Nat) : Int) → kOn K P p i → 0 < zU (zU c Q (c Q + 1)) (Q + 1) (zU c Q (c Q + 1) (Q + 1) + 1) p) ∧ (0 < zU (zU c Q (c Q + 1)) (Q + 1) (zU c Q (c Q + 1) (Q + 1) + 1) p → 0 ≤ zFs (zU c Q (c Q + 1)) (zFs c s Q j) (Q + 1) j p ∧ zFs (zU c Q (c Q + 1)) (zFs c s Q j) (Q + 1) j p < ((j + 1 : Nat) : Int) ∧ kOn K P p (zFs (zU c Q (c Q + 1)) (zFs c s Q j) (Q + 1) j p) ∧ ∀ x : Int, 0 ≤ x → x < zFs (zU c Q (c Q + 1)) (zFs c s Q j) (Q + 1) j p → ¬ kOn K P p x)
          rw [kMn, kBs, kTn, g1, g2, g3]
          have cp := (l4 p).1
          by_cases ep1 : p = Q + 1
          · subst ep1
            have ne : ¬ Q + 1 = Q := by omega
            rw [if_pos (hon.mpr (Or.inr rfl)), if_neg (by omega), if_pos (hon.mpr (Or.inr rfl)), if_pos (by omega), zU_eq, zU_eq, zU_eq, zU_ne _ _ ne, zU_ne _ _ ne, zU_ne _ _ ne, zFs_p, zU_ne _ _ ne, zFs_ne ne]
            refine ⟨rfl, rfl, rfl, fun i _ _ _ => by omega, fun _ => ?_⟩
            by_cases e0 : c (Q + 1) = 0
            · rw [if_pos e0]
              exact ⟨by omega, by omega, hon.mpr (Or.inr rfl), fun x x1 x2 hx => by have := g4 x x1 x2 hx; omega⟩
            · rw [if_neg e0]
              obtain ⟨a1, a2, a3, a4⟩ := g5 (by omega)
              exact ⟨a1, by omega, a3, a4⟩
          · rw [zU_ne _ _ ep1, zU_ne _ _ ep1, zU_ne _ _ ep1, zFs_ne ep1, ← g1, ← g2, ← g3, ← kMn, ← kBs, ← kTn]
            refine kPg (W := W) (t := T j) (u := 24) (by rw [hon]; omega) ?_ ?_ cp ⟨g1, g2, g3, g4, g5⟩
            · by_cases ep : p = Q
              · rw [if_pos (by omega), if_pos ep]
              · rw [if_neg (by omega), if_neg ep]
            · by_cases ep : p = Q
              · rw [if_pos (hon.mpr (Or.inl ep)), if_pos ep, if_pos (by omega)]
              · rw [if_neg (fun z => by rcases hon.mp z with a | a <;> omega), if_neg ep]
      · rw [if_neg h3]
        have eL : kLa K P j = Q := by unfold kLa; rw [if_neg (by omega), eP]
        refine ⟨?_, fun q hq => ?_, ?_, fun p p1 p2 => ?_⟩
        · show kUs K P (j + 1) = Q + 1
          rw [kUs, i1, eL]
          by_cases hlt : us < Q + 1
          · rw [if_pos ⟨p0, hlt⟩]
          · rw [if_neg (fun z => hlt z.2)]; omega
        · show (kBt K P (j + 1)).testBit q = decide (0 < zU c Q (c Q + 1) q)
          rw [kBt, if_pos p0, kBit, i2 q hq, eL, eP]
          have cq := (l4 Q).1
          by_cases eq : (q : Int) = Q
          · rw [eq, zU_eq, decide_eq_true (show Q.toNat = q by omega), decide_eq_true (show 0 < c Q + 1 by omega), Bool.or_true]
          · rw [zU_ne _ _ eq, decide_eq_false (show ¬ Q.toNat = q by omega), Bool.or_false, Bool.or_false]
        · show kTk K W P (j + 1) = fi + 24
          rw [kTk, if_pos p0, i3, if_pos (by omega)]
        · have hon : kOn K P p j ↔ p = Q := by unfold kOn; omega
          refine kPg (t := T j) (u := 24) hon ?_ ?_ (l4 p).1 (i4 p p1 p2)
          · by_cases ep : p = Q
            · rw [if_pos (by omega), if_pos ep]
            · rw [if_neg (by omega), if_neg ep]
          · by_cases ep : p = Q
            · rw [if_pos (hon.mpr ep), if_pos ep, if_pos (by omega)]
            · rw [if_neg (fun z => ep (hon.mp z)), if_neg ep]
/-- panels that are left out change no sum -/
theorem kTail {K W T P : Int → Int} {m : Nat} : ∀ k : Nat, (∀ i : Nat, m ≤ i → i < m + k → P i = -1) → kUs K P (m + k) = kUs K P m ∧ kBt K P (m + k) = kBt K P m ∧ kTk K W P (m + k) = kTk K W P m ∧ ∀ p : Int, 0 ≤ p → kMn K P p (m + k) = kMn K P p m ∧ kBs T P p (m + k) = kBs T P p m ∧ kTn K W P p (m + k) = kTn K W P p m
  | 0, _ => ⟨rfl, rfl, rfl, fun _ _ => ⟨rfl, rfl, rfl⟩⟩
  | k + 1, h => by
    obtain ⟨h1, h2, h3, h4⟩ := kTail (K := K) (W := W) (T := T) k (fun i a b => h i a (by omega))
    have e := h (m + k) (by omega) (by omega)
    have np : ¬ (0 ≤ P ((m + k : Nat) : Int)) := by omega
    rw [← Nat.add_assoc]
    refine ⟨?_, ?_, ?_, fun p p1 => ?_⟩
    · rw [kUs, if_neg (fun z => np z.1)]; exact h1
    · rw [kBt, if_neg np]; exact h2
    · rw [kTk, if_neg np]; exact h3
    · obtain ⟨g1, g2, g3⟩ := h4 p p1
      have hon : ¬ kOn K P p ((m + k : Nat) : Int) := by unfold kOn; omega
      rw [kMn, kBs, kTn, if_neg hon, if_neg (by omega), if_neg hon, g1, g2, g3]
      exact ⟨Int.add_zero _, Int.add_zero _, Int.add_zero _⟩
theorem kFin {n sg : Int} {K W T P : Int → Int} (hok : zOk n sg K W T) (hP : ∀ i : Nat, (i : Int) < n → P i = (zPos sg K W T i).1) :
    kUs K P n.toNat = zUsed (zFin sg K W T n) ∧ kPc (kBt K P n.toNat) 16 = (zFin sg K W T n).2.2.2.2.2.2.2.2.2.1 ∧ kTk K W P n.toNat = (zFin sg K W T n).2.2.2.2.2.2.2.2.2.2 ∧
    ∀ p : Int, 0 ≤ p → p < 16 → kMn K P p n.toNat = (zFin sg K W T n).2.2.2.2.1 p ∧ kBs T P p n.toNat = (zFin sg K W T n).2.2.2.2.2.1 p ∧ kTn K W P p n.toNat = (zFin sg K W T n).2.2.2.2.2.2.1 p ∧ (∀ i : Int, 0 ≤ i → i < n → kOn K P p i → 0 < (zFin sg K W T n).2.2.2.2.1 p) ∧ (0 < (zFin sg K W T n).2.2.2.2.1 p → 0 ≤ (zFin sg K W T n).2.2.2.2.2.2.2.1 p ∧ (zFin sg K W T n).2.2.2.2.2.2.2.1 p < n ∧ kOn K P p ((zFin sg K W T n).2.2.2.2.2.2.2.1 p) ∧ ∀ x : Int, 0 ≤ x → x < (zFin sg K W T n).2.2.2.2.2.2.2.1 p → ¬ kOn K P p x) := by
  have hn := hok.1
  obtain ⟨m, h1, h2, h3, h4, h5, h6⟩ := zLast (sg := sg) (K := K) (W := W) (T := T) n.toNat
  have hi := kInv_all hok hP m (by omega) h2
  have hout : ∀ i : Nat, m ≤ i → i < m + (n.toNat - m) → P i = -1 := fun i a b => by
    rw [hP i (by omega)]
    rcases h6 with ⟨g1, -⟩ | ⟨g1, g2, -⟩
    · omega
    · rw [zPos_no h2 g2 i a]
  have ht := kTail (K := K) (W := W) (T := T) (n.toNat - m) hout
  rw [show m + (n.toNat - m) = n.toNat by omega] at ht
  obtain ⟨t1, t2, t3, t4⟩ := ht
  have ef : zFin sg K W T n = (zSeq sg K W T m).2 := h3
  obtain ⟨i1, i2, i3, i4⟩ := hi
  rw [t1, t2, t3, ← zq_ps hok, ef]
  refine ⟨i1, kPc_s 16 i2, i3, fun p p1 p2 => ?_⟩
  obtain ⟨a1, a2, a3⟩ := t4 p p1
  obtain ⟨g1, g2, g3, g4, g5⟩ := i4 p p1 p2
  rw [a1, a2, a3]
  refine ⟨g1, g2, g3, fun i x1 x2 hx => ?_, fun hc => ?_⟩
  · by_cases him : i < m
    · exact g4 i x1 him hx
    · obtain ⟨i', rfl⟩ := Int.eq_ofNat_of_zero_le x1
      have := hout i' (by omega) (by omega)
      unfold kOn at hx
      omega
  · obtain ⟨b1, b2, b3, b4⟩ := g5 hc
    exact ⟨b1, by omega, b3, b4⟩
/-- blank pages -/
theorem kBlk {c : Int → Int} {us : Int} (h : ∀ p : Int, us ≤ p → 0 ≤ p → p < 16 → ¬ 0 < c p) (f : Nat → Int) (hf0 : f 0 = 0) (hf : ∀ k : Nat, k < 16 → f (k + 1) = f k + if ¬ 0 < c k ∧ (k : Int) < us then 1 else 0) (hu : 0 ≤ us) : ∀ k : Nat, k ≤ 16 → f k = (if us < k then us else (k : Int)) - zPs c k
  | 0, _ => by rw [hf0, zPs, if_neg (by omega)]; rfl
  | k + 1, hk => by
    rw [hf k (by omega), kBlk h f hf0 hf hu k (by omega), zPs]
    have hh := h k
    by_cases h1 : 0 < c k
    · have h2 : (k : Int) < us := by
        by_cases q : us ≤ (k : Int)
        · exact absurd h1 (hh q (by omega) (by omega))
        · omega
      rw [if_neg (show ¬ (¬ 0 < c k ∧ (k : Int) < us) from fun q => q.1 h1), if_pos h1]
      split <;> split <;> omega
    · rw [if_neg h1]
      by_cases h2 : (k : Int) < us
      · rw [if_pos (show ¬ 0 < c k ∧ (k : Int) < us from ⟨h1, h2⟩)]
        split <;> split <;> omega
      · rw [if_neg (show ¬ (¬ 0 < c k ∧ (k : Int) < us) from fun q => h2 q.2)]
        split <;> split <;> omega
/-- what a unit shows -/
abbrev kTs (K W P R U : Int → Int) (i p x : Int) : Prop := 0 ≤ P i ∧ ((1 < K i ∧ (p = P i ∨ (K i = 3 ∧ p = P i + 1))) ∨ (¬ 1 < K i ∧ p = P i ∧ x / 6 = R i ∧ U i ≤ x % 6 ∧ x % 6 < U i + W i))
theorem kTs_g {n sg p x : Int} {K W T P R U : Int → Int} {j : Nat} (hok : zOk n sg K W T) (hP : ∀ i : Nat, (i : Int) < n → P i = (zPos sg K W T i).1 ∧ R i = (zPos sg K W T i).2.1 ∧ U i = (zPos sg K W T i).2.2) (hj : (j : Int) < n) (hp : 0 ≤ p ∧ p < 16) (hx : 0 ≤ x ∧ x < 24) :
    zGrid sg K W T (j + 1) (24 * p + x) = if kTs K W P R U j p x then (j : Int) else zGrid sg K W T j (24 * p + x) := by
  obtain ⟨e1, e2, e3⟩ := hP j hj
  obtain ⟨k1, k2, k3⟩ := hok.2.2 j (by omega) hj
  rw [zGrid]
  by_cases h : (zSeq sg K W T (j + 1)).1 = true
  · rw [if_pos h]
    obtain ⟨s1, s2, s3⟩ := zSeq_s h
    have hb := zSeq_b hok j (by omega)
    rw [zPos_yes s1 s2] at e1 e2 e3 ⊢
    generalize (zSeq sg K W T j).2 = L at *
    unfold zPlL at s2 e1 e2 e3 ⊢
    unfold zGr
    by_cases hk2 : K j < 2
    · obtain ⟨q1, b1, b2, b3⟩ := zPlc_r hk2 k2 hb.1 hb.2.1 hb.2.2.1 s2
      rw [if_pos hk2]
      generalize zPlc sg (K j) (W j) (T j) L.1 L.2.1 L.2.2.1 L.2.2.2.2.1 L.2.2.2.2.2.1 = Z at *
      unfold zMk
      have hh : (24 * Z.1 + (6 * Z.2.1 + Z.2.2) ≤ 24 * p + x ∧ 24 * p + x < 24 * Z.1 + (6 * Z.2.1 + Z.2.2) + W j) ↔ kTs K W P R U j p x := by
        unfold kTs
        rw [e1, e2, e3]
        omega
      by_cases q : kTs K W P R U j p x
      · rw [if_pos q, if_pos (hh.mpr q)]
      · rw [if_neg q, if_neg (fun z => q (hh.mp z))]
    · obtain ⟨q1, b1, b2⟩ := zPlc_w hk2 hb.1 s2
      rw [if_neg hk2]
      rw [q1] at e1 e2 e3 ⊢
      dsimp only at e1 e2 e3 ⊢
      generalize zFst L.2.2.2.2.1 L.1 (K j - 1) = Z at *
      by_cases h2 : K j = 2
      · rw [if_pos h2]
        unfold zMk
        have hh : (24 * Z ≤ 24 * p + x ∧ 24 * p + x < 24 * Z + 24) ↔ kTs K W P R U j p x := by
          unfold kTs
          rw [e1]
          omega
        by_cases q : kTs K W P R U j p x
        · rw [if_pos q, if_pos (hh.mpr q)]
        · rw [if_neg q, if_neg (fun z => q (hh.mp z))]
      · rw [if_neg h2]
        unfold zMk
        have hh : ((24 * (Z + 1) ≤ 24 * p + x ∧ 24 * p + x < 24 * (Z + 1) + 24) ∨ (24 * Z ≤ 24 * p + x ∧ 24 * p + x < 24 * Z + 24)) ↔ kTs K W P R U j p x := by
          unfold kTs
          rw [e1]
          omega
        by_cases g1 : 24 * (Z + 1) ≤ 24 * p + x ∧ 24 * p + x < 24 * (Z + 1) + 24
        · rw [if_pos g1, if_pos (hh.mp (Or.inl g1))]
        · rw [if_neg g1]
          by_cases g2 : 24 * Z ≤ 24 * p + x ∧ 24 * p + x < 24 * Z + 24
          · rw [if_pos g2, if_pos (hh.mp (Or.inr g2))]
          · rw [if_neg g2, if_neg (fun z => by rcases hh.mpr z with a | a; exact g1 a; exact g2 a)]
  · rw [if_neg h, if_neg]
    intro q
    unfold kTs at q
    rw [e1] at q
    unfold zPos at q
    rw [if_neg h] at q
    omega
