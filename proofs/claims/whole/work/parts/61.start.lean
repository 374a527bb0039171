theorem wz_0 : Cond.instantiable RX0 2 ∈ wsL_law := List.mem_of_getElem? (i := 24) (by decide +kernel)
theorem wz_1 : Cond.instantiable RX1 15 ∈ wsL_law := List.mem_of_getElem? (i := 18) (by decide +kernel)
theorem wz_2 : Cond.instantiable RX2 5 ∈ wsL_law := List.mem_of_getElem? (i := 14) (by decide +kernel)
theorem wz_3 : Cond.instantiable RX3 2 ∈ wsL_law := List.mem_of_getElem? (i := 28) (by decide +kernel)
theorem zStr_r : ∀ q ∈ zStr, Cond.stringRef RX4 q.1 q.2 ∈ tables_1 := by decide +kernel
theorem zStr_x : ∀ q ∈ zStr, Cond.exactly (.string RX4 q.1) "java/lang/String" ∈ flatC (Jvm.Cond.and given_1 narrow_1) := by decide +kernel
theorem zNo_x : ∀ q ∈ zNo, Cond.not (.castable q.1 q.2) ∈ flatC (Jvm.Cond.and given_1 narrow_1) := by decide +kernel
theorem zIni_T : Cond.initialized "java/lang/Throwable" ∈ tables_1 := by decide +kernel
theorem zLay_1 : Cond.laysStatic "java/lang/Throwable" "UNASSIGNED_STACK" "[Ljava/lang/StackTraceElement;" ∈ tables_1 := by decide +kernel
theorem zLay_2 : Cond.laysStatic "java/lang/Throwable" "SUPPRESSED_SENTINEL" "Ljava/util/List;" ∈ tables_1 := by decide +kernel
theorem zIs_1 : Cond.isRef (.static "java/lang/Throwable" "UNASSIGNED_STACK" "[Ljava/lang/StackTraceElement;") ∈ flatC (Jvm.Cond.and given_1 narrow_1) := by decide +kernel
theorem zIs_2 : Cond.isRef (.static "java/lang/Throwable" "SUPPRESSED_SENTINEL" "Ljava/util/List;") ∈ flatC (Jvm.Cond.and given_1 narrow_1) := by decide +kernel
theorem zAO_t : Cond.arrayOver (.object RX2) ∈ tables_1 := by decide +kernel
theorem zArr_i : Cond.arrayClass .int ∈ tables_1 := by decide +kernel
theorem zArr_j : Cond.arrayClass .long ∈ tables_1 := by decide +kernel
theorem zF_start {args : Array Value} {s : State} (hts : ∀ w ∈ lw_tbl, w.before args s = true) (hg : ∀ w ∈ flatC (Jvm.Cond.and given_1 narrow_1), w.before args s = true) : zF s := by
  have ht : ∀ w ∈ tables_1, w.before args s = true := fun w hw => hts w (List.mem_append_right _ hw)
  refine ⟨fun w hw => va_Nw.of (zNest_tab (List.mem_filter.mp hw).2) (hts w (List.mem_filter.mp hw).1), fun q hq => ?_, va_AO.of (A := args) (ht _ zAO_t), fun q hq => va_Nc.of (hg _ (zNo_x q hq))⟩
  obtain ⟨a, c, cA, kA, q1, -⟩ := Cond.exactly_spec (args := args) (first := s) (o := none) (s := s) (idx := []) (t := .string RX4 q.1) (cls := "java/lang/String") (hg _ (zStr_x q hq))
  exact ⟨a, vk_R.of (A := args) (ht _ (zStr_r q hq)) q1⟩
theorem zT_start {args : Array Value} {s : State} {A : Nat → Prop} (hts : ∀ w ∈ lw_tbl, w.before args s = true) (hg : ∀ w ∈ flatC (Jvm.Cond.and given_1 narrow_1), w.before args s = true) (hA : ∀ a : Nat, a < s.heap.size → ¬ A a) : zT A s s.heap := by
  have ht : ∀ w ∈ tables_1, w.before args s = true := fun w hw => hts w (List.mem_append_right _ hw)
  exact ⟨vx_Zqof (ht _ zLay_1) (ht _ zIni_T) (hg _ zIs_1) hA, vx_Zqof (ht _ zLay_2) (ht _ zIni_T) (hg _ zIs_2) hA⟩
theorem zArr_of {args : Array Value} {s : State} {ty : FieldType} (h : (Cond.arrayClass ty).before args s = true) : ∃ cA : ClassId, ArrOfT s cA ty ∧ s.vm.findClass ("[" ++ ty.toString) = some cA := by
  obtain ⟨cA, kA, comp, h1, h2, h3⟩ := Cond.arrayClass_spec h
  exact ⟨cA, fun n z => ⟨fun k h => (by cases h), kA, h2, comp, h3⟩, h1⟩
theorem zArr_ofO {args : Array Value} {s : State} {C : String} (h : (Cond.arrayOver (.object C)).before args s = true) : ∃ cA : ClassId, ArrOfT s cA (.object C) ∧ va_RA s cA (.object C) := by
  obtain ⟨comp, cA, kA, h1, -, h3, h4, h5⟩ := Cond.arrayOver_spec h
  exact ⟨cA, fun n z => ⟨fun k h => (by cases h), kA, h3, comp, h4⟩, kA, comp, h3, h4, h1, h5⟩
theorem zK_start {args : Array Value} {s : State} (hts : ∀ w ∈ lw_tbl, w.before args s = true) : ∃ (D : va_G) (cI cS cJ : ClassId), va_K D vwCl (zTy cI cS cJ) s := by
  have ht : ∀ w ∈ tables_1, w.before args s = true := fun w hw => hts w (List.mem_append_right _ hw)
  have hin : ∀ w ∈ wsL_law, w.before args s = true := fun w hw => hts w (wsL_law_in w hw)
  obtain ⟨c0, i0, k0⟩ := u_known (C := RX0) (T := TX0) (N := 2) (n := 2) hin inlX0 (hin _ wz_0)
  obtain ⟨c1, i1, k1⟩ := u_known (C := RX1) (T := TX1) (N := 15) (n := 15) hin inlX1 (hin _ wz_1)
  obtain ⟨c2, i2, k2⟩ := u_known (C := RX2) (T := TX2) (N := 5) (n := 5) hin inlX2 (hin _ wz_2)
  obtain ⟨c3, i3, k3⟩ := u_known (C := RX3) (T := TX3) (N := 2) (n := 2) hin inlX3 (hin _ wz_3)
  obtain ⟨c4, i4, k4⟩ := u_known (C := RX4) (T := TX4) (N := 6) (n := 6) hin inlX4 (hin _ wq_L_law_4)
  obtain ⟨c5, i5, k5⟩ := u_known (C := RX5) (T := TX5) (N := 20) (n := 20) hin inlX5 (hin _ wq_L_law_5)
  obtain ⟨cI, hI, hI2⟩ := zArr_of (ht _ zArr_i)
  obtain ⟨cJ, hJ, hJ2⟩ := zArr_of (ht _ zArr_j)
  obtain ⟨cS, hS, hS2⟩ := zArr_ofO (ht _ zAO_t)
  refine ⟨(fun k => if k = 0 then c0 else if k = 1 then c1 else if k = 2 then c2 else if k = 3 then c3 else if k = 4 then c4 else c5, fun k => if k = 0 then i0 else if k = 1 then i1 else if k = 2 then i2 else if k = 3 then i3 else if k = 4 then i4 else i5), cI, cS, cJ, fun k q hq => ?_, fun k q hq => ?_⟩
  · match k, hq with
    | 0, hq => cases hq; exact k0
    | 1, hq => cases hq; exact k1
    | 2, hq => cases hq; exact k2
    | 3, hq => cases hq; exact k3
    | 4, hq => cases hq; exact k4
    | 5, hq => cases hq; exact k5
    | k + 6, hq => simp [vwCl] at hq
  · match k, hq with
    | 0, hq => cases hq; exact ⟨hI, hI2⟩
    | 1, hq => cases hq; exact ⟨hS, hS2⟩
    | 2, hq => cases hq; exact ⟨hJ, hJ2⟩
    | k + 3, hq => simp [zTy] at hq
