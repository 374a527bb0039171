section
-- ===== PART A: goes FIRST, ahead of the names: the tables' words, and 'selects' of the private methods out of them =====
/-- a private method of a class that the tables say can be made, by its rows of tables_1 -/
def lw_okq (q : MethodName × Nat) : Prop := (q.1.cls ≠ "java/lang/invoke/MethodHandle" ∧ q.1.cls ≠ "java/lang/invoke/VarHandle") ∧ Cond.instantiable q.1.cls q.2 ∈ tables_1 ∧ Cond.privateMethod q.1 ∈ tables_1 ∧ Cond.instanceMethod q.1 ∈ tables_1
theorem lw_p0 : lw_okq (⟨"java/lang/Throwable", "fillInStackTrace", "(I)Ljava/lang/Throwable;"⟩, 6) := ⟨⟨by decide +kernel, by decide +kernel⟩, List.mem_of_getElem? (i := 211) (by decide +kernel), List.mem_of_getElem? (i := 209) (by decide +kernel), List.mem_of_getElem? (i := 210) (by decide +kernel)⟩
theorem lw_p1 : lw_okq (⟨"SplashPages$History", "save", "(LSplashPages$Story;)V"⟩, 2) := ⟨⟨by decide +kernel, by decide +kernel⟩, List.mem_of_getElem? (i := 117) (by decide +kernel), List.mem_of_getElem? (i := 276) (by decide +kernel), List.mem_of_getElem? (i := 277) (by decide +kernel)⟩
theorem lw_p2 : lw_okq (⟨"SplashPages$History", "dropOldest", "()V"⟩, 2) := ⟨⟨by decide +kernel, by decide +kernel⟩, List.mem_of_getElem? (i := 117) (by decide +kernel), List.mem_of_getElem? (i := 280) (by decide +kernel), List.mem_of_getElem? (i := 281) (by decide +kernel)⟩
theorem lw_p3 : lw_okq (⟨"SplashPages$History", "storyAt", "(I)LSplashPages$Story;"⟩, 2) := ⟨⟨by decide +kernel, by decide +kernel⟩, List.mem_of_getElem? (i := 117) (by decide +kernel), List.mem_of_getElem? (i := 284) (by decide +kernel), List.mem_of_getElem? (i := 285) (by decide +kernel)⟩
theorem lw_p4 : lw_okq (⟨"SplashPages$Story", "copyFrom", "(LSplashPages$Story;)V"⟩, 5) := ⟨⟨by decide +kernel, by decide +kernel⟩, List.mem_of_getElem? (i := 23) (by decide +kernel), List.mem_of_getElem? (i := 288) (by decide +kernel), List.mem_of_getElem? (i := 289) (by decide +kernel)⟩
theorem lw_p5 : lw_okq (⟨"SplashPages$Story", "insert", "(IIII)V"⟩, 5) := ⟨⟨by decide +kernel, by decide +kernel⟩, List.mem_of_getElem? (i := 23) (by decide +kernel), List.mem_of_getElem? (i := 295) (by decide +kernel), List.mem_of_getElem? (i := 296) (by decide +kernel)⟩
theorem lw_p6 : lw_okq (⟨"SplashPages$Layout", "pour", "(LSplashPages$Story;)V"⟩, 15) := ⟨⟨by decide +kernel, by decide +kernel⟩, List.mem_of_getElem? (i := 56) (by decide +kernel), List.mem_of_getElem? (i := 305) (by decide +kernel), List.mem_of_getElem? (i := 306) (by decide +kernel)⟩
theorem lw_p7 : lw_okq (⟨"SplashPages$Layout", "clear", "()V"⟩, 15) := ⟨⟨by decide +kernel, by decide +kernel⟩, List.mem_of_getElem? (i := 56) (by decide +kernel), List.mem_of_getElem? (i := 309) (by decide +kernel), List.mem_of_getElem? (i := 310) (by decide +kernel)⟩
theorem lw_p8 : lw_okq (⟨"SplashPages$Layout", "beginPage", "(I)V"⟩, 15) := ⟨⟨by decide +kernel, by decide +kernel⟩, List.mem_of_getElem? (i := 56) (by decide +kernel), List.mem_of_getElem? (i := 313) (by decide +kernel), List.mem_of_getElem? (i := 314) (by decide +kernel)⟩
theorem lw_p9 : lw_okq (⟨"SplashPages$Layout", "place", "(LSplashPages$Story;I)Z"⟩, 15) := ⟨⟨by decide +kernel, by decide +kernel⟩, List.mem_of_getElem? (i := 56) (by decide +kernel), List.mem_of_getElem? (i := 317) (by decide +kernel), List.mem_of_getElem? (i := 318) (by decide +kernel)⟩
theorem lw_p10 : lw_okq (⟨"SplashPages$Layout", "placeOnWholePages", "(III)Z"⟩, 15) := ⟨⟨by decide +kernel, by decide +kernel⟩, List.mem_of_getElem? (i := 56) (by decide +kernel), List.mem_of_getElem? (i := 324) (by decide +kernel), List.mem_of_getElem? (i := 325) (by decide +kernel)⟩
theorem lw_p11 : lw_okq (⟨"SplashPages$Layout", "isBearing", "(I)Z"⟩, 15) := ⟨⟨by decide +kernel, by decide +kernel⟩, List.mem_of_getElem? (i := 56) (by decide +kernel), List.mem_of_getElem? (i := 328) (by decide +kernel), List.mem_of_getElem? (i := 329) (by decide +kernel)⟩
theorem lw_p12 : lw_okq (⟨"SplashPages$Layout", "note", "(IIII)V"⟩, 15) := ⟨⟨by decide +kernel, by decide +kernel⟩, List.mem_of_getElem? (i := 56) (by decide +kernel), List.mem_of_getElem? (i := 335) (by decide +kernel), List.mem_of_getElem? (i := 336) (by decide +kernel)⟩
theorem lw_p13 : lw_okq (⟨"SplashPages$Layout", "bear", "(IIII)V"⟩, 15) := ⟨⟨by decide +kernel, by decide +kernel⟩, List.mem_of_getElem? (i := 56) (by decide +kernel), List.mem_of_getElem? (i := 339) (by decide +kernel), List.mem_of_getElem? (i := 340) (by decide +kernel)⟩
theorem lw_p14 : lw_okq (⟨"SplashPages$Layout", "goOnIfTooManyBeats", "(II)V"⟩, 15) := ⟨⟨by decide +kernel, by decide +kernel⟩, List.mem_of_getElem? (i := 56) (by decide +kernel), List.mem_of_getElem? (i := 343) (by decide +kernel), List.mem_of_getElem? (i := 344) (by decide +kernel)⟩
theorem lw_p15 : lw_okq (⟨"SplashPages$Layout", "placeInRow", "(IZII)Z"⟩, 15) := ⟨⟨by decide +kernel, by decide +kernel⟩, List.mem_of_getElem? (i := 56) (by decide +kernel), List.mem_of_getElem? (i := 347) (by decide +kernel), List.mem_of_getElem? (i := 348) (by decide +kernel)⟩
def lw_privs_1 : List (MethodName × Nat) := [(⟨"java/lang/Throwable", "fillInStackTrace", "(I)Ljava/lang/Throwable;"⟩, 6), (⟨"SplashPages$History", "save", "(LSplashPages$Story;)V"⟩, 2), (⟨"SplashPages$History", "dropOldest", "()V"⟩, 2), (⟨"SplashPages$History", "storyAt", "(I)LSplashPages$Story;"⟩, 2), (⟨"SplashPages$Story", "copyFrom", "(LSplashPages$Story;)V"⟩, 5), (⟨"SplashPages$Story", "insert", "(IIII)V"⟩, 5), (⟨"SplashPages$Layout", "pour", "(LSplashPages$Story;)V"⟩, 15), (⟨"SplashPages$Layout", "clear", "()V"⟩, 15), (⟨"SplashPages$Layout", "beginPage", "(I)V"⟩, 15), (⟨"SplashPages$Layout", "place", "(LSplashPages$Story;I)Z"⟩, 15), (⟨"SplashPages$Layout", "placeOnWholePages", "(III)Z"⟩, 15), (⟨"SplashPages$Layout", "isBearing", "(I)Z"⟩, 15), (⟨"SplashPages$Layout", "note", "(IIII)V"⟩, 15), (⟨"SplashPages$Layout", "bear", "(IIII)V"⟩, 15), (⟨"SplashPages$Layout", "goOnIfTooManyBeats", "(II)V"⟩, 15), (⟨"SplashPages$Layout", "placeInRow", "(IZII)Z"⟩, 15)]
theorem lw_r1 : ∀ q ∈ lw_privs_1, lw_okq q := List.forall_mem_cons.mpr ⟨lw_p0, List.forall_mem_cons.mpr ⟨lw_p1, List.forall_mem_cons.mpr ⟨lw_p2, List.forall_mem_cons.mpr ⟨lw_p3, List.forall_mem_cons.mpr ⟨lw_p4, List.forall_mem_cons.mpr ⟨lw_p5, List.forall_mem_cons.mpr ⟨lw_p6, List.forall_mem_cons.mpr ⟨lw_p7, List.forall_mem_cons.mpr ⟨lw_p8, List.forall_mem_cons.mpr ⟨lw_p9, List.forall_mem_cons.mpr ⟨lw_p10, List.forall_mem_cons.mpr ⟨lw_p11, List.forall_mem_cons.mpr ⟨lw_p12, List.forall_mem_cons.mpr ⟨lw_p13, List.forall_mem_cons.mpr ⟨lw_p14, List.forall_mem_cons.mpr ⟨lw_p15, fun _ h => absurd h List.not_mem_nil⟩⟩⟩⟩⟩⟩⟩⟩⟩⟩⟩⟩⟩⟩⟩⟩
theorem lw_p16 : lw_okq (⟨"SplashPages$Layout", "beginRow", "()V"⟩, 15) := ⟨⟨by decide +kernel, by decide +kernel⟩, List.mem_of_getElem? (i := 56) (by decide +kernel), List.mem_of_getElem? (i := 351) (by decide +kernel), List.mem_of_getElem? (i := 352) (by decide +kernel)⟩
theorem lw_p17 : lw_okq (⟨"SplashPages$Story", "has", "(I)Z"⟩, 5) := ⟨⟨by decide +kernel, by decide +kernel⟩, List.mem_of_getElem? (i := 23) (by decide +kernel), List.mem_of_getElem? (i := 360) (by decide +kernel), List.mem_of_getElem? (i := 361) (by decide +kernel)⟩
theorem lw_p18 : lw_okq (⟨"SplashPages$Story", "remove", "(I)V"⟩, 5) := ⟨⟨by decide +kernel, by decide +kernel⟩, List.mem_of_getElem? (i := 23) (by decide +kernel), List.mem_of_getElem? (i := 365) (by decide +kernel), List.mem_of_getElem? (i := 366) (by decide +kernel)⟩
theorem lw_p19 : lw_okq (⟨"SplashPages", "numberOfPanel", "(II)I"⟩, 6) := ⟨⟨by decide +kernel, by decide +kernel⟩, List.mem_of_getElem? (i := 15) (by decide +kernel), List.mem_of_getElem? (i := 389) (by decide +kernel), List.mem_of_getElem? (i := 390) (by decide +kernel)⟩
theorem lw_p20 : lw_okq (⟨"SplashPages$Layout", "numberOfPage", "(II)I"⟩, 15) := ⟨⟨by decide +kernel, by decide +kernel⟩, List.mem_of_getElem? (i := 56) (by decide +kernel), List.mem_of_getElem? (i := 418) (by decide +kernel), List.mem_of_getElem? (i := 419) (by decide +kernel)⟩
theorem lw_p21 : lw_okq (⟨"SplashPages", "numberInAll", "(I)I"⟩, 6) := ⟨⟨by decide +kernel, by decide +kernel⟩, List.mem_of_getElem? (i := 15) (by decide +kernel), List.mem_of_getElem? (i := 427) (by decide +kernel), List.mem_of_getElem? (i := 428) (by decide +kernel)⟩
theorem lw_p22 : lw_okq (⟨"SplashPages$Layout", "greatestBeats", "()I"⟩, 15) := ⟨⟨by decide +kernel, by decide +kernel⟩, List.mem_of_getElem? (i := 56) (by decide +kernel), List.mem_of_getElem? (i := 431) (by decide +kernel), List.mem_of_getElem? (i := 432) (by decide +kernel)⟩
theorem lw_p23 : lw_okq (⟨"SplashPages$Layout", "emptyUnits", "()I"⟩, 15) := ⟨⟨by decide +kernel, by decide +kernel⟩, List.mem_of_getElem? (i := 56) (by decide +kernel), List.mem_of_getElem? (i := 438) (by decide +kernel), List.mem_of_getElem? (i := 439) (by decide +kernel)⟩
theorem lw_p24 : lw_okq (⟨"SplashPages$Layout", "greatestDifference", "()I"⟩, 15) := ⟨⟨by decide +kernel, by decide +kernel⟩, List.mem_of_getElem? (i := 56) (by decide +kernel), List.mem_of_getElem? (i := 442) (by decide +kernel), List.mem_of_getElem? (i := 443) (by decide +kernel)⟩
theorem lw_p25 : lw_okq (⟨"SplashPages", "shareOfFilled", "()D"⟩, 6) := ⟨⟨by decide +kernel, by decide +kernel⟩, List.mem_of_getElem? (i := 15) (by decide +kernel), List.mem_of_getElem? (i := 453) (by decide +kernel), List.mem_of_getElem? (i := 454) (by decide +kernel)⟩
theorem lw_p26 : lw_okq (⟨"SplashPages", "panelAt", "(III)I"⟩, 6) := ⟨⟨by decide +kernel, by decide +kernel⟩, List.mem_of_getElem? (i := 15) (by decide +kernel), List.mem_of_getElem? (i := 468) (by decide +kernel), List.mem_of_getElem? (i := 469) (by decide +kernel)⟩
theorem lw_p27 : lw_okq (⟨"SplashPages", "widthOfLeastCost", "(I)I"⟩, 6) := ⟨⟨by decide +kernel, by decide +kernel⟩, List.mem_of_getElem? (i := 15) (by decide +kernel), List.mem_of_getElem? (i := 479) (by decide +kernel), List.mem_of_getElem? (i := 480) (by decide +kernel)⟩
theorem lw_p28 : lw_okq (⟨"SplashPages$Layout", "cost", "()I"⟩, 15) := ⟨⟨by decide +kernel, by decide +kernel⟩, List.mem_of_getElem? (i := 56) (by decide +kernel), List.mem_of_getElem? (i := 484) (by decide +kernel), List.mem_of_getElem? (i := 485) (by decide +kernel)⟩
theorem lw_p29 : lw_okq (⟨"SplashPages", "afterExchange", "(II)I"⟩, 6) := ⟨⟨by decide +kernel, by decide +kernel⟩, List.mem_of_getElem? (i := 15) (by decide +kernel), List.mem_of_getElem? (i := 498) (by decide +kernel), List.mem_of_getElem? (i := 499) (by decide +kernel)⟩
theorem lw_p30 : lw_okq (⟨"SplashPages$Story", "exchangeWithNext", "(I)V"⟩, 5) := ⟨⟨by decide +kernel, by decide +kernel⟩, List.mem_of_getElem? (i := 23) (by decide +kernel), List.mem_of_getElem? (i := 502) (by decide +kernel), List.mem_of_getElem? (i := 503) (by decide +kernel)⟩
theorem lw_p31 : lw_okq (⟨"SplashPages", "leastThatServes", "()I"⟩, 6) := ⟨⟨by decide +kernel, by decide +kernel⟩, List.mem_of_getElem? (i := 15) (by decide +kernel), List.mem_of_getElem? (i := 514) (by decide +kernel), List.mem_of_getElem? (i := 515) (by decide +kernel)⟩
def lw_privs_2 : List (MethodName × Nat) := [(⟨"SplashPages$Layout", "beginRow", "()V"⟩, 15), (⟨"SplashPages$Story", "has", "(I)Z"⟩, 5), (⟨"SplashPages$Story", "remove", "(I)V"⟩, 5), (⟨"SplashPages", "numberOfPanel", "(II)I"⟩, 6), (⟨"SplashPages$Layout", "numberOfPage", "(II)I"⟩, 15), (⟨"SplashPages", "numberInAll", "(I)I"⟩, 6), (⟨"SplashPages$Layout", "greatestBeats", "()I"⟩, 15), (⟨"SplashPages$Layout", "emptyUnits", "()I"⟩, 15), (⟨"SplashPages$Layout", "greatestDifference", "()I"⟩, 15), (⟨"SplashPages", "shareOfFilled", "()D"⟩, 6), (⟨"SplashPages", "panelAt", "(III)I"⟩, 6), (⟨"SplashPages", "widthOfLeastCost", "(I)I"⟩, 6), (⟨"SplashPages$Layout", "cost", "()I"⟩, 15), (⟨"SplashPages", "afterExchange", "(II)I"⟩, 6), (⟨"SplashPages$Story", "exchangeWithNext", "(I)V"⟩, 5), (⟨"SplashPages", "leastThatServes", "()I"⟩, 6)]
theorem lw_r2 : ∀ q ∈ lw_privs_2, lw_okq q := List.forall_mem_cons.mpr ⟨lw_p16, List.forall_mem_cons.mpr ⟨lw_p17, List.forall_mem_cons.mpr ⟨lw_p18, List.forall_mem_cons.mpr ⟨lw_p19, List.forall_mem_cons.mpr ⟨lw_p20, List.forall_mem_cons.mpr ⟨lw_p21, List.forall_mem_cons.mpr ⟨lw_p22, List.forall_mem_cons.mpr ⟨lw_p23, List.forall_mem_cons.mpr ⟨lw_p24, List.forall_mem_cons.mpr ⟨lw_p25, List.forall_mem_cons.mpr ⟨lw_p26, List.forall_mem_cons.mpr ⟨lw_p27, List.forall_mem_cons.mpr ⟨lw_p28, List.forall_mem_cons.mpr ⟨lw_p29, List.forall_mem_cons.mpr ⟨lw_p30, List.forall_mem_cons.mpr ⟨lw_p31, fun _ h => absurd h List.not_mem_nil⟩⟩⟩⟩⟩⟩⟩⟩⟩⟩⟩⟩⟩⟩⟩⟩
def lw_privs : List (MethodName × Nat) := lw_privs_1 ++ (lw_privs_2)
def lw_tbl : List Cond := k2_sels lw_privs ++ tables_1
theorem lw_privs_ok : ∀ q ∈ lw_privs, lw_okq q := by
  show ∀ q ∈ lw_privs_1 ++ (lw_privs_2), lw_okq q
  exact List.forall_mem_append.mpr ⟨lw_r1, lw_r2⟩
/-- the streams that the claim lets the run draw from -/
abbrev lw_cs : List Choice := [Jvm.Choice.named "NaN.bits"]
theorem lw_bits : nanBits ∈ lw_cs := by first | decide | exact List.mem_cons_self | simp [lw_cs, nanBits]
end
section
/-! ===== BEGIN words of one list among another's, by their places ===== -/
theorem goodIn_r {big : List Cond} (ws : List Cond) (ps : List Nat) (hp : ws = ps.filterMap (fun i => big[i]?)) (h : ws.all goodWord = true) : GoodIn big ws := by
  intro w hw
  have h1 := List.all_eq_true.mp h w hw
  rw [hp] at hw
  obtain ⟨i, -, hi⟩ := List.mem_filterMap.mp hw
  have hm : w ∈ big := by first | exact List.mem_of_getElem? hi | exact List.getElem?_mem hi
  exact ⟨hm, good_of_word h1⟩
theorem goodIn_app {big a b : List Cond} (ha : GoodIn big a) (hb : GoodIn big b) : GoodIn big (a ++ b) := fun w h => (List.mem_append.mp h).elim (ha w) (hb w)
theorem goodIn_ca {big a b : List Cond} {c : Cond} (ha : GoodIn big (c :: a)) (hb : GoodIn big b) : GoodIn big (c :: (a ++ b)) := fun w h => (List.mem_cons.mp h).elim (fun e => ha w (List.mem_cons.mpr (Or.inl e))) (fun h => (List.mem_append.mp h).elim (fun h => ha w (List.mem_cons.mpr (Or.inr h))) (hb w))
theorem goodIn_sub {big ws : List Cond} (hm : ∀ w ∈ ws, w ∈ big) (h : ws.all goodWord = true) : GoodIn big ws := fun w hw => ⟨hm w hw, good_of_word (List.all_eq_true.mp h w hw)⟩
/-! ===== END ===== -/

/-! ===== BEGIN exceptions that leave a method, and their catching by the caller (launches without stack traces) ===== -/
section VXA
/-! The laws vx_back, vx_callV, vx_callS, vx_callSW, vx_throw0, vx_throwS follow proofs of the library, with one case more: JvmDerived/Free/Laws.lean (Back.of_free), Shelf42/LK1.lean (callV, callS), Shelf/KitTraced.lean (throwNew0V, throwNewS). -/
/-- where a method has thrown q: the class by its name, the cell, what was written, the world -/
def vx_T (XC : String → State → State → Prop) (st : State) (q : Addr) (t : State) (mc ms : Nat) (free : Addr → Prop) : Prop :=
  ∃ (E : String) (ce : Cell) (L : List Loc), XC E st t ∧ t.heap[q]? = some ce ∧ ce.vm = .none ∧ st.vm.findClass E = some ce.cls ∧ st.WarmedH t.vm ∧ st.sameButNew ({ t with vm := st.vm } : State) L mc ms ∧ ∀ z ∈ L, free z.base
def vx_Q (Qc : Array Value → State → Outcome → State → Prop) (XC : String → State → State → Prop) (mc ms : Nat) (free : Addr → Prop) : Array Value → State → Outcome → State → Prop := fun a st o t =>
  (Qc a st o t ∧ ∃ L, FrameEnd st o t L mc ms ∧ ∀ q ∈ L, free q.base) ∨ ∃ q, o = .threw q ∧ vx_T XC st q t mc ms free
/-- a callee that returns or throws -/
def vx_Met (l : Launch) (y : MethodName) (ws : List Cond) (rm : Room) (Pc : Array Value → State → Prop) (Qc : Array Value → State → Outcome → State → Prop) (XC : String → State → State → Prop) (mc ms : Nat) (free : Addr → Prop) : Prop :=
  MetFree l y (headSpec ws rm) Pc (fun _ _ _ _ _ => True) (vx_Q Qc XC mc ms free)
def vx_Post (XC : String → State → State → Prop) (mc ms : Nat) (free : Addr → Prop) : Pt → Array Value → Addr → Pt → Prop := fun A a q B =>
  ∃ (g : JFrame) (mk : MethodId) (t : State) (L : List Loc) (E : String) (ce : Cell), B.U.heap = t.heap ∧ B.U.vm = t.vm ∧ XC E (A.U.calling g mk a) t ∧ t.heap[q]? = some ce ∧ ce.vm = .none ∧ A.U.vm.findClass E = some ce.cls ∧ B.locs = A.locs ++ L ∧ (∀ z ∈ L, free z.base) ∧ B.cells = A.cells + mc ∧ B.slots = A.slots + ms
def vx_Back (l : Launch) (R : Room) (p : Program) (e : Env) (below : List Frame) (s : State) (sargs : Array Value) (y : MethodName) (len W9 : Nat)
    (Pre : Pt → Array Value → Prop) (Post : Pt → Array Value → Option Value → Pt → Prop) (PostX : Pt → Array Value → Addr → Pt → Prop) : Prop :=
  ∀ (m : MethodId) (meth : Method) (c : Code) (A : Pt) (g : JFrame) (ig : Instr) (mk : MethodId) (a : Array Value),
    Stand p l e R s m sargs below meth c A.U A.locs A.cells A.slots → g.method = m → g.locals.size = c.maxLocals → decode c.code g.pc = .ok (ig, len) →
    2 * g.monitorRoom + (g.stack.map fun v => v.category).sum ≤ W9 → A.U.methodNamed? y = some mk → Pre A a →
    (∃ (v : Option Value) (B : Pt), Stand p l e R s m sargs below meth c B.U B.locs B.cells B.slots ∧ Post A a v B ∧
      Steps p.tables e below (doInvoke e (A.U.setTop g) [] mk a).1 (B.U.setTop { g with pc := g.pc + len, stack := v.toList ++ g.stack })) ∨
    (∃ (q : Addr) (B : Pt), Stand p l e R s m sargs below meth c B.U B.locs B.cells B.slots ∧ PostX A a q B ∧
      Steps p.tables e below (doInvoke e (A.U.setTop g) [] mk a).1 ((B.U.setTop g).pushFrame (.throwing q)))
section Payer
variable {l : Launch} {R : Room} {p : Program} {e : Env} {below : List Frame} {s : State} {sargs : Array Value} {y : MethodName} {len W9 : Nat}
theorem vx_back {ws : List Cond} {rm : Room} {Pc : Array Value → State → Prop} {Qc : Array Value → State → Outcome → State → Prop} {XC : String → State → State → Prop} {mc ms : Nat} {free : Addr → Prop} {bytes : ByteArray} {maxL : Nat} {ret : Option FieldType}
    (hM : vx_Met l y ws rm Pc Qc XC mc ms free) (hblind : FrameBlind Pc) (hrc : rm.cells = mc) (hrs : rm.slots = ms)
    (hframes : rm.frames + 1 ≤ R.frames) (hlocals : W9 + (maxL + 11) + rm.locals ≤ R.locals)
    (hws : ∀ w ∈ ws, ∀ a' U, s.WarmedH U.vm → w.before a' U = true) (hcode : Cond.code y bytes maxL ret ∈ ws) (hinit : ∀ a' U, s.WarmedH U.vm → (Cond.initialized y.cls).before a' U = true) :
    vx_Back l R p e below s sargs y len W9 (PreOf R mc ms Pc) (PostOf Qc mc ms free) (vx_Post XC mc ms free) := by
  intro m meth c A g ig mk a X hg hsize hdg hW hn hp
  have h1 : (headSpec ws rm).pre.before a A.U = true := atoms_intro fun w hw => hws w hw _ _ X.warmed
  have h2 : (Cond.code y bytes maxL ret).before a A.U = true := hws _ hcode _ _ X.warmed
  have h3 : (Cond.initialized y.cls).before a A.U = true := hinit _ _ X.warmed
  have h4 : A.cells + (headSpec ws rm).room.cells ≤ R.cells := by rw [show (headSpec ws rm).room.cells = mc from hrc]; exact hp.1
  have h5 : A.slots + (headSpec ws rm).room.slots ≤ R.slots := by rw [show (headSpec ws rm).room.slots = ms from hrs]; exact hp.2.1
  have hPc : Pc a (A.U.calling g mk a) := hblind _ _ _ _ hp.2.2
  obtain ⟨U, Ls, c0, s0⟩ := A
  dsimp only [Pt.U, Pt.locs, Pt.cells, Pt.slots] at h1 h2 h3 h4 h5 X hn hPc ⊢
  obtain ⟨methY, cY, hmY, hcY, -, hlY, -, -, -, -⟩ := Cond.code_spec hn h2
  obtain ⟨kY, hkY, -⟩ := className_of_methodNamed hn
  have hinitY : kY.init = .initialized := Cond.initialized_spec (findClass_of_methodNamed hn) hkY h3
  have h : At U g.method c below := by rw [hg]; exact X.here
  have hlocals9 : W9 + (maxL + 11) + (headSpec ws rm).room.locals ≤ R.locals := hlocals
  have happ : (headSpec ws rm).appliesLoose y e.platform (U.calling g mk a) = true :=
    Spec.appliesLoose_calling (g := g) h hdg hn hkY hinitY
      (X.room_calling (g := g) (R' := (headSpec ws rm).room) hsize hmY hcY hframes (by rw [hlY]; omega) h4 h5) h1
  obtain ⟨mid, hmid⟩ := h.above
  have hfr : (U.setTop g).frames = (.java g :: mid) ++ below := by rw [State.frames_setTop' g h.top, hmid]; rfl
  obtain ⟨o, s₂, hsteps, -, hend, hq⟩ := Steps.callFree hM p X.admits X.cas X.clock (acts := []) hfr happ hPc trivial
  have hq' : vx_Q Qc XC mc ms free a (U.calling g mk a) o s₂ := hq
  rw [State.frames_setTop' g h.top] at hend
  obtain ⟨g₀, hg0⟩ := Option.isSome_iff_exists.mp h.top
  obtain ⟨r, hr⟩ := State.topJava?_eq_some.mp hg0
  have hr' : (({ U with heap := s₂.heap, slotsUsed := s₂.slotsUsed } : State).setVm s₂.vm).frames = .java g₀ :: r := hr
  rcases hq' with ⟨hqc, L, hfe, hL⟩ | ⟨q, rfl, E, ce, L, hx, hce, hcv, hcl, hW₂, hsm, hL⟩
  · obtain ⟨⟨v, rfl⟩, hW₂, e2, q2, q3, q4, q5, q6⟩ := id hfe
    have e3 : s₂ = ({ (U.calling g mk a).setFrames s₂.frames with heap := s₂.heap, slotsUsed := s₂.slotsUsed } : State).setVm s₂.vm := by
      have : s₂ = ({ s₂ with vm := (U.calling g mk a).vm } : State).setVm s₂.vm := rfl
      rw [e2] at this
      exact this
    obtain ⟨c₂, i₂, len₂, hc₂, hd₂, hf₂⟩ := hend
    have hW' : U.WarmedH s₂.vm := hW₂
    have hcc : c₂ = c := by
      have h1 : s₂.code? g.method = U.code? g.method := by
        rw [State.code?_eq, State.code?_eq, hW'.alike.method?]
      exact Option.some.inj (hc₂.symm.trans (h1.trans h.code))
    subst hcc
    have hlen : len₂ = len := by rw [hdg] at hd₂; cases hd₂; rfl
    subst hlen
    have hs₂ : s₂ = (({ U with heap := s₂.heap, slotsUsed := s₂.slotsUsed } : State).setVm s₂.vm).setTop { g with pc := g.pc + len₂, stack := v.toList ++ g.stack } := by
      refine e3.trans ?_
      rw [hf₂, State.calling_eq h.top, State.setFrames_setFrames, State.setTop_of_frames _ hr', hr]
      rfl
    have hsame : U.sameButNew ({ U with heap := s₂.heap, slotsUsed := s₂.slotsUsed } : State) L mc ms := by
      refine ⟨?_, q2, q3, q4, q5, q6⟩
      obtain ⟨t, ht, -⟩ := State.frames_cons hr
      show ({ U with heap := s₂.heap, slotsUsed := s₂.slotsUsed } : State) = { U.setFrames U.frames with heap := s₂.heap, slotsUsed := s₂.slotsUsed }
      rw [State.setFrames_self ht]
    subst hg
    refine Or.inl ⟨v, ⟨(({ U with heap := s₂.heap, slotsUsed := s₂.slotsUsed } : State).setVm s₂.vm), Ls ++ L, c0 + mc, s0 + ms⟩,
      ⟨X.admits, X.cas, X.clock, X.frames, X.room, X.hears, X.method, X.code, (X.here.setHeapUsed s₂.heap s₂.slotsUsed).setVm hW'.alike, X.tail, State.WarmedH.trans X.warmed hW', X.limits, X.bytes, X.same.trans (hsame.setVm s.vm)⟩,
      ⟨g, mk, s₂, L, rfl, rfl, hqc, rfl, hL, rfl, rfl⟩, ?_⟩
    show Steps p.tables e below _ ((({ U with heap := s₂.heap, slotsUsed := s₂.slotsUsed } : State).setVm s₂.vm).setTop { g with pc := g.pc + len₂, stack := v.toList ++ g.stack })
    rw [← hs₂]
    exact hsteps
  · obtain ⟨e2, q2, q3, q4, q5, q6⟩ := id hsm
    have e3 : s₂ = ({ (U.calling g mk a).setFrames s₂.frames with heap := s₂.heap, slotsUsed := s₂.slotsUsed } : State).setVm s₂.vm := by
      have : s₂ = ({ s₂ with vm := (U.calling g mk a).vm } : State).setVm s₂.vm := rfl
      rw [e2] at this
      exact this
    have hf₂ : s₂.frames = .throwing q :: .java g :: U.frames.tail := hend
    have hW' : U.WarmedH s₂.vm := hW₂
    have hs₂ : s₂ = ((({ U with heap := s₂.heap, slotsUsed := s₂.slotsUsed } : State).setVm s₂.vm).setTop g).pushFrame (.throwing q) := by
      refine e3.trans ?_
      rw [hf₂, State.calling_eq h.top, State.setFrames_setFrames, State.pushFrame, State.frames_setTop _ hr', State.setTop_of_frames _ hr', State.setFrames_setFrames, hr]
      rfl
    have hsame : U.sameButNew ({ U with heap := s₂.heap, slotsUsed := s₂.slotsUsed } : State) L mc ms := by
      refine ⟨?_, q2, q3, q4, q5, q6⟩
      obtain ⟨t, ht, -⟩ := State.frames_cons hr
      show ({ U with heap := s₂.heap, slotsUsed := s₂.slotsUsed } : State) = { U.setFrames U.frames with heap := s₂.heap, slotsUsed := s₂.slotsUsed }
      rw [State.setFrames_self ht]
    subst hg
    refine Or.inr ⟨q, ⟨(({ U with heap := s₂.heap, slotsUsed := s₂.slotsUsed } : State).setVm s₂.vm), Ls ++ L, c0 + mc, s0 + ms⟩,
      ⟨X.admits, X.cas, X.clock, X.frames, X.room, X.hears, X.method, X.code, (X.here.setHeapUsed s₂.heap s₂.slotsUsed).setVm hW'.alike, X.tail, State.WarmedH.trans X.warmed hW', X.limits, X.bytes, X.same.trans (hsame.setVm s.vm)⟩,
      ⟨g, mk, s₂, L, E, ce, rfl, rfl, hx, hce, hcv, hcl, rfl, hL, rfl, rfl⟩, ?_⟩
    show Steps p.tables e below _ (((({ U with heap := s₂.heap, slotsUsed := s₂.slotsUsed } : State).setVm s₂.vm).setTop g).pushFrame (.throwing q))
    rw [← hs₂]
    exact hsteps
end Payer
section Calls
variable {p : Program} {l : Launch} {e : Env} {R : Room} {s : State} {m : MethodId} {args : Array Value} {below : List Frame} {meth : Method} {c : Code} {T : State} {locs : List Loc} {cells slots : Nat}
theorem vx_callV (X : Stand p l e R s m args below meth c T locs cells slots) (hexec : p.tables.exec = Jvm.exec) {own C : String} {index : Nat} {y : MethodName} {bytes : ByteArray} {maxL : Nat} {ret : Option FieldType}
    (hown : s.vm.findClass own = some m.cls) (hlink : (Cond.methodLink own index y).before args s = true) (hinst : (Cond.instanceMethod y).before args s = true) (hsel : (Cond.selects C y y).before args s = true)
    (hcode : (Cond.code y bytes maxL ret).before args s = true) (hy : y.cls ≠ "java/lang/invoke/MethodHandle" ∧ y.cls ≠ "java/lang/invoke/VarHandle")
    {W9 : Nat} {Pre : Pt → Array Value → Prop} {Post : Pt → Array Value → Option Value → Pt → Prop} {PostX : Pt → Array Value → Addr → Pt → Prop} (hK : vx_Back l R p e below s args y 3 W9 Pre Post PostX)
    {b : Addr} {cellB : Cell} (hcell : T.heap[b]? = some cellB) (hobj : cellB.vm.isStatics = false) (hcls : s.vm.findClass C = some cellB.cls)
    {g : JFrame} (hg : g.method = m) (hsize : g.locals.size = c.maxLocals) {argsL rest : List Value} (hlen : ∀ sig, parseMethodDescriptor y.desc = some sig → argsL.length = sig.parameters.length)
    (hstack : g.stack = argsL.reverse ++ .ref b :: rest) (hW : 2 * g.monitorRoom + (rest.map fun v => v.category).sum ≤ W9) (hdg : decode c.code g.pc = .ok (.invokevirtual index, 3))
    (hpre : ∀ vm₁, s.WarmedH vm₁ → Pre ⟨T.setVm vm₁, locs, cells, slots⟩ (Value.ref b :: argsL).toArray) :
    (∃ (v : Option Value) (vm₁ : Vm) (B : Pt), s.WarmedH vm₁ ∧ Stand p l e R s m args below meth c B.U B.locs B.cells B.slots ∧ Post ⟨T.setVm vm₁, locs, cells, slots⟩ (Value.ref b :: argsL).toArray v B ∧
      ∀ target, Steps p.tables e below (B.U.setTop { g with pc := g.pc + 3, stack := v.toList ++ rest }) target → Steps p.tables e below (T.setTop g) target) ∨
    (∃ (q : Addr) (vm₁ : Vm) (B : Pt), s.WarmedH vm₁ ∧ Stand p l e R s m args below meth c B.U B.locs B.cells B.slots ∧ PostX ⟨T.setVm vm₁, locs, cells, slots⟩ (Value.ref b :: argsL).toArray q B ∧
      Steps p.tables e below (T.setTop g) ((B.U.setTop { g with stack := rest }).pushFrame (.throwing q))) := by
  obtain ⟨mk, methM, hnamed, hmethM, hstM, habM⟩ := Cond.instanceMethod_spec hinst
  obtain ⟨methM', cM, hmethM', -, -, -, -, -, -, hsigM⟩ := Cond.code_spec hnamed hcode
  cases hmethM.symm.trans hmethM'
  obtain ⟨c2, r2, m2, q1, q2, q3, q4, kP, hkP, hkPi⟩ := Cond.selects_spec hsel
  cases hcls.symm.trans q1
  cases (State.methodFound?_of_named hnamed hy).symm.trans q2
  cases hnamed.symm.trans q3
  have hselP : selectMethod e.platform s.vm cellB.cls mk = .method mk := by rw [Launch.admits_selectMethod X.admits]; exact q4
  obtain ⟨vm₁, X₁, hstep₁⟩ := X.invokevirtual hexec hown hlink hnamed hmethM hstM hkP hkPi hy (a := b) (cell := cellB) hcell
    (fun z h => by rw [h] at hobj; cases hobj) hselP hmethM habM hkP hkPi (g := g) hg (argsL := argsL) (rest := rest) (hlen _ hsigM) hstack hdg
  rcases hK m meth c ⟨T.setVm vm₁, locs, cells, slots⟩ { g with stack := rest } (.invokevirtual index) mk (Value.ref b :: argsL).toArray X₁ hg hsize hdg hW (X₁.named hnamed) (hpre vm₁ X₁.warmed) with ⟨v, B, X', hpost, hsteps⟩ | ⟨q, B, X', hpost, hsteps⟩
  · exact Or.inl ⟨v, vm₁, B, X₁.warmed, X', hpost, fun target h => hstep₁ _ fun acts => by rw [doInvoke_state]; exact hsteps.trans h⟩
  · exact Or.inr ⟨q, vm₁, B, X₁.warmed, X', hpost, hstep₁ _ fun acts => by rw [doInvoke_state]; exact hsteps⟩
theorem vx_callS (X : Stand p l e R s m args below meth c T locs cells slots) (hexec : p.tables.exec = Jvm.exec) {own : String} {index : Nat} {y : MethodName} {bytes : ByteArray} {maxL : Nat} {ret : Option FieldType}
    (hown : s.vm.findClass own = some m.cls) (hlink : (Cond.methodLink own index y).before args s = true) (hstat : (Cond.static y).before args s = true) (hinit : (Cond.initialized y.cls).before args s = true)
    (hcode : (Cond.code y bytes maxL ret).before args s = true) (hy : y.cls ≠ "java/lang/invoke/MethodHandle" ∧ y.cls ≠ "java/lang/invoke/VarHandle")
    {W9 : Nat} {Pre : Pt → Array Value → Prop} {Post : Pt → Array Value → Option Value → Pt → Prop} {PostX : Pt → Array Value → Addr → Pt → Prop} (hK : vx_Back l R p e below s args y 3 W9 Pre Post PostX)
    {g : JFrame} (hg : g.method = m) (hsize : g.locals.size = c.maxLocals) {argsL rest : List Value} (hlen : ∀ sig, parseMethodDescriptor y.desc = some sig → argsL.length = sig.parameters.length)
    (hstack : g.stack = argsL.reverse ++ rest) (hW : 2 * g.monitorRoom + (rest.map fun v => v.category).sum ≤ W9) (hdg : decode c.code g.pc = .ok (.invokestatic index, 3))
    (hpre : ∀ vm₁, s.WarmedH vm₁ → Pre ⟨T.setVm vm₁, locs, cells, slots⟩ argsL.toArray) :
    (∃ (v : Option Value) (vm₁ : Vm) (B : Pt), s.WarmedH vm₁ ∧ Stand p l e R s m args below meth c B.U B.locs B.cells B.slots ∧ Post ⟨T.setVm vm₁, locs, cells, slots⟩ argsL.toArray v B ∧
      ∀ target, Steps p.tables e below (B.U.setTop { g with pc := g.pc + 3, stack := v.toList ++ rest }) target → Steps p.tables e below (T.setTop g) target) ∨
    (∃ (q : Addr) (vm₁ : Vm) (B : Pt), s.WarmedH vm₁ ∧ Stand p l e R s m args below meth c B.U B.locs B.cells B.slots ∧ PostX ⟨T.setVm vm₁, locs, cells, slots⟩ argsL.toArray q B ∧
      Steps p.tables e below (T.setTop g) ((B.U.setTop { g with stack := rest }).pushFrame (.throwing q))) := by
  obtain ⟨mk, hnamed⟩ := Cond.code_named hcode
  obtain ⟨methM, cM, hmethM, -, -, -, -, -, -, hsigM⟩ := Cond.code_spec hnamed hcode
  have hstatic : methM.isStatic = true := Cond.static_spec hnamed hmethM hstat
  obtain ⟨kP, hkP, -⟩ := className_of_methodNamed hnamed
  have hinitP : kP.init = .initialized := Cond.initialized_spec (findClass_of_methodNamed hnamed) hkP hinit
  obtain ⟨vm₁, X₁, hstep₁⟩ := X.invokestatic hexec hown hlink hnamed hmethM hstatic hkP hinitP hy (g := g) hg (argsL := argsL) (rest := rest) (hlen _ hsigM) hstack hdg
  rcases hK m meth c ⟨T.setVm vm₁, locs, cells, slots⟩ { g with stack := rest } (.invokestatic index) mk argsL.toArray X₁ hg hsize hdg hW (X₁.named hnamed) (hpre vm₁ X₁.warmed) with ⟨v, B, X', hpost, hsteps⟩ | ⟨q, B, X', hpost, hsteps⟩
  · exact Or.inl ⟨v, vm₁, B, X₁.warmed, X', hpost, fun target h => hstep₁ _ fun acts => by rw [doInvoke_state]; exact hsteps.trans h⟩
  · exact Or.inr ⟨q, vm₁, B, X₁.warmed, X', hpost, hstep₁ _ fun acts => by rw [doInvoke_state]; exact hsteps⟩
end Calls
theorem vx_cls {s : State} {T : State} {vm₁ : Vm} {E : String} {k : ClassId} (hW : s.WarmedH vm₁) (h : (T.setVm vm₁).vm.findClass E = some k) : s.vm.findClass E = some k := by
  have h1 : vm₁.findClass E = some k := h
  rw [hW.alike.findClass] at h1
  exact h1
/-- the method's frame g, with q thrown over it -/
def vx_W (p : Program) (l : Launch) (e : Env) (R : Room) (s : State) (m : MethodId) (args : Array Value) (below : List Frame) (meth : Method) (c : Code) (H : Heap) (locs : List Loc) (cells slots : Nat) (Q : State → Prop) (g : JFrame) (q : Addr) : Prop :=
  ∀ T : State, T.heap = H → Stand p l e R s m args below meth c T locs cells slots → ∃ t, Steps p.tables e below ((T.setTop g).pushFrame (.throwing q)) t ∧ Q t
def vx_Run (p : Program) (l : Launch) (e : Env) (R : Room) (s : State) (m : MethodId) (args : Array Value) (below : List Frame) (meth : Method) (c : Code) (H : Heap) (locs : List Loc) (cells slots mc ms : Nat) (g : JFrame) (rest : List Value) (Qa : State → Outcome → State → Prop) (XC : String → State → State → Prop) (free : Addr → Prop) : Prop :=
  ∀ T : State, T.heap = H → Stand p l e R s m args below meth c T locs cells slots →
    (∃ (v : Option Value) (st₀ t T' : State) (L : List Loc), st₀.heap = H ∧ Stand p l e R s m args below meth c T' (locs ++ L) (cells + mc) (slots + ms) ∧ (∀ q ∈ L, free q.base) ∧ T'.heap = t.heap ∧ T'.vm = t.vm ∧ Qa st₀ (.returned v) t ∧
      Goes p e below T g T' { g with pc := g.pc + 3, stack := v.toList ++ rest }) ∨
    (∃ (q : Addr) (st₀ t T' : State) (L : List Loc) (E : String) (ce : Cell), st₀.heap = H ∧ Stand p l e R s m args below meth c T' (locs ++ L) (cells + mc) (slots + ms) ∧ (∀ z ∈ L, free z.base) ∧ T'.heap = t.heap ∧ T'.vm = t.vm ∧ XC E st₀ t ∧ t.heap[q]? = some ce ∧ ce.vm = .none ∧ s.vm.findClass E = some ce.cls ∧
      Steps p.tables e below (T.setTop g) ((T'.setTop { g with stack := rest }).pushFrame (.throwing q)))
def vx_X {S : Type} (px : S → Prop) (B : String → S → State → Prop) (A : Nat → Prop) : String → State → State → Prop := fun E st t => ∃ u : S, px u ∧ B E u t ∧ va_F A st t
section Runs
variable {p : Program} {l : Launch} {e : Env} {R : Room} {s : State} {m : MethodId} {args : Array Value} {below : List Frame} {meth : Method} {c : Code} {H : Heap} {locs : List Loc} {cells slots : Nat}
variable {y : MethodName} {bytes cc : ByteArray} {maxL nL mc ms n index : Nat} {ret : Option FieldType} {ws : List Cond} {rm : Room} {Pc : Array Value → State → Prop} {Qc : Array Value → State → Outcome → State → Prop} {XC : String → State → State → Prop} {free : Addr → Prop} {Ts : List Cond} {own C : String} {b : Addr} {As rest : List Value} {g : JFrame}
theorem vx_callBack (cb : CallB R s args own index y bytes maxL ret ws rm mc ms n) (hM : vx_Met l y ws rm Pc Qc XC mc ms free) (hbl : FrameBlind Pc) : vx_Back l R p e below s args y 3 8 (PreOf R mc ms Pc) (PostOf Qc mc ms free) (vx_Post XC mc ms free) := by
  obtain ⟨hrc, hrs, hfr, hlo, hws, hcw, -, hini, -⟩ := cb
  exact vx_back (bytes := bytes) (maxL := maxL) (ret := ret) hM hbl hrc hrs hfr hlo hws hcw (fun a' U hW => word_at hW (Or.inl (by first | rfl | simp [Cond.onTables, Cond.keeps, Cond.steady])) hini)
theorem vx_runV (S : CallFix p m c cc nL s args Ts own) (hM : vx_Met l y ws rm Pc Qc XC mc ms free) (cw : CallW R s args own C index y bytes maxL ret ws rm mc ms n) (hp : PreV s H C b Pc As)
    (hg : g.method = m) (hn : As.length = n) (hsize : g.locals.size = nL) (hstack : g.stack = As.reverse ++ .ref b :: rest) (hW : 2 * g.monitorRoom + (rest.map fun v => v.category).sum ≤ 8) (hdg : decode cc g.pc = .ok (.invokevirtual index, 3)) (hf : cells + mc ≤ R.cells ∧ slots + ms ≤ R.slots) :
    vx_Run p l e R s m args below meth c H locs cells slots mc ms g rest (Qc (Value.ref b :: As).toArray) XC free := by
  have hK : vx_Back l R p e below s args y 3 8 (PreOf R mc ms Pc) (PostOf Qc mc ms free) (vx_Post XC mc ms free) := vx_callBack cw.1 hM hp.1
  obtain ⟨⟨-, -, -, -, -, -, hcode, -, hy, hlen, hl⟩, hin, hse⟩ := cw
  obtain ⟨hx, hb, hml, ho, -⟩ := S
  obtain ⟨-, ⟨cellB, hcB, hoB, hclB⟩, hPc⟩ := hp
  intro T hT X
  rcases vx_callV X hx (C := C) (bytes := bytes) (maxL := maxL) (ret := ret) ho hl hin hse hcode hy hK (by rw [hT]; exact hcB) hoB hclB hg (hsize.trans hml.symm) (argsL := As) (rest := rest) (fun sig h => hn.trans (hlen sig h)) hstack hW (by rw [hb]; exact hdg)
    (fun vm₁ hW₁ => ⟨hf.1, hf.2, hPc (T.setVm vm₁) hT hW₁⟩) with ⟨v, vm₁, ⟨U', l2, c2, s2⟩, hW₁, X', ⟨g', mk, t, L, e1, e2, hq, h1, hL, h2, h3⟩, st⟩ | ⟨q, vm₁, ⟨U', l2, c2, s2⟩, hW₁, X', ⟨g', mk, t, L, E, ce, e1, e2, hq, hce, hcv, hcl, h1, hL, h2, h3⟩, st⟩
  · dsimp only [Pt.U, Pt.locs, Pt.cells, Pt.slots] at X' e1 e2 h1 h2 h3 st
    subst h1; subst h2; subst h3
    exact Or.inl ⟨v, (T.setVm vm₁).calling g' mk (Value.ref b :: As).toArray, t, U', L, hT, X', hL, e1, e2, hq, st⟩
  · dsimp only [Pt.U, Pt.locs, Pt.cells, Pt.slots] at X' e1 e2 h1 h2 h3 st hcl
    subst h1; subst h2; subst h3
    exact Or.inr ⟨q, (T.setVm vm₁).calling g' mk (Value.ref b :: As).toArray, t, U', L, E, ce, hT, X', hL, e1, e2, hq, hce, hcv, vx_cls hW₁ hcl, st⟩
theorem vx_runS (S : CallFix p m c cc nL s args Ts own) (hM : vx_Met l y ws rm Pc Qc XC mc ms free) (cw : CallB R s args own index y bytes maxL ret ws rm mc ms n ∧ (Cond.static y).before args s = true) (hp : PreS s H Pc As)
    (hg : g.method = m) (hn : As.length = n) (hsize : g.locals.size = nL) (hstack : g.stack = As.reverse ++ rest) (hW : 2 * g.monitorRoom + (rest.map fun v => v.category).sum ≤ 8) (hdg : decode cc g.pc = .ok (.invokestatic index, 3)) (hf : cells + mc ≤ R.cells ∧ slots + ms ≤ R.slots) :
    vx_Run p l e R s m args below meth c H locs cells slots mc ms g rest (Qc As.toArray) XC free := by
  have hK : vx_Back l R p e below s args y 3 8 (PreOf R mc ms Pc) (PostOf Qc mc ms free) (vx_Post XC mc ms free) := vx_callBack cw.1 hM hp.1
  obtain ⟨⟨-, -, -, -, -, -, hcode, hini, hy, hlen, hl⟩, hstt⟩ := cw
  obtain ⟨hx, hb, hml, ho, -⟩ := S
  intro T hT X
  rcases vx_callS X hx (bytes := bytes) (maxL := maxL) (ret := ret) ho hl hstt hini hcode hy hK hg (hsize.trans hml.symm) (argsL := As) (rest := rest) (fun sig h => hn.trans (hlen sig h)) hstack hW (by rw [hb]; exact hdg)
    (fun vm₁ hW₁ => ⟨hf.1, hf.2, hp.2 (T.setVm vm₁) hT hW₁⟩) with ⟨v, vm₁, ⟨U', l2, c2, s2⟩, hW₁, X', ⟨g', mk, t, L, e1, e2, hq, h1, hL, h2, h3⟩, st⟩ | ⟨q, vm₁, ⟨U', l2, c2, s2⟩, hW₁, X', ⟨g', mk, t, L, E, ce, e1, e2, hq, hce, hcv, hcl, h1, hL, h2, h3⟩, st⟩
  · dsimp only [Pt.U, Pt.locs, Pt.cells, Pt.slots] at X' e1 e2 h1 h2 h3 st
    subst h1; subst h2; subst h3
    exact Or.inl ⟨v, (T.setVm vm₁).calling g' mk As.toArray, t, U', L, hT, X', hL, e1, e2, hq, st⟩
  · dsimp only [Pt.U, Pt.locs, Pt.cells, Pt.slots] at X' e1 e2 h1 h2 h3 st hcl
    subst h1; subst h2; subst h3
    exact Or.inr ⟨q, (T.setVm vm₁).calling g' mk As.toArray, t, U', L, E, ce, hT, X', hL, e1, e2, hq, hce, hcv, vx_cls hW₁ hcl, st⟩
end Runs
section Rows
variable {p : Program} {l : Launch} {e : Env} {R : Room} {s : State} {m : MethodId} {args : Array Value} {below : List Frame} {meth : Method} {c : Code} {H : Heap} {locs : List Loc} {cells slots : Nat} {Q : State → Prop}
variable {mc ms : Nat} {free : Addr → Prop} {A0 A1 : Nat → Prop} {H0 : Heap} {a : Array Value} {pc : Nat} {ls : Array Slot} {st0 rest : List Value}
theorem vx_keep {st₀ t T' : State} {L : List Loc} (h0 : st₀.heap = H) (e1 : T'.heap = t.heap) (hS : va_S A0 H0 H locs) (hA : ∀ q, q < H.size → A1 q → A0 q) (hf : ∀ q, free q → A0 q) (hL : ∀ q ∈ L, free q.base) (hF : va_F A1 st₀ t) :
    H.size ≤ T'.heap.size ∧ (∀ q : Nat, q < H.size → ¬ A1 q → T'.heap[q]? = H[q]?) ∧ va_S A0 H0 T'.heap (locs ++ L) := by
  obtain ⟨hz, hk⟩ := hF
  rw [h0] at hz hk
  exact ⟨by rw [e1]; exact hz, fun q h1 h2 => by rw [e1]; exact hk q h1 h2,
    ⟨Nat.le_trans hS.1 (by rw [e1]; exact hz), fun q h1 h2 => by rw [e1, hk q (Nat.lt_of_lt_of_le h1 hS.1) (fun z => h2 (hA q (Nat.lt_of_lt_of_le h1 hS.1) z))]; exact hS.2.1 q h1 h2, fun q hq => by
      rcases List.mem_append.mp hq with h | h
      · exact hS.2.2 q h
      · exact hf _ (hL q h)⟩⟩
theorem vx_calli {S SX : Type} {post : Int32 → S → Prop} {px : SX → Prop} {B : S → State → Prop} {BX : String → SX → State → Prop} {AX : Nat → Prop} (hr : vx_Run p l e R s m args below meth c H locs cells slots mc ms (F0 m pc ls st0) rest (va_Qi post B A1 a) (vx_X px BX AX) free) (hS : va_S A0 H0 H locs) (hA : ∀ q, q < H.size → A1 q → A0 q) (hf : ∀ q, free q → A0 q) (hAX : ∀ q, q < H.size → AX q → A0 q)
    (kx : ∀ (E : String) (ce : Cell) (q9 : Addr) (u : SX) (t : State) (H1 : Heap) (locs1 : List Loc), t.heap = H1 → s.vm.Alike t.vm → px u → BX E u t → H.size ≤ H1.size → (∀ q : Nat, q < H.size → ¬ AX q → H1[q]? = H[q]?) → va_S A0 H0 H1 locs1 → H1[q9]? = some ce → ce.vm = .none → s.vm.findClass E = some ce.cls → vx_W p l e R s m args below meth c H1 locs1 (cells + mc) (slots + ms) Q (F0 m pc ls rest) q9)
    (kk : ∀ (r : Int32) (u : S) (t : State) (H1 : Heap) (locs1 : List Loc), t.heap = H1 → s.vm.Alike t.vm → post r u → B u t → H.size ≤ H1.size → (∀ q : Nat, q < H.size → ¬ A1 q → H1[q]? = H[q]?) → va_S A0 H0 H1 locs1 → W p l e R s m args below meth c H1 locs1 (cells + mc) (slots + ms) Q (F0 m (pc + 3) ls (.int r :: rest))) : W p l e R s m args below meth c H locs cells slots Q (F0 m pc ls st0) := by
  intro T hT X
  rcases hr T hT X with ⟨v, st₀, t, T', L, h0, X', hL, e1, e2, ⟨⟨r, u, hv, hp, hb⟩, hF⟩, st⟩ | ⟨q, st₀, t, T', L, E, ce, h0, X', hL, e1, e2, ⟨u, hp, hb, hF⟩, hce, hcv, hcl, st⟩
  · cases hv
    obtain ⟨k1, k2, k3⟩ := vx_keep h0 e1 hS hA hf hL hF
    obtain ⟨t2, a1, b1⟩ := kk r u t T'.heap (locs ++ L) e1.symm (by rw [← e2]; exact X'.warmed.alike) hp hb k1 k2 k3 T' rfl X'
    exact ⟨t2, st t2 a1, b1⟩
  · obtain ⟨k1, k2, k3⟩ := vx_keep h0 e1 hS hAX hf hL hF
    obtain ⟨t2, a1, b1⟩ := kx E ce q u t T'.heap (locs ++ L) e1.symm (by rw [← e2]; exact X'.warmed.alike) hp hb k1 k2 k3 (by rw [e1]; exact hce) hcv hcl T' rfl X'
    exact ⟨t2, st.trans a1, b1⟩
theorem vx_calll {S SX : Type} {post : Int64 → S → Prop} {px : SX → Prop} {B : S → State → Prop} {BX : String → SX → State → Prop} {AX : Nat → Prop} (hr : vx_Run p l e R s m args below meth c H locs cells slots mc ms (F0 m pc ls st0) rest (va_Ql post B A1 a) (vx_X px BX AX) free) (hS : va_S A0 H0 H locs) (hA : ∀ q, q < H.size → A1 q → A0 q) (hf : ∀ q, free q → A0 q) (hAX : ∀ q, q < H.size → AX q → A0 q)
    (kx : ∀ (E : String) (ce : Cell) (q9 : Addr) (u : SX) (t : State) (H1 : Heap) (locs1 : List Loc), t.heap = H1 → s.vm.Alike t.vm → px u → BX E u t → H.size ≤ H1.size → (∀ q : Nat, q < H.size → ¬ AX q → H1[q]? = H[q]?) → va_S A0 H0 H1 locs1 → H1[q9]? = some ce → ce.vm = .none → s.vm.findClass E = some ce.cls → vx_W p l e R s m args below meth c H1 locs1 (cells + mc) (slots + ms) Q (F0 m pc ls rest) q9)
    (kk : ∀ (r : Int64) (u : S) (t : State) (H1 : Heap) (locs1 : List Loc), t.heap = H1 → s.vm.Alike t.vm → post r u → B u t → H.size ≤ H1.size → (∀ q : Nat, q < H.size → ¬ A1 q → H1[q]? = H[q]?) → va_S A0 H0 H1 locs1 → W p l e R s m args below meth c H1 locs1 (cells + mc) (slots + ms) Q (F0 m (pc + 3) ls (.long r :: rest))) : W p l e R s m args below meth c H locs cells slots Q (F0 m pc ls st0) := by
  intro T hT X
  rcases hr T hT X with ⟨v, st₀, t, T', L, h0, X', hL, e1, e2, ⟨⟨r, u, hv, hp, hb⟩, hF⟩, st⟩ | ⟨q, st₀, t, T', L, E, ce, h0, X', hL, e1, e2, ⟨u, hp, hb, hF⟩, hce, hcv, hcl, st⟩
  · cases hv
    obtain ⟨k1, k2, k3⟩ := vx_keep h0 e1 hS hA hf hL hF
    obtain ⟨t2, a1, b1⟩ := kk r u t T'.heap (locs ++ L) e1.symm (by rw [← e2]; exact X'.warmed.alike) hp hb k1 k2 k3 T' rfl X'
    exact ⟨t2, st t2 a1, b1⟩
  · obtain ⟨k1, k2, k3⟩ := vx_keep h0 e1 hS hAX hf hL hF
    obtain ⟨t2, a1, b1⟩ := kx E ce q u t T'.heap (locs ++ L) e1.symm (by rw [← e2]; exact X'.warmed.alike) hp hb k1 k2 k3 (by rw [e1]; exact hce) hcv hcl T' rfl X'
    exact ⟨t2, st.trans a1, b1⟩
theorem vx_callf {S SX : Type} {post : UInt32 → S → Prop} {px : SX → Prop} {B : S → State → Prop} {BX : String → SX → State → Prop} {AX : Nat → Prop} (hr : vx_Run p l e R s m args below meth c H locs cells slots mc ms (F0 m pc ls st0) rest (va_Qf post B A1 a) (vx_X px BX AX) free) (hS : va_S A0 H0 H locs) (hA : ∀ q, q < H.size → A1 q → A0 q) (hf : ∀ q, free q → A0 q) (hAX : ∀ q, q < H.size → AX q → A0 q)
    (kx : ∀ (E : String) (ce : Cell) (q9 : Addr) (u : SX) (t : State) (H1 : Heap) (locs1 : List Loc), t.heap = H1 → s.vm.Alike t.vm → px u → BX E u t → H.size ≤ H1.size → (∀ q : Nat, q < H.size → ¬ AX q → H1[q]? = H[q]?) → va_S A0 H0 H1 locs1 → H1[q9]? = some ce → ce.vm = .none → s.vm.findClass E = some ce.cls → vx_W p l e R s m args below meth c H1 locs1 (cells + mc) (slots + ms) Q (F0 m pc ls rest) q9)
    (kk : ∀ (r : UInt32) (u : S) (t : State) (H1 : Heap) (locs1 : List Loc), t.heap = H1 → s.vm.Alike t.vm → post r u → B u t → H.size ≤ H1.size → (∀ q : Nat, q < H.size → ¬ A1 q → H1[q]? = H[q]?) → va_S A0 H0 H1 locs1 → W p l e R s m args below meth c H1 locs1 (cells + mc) (slots + ms) Q (F0 m (pc + 3) ls (.float r :: rest))) : W p l e R s m args below meth c H locs cells slots Q (F0 m pc ls st0) := by
  intro T hT X
  rcases hr T hT X with ⟨v, st₀, t, T', L, h0, X', hL, e1, e2, ⟨⟨r, u, hv, hp, hb⟩, hF⟩, st⟩ | ⟨q, st₀, t, T', L, E, ce, h0, X', hL, e1, e2, ⟨u, hp, hb, hF⟩, hce, hcv, hcl, st⟩
  · cases hv
    obtain ⟨k1, k2, k3⟩ := vx_keep h0 e1 hS hA hf hL hF
    obtain ⟨t2, a1, b1⟩ := kk r u t T'.heap (locs ++ L) e1.symm (by rw [← e2]; exact X'.warmed.alike) hp hb k1 k2 k3 T' rfl X'
    exact ⟨t2, st t2 a1, b1⟩
  · obtain ⟨k1, k2, k3⟩ := vx_keep h0 e1 hS hAX hf hL hF
    obtain ⟨t2, a1, b1⟩ := kx E ce q u t T'.heap (locs ++ L) e1.symm (by rw [← e2]; exact X'.warmed.alike) hp hb k1 k2 k3 (by rw [e1]; exact hce) hcv hcl T' rfl X'
    exact ⟨t2, st.trans a1, b1⟩
theorem vx_calld {S SX : Type} {post : UInt64 → S → Prop} {px : SX → Prop} {B : S → State → Prop} {BX : String → SX → State → Prop} {AX : Nat → Prop} (hr : vx_Run p l e R s m args below meth c H locs cells slots mc ms (F0 m pc ls st0) rest (va_Qd post B A1 a) (vx_X px BX AX) free) (hS : va_S A0 H0 H locs) (hA : ∀ q, q < H.size → A1 q → A0 q) (hf : ∀ q, free q → A0 q) (hAX : ∀ q, q < H.size → AX q → A0 q)
    (kx : ∀ (E : String) (ce : Cell) (q9 : Addr) (u : SX) (t : State) (H1 : Heap) (locs1 : List Loc), t.heap = H1 → s.vm.Alike t.vm → px u → BX E u t → H.size ≤ H1.size → (∀ q : Nat, q < H.size → ¬ AX q → H1[q]? = H[q]?) → va_S A0 H0 H1 locs1 → H1[q9]? = some ce → ce.vm = .none → s.vm.findClass E = some ce.cls → vx_W p l e R s m args below meth c H1 locs1 (cells + mc) (slots + ms) Q (F0 m pc ls rest) q9)
    (kk : ∀ (r : UInt64) (u : S) (t : State) (H1 : Heap) (locs1 : List Loc), t.heap = H1 → s.vm.Alike t.vm → post r u → B u t → H.size ≤ H1.size → (∀ q : Nat, q < H.size → ¬ A1 q → H1[q]? = H[q]?) → va_S A0 H0 H1 locs1 → W p l e R s m args below meth c H1 locs1 (cells + mc) (slots + ms) Q (F0 m (pc + 3) ls (.double r :: rest))) : W p l e R s m args below meth c H locs cells slots Q (F0 m pc ls st0) := by
  intro T hT X
  rcases hr T hT X with ⟨v, st₀, t, T', L, h0, X', hL, e1, e2, ⟨⟨r, u, hv, hp, hb⟩, hF⟩, st⟩ | ⟨q, st₀, t, T', L, E, ce, h0, X', hL, e1, e2, ⟨u, hp, hb, hF⟩, hce, hcv, hcl, st⟩
  · cases hv
    obtain ⟨k1, k2, k3⟩ := vx_keep h0 e1 hS hA hf hL hF
    obtain ⟨t2, a1, b1⟩ := kk r u t T'.heap (locs ++ L) e1.symm (by rw [← e2]; exact X'.warmed.alike) hp hb k1 k2 k3 T' rfl X'
    exact ⟨t2, st t2 a1, b1⟩
  · obtain ⟨k1, k2, k3⟩ := vx_keep h0 e1 hS hAX hf hL hF
    obtain ⟨t2, a1, b1⟩ := kx E ce q u t T'.heap (locs ++ L) e1.symm (by rw [← e2]; exact X'.warmed.alike) hp hb k1 k2 k3 (by rw [e1]; exact hce) hcv hcl T' rfl X'
    exact ⟨t2, st.trans a1, b1⟩
theorem vx_callv {S SX : Type} {post : S → Prop} {px : SX → Prop} {B : S → State → Prop} {BX : String → SX → State → Prop} {AX : Nat → Prop} (hr : vx_Run p l e R s m args below meth c H locs cells slots mc ms (F0 m pc ls st0) rest (va_Qv post B A1 a) (vx_X px BX AX) free) (hS : va_S A0 H0 H locs) (hA : ∀ q, q < H.size → A1 q → A0 q) (hf : ∀ q, free q → A0 q) (hAX : ∀ q, q < H.size → AX q → A0 q)
    (kx : ∀ (E : String) (ce : Cell) (q9 : Addr) (u : SX) (t : State) (H1 : Heap) (locs1 : List Loc), t.heap = H1 → s.vm.Alike t.vm → px u → BX E u t → H.size ≤ H1.size → (∀ q : Nat, q < H.size → ¬ AX q → H1[q]? = H[q]?) → va_S A0 H0 H1 locs1 → H1[q9]? = some ce → ce.vm = .none → s.vm.findClass E = some ce.cls → vx_W p l e R s m args below meth c H1 locs1 (cells + mc) (slots + ms) Q (F0 m pc ls rest) q9)
    (kk : ∀ (u : S) (t : State) (H1 : Heap) (locs1 : List Loc), t.heap = H1 → s.vm.Alike t.vm → post u → B u t → H.size ≤ H1.size → (∀ q : Nat, q < H.size → ¬ A1 q → H1[q]? = H[q]?) → va_S A0 H0 H1 locs1 → W p l e R s m args below meth c H1 locs1 (cells + mc) (slots + ms) Q (F0 m (pc + 3) ls (rest))) : W p l e R s m args below meth c H locs cells slots Q (F0 m pc ls st0) := by
  intro T hT X
  rcases hr T hT X with ⟨v, st₀, t, T', L, h0, X', hL, e1, e2, ⟨⟨u, hv, hp, hb⟩, hF⟩, st⟩ | ⟨q, st₀, t, T', L, E, ce, h0, X', hL, e1, e2, ⟨u, hp, hb, hF⟩, hce, hcv, hcl, st⟩
  · cases hv
    obtain ⟨k1, k2, k3⟩ := vx_keep h0 e1 hS hA hf hL hF
    obtain ⟨t2, a1, b1⟩ := kk u t T'.heap (locs ++ L) e1.symm (by rw [← e2]; exact X'.warmed.alike) hp hb k1 k2 k3 T' rfl X'
    exact ⟨t2, st t2 a1, b1⟩
  · obtain ⟨k1, k2, k3⟩ := vx_keep h0 e1 hS hAX hf hL hF
    obtain ⟨t2, a1, b1⟩ := kx E ce q u t T'.heap (locs ++ L) e1.symm (by rw [← e2]; exact X'.warmed.alike) hp hb k1 k2 k3 (by rw [e1]; exact hce) hcv hcl T' rfl X'
    exact ⟨t2, st.trans a1, b1⟩
/-- caught by the row x of this method's table; the rows ahead don't take it -/
theorem vx_catch {own name : String} {E : String} {ce : Cell} {q : Addr} (hown : s.vm.findClass own = some m.cls) (pre : List ExceptionTableEntry) (x : ExceptionTableEntry) (suf : List ExceptionTableEntry) (hsplit : c.exceptionTable.toList = pre ++ x :: suf)
    (hpass : ∀ z ∈ pre, covers z pc = false ∨ (z.catchType ≠ 0 ∧ ∃ nm : String, (Cond.classLink own z.catchType nm).before args s = true ∧ va_Nc E nm s)) (hx : covers x pc = true) (h0 : x.catchType ≠ 0)
    (hlink : (Cond.classLink own x.catchType name).before args s = true) (hcast : (Cond.castable E name).before args s = true) (hcell : H[q]? = some ce) (hv : ce.vm = .none) (hcl : s.vm.findClass E = some ce.cls)
    (kk : W p l e R s m args below meth c H locs cells slots Q (F0 m x.handlerPc ls [.ref q])) : vx_W p l e R s m args below meth c H locs cells slots Q (F0 m pc ls rest) q := by
  intro T hT X
  have hpl : e.platform.magicAccessors = ({} : Platform).magicAccessors := by rw [X.admits.platform]
  obtain ⟨c3, c4, hc3, hc4, hasg⟩ := Cond.castable_spec hcast
  cases Option.some.inj (hc3.symm.trans hcl)
  obtain ⟨c5, hc5, hcl5⟩ := Cond.classLink_spec hown hlink e.platform hpl
  cases Option.some.inj (hc4.symm.trans hc5)
  obtain ⟨vm', X', st⟩ := X.thenCaughtThrough q (g := F0 m pc ls rest) rfl (Steps.refl _) (by rw [hT]; exact hcell) (by rw [hv]; rfl) (by obtain ⟨k9, h9, -⟩ := Vm.findClass_spec hcl; exact ⟨k9, h9⟩) pre x suf hsplit
    (fun z hz => by
      rcases hpass z hz with h | ⟨hz0, nm, hl1, hn1⟩
      · exact Or.inl h
      · obtain ⟨c6, hc6, hcl6⟩ := Cond.classLink_spec hown hl1 e.platform hpl
        obtain ⟨a8, b8, h1, h2, h3⟩ := hn1
        cases Option.some.inj (h1.symm.trans hcl)
        cases Option.some.inj (h2.symm.trans hc6)
        exact Or.inr ⟨hz0, _, hcl6, h3⟩) hx (Or.inr ⟨h0, c4, hcl5, hasg⟩)
  obtain ⟨t, a1, b1⟩ := kk (T.setVm vm') hT X'
  exact ⟨t, st.trans a1, b1⟩
end Rows
section Ends
variable {p : Program} {l : Launch} {e : Env} {R : Room} {s : State} {m : MethodId} {args : Array Value} {below : List Frame} {meth : Method} {c : Code} {H : Heap} {locs : List Loc} {cells slots : Nat} {Q : State → Prop}
variable {mc ms : Nat} {free : Addr → Prop} {A0 A1 : Nat → Prop} {H0 : Heap} {a : Array Value} {ls : Array Slot} {st0 rest : List Value}
variable {Qc : Array Value → State → Outcome → State → Prop} {XC : String → State → State → Prop}
/-- what a body that may throw owes at its end -/
def vx_MQ (below : List Frame) (Qc : Array Value → State → Outcome → State → Prop) (XC : String → State → State → Prop) (a : Array Value) (s : State) (mc ms : Nat) (free : Addr → Prop) : State → Prop := fun t =>
  ∃ o, t.status = .running ∧ Ended t below o ∧ vx_Q Qc XC mc ms free a s o t
theorem vx_ret {g : JFrame} {mc ms : Nat} (k : W p l e R s m args below meth c H locs cells slots (MQ below Qc args s mc ms free) g) : W p l e R s m args below meth c H locs cells slots (vx_MQ below Qc XC args s mc ms free) g := by
  intro T hT X
  obtain ⟨t, a1, o, b1, b2, b3, b4⟩ := k T hT X
  exact ⟨t, a1, o, b1, b2, Or.inl ⟨b3, b4⟩⟩
/-- not caught here: it goes on to the caller -/
theorem vx_widen {g : JFrame} {q : Addr} {k n : Nat} (h1 : cells ≤ k) (h2 : slots ≤ n) (kk : vx_W p l e R s m args below meth c H locs k n Q g q) : vx_W p l e R s m args below meth c H locs cells slots Q g q := fun T hT X => kk T hT (stand_widen X h1 h2)
theorem vx_out {pc : Nat} {E : String} {ce : Cell} {q : Addr} {mc ms : Nat} (hout : ∀ x ∈ c.exceptionTable.toList, covers x pc = false) (hlocks : meth.locks = false) (hcell : H[q]? = some ce) (hv : ce.vm = .none) (hcl : s.vm.findClass E = some ce.cls)
    (hx : ∀ t : State, t.heap = H → s.vm.Alike t.vm → XC E s t) (hf : ∀ z ∈ locs, free z.base) (hc : cells ≤ mc) (hs : slots ≤ ms) :
    vx_W p l e R s m args below meth c H locs cells slots (vx_MQ below Qc XC args s mc ms free) (F0 m pc ls rest) q := by
  intro T hT X
  obtain ⟨st1, hrun, hend, hW, hsm⟩ := X.leaveThrown q (g := F0 m pc ls rest) rfl rfl rfl hout hlocks
  have hcell9 : (T.setFrames (.throwing q :: below)).heap[q]? = some ce := by
    show T.heap[q]? = some ce
    rw [hT]; exact hcell
  exact ⟨_, st1, .threw q, hrun, hend, Or.inr ⟨q, rfl, E, ce, locs, hx _ hT hW.alike, hcell9, hv, hcl, hW, hsm.mono hc hs, hf⟩⟩
theorem vx_frame {U : State} {k n : Nat} (h : s.sameButNew ({ U with vm := s.vm } : State) locs k n) : s.heap.size ≤ U.heap.size ∧ ∀ q : Nat, q < s.heap.size → (∀ z ∈ locs, z.base ≠ q) → U.heap[q]? = s.heap[q]? := by
  obtain ⟨-, h2, -, -, -, h6⟩ := h
  refine ⟨h2, fun q hq hz => ?_⟩
  obtain ⟨c9, e1, e2, e3, e4⟩ := h6 q _ (Array.getElem?_eq_getElem hq)
  have hs : c9.slots = (s.heap[q]).slots := Array.ext_getElem? fun i => e4 i fun hm => hz _ hm rfl
  have h9 : c9 = s.heap[q] := by
    rw [hs] at e2
    exact e2
  have e5 : U.heap[q]? = some c9 := e1
  rw [e5, h9, Array.getElem?_eq_getElem hq]
/-- the words of a throw but the four that speak of the heap -/
def vx_no (w : Cond) : Bool := decide (w ≠ .isRef (.static Bundle.tN "UNASSIGNED_STACK" Bundle.steD)) && decide (w ≠ .isRef (.static Bundle.tN "SUPPRESSED_SENTINEL" Bundle.listD)) && decide (w ≠ .laysStatic Bundle.tN "UNASSIGNED_STACK" Bundle.steD) && decide (w ≠ .laysStatic Bundle.tN "SUPPRESSED_SENTINEL" Bundle.listD)
def vx_at0 (own : String) (ic : Nat) (X : String) (names : List String) : List Cond := (Bundle.ownAtoms0 own ic X names).filter vx_no
def vx_atS (own : String) (ic : Nat) (X : String) (names : List String) : List Cond := (Bundle.ownAtoms own ic X names).filter vx_no
/-- a word that the tables alone decide, or a good one -/
def vx_ot (w : Cond) : Bool := w.onTables || goodWord w
theorem vx_ot_at {args a' : Array Value} {s U : State} {w : Cond} (hW : s.WarmedH U.vm) (hvm : s.vm = U.vm) (hg : vx_ot w = true) (h : w.before args s = true) : w.before a' U = true := by
  simp only [vx_ot, Bool.or_eq_true] at hg
  rcases hg with hg | hg
  · exact va_tabs hg hvm h
  · exact word_at hW (good_of_word hg) h
/-- a list's words: the good ones out of the method's own list, the others by premises of their own -/
theorem vx_hat {args : Array Value} {s : State} {L B : List Cond} (h1 : ∀ w ∈ L.filter goodWord, w.before args s = true) (h2 : ∀ w ∈ L.filter (fun w => !goodWord w), w ∈ B) (h3 : ∀ w ∈ B, w.before args s = true) : ∀ w ∈ L, w.before args s = true := by
  intro w hw
  by_cases g : goodWord w = true
  · exact h1 w (List.mem_filter.mpr ⟨hw, g⟩)
  · refine h3 w (h2 w (List.mem_filter.mpr ⟨hw, ?_⟩))
    show (!goodWord w) = true
    cases hgw : goodWord w
    · rfl
    · exact absurd hgw g
theorem vx_c {args : Array Value} {s : State} {w : Cond} {B : List Cond} (h : w.before args s = true) (t : ∀ w ∈ B, w.before args s = true) : ∀ w' ∈ w :: B, w'.before args s = true := fun w' h' => (List.mem_cons.mp h').elim (fun e => by rw [e]; exact h) (t w')
theorem vx_n {args : Array Value} {s : State} : ∀ w ∈ ([] : List Cond), w.before args s = true := fun _ h => nomatch h
theorem vx_own {args : Array Value} {s : State} {L : List Cond} (h1 : ∀ w ∈ L.filter vx_no, w.before args s = true)
    (hU : (Cond.isRef (.static Bundle.tN "UNASSIGNED_STACK" Bundle.steD)).before args s = true) (hN : (Cond.isRef (.static Bundle.tN "SUPPRESSED_SENTINEL" Bundle.listD)).before args s = true)
    (lU : (Cond.laysStatic Bundle.tN "UNASSIGNED_STACK" Bundle.steD).before args s = true) (lN : (Cond.laysStatic Bundle.tN "SUPPRESSED_SENTINEL" Bundle.listD).before args s = true) : ∀ w ∈ L, w.before args s = true := by
  intro w hw
  by_cases e1 : w = .isRef (.static Bundle.tN "UNASSIGNED_STACK" Bundle.steD)
  · rw [e1]; exact hU
  · by_cases e2 : w = .isRef (.static Bundle.tN "SUPPRESSED_SENTINEL" Bundle.listD)
    · rw [e2]; exact hN
    · by_cases e3 : w = .laysStatic Bundle.tN "UNASSIGNED_STACK" Bundle.steD
      · rw [e3]; exact lU
      · by_cases e4 : w = .laysStatic Bundle.tN "SUPPRESSED_SENTINEL" Bundle.listD
        · rw [e4]; exact lN
        · exact h1 w (List.mem_filter.mpr ⟨hw, by unfold vx_no; rw [decide_eq_true e1, decide_eq_true e2, decide_eq_true e3, decide_eq_true e4]; rfl⟩)
/-- where a static field lies, its class's statics cell in H -/
def vx_L (C n d : String) (A : Nat → Prop) (U : State) (H : Heap) : Prop := ∃ (c : ClassId) (k : Class) (i : Nat) (f : Field) (a : Nat) (cell : Cell), U.vm.findClass C = some c ∧ U.fieldFound? C n d = some (c, k, i, f) ∧ f.isStatic = true ∧ k.statics = some a ∧ H[a]? = some cell ∧ cell.vm.isStatics = true ∧ cell.cls = c ∧ f.slot < cell.slots.size ∧ k.staticTypes[f.slot]? = some f.type ∧ ¬ A a
theorem vx_L.moved {C n d : String} {A : Nat → Prop} {u U : State} {H : Heap} (hvm : u.vm.Alike U.vm) (h : vx_L C n d A u H) : vx_L C n d A U H := by
  obtain ⟨c, k, i, f, a, cell, h1, h2, h3, h4, h5, h6, h7, h8, h9, h10⟩ := h
  obtain ⟨k', hi', he⟩ := State.fieldFound?_setVm hvm h2
  exact ⟨c, k', i, f, a, cell, by rw [hvm.findClass]; exact h1, hi', h3, by rw [he]; exact h4, h5, h6, h7, h8, by rw [he]; exact h9, h10⟩
theorem vx_L.kept {C n d : String} {A : Nat → Prop} {U : State} {H H1 : Heap} (h : vx_L C n d A U H) (hq : ∀ a : Nat, a < H.size → ¬ A a → H1[a]? = H[a]?) : vx_L C n d A U H1 := by
  obtain ⟨c, k, i, f, a, cell, h1, h2, h3, h4, h5, h6, h7, h8, h9, h10⟩ := h
  exact ⟨c, k, i, f, a, cell, h1, h2, h3, h4, by rw [hq a (Array.getElem?_eq_some_iff.mp h5).1 h10]; exact h5, h6, h7, h8, h9, h10⟩
theorem vx_L.narrow {C n d : String} {A B : Nat → Prop} {U : State} {H : Heap} (h : vx_L C n d A U H) (hAB : ∀ q, B q → A q) : vx_L C n d B U H := by
  obtain ⟨c, k, i, f, a, cell, h1, h2, h3, h4, h5, h6, h7, h8, h9, h10⟩ := h
  exact ⟨c, k, i, f, a, cell, h1, h2, h3, h4, h5, h6, h7, h8, h9, fun z => h10 (hAB _ z)⟩
theorem vx_L.word {C n d : String} {A : Nat → Prop} {s : State} {args : Array Value} (h : vx_L C n d A s s.heap) : (Cond.laysStatic C n d).before args s = true := by
  obtain ⟨c, k, i, f, a, cell, h1, h2, h3, h4, h5, h6, h7, h8, h9, -⟩ := h
  show (Cond.laysStatic C n d).holds args s none s [] = true
  exact Cond.laysStatic_of h1 h2 h3 h4 h5 h6 h7 h8 h9
/-- .. and what it holds: null or some reference -/
def vx_Zq (C n d : String) (A : Nat → Prop) (U : State) (H : Heap) : Prop := va_Zq C n d A U H ∧ vx_L C n d A U H
theorem vx_Zq.moved {C n d : String} {A : Nat → Prop} {u U : State} {H : Heap} (hvm : u.vm.Alike U.vm) (h : vx_Zq C n d A u H) : vx_Zq C n d A U H := ⟨va_Zq.moved hvm h.1, vx_L.moved hvm h.2⟩
theorem vx_Zq.kept {C n d : String} {A : Nat → Prop} {U : State} {H H1 : Heap} (h : vx_Zq C n d A U H) (hq : ∀ a : Nat, a < H.size → ¬ A a → H1[a]? = H[a]?) : vx_Zq C n d A U H1 := ⟨va_Zq.kept h.1 hq, vx_L.kept h.2 hq⟩
theorem vx_Zq.narrow {C n d : String} {A B : Nat → Prop} {U : State} {H : Heap} (h : vx_Zq C n d A U H) (hAB : ∀ q, B q → A q) : vx_Zq C n d B U H := ⟨va_Zq.narrow h.1 hAB, vx_L.narrow h.2 hAB⟩
theorem vx_Zqof {args : Array Value} {s : State} {C n d : String} {A : Nat → Prop} (hl : (Cond.laysStatic C n d).before args s = true) (hini : (Cond.initialized C).before args s = true) (h : (Cond.isRef (.static C n d)).before args s = true) (hA : ∀ a : Nat, a < s.heap.size → ¬ A a) : vx_Zq C n d A s s.heap := by
  refine ⟨va_Zqof hl hini h hA, ?_⟩
  obtain ⟨c, k, i, f, a, cell, h1, h2, h3, h4, h5, h6, h7, h8, h9⟩ := Cond.laysStatic_spec hl
  exact ⟨c, k, i, f, a, cell, h1, h2, h3, h4, h5, h6, h7, h8, h9, hA a (Array.getElem?_eq_some_iff.mp h5).1⟩
theorem vx_isRef {C n d : String} {v : Value} {A : Nat → Prop} {s : State} {args : Array Value} (h : va_Z C n d v A s s.heap) (hv : v.isRef = true) : (Cond.isRef (.static C n d)).before args s = true := by
  obtain ⟨cf, kf, fi, f, a, cell, h1, h2, h3, h4, h5, h6, h7, -⟩ := h
  have he : (Term.static C n d).eval args s none [] s = some v := by
    simp [Term.eval, State.fieldNamed?, h1, h2, h4, h5, h6, h7]
  simp only [Cond.before, Cond.holds, Cond.value, he]
  cases v <;> simp_all [Value.isRef]
theorem vx_isRefq {C n d : String} {A : Nat → Prop} {s : State} {args : Array Value} (h : va_Zq C n d A s s.heap) : (Cond.isRef (.static C n d)).before args s = true := by
  rcases h with h | ⟨t, h⟩
  · exact vx_isRef h rfl
  · exact vx_isRef h rfl
/-- the same frame, seen from here: as if the method were called anew in this heap -/
theorem vx_rebase {T : State} (X : Stand p l e R s m args below meth c T locs cells slots) {R' : Room} (hf : R'.frames ≤ R.frames) (hl : R'.locals ≤ R.locals) (hc : cells + R'.cells ≤ R.cells) (hs : slots + R'.slots ≤ R.slots) :
    Stand p l e R' ((T.setVm s.vm).setFrames (.invoking m args :: below)) m args below meth c T [] 0 0 := by
  have htop : (T.setVm s.vm).topJava?.isSome := X.here.top
  have hF : ((T.setVm s.vm).setFrames (.invoking m args :: below)).frames = .invoking m args :: below := State.frames_setFrames _ (State.cur_lt_of_top htop)
  obtain ⟨g₀, hg0⟩ := Option.isSome_iff_exists.mp htop
  obtain ⟨r, hr⟩ := State.topJava?_eq_some.mp hg0
  have hl9 : e.platform.stackLimits (T.setVm s.vm).me = e.platform.stackLimits s.me := X.limits
  have hb9 : (T.setVm s.vm).me.stackBytes = s.me.stackBytes := X.bytes
  refine ⟨X.admits, X.cas, X.clock, hF, ?_, X.hears, X.method, X.code, X.here, X.tail, X.warmed, ?_, ?_, ?_⟩
  · have h := X.room
    have hU : ((T.setVm s.vm).setFrames (.invoking m args :: below)).localsInUse = s.localsInUse := by
      rw [State.localsInUse_invoking hF (meth := meth) (c := c) X.method X.code, State.localsInUse_invoking X.frames X.method X.code]
    simp only [State.hasRoom, Bool.and_eq_true, decide_eq_true_eq] at h ⊢
    obtain ⟨⟨⟨⟨h1, h2, h3, h4, h5, h6⟩, h7⟩, h8⟩, h9⟩ := h
    rw [X.frames, List.length_cons] at h2 h3
    have q1 := X.heapSize
    have q2 := X.used
    simp only [hF, hU, List.length_cons, State.stackLimits_setFrames, State.stackBytes_setFrames, hl9, hb9]
    refine ⟨⟨⟨⟨by omega, by omega, by omega, by omega, by omega, h6⟩, ?_⟩, ?_⟩, X.book⟩
    · show T.heap.size + R'.cells ≤ e.platform.maxCells
      omega
    · show T.slotsUsed + R'.slots ≤ e.platform.maxSlots
      omega
  · rw [State.stackLimits_setFrames]; rfl
  · rw [State.stackBytes_setFrames]; rfl
  · refine ⟨?_, Nat.le_refl _, Nat.le_refl _, ?_, ?_, fun a c9 h9 => ⟨c9, h9, rfl, rfl, fun _ _ => rfl⟩⟩
    · obtain ⟨t, ht, -⟩ := State.frames_cons hr
      show T.setVm s.vm = { ((T.setVm s.vm).setFrames (.invoking m args :: below)).setFrames (T.setVm s.vm).frames with heap := T.heap, slotsUsed := T.slotsUsed }
      rw [State.setFrames_setFrames, State.setFrames_self ht]
      rfl
    · show T.slotsUsed = T.slotsUsed + ((T.heap.toList.drop T.heap.size).map (·.slots.size)).sum
      rw [List.drop_eq_nil_of_le (Nat.le_of_eq Array.length_toList)]
      rfl
    · show ((T.heap.toList.drop T.heap.size).map (·.slots.size)).sum ≤ 0
      rw [List.drop_eq_nil_of_le (Nat.le_of_eq Array.length_toList)]
      exact Nat.le_refl _
/-- 'throw new E()': new; dup; invokespecial; athrow -/
theorem vx_throw0 {cc : ByteArray} {pc : Nat} (hexec : p.tables.exec = Jvm.exec) (hb : c.code = cc) (hl : l.stackTraces = false) {own cls : String} {names : List String} {ik ic mc ms : Nat} {A : Nat → Prop}
    (hown : s.vm.findClass own = some m.cls) (hcls : Bundle.fit cls = true) (hnames : ∀ n ∈ names, Bundle.fit n = true)
    (hk : (Cond.classLink own ik cls).before args s = true) (hini : (Cond.initialized cls).before args s = true) (hat : ∀ w ∈ vx_at0 own ic cls names, w.before args s = true)
    (hgood : ∀ w ∈ Cond.classLink own ik cls :: Cond.initialized cls :: vx_at0 own ic cls names, vx_ot w = true)
    (hU : vx_Zq Bundle.tN "UNASSIGNED_STACK" Bundle.steD A s s.heap) (hN : vx_Zq Bundle.tN "SUPPRESSED_SENTINEL" Bundle.listD A s s.heap) (hS : va_S A s.heap H locs) (hsize : ls.size = c.maxLocals)
    (d0 : decode cc pc = .ok (.new ik, 3)) (d3 : decode cc (pc + 3) = .ok (.dup, 1)) (d4 : decode cc (pc + 4) = .ok (.invokespecial ic, 3)) (d7 : decode cc (pc + 7) = .ok (.athrow, 1))
    (hout : ∀ x ∈ c.exceptionTable.toList, covers x (pc + 7) = false)
    (hRframes : names.length + 3 < R.frames) (hRlocals : (rest.map fun v => v.category).sum + (13 * (names.length + 1) + 42) ≤ R.locals) (hRcells : cells + 1 ≤ R.cells) (hRslots : slots + 6 ≤ R.slots) (hlocks : meth.locks = false)
    (hx : ∀ t : State, s.vm.Alike t.vm → H.size ≤ t.heap.size → (∀ q : Nat, q < H.size → t.heap[q]? = H[q]?) → XC cls s t)
    (hf : ∀ z ∈ locs, free z.base) (hc : cells + 1 ≤ mc) (hs : slots + 6 ≤ ms) :
    W p l e R s m args below meth c H locs cells slots (vx_MQ below Qc XC args s mc ms free) (F0 m pc ls rest) := by
  intro T hT X
  have htr : e.platform.stackTraces = false := (show e.platform.stackTraces = l.stackTraces by rw [X.admits.platform]).trans hl
  have Y := vx_rebase X (R' := { frames := R.frames, locals := R.locals, cells := 1, slots := 6 }) (Nat.le_refl _) (Nat.le_refl _) hRcells hRslots
  obtain ⟨s', hA⟩ : ∃ z, z = (T.setVm s.vm).setFrames (.invoking m args :: below) := ⟨_, rfl⟩
  rw [← hA] at Y
  have hvm : s'.vm = s.vm := by rw [hA]; rfl
  have hhp : s'.heap = H := by rw [hA]; exact hT
  have hW0 : s.WarmedH s'.vm := by rw [hvm]; exact State.WarmedH.refl s
  have hat' : ∀ w ∈ vx_at0 own ic cls names, w.before args s' = true := fun w hw => vx_ot_at hW0 hvm.symm (hgood w (List.mem_cons_of_mem _ (List.mem_cons_of_mem _ hw))) (hat w hw)
  have hk' : (Cond.classLink own ik cls).before args s' = true := vx_ot_at hW0 hvm.symm (hgood _ List.mem_cons_self) hk
  have hini' : (Cond.initialized cls).before args s' = true := vx_ot_at hW0 hvm.symm (hgood _ (List.mem_cons_of_mem _ List.mem_cons_self)) hini
  have hU' : vx_Zq Bundle.tN "UNASSIGNED_STACK" Bundle.steD A s' s'.heap := by rw [hhp]; exact vx_Zq.moved hW0.alike (hU.kept hS.2.1)
  have hN' : vx_Zq Bundle.tN "SUPPRESSED_SENTINEL" Bundle.listD A s' s'.heap := by rw [hhp]; exact vx_Zq.moved hW0.alike (hN.kept hS.2.1)
  have h : ∀ w ∈ Bundle.ownAtoms0 own ic cls names, w.before args s' = true := vx_own hat' (vx_isRefq hU'.1) (vx_isRefq hN'.1) hU'.2.word hN'.2.word
  have hown' : s'.vm.findClass own = some m.cls := by rw [hvm]; exact hown
  have hins : (Cond.instantiable cls 6).before args s' = true := h _ (by simp [Bundle.ownAtoms0])
  obtain ⟨vm₁, cX, kX, hfX, hkX, -, -, X₁, st1⟩ := Y.newCold hexec (own := own) (C := cls) (index := ik) (n := 6) hown' hk' hins hini'
    (g := F0 m pc ls rest) rfl (by rw [hb]; exact d0) (Nat.le_refl _) (Nat.le_refl _)
  generalize hT1 : (T.setVm vm₁).pushCell { cls := cX, slots := kX.instanceTypes.map defaultValue, vm := .none } = T1 at X₁ st1
  have hcat : (Value.ref T.heap.size).category = 1 := rfl
  have hcellA : T1.heap[T.heap.size]? = some (freshCell cX kX) := by rw [← hT1]; exact State.heap_pushCell_size _ _
  have d3' : decode c.code (pc + 3) = .ok (.dup, 1) := by rw [hb]; exact d3
  obtain ⟨U, hsteps, hrun, hend, hW, hsame, ce, hce, hO⟩ := X₁.ctorThrow0 hexec htr (own := own) (cls := cls) (names := names) (ic := ic) hown' hcls hnames h (fun x hx => nomatch hx) hfX hkX hcellA (by rw [hhp, hT]; exact Nat.le_refl _)
    (g := { method := m, pc := pc + 4, locals := ls, stack := .ref T.heap.size :: .ref T.heap.size :: rest, locked := none }) rfl hsize rfl rfl (rest := rest) rfl
    (by rw [hb]; exact d4) (by rw [hb]; exact d7) hout hRframes (by simp only [List.map_cons, List.sum_cons, hcat]; omega) hlocks
  obtain ⟨f1, f2⟩ := vx_frame hsame
  rw [hhp] at f1 f2
  have hWs : s.WarmedH U.vm := State.WarmedH.trans hW0 hW
  have hcl : s.vm.findClass cls = some ce.cls := by
    have h9 := hO.cls
    rw [hvm] at h9
    exact h9
  have hall : s.sameButNew ({ U with vm := s.vm } : State) locs mc ms := by
    subst hA
    obtain ⟨e1, e2⟩ := hsame
    rw [State.setFrames_setFrames] at e1
    have h2 : (T.setVm s.vm).sameButNew ({ U with vm := s.vm } : State) [] (0 + 1) (0 + 6) := ⟨e1, e2⟩
    have h3 := X.same.trans h2
    rw [List.append_nil] at h3
    exact h3.mono hc hs
  refine ⟨U, ?_, .threw T.heap.size, hrun, hend, Or.inr ⟨T.heap.size, rfl, cls, ce, locs, hx U hWs.alike f1 (fun q hq => f2 q hq (fun z hz => nomatch hz)), hce, hO.vm, hcl, hWs, hall, hf⟩⟩
  refine st1 _ ?_
  show Steps p.tables e below (T1.setTop { method := m, pc := pc + 3, locals := ls, stack := .ref T.heap.size :: rest, locked := none }) _
  jvm_step X₁.here [X₁.here.top, hexec, d3', Value.category]
  exact hsteps
/-- 'throw new E("text")': new; dup; ldc; invokespecial; athrow -/
theorem vx_throwS {cc : ByteArray} {pc : Nat} (hexec : p.tables.exec = Jvm.exec) (hb : c.code = cc) (hl : l.stackTraces = false) {own cls text : String} {names : List String} {ik is ic mc ms sa : Nat} {A : Nat → Prop}
    (hown : s.vm.findClass own = some m.cls) (hcls : Bundle.fit cls = true) (hnames : ∀ n ∈ names, Bundle.fit n = true)
    (hk : (Cond.classLink own ik cls).before args s = true) (hini : (Cond.initialized cls).before args s = true) (hstr : vk_R own is text sa s) (hat : ∀ w ∈ vx_atS own ic cls names, w.before args s = true)
    (hgood : ∀ w ∈ Cond.classLink own ik cls :: Cond.initialized cls :: vx_atS own ic cls names, vx_ot w = true)
    (hU : vx_Zq Bundle.tN "UNASSIGNED_STACK" Bundle.steD A s s.heap) (hN : vx_Zq Bundle.tN "SUPPRESSED_SENTINEL" Bundle.listD A s s.heap) (hS : va_S A s.heap H locs) (hsize : ls.size = c.maxLocals)
    (d0 : decode cc pc = .ok (.new ik, 3)) (d3 : decode cc (pc + 3) = .ok (.dup, 1)) (d4 : decode cc (pc + 4) = .ok (.ldc is, 2)) (d6 : decode cc (pc + 6) = .ok (.invokespecial ic, 3)) (d9 : decode cc (pc + 9) = .ok (.athrow, 1))
    (hout : ∀ x ∈ c.exceptionTable.toList, covers x (pc + 9) = false)
    (hRframes : names.length + 3 < R.frames) (hRlocals : (rest.map fun v => v.category).sum + (13 * (names.length + 1) + 43) ≤ R.locals) (hRcells : cells + 1 ≤ R.cells) (hRslots : slots + 6 ≤ R.slots) (hlocks : meth.locks = false)
    (hx : ∀ t : State, s.vm.Alike t.vm → H.size ≤ t.heap.size → (∀ q : Nat, q < H.size → t.heap[q]? = H[q]?) → XC cls s t)
    (hf : ∀ z ∈ locs, free z.base) (hc : cells + 1 ≤ mc) (hs : slots + 6 ≤ ms) :
    W p l e R s m args below meth c H locs cells slots (vx_MQ below Qc XC args s mc ms free) (F0 m pc ls rest) := by
  intro T hT X
  have htr : e.platform.stackTraces = false := (show e.platform.stackTraces = l.stackTraces by rw [X.admits.platform]).trans hl
  have Y := vx_rebase X (R' := { frames := R.frames, locals := R.locals, cells := 1, slots := 6 }) (Nat.le_refl _) (Nat.le_refl _) hRcells hRslots
  obtain ⟨s', hA⟩ : ∃ z, z = (T.setVm s.vm).setFrames (.invoking m args :: below) := ⟨_, rfl⟩
  rw [← hA] at Y
  have hvm : s'.vm = s.vm := by rw [hA]; rfl
  have hhp : s'.heap = H := by rw [hA]; exact hT
  have hW0 : s.WarmedH s'.vm := by rw [hvm]; exact State.WarmedH.refl s
  have hat' : ∀ w ∈ vx_atS own ic cls names, w.before args s' = true := fun w hw => vx_ot_at hW0 hvm.symm (hgood w (List.mem_cons_of_mem _ (List.mem_cons_of_mem _ hw))) (hat w hw)
  have hk' : (Cond.classLink own ik cls).before args s' = true := vx_ot_at hW0 hvm.symm (hgood _ List.mem_cons_self) hk
  have hini' : (Cond.initialized cls).before args s' = true := vx_ot_at hW0 hvm.symm (hgood _ (List.mem_cons_of_mem _ List.mem_cons_self)) hini
  have hU' : vx_Zq Bundle.tN "UNASSIGNED_STACK" Bundle.steD A s' s'.heap := by rw [hhp]; exact vx_Zq.moved hW0.alike (hU.kept hS.2.1)
  have hN' : vx_Zq Bundle.tN "SUPPRESSED_SENTINEL" Bundle.listD A s' s'.heap := by rw [hhp]; exact vx_Zq.moved hW0.alike (hN.kept hS.2.1)
  have h : ∀ w ∈ Bundle.ownAtoms own ic cls names, w.before args s' = true := vx_own hat' (vx_isRefq hU'.1) (vx_isRefq hN'.1) hU'.2.word hN'.2.word
  have hown' : s'.vm.findClass own = some m.cls := by rw [hvm]; exact hown
  have hins : (Cond.instantiable cls 6).before args s' = true := h _ (by simp [Bundle.ownAtoms])
  obtain ⟨vm₁, cX, kX, hfX, hkX, -, -, X₁, st1⟩ := Y.newCold hexec (own := own) (C := cls) (index := ik) (n := 6) hown' hk' hins hini'
    (g := F0 m pc ls rest) rfl (by rw [hb]; exact d0) (Nat.le_refl _) (Nat.le_refl _)
  generalize hT1 : (T.setVm vm₁).pushCell { cls := cX, slots := kX.instanceTypes.map defaultValue, vm := .none } = T1 at X₁ st1
  have hcat : (Value.ref T.heap.size).category = 1 := rfl
  have hcellA : T1.heap[T.heap.size]? = some (freshCell cX kX) := by rw [← hT1]; exact State.heap_pushCell_size _ _
  have d3' : decode c.code (pc + 3) = .ok (.dup, 1) := by rw [hb]; exact d3
  have d4' : decode c.code (pc + 4) = .ok (.ldc is, 2) := by rw [hb]; exact d4
  have hstr' : vk_R own is text sa s' := vk_R.warm hW0 hstr
  obtain ⟨U, hsteps, hrun, hend, hW, hsame, ce, hce, hO⟩ := X₁.ctorThrowS hexec htr (own := own) (cls := cls) (names := names) (ic := ic) hown' hcls hnames h (fun x hx => nomatch hx) hfX hkX hcellA (by rw [hhp, hT]; exact Nat.le_refl _) (msg := .ref sa) rfl
    (g := { method := m, pc := pc + 6, locals := ls, stack := .ref sa :: .ref T.heap.size :: .ref T.heap.size :: rest, locked := none }) rfl hsize rfl rfl (rest := rest) rfl
    (by rw [hb]; exact d6) (by rw [hb]; exact d9) hout hRframes (by simp only [List.map_cons, List.sum_cons, hcat]; omega) hlocks
  obtain ⟨f1, f2⟩ := vx_frame hsame
  rw [hhp] at f1 f2
  have hWs : s.WarmedH U.vm := State.WarmedH.trans hW0 hW
  have hcl : s.vm.findClass cls = some ce.cls := by
    have h9 := hO.cls
    rw [hvm] at h9
    exact h9
  have hall : s.sameButNew ({ U with vm := s.vm } : State) locs mc ms := by
    subst hA
    obtain ⟨e1, e2⟩ := hsame
    rw [State.setFrames_setFrames] at e1
    have h2 : (T.setVm s.vm).sameButNew ({ U with vm := s.vm } : State) [] (0 + 1) (0 + 6) := ⟨e1, e2⟩
    have h3 := X.same.trans h2
    rw [List.append_nil] at h3
    exact h3.mono hc hs
  refine ⟨U, ?_, .threw T.heap.size, hrun, hend, Or.inr ⟨T.heap.size, rfl, cls, ce, locs, hx U hWs.alike f1 (fun q hq => f2 q hq (fun z hz => nomatch hz)), hce, hO.vm, hcl, hWs, hall, hf⟩⟩
  refine st1 _ ?_
  show Steps p.tables e below (T1.setTop { method := m, pc := pc + 3, locals := ls, stack := .ref T.heap.size :: rest, locked := none }) _
  jvm_step X₁.here [X₁.here.top, hexec, d3', Value.category]
  exact X₁.ldcString hexec (own := own) (text := text) (index := is) (a := sa) hown' hstr'.1 hstr'.2
    (g := { method := m, pc := pc + 4, locals := ls, stack := .ref T.heap.size :: .ref T.heap.size :: rest, locked := none }) rfl d4' _ hsteps
/-- 'throw new E("text")', the text by a wide index -/
theorem vx_throwSW {cc : ByteArray} {pc : Nat} (hexec : p.tables.exec = Jvm.exec) (hb : c.code = cc) (hl : l.stackTraces = false) {own cls text : String} {names : List String} {ik is ic mc ms sa : Nat} {A : Nat → Prop}
    (hown : s.vm.findClass own = some m.cls) (hcls : Bundle.fit cls = true) (hnames : ∀ n ∈ names, Bundle.fit n = true)
    (hk : (Cond.classLink own ik cls).before args s = true) (hini : (Cond.initialized cls).before args s = true) (hstr : vk_R own is text sa s) (hat : ∀ w ∈ vx_atS own ic cls names, w.before args s = true)
    (hgood : ∀ w ∈ Cond.classLink own ik cls :: Cond.initialized cls :: vx_atS own ic cls names, vx_ot w = true)
    (hU : vx_Zq Bundle.tN "UNASSIGNED_STACK" Bundle.steD A s s.heap) (hN : vx_Zq Bundle.tN "SUPPRESSED_SENTINEL" Bundle.listD A s s.heap) (hS : va_S A s.heap H locs) (hsize : ls.size = c.maxLocals)
    (d0 : decode cc pc = .ok (.new ik, 3)) (d3 : decode cc (pc + 3) = .ok (.dup, 1)) (d4 : decode cc (pc + 4) = .ok (.ldc_w is, 3)) (d7 : decode cc (pc + 7) = .ok (.invokespecial ic, 3)) (d10 : decode cc (pc + 10) = .ok (.athrow, 1))
    (hout : ∀ x ∈ c.exceptionTable.toList, covers x (pc + 10) = false)
    (hRframes : names.length + 3 < R.frames) (hRlocals : (rest.map fun v => v.category).sum + (13 * (names.length + 1) + 43) ≤ R.locals) (hRcells : cells + 1 ≤ R.cells) (hRslots : slots + 6 ≤ R.slots) (hlocks : meth.locks = false)
    (hx : ∀ t : State, s.vm.Alike t.vm → H.size ≤ t.heap.size → (∀ q : Nat, q < H.size → t.heap[q]? = H[q]?) → XC cls s t)
    (hf : ∀ z ∈ locs, free z.base) (hc : cells + 1 ≤ mc) (hs : slots + 6 ≤ ms) :
    W p l e R s m args below meth c H locs cells slots (vx_MQ below Qc XC args s mc ms free) (F0 m pc ls rest) := by
  intro T hT X
  have htr : e.platform.stackTraces = false := (show e.platform.stackTraces = l.stackTraces by rw [X.admits.platform]).trans hl
  have Y := vx_rebase X (R' := { frames := R.frames, locals := R.locals, cells := 1, slots := 6 }) (Nat.le_refl _) (Nat.le_refl _) hRcells hRslots
  obtain ⟨s', hA⟩ : ∃ z, z = (T.setVm s.vm).setFrames (.invoking m args :: below) := ⟨_, rfl⟩
  rw [← hA] at Y
  have hvm : s'.vm = s.vm := by rw [hA]; rfl
  have hhp : s'.heap = H := by rw [hA]; exact hT
  have hW0 : s.WarmedH s'.vm := by rw [hvm]; exact State.WarmedH.refl s
  have hat' : ∀ w ∈ vx_atS own ic cls names, w.before args s' = true := fun w hw => vx_ot_at hW0 hvm.symm (hgood w (List.mem_cons_of_mem _ (List.mem_cons_of_mem _ hw))) (hat w hw)
  have hk' : (Cond.classLink own ik cls).before args s' = true := vx_ot_at hW0 hvm.symm (hgood _ List.mem_cons_self) hk
  have hini' : (Cond.initialized cls).before args s' = true := vx_ot_at hW0 hvm.symm (hgood _ (List.mem_cons_of_mem _ List.mem_cons_self)) hini
  have hU' : vx_Zq Bundle.tN "UNASSIGNED_STACK" Bundle.steD A s' s'.heap := by rw [hhp]; exact vx_Zq.moved hW0.alike (hU.kept hS.2.1)
  have hN' : vx_Zq Bundle.tN "SUPPRESSED_SENTINEL" Bundle.listD A s' s'.heap := by rw [hhp]; exact vx_Zq.moved hW0.alike (hN.kept hS.2.1)
  have h : ∀ w ∈ Bundle.ownAtoms own ic cls names, w.before args s' = true := vx_own hat' (vx_isRefq hU'.1) (vx_isRefq hN'.1) hU'.2.word hN'.2.word
  have hown' : s'.vm.findClass own = some m.cls := by rw [hvm]; exact hown
  have hins : (Cond.instantiable cls 6).before args s' = true := h _ (by simp [Bundle.ownAtoms])
  obtain ⟨vm₁, cX, kX, hfX, hkX, -, -, X₁, st1⟩ := Y.newCold hexec (own := own) (C := cls) (index := ik) (n := 6) hown' hk' hins hini'
    (g := F0 m pc ls rest) rfl (by rw [hb]; exact d0) (Nat.le_refl _) (Nat.le_refl _)
  generalize hT1 : (T.setVm vm₁).pushCell { cls := cX, slots := kX.instanceTypes.map defaultValue, vm := .none } = T1 at X₁ st1
  have hcat : (Value.ref T.heap.size).category = 1 := rfl
  have hcellA : T1.heap[T.heap.size]? = some (freshCell cX kX) := by rw [← hT1]; exact State.heap_pushCell_size _ _
  have d3' : decode c.code (pc + 3) = .ok (.dup, 1) := by rw [hb]; exact d3
  have d4' : decode c.code (pc + 4) = .ok (.ldc_w is, 3) := by rw [hb]; exact d4
  have hstr' : vk_R own is text sa s' := vk_R.warm hW0 hstr
  obtain ⟨U, hsteps, hrun, hend, hW, hsame, ce, hce, hO⟩ := X₁.ctorThrowS hexec htr (own := own) (cls := cls) (names := names) (ic := ic) hown' hcls hnames h (fun x hx => nomatch hx) hfX hkX hcellA (by rw [hhp, hT]; exact Nat.le_refl _) (msg := .ref sa) rfl
    (g := { method := m, pc := pc + 7, locals := ls, stack := .ref sa :: .ref T.heap.size :: .ref T.heap.size :: rest, locked := none }) rfl hsize rfl rfl (rest := rest) rfl
    (by rw [hb]; exact d7) (by rw [hb]; exact d10) hout hRframes (by simp only [List.map_cons, List.sum_cons, hcat]; omega) hlocks
  obtain ⟨f1, f2⟩ := vx_frame hsame
  rw [hhp] at f1 f2
  have hWs : s.WarmedH U.vm := State.WarmedH.trans hW0 hW
  have hcl : s.vm.findClass cls = some ce.cls := by
    have h9 := hO.cls
    rw [hvm] at h9
    exact h9
  have hall : s.sameButNew ({ U with vm := s.vm } : State) locs mc ms := by
    subst hA
    obtain ⟨e1, e2⟩ := hsame
    rw [State.setFrames_setFrames] at e1
    have h2 : (T.setVm s.vm).sameButNew ({ U with vm := s.vm } : State) [] (0 + 1) (0 + 6) := ⟨e1, e2⟩
    have h3 := X.same.trans h2
    rw [List.append_nil] at h3
    exact h3.mono hc hs
  refine ⟨U, ?_, .threw T.heap.size, hrun, hend, Or.inr ⟨T.heap.size, rfl, cls, ce, locs, hx U hWs.alike f1 (fun q hq => f2 q hq (fun z hz => nomatch hz)), hce, hO.vm, hcl, hWs, hall, hf⟩⟩
  refine st1 _ ?_
  show Steps p.tables e below (T1.setTop { method := m, pc := pc + 3, locals := ls, stack := .ref T.heap.size :: rest, locked := none }) _
  jvm_step X₁.here [X₁.here.top, hexec, d3', Value.category]
  exact X₁.ldcStringW hexec (own := own) (text := text) (index := is) (a := sa) hown' hstr'.1 hstr'.2
    (g := { method := m, pc := pc + 4, locals := ls, stack := .ref T.heap.size :: .ref T.heap.size :: rest, locked := none }) rfl d4' _ hsteps
end Ends
section Bodies
variable {l : Launch}
theorem vx_ofW {y : MethodName} {ws ws' : List Cond} {rm : Room} {Pc : Array Value → State → Prop} {Qc : Array Value → State → Outcome → State → Prop} {XC : String → State → State → Prop} {mc ms : Nat} {free : Addr → Prop} {cc : ByteArray} {maxL : Nat} {ret : Option FieldType}
    (hy : plainName y.cls = true) (hw : ws = Cond.code y cc maxL ret :: ws')
    (body : ∀ p e s m args below meth c s₁, BodyLoose p l y (headSpec ws rm) cc maxL ret e s m args below meth c s₁ → c.maxLocals = maxL → (∀ x ∈ c.exceptionTable.toList, False) → Pc args s →
      W p l e (headSpec ws rm).room s m args below meth c s.heap [] 0 0 (vx_MQ below Qc XC args s mc ms free) (entryFrame m args maxL)) : vx_Met l y ws rm Pc Qc XC mc ms free := by
  refine MetFree.of_bodyS (code := cc) (maxLocals := maxL) (ret := ret) hy ?_ ?_
  · intro args s m h hn
    obtain ⟨meth, c, h1, h2, h3, h4, h5, h6, -, -⟩ := Cond.code_spec hn (atoms_spec (ws := ws) h _ (by rw [hw]; exact List.mem_cons_self))
    exact ⟨meth, c, h1, h2, h3, h4, h5, h6⟩
  · intro p e s m args below meth c s₁ B hml hP _
    have hh0 : s₁.heap = s.heap := by rw [B.state]; rfl
    have ht : ∀ x ∈ c.exceptionTable.toList, False := by
      obtain ⟨meth9, c9, h1, h2, -, -, -, -, h7, -⟩ := Cond.code_spec B.named (atoms_spec (ws := ws) B.pre _ (by rw [hw]; exact List.mem_cons_self))
      cases Option.some.inj (h1.symm.trans B.method)
      cases Option.some.inj (h2.symm.trans (Stand.of_body B).code)
      intro x hx
      rw [Array.isEmpty_iff.mp h7] at hx
      cases hx
    obtain ⟨t, a1, o, b1, b2, b3⟩ := body p e s m args below meth c s₁ B hml ht hP s₁ hh0 (Stand.of_body B)
    exact ⟨t, o, a1, b1, b2, b3⟩
/-- the table of a body with handlers -/
theorem vx_table {p : Program} {x y : MethodName} {S : Spec} {cc bytes : ByteArray} {maxL maxL' : Nat} {ret ret' : Option FieldType} {e : Env} {s s₁ : State} {m : MethodId} {args : Array Value} {below : List Frame} {meth : Method} {c : Code} {hh : List (Nat × Nat × Nat × Nat)}
    (B : BodyLoose p l y S cc maxL ret e s m args below meth c s₁) (h : (Cond.codeWith y bytes maxL' ret' hh).before args s = true) : c.exceptionTable.toList = tableOf hh := by
  obtain ⟨m9, meth9, c9, hn9, h1, h2, -, -, h6, -⟩ := Cond.codeWith_spec h
  cases Option.some.inj (hn9.symm.trans B.named)
  cases Option.some.inj (h1.symm.trans B.method)
  cases Option.some.inj (h2.symm.trans (Stand.of_body B).code)
  rw [← h6, table_eq]
end Bodies
end VXA
/-! ===== END ===== -/
/-! ===== BEGIN a static call of a method with an exception table ===== -/
section VXS
variable {p : Program} {l : Launch} {e : Env} {R : Room} {s : State} {m : MethodId} {args : Array Value} {below : List Frame} {meth : Method} {c : Code} {T : State} {H : Heap} {locs : List Loc} {cells slots : Nat}
abbrev vx_CSW (R : Room) (s : State) (args : Array Value) (own : String) (index : Nat) (y : MethodName) (bytes : ByteArray) (maxL : Nat) (ret : Option FieldType) (hh : List (Nat × Nat × Nat × Nat)) (ws : List Cond) (rm : Room) (mc ms n : Nat) : Prop :=
  (rm.cells = mc ∧ rm.slots = ms ∧ rm.frames + 1 ≤ R.frames ∧ 8 + (maxL + 11) + rm.locals ≤ R.locals ∧ (∀ w ∈ ws, ∀ (a' : Array Value) (U : State), s.WarmedH U.vm → w.before a' U = true) ∧ Cond.codeWith y bytes maxL ret hh ∈ ws) ∧
  (Cond.codeWith y bytes maxL ret hh).before args s = true ∧ (Cond.initialized y.cls).before args s = true ∧ (y.cls ≠ "java/lang/invoke/MethodHandle" ∧ y.cls ≠ "java/lang/invoke/VarHandle") ∧
  (∀ sig, parseMethodDescriptor y.desc = some sig → n = sig.parameters.length) ∧ (Cond.methodLink own index y).before args s = true ∧ (Cond.static y).before args s = true
theorem vx_cwSW {own : String} {index maxL mc ms : Nat} {y : MethodName} {bytes : ByteArray} {ret : Option FieldType} {hh : List (Nat × Nat × Nat × Nat)} {Ts ws ws' : List Cond} {rm : Room} (n : Nat) (ht : ∀ w ∈ Ts, w.before args s = true) (hT : GoodIn Ts (va_wsS own index y ws)) (hw : ws = Cond.codeWith y bytes maxL ret hh :: ws') (hrc : rm.cells = mc) (hrs : rm.slots = ms)
    (hd : y.cls ≠ "java/lang/invoke/MethodHandle" ∧ y.cls ≠ "java/lang/invoke/VarHandle" ∧ (parseMethodDescriptor y.desc).map (fun d => d.parameters.length) = some n) (hR : rm.frames + 1 ≤ R.frames ∧ 8 + (maxL + 11) + rm.locals ≤ R.locals) :
    vx_CSW R s args own index y bytes maxL ret hh ws rm mc ms n := by
  have ok : ∀ w ∈ va_wsS own index y ws, w.before args s = true := fun w h => ht w (hT w h).1
  have hG : GoodIn Ts ws := fun w h => hT w (by unfold va_wsS; exact List.mem_append_right _ h)
  have hc : Cond.codeWith y bytes maxL ret hh ∈ ws := by rw [hw]; exact List.mem_cons_self
  refine ⟨⟨hrc, hrs, hR.1, hR.2, pay_in ht hG, hc⟩, ht _ (hG _ hc).1, ok _ (by simp [va_wsS]), ⟨hd.1, hd.2.1⟩, fun sig h => ?_, ok _ (by simp [va_wsS]), ok _ (by simp [va_wsS])⟩
  have h2 := hd.2.2
  rw [h] at h2
  exact (Option.some.inj h2).symm
theorem vx_callSW (X : Stand p l e R s m args below meth c T locs cells slots) (hexec : p.tables.exec = Jvm.exec) {own : String} {index : Nat} {y : MethodName} {bytes : ByteArray} {maxL : Nat} {ret : Option FieldType} {hh : List (Nat × Nat × Nat × Nat)}
    (hown : s.vm.findClass own = some m.cls) (hlink : (Cond.methodLink own index y).before args s = true) (hstat : (Cond.static y).before args s = true) (hinit : (Cond.initialized y.cls).before args s = true)
    (hcode : (Cond.codeWith y bytes maxL ret hh).before args s = true) (hy : y.cls ≠ "java/lang/invoke/MethodHandle" ∧ y.cls ≠ "java/lang/invoke/VarHandle")
    {W9 : Nat} {Pre : Pt → Array Value → Prop} {Post : Pt → Array Value → Option Value → Pt → Prop} (hK : Back l R p e below s args y 3 W9 Pre Post)
    {g : JFrame} (hg : g.method = m) (hsize : g.locals.size = c.maxLocals) {argsL rest : List Value} (hlen : ∀ sig, parseMethodDescriptor y.desc = some sig → argsL.length = sig.parameters.length)
    (hstack : g.stack = argsL.reverse ++ rest) (hW : 2 * g.monitorRoom + (rest.map fun v => v.category).sum ≤ W9) (hdg : decode c.code g.pc = .ok (.invokestatic index, 3))
    (hpre : ∀ vm₁, s.WarmedH vm₁ → Pre ⟨T.setVm vm₁, locs, cells, slots⟩ argsL.toArray) :
    ∃ (v : Option Value) (vm₁ : Vm) (B : Pt), s.WarmedH vm₁ ∧ Stand p l e R s m args below meth c B.U B.locs B.cells B.slots ∧ Post ⟨T.setVm vm₁, locs, cells, slots⟩ argsL.toArray v B ∧
      ∀ target, Steps p.tables e below (B.U.setTop { g with pc := g.pc + 3, stack := v.toList ++ rest }) target → Steps p.tables e below (T.setTop g) target := by
  obtain ⟨mk, methM, cM, hnamed, hmethM, -, -, -, -, -, -, hsigM⟩ := Cond.codeWith_spec hcode
  have hstatic : methM.isStatic = true := Cond.static_spec hnamed hmethM hstat
  obtain ⟨kP, hkP, -⟩ := className_of_methodNamed hnamed
  have hinitP : kP.init = .initialized := Cond.initialized_spec (findClass_of_methodNamed hnamed) hkP hinit
  obtain ⟨vm₁, X₁, hstep₁⟩ := X.invokestatic hexec hown hlink hnamed hmethM hstatic hkP hinitP hy (g := g) hg (argsL := argsL) (rest := rest) (hlen _ hsigM) hstack hdg
  obtain ⟨v, B, X', hpost, hsteps⟩ := hK m meth c ⟨T.setVm vm₁, locs, cells, slots⟩ { g with stack := rest } (.invokestatic index) mk argsL.toArray X₁ hg hsize hdg hW (X₁.named hnamed) (hpre vm₁ X₁.warmed)
  exact ⟨v, vm₁, B, X₁.warmed, X', hpost, fun target h => hstep₁ _ fun acts => by rw [doInvoke_state]; exact hsteps.trans h⟩
theorem vx_runSW {y : MethodName} {bytes cc : ByteArray} {maxL nL mc ms n index : Nat} {ret : Option FieldType} {hh : List (Nat × Nat × Nat × Nat)} {ws : List Cond} {rm : Room} {Pc : Array Value → State → Prop} {Qc : Array Value → State → Outcome → State → Prop} {free : Addr → Prop} {Ts : List Cond} {own : String} {As rest : List Value} {g : JFrame}
    (S : CallFix p m c cc nL s args Ts own) (hM : Met l y ws rm Pc Qc mc ms free) (cw : vx_CSW R s args own index y bytes maxL ret hh ws rm mc ms n) (hp : PreS s H Pc As)
    (hg : g.method = m) (hn : As.length = n) (hsize : g.locals.size = nL) (hstack : g.stack = As.reverse ++ rest) (hW : 2 * g.monitorRoom + (rest.map fun v => v.category).sum ≤ 8) (hdg : decode cc g.pc = .ok (.invokestatic index, 3)) (hf : cells + mc ≤ R.cells ∧ slots + ms ≤ R.slots) :
    va_Run p l e R s m args below meth c H locs cells slots mc ms g rest (Qc As.toArray) (free) := by
  obtain ⟨⟨hrc, hrs, hfr, hlo, hws, hcw⟩, hcode, hini, hy, hlen, hl, hstt⟩ := cw
  have hK : Back l R p e below s args y 3 8 (PreOf R mc ms Pc) (PostOf Qc mc ms free) := va_backW (hh := hh) (bytes := bytes) (maxL := maxL) (ret := ret) hM hp.1 hrc hrs hfr hlo hws hcw (fun a' U hW => word_at hW (Or.inl (by first | rfl | simp [Cond.onTables, Cond.keeps, Cond.steady])) hini)
  obtain ⟨hx, hb, hml, ho, -⟩ := S
  intro T hT X
  obtain ⟨v, vm₁, ⟨U', l2, c2, s2⟩, hW₁, X', ⟨g', mk, t, L, e1, e2, hq, h1, hL, h2, h3⟩, st⟩ := vx_callSW X hx (hh := hh) (bytes := bytes) (maxL := maxL) (ret := ret) ho hl hstt hini hcode hy hK hg (hsize.trans hml.symm) (argsL := As) (rest := rest) (fun sig h => hn.trans (hlen sig h)) hstack hW (by rw [hb]; exact hdg)
    (fun vm₁ hW₁ => ⟨hf.1, hf.2, hp.2 (T.setVm vm₁) hT hW₁⟩)
  dsimp only [Pt.U, Pt.locs, Pt.cells, Pt.slots] at X' e1 e2 h1 h2 h3 st
  subst h1; subst h2; subst h3
  exact ⟨v, (T.setVm vm₁).calling g' mk As.toArray, t, U', L, hT, X', hL, e1, e2, hq, st⟩
/-- not caught here, past rows that name other classes: it goes on to the caller -/
theorem vx_outP {p : Program} {l : Launch} {e : Env} {R : Room} {s : State} {m : MethodId} {args : Array Value} {below : List Frame} {meth : Method} {c : Code} {H : Heap} {locs : List Loc} {cells slots : Nat} {free : Addr → Prop} {ls : Array Slot} {rest : List Value} {Qc : Array Value → State → Outcome → State → Prop} {XC : String → State → State → Prop}
    {pc : Nat} {own E : String} {ce : Cell} {q : Addr} {mc ms : Nat} (hown : s.vm.findClass own = some m.cls) (hlocks : meth.locks = false)
    (hpass : ∀ z ∈ c.exceptionTable.toList, covers z pc = false ∨ (z.catchType ≠ 0 ∧ ∃ nm : String, (Cond.classLink own z.catchType nm).before args s = true ∧ va_Nc E nm s)) (hcell : H[q]? = some ce) (hv : ce.vm = .none) (hcl : s.vm.findClass E = some ce.cls)
    (hx : ∀ t : State, t.heap = H → s.vm.Alike t.vm → XC E s t) (hf : ∀ z ∈ locs, free z.base) (hc : cells ≤ mc) (hs : slots ≤ ms) :
    vx_W p l e R s m args below meth c H locs cells slots (vx_MQ below Qc XC args s mc ms free) (F0 m pc ls rest) q := by
  intro T hT X
  have hpl : e.platform.magicAccessors = ({} : Platform).magicAccessors := by rw [X.admits.platform]
  obtain ⟨vm', hW', X', st⟩ := X.outThrough hlocks q (g := F0 m pc ls rest) rfl rfl rfl (cell := ce) (by rw [hT]; exact hcell) (by rw [hv]; rfl)
    (by obtain ⟨k9, h9, -⟩ := Vm.findClass_spec hcl; exact ⟨k9, h9⟩) (fun z hz => by
      rcases hpass z hz with h | ⟨hz0, nm, hl1, hn1⟩
      · exact Or.inl h
      · obtain ⟨c6, hc6, hcl6⟩ := Cond.classLink_spec hown hl1 e.platform hpl
        obtain ⟨a8, b8, h1, h2, h3⟩ := hn1
        cases Option.some.inj (h1.symm.trans hcl)
        cases Option.some.inj (h2.symm.trans hc6)
        exact Or.inr ⟨hz0, _, hcl6, h3⟩)
  obtain ⟨g₀, hfr⟩ := X'.frames_eq
  have hcell9 : ((T.setVm vm').setFrames (.throwing q :: below)).heap[q]? = some ce := by
    show T.heap[q]? = some ce
    rw [hT]; exact hcell
  have hend : Ended ((T.setVm vm').setFrames (.throwing q :: below)) below (.threw q) := State.frames_setFrames _ (State.cur_lt_of_frames hfr)
  refine ⟨(T.setVm vm').setFrames (.throwing q :: below), ?_, .threw q, X'.here.running, hend, Or.inr ⟨q, rfl, E, ce, locs, hx _ hT (X'.ends _).1.alike, hcell9, hv, hcl, (X'.ends _).1, (X'.ends _).2.mono hc hs, hf⟩⟩
  rw [X.pushThrowing_eq]
  exact st
/-- a thing of a world lies in the heap -/
theorem vx_lt {D : va_G} {cl : List vw_C} {ws : va_W} {H1 : Heap} (h : va_P D cl ws H1) {k : Nat} {q : Nat × va_E} (hk : ws[k]? = some q) : q.1 < H1.size := (h k q hk).lt
end VXS
/-! ===== END ===== -/
/-! ===== BEGIN methods with a table of their own: called by a name, returning or throwing ===== -/
section VXH
/-! vx_backW, vx_callVX, vx_callSX, vx_callVW, vx_runVW, vx_runVX, vx_runSX, vx_ofWH follow the same proofs as their sisters above (Free/Laws.lean, Shelf42/LK1.lean); vx_outP calls Shelf42/NT130.lean (outThrough). -/
section
variable {l : Launch} {R : Room} {p : Program} {e : Env} {below : List Frame} {s : State} {sargs : Array Value} {y : MethodName} {len W9 : Nat}
theorem vx_backW {ws : List Cond} {rm : Room} {Pc : Array Value → State → Prop} {Qc : Array Value → State → Outcome → State → Prop} {XC : String → State → State → Prop} {mc ms : Nat} {free : Addr → Prop} {bytes : ByteArray} {maxL : Nat} {ret : Option FieldType} {hh : List (Nat × Nat × Nat × Nat)}
    (hM : vx_Met l y ws rm Pc Qc XC mc ms free) (hblind : FrameBlind Pc) (hrc : rm.cells = mc) (hrs : rm.slots = ms)
    (hframes : rm.frames + 1 ≤ R.frames) (hlocals : W9 + (maxL + 11) + rm.locals ≤ R.locals)
    (hws : ∀ w ∈ ws, ∀ a' U, s.WarmedH U.vm → w.before a' U = true) (hcode : Cond.codeWith y bytes maxL ret hh ∈ ws) (hinit : ∀ a' U, s.WarmedH U.vm → (Cond.initialized y.cls).before a' U = true) :
    vx_Back l R p e below s sargs y len W9 (PreOf R mc ms Pc) (PostOf Qc mc ms free) (vx_Post XC mc ms free) := by
  intro m meth c A g ig mk a X hg hsize hdg hW hn hp
  have h1 : (headSpec ws rm).pre.before a A.U = true := atoms_intro fun w hw => hws w hw _ _ X.warmed
  have h2 : (Cond.codeWith y bytes maxL ret hh).before a A.U = true := hws _ hcode _ _ X.warmed
  have h3 : (Cond.initialized y.cls).before a A.U = true := hinit _ _ X.warmed
  have h4 : A.cells + (headSpec ws rm).room.cells ≤ R.cells := by rw [show (headSpec ws rm).room.cells = mc from hrc]; exact hp.1
  have h5 : A.slots + (headSpec ws rm).room.slots ≤ R.slots := by rw [show (headSpec ws rm).room.slots = ms from hrs]; exact hp.2.1
  have hPc : Pc a (A.U.calling g mk a) := hblind _ _ _ _ hp.2.2
  obtain ⟨U, Ls, c0, s0⟩ := A
  dsimp only [Pt.U, Pt.locs, Pt.cells, Pt.slots] at h1 h2 h3 h4 h5 X hn hPc ⊢
  obtain ⟨m9, methY, cY, hn9, hmY, hcY, -, hlY, -⟩ := Cond.codeWith_spec h2
  cases Option.some.inj (hn9.symm.trans hn)
  obtain ⟨kY, hkY, -⟩ := className_of_methodNamed hn
  have hinitY : kY.init = .initialized := Cond.initialized_spec (findClass_of_methodNamed hn) hkY h3
  have h : At U g.method c below := by rw [hg]; exact X.here
  have hlocals9 : W9 + (maxL + 11) + (headSpec ws rm).room.locals ≤ R.locals := hlocals
  have happ : (headSpec ws rm).appliesLoose y e.platform (U.calling g mk a) = true :=
    Spec.appliesLoose_calling (g := g) h hdg hn hkY hinitY
      (X.room_calling (g := g) (R' := (headSpec ws rm).room) hsize hmY hcY hframes (by rw [hlY]; omega) h4 h5) h1
  obtain ⟨mid, hmid⟩ := h.above
  have hfr : (U.setTop g).frames = (.java g :: mid) ++ below := by rw [State.frames_setTop' g h.top, hmid]; rfl
  obtain ⟨o, s₂, hsteps, -, hend, hq⟩ := Steps.callFree hM p X.admits X.cas X.clock (acts := []) hfr happ hPc trivial
  have hq' : vx_Q Qc XC mc ms free a (U.calling g mk a) o s₂ := hq
  rw [State.frames_setTop' g h.top] at hend
  obtain ⟨g₀, hg0⟩ := Option.isSome_iff_exists.mp h.top
  obtain ⟨r, hr⟩ := State.topJava?_eq_some.mp hg0
  have hr' : (({ U with heap := s₂.heap, slotsUsed := s₂.slotsUsed } : State).setVm s₂.vm).frames = .java g₀ :: r := hr
  rcases hq' with ⟨hqc, L, hfe, hL⟩ | ⟨q, rfl, E, ce, L, hx, hce, hcv, hcl, hW₂, hsm, hL⟩
  · obtain ⟨⟨v, rfl⟩, hW₂, e2, q2, q3, q4, q5, q6⟩ := id hfe
    have e3 : s₂ = ({ (U.calling g mk a).setFrames s₂.frames with heap := s₂.heap, slotsUsed := s₂.slotsUsed } : State).setVm s₂.vm := by
      have : s₂ = ({ s₂ with vm := (U.calling g mk a).vm } : State).setVm s₂.vm := rfl
      rw [e2] at this
      exact this
    obtain ⟨c₂, i₂, len₂, hc₂, hd₂, hf₂⟩ := hend
    have hW' : U.WarmedH s₂.vm := hW₂
    have hcc : c₂ = c := by
      have h1 : s₂.code? g.method = U.code? g.method := by
        rw [State.code?_eq, State.code?_eq, hW'.alike.method?]
      exact Option.some.inj (hc₂.symm.trans (h1.trans h.code))
    subst hcc
    have hlen : len₂ = len := by rw [hdg] at hd₂; cases hd₂; rfl
    subst hlen
    have hs₂ : s₂ = (({ U with heap := s₂.heap, slotsUsed := s₂.slotsUsed } : State).setVm s₂.vm).setTop { g with pc := g.pc + len₂, stack := v.toList ++ g.stack } := by
      refine e3.trans ?_
      rw [hf₂, State.calling_eq h.top, State.setFrames_setFrames, State.setTop_of_frames _ hr', hr]
      rfl
    have hsame : U.sameButNew ({ U with heap := s₂.heap, slotsUsed := s₂.slotsUsed } : State) L mc ms := by
      refine ⟨?_, q2, q3, q4, q5, q6⟩
      obtain ⟨t, ht, -⟩ := State.frames_cons hr
      show ({ U with heap := s₂.heap, slotsUsed := s₂.slotsUsed } : State) = { U.setFrames U.frames with heap := s₂.heap, slotsUsed := s₂.slotsUsed }
      rw [State.setFrames_self ht]
    subst hg
    refine Or.inl ⟨v, ⟨(({ U with heap := s₂.heap, slotsUsed := s₂.slotsUsed } : State).setVm s₂.vm), Ls ++ L, c0 + mc, s0 + ms⟩,
      ⟨X.admits, X.cas, X.clock, X.frames, X.room, X.hears, X.method, X.code, (X.here.setHeapUsed s₂.heap s₂.slotsUsed).setVm hW'.alike, X.tail, State.WarmedH.trans X.warmed hW', X.limits, X.bytes, X.same.trans (hsame.setVm s.vm)⟩,
      ⟨g, mk, s₂, L, rfl, rfl, hqc, rfl, hL, rfl, rfl⟩, ?_⟩
    show Steps p.tables e below _ ((({ U with heap := s₂.heap, slotsUsed := s₂.slotsUsed } : State).setVm s₂.vm).setTop { g with pc := g.pc + len₂, stack := v.toList ++ g.stack })
    rw [← hs₂]
    exact hsteps
  · obtain ⟨e2, q2, q3, q4, q5, q6⟩ := id hsm
    have e3 : s₂ = ({ (U.calling g mk a).setFrames s₂.frames with heap := s₂.heap, slotsUsed := s₂.slotsUsed } : State).setVm s₂.vm := by
      have : s₂ = ({ s₂ with vm := (U.calling g mk a).vm } : State).setVm s₂.vm := rfl
      rw [e2] at this
      exact this
    have hf₂ : s₂.frames = .throwing q :: .java g :: U.frames.tail := hend
    have hW' : U.WarmedH s₂.vm := hW₂
    have hs₂ : s₂ = ((({ U with heap := s₂.heap, slotsUsed := s₂.slotsUsed } : State).setVm s₂.vm).setTop g).pushFrame (.throwing q) := by
      refine e3.trans ?_
      rw [hf₂, State.calling_eq h.top, State.setFrames_setFrames, State.pushFrame, State.frames_setTop _ hr', State.setTop_of_frames _ hr', State.setFrames_setFrames, hr]
      rfl
    have hsame : U.sameButNew ({ U with heap := s₂.heap, slotsUsed := s₂.slotsUsed } : State) L mc ms := by
      refine ⟨?_, q2, q3, q4, q5, q6⟩
      obtain ⟨t, ht, -⟩ := State.frames_cons hr
      show ({ U with heap := s₂.heap, slotsUsed := s₂.slotsUsed } : State) = { U.setFrames U.frames with heap := s₂.heap, slotsUsed := s₂.slotsUsed }
      rw [State.setFrames_self ht]
    subst hg
    refine Or.inr ⟨q, ⟨(({ U with heap := s₂.heap, slotsUsed := s₂.slotsUsed } : State).setVm s₂.vm), Ls ++ L, c0 + mc, s0 + ms⟩,
      ⟨X.admits, X.cas, X.clock, X.frames, X.room, X.hears, X.method, X.code, (X.here.setHeapUsed s₂.heap s₂.slotsUsed).setVm hW'.alike, X.tail, State.WarmedH.trans X.warmed hW', X.limits, X.bytes, X.same.trans (hsame.setVm s.vm)⟩,
      ⟨g, mk, s₂, L, E, ce, rfl, rfl, hx, hce, hcv, hcl, rfl, hL, rfl, rfl⟩, ?_⟩
    show Steps p.tables e below _ (((({ U with heap := s₂.heap, slotsUsed := s₂.slotsUsed } : State).setVm s₂.vm).setTop g).pushFrame (.throwing q))
    rw [← hs₂]
    exact hsteps
end
variable {p : Program} {l : Launch} {e : Env} {R : Room} {s : State} {m : MethodId} {args : Array Value} {below : List Frame} {meth : Method} {c : Code} {T : State} {H : Heap} {locs : List Loc} {cells slots : Nat}
theorem vx_callVX (X : Stand p l e R s m args below meth c T locs cells slots) (hexec : p.tables.exec = Jvm.exec) {own C : String} {index : Nat} {y : MethodName} {bytes : ByteArray} {maxL : Nat} {ret : Option FieldType} {hh : List (Nat × Nat × Nat × Nat)}
    (hown : s.vm.findClass own = some m.cls) (hlink : (Cond.methodLink own index y).before args s = true) (hinst : (Cond.instanceMethod y).before args s = true) (hsel : (Cond.selects C y y).before args s = true)
    (hcode : (Cond.codeWith y bytes maxL ret hh).before args s = true) (hy : y.cls ≠ "java/lang/invoke/MethodHandle" ∧ y.cls ≠ "java/lang/invoke/VarHandle")
    {W9 : Nat} {Pre : Pt → Array Value → Prop} {Post : Pt → Array Value → Option Value → Pt → Prop} {PostX : Pt → Array Value → Addr → Pt → Prop} (hK : vx_Back l R p e below s args y 3 W9 Pre Post PostX)
    {b : Addr} {cellB : Cell} (hcell : T.heap[b]? = some cellB) (hobj : cellB.vm.isStatics = false) (hcls : s.vm.findClass C = some cellB.cls)
    {g : JFrame} (hg : g.method = m) (hsize : g.locals.size = c.maxLocals) {argsL rest : List Value} (hlen : ∀ sig, parseMethodDescriptor y.desc = some sig → argsL.length = sig.parameters.length)
    (hstack : g.stack = argsL.reverse ++ .ref b :: rest) (hW : 2 * g.monitorRoom + (rest.map fun v => v.category).sum ≤ W9) (hdg : decode c.code g.pc = .ok (.invokevirtual index, 3))
    (hpre : ∀ vm₁, s.WarmedH vm₁ → Pre ⟨T.setVm vm₁, locs, cells, slots⟩ (Value.ref b :: argsL).toArray) :
    (∃ (v : Option Value) (vm₁ : Vm) (B : Pt), s.WarmedH vm₁ ∧ Stand p l e R s m args below meth c B.U B.locs B.cells B.slots ∧ Post ⟨T.setVm vm₁, locs, cells, slots⟩ (Value.ref b :: argsL).toArray v B ∧
      ∀ target, Steps p.tables e below (B.U.setTop { g with pc := g.pc + 3, stack := v.toList ++ rest }) target → Steps p.tables e below (T.setTop g) target) ∨
    (∃ (q : Addr) (vm₁ : Vm) (B : Pt), s.WarmedH vm₁ ∧ Stand p l e R s m args below meth c B.U B.locs B.cells B.slots ∧ PostX ⟨T.setVm vm₁, locs, cells, slots⟩ (Value.ref b :: argsL).toArray q B ∧
      Steps p.tables e below (T.setTop g) ((B.U.setTop { g with stack := rest }).pushFrame (.throwing q))) := by
  obtain ⟨mk, methM, hnamed, hmethM, hstM, habM⟩ := Cond.instanceMethod_spec hinst
  obtain ⟨m8, methM', cM, hn8, hmethM', -, -, -, -, -, -, hsigM⟩ := Cond.codeWith_spec hcode
  cases Option.some.inj (hn8.symm.trans hnamed)
  cases hmethM.symm.trans hmethM'
  obtain ⟨c2, r2, m2, q1, q2, q3, q4, kP, hkP, hkPi⟩ := Cond.selects_spec hsel
  cases hcls.symm.trans q1
  cases (State.methodFound?_of_named hnamed hy).symm.trans q2
  cases hnamed.symm.trans q3
  have hselP : selectMethod e.platform s.vm cellB.cls mk = .method mk := by rw [Launch.admits_selectMethod X.admits]; exact q4
  obtain ⟨vm₁, X₁, hstep₁⟩ := X.invokevirtual hexec hown hlink hnamed hmethM hstM hkP hkPi hy (a := b) (cell := cellB) hcell
    (fun z h => by rw [h] at hobj; cases hobj) hselP hmethM habM hkP hkPi (g := g) hg (argsL := argsL) (rest := rest) (hlen _ hsigM) hstack hdg
  rcases hK m meth c ⟨T.setVm vm₁, locs, cells, slots⟩ { g with stack := rest } (.invokevirtual index) mk (Value.ref b :: argsL).toArray X₁ hg hsize hdg hW (X₁.named hnamed) (hpre vm₁ X₁.warmed) with ⟨v, B, X', hpost, hsteps⟩ | ⟨q, B, X', hpost, hsteps⟩
  · exact Or.inl ⟨v, vm₁, B, X₁.warmed, X', hpost, fun target h => hstep₁ _ fun acts => by rw [doInvoke_state]; exact hsteps.trans h⟩
  · exact Or.inr ⟨q, vm₁, B, X₁.warmed, X', hpost, hstep₁ _ fun acts => by rw [doInvoke_state]; exact hsteps⟩
theorem vx_callSX (X : Stand p l e R s m args below meth c T locs cells slots) (hexec : p.tables.exec = Jvm.exec) {own : String} {index : Nat} {y : MethodName} {bytes : ByteArray} {maxL : Nat} {ret : Option FieldType} {hh : List (Nat × Nat × Nat × Nat)}
    (hown : s.vm.findClass own = some m.cls) (hlink : (Cond.methodLink own index y).before args s = true) (hstat : (Cond.static y).before args s = true) (hinit : (Cond.initialized y.cls).before args s = true)
    (hcode : (Cond.codeWith y bytes maxL ret hh).before args s = true) (hy : y.cls ≠ "java/lang/invoke/MethodHandle" ∧ y.cls ≠ "java/lang/invoke/VarHandle")
    {W9 : Nat} {Pre : Pt → Array Value → Prop} {Post : Pt → Array Value → Option Value → Pt → Prop} {PostX : Pt → Array Value → Addr → Pt → Prop} (hK : vx_Back l R p e below s args y 3 W9 Pre Post PostX)
    {g : JFrame} (hg : g.method = m) (hsize : g.locals.size = c.maxLocals) {argsL rest : List Value} (hlen : ∀ sig, parseMethodDescriptor y.desc = some sig → argsL.length = sig.parameters.length)
    (hstack : g.stack = argsL.reverse ++ rest) (hW : 2 * g.monitorRoom + (rest.map fun v => v.category).sum ≤ W9) (hdg : decode c.code g.pc = .ok (.invokestatic index, 3))
    (hpre : ∀ vm₁, s.WarmedH vm₁ → Pre ⟨T.setVm vm₁, locs, cells, slots⟩ argsL.toArray) :
    (∃ (v : Option Value) (vm₁ : Vm) (B : Pt), s.WarmedH vm₁ ∧ Stand p l e R s m args below meth c B.U B.locs B.cells B.slots ∧ Post ⟨T.setVm vm₁, locs, cells, slots⟩ argsL.toArray v B ∧
      ∀ target, Steps p.tables e below (B.U.setTop { g with pc := g.pc + 3, stack := v.toList ++ rest }) target → Steps p.tables e below (T.setTop g) target) ∨
    (∃ (q : Addr) (vm₁ : Vm) (B : Pt), s.WarmedH vm₁ ∧ Stand p l e R s m args below meth c B.U B.locs B.cells B.slots ∧ PostX ⟨T.setVm vm₁, locs, cells, slots⟩ argsL.toArray q B ∧
      Steps p.tables e below (T.setTop g) ((B.U.setTop { g with stack := rest }).pushFrame (.throwing q))) := by
  obtain ⟨mk, methM, cM, hnamed, hmethM, -, -, -, -, -, -, hsigM⟩ := Cond.codeWith_spec hcode
  have hstatic : methM.isStatic = true := Cond.static_spec hnamed hmethM hstat
  obtain ⟨kP, hkP, -⟩ := className_of_methodNamed hnamed
  have hinitP : kP.init = .initialized := Cond.initialized_spec (findClass_of_methodNamed hnamed) hkP hinit
  obtain ⟨vm₁, X₁, hstep₁⟩ := X.invokestatic hexec hown hlink hnamed hmethM hstatic hkP hinitP hy (g := g) hg (argsL := argsL) (rest := rest) (hlen _ hsigM) hstack hdg
  rcases hK m meth c ⟨T.setVm vm₁, locs, cells, slots⟩ { g with stack := rest } (.invokestatic index) mk argsL.toArray X₁ hg hsize hdg hW (X₁.named hnamed) (hpre vm₁ X₁.warmed) with ⟨v, B, X', hpost, hsteps⟩ | ⟨q, B, X', hpost, hsteps⟩
  · exact Or.inl ⟨v, vm₁, B, X₁.warmed, X', hpost, fun target h => hstep₁ _ fun acts => by rw [doInvoke_state]; exact hsteps.trans h⟩
  · exact Or.inr ⟨q, vm₁, B, X₁.warmed, X', hpost, hstep₁ _ fun acts => by rw [doInvoke_state]; exact hsteps⟩
theorem vx_callVW (X : Stand p l e R s m args below meth c T locs cells slots) (hexec : p.tables.exec = Jvm.exec) {own C : String} {index : Nat} {y : MethodName} {bytes : ByteArray} {maxL : Nat} {ret : Option FieldType} {hh : List (Nat × Nat × Nat × Nat)}
    (hown : s.vm.findClass own = some m.cls) (hlink : (Cond.methodLink own index y).before args s = true) (hinst : (Cond.instanceMethod y).before args s = true) (hsel : (Cond.selects C y y).before args s = true)
    (hcode : (Cond.codeWith y bytes maxL ret hh).before args s = true) (hy : y.cls ≠ "java/lang/invoke/MethodHandle" ∧ y.cls ≠ "java/lang/invoke/VarHandle")
    {W9 : Nat} {Pre : Pt → Array Value → Prop} {Post : Pt → Array Value → Option Value → Pt → Prop} (hK : Back l R p e below s args y 3 W9 Pre Post)
    {b : Addr} {cellB : Cell} (hcell : T.heap[b]? = some cellB) (hobj : cellB.vm.isStatics = false) (hcls : s.vm.findClass C = some cellB.cls)
    {g : JFrame} (hg : g.method = m) (hsize : g.locals.size = c.maxLocals) {argsL rest : List Value} (hlen : ∀ sig, parseMethodDescriptor y.desc = some sig → argsL.length = sig.parameters.length)
    (hstack : g.stack = argsL.reverse ++ .ref b :: rest) (hW : 2 * g.monitorRoom + (rest.map fun v => v.category).sum ≤ W9) (hdg : decode c.code g.pc = .ok (.invokevirtual index, 3))
    (hpre : ∀ vm₁, s.WarmedH vm₁ → Pre ⟨T.setVm vm₁, locs, cells, slots⟩ (Value.ref b :: argsL).toArray) :
    ∃ (v : Option Value) (vm₁ : Vm) (B : Pt), s.WarmedH vm₁ ∧ Stand p l e R s m args below meth c B.U B.locs B.cells B.slots ∧ Post ⟨T.setVm vm₁, locs, cells, slots⟩ (Value.ref b :: argsL).toArray v B ∧
      ∀ target, Steps p.tables e below (B.U.setTop { g with pc := g.pc + 3, stack := v.toList ++ rest }) target → Steps p.tables e below (T.setTop g) target := by
  obtain ⟨mk, methM, hnamed, hmethM, hstM, habM⟩ := Cond.instanceMethod_spec hinst
  obtain ⟨m8, methM', cM, hn8, hmethM', -, -, -, -, -, -, hsigM⟩ := Cond.codeWith_spec hcode
  cases Option.some.inj (hn8.symm.trans hnamed)
  cases hmethM.symm.trans hmethM'
  obtain ⟨c2, r2, m2, q1, q2, q3, q4, kP, hkP, hkPi⟩ := Cond.selects_spec hsel
  cases hcls.symm.trans q1
  cases (State.methodFound?_of_named hnamed hy).symm.trans q2
  cases hnamed.symm.trans q3
  have hselP : selectMethod e.platform s.vm cellB.cls mk = .method mk := by rw [Launch.admits_selectMethod X.admits]; exact q4
  obtain ⟨vm₁, X₁, hstep₁⟩ := X.invokevirtual hexec hown hlink hnamed hmethM hstM hkP hkPi hy (a := b) (cell := cellB) hcell
    (fun z h => by rw [h] at hobj; cases hobj) hselP hmethM habM hkP hkPi (g := g) hg (argsL := argsL) (rest := rest) (hlen _ hsigM) hstack hdg
  obtain ⟨v, B, X', hpost, hsteps⟩ := hK m meth c ⟨T.setVm vm₁, locs, cells, slots⟩ { g with stack := rest } (.invokevirtual index) mk (Value.ref b :: argsL).toArray X₁ hg hsize hdg hW (X₁.named hnamed) (hpre vm₁ X₁.warmed)
  exact ⟨v, vm₁, B, X₁.warmed, X', hpost, fun target h => hstep₁ _ fun acts => by rw [doInvoke_state]; exact hsteps.trans h⟩
abbrev vx_CVW (R : Room) (s : State) (args : Array Value) (own C : String) (index : Nat) (y : MethodName) (bytes : ByteArray) (maxL : Nat) (ret : Option FieldType) (hh : List (Nat × Nat × Nat × Nat)) (ws : List Cond) (rm : Room) (mc ms n : Nat) : Prop :=
  (rm.cells = mc ∧ rm.slots = ms ∧ rm.frames + 1 ≤ R.frames ∧ 8 + (maxL + 11) + rm.locals ≤ R.locals ∧ (∀ w ∈ ws, ∀ (a' : Array Value) (U : State), s.WarmedH U.vm → w.before a' U = true) ∧ Cond.codeWith y bytes maxL ret hh ∈ ws) ∧
  (Cond.codeWith y bytes maxL ret hh).before args s = true ∧ (Cond.initialized y.cls).before args s = true ∧ (y.cls ≠ "java/lang/invoke/MethodHandle" ∧ y.cls ≠ "java/lang/invoke/VarHandle") ∧
  (∀ sig, parseMethodDescriptor y.desc = some sig → n = sig.parameters.length) ∧ (Cond.methodLink own index y).before args s = true ∧ (Cond.instanceMethod y).before args s = true ∧ (Cond.selects C y y).before args s = true
theorem vx_cwVW {own C : String} {index maxL mc ms : Nat} {y : MethodName} {bytes : ByteArray} {ret : Option FieldType} {hh : List (Nat × Nat × Nat × Nat)} {Ts ws ws' : List Cond} {rm : Room} (n : Nat) (ht : ∀ w ∈ Ts, w.before args s = true) (hT : GoodIn Ts (wsV own index C y ws)) (hw : ws = Cond.codeWith y bytes maxL ret hh :: ws') (hrc : rm.cells = mc) (hrs : rm.slots = ms)
    (hd : y.cls = C ∧ y.cls ≠ "java/lang/invoke/MethodHandle" ∧ y.cls ≠ "java/lang/invoke/VarHandle" ∧ (parseMethodDescriptor y.desc).map (fun d => d.parameters.length) = some n) (hR : rm.frames + 1 ≤ R.frames ∧ 8 + (maxL + 11) + rm.locals ≤ R.locals) :
    vx_CVW R s args own C index y bytes maxL ret hh ws rm mc ms n := by
  obtain ⟨hC, hd⟩ := hd
  subst hC
  have ok : ∀ w ∈ wsV own index y.cls y ws, w.before args s = true := fun w h => ht w (hT w h).1
  have hG : GoodIn Ts ws := fun w h => hT w (by unfold wsV; exact List.mem_append_right _ h)
  have hc : Cond.codeWith y bytes maxL ret hh ∈ ws := by rw [hw]; exact List.mem_cons_self
  refine ⟨⟨hrc, hrs, hR.1, hR.2, pay_in ht hG, hc⟩, ht _ (hG _ hc).1, ok _ (by simp [wsV]), ⟨hd.1, hd.2.1⟩, fun sig h => ?_, ok _ (by simp [wsV]), ok _ (by simp [wsV]), ok _ (by simp [wsV])⟩
  have h2 := hd.2.2
  rw [h] at h2
  exact (Option.some.inj h2).symm
theorem vx_runVW {y : MethodName} {bytes cc : ByteArray} {maxL nL mc ms n index : Nat} {ret : Option FieldType} {hh : List (Nat × Nat × Nat × Nat)} {ws : List Cond} {rm : Room} {Pc : Array Value → State → Prop} {Qc : Array Value → State → Outcome → State → Prop} {free : Addr → Prop} {Ts : List Cond} {own C : String} {b : Addr} {As rest : List Value} {g : JFrame}
    (S : CallFix p m c cc nL s args Ts own) (hM : Met l y ws rm Pc Qc mc ms free) (cw : vx_CVW R s args own C index y bytes maxL ret hh ws rm mc ms n) (hp : PreV s H C b Pc As)
    (hg : g.method = m) (hn : As.length = n) (hsize : g.locals.size = nL) (hstack : g.stack = As.reverse ++ .ref b :: rest) (hW : 2 * g.monitorRoom + (rest.map fun v => v.category).sum ≤ 8) (hdg : decode cc g.pc = .ok (.invokevirtual index, 3)) (hf : cells + mc ≤ R.cells ∧ slots + ms ≤ R.slots) :
    va_Run p l e R s m args below meth c H locs cells slots mc ms g rest (Qc (Value.ref b :: As).toArray) free := by
  obtain ⟨⟨hrc, hrs, hfr, hlo, hws, hcw⟩, hcode, hini, hy, hlen, hl, hin, hse⟩ := cw
  have hK : Back l R p e below s args y 3 8 (PreOf R mc ms Pc) (PostOf Qc mc ms free) := va_backW (hh := hh) (bytes := bytes) (maxL := maxL) (ret := ret) hM hp.1 hrc hrs hfr hlo hws hcw (fun a' U hW => word_at hW (Or.inl (by first | rfl | simp [Cond.onTables, Cond.keeps, Cond.steady])) hini)
  obtain ⟨hx, hb, hml, ho, -⟩ := S
  obtain ⟨-, ⟨cellB, hcB, hoB, hclB⟩, hPc⟩ := hp
  intro T hT X
  obtain ⟨v, vm₁, ⟨U', l2, c2, s2⟩, hW₁, X', ⟨g', mk, t, L, e1, e2, hq, h1, hL, h2, h3⟩, st⟩ := vx_callVW X hx (C := C) (hh := hh) (bytes := bytes) (maxL := maxL) (ret := ret) ho hl hin hse hcode hy hK (by rw [hT]; exact hcB) hoB hclB hg (hsize.trans hml.symm) (argsL := As) (rest := rest) (fun sig h => hn.trans (hlen sig h)) hstack hW (by rw [hb]; exact hdg)
    (fun vm₁ hW₁ => ⟨hf.1, hf.2, hPc (T.setVm vm₁) hT hW₁⟩)
  dsimp only [Pt.U, Pt.locs, Pt.cells, Pt.slots] at X' e1 e2 h1 h2 h3 st
  subst h1; subst h2; subst h3
  exact ⟨v, (T.setVm vm₁).calling g' mk (Value.ref b :: As).toArray, t, U', L, hT, X', hL, e1, e2, hq, st⟩
section
variable {y : MethodName} {bytes cc : ByteArray} {maxL nL mc ms n index : Nat} {ret : Option FieldType} {ws : List Cond} {rm : Room} {Pc : Array Value → State → Prop} {Qc : Array Value → State → Outcome → State → Prop} {XC : String → State → State → Prop} {free : Addr → Prop} {Ts : List Cond} {own C : String} {b : Addr} {As rest : List Value} {g : JFrame}
theorem vx_runVX {hh : List (Nat × Nat × Nat × Nat)} (S : CallFix p m c cc nL s args Ts own) (hM : vx_Met l y ws rm Pc Qc XC mc ms free) (cw : vx_CVW R s args own C index y bytes maxL ret hh ws rm mc ms n) (hp : PreV s H C b Pc As)
    (hg : g.method = m) (hn : As.length = n) (hsize : g.locals.size = nL) (hstack : g.stack = As.reverse ++ .ref b :: rest) (hW : 2 * g.monitorRoom + (rest.map fun v => v.category).sum ≤ 8) (hdg : decode cc g.pc = .ok (.invokevirtual index, 3)) (hf : cells + mc ≤ R.cells ∧ slots + ms ≤ R.slots) :
    vx_Run p l e R s m args below meth c H locs cells slots mc ms g rest (Qc (Value.ref b :: As).toArray) XC free := by
  obtain ⟨⟨hrc, hrs, hfr, hlo, hws, hcw⟩, hcode, hini, hy, hlen, hl, hin, hse⟩ := cw
  have hK : vx_Back l R p e below s args y 3 8 (PreOf R mc ms Pc) (PostOf Qc mc ms free) (vx_Post XC mc ms free) := vx_backW (hh := hh) (bytes := bytes) (maxL := maxL) (ret := ret) hM hp.1 hrc hrs hfr hlo hws hcw (fun a' U hW => word_at hW (Or.inl (by first | rfl | simp [Cond.onTables, Cond.keeps, Cond.steady])) hini)
  obtain ⟨hx, hb, hml, ho, -⟩ := S
  obtain ⟨-, ⟨cellB, hcB, hoB, hclB⟩, hPc⟩ := hp
  intro T hT X
  rcases vx_callVX X hx (C := C) (hh := hh) (bytes := bytes) (maxL := maxL) (ret := ret) ho hl hin hse hcode hy hK (by rw [hT]; exact hcB) hoB hclB hg (hsize.trans hml.symm) (argsL := As) (rest := rest) (fun sig h => hn.trans (hlen sig h)) hstack hW (by rw [hb]; exact hdg)
    (fun vm₁ hW₁ => ⟨hf.1, hf.2, hPc (T.setVm vm₁) hT hW₁⟩) with ⟨v, vm₁, ⟨U', l2, c2, s2⟩, hW₁, X', ⟨g', mk, t, L, e1, e2, hq, h1, hL, h2, h3⟩, st⟩ | ⟨q, vm₁, ⟨U', l2, c2, s2⟩, hW₁, X', ⟨g', mk, t, L, E, ce, e1, e2, hq, hce, hcv, hcl, h1, hL, h2, h3⟩, st⟩
  · dsimp only [Pt.U, Pt.locs, Pt.cells, Pt.slots] at X' e1 e2 h1 h2 h3 st
    subst h1; subst h2; subst h3
    exact Or.inl ⟨v, (T.setVm vm₁).calling g' mk (Value.ref b :: As).toArray, t, U', L, hT, X', hL, e1, e2, hq, st⟩
  · dsimp only [Pt.U, Pt.locs, Pt.cells, Pt.slots] at X' e1 e2 h1 h2 h3 st hcl
    subst h1; subst h2; subst h3
    exact Or.inr ⟨q, (T.setVm vm₁).calling g' mk (Value.ref b :: As).toArray, t, U', L, E, ce, hT, X', hL, e1, e2, hq, hce, hcv, vx_cls hW₁ hcl, st⟩
theorem vx_runSX {hh : List (Nat × Nat × Nat × Nat)} (S : CallFix p m c cc nL s args Ts own) (hM : vx_Met l y ws rm Pc Qc XC mc ms free) (cw : vx_CSW R s args own index y bytes maxL ret hh ws rm mc ms n) (hp : PreS s H Pc As)
    (hg : g.method = m) (hn : As.length = n) (hsize : g.locals.size = nL) (hstack : g.stack = As.reverse ++ rest) (hW : 2 * g.monitorRoom + (rest.map fun v => v.category).sum ≤ 8) (hdg : decode cc g.pc = .ok (.invokestatic index, 3)) (hf : cells + mc ≤ R.cells ∧ slots + ms ≤ R.slots) :
    vx_Run p l e R s m args below meth c H locs cells slots mc ms g rest (Qc As.toArray) XC free := by
  obtain ⟨⟨hrc, hrs, hfr, hlo, hws, hcw⟩, hcode, hini, hy, hlen, hl, hstt⟩ := cw
  have hK : vx_Back l R p e below s args y 3 8 (PreOf R mc ms Pc) (PostOf Qc mc ms free) (vx_Post XC mc ms free) := vx_backW (hh := hh) (bytes := bytes) (maxL := maxL) (ret := ret) hM hp.1 hrc hrs hfr hlo hws hcw (fun a' U hW => word_at hW (Or.inl (by first | rfl | simp [Cond.onTables, Cond.keeps, Cond.steady])) hini)
  obtain ⟨hx, hb, hml, ho, -⟩ := S
  intro T hT X
  rcases vx_callSX X hx (hh := hh) (bytes := bytes) (maxL := maxL) (ret := ret) ho hl hstt hini hcode hy hK hg (hsize.trans hml.symm) (argsL := As) (rest := rest) (fun sig h => hn.trans (hlen sig h)) hstack hW (by rw [hb]; exact hdg)
    (fun vm₁ hW₁ => ⟨hf.1, hf.2, hp.2 (T.setVm vm₁) hT hW₁⟩) with ⟨v, vm₁, ⟨U', l2, c2, s2⟩, hW₁, X', ⟨g', mk, t, L, e1, e2, hq, h1, hL, h2, h3⟩, st⟩ | ⟨q, vm₁, ⟨U', l2, c2, s2⟩, hW₁, X', ⟨g', mk, t, L, E, ce, e1, e2, hq, hce, hcv, hcl, h1, hL, h2, h3⟩, st⟩
  · dsimp only [Pt.U, Pt.locs, Pt.cells, Pt.slots] at X' e1 e2 h1 h2 h3 st
    subst h1; subst h2; subst h3
    exact Or.inl ⟨v, (T.setVm vm₁).calling g' mk As.toArray, t, U', L, hT, X', hL, e1, e2, hq, st⟩
  · dsimp only [Pt.U, Pt.locs, Pt.cells, Pt.slots] at X' e1 e2 h1 h2 h3 st hcl
    subst h1; subst h2; subst h3
    exact Or.inr ⟨q, (T.setVm vm₁).calling g' mk As.toArray, t, U', L, E, ce, hT, X', hL, e1, e2, hq, hce, hcv, vx_cls hW₁ hcl, st⟩
end
end VXH
theorem vx_ofWH {l : Launch} {y : MethodName} {ws ws' : List Cond} {rm : Room} {Pc : Array Value → State → Prop} {Qc : Array Value → State → Outcome → State → Prop} {XC : String → State → State → Prop} {mc ms : Nat} {free : Addr → Prop} {cc : ByteArray} {maxL : Nat} {ret : Option FieldType} {hh : List (Nat × Nat × Nat × Nat)}
    (hy : plainName y.cls = true) (hw : ws = Cond.codeWith y cc maxL ret hh :: ws')
    (body : ∀ p e s m args below meth c s₁, BodyLoose p l y (headSpec ws rm) cc maxL ret e s m args below meth c s₁ → c.maxLocals = maxL → Pc args s →
      W p l e (headSpec ws rm).room s m args below meth c s.heap [] 0 0 (vx_MQ below Qc XC args s mc ms free) (entryFrame m args maxL)) : vx_Met l y ws rm Pc Qc XC mc ms free := by
  refine MetFree.of_bodyS (code := cc) (maxLocals := maxL) (ret := ret) hy ?_ ?_
  · intro args s m h hn
    obtain ⟨m9, meth, c, hn9, h1, h2, h3, h4, -, h5, h6, -⟩ := Cond.codeWith_spec (atoms_spec (ws := ws) h _ (by rw [hw]; exact List.mem_cons_self))
    cases hn.symm.trans hn9
    exact ⟨meth, c, h1, h2, h3, h4, h5, h6⟩
  · intro p e s m args below meth c s₁ B hml hP _
    have hh0 : s₁.heap = s.heap := by rw [B.state]; rfl
    obtain ⟨t, a1, o, b1, b2, b3⟩ := body p e s m args below meth c s₁ B hml hP s₁ hh0 (Stand.of_body B)
    exact ⟨t, o, a1, b1, b2, b3⟩
/-! ===== END ===== -/
end
section
/-! ===== BEGIN printed: names, fields, word lists, decode rows ===== -/
def RX0 : String := "SplashPages$History"
def TX0 : u_T := fun k => match k with
  | 0 => ("SplashPages$History", "states", "[LSplashPages$Story;", true)
  | _ => ("SplashPages$History", "size", "I", false)
def tyX0 : Nat → FieldType := fun k => match k with
  | 0 => .array (.object "SplashPages$Story")
  | _ => .int
abbrev wsX00 : List Cond := u_ws RX0 TX0 2
theorem nmX0 : ∀ a, a < 2 → ∀ b, b < 2 → a ≠ b → (TX0 a).2.1 ≠ (TX0 b).2.1 := by decide +kernel
theorem tyX0_ok : ∀ k, k < 2 → parseFieldDescriptor (TX0 k).2.2.1 = some (tyX0 k) := by decide +kernel
abbrev cX0_init : ByteArray := prog_2_method_1_code
def yX0_init : MethodName := ⟨RX0, "<init>", "()V"⟩
abbrev cX0_save : ByteArray := prog_2_method_2_code
def yX0_save : MethodName := ⟨RX0, "save", "(LSplashPages$Story;)V"⟩
abbrev cX0_storyAt : ByteArray := prog_2_method_4_code
def yX0_storyAt : MethodName := ⟨RX0, "storyAt", "(I)LSplashPages$Story;"⟩
abbrev cX0_dropOldest : ByteArray := prog_2_method_5_code
def yX0_dropOldest : MethodName := ⟨RX0, "dropOldest", "()V"⟩
def RX1 : String := "SplashPages$Layout"
def TX1 : u_T := fun k => match k with
  | 0 => ("SplashPages$Layout", "pages", "[I", true)
  | 1 => ("SplashPages$Layout", "rows", "[I", true)
  | 2 => ("SplashPages$Layout", "units", "[I", true)
  | 3 => ("SplashPages$Layout", "pagePanels", "[I", true)
  | 4 => ("SplashPages$Layout", "pageBeats", "[I", true)
  | 5 => ("SplashPages$Layout", "pageFilled", "[I", true)
  | 6 => ("SplashPages$Layout", "pageFirst", "[I", true)
  | 7 => ("SplashPages$Layout", "pageBleeding", "[I", true)
  | 8 => ("SplashPages$Layout", "pageOfNow", "I", false)
  | 9 => ("SplashPages$Layout", "rowOfNow", "I", false)
  | 10 => ("SplashPages$Layout", "nextUnit", "I", false)
  | 11 => ("SplashPages$Layout", "used", "I", false)
  | 12 => ("SplashPages$Layout", "bearing", "I", false)
  | 13 => ("SplashPages$Layout", "filled", "I", false)
  | _ => ("SplashPages$Layout", "leftOut", "I", false)
def tyX1 : Nat → FieldType := fun k => match k with
  | 0 => .array .int
  | 1 => .array .int
  | 2 => .array .int
  | 3 => .array .int
  | 4 => .array .int
  | 5 => .array .int
  | 6 => .array .int
  | 7 => .array .int
  | 8 => .int
  | 9 => .int
  | 10 => .int
  | 11 => .int
  | 12 => .int
  | 13 => .int
  | _ => .int
abbrev wsX10 : List Cond := u_ws RX1 TX1 15
theorem nmX1 : ∀ a, a < 15 → ∀ b, b < 15 → a ≠ b → (TX1 a).2.1 ≠ (TX1 b).2.1 := by decide +kernel
theorem tyX1_ok : ∀ k, k < 15 → parseFieldDescriptor (TX1 k).2.2.1 = some (tyX1 k) := by decide +kernel
abbrev cX1_init : ByteArray := prog_3_method_1_code
def yX1_init : MethodName := ⟨RX1, "<init>", "()V"⟩
abbrev cX1_pour : ByteArray := prog_3_method_2_code
def yX1_pour : MethodName := ⟨RX1, "pour", "(LSplashPages$Story;)V"⟩
abbrev cX1_clear : ByteArray := prog_3_method_3_code
def yX1_clear : MethodName := ⟨RX1, "clear", "()V"⟩
abbrev cX1_place : ByteArray := prog_3_method_4_code
def yX1_place : MethodName := ⟨RX1, "place", "(LSplashPages$Story;I)Z"⟩
abbrev cX1_placeOnWholePages : ByteArray := prog_3_method_5_code
def yX1_placeOnWholePages : MethodName := ⟨RX1, "placeOnWholePages", "(III)Z"⟩
abbrev cX1_goOnIfTooManyBeats : ByteArray := prog_3_method_6_code
def yX1_goOnIfTooManyBeats : MethodName := ⟨RX1, "goOnIfTooManyBeats", "(II)V"⟩
abbrev cX1_placeInRow : ByteArray := prog_3_method_7_code
def yX1_placeInRow : MethodName := ⟨RX1, "placeInRow", "(IZII)Z"⟩
abbrev cX1_beginRow : ByteArray := prog_3_method_8_code
def yX1_beginRow : MethodName := ⟨RX1, "beginRow", "()V"⟩
abbrev cX1_beginPage : ByteArray := prog_3_method_9_code
def yX1_beginPage : MethodName := ⟨RX1, "beginPage", "(I)V"⟩
abbrev cX1_note : ByteArray := prog_3_method_10_code
def yX1_note : MethodName := ⟨RX1, "note", "(IIII)V"⟩
abbrev cX1_bear : ByteArray := prog_3_method_11_code
def yX1_bear : MethodName := ⟨RX1, "bear", "(IIII)V"⟩
abbrev cX1_isBearing : ByteArray := prog_3_method_12_code
def yX1_isBearing : MethodName := ⟨RX1, "isBearing", "(I)Z"⟩
abbrev cX1_isOnLeft : ByteArray := prog_3_method_13_code
def yX1_isOnLeft : MethodName := ⟨RX1, "isOnLeft", "(I)Z"⟩
abbrev cX1_numberOfPage : ByteArray := prog_3_method_14_code
def yX1_numberOfPage : MethodName := ⟨RX1, "numberOfPage", "(II)I"⟩
abbrev cX1_emptyUnits : ByteArray := prog_3_method_15_code
def yX1_emptyUnits : MethodName := ⟨RX1, "emptyUnits", "()I"⟩
abbrev cX1_greatestBeats : ByteArray := prog_3_method_16_code
def yX1_greatestBeats : MethodName := ⟨RX1, "greatestBeats", "()I"⟩
abbrev cX1_greatestDifference : ByteArray := prog_3_method_17_code
def yX1_greatestDifference : MethodName := ⟨RX1, "greatestDifference", "()I"⟩
abbrev cX1_cost : ByteArray := prog_3_method_18_code
def yX1_cost : MethodName := ⟨RX1, "cost", "()I"⟩
def RX2 : String := "SplashPages$Story"
def TX2 : u_T := fun k => match k with
  | 0 => ("SplashPages$Story", "kinds", "[I", true)
  | 1 => ("SplashPages$Story", "widths", "[I", true)
  | 2 => ("SplashPages$Story", "beats", "[I", true)
  | 3 => ("SplashPages$Story", "size", "I", false)
  | _ => ("SplashPages$Story", "setting", "I", false)
def tyX2 : Nat → FieldType := fun k => match k with
  | 0 => .array .int
  | 1 => .array .int
  | 2 => .array .int
  | 3 => .int
  | _ => .int
abbrev wsX20 : List Cond := u_ws RX2 TX2 5
theorem nmX2 : ∀ a, a < 5 → ∀ b, b < 5 → a ≠ b → (TX2 a).2.1 ≠ (TX2 b).2.1 := by decide +kernel
theorem tyX2_ok : ∀ k, k < 5 → parseFieldDescriptor (TX2 k).2.2.1 = some (tyX2 k) := by decide +kernel
abbrev cX2_init : ByteArray := prog_4_method_1_code
def yX2_init : MethodName := ⟨RX2, "<init>", "()V"⟩
abbrev cX2_has : ByteArray := prog_4_method_2_code
def yX2_has : MethodName := ⟨RX2, "has", "(I)Z"⟩
abbrev cX2_copyFrom : ByteArray := prog_4_method_3_code
def yX2_copyFrom : MethodName := ⟨RX2, "copyFrom", "(LSplashPages$Story;)V"⟩
abbrev cX2_insert : ByteArray := prog_4_method_4_code
def yX2_insert : MethodName := ⟨RX2, "insert", "(IIII)V"⟩
abbrev cX2_remove : ByteArray := prog_4_method_5_code
def yX2_remove : MethodName := ⟨RX2, "remove", "(I)V"⟩
abbrev cX2_exchangeWithNext : ByteArray := prog_4_method_6_code
def yX2_exchangeWithNext : MethodName := ⟨RX2, "exchangeWithNext", "(I)V"⟩
abbrev cX2_openGap : ByteArray := prog_4_method_7_code
def yX2_openGap : MethodName := ⟨RX2, "openGap", "([III)V"⟩
abbrev cX2_closeGap : ByteArray := prog_4_method_8_code
def yX2_closeGap : MethodName := ⟨RX2, "closeGap", "([II)V"⟩
abbrev cX2_exchangeInRow : ByteArray := prog_4_method_9_code
def yX2_exchangeInRow : MethodName := ⟨RX2, "exchangeInRow", "([II)V"⟩
def RX3 : String := "SplashPages$Text"
def TX3 : u_T := fun k => match k with
  | 0 => ("SplashPages$Text", "codes", "[I", true)
  | _ => ("SplashPages$Text", "length", "I", false)
def tyX3 : Nat → FieldType := fun k => match k with
  | 0 => .array .int
  | _ => .int
abbrev wsX30 : List Cond := u_ws RX3 TX3 2
theorem nmX3 : ∀ a, a < 2 → ∀ b, b < 2 → a ≠ b → (TX3 a).2.1 ≠ (TX3 b).2.1 := by decide +kernel
theorem tyX3_ok : ∀ k, k < 2 → parseFieldDescriptor (TX3 k).2.2.1 = some (tyX3 k) := by decide +kernel
abbrev cX3_init : ByteArray := prog_5_method_1_code
def yX3_init : MethodName := ⟨RX3, "<init>", "()V"⟩
def RX4 : String := "SplashPages"
def TX4 : u_T := fun k => match k with
  | 0 => ("SplashPages", "now", "LSplashPages$Story;", true)
  | 1 => ("SplashPages", "layout", "LSplashPages$Layout;", true)
  | 2 => ("SplashPages", "trial", "LSplashPages$Story;", true)
  | 3 => ("SplashPages", "trialLayout", "LSplashPages$Layout;", true)
  | 4 => ("SplashPages", "history", "LSplashPages$History;", true)
  | _ => ("SplashPages", "text", "LSplashPages$Text;", true)
def tyX4 : Nat → FieldType := fun k => match k with
  | 0 => .object "SplashPages$Story"
  | 1 => .object "SplashPages$Layout"
  | 2 => .object "SplashPages$Story"
  | 3 => .object "SplashPages$Layout"
  | 4 => .object "SplashPages$History"
  | _ => .object "SplashPages$Text"
abbrev wsX40 : List Cond := u_ws RX4 TX4 6
theorem nmX4 : ∀ a, a < 6 → ∀ b, b < 6 → a ≠ b → (TX4 a).2.1 ≠ (TX4 b).2.1 := by decide +kernel
theorem tyX4_ok : ∀ k, k < 6 → parseFieldDescriptor (TX4 k).2.2.1 = some (tyX4 k) := by decide +kernel
abbrev cX4_init : ByteArray := prog_1_method_1_code
def yX4_init : MethodName := ⟨RX4, "<init>", "()V"⟩
abbrev cX4_put : ByteArray := prog_1_method_2_code
def yX4_put : MethodName := ⟨RX4, "put", "(IIII)I"⟩
abbrev cX4_take : ByteArray := prog_1_method_3_code
def yX4_take : MethodName := ⟨RX4, "take", "(I)I"⟩
abbrev cX4_change : ByteArray := prog_1_method_4_code
def yX4_change : MethodName := ⟨RX4, "change", "(III)I"⟩
abbrev cX4_set : ByteArray := prog_1_method_5_code
def yX4_set : MethodName := ⟨RX4, "set", "(I)I"⟩
abbrev cX4_panel : ByteArray := prog_1_method_11_code
def yX4_panel : MethodName := ⟨RX4, "panel", "(II)I"⟩
abbrev cX4_page : ByteArray := prog_1_method_12_code
def yX4_page : MethodName := ⟨RX4, "page", "(II)I"⟩
abbrev cX4_at : ByteArray := prog_1_method_13_code
def yX4_at : MethodName := ⟨RX4, "at", "(III)I"⟩
abbrev cX4_count : ByteArray := prog_1_method_14_code
def yX4_count : MethodName := ⟨RX4, "count", "(I)I"⟩
abbrev cX4_ifExchanged : ByteArray := prog_1_method_15_code
def yX4_ifExchanged : MethodName := ⟨RX4, "ifExchanged", "(II)I"⟩
abbrev cX4_leastSetting : ByteArray := prog_1_method_16_code
def yX4_leastSetting : MethodName := ⟨RX4, "leastSetting", "()I"⟩
abbrev cX4_bestWidth : ByteArray := prog_1_method_17_code
def yX4_bestWidth : MethodName := ⟨RX4, "bestWidth", "(I)I"⟩
abbrev cX4_fullness : ByteArray := prog_1_method_18_code
def yX4_fullness : MethodName := ⟨RX4, "fullness", "()D"⟩
abbrev cX4_isWithin : ByteArray := prog_1_method_20_code
def yX4_isWithin : MethodName := ⟨RX4, "isWithin", "(III)Z"⟩
abbrev cX4_isPanelSize : ByteArray := prog_1_method_21_code
def yX4_isPanelSize : MethodName := ⟨RX4, "isPanelSize", "(II)Z"⟩
abbrev cX4_read : ByteArray := prog_1_method_22_code
def yX4_read : MethodName := ⟨RX4, "read", "([II)I"⟩
abbrev cX4_write : ByteArray := prog_1_method_23_code
def yX4_write : MethodName := ⟨RX4, "write", "([III)V"⟩
abbrev cX4_numberOfPanel : ByteArray := prog_1_method_24_code
def yX4_numberOfPanel : MethodName := ⟨RX4, "numberOfPanel", "(II)I"⟩
abbrev cX4_numberInAll : ByteArray := prog_1_method_25_code
def yX4_numberInAll : MethodName := ⟨RX4, "numberInAll", "(I)I"⟩
abbrev cX4_panelAt : ByteArray := prog_1_method_26_code
def yX4_panelAt : MethodName := ⟨RX4, "panelAt", "(III)I"⟩
abbrev cX4_shareOfFilled : ByteArray := prog_1_method_27_code
def yX4_shareOfFilled : MethodName := ⟨RX4, "shareOfFilled", "()D"⟩
abbrev cX4_afterExchange : ByteArray := prog_1_method_28_code
def yX4_afterExchange : MethodName := ⟨RX4, "afterExchange", "(II)I"⟩
abbrev cX4_leastThatServes : ByteArray := prog_1_method_29_code
def yX4_leastThatServes : MethodName := ⟨RX4, "leastThatServes", "()I"⟩
abbrev cX4_widthOfLeastCost : ByteArray := prog_1_method_30_code
def yX4_widthOfLeastCost : MethodName := ⟨RX4, "widthOfLeastCost", "(I)I"⟩
def RX5 : String := "SplashPagesModel"
def TX5 : u_T := fun k => match k with
  | _ => ("", "", "", false)
def tyX5 : Nat → FieldType := fun k => match k with
  | _ => .int
abbrev wsX50 : List Cond := u_ws RX5 TX5 0
theorem nmX5 : ∀ a, a < 0 → ∀ b, b < 0 → a ≠ b → (TX5 a).2.1 ≠ (TX5 b).2.1 := by decide +kernel
theorem tyX5_ok : ∀ k, k < 0 → parseFieldDescriptor (TX5 k).2.2.1 = some (tyX5 k) := by decide +kernel
def RJ9 : String := "java/lang/Math"
def TJ9 : u_T := fun k => match k with
  | _ => ("", "", "", false)
def tyJ9 : Nat → FieldType := fun k => match k with
  | _ => .int
abbrev wsJ90 : List Cond := u_ws RJ9 TJ9 0
theorem nmJ9 : ∀ a, a < 0 → ∀ b, b < 0 → a ≠ b → (TJ9 a).2.1 ≠ (TJ9 b).2.1 := by decide +kernel
theorem tyJ9_ok : ∀ k, k < 0 → parseFieldDescriptor (TJ9 k).2.2.1 = some (tyJ9 k) := by decide +kernel
abbrev cJ9_abs_0f7a4 : ByteArray := prog_12_method_59_code
def yJ9_abs_0f7a4 : MethodName := ⟨RJ9, "abs", "(I)I"⟩
abbrev cJ9_max_7cf53 : ByteArray := prog_12_method_65_code
def yJ9_max_7cf53 : MethodName := ⟨RJ9, "max", "(II)I"⟩
def RJ0 : String := "java/lang/String"
def TJ0 : u_T := fun k => match k with
  | _ => ("", "", "", false)
def tyJ0 : Nat → FieldType := fun k => match k with
  | _ => .int
abbrev wsJ00 : List Cond := u_ws RJ0 TJ0 0
theorem nmJ0 : ∀ a, a < 0 → ∀ b, b < 0 → a ≠ b → (TJ0 a).2.1 ≠ (TJ0 b).2.1 := by decide +kernel
theorem tyJ0_ok : ∀ k, k < 0 → parseFieldDescriptor (TJ0 k).2.2.1 = some (tyJ0 k) := by decide +kernel
def RJ10 : String := "java/lang/System"
def TJ10 : u_T := fun k => match k with
  | _ => ("", "", "", false)
def tyJ10 : Nat → FieldType := fun k => match k with
  | _ => .int
abbrev wsJ100 : List Cond := u_ws RJ10 TJ10 0
theorem nmJ10 : ∀ a, a < 0 → ∀ b, b < 0 → a ≠ b → (TJ10 a).2.1 ≠ (TJ10 b).2.1 := by decide +kernel
theorem tyJ10_ok : ∀ k, k < 0 → parseFieldDescriptor (TJ10 k).2.2.1 = some (tyJ10 k) := by decide +kernel
def RL : String := "SplashPagesLaw"
abbrev cL_cell : ByteArray := method_2_code
def yL_cell : MethodName := ⟨RL, "cell", "([II)I"⟩
abbrev cL_low : ByteArray := method_3_code
def yL_low : MethodName := ⟨RL, "low", "(II)I"⟩
abbrev cL_pour : ByteArray := method_4_code
def yL_pour : MethodName := ⟨RL, "pour", "([I[I[I[I[I[I[I)V"⟩
abbrev cL_takes : ByteArray := method_5_code
def yL_takes : MethodName := ⟨RL, "takes", "([I[I[I[I[IIII)Z"⟩
abbrev cL_whole : ByteArray := method_6_code
def yL_whole : MethodName := ⟨RL, "whole", "([I[I[I[I)I"⟩
abbrev cL_pages : ByteArray := method_7_code
def yL_pages : MethodName := ⟨RL, "pages", "(LSplashPages;[I[I[I[I[I[I[I)Z"⟩
abbrev cL_units : ByteArray := method_8_code
def yL_units : MethodName := ⟨RL, "units", "(LSplashPages;[I[I[I[I[I[II)Z"⟩
abbrev cL_wouldBe : ByteArray := method_9_code
def yL_wouldBe : MethodName := ⟨RL, "wouldBe", "(LSplashPages;[I[I[I[II)Z"⟩
abbrev cL_exchange : ByteArray := method_10_code
def yL_exchange : MethodName := ⟨RL, "exchange", "([II)V"⟩
abbrev cL_put : ByteArray := method_11_code
def yL_put : MethodName := ⟨RL, "put", "([I[III)V"⟩
abbrev cL_take : ByteArray := method_12_code
def yL_take : MethodName := ⟨RL, "take", "([I[II)V"⟩
abbrev cL_law : ByteArray := code
def yL_law : MethodName := ⟨RL, "law", "([I)Z"⟩
def wsX2_init : List Cond := .code yX2_init cX2_init 1 none :: ([.methodLink RX2 3 objectInit, .instanceMethod objectInit, .code objectInit ⟨#[0xb1]⟩ 1 none, .arrayClass .int, .fieldLink RX2 9 "SplashPages$Story" "kinds" "[I", .fieldLink RX2 15 "SplashPages$Story" "widths" "[I", .fieldLink RX2 18 "SplashPages$Story" "beats" "[I", .fieldLink RX2 21 "SplashPages$Story" "size" "I", .fieldLink RX2 25 "SplashPages$Story" "setting" "I"] ++ wsX20)
def wsX0_init : List Cond := .code yX0_init cX0_init 2 none :: ([.methodLink RX0 3 objectInit, .instanceMethod objectInit, .code objectInit ⟨#[0xb1]⟩ 1 none, .classLink RX0 9 RX2, .fieldLink RX0 11 "SplashPages$History" "states" "[LSplashPages$Story;", .fieldLink RX0 17 "SplashPages$History" "size" "I", .instantiable RX2 5, .initialized RX2, .instanceMethod yX2_init, .code yX2_init cX2_init 1 none, .methodLink RX2 3 objectInit, .arrayClass .int, .fieldLink RX2 9 "SplashPages$Story" "kinds" "[I", .fieldLink RX2 15 "SplashPages$Story" "widths" "[I", .fieldLink RX2 18 "SplashPages$Story" "beats" "[I", .fieldLink RX2 21 "SplashPages$Story" "size" "I", .fieldLink RX2 25 "SplashPages$Story" "setting" "I"] ++ wsX00 ++ wsX20)
def wsX0_dropOldest : List Cond := .code yX0_dropOldest cX0_dropOldest 3 none :: ([.fieldLink RX0 11 "SplashPages$History" "states" "[LSplashPages$Story;", .fieldLink RX0 17 "SplashPages$History" "size" "I"] ++ wsX00)
def wsX0_storyAt : List Cond := .code yX0_storyAt cX0_storyAt 2 (some (.object "SplashPages$Story")) :: ([.fieldLink RX0 11 "SplashPages$History" "states" "[LSplashPages$Story;"] ++ wsX00)
def wsX2_copyFrom : List Cond := .code yX2_copyFrom cX2_copyFrom 2 none :: ([.fieldLink RX2 9 "SplashPages$Story" "kinds" "[I", .methodLink RX2 28 arraycopyName, .native arraycopyName, .static arraycopyName, .initialized "java/lang/System", .fieldLink RX2 15 "SplashPages$Story" "widths" "[I", .fieldLink RX2 18 "SplashPages$Story" "beats" "[I", .fieldLink RX2 21 "SplashPages$Story" "size" "I", .fieldLink RX2 25 "SplashPages$Story" "setting" "I"] ++ wsX20)
def wsX0_save : List Cond := .code yX0_save cX0_save 3 none :: ([.fieldLink RX0 17 "SplashPages$History" "size" "I", .methodLink RX0 22 yX0_dropOldest, .instanceMethod yX0_dropOldest, .selects RX0 yX0_dropOldest yX0_dropOldest, .initialized RX0, .code yX0_dropOldest cX0_dropOldest 3 none, .fieldLink RX0 11 "SplashPages$History" "states" "[LSplashPages$Story;", .methodLink RX0 25 yX0_storyAt, .instanceMethod yX0_storyAt, .selects RX0 yX0_storyAt yX0_storyAt, .code yX0_storyAt cX0_storyAt 2 (some (.object "SplashPages$Story")), .instanceMethod yX2_copyFrom, .initialized RX2, .selects RX2 yX2_copyFrom yX2_copyFrom, .code yX2_copyFrom cX2_copyFrom 2 none, .fieldLink RX2 9 "SplashPages$Story" "kinds" "[I", .methodLink RX2 28 arraycopyName, .native arraycopyName, .static arraycopyName, .initialized "java/lang/System", .fieldLink RX2 15 "SplashPages$Story" "widths" "[I", .fieldLink RX2 18 "SplashPages$Story" "beats" "[I", .fieldLink RX2 21 "SplashPages$Story" "size" "I", .fieldLink RX2 25 "SplashPages$Story" "setting" "I"] ++ wsX00 ++ wsX20)
def wsX1_init : List Cond := .code yX1_init cX1_init 1 none :: ([.methodLink RX1 3 objectInit, .instanceMethod objectInit, .code objectInit ⟨#[0xb1]⟩ 1 none, .arrayClass .int, .fieldLink RX1 9 "SplashPages$Layout" "pages" "[I", .fieldLink RX1 15 "SplashPages$Layout" "rows" "[I", .fieldLink RX1 18 "SplashPages$Layout" "units" "[I", .fieldLink RX1 21 "SplashPages$Layout" "pagePanels" "[I", .fieldLink RX1 24 "SplashPages$Layout" "pageBeats" "[I", .fieldLink RX1 27 "SplashPages$Layout" "pageFilled" "[I", .fieldLink RX1 30 "SplashPages$Layout" "pageFirst" "[I", .fieldLink RX1 33 "SplashPages$Layout" "pageBleeding" "[I", .fieldLink RX1 36 "SplashPages$Layout" "pageOfNow" "I", .fieldLink RX1 40 "SplashPages$Layout" "rowOfNow" "I", .fieldLink RX1 43 "SplashPages$Layout" "nextUnit" "I", .fieldLink RX1 46 "SplashPages$Layout" "used" "I", .fieldLink RX1 49 "SplashPages$Layout" "bearing" "I", .fieldLink RX1 52 "SplashPages$Layout" "filled" "I", .fieldLink RX1 55 "SplashPages$Layout" "leftOut" "I"] ++ wsX10)
def wsX1_beginPage : List Cond := .code yX1_beginPage cX1_beginPage 2 none :: ([.fieldLink RX1 36 "SplashPages$Layout" "pageOfNow" "I", .fieldLink RX1 40 "SplashPages$Layout" "rowOfNow" "I", .fieldLink RX1 43 "SplashPages$Layout" "nextUnit" "I"] ++ wsX10)
def wsX1_clear : List Cond := .code yX1_clear cX1_clear 2 none :: ([.fieldLink RX1 21 "SplashPages$Layout" "pagePanels" "[I", .fieldLink RX1 24 "SplashPages$Layout" "pageBeats" "[I", .fieldLink RX1 27 "SplashPages$Layout" "pageFilled" "[I", .fieldLink RX1 30 "SplashPages$Layout" "pageFirst" "[I", .fieldLink RX1 33 "SplashPages$Layout" "pageBleeding" "[I", .fieldLink RX1 46 "SplashPages$Layout" "used" "I", .fieldLink RX1 49 "SplashPages$Layout" "bearing" "I", .fieldLink RX1 52 "SplashPages$Layout" "filled" "I", .methodLink RX1 74 yX1_beginPage, .instanceMethod yX1_beginPage, .selects RX1 yX1_beginPage yX1_beginPage, .initialized RX1, .code yX1_beginPage cX1_beginPage 2 none, .fieldLink RX1 36 "SplashPages$Layout" "pageOfNow" "I", .fieldLink RX1 40 "SplashPages$Layout" "rowOfNow" "I", .fieldLink RX1 43 "SplashPages$Layout" "nextUnit" "I"] ++ wsX10)
def wsX4_read : List Cond := .code yX4_read cX4_read 2 (some .int) :: ([])
def wsX1_isBearing : List Cond := .code yX1_isBearing cX1_isBearing 2 (some .boolean) :: ([.fieldLink RX1 21 "SplashPages$Layout" "pagePanels" "[I"] ++ wsX10)
def wsX1_isOnLeft : List Cond := .code yX1_isOnLeft cX1_isOnLeft 1 (some .boolean) :: ([])
def wsX1_note : List Cond := .code yX1_note cX1_note 5 none :: ([.fieldLink RX1 9 "SplashPages$Layout" "pages" "[I", .fieldLink RX1 15 "SplashPages$Layout" "rows" "[I", .fieldLink RX1 18 "SplashPages$Layout" "units" "[I"] ++ wsX10)
def wsX1_bear : List Cond := .code yX1_bear cX1_bear 5 none :: ([.fieldLink RX1 21 "SplashPages$Layout" "pagePanels" "[I", .fieldLink RX1 30 "SplashPages$Layout" "pageFirst" "[I", .fieldLink RX1 49 "SplashPages$Layout" "bearing" "I", .fieldLink RX1 24 "SplashPages$Layout" "pageBeats" "[I", .fieldLink RX1 27 "SplashPages$Layout" "pageFilled" "[I", .fieldLink RX1 52 "SplashPages$Layout" "filled" "I", .fieldLink RX1 46 "SplashPages$Layout" "used" "I"] ++ wsX10)
def wsX1_placeOnWholePages_r1 : List Cond := [Cond.fieldLink RX1 36 "SplashPages$Layout" "pageOfNow" "I", Cond.methodLink RX1 106 yX1_isBearing, Cond.instanceMethod yX1_isBearing, Cond.selects RX1 yX1_isBearing yX1_isBearing, Cond.initialized RX1, Cond.code yX1_isBearing cX1_isBearing 2 (some .boolean), Cond.fieldLink RX1 21 "SplashPages$Layout" "pagePanels" "[I", Cond.methodLink RX1 110 yX1_isOnLeft, Cond.static yX1_isOnLeft, Cond.code yX1_isOnLeft cX1_isOnLeft 1 (some .boolean), Cond.methodLink RX1 70 yX1_note, Cond.instanceMethod yX1_note, Cond.selects RX1 yX1_note yX1_note, Cond.code yX1_note cX1_note 5 none, Cond.fieldLink RX1 9 "SplashPages$Layout" "pages" "[I", Cond.fieldLink RX1 15 "SplashPages$Layout" "rows" "[I", Cond.fieldLink RX1 18 "SplashPages$Layout" "units" "[I", Cond.methodLink RX1 113 yX1_bear, Cond.instanceMethod yX1_bear, Cond.selects RX1 yX1_bear yX1_bear, Cond.code yX1_bear cX1_bear 5 none, Cond.fieldLink RX1 30 "SplashPages$Layout" "pageFirst" "[I", Cond.fieldLink RX1 49 "SplashPages$Layout" "bearing" "I", Cond.fieldLink RX1 24 "SplashPages$Layout" "pageBeats" "[I"]
def wsX1_placeOnWholePages_r2 : List Cond := [Cond.fieldLink RX1 27 "SplashPages$Layout" "pageFilled" "[I", Cond.fieldLink RX1 52 "SplashPages$Layout" "filled" "I", Cond.fieldLink RX1 46 "SplashPages$Layout" "used" "I", Cond.methodLink RX1 74 yX1_beginPage, Cond.instanceMethod yX1_beginPage, Cond.selects RX1 yX1_beginPage yX1_beginPage, Cond.code yX1_beginPage cX1_beginPage 2 none, Cond.fieldLink RX1 40 "SplashPages$Layout" "rowOfNow" "I", Cond.fieldLink RX1 43 "SplashPages$Layout" "nextUnit" "I"]
def wsX1_placeOnWholePages : List Cond := .code yX1_placeOnWholePages cX1_placeOnWholePages 5 (some .boolean) :: ((wsX1_placeOnWholePages_r1 ++ wsX1_placeOnWholePages_r2) ++ wsX10)
def wsX1_goOnIfTooManyBeats : List Cond := .code yX1_goOnIfTooManyBeats cX1_goOnIfTooManyBeats 3 none :: ([.fieldLink RX1 36 "SplashPages$Layout" "pageOfNow" "I", .fieldLink RX1 24 "SplashPages$Layout" "pageBeats" "[I", .methodLink RX1 106 yX1_isBearing, .instanceMethod yX1_isBearing, .selects RX1 yX1_isBearing yX1_isBearing, .initialized RX1, .code yX1_isBearing cX1_isBearing 2 (some .boolean), .fieldLink RX1 21 "SplashPages$Layout" "pagePanels" "[I", .static yX4_read, .initialized RX4, .code yX4_read cX4_read 2 (some .int), .methodLink RX1 74 yX1_beginPage, .instanceMethod yX1_beginPage, .selects RX1 yX1_beginPage yX1_beginPage, .code yX1_beginPage cX1_beginPage 2 none, .fieldLink RX1 40 "SplashPages$Layout" "rowOfNow" "I", .fieldLink RX1 43 "SplashPages$Layout" "nextUnit" "I"] ++ wsX10)
def wsX1_beginRow : List Cond := .code yX1_beginRow cX1_beginRow 1 none :: ([.fieldLink RX1 43 "SplashPages$Layout" "nextUnit" "I", .fieldLink RX1 40 "SplashPages$Layout" "rowOfNow" "I", .fieldLink RX1 36 "SplashPages$Layout" "pageOfNow" "I"] ++ wsX10)
def wsX4_write : List Cond := .code yX4_write cX4_write 3 none :: ([])
def wsX1_placeInRow_r1 : List Cond := [Cond.fieldLink RX1 43 "SplashPages$Layout" "nextUnit" "I", Cond.fieldLink RX1 36 "SplashPages$Layout" "pageOfNow" "I", Cond.fieldLink RX1 40 "SplashPages$Layout" "rowOfNow" "I", Cond.fieldLink RX1 33 "SplashPages$Layout" "pageBleeding" "[I", Cond.methodLink RX1 116 yX1_beginRow, Cond.instanceMethod yX1_beginRow, Cond.selects RX1 yX1_beginRow yX1_beginRow, Cond.initialized RX1, Cond.code yX1_beginRow cX1_beginRow 1 none, Cond.methodLink RX1 110 yX1_isOnLeft, Cond.static yX1_isOnLeft, Cond.code yX1_isOnLeft cX1_isOnLeft 1 (some .boolean), Cond.methodLink RX1 70 yX1_note, Cond.instanceMethod yX1_note, Cond.selects RX1 yX1_note yX1_note, Cond.code yX1_note cX1_note 5 none, Cond.fieldLink RX1 9 "SplashPages$Layout" "pages" "[I", Cond.fieldLink RX1 15 "SplashPages$Layout" "rows" "[I", Cond.fieldLink RX1 18 "SplashPages$Layout" "units" "[I", Cond.methodLink RX1 113 yX1_bear, Cond.instanceMethod yX1_bear, Cond.selects RX1 yX1_bear yX1_bear, Cond.code yX1_bear cX1_bear 5 none, Cond.fieldLink RX1 21 "SplashPages$Layout" "pagePanels" "[I"]
def wsX1_placeInRow_r2 : List Cond := [Cond.fieldLink RX1 30 "SplashPages$Layout" "pageFirst" "[I", Cond.fieldLink RX1 49 "SplashPages$Layout" "bearing" "I", Cond.fieldLink RX1 24 "SplashPages$Layout" "pageBeats" "[I", Cond.fieldLink RX1 27 "SplashPages$Layout" "pageFilled" "[I", Cond.fieldLink RX1 52 "SplashPages$Layout" "filled" "I", Cond.fieldLink RX1 46 "SplashPages$Layout" "used" "I", Cond.static yX4_read, Cond.initialized RX4, Cond.code yX4_read cX4_read 2 (some .int), Cond.static yX4_write, Cond.code yX4_write cX4_write 3 none]
def wsX1_placeInRow : List Cond := .code yX1_placeInRow cX1_placeInRow 6 (some .boolean) :: ((wsX1_placeInRow_r1 ++ wsX1_placeInRow_r2) ++ wsX10)
def wsX1_place_r1 : List Cond := [Cond.static yX4_read, Cond.initialized RX4, Cond.code yX4_read cX4_read 2 (some .int), Cond.methodLink RX1 88 yX1_placeOnWholePages, Cond.instanceMethod yX1_placeOnWholePages, Cond.selects RX1 yX1_placeOnWholePages yX1_placeOnWholePages, Cond.initialized RX1, Cond.code yX1_placeOnWholePages cX1_placeOnWholePages 5 (some .boolean), Cond.fieldLink RX1 36 "SplashPages$Layout" "pageOfNow" "I", Cond.methodLink RX1 106 yX1_isBearing, Cond.instanceMethod yX1_isBearing, Cond.selects RX1 yX1_isBearing yX1_isBearing, Cond.code yX1_isBearing cX1_isBearing 2 (some .boolean), Cond.fieldLink RX1 21 "SplashPages$Layout" "pagePanels" "[I", Cond.methodLink RX1 110 yX1_isOnLeft, Cond.static yX1_isOnLeft, Cond.code yX1_isOnLeft cX1_isOnLeft 1 (some .boolean), Cond.methodLink RX1 70 yX1_note, Cond.instanceMethod yX1_note, Cond.selects RX1 yX1_note yX1_note, Cond.code yX1_note cX1_note 5 none, Cond.fieldLink RX1 9 "SplashPages$Layout" "pages" "[I", Cond.fieldLink RX1 15 "SplashPages$Layout" "rows" "[I", Cond.fieldLink RX1 18 "SplashPages$Layout" "units" "[I"]
def wsX1_place_r2 : List Cond := [Cond.methodLink RX1 113 yX1_bear, Cond.instanceMethod yX1_bear, Cond.selects RX1 yX1_bear yX1_bear, Cond.code yX1_bear cX1_bear 5 none, Cond.fieldLink RX1 30 "SplashPages$Layout" "pageFirst" "[I", Cond.fieldLink RX1 49 "SplashPages$Layout" "bearing" "I", Cond.fieldLink RX1 24 "SplashPages$Layout" "pageBeats" "[I", Cond.fieldLink RX1 27 "SplashPages$Layout" "pageFilled" "[I", Cond.fieldLink RX1 52 "SplashPages$Layout" "filled" "I", Cond.fieldLink RX1 46 "SplashPages$Layout" "used" "I", Cond.methodLink RX1 74 yX1_beginPage, Cond.instanceMethod yX1_beginPage, Cond.selects RX1 yX1_beginPage yX1_beginPage, Cond.code yX1_beginPage cX1_beginPage 2 none, Cond.fieldLink RX1 40 "SplashPages$Layout" "rowOfNow" "I", Cond.fieldLink RX1 43 "SplashPages$Layout" "nextUnit" "I", Cond.methodLink RX1 95 yX1_goOnIfTooManyBeats, Cond.instanceMethod yX1_goOnIfTooManyBeats, Cond.selects RX1 yX1_goOnIfTooManyBeats yX1_goOnIfTooManyBeats, Cond.code yX1_goOnIfTooManyBeats cX1_goOnIfTooManyBeats 3 none, Cond.methodLink RX1 102 yX1_placeInRow, Cond.instanceMethod yX1_placeInRow, Cond.selects RX1 yX1_placeInRow yX1_placeInRow, Cond.code yX1_placeInRow cX1_placeInRow 6 (some .boolean)]
def wsX1_place_r3 : List Cond := [Cond.fieldLink RX1 33 "SplashPages$Layout" "pageBleeding" "[I", Cond.methodLink RX1 116 yX1_beginRow, Cond.instanceMethod yX1_beginRow, Cond.selects RX1 yX1_beginRow yX1_beginRow, Cond.code yX1_beginRow cX1_beginRow 1 none, Cond.static yX4_write, Cond.code yX4_write cX4_write 3 none]
def wsX1_place : List Cond := .code yX1_place cX1_place 5 (some .boolean) :: ((wsX1_place_r1 ++ (wsX1_place_r2 ++ wsX1_place_r3)) ++ wsX20 ++ wsX10)
def wsX1_pour_r1 : List Cond := [Cond.fieldLink RX1 55 "SplashPages$Layout" "leftOut" "I", Cond.methodLink RX1 58 yX1_clear, Cond.instanceMethod yX1_clear, Cond.selects RX1 yX1_clear yX1_clear, Cond.initialized RX1, Cond.code yX1_clear cX1_clear 2 none, Cond.fieldLink RX1 21 "SplashPages$Layout" "pagePanels" "[I", Cond.fieldLink RX1 24 "SplashPages$Layout" "pageBeats" "[I", Cond.fieldLink RX1 27 "SplashPages$Layout" "pageFilled" "[I", Cond.fieldLink RX1 30 "SplashPages$Layout" "pageFirst" "[I", Cond.fieldLink RX1 33 "SplashPages$Layout" "pageBleeding" "[I", Cond.fieldLink RX1 46 "SplashPages$Layout" "used" "I", Cond.fieldLink RX1 49 "SplashPages$Layout" "bearing" "I", Cond.fieldLink RX1 52 "SplashPages$Layout" "filled" "I", Cond.methodLink RX1 74 yX1_beginPage, Cond.instanceMethod yX1_beginPage, Cond.selects RX1 yX1_beginPage yX1_beginPage, Cond.code yX1_beginPage cX1_beginPage 2 none, Cond.fieldLink RX1 36 "SplashPages$Layout" "pageOfNow" "I", Cond.fieldLink RX1 40 "SplashPages$Layout" "rowOfNow" "I", Cond.fieldLink RX1 43 "SplashPages$Layout" "nextUnit" "I", Cond.methodLink RX1 66 yX1_place, Cond.instanceMethod yX1_place, Cond.selects RX1 yX1_place yX1_place]
def wsX1_pour_r2 : List Cond := [Cond.code yX1_place cX1_place 5 (some .boolean), Cond.static yX4_read, Cond.initialized RX4, Cond.code yX4_read cX4_read 2 (some .int), Cond.methodLink RX1 88 yX1_placeOnWholePages, Cond.instanceMethod yX1_placeOnWholePages, Cond.selects RX1 yX1_placeOnWholePages yX1_placeOnWholePages, Cond.code yX1_placeOnWholePages cX1_placeOnWholePages 5 (some .boolean), Cond.methodLink RX1 106 yX1_isBearing, Cond.instanceMethod yX1_isBearing, Cond.selects RX1 yX1_isBearing yX1_isBearing, Cond.code yX1_isBearing cX1_isBearing 2 (some .boolean), Cond.methodLink RX1 110 yX1_isOnLeft, Cond.static yX1_isOnLeft, Cond.code yX1_isOnLeft cX1_isOnLeft 1 (some .boolean), Cond.methodLink RX1 70 yX1_note, Cond.instanceMethod yX1_note, Cond.selects RX1 yX1_note yX1_note, Cond.code yX1_note cX1_note 5 none, Cond.fieldLink RX1 9 "SplashPages$Layout" "pages" "[I", Cond.fieldLink RX1 15 "SplashPages$Layout" "rows" "[I", Cond.fieldLink RX1 18 "SplashPages$Layout" "units" "[I", Cond.methodLink RX1 113 yX1_bear, Cond.instanceMethod yX1_bear]
def wsX1_pour_r3 : List Cond := [Cond.selects RX1 yX1_bear yX1_bear, Cond.code yX1_bear cX1_bear 5 none, Cond.methodLink RX1 95 yX1_goOnIfTooManyBeats, Cond.instanceMethod yX1_goOnIfTooManyBeats, Cond.selects RX1 yX1_goOnIfTooManyBeats yX1_goOnIfTooManyBeats, Cond.code yX1_goOnIfTooManyBeats cX1_goOnIfTooManyBeats 3 none, Cond.methodLink RX1 102 yX1_placeInRow, Cond.instanceMethod yX1_placeInRow, Cond.selects RX1 yX1_placeInRow yX1_placeInRow, Cond.code yX1_placeInRow cX1_placeInRow 6 (some .boolean), Cond.methodLink RX1 116 yX1_beginRow, Cond.instanceMethod yX1_beginRow, Cond.selects RX1 yX1_beginRow yX1_beginRow, Cond.code yX1_beginRow cX1_beginRow 1 none, Cond.static yX4_write, Cond.code yX4_write cX4_write 3 none]
def wsX1_pour : List Cond := .code yX1_pour cX1_pour 3 none :: ((wsX1_pour_r1 ++ (wsX1_pour_r2 ++ wsX1_pour_r3)) ++ wsX20 ++ wsX10)
def wsX1_numberOfPage : List Cond := .code yX1_numberOfPage cX1_numberOfPage 3 (some .int) :: ([.fieldLink RX1 21 "SplashPages$Layout" "pagePanels" "[I", .fieldLink RX1 24 "SplashPages$Layout" "pageBeats" "[I", .fieldLink RX1 27 "SplashPages$Layout" "pageFilled" "[I", .fieldLink RX1 30 "SplashPages$Layout" "pageFirst" "[I", .fieldLink RX1 46 "SplashPages$Layout" "used" "I", .fieldLink RX1 33 "SplashPages$Layout" "pageBleeding" "[I", .static yX4_read, .initialized RX4, .code yX4_read cX4_read 2 (some .int), .methodLink RX1 106 yX1_isBearing, .instanceMethod yX1_isBearing, .selects RX1 yX1_isBearing yX1_isBearing, .initialized RX1, .code yX1_isBearing cX1_isBearing 2 (some .boolean)] ++ wsX10)
def wsX1_emptyUnits : List Cond := .code yX1_emptyUnits cX1_emptyUnits 1 (some .int) :: ([.fieldLink RX1 49 "SplashPages$Layout" "bearing" "I", .fieldLink RX1 52 "SplashPages$Layout" "filled" "I"] ++ wsX10)
def wsX1_greatestBeats : List Cond := .code yX1_greatestBeats cX1_greatestBeats 3 (some .int) :: ([.fieldLink RX1 24 "SplashPages$Layout" "pageBeats" "[I", .methodLink RX1 123 Lib.Math.max.name, .static Lib.Math.max.name, .initialized "java/lang/Math", .code Lib.Math.max.name Lib.Math.max.code 2 (some .int)] ++ wsX10)
def wsX1_greatestDifference : List Cond := .code yX1_greatestDifference cX1_greatestDifference 3 (some .int) :: ([.fieldLink RX1 24 "SplashPages$Layout" "pageBeats" "[I", .methodLink RX1 129 Lib.Math.abs.name, .static Lib.Math.abs.name, .initialized "java/lang/Math", .code Lib.Math.abs.name Lib.Math.abs.code 1 (some .int), .methodLink RX1 123 Lib.Math.max.name, .static Lib.Math.max.name, .code Lib.Math.max.name Lib.Math.max.code 2 (some .int)] ++ wsX10)
def wsX1_cost : List Cond := .code yX1_cost cX1_cost 1 (some .int) :: ([.fieldLink RX1 55 "SplashPages$Layout" "leftOut" "I", .fieldLink RX1 46 "SplashPages$Layout" "used" "I", .methodLink RX1 133 yX1_emptyUnits, .instanceMethod yX1_emptyUnits, .selects RX1 yX1_emptyUnits yX1_emptyUnits, .initialized RX1, .code yX1_emptyUnits cX1_emptyUnits 1 (some .int), .fieldLink RX1 49 "SplashPages$Layout" "bearing" "I", .fieldLink RX1 52 "SplashPages$Layout" "filled" "I"] ++ wsX10)
def wsX2_has : List Cond := .code yX2_has cX2_has 2 (some .boolean) :: ([.fieldLink RX2 21 "SplashPages$Story" "size" "I"] ++ wsX20)
def wsX2_openGap : List Cond := .code yX2_openGap cX2_openGap 4 none :: ([.static yX4_write, .initialized RX4, .code yX4_write cX4_write 3 none])
def wsX2_insert : List Cond := .code yX2_insert cX2_insert 5 none :: ([.fieldLink RX2 21 "SplashPages$Story" "size" "I", .fieldLink RX2 9 "SplashPages$Story" "kinds" "[I", .fieldLink RX2 15 "SplashPages$Story" "widths" "[I", .fieldLink RX2 18 "SplashPages$Story" "beats" "[I", .methodLink RX2 34 yX2_openGap, .static yX2_openGap, .initialized RX2, .code yX2_openGap cX2_openGap 4 none, .static yX4_write, .initialized RX4, .code yX4_write cX4_write 3 none] ++ wsX20)
def wsX2_closeGap : List Cond := .code yX2_closeGap cX2_closeGap 3 none :: ([])
def wsX2_remove : List Cond := .code yX2_remove cX2_remove 2 none :: ([.fieldLink RX2 9 "SplashPages$Story" "kinds" "[I", .fieldLink RX2 15 "SplashPages$Story" "widths" "[I", .fieldLink RX2 18 "SplashPages$Story" "beats" "[I", .fieldLink RX2 21 "SplashPages$Story" "size" "I", .methodLink RX2 38 yX2_has, .instanceMethod yX2_has, .selects RX2 yX2_has yX2_has, .initialized RX2, .code yX2_has cX2_has 2 (some .boolean), .methodLink RX2 42 yX2_closeGap, .static yX2_closeGap, .code yX2_closeGap cX2_closeGap 3 none] ++ wsX20)
def wsX2_exchangeInRow : List Cond := .code yX2_exchangeInRow cX2_exchangeInRow 3 none :: ([.static yX4_read, .initialized RX4, .code yX4_read cX4_read 2 (some .int), .static yX4_write, .code yX4_write cX4_write 3 none])
def wsX2_exchangeWithNext : List Cond := .code yX2_exchangeWithNext cX2_exchangeWithNext 2 none :: ([.fieldLink RX2 9 "SplashPages$Story" "kinds" "[I", .fieldLink RX2 15 "SplashPages$Story" "widths" "[I", .fieldLink RX2 18 "SplashPages$Story" "beats" "[I", .methodLink RX2 46 yX2_exchangeInRow, .static yX2_exchangeInRow, .initialized RX2, .code yX2_exchangeInRow cX2_exchangeInRow 3 none, .static yX4_read, .initialized RX4, .code yX4_read cX4_read 2 (some .int), .static yX4_write, .code yX4_write cX4_write 3 none] ++ wsX20)
def wsX3_init : List Cond := .code yX3_init cX3_init 1 none :: ([.methodLink RX3 3 objectInit, .instanceMethod objectInit, .code objectInit ⟨#[0xb1]⟩ 1 none, .arrayClass .int, .fieldLink RX3 9 "SplashPages$Text" "codes" "[I", .fieldLink RX3 15 "SplashPages$Text" "length" "I"] ++ wsX30)
def wsX4_init_r1 : List Cond := [Cond.methodLink RX4 3 objectInit, Cond.instanceMethod objectInit, Cond.code objectInit ⟨#[0xb1]⟩ 1 none, Cond.classLink RX4 9 RX2, Cond.instantiable RX2 5, Cond.initialized RX2, Cond.fieldLink RX4 12 "SplashPages" "now" "LSplashPages$Story;", Cond.classLink RX4 16 RX1, Cond.instantiable RX1 15, Cond.initialized RX1, Cond.fieldLink RX4 19 "SplashPages" "layout" "LSplashPages$Layout;", Cond.fieldLink RX4 23 "SplashPages" "trial" "LSplashPages$Story;", Cond.fieldLink RX4 26 "SplashPages" "trialLayout" "LSplashPages$Layout;", Cond.classLink RX4 29 RX0, Cond.instantiable RX0 2, Cond.initialized RX0, Cond.fieldLink RX4 32 "SplashPages" "history" "LSplashPages$History;", Cond.classLink RX4 36 RX3, Cond.instantiable RX3 2, Cond.initialized RX3, Cond.fieldLink RX4 39 "SplashPages" "text" "LSplashPages$Text;", Cond.instanceMethod yX2_init, Cond.code yX2_init cX2_init 1 none, Cond.methodLink RX2 3 objectInit]
def wsX4_init_r2 : List Cond := [Cond.arrayClass .int, Cond.fieldLink RX2 9 "SplashPages$Story" "kinds" "[I", Cond.fieldLink RX2 15 "SplashPages$Story" "widths" "[I", Cond.fieldLink RX2 18 "SplashPages$Story" "beats" "[I", Cond.fieldLink RX2 21 "SplashPages$Story" "size" "I", Cond.fieldLink RX2 25 "SplashPages$Story" "setting" "I", Cond.instanceMethod yX1_init, Cond.code yX1_init cX1_init 1 none, Cond.methodLink RX1 3 objectInit, Cond.fieldLink RX1 9 "SplashPages$Layout" "pages" "[I", Cond.fieldLink RX1 15 "SplashPages$Layout" "rows" "[I", Cond.fieldLink RX1 18 "SplashPages$Layout" "units" "[I", Cond.fieldLink RX1 21 "SplashPages$Layout" "pagePanels" "[I", Cond.fieldLink RX1 24 "SplashPages$Layout" "pageBeats" "[I", Cond.fieldLink RX1 27 "SplashPages$Layout" "pageFilled" "[I", Cond.fieldLink RX1 30 "SplashPages$Layout" "pageFirst" "[I", Cond.fieldLink RX1 33 "SplashPages$Layout" "pageBleeding" "[I", Cond.fieldLink RX1 36 "SplashPages$Layout" "pageOfNow" "I", Cond.fieldLink RX1 40 "SplashPages$Layout" "rowOfNow" "I", Cond.fieldLink RX1 43 "SplashPages$Layout" "nextUnit" "I", Cond.fieldLink RX1 46 "SplashPages$Layout" "used" "I", Cond.fieldLink RX1 49 "SplashPages$Layout" "bearing" "I", Cond.fieldLink RX1 52 "SplashPages$Layout" "filled" "I", Cond.fieldLink RX1 55 "SplashPages$Layout" "leftOut" "I"]
def wsX4_init_r3 : List Cond := [Cond.instanceMethod yX0_init, Cond.code yX0_init cX0_init 2 none, Cond.methodLink RX0 3 objectInit, Cond.classLink RX0 9 RX2, Cond.fieldLink RX0 11 "SplashPages$History" "states" "[LSplashPages$Story;", Cond.fieldLink RX0 17 "SplashPages$History" "size" "I", Cond.instanceMethod yX3_init, Cond.code yX3_init cX3_init 1 none, Cond.methodLink RX3 3 objectInit, Cond.fieldLink RX3 9 "SplashPages$Text" "codes" "[I", Cond.fieldLink RX3 15 "SplashPages$Text" "length" "I"]
def wsX4_init : List Cond := .code yX4_init cX4_init 1 none :: ((wsX4_init_r1 ++ (wsX4_init_r2 ++ wsX4_init_r3)) ++ wsX20 ++ wsX40 ++ wsX10 ++ wsX00 ++ wsX30)
def wsX4_isWithin : List Cond := .code yX4_isWithin cX4_isWithin 3 (some .boolean) :: ([])
def wsX4_isPanelSize : List Cond := .code yX4_isPanelSize cX4_isPanelSize 2 (some .boolean) :: ([.methodLink RX4 47 yX4_isWithin, .static yX4_isWithin, .initialized RX4, .code yX4_isWithin cX4_isWithin 3 (some .boolean)])
def wsX4_put_r1 : List Cond := [Cond.classLink RX4 51 "java/lang/IndexOutOfBoundsException", Cond.initialized "java/lang/IndexOutOfBoundsException", Cond.classLink RX4 62 "java/lang/IllegalArgumentException", Cond.initialized "java/lang/IllegalArgumentException", Cond.classLink RX4 67 "java/lang/IllegalStateException", Cond.initialized "java/lang/IllegalStateException", Cond.fieldLink RX4 12 "SplashPages" "now" "LSplashPages$Story;", Cond.fieldLink RX4 32 "SplashPages" "history" "LSplashPages$History;", Cond.fieldLink RX4 19 "SplashPages" "layout" "LSplashPages$Layout;", Cond.methodLink RX4 47 yX4_isWithin, Cond.static yX4_isWithin, Cond.initialized RX4, Cond.code yX4_isWithin cX4_isWithin 3 (some .boolean), Cond.methodLink RX4 58 yX4_isPanelSize, Cond.static yX4_isPanelSize, Cond.code yX4_isPanelSize cX4_isPanelSize 2 (some .boolean), Cond.instanceMethod yX0_save, Cond.initialized RX0, Cond.selects RX0 yX0_save yX0_save, Cond.code yX0_save cX0_save 3 none, Cond.fieldLink RX0 17 "SplashPages$History" "size" "I", Cond.methodLink RX0 22 yX0_dropOldest, Cond.instanceMethod yX0_dropOldest, Cond.selects RX0 yX0_dropOldest yX0_dropOldest]
def wsX4_put_r2 : List Cond := [Cond.code yX0_dropOldest cX0_dropOldest 3 none, Cond.fieldLink RX0 11 "SplashPages$History" "states" "[LSplashPages$Story;", Cond.methodLink RX0 25 yX0_storyAt, Cond.instanceMethod yX0_storyAt, Cond.selects RX0 yX0_storyAt yX0_storyAt, Cond.code yX0_storyAt cX0_storyAt 2 (some (.object "SplashPages$Story")), Cond.instanceMethod yX2_copyFrom, Cond.initialized RX2, Cond.selects RX2 yX2_copyFrom yX2_copyFrom, Cond.code yX2_copyFrom cX2_copyFrom 2 none, Cond.fieldLink RX2 9 "SplashPages$Story" "kinds" "[I", Cond.methodLink RX2 28 arraycopyName, Cond.native arraycopyName, Cond.static arraycopyName, Cond.initialized "java/lang/System", Cond.fieldLink RX2 15 "SplashPages$Story" "widths" "[I", Cond.fieldLink RX2 18 "SplashPages$Story" "beats" "[I", Cond.fieldLink RX2 21 "SplashPages$Story" "size" "I", Cond.fieldLink RX2 25 "SplashPages$Story" "setting" "I", Cond.instanceMethod yX2_insert, Cond.selects RX2 yX2_insert yX2_insert, Cond.code yX2_insert cX2_insert 5 none, Cond.methodLink RX2 34 yX2_openGap, Cond.static yX2_openGap]
def wsX4_put_r3 : List Cond := [Cond.code yX2_openGap cX2_openGap 4 none, Cond.static yX4_write, Cond.code yX4_write cX4_write 3 none, Cond.instanceMethod yX1_pour, Cond.initialized RX1, Cond.selects RX1 yX1_pour yX1_pour, Cond.code yX1_pour cX1_pour 3 none, Cond.fieldLink RX1 55 "SplashPages$Layout" "leftOut" "I", Cond.methodLink RX1 58 yX1_clear, Cond.instanceMethod yX1_clear, Cond.selects RX1 yX1_clear yX1_clear, Cond.code yX1_clear cX1_clear 2 none, Cond.fieldLink RX1 21 "SplashPages$Layout" "pagePanels" "[I", Cond.fieldLink RX1 24 "SplashPages$Layout" "pageBeats" "[I", Cond.fieldLink RX1 27 "SplashPages$Layout" "pageFilled" "[I", Cond.fieldLink RX1 30 "SplashPages$Layout" "pageFirst" "[I", Cond.fieldLink RX1 33 "SplashPages$Layout" "pageBleeding" "[I", Cond.fieldLink RX1 46 "SplashPages$Layout" "used" "I", Cond.fieldLink RX1 49 "SplashPages$Layout" "bearing" "I", Cond.fieldLink RX1 52 "SplashPages$Layout" "filled" "I", Cond.methodLink RX1 74 yX1_beginPage, Cond.instanceMethod yX1_beginPage, Cond.selects RX1 yX1_beginPage yX1_beginPage, Cond.code yX1_beginPage cX1_beginPage 2 none]
def wsX4_put_r4 : List Cond := [Cond.fieldLink RX1 36 "SplashPages$Layout" "pageOfNow" "I", Cond.fieldLink RX1 40 "SplashPages$Layout" "rowOfNow" "I", Cond.fieldLink RX1 43 "SplashPages$Layout" "nextUnit" "I", Cond.methodLink RX1 66 yX1_place, Cond.instanceMethod yX1_place, Cond.selects RX1 yX1_place yX1_place, Cond.code yX1_place cX1_place 5 (some .boolean), Cond.static yX4_read, Cond.code yX4_read cX4_read 2 (some .int), Cond.methodLink RX1 88 yX1_placeOnWholePages, Cond.instanceMethod yX1_placeOnWholePages, Cond.selects RX1 yX1_placeOnWholePages yX1_placeOnWholePages, Cond.code yX1_placeOnWholePages cX1_placeOnWholePages 5 (some .boolean), Cond.methodLink RX1 106 yX1_isBearing, Cond.instanceMethod yX1_isBearing, Cond.selects RX1 yX1_isBearing yX1_isBearing, Cond.code yX1_isBearing cX1_isBearing 2 (some .boolean), Cond.methodLink RX1 110 yX1_isOnLeft, Cond.static yX1_isOnLeft, Cond.code yX1_isOnLeft cX1_isOnLeft 1 (some .boolean), Cond.methodLink RX1 70 yX1_note, Cond.instanceMethod yX1_note, Cond.selects RX1 yX1_note yX1_note, Cond.code yX1_note cX1_note 5 none]
def wsX4_put_r5 : List Cond := [Cond.fieldLink RX1 9 "SplashPages$Layout" "pages" "[I", Cond.fieldLink RX1 15 "SplashPages$Layout" "rows" "[I", Cond.fieldLink RX1 18 "SplashPages$Layout" "units" "[I", Cond.methodLink RX1 113 yX1_bear, Cond.instanceMethod yX1_bear, Cond.selects RX1 yX1_bear yX1_bear, Cond.code yX1_bear cX1_bear 5 none, Cond.methodLink RX1 95 yX1_goOnIfTooManyBeats, Cond.instanceMethod yX1_goOnIfTooManyBeats, Cond.selects RX1 yX1_goOnIfTooManyBeats yX1_goOnIfTooManyBeats, Cond.code yX1_goOnIfTooManyBeats cX1_goOnIfTooManyBeats 3 none, Cond.methodLink RX1 102 yX1_placeInRow, Cond.instanceMethod yX1_placeInRow, Cond.selects RX1 yX1_placeInRow yX1_placeInRow, Cond.code yX1_placeInRow cX1_placeInRow 6 (some .boolean), Cond.methodLink RX1 116 yX1_beginRow, Cond.instanceMethod yX1_beginRow, Cond.selects RX1 yX1_beginRow yX1_beginRow, Cond.code yX1_beginRow cX1_beginRow 1 none]
def wsX4_put : List Cond := .code yX4_put cX4_put 5 (some .int) :: ((wsX4_put_r1 ++ (wsX4_put_r2 ++ (wsX4_put_r3 ++ (wsX4_put_r4 ++ wsX4_put_r5)))) ++ wsX40 ++ wsX20 ++ wsX00 ++ wsX10 ++ (vx_atS RX4 55 "java/lang/IndexOutOfBoundsException" ["java/lang/RuntimeException", "java/lang/Exception"]).filter goodWord ++ (vx_atS RX4 66 "java/lang/IllegalArgumentException" ["java/lang/RuntimeException", "java/lang/Exception"]).filter goodWord ++ (vx_atS RX4 71 "java/lang/IllegalStateException" ["java/lang/RuntimeException", "java/lang/Exception"]).filter goodWord)
def wsX4_take_r1 : List Cond := [Cond.classLink RX4 51 "java/lang/IndexOutOfBoundsException", Cond.initialized "java/lang/IndexOutOfBoundsException", Cond.fieldLink RX4 12 "SplashPages" "now" "LSplashPages$Story;", Cond.fieldLink RX4 32 "SplashPages" "history" "LSplashPages$History;", Cond.fieldLink RX4 19 "SplashPages" "layout" "LSplashPages$Layout;", Cond.instanceMethod yX2_has, Cond.initialized RX2, Cond.selects RX2 yX2_has yX2_has, Cond.code yX2_has cX2_has 2 (some .boolean), Cond.fieldLink RX2 21 "SplashPages$Story" "size" "I", Cond.instanceMethod yX0_save, Cond.initialized RX0, Cond.selects RX0 yX0_save yX0_save, Cond.code yX0_save cX0_save 3 none, Cond.fieldLink RX0 17 "SplashPages$History" "size" "I", Cond.methodLink RX0 22 yX0_dropOldest, Cond.instanceMethod yX0_dropOldest, Cond.selects RX0 yX0_dropOldest yX0_dropOldest, Cond.code yX0_dropOldest cX0_dropOldest 3 none, Cond.fieldLink RX0 11 "SplashPages$History" "states" "[LSplashPages$Story;", Cond.methodLink RX0 25 yX0_storyAt, Cond.instanceMethod yX0_storyAt, Cond.selects RX0 yX0_storyAt yX0_storyAt, Cond.code yX0_storyAt cX0_storyAt 2 (some (.object "SplashPages$Story"))]
def wsX4_take_r2 : List Cond := [Cond.instanceMethod yX2_copyFrom, Cond.selects RX2 yX2_copyFrom yX2_copyFrom, Cond.code yX2_copyFrom cX2_copyFrom 2 none, Cond.fieldLink RX2 9 "SplashPages$Story" "kinds" "[I", Cond.methodLink RX2 28 arraycopyName, Cond.native arraycopyName, Cond.static arraycopyName, Cond.initialized "java/lang/System", Cond.fieldLink RX2 15 "SplashPages$Story" "widths" "[I", Cond.fieldLink RX2 18 "SplashPages$Story" "beats" "[I", Cond.fieldLink RX2 25 "SplashPages$Story" "setting" "I", Cond.instanceMethod yX2_remove, Cond.selects RX2 yX2_remove yX2_remove, Cond.code yX2_remove cX2_remove 2 none, Cond.methodLink RX2 38 yX2_has, Cond.methodLink RX2 42 yX2_closeGap, Cond.static yX2_closeGap, Cond.code yX2_closeGap cX2_closeGap 3 none, Cond.instanceMethod yX1_pour, Cond.initialized RX1, Cond.selects RX1 yX1_pour yX1_pour, Cond.code yX1_pour cX1_pour 3 none, Cond.fieldLink RX1 55 "SplashPages$Layout" "leftOut" "I", Cond.methodLink RX1 58 yX1_clear]
def wsX4_take_r3 : List Cond := [Cond.instanceMethod yX1_clear, Cond.selects RX1 yX1_clear yX1_clear, Cond.code yX1_clear cX1_clear 2 none, Cond.fieldLink RX1 21 "SplashPages$Layout" "pagePanels" "[I", Cond.fieldLink RX1 24 "SplashPages$Layout" "pageBeats" "[I", Cond.fieldLink RX1 27 "SplashPages$Layout" "pageFilled" "[I", Cond.fieldLink RX1 30 "SplashPages$Layout" "pageFirst" "[I", Cond.fieldLink RX1 33 "SplashPages$Layout" "pageBleeding" "[I", Cond.fieldLink RX1 46 "SplashPages$Layout" "used" "I", Cond.fieldLink RX1 49 "SplashPages$Layout" "bearing" "I", Cond.fieldLink RX1 52 "SplashPages$Layout" "filled" "I", Cond.methodLink RX1 74 yX1_beginPage, Cond.instanceMethod yX1_beginPage, Cond.selects RX1 yX1_beginPage yX1_beginPage, Cond.code yX1_beginPage cX1_beginPage 2 none, Cond.fieldLink RX1 36 "SplashPages$Layout" "pageOfNow" "I", Cond.fieldLink RX1 40 "SplashPages$Layout" "rowOfNow" "I", Cond.fieldLink RX1 43 "SplashPages$Layout" "nextUnit" "I", Cond.methodLink RX1 66 yX1_place, Cond.instanceMethod yX1_place, Cond.selects RX1 yX1_place yX1_place, Cond.code yX1_place cX1_place 5 (some .boolean), Cond.static yX4_read, Cond.initialized RX4]
def wsX4_take_r4 : List Cond := [Cond.code yX4_read cX4_read 2 (some .int), Cond.methodLink RX1 88 yX1_placeOnWholePages, Cond.instanceMethod yX1_placeOnWholePages, Cond.selects RX1 yX1_placeOnWholePages yX1_placeOnWholePages, Cond.code yX1_placeOnWholePages cX1_placeOnWholePages 5 (some .boolean), Cond.methodLink RX1 106 yX1_isBearing, Cond.instanceMethod yX1_isBearing, Cond.selects RX1 yX1_isBearing yX1_isBearing, Cond.code yX1_isBearing cX1_isBearing 2 (some .boolean), Cond.methodLink RX1 110 yX1_isOnLeft, Cond.static yX1_isOnLeft, Cond.code yX1_isOnLeft cX1_isOnLeft 1 (some .boolean), Cond.methodLink RX1 70 yX1_note, Cond.instanceMethod yX1_note, Cond.selects RX1 yX1_note yX1_note, Cond.code yX1_note cX1_note 5 none, Cond.fieldLink RX1 9 "SplashPages$Layout" "pages" "[I", Cond.fieldLink RX1 15 "SplashPages$Layout" "rows" "[I", Cond.fieldLink RX1 18 "SplashPages$Layout" "units" "[I", Cond.methodLink RX1 113 yX1_bear, Cond.instanceMethod yX1_bear, Cond.selects RX1 yX1_bear yX1_bear, Cond.code yX1_bear cX1_bear 5 none, Cond.methodLink RX1 95 yX1_goOnIfTooManyBeats]
def wsX4_take_r5 : List Cond := [Cond.instanceMethod yX1_goOnIfTooManyBeats, Cond.selects RX1 yX1_goOnIfTooManyBeats yX1_goOnIfTooManyBeats, Cond.code yX1_goOnIfTooManyBeats cX1_goOnIfTooManyBeats 3 none, Cond.methodLink RX1 102 yX1_placeInRow, Cond.instanceMethod yX1_placeInRow, Cond.selects RX1 yX1_placeInRow yX1_placeInRow, Cond.code yX1_placeInRow cX1_placeInRow 6 (some .boolean), Cond.methodLink RX1 116 yX1_beginRow, Cond.instanceMethod yX1_beginRow, Cond.selects RX1 yX1_beginRow yX1_beginRow, Cond.code yX1_beginRow cX1_beginRow 1 none, Cond.static yX4_write, Cond.code yX4_write cX4_write 3 none]
def wsX4_take : List Cond := .code yX4_take cX4_take 2 (some .int) :: ((wsX4_take_r1 ++ (wsX4_take_r2 ++ (wsX4_take_r3 ++ (wsX4_take_r4 ++ wsX4_take_r5)))) ++ wsX40 ++ wsX20 ++ wsX00 ++ wsX10 ++ (vx_atS RX4 55 "java/lang/IndexOutOfBoundsException" ["java/lang/RuntimeException", "java/lang/Exception"]).filter goodWord)
def wsX4_change_r1 : List Cond := [Cond.classLink RX4 51 "java/lang/IndexOutOfBoundsException", Cond.initialized "java/lang/IndexOutOfBoundsException", Cond.classLink RX4 62 "java/lang/IllegalArgumentException", Cond.initialized "java/lang/IllegalArgumentException", Cond.fieldLink RX4 12 "SplashPages" "now" "LSplashPages$Story;", Cond.fieldLink RX4 32 "SplashPages" "history" "LSplashPages$History;", Cond.fieldLink RX4 19 "SplashPages" "layout" "LSplashPages$Layout;", Cond.instanceMethod yX2_has, Cond.initialized RX2, Cond.selects RX2 yX2_has yX2_has, Cond.code yX2_has cX2_has 2 (some .boolean), Cond.fieldLink RX2 21 "SplashPages$Story" "size" "I", Cond.methodLink RX4 58 yX4_isPanelSize, Cond.static yX4_isPanelSize, Cond.initialized RX4, Cond.code yX4_isPanelSize cX4_isPanelSize 2 (some .boolean), Cond.methodLink RX4 47 yX4_isWithin, Cond.static yX4_isWithin, Cond.code yX4_isWithin cX4_isWithin 3 (some .boolean), Cond.instanceMethod yX0_save, Cond.initialized RX0, Cond.selects RX0 yX0_save yX0_save, Cond.code yX0_save cX0_save 3 none, Cond.fieldLink RX0 17 "SplashPages$History" "size" "I"]
def wsX4_change_r2 : List Cond := [Cond.methodLink RX0 22 yX0_dropOldest, Cond.instanceMethod yX0_dropOldest, Cond.selects RX0 yX0_dropOldest yX0_dropOldest, Cond.code yX0_dropOldest cX0_dropOldest 3 none, Cond.fieldLink RX0 11 "SplashPages$History" "states" "[LSplashPages$Story;", Cond.methodLink RX0 25 yX0_storyAt, Cond.instanceMethod yX0_storyAt, Cond.selects RX0 yX0_storyAt yX0_storyAt, Cond.code yX0_storyAt cX0_storyAt 2 (some (.object "SplashPages$Story")), Cond.instanceMethod yX2_copyFrom, Cond.selects RX2 yX2_copyFrom yX2_copyFrom, Cond.code yX2_copyFrom cX2_copyFrom 2 none, Cond.fieldLink RX2 9 "SplashPages$Story" "kinds" "[I", Cond.methodLink RX2 28 arraycopyName, Cond.native arraycopyName, Cond.static arraycopyName, Cond.initialized "java/lang/System", Cond.fieldLink RX2 15 "SplashPages$Story" "widths" "[I", Cond.fieldLink RX2 18 "SplashPages$Story" "beats" "[I", Cond.fieldLink RX2 25 "SplashPages$Story" "setting" "I", Cond.methodLink RX4 99 yX4_write, Cond.static yX4_write, Cond.code yX4_write cX4_write 3 none, Cond.instanceMethod yX1_pour]
def wsX4_change_r3 : List Cond := [Cond.initialized RX1, Cond.selects RX1 yX1_pour yX1_pour, Cond.code yX1_pour cX1_pour 3 none, Cond.fieldLink RX1 55 "SplashPages$Layout" "leftOut" "I", Cond.methodLink RX1 58 yX1_clear, Cond.instanceMethod yX1_clear, Cond.selects RX1 yX1_clear yX1_clear, Cond.code yX1_clear cX1_clear 2 none, Cond.fieldLink RX1 21 "SplashPages$Layout" "pagePanels" "[I", Cond.fieldLink RX1 24 "SplashPages$Layout" "pageBeats" "[I", Cond.fieldLink RX1 27 "SplashPages$Layout" "pageFilled" "[I", Cond.fieldLink RX1 30 "SplashPages$Layout" "pageFirst" "[I", Cond.fieldLink RX1 33 "SplashPages$Layout" "pageBleeding" "[I", Cond.fieldLink RX1 46 "SplashPages$Layout" "used" "I", Cond.fieldLink RX1 49 "SplashPages$Layout" "bearing" "I", Cond.fieldLink RX1 52 "SplashPages$Layout" "filled" "I", Cond.methodLink RX1 74 yX1_beginPage, Cond.instanceMethod yX1_beginPage, Cond.selects RX1 yX1_beginPage yX1_beginPage, Cond.code yX1_beginPage cX1_beginPage 2 none, Cond.fieldLink RX1 36 "SplashPages$Layout" "pageOfNow" "I", Cond.fieldLink RX1 40 "SplashPages$Layout" "rowOfNow" "I", Cond.fieldLink RX1 43 "SplashPages$Layout" "nextUnit" "I", Cond.methodLink RX1 66 yX1_place]
def wsX4_change_r4 : List Cond := [Cond.instanceMethod yX1_place, Cond.selects RX1 yX1_place yX1_place, Cond.code yX1_place cX1_place 5 (some .boolean), Cond.static yX4_read, Cond.code yX4_read cX4_read 2 (some .int), Cond.methodLink RX1 88 yX1_placeOnWholePages, Cond.instanceMethod yX1_placeOnWholePages, Cond.selects RX1 yX1_placeOnWholePages yX1_placeOnWholePages, Cond.code yX1_placeOnWholePages cX1_placeOnWholePages 5 (some .boolean), Cond.methodLink RX1 106 yX1_isBearing, Cond.instanceMethod yX1_isBearing, Cond.selects RX1 yX1_isBearing yX1_isBearing, Cond.code yX1_isBearing cX1_isBearing 2 (some .boolean), Cond.methodLink RX1 110 yX1_isOnLeft, Cond.static yX1_isOnLeft, Cond.code yX1_isOnLeft cX1_isOnLeft 1 (some .boolean), Cond.methodLink RX1 70 yX1_note, Cond.instanceMethod yX1_note, Cond.selects RX1 yX1_note yX1_note, Cond.code yX1_note cX1_note 5 none, Cond.fieldLink RX1 9 "SplashPages$Layout" "pages" "[I", Cond.fieldLink RX1 15 "SplashPages$Layout" "rows" "[I", Cond.fieldLink RX1 18 "SplashPages$Layout" "units" "[I", Cond.methodLink RX1 113 yX1_bear]
def wsX4_change_r5 : List Cond := [Cond.instanceMethod yX1_bear, Cond.selects RX1 yX1_bear yX1_bear, Cond.code yX1_bear cX1_bear 5 none, Cond.methodLink RX1 95 yX1_goOnIfTooManyBeats, Cond.instanceMethod yX1_goOnIfTooManyBeats, Cond.selects RX1 yX1_goOnIfTooManyBeats yX1_goOnIfTooManyBeats, Cond.code yX1_goOnIfTooManyBeats cX1_goOnIfTooManyBeats 3 none, Cond.methodLink RX1 102 yX1_placeInRow, Cond.instanceMethod yX1_placeInRow, Cond.selects RX1 yX1_placeInRow yX1_placeInRow, Cond.code yX1_placeInRow cX1_placeInRow 6 (some .boolean), Cond.methodLink RX1 116 yX1_beginRow, Cond.instanceMethod yX1_beginRow, Cond.selects RX1 yX1_beginRow yX1_beginRow, Cond.code yX1_beginRow cX1_beginRow 1 none]
def wsX4_change : List Cond := .code yX4_change cX4_change 4 (some .int) :: ((wsX4_change_r1 ++ (wsX4_change_r2 ++ (wsX4_change_r3 ++ (wsX4_change_r4 ++ wsX4_change_r5)))) ++ wsX40 ++ wsX20 ++ wsX10 ++ wsX00 ++ (vx_atS RX4 55 "java/lang/IndexOutOfBoundsException" ["java/lang/RuntimeException", "java/lang/Exception"]).filter goodWord ++ (vx_atS RX4 66 "java/lang/IllegalArgumentException" ["java/lang/RuntimeException", "java/lang/Exception"]).filter goodWord)
def wsX4_set_r1 : List Cond := [Cond.classLink RX4 62 "java/lang/IllegalArgumentException", Cond.initialized "java/lang/IllegalArgumentException", Cond.fieldLink RX4 12 "SplashPages" "now" "LSplashPages$Story;", Cond.fieldLink RX4 32 "SplashPages" "history" "LSplashPages$History;", Cond.fieldLink RX4 19 "SplashPages" "layout" "LSplashPages$Layout;", Cond.methodLink RX4 47 yX4_isWithin, Cond.static yX4_isWithin, Cond.initialized RX4, Cond.code yX4_isWithin cX4_isWithin 3 (some .boolean), Cond.instanceMethod yX0_save, Cond.initialized RX0, Cond.selects RX0 yX0_save yX0_save, Cond.code yX0_save cX0_save 3 none, Cond.fieldLink RX0 17 "SplashPages$History" "size" "I", Cond.methodLink RX0 22 yX0_dropOldest, Cond.instanceMethod yX0_dropOldest, Cond.selects RX0 yX0_dropOldest yX0_dropOldest, Cond.code yX0_dropOldest cX0_dropOldest 3 none, Cond.fieldLink RX0 11 "SplashPages$History" "states" "[LSplashPages$Story;", Cond.methodLink RX0 25 yX0_storyAt, Cond.instanceMethod yX0_storyAt, Cond.selects RX0 yX0_storyAt yX0_storyAt, Cond.code yX0_storyAt cX0_storyAt 2 (some (.object "SplashPages$Story")), Cond.instanceMethod yX2_copyFrom]
def wsX4_set_r2 : List Cond := [Cond.initialized RX2, Cond.selects RX2 yX2_copyFrom yX2_copyFrom, Cond.code yX2_copyFrom cX2_copyFrom 2 none, Cond.fieldLink RX2 9 "SplashPages$Story" "kinds" "[I", Cond.methodLink RX2 28 arraycopyName, Cond.native arraycopyName, Cond.static arraycopyName, Cond.initialized "java/lang/System", Cond.fieldLink RX2 15 "SplashPages$Story" "widths" "[I", Cond.fieldLink RX2 18 "SplashPages$Story" "beats" "[I", Cond.fieldLink RX2 21 "SplashPages$Story" "size" "I", Cond.fieldLink RX2 25 "SplashPages$Story" "setting" "I", Cond.instanceMethod yX1_pour, Cond.initialized RX1, Cond.selects RX1 yX1_pour yX1_pour, Cond.code yX1_pour cX1_pour 3 none, Cond.fieldLink RX1 55 "SplashPages$Layout" "leftOut" "I", Cond.methodLink RX1 58 yX1_clear, Cond.instanceMethod yX1_clear, Cond.selects RX1 yX1_clear yX1_clear, Cond.code yX1_clear cX1_clear 2 none, Cond.fieldLink RX1 21 "SplashPages$Layout" "pagePanels" "[I", Cond.fieldLink RX1 24 "SplashPages$Layout" "pageBeats" "[I", Cond.fieldLink RX1 27 "SplashPages$Layout" "pageFilled" "[I"]
def wsX4_set_r3 : List Cond := [Cond.fieldLink RX1 30 "SplashPages$Layout" "pageFirst" "[I", Cond.fieldLink RX1 33 "SplashPages$Layout" "pageBleeding" "[I", Cond.fieldLink RX1 46 "SplashPages$Layout" "used" "I", Cond.fieldLink RX1 49 "SplashPages$Layout" "bearing" "I", Cond.fieldLink RX1 52 "SplashPages$Layout" "filled" "I", Cond.methodLink RX1 74 yX1_beginPage, Cond.instanceMethod yX1_beginPage, Cond.selects RX1 yX1_beginPage yX1_beginPage, Cond.code yX1_beginPage cX1_beginPage 2 none, Cond.fieldLink RX1 36 "SplashPages$Layout" "pageOfNow" "I", Cond.fieldLink RX1 40 "SplashPages$Layout" "rowOfNow" "I", Cond.fieldLink RX1 43 "SplashPages$Layout" "nextUnit" "I", Cond.methodLink RX1 66 yX1_place, Cond.instanceMethod yX1_place, Cond.selects RX1 yX1_place yX1_place, Cond.code yX1_place cX1_place 5 (some .boolean), Cond.static yX4_read, Cond.code yX4_read cX4_read 2 (some .int), Cond.methodLink RX1 88 yX1_placeOnWholePages, Cond.instanceMethod yX1_placeOnWholePages, Cond.selects RX1 yX1_placeOnWholePages yX1_placeOnWholePages, Cond.code yX1_placeOnWholePages cX1_placeOnWholePages 5 (some .boolean), Cond.methodLink RX1 106 yX1_isBearing, Cond.instanceMethod yX1_isBearing]
def wsX4_set_r4 : List Cond := [Cond.selects RX1 yX1_isBearing yX1_isBearing, Cond.code yX1_isBearing cX1_isBearing 2 (some .boolean), Cond.methodLink RX1 110 yX1_isOnLeft, Cond.static yX1_isOnLeft, Cond.code yX1_isOnLeft cX1_isOnLeft 1 (some .boolean), Cond.methodLink RX1 70 yX1_note, Cond.instanceMethod yX1_note, Cond.selects RX1 yX1_note yX1_note, Cond.code yX1_note cX1_note 5 none, Cond.fieldLink RX1 9 "SplashPages$Layout" "pages" "[I", Cond.fieldLink RX1 15 "SplashPages$Layout" "rows" "[I", Cond.fieldLink RX1 18 "SplashPages$Layout" "units" "[I", Cond.methodLink RX1 113 yX1_bear, Cond.instanceMethod yX1_bear, Cond.selects RX1 yX1_bear yX1_bear, Cond.code yX1_bear cX1_bear 5 none, Cond.methodLink RX1 95 yX1_goOnIfTooManyBeats, Cond.instanceMethod yX1_goOnIfTooManyBeats, Cond.selects RX1 yX1_goOnIfTooManyBeats yX1_goOnIfTooManyBeats, Cond.code yX1_goOnIfTooManyBeats cX1_goOnIfTooManyBeats 3 none, Cond.methodLink RX1 102 yX1_placeInRow, Cond.instanceMethod yX1_placeInRow, Cond.selects RX1 yX1_placeInRow yX1_placeInRow, Cond.code yX1_placeInRow cX1_placeInRow 6 (some .boolean)]
def wsX4_set_r5 : List Cond := [Cond.methodLink RX1 116 yX1_beginRow, Cond.instanceMethod yX1_beginRow, Cond.selects RX1 yX1_beginRow yX1_beginRow, Cond.code yX1_beginRow cX1_beginRow 1 none, Cond.static yX4_write, Cond.code yX4_write cX4_write 3 none]
def wsX4_set : List Cond := .code yX4_set cX4_set 3 (some .int) :: ((wsX4_set_r1 ++ (wsX4_set_r2 ++ (wsX4_set_r3 ++ (wsX4_set_r4 ++ wsX4_set_r5)))) ++ wsX40 ++ wsX20 ++ wsX00 ++ wsX10 ++ (vx_atS RX4 66 "java/lang/IllegalArgumentException" ["java/lang/RuntimeException", "java/lang/Exception"]).filter goodWord)
def wsX4_numberOfPanel : List Cond := .code yX4_numberOfPanel cX4_numberOfPanel 3 (some .int) :: ([.fieldLink RX4 12 "SplashPages" "now" "LSplashPages$Story;", .fieldLink RX4 19 "SplashPages" "layout" "LSplashPages$Layout;", .methodLink RX4 201 yX4_read, .static yX4_read, .initialized RX4, .code yX4_read cX4_read 2 (some .int)] ++ wsX40 ++ wsX20 ++ wsX10)
def wsX4_panel : List Cond := .code yX4_panel cX4_panel 3 (some .int) :: ([.classLink RX4 51 "java/lang/IndexOutOfBoundsException", .initialized "java/lang/IndexOutOfBoundsException", .classLink RX4 62 "java/lang/IllegalArgumentException", .initialized "java/lang/IllegalArgumentException", .fieldLink RX4 12 "SplashPages" "now" "LSplashPages$Story;", .instanceMethod yX2_has, .initialized RX2, .selects RX2 yX2_has yX2_has, .code yX2_has cX2_has 2 (some .boolean), .fieldLink RX2 21 "SplashPages$Story" "size" "I", .methodLink RX4 47 yX4_isWithin, .static yX4_isWithin, .initialized RX4, .code yX4_isWithin cX4_isWithin 3 (some .boolean), .methodLink RX4 145 yX4_numberOfPanel, .instanceMethod yX4_numberOfPanel, .selects RX4 yX4_numberOfPanel yX4_numberOfPanel, .code yX4_numberOfPanel cX4_numberOfPanel 3 (some .int), .fieldLink RX4 19 "SplashPages" "layout" "LSplashPages$Layout;", .methodLink RX4 201 yX4_read, .static yX4_read, .code yX4_read cX4_read 2 (some .int)] ++ wsX40 ++ wsX20 ++ wsX10 ++ (vx_atS RX4 55 "java/lang/IndexOutOfBoundsException" ["java/lang/RuntimeException", "java/lang/Exception"]).filter goodWord ++ (vx_atS RX4 66 "java/lang/IllegalArgumentException" ["java/lang/RuntimeException", "java/lang/Exception"]).filter goodWord)
def wsX4_page_r1 : List Cond := [Cond.classLink RX4 51 "java/lang/IndexOutOfBoundsException", Cond.initialized "java/lang/IndexOutOfBoundsException", Cond.classLink RX4 62 "java/lang/IllegalArgumentException", Cond.initialized "java/lang/IllegalArgumentException", Cond.fieldLink RX4 19 "SplashPages" "layout" "LSplashPages$Layout;", Cond.methodLink RX4 47 yX4_isWithin, Cond.static yX4_isWithin, Cond.initialized RX4, Cond.code yX4_isWithin cX4_isWithin 3 (some .boolean), Cond.instanceMethod yX1_numberOfPage, Cond.initialized RX1, Cond.selects RX1 yX1_numberOfPage yX1_numberOfPage, Cond.code yX1_numberOfPage cX1_numberOfPage 3 (some .int), Cond.fieldLink RX1 21 "SplashPages$Layout" "pagePanels" "[I", Cond.fieldLink RX1 24 "SplashPages$Layout" "pageBeats" "[I", Cond.fieldLink RX1 27 "SplashPages$Layout" "pageFilled" "[I", Cond.fieldLink RX1 30 "SplashPages$Layout" "pageFirst" "[I", Cond.fieldLink RX1 46 "SplashPages$Layout" "used" "I", Cond.fieldLink RX1 33 "SplashPages$Layout" "pageBleeding" "[I", Cond.static yX4_read, Cond.code yX4_read cX4_read 2 (some .int), Cond.methodLink RX1 106 yX1_isBearing, Cond.instanceMethod yX1_isBearing, Cond.selects RX1 yX1_isBearing yX1_isBearing]
def wsX4_page_r2 : List Cond := [Cond.code yX1_isBearing cX1_isBearing 2 (some .boolean)]
def wsX4_page : List Cond := .code yX4_page cX4_page 3 (some .int) :: ((wsX4_page_r1 ++ wsX4_page_r2) ++ wsX40 ++ wsX10 ++ (vx_atS RX4 55 "java/lang/IndexOutOfBoundsException" ["java/lang/RuntimeException", "java/lang/Exception"]).filter goodWord ++ (vx_atS RX4 66 "java/lang/IllegalArgumentException" ["java/lang/RuntimeException", "java/lang/Exception"]).filter goodWord)
def wsX4_panelAt : List Cond := .code yX4_panelAt cX4_panelAt 9 (some .int) :: ([.fieldLink RX4 19 "SplashPages" "layout" "LSplashPages$Layout;", .fieldLink RX4 12 "SplashPages" "now" "LSplashPages$Story;", .methodLink RX4 201 yX4_read, .static yX4_read, .initialized RX4, .code yX4_read cX4_read 2 (some .int)] ++ wsX40 ++ wsX10 ++ wsX20)
def wsX4_at : List Cond := .code yX4_at cX4_at 4 (some .int) :: ([.classLink RX4 51 "java/lang/IndexOutOfBoundsException", .initialized "java/lang/IndexOutOfBoundsException", .methodLink RX4 47 yX4_isWithin, .static yX4_isWithin, .initialized RX4, .code yX4_isWithin cX4_isWithin 3 (some .boolean), .methodLink RX4 156 yX4_panelAt, .instanceMethod yX4_panelAt, .selects RX4 yX4_panelAt yX4_panelAt, .code yX4_panelAt cX4_panelAt 9 (some .int), .fieldLink RX4 19 "SplashPages" "layout" "LSplashPages$Layout;", .fieldLink RX4 12 "SplashPages" "now" "LSplashPages$Story;", .methodLink RX4 201 yX4_read, .static yX4_read, .code yX4_read cX4_read 2 (some .int)] ++ wsX40 ++ wsX10 ++ wsX20 ++ (vx_atS RX4 55 "java/lang/IndexOutOfBoundsException" ["java/lang/RuntimeException", "java/lang/Exception"]).filter goodWord)
def wsX4_numberInAll : List Cond := .code yX4_numberInAll cX4_numberInAll 2 (some .int) :: ([.fieldLink RX4 12 "SplashPages" "now" "LSplashPages$Story;", .fieldLink RX4 19 "SplashPages" "layout" "LSplashPages$Layout;", .fieldLink RX4 32 "SplashPages" "history" "LSplashPages$History;", .instanceMethod yX1_greatestBeats, .initialized RX1, .selects RX1 yX1_greatestBeats yX1_greatestBeats, .code yX1_greatestBeats cX1_greatestBeats 3 (some .int), .fieldLink RX1 24 "SplashPages$Layout" "pageBeats" "[I", .methodLink RX1 123 Lib.Math.max.name, .static Lib.Math.max.name, .initialized "java/lang/Math", .code Lib.Math.max.name Lib.Math.max.code 2 (some .int), .instanceMethod yX1_emptyUnits, .selects RX1 yX1_emptyUnits yX1_emptyUnits, .code yX1_emptyUnits cX1_emptyUnits 1 (some .int), .fieldLink RX1 49 "SplashPages$Layout" "bearing" "I", .fieldLink RX1 52 "SplashPages$Layout" "filled" "I", .instanceMethod yX1_greatestDifference, .selects RX1 yX1_greatestDifference yX1_greatestDifference, .code yX1_greatestDifference cX1_greatestDifference 3 (some .int), .methodLink RX1 129 Lib.Math.abs.name, .static Lib.Math.abs.name, .code Lib.Math.abs.name Lib.Math.abs.code 1 (some .int)] ++ wsX40 ++ wsX20 ++ wsX10 ++ wsX00)
def wsX4_count_r1 : List Cond := [Cond.classLink RX4 62 "java/lang/IllegalArgumentException", Cond.initialized "java/lang/IllegalArgumentException", Cond.methodLink RX4 47 yX4_isWithin, Cond.static yX4_isWithin, Cond.initialized RX4, Cond.code yX4_isWithin cX4_isWithin 3 (some .boolean), Cond.methodLink RX4 162 yX4_numberInAll, Cond.instanceMethod yX4_numberInAll, Cond.selects RX4 yX4_numberInAll yX4_numberInAll, Cond.code yX4_numberInAll cX4_numberInAll 2 (some .int), Cond.fieldLink RX4 12 "SplashPages" "now" "LSplashPages$Story;", Cond.fieldLink RX4 19 "SplashPages" "layout" "LSplashPages$Layout;", Cond.fieldLink RX4 32 "SplashPages" "history" "LSplashPages$History;", Cond.instanceMethod yX1_greatestBeats, Cond.initialized RX1, Cond.selects RX1 yX1_greatestBeats yX1_greatestBeats, Cond.code yX1_greatestBeats cX1_greatestBeats 3 (some .int), Cond.fieldLink RX1 24 "SplashPages$Layout" "pageBeats" "[I", Cond.methodLink RX1 123 Lib.Math.max.name, Cond.static Lib.Math.max.name, Cond.initialized "java/lang/Math", Cond.code Lib.Math.max.name Lib.Math.max.code 2 (some .int), Cond.instanceMethod yX1_emptyUnits, Cond.selects RX1 yX1_emptyUnits yX1_emptyUnits]
def wsX4_count_r2 : List Cond := [Cond.code yX1_emptyUnits cX1_emptyUnits 1 (some .int), Cond.fieldLink RX1 49 "SplashPages$Layout" "bearing" "I", Cond.fieldLink RX1 52 "SplashPages$Layout" "filled" "I", Cond.instanceMethod yX1_greatestDifference, Cond.selects RX1 yX1_greatestDifference yX1_greatestDifference, Cond.code yX1_greatestDifference cX1_greatestDifference 3 (some .int), Cond.methodLink RX1 129 Lib.Math.abs.name, Cond.static Lib.Math.abs.name, Cond.code Lib.Math.abs.name Lib.Math.abs.code 1 (some .int)]
def wsX4_count : List Cond := .code yX4_count cX4_count 2 (some .int) :: ((wsX4_count_r1 ++ wsX4_count_r2) ++ wsX40 ++ wsX20 ++ wsX10 ++ wsX00 ++ (vx_atS RX4 66 "java/lang/IllegalArgumentException" ["java/lang/RuntimeException", "java/lang/Exception"]).filter goodWord)
def wsX4_afterExchange_r1 : List Cond := [Cond.fieldLink RX4 23 "SplashPages" "trial" "LSplashPages$Story;", Cond.fieldLink RX4 12 "SplashPages" "now" "LSplashPages$Story;", Cond.fieldLink RX4 26 "SplashPages" "trialLayout" "LSplashPages$Layout;", Cond.instanceMethod yX2_copyFrom, Cond.initialized RX2, Cond.selects RX2 yX2_copyFrom yX2_copyFrom, Cond.code yX2_copyFrom cX2_copyFrom 2 none, Cond.fieldLink RX2 9 "SplashPages$Story" "kinds" "[I", Cond.methodLink RX2 28 arraycopyName, Cond.native arraycopyName, Cond.static arraycopyName, Cond.initialized "java/lang/System", Cond.fieldLink RX2 15 "SplashPages$Story" "widths" "[I", Cond.fieldLink RX2 18 "SplashPages$Story" "beats" "[I", Cond.fieldLink RX2 21 "SplashPages$Story" "size" "I", Cond.fieldLink RX2 25 "SplashPages$Story" "setting" "I", Cond.instanceMethod yX2_exchangeWithNext, Cond.selects RX2 yX2_exchangeWithNext yX2_exchangeWithNext, Cond.code yX2_exchangeWithNext cX2_exchangeWithNext 2 none, Cond.methodLink RX2 46 yX2_exchangeInRow, Cond.static yX2_exchangeInRow, Cond.code yX2_exchangeInRow cX2_exchangeInRow 3 none, Cond.static yX4_read, Cond.initialized RX4]
def wsX4_afterExchange_r2 : List Cond := [Cond.code yX4_read cX4_read 2 (some .int), Cond.static yX4_write, Cond.code yX4_write cX4_write 3 none, Cond.instanceMethod yX1_pour, Cond.initialized RX1, Cond.selects RX1 yX1_pour yX1_pour, Cond.code yX1_pour cX1_pour 3 none, Cond.fieldLink RX1 55 "SplashPages$Layout" "leftOut" "I", Cond.methodLink RX1 58 yX1_clear, Cond.instanceMethod yX1_clear, Cond.selects RX1 yX1_clear yX1_clear, Cond.code yX1_clear cX1_clear 2 none, Cond.fieldLink RX1 21 "SplashPages$Layout" "pagePanels" "[I", Cond.fieldLink RX1 24 "SplashPages$Layout" "pageBeats" "[I", Cond.fieldLink RX1 27 "SplashPages$Layout" "pageFilled" "[I", Cond.fieldLink RX1 30 "SplashPages$Layout" "pageFirst" "[I", Cond.fieldLink RX1 33 "SplashPages$Layout" "pageBleeding" "[I", Cond.fieldLink RX1 46 "SplashPages$Layout" "used" "I", Cond.fieldLink RX1 49 "SplashPages$Layout" "bearing" "I", Cond.fieldLink RX1 52 "SplashPages$Layout" "filled" "I", Cond.methodLink RX1 74 yX1_beginPage, Cond.instanceMethod yX1_beginPage, Cond.selects RX1 yX1_beginPage yX1_beginPage, Cond.code yX1_beginPage cX1_beginPage 2 none]
def wsX4_afterExchange_r3 : List Cond := [Cond.fieldLink RX1 36 "SplashPages$Layout" "pageOfNow" "I", Cond.fieldLink RX1 40 "SplashPages$Layout" "rowOfNow" "I", Cond.fieldLink RX1 43 "SplashPages$Layout" "nextUnit" "I", Cond.methodLink RX1 66 yX1_place, Cond.instanceMethod yX1_place, Cond.selects RX1 yX1_place yX1_place, Cond.code yX1_place cX1_place 5 (some .boolean), Cond.methodLink RX1 88 yX1_placeOnWholePages, Cond.instanceMethod yX1_placeOnWholePages, Cond.selects RX1 yX1_placeOnWholePages yX1_placeOnWholePages, Cond.code yX1_placeOnWholePages cX1_placeOnWholePages 5 (some .boolean), Cond.methodLink RX1 106 yX1_isBearing, Cond.instanceMethod yX1_isBearing, Cond.selects RX1 yX1_isBearing yX1_isBearing, Cond.code yX1_isBearing cX1_isBearing 2 (some .boolean), Cond.methodLink RX1 110 yX1_isOnLeft, Cond.static yX1_isOnLeft, Cond.code yX1_isOnLeft cX1_isOnLeft 1 (some .boolean), Cond.methodLink RX1 70 yX1_note, Cond.instanceMethod yX1_note, Cond.selects RX1 yX1_note yX1_note, Cond.code yX1_note cX1_note 5 none, Cond.fieldLink RX1 9 "SplashPages$Layout" "pages" "[I", Cond.fieldLink RX1 15 "SplashPages$Layout" "rows" "[I"]
def wsX4_afterExchange_r4 : List Cond := [Cond.fieldLink RX1 18 "SplashPages$Layout" "units" "[I", Cond.methodLink RX1 113 yX1_bear, Cond.instanceMethod yX1_bear, Cond.selects RX1 yX1_bear yX1_bear, Cond.code yX1_bear cX1_bear 5 none, Cond.methodLink RX1 95 yX1_goOnIfTooManyBeats, Cond.instanceMethod yX1_goOnIfTooManyBeats, Cond.selects RX1 yX1_goOnIfTooManyBeats yX1_goOnIfTooManyBeats, Cond.code yX1_goOnIfTooManyBeats cX1_goOnIfTooManyBeats 3 none, Cond.methodLink RX1 102 yX1_placeInRow, Cond.instanceMethod yX1_placeInRow, Cond.selects RX1 yX1_placeInRow yX1_placeInRow, Cond.code yX1_placeInRow cX1_placeInRow 6 (some .boolean), Cond.methodLink RX1 116 yX1_beginRow, Cond.instanceMethod yX1_beginRow, Cond.selects RX1 yX1_beginRow yX1_beginRow, Cond.code yX1_beginRow cX1_beginRow 1 none, Cond.instanceMethod yX1_emptyUnits, Cond.selects RX1 yX1_emptyUnits yX1_emptyUnits, Cond.code yX1_emptyUnits cX1_emptyUnits 1 (some .int)]
def wsX4_afterExchange : List Cond := .code yX4_afterExchange cX4_afterExchange 3 (some .int) :: ((wsX4_afterExchange_r1 ++ (wsX4_afterExchange_r2 ++ (wsX4_afterExchange_r3 ++ wsX4_afterExchange_r4))) ++ wsX40 ++ wsX10 ++ wsX20)
def wsX4_ifExchanged_r1 : List Cond := [Cond.classLink RX4 51 "java/lang/IndexOutOfBoundsException", Cond.initialized "java/lang/IndexOutOfBoundsException", Cond.classLink RX4 62 "java/lang/IllegalArgumentException", Cond.initialized "java/lang/IllegalArgumentException", Cond.fieldLink RX4 12 "SplashPages" "now" "LSplashPages$Story;", Cond.instanceMethod yX2_has, Cond.initialized RX2, Cond.selects RX2 yX2_has yX2_has, Cond.code yX2_has cX2_has 2 (some .boolean), Cond.fieldLink RX2 21 "SplashPages$Story" "size" "I", Cond.methodLink RX4 47 yX4_isWithin, Cond.static yX4_isWithin, Cond.initialized RX4, Cond.code yX4_isWithin cX4_isWithin 3 (some .boolean), Cond.methodLink RX4 170 yX4_afterExchange, Cond.instanceMethod yX4_afterExchange, Cond.selects RX4 yX4_afterExchange yX4_afterExchange, Cond.code yX4_afterExchange cX4_afterExchange 3 (some .int), Cond.fieldLink RX4 23 "SplashPages" "trial" "LSplashPages$Story;", Cond.fieldLink RX4 26 "SplashPages" "trialLayout" "LSplashPages$Layout;", Cond.instanceMethod yX2_copyFrom, Cond.selects RX2 yX2_copyFrom yX2_copyFrom, Cond.code yX2_copyFrom cX2_copyFrom 2 none, Cond.fieldLink RX2 9 "SplashPages$Story" "kinds" "[I"]
def wsX4_ifExchanged_r2 : List Cond := [Cond.methodLink RX2 28 arraycopyName, Cond.native arraycopyName, Cond.static arraycopyName, Cond.initialized "java/lang/System", Cond.fieldLink RX2 15 "SplashPages$Story" "widths" "[I", Cond.fieldLink RX2 18 "SplashPages$Story" "beats" "[I", Cond.fieldLink RX2 25 "SplashPages$Story" "setting" "I", Cond.instanceMethod yX2_exchangeWithNext, Cond.selects RX2 yX2_exchangeWithNext yX2_exchangeWithNext, Cond.code yX2_exchangeWithNext cX2_exchangeWithNext 2 none, Cond.methodLink RX2 46 yX2_exchangeInRow, Cond.static yX2_exchangeInRow, Cond.code yX2_exchangeInRow cX2_exchangeInRow 3 none, Cond.static yX4_read, Cond.code yX4_read cX4_read 2 (some .int), Cond.static yX4_write, Cond.code yX4_write cX4_write 3 none, Cond.instanceMethod yX1_pour, Cond.initialized RX1, Cond.selects RX1 yX1_pour yX1_pour, Cond.code yX1_pour cX1_pour 3 none, Cond.fieldLink RX1 55 "SplashPages$Layout" "leftOut" "I", Cond.methodLink RX1 58 yX1_clear, Cond.instanceMethod yX1_clear]
def wsX4_ifExchanged_r3 : List Cond := [Cond.selects RX1 yX1_clear yX1_clear, Cond.code yX1_clear cX1_clear 2 none, Cond.fieldLink RX1 21 "SplashPages$Layout" "pagePanels" "[I", Cond.fieldLink RX1 24 "SplashPages$Layout" "pageBeats" "[I", Cond.fieldLink RX1 27 "SplashPages$Layout" "pageFilled" "[I", Cond.fieldLink RX1 30 "SplashPages$Layout" "pageFirst" "[I", Cond.fieldLink RX1 33 "SplashPages$Layout" "pageBleeding" "[I", Cond.fieldLink RX1 46 "SplashPages$Layout" "used" "I", Cond.fieldLink RX1 49 "SplashPages$Layout" "bearing" "I", Cond.fieldLink RX1 52 "SplashPages$Layout" "filled" "I", Cond.methodLink RX1 74 yX1_beginPage, Cond.instanceMethod yX1_beginPage, Cond.selects RX1 yX1_beginPage yX1_beginPage, Cond.code yX1_beginPage cX1_beginPage 2 none, Cond.fieldLink RX1 36 "SplashPages$Layout" "pageOfNow" "I", Cond.fieldLink RX1 40 "SplashPages$Layout" "rowOfNow" "I", Cond.fieldLink RX1 43 "SplashPages$Layout" "nextUnit" "I", Cond.methodLink RX1 66 yX1_place, Cond.instanceMethod yX1_place, Cond.selects RX1 yX1_place yX1_place, Cond.code yX1_place cX1_place 5 (some .boolean), Cond.methodLink RX1 88 yX1_placeOnWholePages, Cond.instanceMethod yX1_placeOnWholePages, Cond.selects RX1 yX1_placeOnWholePages yX1_placeOnWholePages]
def wsX4_ifExchanged_r4 : List Cond := [Cond.code yX1_placeOnWholePages cX1_placeOnWholePages 5 (some .boolean), Cond.methodLink RX1 106 yX1_isBearing, Cond.instanceMethod yX1_isBearing, Cond.selects RX1 yX1_isBearing yX1_isBearing, Cond.code yX1_isBearing cX1_isBearing 2 (some .boolean), Cond.methodLink RX1 110 yX1_isOnLeft, Cond.static yX1_isOnLeft, Cond.code yX1_isOnLeft cX1_isOnLeft 1 (some .boolean), Cond.methodLink RX1 70 yX1_note, Cond.instanceMethod yX1_note, Cond.selects RX1 yX1_note yX1_note, Cond.code yX1_note cX1_note 5 none, Cond.fieldLink RX1 9 "SplashPages$Layout" "pages" "[I", Cond.fieldLink RX1 15 "SplashPages$Layout" "rows" "[I", Cond.fieldLink RX1 18 "SplashPages$Layout" "units" "[I", Cond.methodLink RX1 113 yX1_bear, Cond.instanceMethod yX1_bear, Cond.selects RX1 yX1_bear yX1_bear, Cond.code yX1_bear cX1_bear 5 none, Cond.methodLink RX1 95 yX1_goOnIfTooManyBeats, Cond.instanceMethod yX1_goOnIfTooManyBeats, Cond.selects RX1 yX1_goOnIfTooManyBeats yX1_goOnIfTooManyBeats, Cond.code yX1_goOnIfTooManyBeats cX1_goOnIfTooManyBeats 3 none, Cond.methodLink RX1 102 yX1_placeInRow]
def wsX4_ifExchanged_r5 : List Cond := [Cond.instanceMethod yX1_placeInRow, Cond.selects RX1 yX1_placeInRow yX1_placeInRow, Cond.code yX1_placeInRow cX1_placeInRow 6 (some .boolean), Cond.methodLink RX1 116 yX1_beginRow, Cond.instanceMethod yX1_beginRow, Cond.selects RX1 yX1_beginRow yX1_beginRow, Cond.code yX1_beginRow cX1_beginRow 1 none, Cond.instanceMethod yX1_emptyUnits, Cond.selects RX1 yX1_emptyUnits yX1_emptyUnits, Cond.code yX1_emptyUnits cX1_emptyUnits 1 (some .int)]
def wsX4_ifExchanged : List Cond := .code yX4_ifExchanged cX4_ifExchanged 3 (some .int) :: ((wsX4_ifExchanged_r1 ++ (wsX4_ifExchanged_r2 ++ (wsX4_ifExchanged_r3 ++ (wsX4_ifExchanged_r4 ++ wsX4_ifExchanged_r5)))) ++ wsX40 ++ wsX20 ++ wsX10 ++ (vx_atS RX4 55 "java/lang/IndexOutOfBoundsException" ["java/lang/RuntimeException", "java/lang/Exception"]).filter goodWord ++ (vx_atS RX4 66 "java/lang/IllegalArgumentException" ["java/lang/RuntimeException", "java/lang/Exception"]).filter goodWord)
def wsX4_leastThatServes_r1 : List Cond := [Cond.fieldLink RX4 23 "SplashPages" "trial" "LSplashPages$Story;", Cond.fieldLink RX4 12 "SplashPages" "now" "LSplashPages$Story;", Cond.fieldLink RX4 26 "SplashPages" "trialLayout" "LSplashPages$Layout;", Cond.fieldLink RX4 19 "SplashPages" "layout" "LSplashPages$Layout;", Cond.instanceMethod yX2_copyFrom, Cond.initialized RX2, Cond.selects RX2 yX2_copyFrom yX2_copyFrom, Cond.code yX2_copyFrom cX2_copyFrom 2 none, Cond.fieldLink RX2 9 "SplashPages$Story" "kinds" "[I", Cond.methodLink RX2 28 arraycopyName, Cond.native arraycopyName, Cond.static arraycopyName, Cond.initialized "java/lang/System", Cond.fieldLink RX2 15 "SplashPages$Story" "widths" "[I", Cond.fieldLink RX2 18 "SplashPages$Story" "beats" "[I", Cond.fieldLink RX2 21 "SplashPages$Story" "size" "I", Cond.fieldLink RX2 25 "SplashPages$Story" "setting" "I", Cond.instanceMethod yX1_pour, Cond.initialized RX1, Cond.selects RX1 yX1_pour yX1_pour, Cond.code yX1_pour cX1_pour 3 none, Cond.fieldLink RX1 55 "SplashPages$Layout" "leftOut" "I", Cond.methodLink RX1 58 yX1_clear, Cond.instanceMethod yX1_clear]
def wsX4_leastThatServes_r2 : List Cond := [Cond.selects RX1 yX1_clear yX1_clear, Cond.code yX1_clear cX1_clear 2 none, Cond.fieldLink RX1 21 "SplashPages$Layout" "pagePanels" "[I", Cond.fieldLink RX1 24 "SplashPages$Layout" "pageBeats" "[I", Cond.fieldLink RX1 27 "SplashPages$Layout" "pageFilled" "[I", Cond.fieldLink RX1 30 "SplashPages$Layout" "pageFirst" "[I", Cond.fieldLink RX1 33 "SplashPages$Layout" "pageBleeding" "[I", Cond.fieldLink RX1 46 "SplashPages$Layout" "used" "I", Cond.fieldLink RX1 49 "SplashPages$Layout" "bearing" "I", Cond.fieldLink RX1 52 "SplashPages$Layout" "filled" "I", Cond.methodLink RX1 74 yX1_beginPage, Cond.instanceMethod yX1_beginPage, Cond.selects RX1 yX1_beginPage yX1_beginPage, Cond.code yX1_beginPage cX1_beginPage 2 none, Cond.fieldLink RX1 36 "SplashPages$Layout" "pageOfNow" "I", Cond.fieldLink RX1 40 "SplashPages$Layout" "rowOfNow" "I", Cond.fieldLink RX1 43 "SplashPages$Layout" "nextUnit" "I", Cond.methodLink RX1 66 yX1_place, Cond.instanceMethod yX1_place, Cond.selects RX1 yX1_place yX1_place, Cond.code yX1_place cX1_place 5 (some .boolean), Cond.static yX4_read, Cond.initialized RX4, Cond.code yX4_read cX4_read 2 (some .int)]
def wsX4_leastThatServes_r3 : List Cond := [Cond.methodLink RX1 88 yX1_placeOnWholePages, Cond.instanceMethod yX1_placeOnWholePages, Cond.selects RX1 yX1_placeOnWholePages yX1_placeOnWholePages, Cond.code yX1_placeOnWholePages cX1_placeOnWholePages 5 (some .boolean), Cond.methodLink RX1 106 yX1_isBearing, Cond.instanceMethod yX1_isBearing, Cond.selects RX1 yX1_isBearing yX1_isBearing, Cond.code yX1_isBearing cX1_isBearing 2 (some .boolean), Cond.methodLink RX1 110 yX1_isOnLeft, Cond.static yX1_isOnLeft, Cond.code yX1_isOnLeft cX1_isOnLeft 1 (some .boolean), Cond.methodLink RX1 70 yX1_note, Cond.instanceMethod yX1_note, Cond.selects RX1 yX1_note yX1_note, Cond.code yX1_note cX1_note 5 none, Cond.fieldLink RX1 9 "SplashPages$Layout" "pages" "[I", Cond.fieldLink RX1 15 "SplashPages$Layout" "rows" "[I", Cond.fieldLink RX1 18 "SplashPages$Layout" "units" "[I", Cond.methodLink RX1 113 yX1_bear, Cond.instanceMethod yX1_bear, Cond.selects RX1 yX1_bear yX1_bear, Cond.code yX1_bear cX1_bear 5 none, Cond.methodLink RX1 95 yX1_goOnIfTooManyBeats, Cond.instanceMethod yX1_goOnIfTooManyBeats]
def wsX4_leastThatServes_r4 : List Cond := [Cond.selects RX1 yX1_goOnIfTooManyBeats yX1_goOnIfTooManyBeats, Cond.code yX1_goOnIfTooManyBeats cX1_goOnIfTooManyBeats 3 none, Cond.methodLink RX1 102 yX1_placeInRow, Cond.instanceMethod yX1_placeInRow, Cond.selects RX1 yX1_placeInRow yX1_placeInRow, Cond.code yX1_placeInRow cX1_placeInRow 6 (some .boolean), Cond.methodLink RX1 116 yX1_beginRow, Cond.instanceMethod yX1_beginRow, Cond.selects RX1 yX1_beginRow yX1_beginRow, Cond.code yX1_beginRow cX1_beginRow 1 none, Cond.static yX4_write, Cond.code yX4_write cX4_write 3 none]
def wsX4_leastThatServes : List Cond := .code yX4_leastThatServes cX4_leastThatServes 2 (some .int) :: ((wsX4_leastThatServes_r1 ++ (wsX4_leastThatServes_r2 ++ (wsX4_leastThatServes_r3 ++ wsX4_leastThatServes_r4))) ++ wsX40 ++ wsX20 ++ wsX10)
def wsX4_leastSetting_r1 : List Cond := [Cond.methodLink RX4 173 yX4_leastThatServes, Cond.instanceMethod yX4_leastThatServes, Cond.selects RX4 yX4_leastThatServes yX4_leastThatServes, Cond.initialized RX4, Cond.code yX4_leastThatServes cX4_leastThatServes 2 (some .int), Cond.fieldLink RX4 23 "SplashPages" "trial" "LSplashPages$Story;", Cond.fieldLink RX4 12 "SplashPages" "now" "LSplashPages$Story;", Cond.fieldLink RX4 26 "SplashPages" "trialLayout" "LSplashPages$Layout;", Cond.fieldLink RX4 19 "SplashPages" "layout" "LSplashPages$Layout;", Cond.instanceMethod yX2_copyFrom, Cond.initialized RX2, Cond.selects RX2 yX2_copyFrom yX2_copyFrom, Cond.code yX2_copyFrom cX2_copyFrom 2 none, Cond.fieldLink RX2 9 "SplashPages$Story" "kinds" "[I", Cond.methodLink RX2 28 arraycopyName, Cond.native arraycopyName, Cond.static arraycopyName, Cond.initialized "java/lang/System", Cond.fieldLink RX2 15 "SplashPages$Story" "widths" "[I", Cond.fieldLink RX2 18 "SplashPages$Story" "beats" "[I", Cond.fieldLink RX2 21 "SplashPages$Story" "size" "I", Cond.fieldLink RX2 25 "SplashPages$Story" "setting" "I", Cond.instanceMethod yX1_pour, Cond.initialized RX1]
def wsX4_leastSetting_r2 : List Cond := [Cond.selects RX1 yX1_pour yX1_pour, Cond.code yX1_pour cX1_pour 3 none, Cond.fieldLink RX1 55 "SplashPages$Layout" "leftOut" "I", Cond.methodLink RX1 58 yX1_clear, Cond.instanceMethod yX1_clear, Cond.selects RX1 yX1_clear yX1_clear, Cond.code yX1_clear cX1_clear 2 none, Cond.fieldLink RX1 21 "SplashPages$Layout" "pagePanels" "[I", Cond.fieldLink RX1 24 "SplashPages$Layout" "pageBeats" "[I", Cond.fieldLink RX1 27 "SplashPages$Layout" "pageFilled" "[I", Cond.fieldLink RX1 30 "SplashPages$Layout" "pageFirst" "[I", Cond.fieldLink RX1 33 "SplashPages$Layout" "pageBleeding" "[I", Cond.fieldLink RX1 46 "SplashPages$Layout" "used" "I", Cond.fieldLink RX1 49 "SplashPages$Layout" "bearing" "I", Cond.fieldLink RX1 52 "SplashPages$Layout" "filled" "I", Cond.methodLink RX1 74 yX1_beginPage, Cond.instanceMethod yX1_beginPage, Cond.selects RX1 yX1_beginPage yX1_beginPage, Cond.code yX1_beginPage cX1_beginPage 2 none, Cond.fieldLink RX1 36 "SplashPages$Layout" "pageOfNow" "I", Cond.fieldLink RX1 40 "SplashPages$Layout" "rowOfNow" "I", Cond.fieldLink RX1 43 "SplashPages$Layout" "nextUnit" "I", Cond.methodLink RX1 66 yX1_place, Cond.instanceMethod yX1_place]
def wsX4_leastSetting_r3 : List Cond := [Cond.selects RX1 yX1_place yX1_place, Cond.code yX1_place cX1_place 5 (some .boolean), Cond.static yX4_read, Cond.code yX4_read cX4_read 2 (some .int), Cond.methodLink RX1 88 yX1_placeOnWholePages, Cond.instanceMethod yX1_placeOnWholePages, Cond.selects RX1 yX1_placeOnWholePages yX1_placeOnWholePages, Cond.code yX1_placeOnWholePages cX1_placeOnWholePages 5 (some .boolean), Cond.methodLink RX1 106 yX1_isBearing, Cond.instanceMethod yX1_isBearing, Cond.selects RX1 yX1_isBearing yX1_isBearing, Cond.code yX1_isBearing cX1_isBearing 2 (some .boolean), Cond.methodLink RX1 110 yX1_isOnLeft, Cond.static yX1_isOnLeft, Cond.code yX1_isOnLeft cX1_isOnLeft 1 (some .boolean), Cond.methodLink RX1 70 yX1_note, Cond.instanceMethod yX1_note, Cond.selects RX1 yX1_note yX1_note, Cond.code yX1_note cX1_note 5 none, Cond.fieldLink RX1 9 "SplashPages$Layout" "pages" "[I", Cond.fieldLink RX1 15 "SplashPages$Layout" "rows" "[I", Cond.fieldLink RX1 18 "SplashPages$Layout" "units" "[I", Cond.methodLink RX1 113 yX1_bear, Cond.instanceMethod yX1_bear]
def wsX4_leastSetting_r4 : List Cond := [Cond.selects RX1 yX1_bear yX1_bear, Cond.code yX1_bear cX1_bear 5 none, Cond.methodLink RX1 95 yX1_goOnIfTooManyBeats, Cond.instanceMethod yX1_goOnIfTooManyBeats, Cond.selects RX1 yX1_goOnIfTooManyBeats yX1_goOnIfTooManyBeats, Cond.code yX1_goOnIfTooManyBeats cX1_goOnIfTooManyBeats 3 none, Cond.methodLink RX1 102 yX1_placeInRow, Cond.instanceMethod yX1_placeInRow, Cond.selects RX1 yX1_placeInRow yX1_placeInRow, Cond.code yX1_placeInRow cX1_placeInRow 6 (some .boolean), Cond.methodLink RX1 116 yX1_beginRow, Cond.instanceMethod yX1_beginRow, Cond.selects RX1 yX1_beginRow yX1_beginRow, Cond.code yX1_beginRow cX1_beginRow 1 none, Cond.static yX4_write, Cond.code yX4_write cX4_write 3 none]
def wsX4_leastSetting : List Cond := .code yX4_leastSetting cX4_leastSetting 1 (some .int) :: ((wsX4_leastSetting_r1 ++ (wsX4_leastSetting_r2 ++ (wsX4_leastSetting_r3 ++ wsX4_leastSetting_r4))) ++ wsX40 ++ wsX20 ++ wsX10)
def wsX4_widthOfLeastCost_r1 : List Cond := [Cond.fieldLink RX4 23 "SplashPages" "trial" "LSplashPages$Story;", Cond.fieldLink RX4 12 "SplashPages" "now" "LSplashPages$Story;", Cond.fieldLink RX4 26 "SplashPages" "trialLayout" "LSplashPages$Layout;", Cond.instanceMethod yX2_copyFrom, Cond.initialized RX2, Cond.selects RX2 yX2_copyFrom yX2_copyFrom, Cond.code yX2_copyFrom cX2_copyFrom 2 none, Cond.fieldLink RX2 9 "SplashPages$Story" "kinds" "[I", Cond.methodLink RX2 28 arraycopyName, Cond.native arraycopyName, Cond.static arraycopyName, Cond.initialized "java/lang/System", Cond.fieldLink RX2 15 "SplashPages$Story" "widths" "[I", Cond.fieldLink RX2 18 "SplashPages$Story" "beats" "[I", Cond.fieldLink RX2 21 "SplashPages$Story" "size" "I", Cond.fieldLink RX2 25 "SplashPages$Story" "setting" "I", Cond.methodLink RX4 99 yX4_write, Cond.static yX4_write, Cond.initialized RX4, Cond.code yX4_write cX4_write 3 none, Cond.instanceMethod yX1_pour, Cond.initialized RX1, Cond.selects RX1 yX1_pour yX1_pour, Cond.code yX1_pour cX1_pour 3 none]
def wsX4_widthOfLeastCost_r2 : List Cond := [Cond.fieldLink RX1 55 "SplashPages$Layout" "leftOut" "I", Cond.methodLink RX1 58 yX1_clear, Cond.instanceMethod yX1_clear, Cond.selects RX1 yX1_clear yX1_clear, Cond.code yX1_clear cX1_clear 2 none, Cond.fieldLink RX1 21 "SplashPages$Layout" "pagePanels" "[I", Cond.fieldLink RX1 24 "SplashPages$Layout" "pageBeats" "[I", Cond.fieldLink RX1 27 "SplashPages$Layout" "pageFilled" "[I", Cond.fieldLink RX1 30 "SplashPages$Layout" "pageFirst" "[I", Cond.fieldLink RX1 33 "SplashPages$Layout" "pageBleeding" "[I", Cond.fieldLink RX1 46 "SplashPages$Layout" "used" "I", Cond.fieldLink RX1 49 "SplashPages$Layout" "bearing" "I", Cond.fieldLink RX1 52 "SplashPages$Layout" "filled" "I", Cond.methodLink RX1 74 yX1_beginPage, Cond.instanceMethod yX1_beginPage, Cond.selects RX1 yX1_beginPage yX1_beginPage, Cond.code yX1_beginPage cX1_beginPage 2 none, Cond.fieldLink RX1 36 "SplashPages$Layout" "pageOfNow" "I", Cond.fieldLink RX1 40 "SplashPages$Layout" "rowOfNow" "I", Cond.fieldLink RX1 43 "SplashPages$Layout" "nextUnit" "I", Cond.methodLink RX1 66 yX1_place, Cond.instanceMethod yX1_place, Cond.selects RX1 yX1_place yX1_place, Cond.code yX1_place cX1_place 5 (some .boolean)]
def wsX4_widthOfLeastCost_r3 : List Cond := [Cond.static yX4_read, Cond.code yX4_read cX4_read 2 (some .int), Cond.methodLink RX1 88 yX1_placeOnWholePages, Cond.instanceMethod yX1_placeOnWholePages, Cond.selects RX1 yX1_placeOnWholePages yX1_placeOnWholePages, Cond.code yX1_placeOnWholePages cX1_placeOnWholePages 5 (some .boolean), Cond.methodLink RX1 106 yX1_isBearing, Cond.instanceMethod yX1_isBearing, Cond.selects RX1 yX1_isBearing yX1_isBearing, Cond.code yX1_isBearing cX1_isBearing 2 (some .boolean), Cond.methodLink RX1 110 yX1_isOnLeft, Cond.static yX1_isOnLeft, Cond.code yX1_isOnLeft cX1_isOnLeft 1 (some .boolean), Cond.methodLink RX1 70 yX1_note, Cond.instanceMethod yX1_note, Cond.selects RX1 yX1_note yX1_note, Cond.code yX1_note cX1_note 5 none, Cond.fieldLink RX1 9 "SplashPages$Layout" "pages" "[I", Cond.fieldLink RX1 15 "SplashPages$Layout" "rows" "[I", Cond.fieldLink RX1 18 "SplashPages$Layout" "units" "[I", Cond.methodLink RX1 113 yX1_bear, Cond.instanceMethod yX1_bear, Cond.selects RX1 yX1_bear yX1_bear, Cond.code yX1_bear cX1_bear 5 none]
def wsX4_widthOfLeastCost_r4 : List Cond := [Cond.methodLink RX1 95 yX1_goOnIfTooManyBeats, Cond.instanceMethod yX1_goOnIfTooManyBeats, Cond.selects RX1 yX1_goOnIfTooManyBeats yX1_goOnIfTooManyBeats, Cond.code yX1_goOnIfTooManyBeats cX1_goOnIfTooManyBeats 3 none, Cond.methodLink RX1 102 yX1_placeInRow, Cond.instanceMethod yX1_placeInRow, Cond.selects RX1 yX1_placeInRow yX1_placeInRow, Cond.code yX1_placeInRow cX1_placeInRow 6 (some .boolean), Cond.methodLink RX1 116 yX1_beginRow, Cond.instanceMethod yX1_beginRow, Cond.selects RX1 yX1_beginRow yX1_beginRow, Cond.code yX1_beginRow cX1_beginRow 1 none, Cond.instanceMethod yX1_cost, Cond.selects RX1 yX1_cost yX1_cost, Cond.code yX1_cost cX1_cost 1 (some .int), Cond.methodLink RX1 133 yX1_emptyUnits, Cond.instanceMethod yX1_emptyUnits, Cond.selects RX1 yX1_emptyUnits yX1_emptyUnits, Cond.code yX1_emptyUnits cX1_emptyUnits 1 (some .int)]
def wsX4_widthOfLeastCost : List Cond := .code yX4_widthOfLeastCost cX4_widthOfLeastCost 6 (some .int) :: ((wsX4_widthOfLeastCost_r1 ++ (wsX4_widthOfLeastCost_r2 ++ (wsX4_widthOfLeastCost_r3 ++ wsX4_widthOfLeastCost_r4))) ++ wsX40 ++ wsX20 ++ wsX10)
def wsX4_bestWidth_r1 : List Cond := [Cond.classLink RX4 51 "java/lang/IndexOutOfBoundsException", Cond.initialized "java/lang/IndexOutOfBoundsException", Cond.fieldLink RX4 12 "SplashPages" "now" "LSplashPages$Story;", Cond.instanceMethod yX2_has, Cond.initialized RX2, Cond.selects RX2 yX2_has yX2_has, Cond.code yX2_has cX2_has 2 (some .boolean), Cond.fieldLink RX2 21 "SplashPages$Story" "size" "I", Cond.methodLink RX4 176 yX4_widthOfLeastCost, Cond.instanceMethod yX4_widthOfLeastCost, Cond.selects RX4 yX4_widthOfLeastCost yX4_widthOfLeastCost, Cond.initialized RX4, Cond.code yX4_widthOfLeastCost cX4_widthOfLeastCost 6 (some .int), Cond.fieldLink RX4 23 "SplashPages" "trial" "LSplashPages$Story;", Cond.fieldLink RX4 26 "SplashPages" "trialLayout" "LSplashPages$Layout;", Cond.instanceMethod yX2_copyFrom, Cond.selects RX2 yX2_copyFrom yX2_copyFrom, Cond.code yX2_copyFrom cX2_copyFrom 2 none, Cond.fieldLink RX2 9 "SplashPages$Story" "kinds" "[I", Cond.methodLink RX2 28 arraycopyName, Cond.native arraycopyName, Cond.static arraycopyName, Cond.initialized "java/lang/System", Cond.fieldLink RX2 15 "SplashPages$Story" "widths" "[I"]
def wsX4_bestWidth_r2 : List Cond := [Cond.fieldLink RX2 18 "SplashPages$Story" "beats" "[I", Cond.fieldLink RX2 25 "SplashPages$Story" "setting" "I", Cond.methodLink RX4 99 yX4_write, Cond.static yX4_write, Cond.code yX4_write cX4_write 3 none, Cond.instanceMethod yX1_pour, Cond.initialized RX1, Cond.selects RX1 yX1_pour yX1_pour, Cond.code yX1_pour cX1_pour 3 none, Cond.fieldLink RX1 55 "SplashPages$Layout" "leftOut" "I", Cond.methodLink RX1 58 yX1_clear, Cond.instanceMethod yX1_clear, Cond.selects RX1 yX1_clear yX1_clear, Cond.code yX1_clear cX1_clear 2 none, Cond.fieldLink RX1 21 "SplashPages$Layout" "pagePanels" "[I", Cond.fieldLink RX1 24 "SplashPages$Layout" "pageBeats" "[I", Cond.fieldLink RX1 27 "SplashPages$Layout" "pageFilled" "[I", Cond.fieldLink RX1 30 "SplashPages$Layout" "pageFirst" "[I", Cond.fieldLink RX1 33 "SplashPages$Layout" "pageBleeding" "[I", Cond.fieldLink RX1 46 "SplashPages$Layout" "used" "I", Cond.fieldLink RX1 49 "SplashPages$Layout" "bearing" "I", Cond.fieldLink RX1 52 "SplashPages$Layout" "filled" "I", Cond.methodLink RX1 74 yX1_beginPage, Cond.instanceMethod yX1_beginPage]
def wsX4_bestWidth_r3 : List Cond := [Cond.selects RX1 yX1_beginPage yX1_beginPage, Cond.code yX1_beginPage cX1_beginPage 2 none, Cond.fieldLink RX1 36 "SplashPages$Layout" "pageOfNow" "I", Cond.fieldLink RX1 40 "SplashPages$Layout" "rowOfNow" "I", Cond.fieldLink RX1 43 "SplashPages$Layout" "nextUnit" "I", Cond.methodLink RX1 66 yX1_place, Cond.instanceMethod yX1_place, Cond.selects RX1 yX1_place yX1_place, Cond.code yX1_place cX1_place 5 (some .boolean), Cond.static yX4_read, Cond.code yX4_read cX4_read 2 (some .int), Cond.methodLink RX1 88 yX1_placeOnWholePages, Cond.instanceMethod yX1_placeOnWholePages, Cond.selects RX1 yX1_placeOnWholePages yX1_placeOnWholePages, Cond.code yX1_placeOnWholePages cX1_placeOnWholePages 5 (some .boolean), Cond.methodLink RX1 106 yX1_isBearing, Cond.instanceMethod yX1_isBearing, Cond.selects RX1 yX1_isBearing yX1_isBearing, Cond.code yX1_isBearing cX1_isBearing 2 (some .boolean), Cond.methodLink RX1 110 yX1_isOnLeft, Cond.static yX1_isOnLeft, Cond.code yX1_isOnLeft cX1_isOnLeft 1 (some .boolean), Cond.methodLink RX1 70 yX1_note, Cond.instanceMethod yX1_note]
def wsX4_bestWidth_r4 : List Cond := [Cond.selects RX1 yX1_note yX1_note, Cond.code yX1_note cX1_note 5 none, Cond.fieldLink RX1 9 "SplashPages$Layout" "pages" "[I", Cond.fieldLink RX1 15 "SplashPages$Layout" "rows" "[I", Cond.fieldLink RX1 18 "SplashPages$Layout" "units" "[I", Cond.methodLink RX1 113 yX1_bear, Cond.instanceMethod yX1_bear, Cond.selects RX1 yX1_bear yX1_bear, Cond.code yX1_bear cX1_bear 5 none, Cond.methodLink RX1 95 yX1_goOnIfTooManyBeats, Cond.instanceMethod yX1_goOnIfTooManyBeats, Cond.selects RX1 yX1_goOnIfTooManyBeats yX1_goOnIfTooManyBeats, Cond.code yX1_goOnIfTooManyBeats cX1_goOnIfTooManyBeats 3 none, Cond.methodLink RX1 102 yX1_placeInRow, Cond.instanceMethod yX1_placeInRow, Cond.selects RX1 yX1_placeInRow yX1_placeInRow, Cond.code yX1_placeInRow cX1_placeInRow 6 (some .boolean), Cond.methodLink RX1 116 yX1_beginRow, Cond.instanceMethod yX1_beginRow, Cond.selects RX1 yX1_beginRow yX1_beginRow, Cond.code yX1_beginRow cX1_beginRow 1 none, Cond.instanceMethod yX1_cost, Cond.selects RX1 yX1_cost yX1_cost, Cond.code yX1_cost cX1_cost 1 (some .int)]
def wsX4_bestWidth_r5 : List Cond := [Cond.methodLink RX1 133 yX1_emptyUnits, Cond.instanceMethod yX1_emptyUnits, Cond.selects RX1 yX1_emptyUnits yX1_emptyUnits, Cond.code yX1_emptyUnits cX1_emptyUnits 1 (some .int)]
def wsX4_bestWidth : List Cond := .code yX4_bestWidth cX4_bestWidth 2 (some .int) :: ((wsX4_bestWidth_r1 ++ (wsX4_bestWidth_r2 ++ (wsX4_bestWidth_r3 ++ (wsX4_bestWidth_r4 ++ wsX4_bestWidth_r5)))) ++ wsX40 ++ wsX20 ++ wsX10 ++ (vx_atS RX4 55 "java/lang/IndexOutOfBoundsException" ["java/lang/RuntimeException", "java/lang/Exception"]).filter goodWord)
def wsX4_shareOfFilled : List Cond := .code yX4_shareOfFilled cX4_shareOfFilled 2 (some .double) :: ([.fieldLink RX4 19 "SplashPages" "layout" "LSplashPages$Layout;"] ++ wsX40 ++ wsX10)
def wsX4_fullness : List Cond := .code yX4_fullness cX4_fullness 1 (some .double) :: ([.methodLink RX4 179 yX4_shareOfFilled, .instanceMethod yX4_shareOfFilled, .selects RX4 yX4_shareOfFilled yX4_shareOfFilled, .initialized RX4, .code yX4_shareOfFilled cX4_shareOfFilled 2 (some .double), .fieldLink RX4 19 "SplashPages" "layout" "LSplashPages$Layout;"] ++ wsX40 ++ wsX10)
def wsJ9_abs_0f7a4 : List Cond := .code yJ9_abs_0f7a4 cJ9_abs_0f7a4 1 (some .int) :: ([])
def wsJ9_max_7cf53 : List Cond := .code yJ9_max_7cf53 cJ9_max_7cf53 2 (some .int) :: ([])
def wsL_cell : List Cond := .code yL_cell cL_cell 2 (some .int) :: ([.constant RL 7 (32452867), .constant RL 8 (15485863)])
def wsL_low : List Cond := .code yL_low cL_low 2 (some .int) :: ([.constant RL 9 (2147483647)])
def wsL_pour : List Cond := .code yL_pour cL_pour 16 none :: ([])
def wsL_takes : List Cond := .code yL_takes cL_takes 8 (some .boolean) :: ([])
def wsL_whole : List Cond := .code yL_whole cL_whole 10 (some .int) :: ([.constant RL 10 (100000)])
def wsL_pages_r1 : List Cond := [Cond.constant RL 10 (100000), Cond.methodLink RL 11 yL_whole, Cond.static yL_whole, Cond.initialized RL, Cond.code yL_whole cL_whole 10 (some .int), Cond.methodLink RL 19 yX4_page, Cond.instanceMethod yX4_page, Cond.selects RX4 yX4_page yX4_page, Cond.initialized RX4, Cond.code yX4_page cX4_page 3 (some .int), Cond.classLink RX4 51 "java/lang/IndexOutOfBoundsException", Cond.initialized "java/lang/IndexOutOfBoundsException", Cond.classLink RX4 62 "java/lang/IllegalArgumentException", Cond.initialized "java/lang/IllegalArgumentException", Cond.fieldLink RX4 19 "SplashPages" "layout" "LSplashPages$Layout;", Cond.methodLink RX4 47 yX4_isWithin, Cond.static yX4_isWithin, Cond.code yX4_isWithin cX4_isWithin 3 (some .boolean), Cond.instanceMethod yX1_numberOfPage, Cond.initialized RX1, Cond.selects RX1 yX1_numberOfPage yX1_numberOfPage, Cond.code yX1_numberOfPage cX1_numberOfPage 3 (some .int), Cond.fieldLink RX1 21 "SplashPages$Layout" "pagePanels" "[I", Cond.fieldLink RX1 24 "SplashPages$Layout" "pageBeats" "[I"]
def wsL_pages_r2 : List Cond := [Cond.fieldLink RX1 27 "SplashPages$Layout" "pageFilled" "[I", Cond.fieldLink RX1 30 "SplashPages$Layout" "pageFirst" "[I", Cond.fieldLink RX1 46 "SplashPages$Layout" "used" "I", Cond.fieldLink RX1 33 "SplashPages$Layout" "pageBleeding" "[I", Cond.static yX4_read, Cond.code yX4_read cX4_read 2 (some .int), Cond.methodLink RX1 106 yX1_isBearing, Cond.instanceMethod yX1_isBearing, Cond.selects RX1 yX1_isBearing yX1_isBearing, Cond.code yX1_isBearing cX1_isBearing 2 (some .boolean), Cond.methodLink RL 23 yX4_count, Cond.instanceMethod yX4_count, Cond.selects RX4 yX4_count yX4_count, Cond.code yX4_count cX4_count 2 (some .int), Cond.methodLink RX4 162 yX4_numberInAll, Cond.instanceMethod yX4_numberInAll, Cond.selects RX4 yX4_numberInAll yX4_numberInAll, Cond.code yX4_numberInAll cX4_numberInAll 2 (some .int), Cond.fieldLink RX4 12 "SplashPages" "now" "LSplashPages$Story;", Cond.fieldLink RX4 32 "SplashPages" "history" "LSplashPages$History;", Cond.instanceMethod yX1_greatestBeats, Cond.selects RX1 yX1_greatestBeats yX1_greatestBeats, Cond.code yX1_greatestBeats cX1_greatestBeats 3 (some .int), Cond.methodLink RX1 123 Lib.Math.max.name]
def wsL_pages_r3 : List Cond := [Cond.static Lib.Math.max.name, Cond.initialized "java/lang/Math", Cond.code Lib.Math.max.name Lib.Math.max.code 2 (some .int), Cond.instanceMethod yX1_emptyUnits, Cond.selects RX1 yX1_emptyUnits yX1_emptyUnits, Cond.code yX1_emptyUnits cX1_emptyUnits 1 (some .int), Cond.fieldLink RX1 49 "SplashPages$Layout" "bearing" "I", Cond.fieldLink RX1 52 "SplashPages$Layout" "filled" "I", Cond.instanceMethod yX1_greatestDifference, Cond.selects RX1 yX1_greatestDifference yX1_greatestDifference, Cond.code yX1_greatestDifference cX1_greatestDifference 3 (some .int), Cond.methodLink RX1 129 Lib.Math.abs.name, Cond.static Lib.Math.abs.name, Cond.code Lib.Math.abs.name Lib.Math.abs.code 1 (some .int), Cond.methodLink RL 27 yX4_fullness, Cond.instanceMethod yX4_fullness, Cond.selects RX4 yX4_fullness yX4_fullness, Cond.code yX4_fullness cX4_fullness 1 (some .double), Cond.methodLink RX4 179 yX4_shareOfFilled, Cond.instanceMethod yX4_shareOfFilled, Cond.selects RX4 yX4_shareOfFilled yX4_shareOfFilled, Cond.code yX4_shareOfFilled cX4_shareOfFilled 2 (some .double)]
def wsL_pages : List Cond := .code yL_pages cL_pages 23 (some .boolean) :: ((wsL_pages_r1 ++ (wsL_pages_r2 ++ wsL_pages_r3)) ++ wsX40 ++ wsX10 ++ wsX20 ++ wsX00 ++ (vx_atS RX4 55 "java/lang/IndexOutOfBoundsException" ["java/lang/RuntimeException", "java/lang/Exception"]).filter goodWord ++ (vx_atS RX4 66 "java/lang/IllegalArgumentException" ["java/lang/RuntimeException", "java/lang/Exception"]).filter goodWord)
def wsL_units : List Cond := .code yL_units cL_units 11 (some .boolean) :: ([.methodLink RL 31 yL_takes, .static yL_takes, .initialized RL, .code yL_takes cL_takes 8 (some .boolean), .methodLink RL 35 yX4_at, .instanceMethod yX4_at, .selects RX4 yX4_at yX4_at, .initialized RX4, .code yX4_at cX4_at 4 (some .int), .classLink RX4 51 "java/lang/IndexOutOfBoundsException", .initialized "java/lang/IndexOutOfBoundsException", .methodLink RX4 47 yX4_isWithin, .static yX4_isWithin, .code yX4_isWithin cX4_isWithin 3 (some .boolean), .methodLink RX4 156 yX4_panelAt, .instanceMethod yX4_panelAt, .selects RX4 yX4_panelAt yX4_panelAt, .code yX4_panelAt cX4_panelAt 9 (some .int), .fieldLink RX4 19 "SplashPages" "layout" "LSplashPages$Layout;", .fieldLink RX4 12 "SplashPages" "now" "LSplashPages$Story;", .methodLink RX4 201 yX4_read, .static yX4_read, .code yX4_read cX4_read 2 (some .int)] ++ wsX40 ++ wsX10 ++ wsX20 ++ (vx_atS RX4 55 "java/lang/IndexOutOfBoundsException" ["java/lang/RuntimeException", "java/lang/Exception"]).filter goodWord)
def wsL_exchange : List Cond := .code yL_exchange cL_exchange 3 none :: ([])
def wsL_wouldBe_r1 : List Cond := [Cond.arrayClass .int, Cond.constant RL 10 (100000), Cond.methodLink RL 39 yL_pour, Cond.static yL_pour, Cond.initialized RL, Cond.code yL_pour cL_pour 16 none, Cond.methodLink RL 11 yL_whole, Cond.static yL_whole, Cond.code yL_whole cL_whole 10 (some .int), Cond.methodLink RL 43 yX4_bestWidth, Cond.instanceMethod yX4_bestWidth, Cond.selects RX4 yX4_bestWidth yX4_bestWidth, Cond.initialized RX4, Cond.code yX4_bestWidth cX4_bestWidth 2 (some .int), Cond.classLink RX4 51 "java/lang/IndexOutOfBoundsException", Cond.initialized "java/lang/IndexOutOfBoundsException", Cond.fieldLink RX4 12 "SplashPages" "now" "LSplashPages$Story;", Cond.instanceMethod yX2_has, Cond.initialized RX2, Cond.selects RX2 yX2_has yX2_has, Cond.code yX2_has cX2_has 2 (some .boolean), Cond.fieldLink RX2 21 "SplashPages$Story" "size" "I", Cond.methodLink RX4 176 yX4_widthOfLeastCost, Cond.instanceMethod yX4_widthOfLeastCost]
def wsL_wouldBe_r2 : List Cond := [Cond.selects RX4 yX4_widthOfLeastCost yX4_widthOfLeastCost, Cond.code yX4_widthOfLeastCost cX4_widthOfLeastCost 6 (some .int), Cond.fieldLink RX4 23 "SplashPages" "trial" "LSplashPages$Story;", Cond.fieldLink RX4 26 "SplashPages" "trialLayout" "LSplashPages$Layout;", Cond.instanceMethod yX2_copyFrom, Cond.selects RX2 yX2_copyFrom yX2_copyFrom, Cond.code yX2_copyFrom cX2_copyFrom 2 none, Cond.fieldLink RX2 9 "SplashPages$Story" "kinds" "[I", Cond.methodLink RX2 28 arraycopyName, Cond.native arraycopyName, Cond.static arraycopyName, Cond.initialized "java/lang/System", Cond.fieldLink RX2 15 "SplashPages$Story" "widths" "[I", Cond.fieldLink RX2 18 "SplashPages$Story" "beats" "[I", Cond.fieldLink RX2 25 "SplashPages$Story" "setting" "I", Cond.methodLink RX4 99 yX4_write, Cond.static yX4_write, Cond.code yX4_write cX4_write 3 none, Cond.instanceMethod yX1_pour, Cond.initialized RX1, Cond.selects RX1 yX1_pour yX1_pour, Cond.code yX1_pour cX1_pour 3 none, Cond.fieldLink RX1 55 "SplashPages$Layout" "leftOut" "I", Cond.methodLink RX1 58 yX1_clear]
def wsL_wouldBe_r3 : List Cond := [Cond.instanceMethod yX1_clear, Cond.selects RX1 yX1_clear yX1_clear, Cond.code yX1_clear cX1_clear 2 none, Cond.fieldLink RX1 21 "SplashPages$Layout" "pagePanels" "[I", Cond.fieldLink RX1 24 "SplashPages$Layout" "pageBeats" "[I", Cond.fieldLink RX1 27 "SplashPages$Layout" "pageFilled" "[I", Cond.fieldLink RX1 30 "SplashPages$Layout" "pageFirst" "[I", Cond.fieldLink RX1 33 "SplashPages$Layout" "pageBleeding" "[I", Cond.fieldLink RX1 46 "SplashPages$Layout" "used" "I", Cond.fieldLink RX1 49 "SplashPages$Layout" "bearing" "I", Cond.fieldLink RX1 52 "SplashPages$Layout" "filled" "I", Cond.methodLink RX1 74 yX1_beginPage, Cond.instanceMethod yX1_beginPage, Cond.selects RX1 yX1_beginPage yX1_beginPage, Cond.code yX1_beginPage cX1_beginPage 2 none, Cond.fieldLink RX1 36 "SplashPages$Layout" "pageOfNow" "I", Cond.fieldLink RX1 40 "SplashPages$Layout" "rowOfNow" "I", Cond.fieldLink RX1 43 "SplashPages$Layout" "nextUnit" "I", Cond.methodLink RX1 66 yX1_place, Cond.instanceMethod yX1_place, Cond.selects RX1 yX1_place yX1_place, Cond.code yX1_place cX1_place 5 (some .boolean), Cond.static yX4_read, Cond.code yX4_read cX4_read 2 (some .int)]
def wsL_wouldBe_r4 : List Cond := [Cond.methodLink RX1 88 yX1_placeOnWholePages, Cond.instanceMethod yX1_placeOnWholePages, Cond.selects RX1 yX1_placeOnWholePages yX1_placeOnWholePages, Cond.code yX1_placeOnWholePages cX1_placeOnWholePages 5 (some .boolean), Cond.methodLink RX1 106 yX1_isBearing, Cond.instanceMethod yX1_isBearing, Cond.selects RX1 yX1_isBearing yX1_isBearing, Cond.code yX1_isBearing cX1_isBearing 2 (some .boolean), Cond.methodLink RX1 110 yX1_isOnLeft, Cond.static yX1_isOnLeft, Cond.code yX1_isOnLeft cX1_isOnLeft 1 (some .boolean), Cond.methodLink RX1 70 yX1_note, Cond.instanceMethod yX1_note, Cond.selects RX1 yX1_note yX1_note, Cond.code yX1_note cX1_note 5 none, Cond.fieldLink RX1 9 "SplashPages$Layout" "pages" "[I", Cond.fieldLink RX1 15 "SplashPages$Layout" "rows" "[I", Cond.fieldLink RX1 18 "SplashPages$Layout" "units" "[I", Cond.methodLink RX1 113 yX1_bear, Cond.instanceMethod yX1_bear, Cond.selects RX1 yX1_bear yX1_bear, Cond.code yX1_bear cX1_bear 5 none, Cond.methodLink RX1 95 yX1_goOnIfTooManyBeats, Cond.instanceMethod yX1_goOnIfTooManyBeats]
def wsL_wouldBe_r5 : List Cond := [Cond.selects RX1 yX1_goOnIfTooManyBeats yX1_goOnIfTooManyBeats, Cond.code yX1_goOnIfTooManyBeats cX1_goOnIfTooManyBeats 3 none, Cond.methodLink RX1 102 yX1_placeInRow, Cond.instanceMethod yX1_placeInRow, Cond.selects RX1 yX1_placeInRow yX1_placeInRow, Cond.code yX1_placeInRow cX1_placeInRow 6 (some .boolean), Cond.methodLink RX1 116 yX1_beginRow, Cond.instanceMethod yX1_beginRow, Cond.selects RX1 yX1_beginRow yX1_beginRow, Cond.code yX1_beginRow cX1_beginRow 1 none, Cond.instanceMethod yX1_cost, Cond.selects RX1 yX1_cost yX1_cost, Cond.code yX1_cost cX1_cost 1 (some .int), Cond.methodLink RX1 133 yX1_emptyUnits, Cond.instanceMethod yX1_emptyUnits, Cond.selects RX1 yX1_emptyUnits yX1_emptyUnits, Cond.code yX1_emptyUnits cX1_emptyUnits 1 (some .int), Cond.methodLink RL 46 yL_exchange, Cond.static yL_exchange, Cond.code yL_exchange cL_exchange 3 none, Cond.methodLink RL 50 yX4_ifExchanged, Cond.instanceMethod yX4_ifExchanged, Cond.selects RX4 yX4_ifExchanged yX4_ifExchanged, Cond.code yX4_ifExchanged cX4_ifExchanged 3 (some .int)]
def wsL_wouldBe_r6 : List Cond := [Cond.classLink RX4 62 "java/lang/IllegalArgumentException", Cond.initialized "java/lang/IllegalArgumentException", Cond.methodLink RX4 47 yX4_isWithin, Cond.static yX4_isWithin, Cond.code yX4_isWithin cX4_isWithin 3 (some .boolean), Cond.methodLink RX4 170 yX4_afterExchange, Cond.instanceMethod yX4_afterExchange, Cond.selects RX4 yX4_afterExchange yX4_afterExchange, Cond.code yX4_afterExchange cX4_afterExchange 3 (some .int), Cond.instanceMethod yX2_exchangeWithNext, Cond.selects RX2 yX2_exchangeWithNext yX2_exchangeWithNext, Cond.code yX2_exchangeWithNext cX2_exchangeWithNext 2 none, Cond.methodLink RX2 46 yX2_exchangeInRow, Cond.static yX2_exchangeInRow, Cond.code yX2_exchangeInRow cX2_exchangeInRow 3 none, Cond.methodLink RL 53 yX4_leastSetting, Cond.instanceMethod yX4_leastSetting, Cond.selects RX4 yX4_leastSetting yX4_leastSetting, Cond.code yX4_leastSetting cX4_leastSetting 1 (some .int), Cond.methodLink RX4 173 yX4_leastThatServes, Cond.instanceMethod yX4_leastThatServes, Cond.selects RX4 yX4_leastThatServes yX4_leastThatServes, Cond.code yX4_leastThatServes cX4_leastThatServes 2 (some .int), Cond.fieldLink RX4 19 "SplashPages" "layout" "LSplashPages$Layout;"]
def wsL_wouldBe : List Cond := .code yL_wouldBe cL_wouldBe 17 (some .boolean) :: ((wsL_wouldBe_r1 ++ (wsL_wouldBe_r2 ++ (wsL_wouldBe_r3 ++ (wsL_wouldBe_r4 ++ (wsL_wouldBe_r5 ++ wsL_wouldBe_r6))))) ++ wsX40 ++ wsX20 ++ wsX10 ++ (vx_atS RX4 55 "java/lang/IndexOutOfBoundsException" ["java/lang/RuntimeException", "java/lang/Exception"]).filter goodWord ++ (vx_atS RX4 66 "java/lang/IllegalArgumentException" ["java/lang/RuntimeException", "java/lang/Exception"]).filter goodWord)
def wsL_put : List Cond := .code yL_put cL_put 5 none :: ([])
def wsL_take : List Cond := .code yL_take cL_take 4 none :: ([])
def wsL_law0_r1 : List Cond := [Cond.classLink RL 17 RX4, Cond.instantiable RX4 6, Cond.initialized RX4, Cond.arrayClass .int, Cond.methodLink RL 57 yX4_init, Cond.instanceMethod yX4_init, Cond.code yX4_init cX4_init 1 none, Cond.methodLink RX4 3 objectInit, Cond.instanceMethod objectInit, Cond.code objectInit ⟨#[0xb1]⟩ 1 none, Cond.classLink RX4 9 RX2, Cond.instantiable RX2 5, Cond.initialized RX2, Cond.fieldLink RX4 12 "SplashPages" "now" "LSplashPages$Story;", Cond.classLink RX4 16 RX1, Cond.instantiable RX1 15, Cond.initialized RX1, Cond.fieldLink RX4 19 "SplashPages" "layout" "LSplashPages$Layout;", Cond.fieldLink RX4 23 "SplashPages" "trial" "LSplashPages$Story;", Cond.fieldLink RX4 26 "SplashPages" "trialLayout" "LSplashPages$Layout;", Cond.classLink RX4 29 RX0, Cond.instantiable RX0 2, Cond.initialized RX0, Cond.fieldLink RX4 32 "SplashPages" "history" "LSplashPages$History;"]
def wsL_law0_r2 : List Cond := [Cond.classLink RX4 36 RX3, Cond.instantiable RX3 2, Cond.initialized RX3, Cond.fieldLink RX4 39 "SplashPages" "text" "LSplashPages$Text;", Cond.instanceMethod yX2_init, Cond.code yX2_init cX2_init 1 none, Cond.methodLink RX2 3 objectInit, Cond.fieldLink RX2 9 "SplashPages$Story" "kinds" "[I", Cond.fieldLink RX2 15 "SplashPages$Story" "widths" "[I", Cond.fieldLink RX2 18 "SplashPages$Story" "beats" "[I", Cond.fieldLink RX2 21 "SplashPages$Story" "size" "I", Cond.fieldLink RX2 25 "SplashPages$Story" "setting" "I", Cond.instanceMethod yX1_init, Cond.code yX1_init cX1_init 1 none, Cond.methodLink RX1 3 objectInit, Cond.fieldLink RX1 9 "SplashPages$Layout" "pages" "[I", Cond.fieldLink RX1 15 "SplashPages$Layout" "rows" "[I", Cond.fieldLink RX1 18 "SplashPages$Layout" "units" "[I", Cond.fieldLink RX1 21 "SplashPages$Layout" "pagePanels" "[I", Cond.fieldLink RX1 24 "SplashPages$Layout" "pageBeats" "[I", Cond.fieldLink RX1 27 "SplashPages$Layout" "pageFilled" "[I", Cond.fieldLink RX1 30 "SplashPages$Layout" "pageFirst" "[I", Cond.fieldLink RX1 33 "SplashPages$Layout" "pageBleeding" "[I", Cond.fieldLink RX1 36 "SplashPages$Layout" "pageOfNow" "I"]
def wsL_law0_r3 : List Cond := [Cond.fieldLink RX1 40 "SplashPages$Layout" "rowOfNow" "I", Cond.fieldLink RX1 43 "SplashPages$Layout" "nextUnit" "I", Cond.fieldLink RX1 46 "SplashPages$Layout" "used" "I", Cond.fieldLink RX1 49 "SplashPages$Layout" "bearing" "I", Cond.fieldLink RX1 52 "SplashPages$Layout" "filled" "I", Cond.fieldLink RX1 55 "SplashPages$Layout" "leftOut" "I", Cond.instanceMethod yX0_init, Cond.code yX0_init cX0_init 2 none, Cond.methodLink RX0 3 objectInit, Cond.classLink RX0 9 RX2, Cond.fieldLink RX0 11 "SplashPages$History" "states" "[LSplashPages$Story;", Cond.fieldLink RX0 17 "SplashPages$History" "size" "I", Cond.instanceMethod yX3_init, Cond.code yX3_init cX3_init 1 none, Cond.methodLink RX3 3 objectInit, Cond.fieldLink RX3 9 "SplashPages$Text" "codes" "[I", Cond.fieldLink RX3 15 "SplashPages$Text" "length" "I", Cond.methodLink RL 58 yL_cell, Cond.static yL_cell, Cond.initialized RL, Cond.code yL_cell cL_cell 2 (some .int), Cond.constant RL 7 (32452867), Cond.constant RL 8 (15485863), Cond.methodLink RL 62 yL_low]
def wsL_law0_r4 : List Cond := [Cond.static yL_low, Cond.code yL_low cL_low 2 (some .int), Cond.constant RL 9 (2147483647), Cond.methodLink RL 65 yL_put, Cond.static yL_put, Cond.code yL_put cL_put 5 none, Cond.methodLink RL 69 yX4_put, Cond.instanceMethod yX4_put, Cond.selects RX4 yX4_put yX4_put, Cond.code yX4_put cX4_put 5 (some .int), Cond.classLink RX4 51 "java/lang/IndexOutOfBoundsException", Cond.initialized "java/lang/IndexOutOfBoundsException", Cond.classLink RX4 62 "java/lang/IllegalArgumentException", Cond.initialized "java/lang/IllegalArgumentException", Cond.classLink RX4 67 "java/lang/IllegalStateException", Cond.initialized "java/lang/IllegalStateException", Cond.methodLink RX4 47 yX4_isWithin, Cond.static yX4_isWithin, Cond.code yX4_isWithin cX4_isWithin 3 (some .boolean), Cond.methodLink RX4 58 yX4_isPanelSize, Cond.static yX4_isPanelSize, Cond.code yX4_isPanelSize cX4_isPanelSize 2 (some .boolean), Cond.instanceMethod yX0_save, Cond.selects RX0 yX0_save yX0_save]
def wsL_law0_r5 : List Cond := [Cond.code yX0_save cX0_save 3 none, Cond.methodLink RX0 22 yX0_dropOldest, Cond.instanceMethod yX0_dropOldest, Cond.selects RX0 yX0_dropOldest yX0_dropOldest, Cond.code yX0_dropOldest cX0_dropOldest 3 none, Cond.methodLink RX0 25 yX0_storyAt, Cond.instanceMethod yX0_storyAt, Cond.selects RX0 yX0_storyAt yX0_storyAt, Cond.code yX0_storyAt cX0_storyAt 2 (some (.object "SplashPages$Story")), Cond.instanceMethod yX2_copyFrom, Cond.selects RX2 yX2_copyFrom yX2_copyFrom, Cond.code yX2_copyFrom cX2_copyFrom 2 none, Cond.methodLink RX2 28 arraycopyName, Cond.native arraycopyName, Cond.static arraycopyName, Cond.initialized "java/lang/System", Cond.instanceMethod yX2_insert, Cond.selects RX2 yX2_insert yX2_insert, Cond.code yX2_insert cX2_insert 5 none, Cond.methodLink RX2 34 yX2_openGap, Cond.static yX2_openGap, Cond.code yX2_openGap cX2_openGap 4 none, Cond.static yX4_write, Cond.code yX4_write cX4_write 3 none]
def wsL_law0_r6 : List Cond := [Cond.instanceMethod yX1_pour, Cond.selects RX1 yX1_pour yX1_pour, Cond.code yX1_pour cX1_pour 3 none, Cond.methodLink RX1 58 yX1_clear, Cond.instanceMethod yX1_clear, Cond.selects RX1 yX1_clear yX1_clear, Cond.code yX1_clear cX1_clear 2 none, Cond.methodLink RX1 74 yX1_beginPage, Cond.instanceMethod yX1_beginPage, Cond.selects RX1 yX1_beginPage yX1_beginPage, Cond.code yX1_beginPage cX1_beginPage 2 none, Cond.methodLink RX1 66 yX1_place, Cond.instanceMethod yX1_place, Cond.selects RX1 yX1_place yX1_place, Cond.code yX1_place cX1_place 5 (some .boolean), Cond.static yX4_read, Cond.code yX4_read cX4_read 2 (some .int), Cond.methodLink RX1 88 yX1_placeOnWholePages, Cond.instanceMethod yX1_placeOnWholePages, Cond.selects RX1 yX1_placeOnWholePages yX1_placeOnWholePages, Cond.code yX1_placeOnWholePages cX1_placeOnWholePages 5 (some .boolean), Cond.methodLink RX1 106 yX1_isBearing, Cond.instanceMethod yX1_isBearing, Cond.selects RX1 yX1_isBearing yX1_isBearing]
def wsL_law0_r7 : List Cond := [Cond.code yX1_isBearing cX1_isBearing 2 (some .boolean), Cond.methodLink RX1 110 yX1_isOnLeft, Cond.static yX1_isOnLeft, Cond.code yX1_isOnLeft cX1_isOnLeft 1 (some .boolean), Cond.methodLink RX1 70 yX1_note, Cond.instanceMethod yX1_note, Cond.selects RX1 yX1_note yX1_note, Cond.code yX1_note cX1_note 5 none, Cond.methodLink RX1 113 yX1_bear, Cond.instanceMethod yX1_bear, Cond.selects RX1 yX1_bear yX1_bear, Cond.code yX1_bear cX1_bear 5 none, Cond.methodLink RX1 95 yX1_goOnIfTooManyBeats, Cond.instanceMethod yX1_goOnIfTooManyBeats, Cond.selects RX1 yX1_goOnIfTooManyBeats yX1_goOnIfTooManyBeats, Cond.code yX1_goOnIfTooManyBeats cX1_goOnIfTooManyBeats 3 none, Cond.methodLink RX1 102 yX1_placeInRow, Cond.instanceMethod yX1_placeInRow, Cond.selects RX1 yX1_placeInRow yX1_placeInRow, Cond.code yX1_placeInRow cX1_placeInRow 6 (some .boolean), Cond.methodLink RX1 116 yX1_beginRow, Cond.instanceMethod yX1_beginRow, Cond.selects RX1 yX1_beginRow yX1_beginRow, Cond.code yX1_beginRow cX1_beginRow 1 none]
def wsL_law0_r8 : List Cond := [Cond.methodLink RL 72 yL_take, Cond.static yL_take, Cond.code yL_take cL_take 4 none, Cond.methodLink RL 76 yX4_take, Cond.instanceMethod yX4_take, Cond.selects RX4 yX4_take yX4_take, Cond.code yX4_take cX4_take 2 (some .int), Cond.instanceMethod yX2_has, Cond.selects RX2 yX2_has yX2_has, Cond.code yX2_has cX2_has 2 (some .boolean), Cond.instanceMethod yX2_remove, Cond.selects RX2 yX2_remove yX2_remove, Cond.code yX2_remove cX2_remove 2 none, Cond.methodLink RX2 38 yX2_has, Cond.methodLink RX2 42 yX2_closeGap, Cond.static yX2_closeGap, Cond.code yX2_closeGap cX2_closeGap 3 none, Cond.methodLink RL 78 yX4_set, Cond.instanceMethod yX4_set, Cond.selects RX4 yX4_set yX4_set, Cond.code yX4_set cX4_set 3 (some .int), Cond.methodLink RL 39 yL_pour, Cond.static yL_pour, Cond.code yL_pour cL_pour 16 none]
def wsL_law0_r9 : List Cond := [Cond.methodLink RL 81 yX4_change, Cond.instanceMethod yX4_change, Cond.selects RX4 yX4_change yX4_change, Cond.code yX4_change cX4_change 4 (some .int), Cond.methodLink RX4 99 yX4_write, Cond.methodLink RL 11 yL_whole, Cond.static yL_whole, Cond.code yL_whole cL_whole 10 (some .int), Cond.constant RL 10 (100000), Cond.methodLink RL 84 yX4_panel, Cond.instanceMethod yX4_panel, Cond.selects RX4 yX4_panel yX4_panel, Cond.code yX4_panel cX4_panel 3 (some .int), Cond.methodLink RX4 145 yX4_numberOfPanel, Cond.instanceMethod yX4_numberOfPanel, Cond.selects RX4 yX4_numberOfPanel yX4_numberOfPanel, Cond.code yX4_numberOfPanel cX4_numberOfPanel 3 (some .int), Cond.methodLink RX4 201 yX4_read, Cond.methodLink RL 87 yL_pages, Cond.static yL_pages, Cond.code yL_pages cL_pages 23 (some .boolean), Cond.methodLink RL 19 yX4_page, Cond.instanceMethod yX4_page, Cond.selects RX4 yX4_page yX4_page]
def wsL_law0_r10 : List Cond := [Cond.code yX4_page cX4_page 3 (some .int), Cond.instanceMethod yX1_numberOfPage, Cond.selects RX1 yX1_numberOfPage yX1_numberOfPage, Cond.code yX1_numberOfPage cX1_numberOfPage 3 (some .int), Cond.methodLink RL 23 yX4_count, Cond.instanceMethod yX4_count, Cond.selects RX4 yX4_count yX4_count, Cond.code yX4_count cX4_count 2 (some .int), Cond.methodLink RX4 162 yX4_numberInAll, Cond.instanceMethod yX4_numberInAll, Cond.selects RX4 yX4_numberInAll yX4_numberInAll, Cond.code yX4_numberInAll cX4_numberInAll 2 (some .int), Cond.instanceMethod yX1_greatestBeats, Cond.selects RX1 yX1_greatestBeats yX1_greatestBeats, Cond.code yX1_greatestBeats cX1_greatestBeats 3 (some .int), Cond.methodLink RX1 123 Lib.Math.max.name, Cond.static Lib.Math.max.name, Cond.initialized "java/lang/Math", Cond.code Lib.Math.max.name Lib.Math.max.code 2 (some .int), Cond.instanceMethod yX1_emptyUnits, Cond.selects RX1 yX1_emptyUnits yX1_emptyUnits, Cond.code yX1_emptyUnits cX1_emptyUnits 1 (some .int), Cond.instanceMethod yX1_greatestDifference, Cond.selects RX1 yX1_greatestDifference yX1_greatestDifference]
def wsL_law0_r11 : List Cond := [Cond.code yX1_greatestDifference cX1_greatestDifference 3 (some .int), Cond.methodLink RX1 129 Lib.Math.abs.name, Cond.static Lib.Math.abs.name, Cond.code Lib.Math.abs.name Lib.Math.abs.code 1 (some .int), Cond.methodLink RL 27 yX4_fullness, Cond.instanceMethod yX4_fullness, Cond.selects RX4 yX4_fullness yX4_fullness, Cond.code yX4_fullness cX4_fullness 1 (some .double), Cond.methodLink RX4 179 yX4_shareOfFilled, Cond.instanceMethod yX4_shareOfFilled, Cond.selects RX4 yX4_shareOfFilled yX4_shareOfFilled, Cond.code yX4_shareOfFilled cX4_shareOfFilled 2 (some .double), Cond.methodLink RL 91 yL_units, Cond.static yL_units, Cond.code yL_units cL_units 11 (some .boolean), Cond.methodLink RL 31 yL_takes, Cond.static yL_takes, Cond.code yL_takes cL_takes 8 (some .boolean), Cond.methodLink RL 35 yX4_at, Cond.instanceMethod yX4_at, Cond.selects RX4 yX4_at yX4_at, Cond.code yX4_at cX4_at 4 (some .int), Cond.methodLink RX4 156 yX4_panelAt, Cond.instanceMethod yX4_panelAt]
def wsL_law0_r12 : List Cond := [Cond.selects RX4 yX4_panelAt yX4_panelAt, Cond.code yX4_panelAt cX4_panelAt 9 (some .int), Cond.methodLink RL 95 yL_wouldBe, Cond.static yL_wouldBe, Cond.code yL_wouldBe cL_wouldBe 17 (some .boolean), Cond.methodLink RL 43 yX4_bestWidth, Cond.instanceMethod yX4_bestWidth, Cond.selects RX4 yX4_bestWidth yX4_bestWidth, Cond.code yX4_bestWidth cX4_bestWidth 2 (some .int), Cond.methodLink RX4 176 yX4_widthOfLeastCost, Cond.instanceMethod yX4_widthOfLeastCost, Cond.selects RX4 yX4_widthOfLeastCost yX4_widthOfLeastCost, Cond.code yX4_widthOfLeastCost cX4_widthOfLeastCost 6 (some .int), Cond.instanceMethod yX1_cost, Cond.selects RX1 yX1_cost yX1_cost, Cond.code yX1_cost cX1_cost 1 (some .int), Cond.methodLink RX1 133 yX1_emptyUnits, Cond.methodLink RL 46 yL_exchange, Cond.static yL_exchange, Cond.code yL_exchange cL_exchange 3 none, Cond.methodLink RL 50 yX4_ifExchanged, Cond.instanceMethod yX4_ifExchanged, Cond.selects RX4 yX4_ifExchanged yX4_ifExchanged, Cond.code yX4_ifExchanged cX4_ifExchanged 3 (some .int)]
def wsL_law0_r13 : List Cond := [Cond.methodLink RX4 170 yX4_afterExchange, Cond.instanceMethod yX4_afterExchange, Cond.selects RX4 yX4_afterExchange yX4_afterExchange, Cond.code yX4_afterExchange cX4_afterExchange 3 (some .int), Cond.instanceMethod yX2_exchangeWithNext, Cond.selects RX2 yX2_exchangeWithNext yX2_exchangeWithNext, Cond.code yX2_exchangeWithNext cX2_exchangeWithNext 2 none, Cond.methodLink RX2 46 yX2_exchangeInRow, Cond.static yX2_exchangeInRow, Cond.code yX2_exchangeInRow cX2_exchangeInRow 3 none, Cond.methodLink RL 53 yX4_leastSetting, Cond.instanceMethod yX4_leastSetting, Cond.selects RX4 yX4_leastSetting yX4_leastSetting, Cond.code yX4_leastSetting cX4_leastSetting 1 (some .int), Cond.methodLink RX4 173 yX4_leastThatServes, Cond.instanceMethod yX4_leastThatServes, Cond.selects RX4 yX4_leastThatServes yX4_leastThatServes, Cond.code yX4_leastThatServes cX4_leastThatServes 2 (some .int)]
def wsL_law0 : List Cond := (wsL_law0_r1 ++ (wsL_law0_r2 ++ (wsL_law0_r3 ++ (wsL_law0_r4 ++ (wsL_law0_r5 ++ (wsL_law0_r6 ++ (wsL_law0_r7 ++ (wsL_law0_r8 ++ (wsL_law0_r9 ++ (wsL_law0_r10 ++ (wsL_law0_r11 ++ (wsL_law0_r12 ++ wsL_law0_r13)))))))))))) ++ wsX40 ++ wsX20 ++ wsX10 ++ wsX00 ++ wsX30 ++ ([] : List Cond)
def wsL_law : List Cond := wsL_law0 ++ (vx_atS RX4 55 "java/lang/IndexOutOfBoundsException" ["java/lang/RuntimeException", "java/lang/Exception"]).filter goodWord ++ (vx_atS RX4 66 "java/lang/IllegalArgumentException" ["java/lang/RuntimeException", "java/lang/Exception"]).filter goodWord ++ (vx_atS RX4 71 "java/lang/IllegalStateException" ["java/lang/RuntimeException", "java/lang/Exception"]).filter goodWord
set_option maxRecDepth 20000 in
theorem zin_wsL_law0_r1 : ∀ w ∈ wsL_law0_r1, w ∈ lw_tbl := fun w h => (goodIn_p wsL_law0_r1 [50, 53] (by decide +kernel) (by decide +kernel) w h).1
set_option maxRecDepth 20000 in
theorem zin_wsL_law0_r2 : ∀ w ∈ wsL_law0_r2, w ∈ lw_tbl := fun w h => (goodIn_p wsL_law0_r2 [58, 91] (by decide +kernel) (by decide +kernel) w h).1
set_option maxRecDepth 20000 in
theorem zin_wsL_law0_r3 : ∀ w ∈ wsL_law0_r3, w ∈ lw_tbl := fun w h => (goodIn_p wsL_law0_r3 [152, 169, 427] (by decide +kernel) (by decide +kernel) w h).1
set_option maxRecDepth 20000 in
theorem zin_wsL_law0_r4 : ∀ w ∈ wsL_law0_r4, w ∈ lw_tbl := fun w h => (goodIn_p wsL_law0_r4 [432, 551, 200, 203, 274] (by decide +kernel) (by decide +kernel) w h).1
set_option maxRecDepth 20000 in
theorem zin_wsL_law0_r5 : ∀ w ∈ wsL_law0_r5, w ∈ lw_tbl := fun w h => (goodIn_p wsL_law0_r5 [310, 314, 318, 322, 329, 332, 335] (by decide +kernel) (by decide +kernel) w h).1
set_option maxRecDepth 20000 in
theorem zin_wsL_law0_r6 : ∀ w ∈ wsL_law0_r6, w ∈ lw_tbl := fun w h => (goodIn_p wsL_law0_r6 [339, 343, 347, 351, 354, 358] (by decide +kernel) (by decide +kernel) w h).1
set_option maxRecDepth 20000 in
theorem zin_wsL_law0_r7 : ∀ w ∈ wsL_law0_r7, w ∈ lw_tbl := fun w h => (goodIn_p wsL_law0_r7 [362, 365, 369, 373, 377, 381, 385] (by decide +kernel) (by decide +kernel) w h).1
set_option maxRecDepth 20000 in
theorem zin_wsL_law0_r8 : ∀ w ∈ wsL_law0_r8, w ∈ lw_tbl := fun w h => (goodIn_p wsL_law0_r8 [554, 390, 394, 399, 403, 413, 436] (by decide +kernel) (by decide +kernel) w h).1
set_option maxRecDepth 20000 in
theorem zin_wsL_law0_r9 : ∀ w ∈ wsL_law0_r9, w ∈ lw_tbl := fun w h => (goodIn_p wsL_law0_r9 [407, 439, 418, 423, 443] (by decide +kernel) (by decide +kernel) w h).1
set_option maxRecDepth 20000 in
theorem zin_wsL_law0_r10 : ∀ w ∈ wsL_law0_r10, w ∈ lw_tbl := fun w h => (goodIn_p wsL_law0_r10 [447, 452, 456, 461, 465, 468, 472] (by decide +kernel) (by decide +kernel) w h).1
set_option maxRecDepth 20000 in
theorem zin_wsL_law0_r11 : ∀ w ∈ wsL_law0_r11, w ∈ lw_tbl := fun w h => (goodIn_p wsL_law0_r11 [476, 479, 483, 487, 490, 493, 497] (by decide +kernel) (by decide +kernel) w h).1
set_option maxRecDepth 20000 in
theorem zin_wsL_law0_r12 : ∀ w ∈ wsL_law0_r12, w ∈ lw_tbl := fun w h => (goodIn_p wsL_law0_r12 [502, 505, 509, 513, 518, 522, 526] (by decide +kernel) (by decide +kernel) w h).1
set_option maxRecDepth 20000 in
theorem zin_wsL_law0_r13 : ∀ w ∈ wsL_law0_r13, w ∈ lw_tbl := fun w h => (goodIn_p wsL_law0_r13 [532, 536, 539, 544, 548] (by decide +kernel) (by decide +kernel) w h).1
theorem zin_wsX40 : ∀ w ∈ wsX40, w ∈ lw_tbl := by decide +kernel
theorem zin_wsX20 : ∀ w ∈ wsX20, w ∈ lw_tbl := by decide +kernel
theorem zin_wsX10 : ∀ w ∈ wsX10, w ∈ lw_tbl := by decide +kernel
theorem zin_wsX00 : ∀ w ∈ wsX00, w ∈ lw_tbl := by decide +kernel
theorem zin_wsX30 : ∀ w ∈ wsX30, w ∈ lw_tbl := by decide +kernel
theorem wsL_law_in0 : ∀ w ∈ wsL_law0, w ∈ lw_tbl := by
  show ∀ w ∈ (wsL_law0_r1 ++ (wsL_law0_r2 ++ (wsL_law0_r3 ++ (wsL_law0_r4 ++ (wsL_law0_r5 ++ (wsL_law0_r6 ++ (wsL_law0_r7 ++ (wsL_law0_r8 ++ (wsL_law0_r9 ++ (wsL_law0_r10 ++ (wsL_law0_r11 ++ (wsL_law0_r12 ++ wsL_law0_r13)))))))))))) ++ wsX40 ++ wsX20 ++ wsX10 ++ wsX00 ++ wsX30 ++ ([] : List Cond), w ∈ lw_tbl
  exact (List.forall_mem_append.mpr ⟨(List.forall_mem_append.mpr ⟨(List.forall_mem_append.mpr ⟨(List.forall_mem_append.mpr ⟨(List.forall_mem_append.mpr ⟨(List.forall_mem_append.mpr ⟨(List.forall_mem_append.mpr ⟨zin_wsL_law0_r1, (List.forall_mem_append.mpr ⟨zin_wsL_law0_r2, (List.forall_mem_append.mpr ⟨zin_wsL_law0_r3, (List.forall_mem_append.mpr ⟨zin_wsL_law0_r4, (List.forall_mem_append.mpr ⟨zin_wsL_law0_r5, (List.forall_mem_append.mpr ⟨zin_wsL_law0_r6, (List.forall_mem_append.mpr ⟨zin_wsL_law0_r7, (List.forall_mem_append.mpr ⟨zin_wsL_law0_r8, (List.forall_mem_append.mpr ⟨zin_wsL_law0_r9, (List.forall_mem_append.mpr ⟨zin_wsL_law0_r10, (List.forall_mem_append.mpr ⟨zin_wsL_law0_r11, (List.forall_mem_append.mpr ⟨zin_wsL_law0_r12, zin_wsL_law0_r13⟩)⟩)⟩)⟩)⟩)⟩)⟩)⟩)⟩)⟩)⟩)⟩), zin_wsX40⟩), zin_wsX20⟩), zin_wsX10⟩), zin_wsX00⟩), zin_wsX30⟩), fun _ h => absurd h List.not_mem_nil⟩)
theorem wsL_law_x0 : ∀ w ∈ (vx_atS RX4 55 "java/lang/IndexOutOfBoundsException" ["java/lang/RuntimeException", "java/lang/Exception"]).filter goodWord, w ∈ lw_tbl := by decide +kernel
theorem wsL_law_x1 : ∀ w ∈ (vx_atS RX4 66 "java/lang/IllegalArgumentException" ["java/lang/RuntimeException", "java/lang/Exception"]).filter goodWord, w ∈ lw_tbl := by decide +kernel
theorem wsL_law_x2 : ∀ w ∈ (vx_atS RX4 71 "java/lang/IllegalStateException" ["java/lang/RuntimeException", "java/lang/Exception"]).filter goodWord, w ∈ lw_tbl := by decide +kernel
theorem wsL_law_in : ∀ w ∈ wsL_law, w ∈ lw_tbl := fun w h => (List.mem_append.mp h).elim (fun h => (List.mem_append.mp h).elim (fun h => (List.mem_append.mp h).elim (fun h => wsL_law_in0 w h) (fun h => wsL_law_x0 w h)) (fun h => wsL_law_x1 w h)) (fun h => wsL_law_x2 w h)
theorem inlX0 : ∀ w ∈ wsX00, w ∈ wsL_law := fun _ h => List.mem_append_left _ (List.mem_append_left _ (List.mem_append_left _ (List.mem_append_left _ (List.mem_append_left _ (List.mem_append_right _ h)))))
theorem inX0 : ∀ w ∈ wsX00, w ∈ lw_tbl := fun w h => wsL_law_in w (inlX0 w h)
theorem inlX1 : ∀ w ∈ wsX10, w ∈ wsL_law := fun _ h => List.mem_append_left _ (List.mem_append_left _ (List.mem_append_left _ (List.mem_append_left _ (List.mem_append_left _ (List.mem_append_left _ (List.mem_append_right _ h))))))
theorem inX1 : ∀ w ∈ wsX10, w ∈ lw_tbl := fun w h => wsL_law_in w (inlX1 w h)
theorem inlX2 : ∀ w ∈ wsX20, w ∈ wsL_law := fun _ h => List.mem_append_left _ (List.mem_append_left _ (List.mem_append_left _ (List.mem_append_left _ (List.mem_append_left _ (List.mem_append_left _ (List.mem_append_left _ (List.mem_append_right _ h)))))))
theorem inX2 : ∀ w ∈ wsX20, w ∈ lw_tbl := fun w h => wsL_law_in w (inlX2 w h)
theorem inlX3 : ∀ w ∈ wsX30, w ∈ wsL_law := fun _ h => List.mem_append_left _ (List.mem_append_left _ (List.mem_append_left _ (List.mem_append_left _ (List.mem_append_right _ h))))
theorem inX3 : ∀ w ∈ wsX30, w ∈ lw_tbl := fun w h => wsL_law_in w (inlX3 w h)
theorem inlX4 : ∀ w ∈ wsX40, w ∈ wsL_law := fun _ h => List.mem_append_left _ (List.mem_append_left _ (List.mem_append_left _ (List.mem_append_left _ (List.mem_append_left _ (List.mem_append_left _ (List.mem_append_left _ (List.mem_append_left _ (List.mem_append_right _ h))))))))
theorem inX4 : ∀ w ∈ wsX40, w ∈ lw_tbl := fun w h => wsL_law_in w (inlX4 w h)
theorem inX5 : ∀ w ∈ wsX50, w ∈ lw_tbl := by decide +kernel
theorem inJ9 : ∀ w ∈ wsJ90, w ∈ lw_tbl := by decide +kernel
theorem inJ0 : ∀ w ∈ wsJ00, w ∈ lw_tbl := by decide +kernel
theorem inJ10 : ∀ w ∈ wsJ100, w ∈ lw_tbl := by decide +kernel
end
section
set_option maxRecDepth 20000 in
theorem ggX0_init_X2_init : GoodIn wsX0_init wsX2_init := goodIn_r _ [10, 11, 2, 3, 12, 13, 14, 15, 16, 17, 20, 21, 22, 23, 24] (by decide +kernel) (by decide +kernel)
set_option maxRecDepth 20000 in
theorem gX0_init_X2_init_n21 : GoodIn wsX0_init (wsX2_init) := ggX0_init_X2_init
theorem dX0_init_0 : decode cX0_init 0 = .ok (.aload_n 0, 1) := by decide +kernel
theorem dX0_init_1 : decode cX0_init 1 = .ok (.invokespecial 3, 3) := by decide +kernel
theorem dX0_init_4 : decode cX0_init 4 = .ok (.aload_n 0, 1) := by decide +kernel
theorem dX0_init_5 : decode cX0_init 5 = .ok (.bipush 6, 2) := by decide +kernel
theorem dX0_init_7 : decode cX0_init 7 = .ok (.anewarray 9, 3) := by decide +kernel
theorem dX0_init_10 : decode cX0_init 10 = .ok (.putfield 11, 3) := by decide +kernel
theorem dX0_init_13 : decode cX0_init 13 = .ok (.aload_n 0, 1) := by decide +kernel
theorem dX0_init_14 : decode cX0_init 14 = .ok (.iconst 0, 1) := by decide +kernel
theorem dX0_init_15 : decode cX0_init 15 = .ok (.putfield 17, 3) := by decide +kernel
theorem dX0_init_18 : decode cX0_init 18 = .ok (.iconst 0, 1) := by decide +kernel
theorem dX0_init_19 : decode cX0_init 19 = .ok (.istore_n 1, 1) := by decide +kernel
theorem dX0_init_20 : decode cX0_init 20 = .ok (.iload_n 1, 1) := by decide +kernel
theorem dX0_init_21 : decode cX0_init 21 = .ok (.bipush 6, 2) := by decide +kernel
theorem dX0_init_23 : decode cX0_init 23 = .ok (.if_icmp .ge 22, 3) := by decide +kernel
theorem dX0_init_26 : decode cX0_init 26 = .ok (.aload_n 0, 1) := by decide +kernel
theorem dX0_init_27 : decode cX0_init 27 = .ok (.getfield 11, 3) := by decide +kernel
theorem dX0_init_30 : decode cX0_init 30 = .ok (.iload_n 1, 1) := by decide +kernel
theorem dX0_init_31 : decode cX0_init 31 = .ok (.new 9, 3) := by decide +kernel
theorem dX0_init_34 : decode cX0_init 34 = .ok (.dup, 1) := by decide +kernel
theorem dX0_init_35 : decode cX0_init 35 = .ok (.invokespecial 21, 3) := by decide +kernel
theorem dX0_init_38 : decode cX0_init 38 = .ok (.aastore, 1) := by decide +kernel
theorem dX0_init_39 : decode cX0_init 39 = .ok (.iinc 1 1, 3) := by decide +kernel
theorem dX0_init_42 : decode cX0_init 42 = .ok (.goto (-22), 3) := by decide +kernel
theorem dX0_init_45 : decode cX0_init 45 = .ok (.return_, 1) := by decide +kernel
set_option maxRecDepth 20000 in
theorem ggX0_save_X0_dropOldest : GoodIn wsX0_save wsX0_dropOldest := goodIn_r _ [6, 7, 1, 25, 26] (by decide +kernel) (by decide +kernel)
set_option maxRecDepth 20000 in
theorem gX0_save_X0_dropOldest : GoodIn wsX0_save (wsV RX0 22 RX0 yX0_dropOldest wsX0_dropOldest) := goodIn_app (goodIn_of _ (by decide +kernel)) ggX0_save_X0_dropOldest
set_option maxRecDepth 20000 in
theorem ggX0_save_X0_storyAt : GoodIn wsX0_save wsX0_storyAt := goodIn_r _ [11, 7, 25, 26] (by decide +kernel) (by decide +kernel)
set_option maxRecDepth 20000 in
theorem gX0_save_X0_storyAt : GoodIn wsX0_save (wsV RX0 25 RX0 yX0_storyAt wsX0_storyAt) := goodIn_app (goodIn_of _ (by decide +kernel)) ggX0_save_X0_storyAt
set_option maxRecDepth 20000 in
theorem ggX0_save_X2_copyFrom : GoodIn wsX0_save wsX2_copyFrom := goodIn_r _ [15, 16, 17, 18, 19, 20, 21, 22, 23, 24, 27, 28, 29, 30, 31] (by decide +kernel) (by decide +kernel)
set_option maxRecDepth 20000 in
theorem gX0_save_X2_copyFrom_n29 : GoodIn wsX0_save (wsX2_copyFrom) := ggX0_save_X2_copyFrom
theorem dX0_save_0 : decode cX0_save 0 = .ok (.aload_n 0, 1) := by decide +kernel
theorem dX0_save_1 : decode cX0_save 1 = .ok (.getfield 17, 3) := by decide +kernel
theorem dX0_save_4 : decode cX0_save 4 = .ok (.bipush 6, 2) := by decide +kernel
theorem dX0_save_6 : decode cX0_save 6 = .ok (.if_icmp .lt 7, 3) := by decide +kernel
theorem dX0_save_9 : decode cX0_save 9 = .ok (.aload_n 0, 1) := by decide +kernel
theorem dX0_save_10 : decode cX0_save 10 = .ok (.invokevirtual 22, 3) := by decide +kernel
theorem dX0_save_13 : decode cX0_save 13 = .ok (.aload_n 0, 1) := by decide +kernel
theorem dX0_save_14 : decode cX0_save 14 = .ok (.aload_n 0, 1) := by decide +kernel
theorem dX0_save_15 : decode cX0_save 15 = .ok (.getfield 17, 3) := by decide +kernel
theorem dX0_save_18 : decode cX0_save 18 = .ok (.invokevirtual 25, 3) := by decide +kernel
theorem dX0_save_21 : decode cX0_save 21 = .ok (.astore_n 2, 1) := by decide +kernel
theorem dX0_save_22 : decode cX0_save 22 = .ok (.aload_n 2, 1) := by decide +kernel
theorem dX0_save_23 : decode cX0_save 23 = .ok (.ifnull 18, 3) := by decide +kernel
theorem dX0_save_26 : decode cX0_save 26 = .ok (.aload_n 2, 1) := by decide +kernel
theorem dX0_save_27 : decode cX0_save 27 = .ok (.aload_n 1, 1) := by decide +kernel
theorem dX0_save_28 : decode cX0_save 28 = .ok (.invokevirtual 29, 3) := by decide +kernel
theorem dX0_save_31 : decode cX0_save 31 = .ok (.aload_n 0, 1) := by decide +kernel
theorem dX0_save_32 : decode cX0_save 32 = .ok (.dup, 1) := by decide +kernel
theorem dX0_save_33 : decode cX0_save 33 = .ok (.getfield 17, 3) := by decide +kernel
theorem dX0_save_36 : decode cX0_save 36 = .ok (.iconst 1, 1) := by decide +kernel
theorem dX0_save_37 : decode cX0_save 37 = .ok (.iadd, 1) := by decide +kernel
theorem dX0_save_38 : decode cX0_save 38 = .ok (.putfield 17, 3) := by decide +kernel
theorem dX0_save_41 : decode cX0_save 41 = .ok (.return_, 1) := by decide +kernel
theorem dX0_storyAt_0 : decode cX0_storyAt 0 = .ok (.iload_n 1, 1) := by decide +kernel
theorem dX0_storyAt_1 : decode cX0_storyAt 1 = .ok (.ifCond .lt 18, 3) := by decide +kernel
theorem dX0_storyAt_4 : decode cX0_storyAt 4 = .ok (.iload_n 1, 1) := by decide +kernel
theorem dX0_storyAt_5 : decode cX0_storyAt 5 = .ok (.bipush 6, 2) := by decide +kernel
theorem dX0_storyAt_7 : decode cX0_storyAt 7 = .ok (.if_icmp .ge 12, 3) := by decide +kernel
theorem dX0_storyAt_10 : decode cX0_storyAt 10 = .ok (.aload_n 0, 1) := by decide +kernel
theorem dX0_storyAt_11 : decode cX0_storyAt 11 = .ok (.getfield 11, 3) := by decide +kernel
theorem dX0_storyAt_14 : decode cX0_storyAt 14 = .ok (.iload_n 1, 1) := by decide +kernel
theorem dX0_storyAt_15 : decode cX0_storyAt 15 = .ok (.aaload, 1) := by decide +kernel
theorem dX0_storyAt_16 : decode cX0_storyAt 16 = .ok (.goto 4, 3) := by decide +kernel
theorem dX0_storyAt_19 : decode cX0_storyAt 19 = .ok (.aconst_null, 1) := by decide +kernel
theorem dX0_storyAt_20 : decode cX0_storyAt 20 = .ok (.areturn, 1) := by decide +kernel
theorem dX0_dropOldest_0 : decode cX0_dropOldest 0 = .ok (.aload_n 0, 1) := by decide +kernel
theorem dX0_dropOldest_1 : decode cX0_dropOldest 1 = .ok (.getfield 11, 3) := by decide +kernel
theorem dX0_dropOldest_4 : decode cX0_dropOldest 4 = .ok (.iconst 0, 1) := by decide +kernel
theorem dX0_dropOldest_5 : decode cX0_dropOldest 5 = .ok (.aaload, 1) := by decide +kernel
theorem dX0_dropOldest_6 : decode cX0_dropOldest 6 = .ok (.astore_n 1, 1) := by decide +kernel
theorem dX0_dropOldest_7 : decode cX0_dropOldest 7 = .ok (.iconst 0, 1) := by decide +kernel
theorem dX0_dropOldest_8 : decode cX0_dropOldest 8 = .ok (.istore_n 2, 1) := by decide +kernel
theorem dX0_dropOldest_9 : decode cX0_dropOldest 9 = .ok (.iload_n 2, 1) := by decide +kernel
theorem dX0_dropOldest_10 : decode cX0_dropOldest 10 = .ok (.iconst 5, 1) := by decide +kernel
theorem dX0_dropOldest_11 : decode cX0_dropOldest 11 = .ok (.if_icmp .ge 23, 3) := by decide +kernel
theorem dX0_dropOldest_14 : decode cX0_dropOldest 14 = .ok (.aload_n 0, 1) := by decide +kernel
theorem dX0_dropOldest_15 : decode cX0_dropOldest 15 = .ok (.getfield 11, 3) := by decide +kernel
theorem dX0_dropOldest_18 : decode cX0_dropOldest 18 = .ok (.iload_n 2, 1) := by decide +kernel
theorem dX0_dropOldest_19 : decode cX0_dropOldest 19 = .ok (.aload_n 0, 1) := by decide +kernel
theorem dX0_dropOldest_20 : decode cX0_dropOldest 20 = .ok (.getfield 11, 3) := by decide +kernel
theorem dX0_dropOldest_23 : decode cX0_dropOldest 23 = .ok (.iload_n 2, 1) := by decide +kernel
theorem dX0_dropOldest_24 : decode cX0_dropOldest 24 = .ok (.iconst 1, 1) := by decide +kernel
theorem dX0_dropOldest_25 : decode cX0_dropOldest 25 = .ok (.iadd, 1) := by decide +kernel
theorem dX0_dropOldest_26 : decode cX0_dropOldest 26 = .ok (.aaload, 1) := by decide +kernel
theorem dX0_dropOldest_27 : decode cX0_dropOldest 27 = .ok (.aastore, 1) := by decide +kernel
theorem dX0_dropOldest_28 : decode cX0_dropOldest 28 = .ok (.iinc 2 1, 3) := by decide +kernel
theorem dX0_dropOldest_31 : decode cX0_dropOldest 31 = .ok (.goto (-22), 3) := by decide +kernel
theorem dX0_dropOldest_34 : decode cX0_dropOldest 34 = .ok (.aload_n 0, 1) := by decide +kernel
theorem dX0_dropOldest_35 : decode cX0_dropOldest 35 = .ok (.getfield 11, 3) := by decide +kernel
theorem dX0_dropOldest_38 : decode cX0_dropOldest 38 = .ok (.iconst 5, 1) := by decide +kernel
theorem dX0_dropOldest_39 : decode cX0_dropOldest 39 = .ok (.aload_n 1, 1) := by decide +kernel
theorem dX0_dropOldest_40 : decode cX0_dropOldest 40 = .ok (.aastore, 1) := by decide +kernel
theorem dX0_dropOldest_41 : decode cX0_dropOldest 41 = .ok (.aload_n 0, 1) := by decide +kernel
theorem dX0_dropOldest_42 : decode cX0_dropOldest 42 = .ok (.iconst 5, 1) := by decide +kernel
theorem dX0_dropOldest_43 : decode cX0_dropOldest 43 = .ok (.putfield 17, 3) := by decide +kernel
theorem dX0_dropOldest_46 : decode cX0_dropOldest 46 = .ok (.return_, 1) := by decide +kernel
theorem dX1_init_0 : decode cX1_init 0 = .ok (.aload_n 0, 1) := by decide +kernel
theorem dX1_init_1 : decode cX1_init 1 = .ok (.invokespecial 3, 3) := by decide +kernel
theorem dX1_init_4 : decode cX1_init 4 = .ok (.aload_n 0, 1) := by decide +kernel
theorem dX1_init_5 : decode cX1_init 5 = .ok (.bipush 24, 2) := by decide +kernel
theorem dX1_init_7 : decode cX1_init 7 = .ok (.newarray .int, 2) := by decide +kernel
theorem dX1_init_9 : decode cX1_init 9 = .ok (.putfield 9, 3) := by decide +kernel
theorem dX1_init_12 : decode cX1_init 12 = .ok (.aload_n 0, 1) := by decide +kernel
theorem dX1_init_13 : decode cX1_init 13 = .ok (.bipush 24, 2) := by decide +kernel
theorem dX1_init_15 : decode cX1_init 15 = .ok (.newarray .int, 2) := by decide +kernel
theorem dX1_init_17 : decode cX1_init 17 = .ok (.putfield 15, 3) := by decide +kernel
theorem dX1_init_20 : decode cX1_init 20 = .ok (.aload_n 0, 1) := by decide +kernel
theorem dX1_init_21 : decode cX1_init 21 = .ok (.bipush 24, 2) := by decide +kernel
theorem dX1_init_23 : decode cX1_init 23 = .ok (.newarray .int, 2) := by decide +kernel
theorem dX1_init_25 : decode cX1_init 25 = .ok (.putfield 18, 3) := by decide +kernel
theorem dX1_init_28 : decode cX1_init 28 = .ok (.aload_n 0, 1) := by decide +kernel
theorem dX1_init_29 : decode cX1_init 29 = .ok (.bipush 16, 2) := by decide +kernel
theorem dX1_init_31 : decode cX1_init 31 = .ok (.newarray .int, 2) := by decide +kernel
theorem dX1_init_33 : decode cX1_init 33 = .ok (.putfield 21, 3) := by decide +kernel
theorem dX1_init_36 : decode cX1_init 36 = .ok (.aload_n 0, 1) := by decide +kernel
theorem dX1_init_37 : decode cX1_init 37 = .ok (.bipush 16, 2) := by decide +kernel
theorem dX1_init_39 : decode cX1_init 39 = .ok (.newarray .int, 2) := by decide +kernel
theorem dX1_init_41 : decode cX1_init 41 = .ok (.putfield 24, 3) := by decide +kernel
theorem dX1_init_44 : decode cX1_init 44 = .ok (.aload_n 0, 1) := by decide +kernel
theorem dX1_init_45 : decode cX1_init 45 = .ok (.bipush 16, 2) := by decide +kernel
theorem dX1_init_47 : decode cX1_init 47 = .ok (.newarray .int, 2) := by decide +kernel
theorem dX1_init_49 : decode cX1_init 49 = .ok (.putfield 27, 3) := by decide +kernel
theorem dX1_init_52 : decode cX1_init 52 = .ok (.aload_n 0, 1) := by decide +kernel
theorem dX1_init_53 : decode cX1_init 53 = .ok (.bipush 16, 2) := by decide +kernel
theorem dX1_init_55 : decode cX1_init 55 = .ok (.newarray .int, 2) := by decide +kernel
theorem dX1_init_57 : decode cX1_init 57 = .ok (.putfield 30, 3) := by decide +kernel
theorem dX1_init_60 : decode cX1_init 60 = .ok (.aload_n 0, 1) := by decide +kernel
theorem dX1_init_61 : decode cX1_init 61 = .ok (.bipush 16, 2) := by decide +kernel
theorem dX1_init_63 : decode cX1_init 63 = .ok (.newarray .int, 2) := by decide +kernel
theorem dX1_init_65 : decode cX1_init 65 = .ok (.putfield 33, 3) := by decide +kernel
theorem dX1_init_68 : decode cX1_init 68 = .ok (.aload_n 0, 1) := by decide +kernel
theorem dX1_init_69 : decode cX1_init 69 = .ok (.iconst 0, 1) := by decide +kernel
theorem dX1_init_70 : decode cX1_init 70 = .ok (.putfield 36, 3) := by decide +kernel
theorem dX1_init_73 : decode cX1_init 73 = .ok (.aload_n 0, 1) := by decide +kernel
theorem dX1_init_74 : decode cX1_init 74 = .ok (.iconst 0, 1) := by decide +kernel
theorem dX1_init_75 : decode cX1_init 75 = .ok (.putfield 40, 3) := by decide +kernel
theorem dX1_init_78 : decode cX1_init 78 = .ok (.aload_n 0, 1) := by decide +kernel
theorem dX1_init_79 : decode cX1_init 79 = .ok (.iconst 0, 1) := by decide +kernel
theorem dX1_init_80 : decode cX1_init 80 = .ok (.putfield 43, 3) := by decide +kernel
theorem dX1_init_83 : decode cX1_init 83 = .ok (.aload_n 0, 1) := by decide +kernel
theorem dX1_init_84 : decode cX1_init 84 = .ok (.iconst 0, 1) := by decide +kernel
theorem dX1_init_85 : decode cX1_init 85 = .ok (.putfield 46, 3) := by decide +kernel
theorem dX1_init_88 : decode cX1_init 88 = .ok (.aload_n 0, 1) := by decide +kernel
theorem dX1_init_89 : decode cX1_init 89 = .ok (.iconst 0, 1) := by decide +kernel
theorem dX1_init_90 : decode cX1_init 90 = .ok (.putfield 49, 3) := by decide +kernel
theorem dX1_init_93 : decode cX1_init 93 = .ok (.aload_n 0, 1) := by decide +kernel
theorem dX1_init_94 : decode cX1_init 94 = .ok (.iconst 0, 1) := by decide +kernel
theorem dX1_init_95 : decode cX1_init 95 = .ok (.putfield 52, 3) := by decide +kernel
theorem dX1_init_98 : decode cX1_init 98 = .ok (.aload_n 0, 1) := by decide +kernel
theorem dX1_init_99 : decode cX1_init 99 = .ok (.iconst 0, 1) := by decide +kernel
theorem dX1_init_100 : decode cX1_init 100 = .ok (.putfield 55, 3) := by decide +kernel
theorem dX1_init_103 : decode cX1_init 103 = .ok (.return_, 1) := by decide +kernel
set_option maxRecDepth 20000 in
theorem ggX1_pour_X1_clear : GoodIn wsX1_pour wsX1_clear := goodIn_r _ [6, 7, 8, 9, 10, 11, 12, 13, 14, 15, 16, 17, 5, 18, 19, 20, 21, 70, 71, 72, 73, 74, 75, 76, 77, 78, 79, 80, 81, 82, 83, 84] (by decide +kernel) (by decide +kernel)
set_option maxRecDepth 20000 in
theorem gX1_pour_X1_clear : GoodIn wsX1_pour (wsV RX1 58 RX1 yX1_clear wsX1_clear) := goodIn_app (goodIn_of _ (by decide +kernel)) ggX1_pour_X1_clear
set_option maxRecDepth 20000 in
theorem ggX1_pour_X1_place : GoodIn wsX1_pour wsX1_place := goodIn_r _ [25, 26, 27, 28, 29, 30, 31, 5, 32, 19, 33, 34, 35, 36, 7, 37, 38, 39, 40, 41, 42, 43, 44, 45, 46, 47, 48, 49, 50, 10, 13, 8, 9, 14, 12, 15, 16, 17, 18, 20, 21, 51, 52, 53, 54, 55, 56, 57, 58, 11, 59, 60, 61, 62, 63, 64, 65, 66, 67, 68, 69, 70, 71, 72, 73, 74, 75, 76, 77, 78, 79, 80, 81, 82, 83, 84] (by decide +kernel) (by decide +kernel)
set_option maxRecDepth 20000 in
theorem gX1_pour_X1_place : GoodIn wsX1_pour (wsV RX1 66 RX1 yX1_place wsX1_place) := goodIn_app (goodIn_of _ (by decide +kernel)) ggX1_pour_X1_place
set_option maxRecDepth 20000 in
theorem ggX1_pour_X1_note : GoodIn wsX1_pour wsX1_note := goodIn_r _ [43, 44, 45, 46, 70, 71, 72, 73, 74, 75, 76, 77, 78, 79, 80, 81, 82, 83, 84] (by decide +kernel) (by decide +kernel)
set_option maxRecDepth 20000 in
theorem gX1_pour_X1_note : GoodIn wsX1_pour (wsV RX1 70 RX1 yX1_note wsX1_note) := goodIn_app (goodIn_of _ (by decide +kernel)) ggX1_pour_X1_note
theorem dX1_pour_0 : decode cX1_pour 0 = .ok (.aload_n 0, 1) := by decide +kernel
theorem dX1_pour_1 : decode cX1_pour 1 = .ok (.invokevirtual 58, 3) := by decide +kernel
theorem dX1_pour_4 : decode cX1_pour 4 = .ok (.iconst 0, 1) := by decide +kernel
theorem dX1_pour_5 : decode cX1_pour 5 = .ok (.istore_n 2, 1) := by decide +kernel
theorem dX1_pour_6 : decode cX1_pour 6 = .ok (.iload_n 2, 1) := by decide +kernel
theorem dX1_pour_7 : decode cX1_pour 7 = .ok (.aload_n 1, 1) := by decide +kernel
theorem dX1_pour_8 : decode cX1_pour 8 = .ok (.getfield 61, 3) := by decide +kernel
theorem dX1_pour_11 : decode cX1_pour 11 = .ok (.if_icmp .ge 18, 3) := by decide +kernel
theorem dX1_pour_14 : decode cX1_pour 14 = .ok (.aload_n 0, 1) := by decide +kernel
theorem dX1_pour_15 : decode cX1_pour 15 = .ok (.aload_n 1, 1) := by decide +kernel
theorem dX1_pour_16 : decode cX1_pour 16 = .ok (.iload_n 2, 1) := by decide +kernel
theorem dX1_pour_17 : decode cX1_pour 17 = .ok (.invokevirtual 66, 3) := by decide +kernel
theorem dX1_pour_20 : decode cX1_pour 20 = .ok (.ifCond .eq 9, 3) := by decide +kernel
theorem dX1_pour_23 : decode cX1_pour 23 = .ok (.iinc 2 1, 3) := by decide +kernel
theorem dX1_pour_26 : decode cX1_pour 26 = .ok (.goto (-20), 3) := by decide +kernel
theorem dX1_pour_29 : decode cX1_pour 29 = .ok (.aload_n 0, 1) := by decide +kernel
theorem dX1_pour_30 : decode cX1_pour 30 = .ok (.aload_n 1, 1) := by decide +kernel
theorem dX1_pour_31 : decode cX1_pour 31 = .ok (.getfield 61, 3) := by decide +kernel
theorem dX1_pour_34 : decode cX1_pour 34 = .ok (.iload_n 2, 1) := by decide +kernel
theorem dX1_pour_35 : decode cX1_pour 35 = .ok (.isub, 1) := by decide +kernel
theorem dX1_pour_36 : decode cX1_pour 36 = .ok (.putfield 55, 3) := by decide +kernel
theorem dX1_pour_39 : decode cX1_pour 39 = .ok (.iload_n 2, 1) := by decide +kernel
theorem dX1_pour_40 : decode cX1_pour 40 = .ok (.aload_n 1, 1) := by decide +kernel
theorem dX1_pour_41 : decode cX1_pour 41 = .ok (.getfield 61, 3) := by decide +kernel
theorem dX1_pour_44 : decode cX1_pour 44 = .ok (.if_icmp .ge 17, 3) := by decide +kernel
theorem dX1_pour_47 : decode cX1_pour 47 = .ok (.aload_n 0, 1) := by decide +kernel
theorem dX1_pour_48 : decode cX1_pour 48 = .ok (.iload_n 2, 1) := by decide +kernel
theorem dX1_pour_49 : decode cX1_pour 49 = .ok (.iconst (-1), 1) := by decide +kernel
theorem dX1_pour_50 : decode cX1_pour 50 = .ok (.iconst (-1), 1) := by decide +kernel
theorem dX1_pour_51 : decode cX1_pour 51 = .ok (.iconst (-1), 1) := by decide +kernel
theorem dX1_pour_52 : decode cX1_pour 52 = .ok (.invokevirtual 70, 3) := by decide +kernel
theorem dX1_pour_55 : decode cX1_pour 55 = .ok (.iinc 2 1, 3) := by decide +kernel
theorem dX1_pour_58 : decode cX1_pour 58 = .ok (.goto (-19), 3) := by decide +kernel
theorem dX1_pour_61 : decode cX1_pour 61 = .ok (.return_, 1) := by decide +kernel
set_option maxRecDepth 20000 in
theorem ggX1_clear_X1_beginPage : GoodIn wsX1_clear wsX1_beginPage := goodIn_r _ [13, 14, 15, 16, 17, 18, 19, 20, 21, 22, 23, 24, 25, 26, 27, 28, 29, 30, 31] (by decide +kernel) (by decide +kernel)
set_option maxRecDepth 20000 in
theorem gX1_clear_X1_beginPage : GoodIn wsX1_clear (wsV RX1 74 RX1 yX1_beginPage wsX1_beginPage) := goodIn_app (goodIn_of _ (by decide +kernel)) ggX1_clear_X1_beginPage
theorem dX1_clear_0 : decode cX1_clear 0 = .ok (.iconst 0, 1) := by decide +kernel
theorem dX1_clear_1 : decode cX1_clear 1 = .ok (.istore_n 1, 1) := by decide +kernel
theorem dX1_clear_2 : decode cX1_clear 2 = .ok (.iload_n 1, 1) := by decide +kernel
theorem dX1_clear_3 : decode cX1_clear 3 = .ok (.bipush 16, 2) := by decide +kernel
theorem dX1_clear_5 : decode cX1_clear 5 = .ok (.if_icmp .ge 44, 3) := by decide +kernel
theorem dX1_clear_8 : decode cX1_clear 8 = .ok (.aload_n 0, 1) := by decide +kernel
theorem dX1_clear_9 : decode cX1_clear 9 = .ok (.getfield 21, 3) := by decide +kernel
theorem dX1_clear_12 : decode cX1_clear 12 = .ok (.iload_n 1, 1) := by decide +kernel
theorem dX1_clear_13 : decode cX1_clear 13 = .ok (.iconst 0, 1) := by decide +kernel
theorem dX1_clear_14 : decode cX1_clear 14 = .ok (.iastore, 1) := by decide +kernel
theorem dX1_clear_15 : decode cX1_clear 15 = .ok (.aload_n 0, 1) := by decide +kernel
theorem dX1_clear_16 : decode cX1_clear 16 = .ok (.getfield 24, 3) := by decide +kernel
theorem dX1_clear_19 : decode cX1_clear 19 = .ok (.iload_n 1, 1) := by decide +kernel
theorem dX1_clear_20 : decode cX1_clear 20 = .ok (.iconst 0, 1) := by decide +kernel
theorem dX1_clear_21 : decode cX1_clear 21 = .ok (.iastore, 1) := by decide +kernel
theorem dX1_clear_22 : decode cX1_clear 22 = .ok (.aload_n 0, 1) := by decide +kernel
theorem dX1_clear_23 : decode cX1_clear 23 = .ok (.getfield 27, 3) := by decide +kernel
theorem dX1_clear_26 : decode cX1_clear 26 = .ok (.iload_n 1, 1) := by decide +kernel
theorem dX1_clear_27 : decode cX1_clear 27 = .ok (.iconst 0, 1) := by decide +kernel
theorem dX1_clear_28 : decode cX1_clear 28 = .ok (.iastore, 1) := by decide +kernel
theorem dX1_clear_29 : decode cX1_clear 29 = .ok (.aload_n 0, 1) := by decide +kernel
theorem dX1_clear_30 : decode cX1_clear 30 = .ok (.getfield 30, 3) := by decide +kernel
theorem dX1_clear_33 : decode cX1_clear 33 = .ok (.iload_n 1, 1) := by decide +kernel
theorem dX1_clear_34 : decode cX1_clear 34 = .ok (.iconst 0, 1) := by decide +kernel
theorem dX1_clear_35 : decode cX1_clear 35 = .ok (.iastore, 1) := by decide +kernel
theorem dX1_clear_36 : decode cX1_clear 36 = .ok (.aload_n 0, 1) := by decide +kernel
theorem dX1_clear_37 : decode cX1_clear 37 = .ok (.getfield 33, 3) := by decide +kernel
theorem dX1_clear_40 : decode cX1_clear 40 = .ok (.iload_n 1, 1) := by decide +kernel
theorem dX1_clear_41 : decode cX1_clear 41 = .ok (.iconst 0, 1) := by decide +kernel
theorem dX1_clear_42 : decode cX1_clear 42 = .ok (.iastore, 1) := by decide +kernel
theorem dX1_clear_43 : decode cX1_clear 43 = .ok (.iinc 1 1, 3) := by decide +kernel
theorem dX1_clear_46 : decode cX1_clear 46 = .ok (.goto (-44), 3) := by decide +kernel
theorem dX1_clear_49 : decode cX1_clear 49 = .ok (.aload_n 0, 1) := by decide +kernel
theorem dX1_clear_50 : decode cX1_clear 50 = .ok (.iconst 0, 1) := by decide +kernel
theorem dX1_clear_51 : decode cX1_clear 51 = .ok (.invokevirtual 74, 3) := by decide +kernel
theorem dX1_clear_54 : decode cX1_clear 54 = .ok (.aload_n 0, 1) := by decide +kernel
theorem dX1_clear_55 : decode cX1_clear 55 = .ok (.iconst 0, 1) := by decide +kernel
theorem dX1_clear_56 : decode cX1_clear 56 = .ok (.putfield 46, 3) := by decide +kernel
theorem dX1_clear_59 : decode cX1_clear 59 = .ok (.aload_n 0, 1) := by decide +kernel
theorem dX1_clear_60 : decode cX1_clear 60 = .ok (.iconst 0, 1) := by decide +kernel
theorem dX1_clear_61 : decode cX1_clear 61 = .ok (.putfield 49, 3) := by decide +kernel
theorem dX1_clear_64 : decode cX1_clear 64 = .ok (.aload_n 0, 1) := by decide +kernel
theorem dX1_clear_65 : decode cX1_clear 65 = .ok (.iconst 0, 1) := by decide +kernel
theorem dX1_clear_66 : decode cX1_clear 66 = .ok (.putfield 52, 3) := by decide +kernel
theorem dX1_clear_69 : decode cX1_clear 69 = .ok (.return_, 1) := by decide +kernel
set_option maxRecDepth 20000 in
theorem ggX1_place_X4_read : GoodIn wsX1_place wsX4_read := goodIn_r _ [3] (by decide +kernel) (by decide +kernel)
set_option maxRecDepth 20000 in
theorem gX1_place_X4_read_n81 : GoodIn wsX1_place (wsX4_read) := ggX1_place_X4_read
set_option maxRecDepth 20000 in
theorem ggX1_place_X1_placeOnWholePages : GoodIn wsX1_place wsX1_placeOnWholePages := goodIn_r _ [8, 9, 10, 11, 12, 7, 13, 14, 15, 16, 17, 18, 19, 20, 21, 22, 23, 24, 25, 26, 27, 28, 29, 30, 31, 32, 33, 34, 35, 36, 37, 38, 39, 40, 61, 62, 63, 64, 65, 66, 67, 68, 69, 70, 71, 72, 73, 74, 75] (by decide +kernel) (by decide +kernel)
set_option maxRecDepth 20000 in
theorem gX1_place_X1_placeOnWholePages : GoodIn wsX1_place (wsV RX1 88 RX1 yX1_placeOnWholePages wsX1_placeOnWholePages) := goodIn_app (goodIn_of _ (by decide +kernel)) ggX1_place_X1_placeOnWholePages
set_option maxRecDepth 20000 in
theorem ggX1_place_X1_goOnIfTooManyBeats : GoodIn wsX1_place wsX1_goOnIfTooManyBeats := goodIn_r _ [44, 9, 31, 10, 11, 12, 7, 13, 14, 1, 2, 3, 35, 36, 37, 38, 39, 40, 61, 62, 63, 64, 65, 66, 67, 68, 69, 70, 71, 72, 73, 74, 75] (by decide +kernel) (by decide +kernel)
set_option maxRecDepth 20000 in
theorem gX1_place_X1_goOnIfTooManyBeats : GoodIn wsX1_place (wsV RX1 95 RX1 yX1_goOnIfTooManyBeats wsX1_goOnIfTooManyBeats) := goodIn_app (goodIn_of _ (by decide +kernel)) ggX1_place_X1_goOnIfTooManyBeats
set_option maxRecDepth 20000 in
theorem ggX1_place_X1_placeInRow : GoodIn wsX1_place wsX1_placeInRow := goodIn_r _ [48, 40, 9, 39, 49, 50, 51, 52, 7, 53, 15, 16, 17, 18, 19, 20, 21, 22, 23, 24, 25, 26, 27, 28, 14, 29, 30, 31, 32, 33, 34, 1, 2, 3, 54, 55, 61, 62, 63, 64, 65, 66, 67, 68, 69, 70, 71, 72, 73, 74, 75] (by decide +kernel) (by decide +kernel)
set_option maxRecDepth 20000 in
theorem gX1_place_X1_placeInRow : GoodIn wsX1_place (wsV RX1 102 RX1 yX1_placeInRow wsX1_placeInRow) := goodIn_app (goodIn_of _ (by decide +kernel)) ggX1_place_X1_placeInRow
theorem dX1_place_0 : decode cX1_place 0 = .ok (.aload_n 1, 1) := by decide +kernel
theorem dX1_place_1 : decode cX1_place 1 = .ok (.getfield 78, 3) := by decide +kernel
theorem dX1_place_4 : decode cX1_place 4 = .ok (.iload_n 2, 1) := by decide +kernel
theorem dX1_place_5 : decode cX1_place 5 = .ok (.invokestatic 81, 3) := by decide +kernel
theorem dX1_place_8 : decode cX1_place 8 = .ok (.istore_n 3, 1) := by decide +kernel
theorem dX1_place_9 : decode cX1_place 9 = .ok (.aload_n 1, 1) := by decide +kernel
theorem dX1_place_10 : decode cX1_place 10 = .ok (.getfield 85, 3) := by decide +kernel
theorem dX1_place_13 : decode cX1_place 13 = .ok (.iload_n 2, 1) := by decide +kernel
theorem dX1_place_14 : decode cX1_place 14 = .ok (.invokestatic 81, 3) := by decide +kernel
theorem dX1_place_17 : decode cX1_place 17 = .ok (.istore 4, 2) := by decide +kernel
theorem dX1_place_19 : decode cX1_place 19 = .ok (.iload_n 3, 1) := by decide +kernel
theorem dX1_place_20 : decode cX1_place 20 = .ok (.iconst 2, 1) := by decide +kernel
theorem dX1_place_21 : decode cX1_place 21 = .ok (.if_icmp .ne 12, 3) := by decide +kernel
theorem dX1_place_24 : decode cX1_place 24 = .ok (.aload_n 0, 1) := by decide +kernel
theorem dX1_place_25 : decode cX1_place 25 = .ok (.iload_n 2, 1) := by decide +kernel
theorem dX1_place_26 : decode cX1_place 26 = .ok (.iload 4, 2) := by decide +kernel
theorem dX1_place_28 : decode cX1_place 28 = .ok (.iconst 1, 1) := by decide +kernel
theorem dX1_place_29 : decode cX1_place 29 = .ok (.invokevirtual 88, 3) := by decide +kernel
theorem dX1_place_32 : decode cX1_place 32 = .ok (.ireturn, 1) := by decide +kernel
theorem dX1_place_33 : decode cX1_place 33 = .ok (.iload_n 3, 1) := by decide +kernel
theorem dX1_place_34 : decode cX1_place 34 = .ok (.iconst 3, 1) := by decide +kernel
theorem dX1_place_35 : decode cX1_place 35 = .ok (.if_icmp .ne 12, 3) := by decide +kernel
theorem dX1_place_38 : decode cX1_place 38 = .ok (.aload_n 0, 1) := by decide +kernel
theorem dX1_place_39 : decode cX1_place 39 = .ok (.iload_n 2, 1) := by decide +kernel
theorem dX1_place_40 : decode cX1_place 40 = .ok (.iload 4, 2) := by decide +kernel
theorem dX1_place_42 : decode cX1_place 42 = .ok (.iconst 2, 1) := by decide +kernel
theorem dX1_place_43 : decode cX1_place 43 = .ok (.invokevirtual 88, 3) := by decide +kernel
theorem dX1_place_46 : decode cX1_place 46 = .ok (.ireturn, 1) := by decide +kernel
theorem dX1_place_47 : decode cX1_place 47 = .ok (.aload_n 0, 1) := by decide +kernel
theorem dX1_place_48 : decode cX1_place 48 = .ok (.iload 4, 2) := by decide +kernel
theorem dX1_place_50 : decode cX1_place 50 = .ok (.aload_n 1, 1) := by decide +kernel
theorem dX1_place_51 : decode cX1_place 51 = .ok (.getfield 92, 3) := by decide +kernel
theorem dX1_place_54 : decode cX1_place 54 = .ok (.invokevirtual 95, 3) := by decide +kernel
theorem dX1_place_57 : decode cX1_place 57 = .ok (.aload_n 0, 1) := by decide +kernel
theorem dX1_place_58 : decode cX1_place 58 = .ok (.iload_n 2, 1) := by decide +kernel
theorem dX1_place_59 : decode cX1_place 59 = .ok (.iload_n 3, 1) := by decide +kernel
theorem dX1_place_60 : decode cX1_place 60 = .ok (.iconst 1, 1) := by decide +kernel
theorem dX1_place_61 : decode cX1_place 61 = .ok (.if_icmp .ne 7, 3) := by decide +kernel
theorem dX1_place_64 : decode cX1_place 64 = .ok (.iconst 1, 1) := by decide +kernel
theorem dX1_place_65 : decode cX1_place 65 = .ok (.goto 4, 3) := by decide +kernel
theorem dX1_place_68 : decode cX1_place 68 = .ok (.iconst 0, 1) := by decide +kernel
theorem dX1_place_69 : decode cX1_place 69 = .ok (.aload_n 1, 1) := by decide +kernel
theorem dX1_place_70 : decode cX1_place 70 = .ok (.getfield 99, 3) := by decide +kernel
theorem dX1_place_73 : decode cX1_place 73 = .ok (.iload_n 2, 1) := by decide +kernel
theorem dX1_place_74 : decode cX1_place 74 = .ok (.invokestatic 81, 3) := by decide +kernel
theorem dX1_place_77 : decode cX1_place 77 = .ok (.iload 4, 2) := by decide +kernel
theorem dX1_place_79 : decode cX1_place 79 = .ok (.invokevirtual 102, 3) := by decide +kernel
theorem dX1_place_82 : decode cX1_place 82 = .ok (.ireturn, 1) := by decide +kernel
set_option maxRecDepth 20000 in
theorem ggX1_placeOnWholePages_X1_isBearing : GoodIn wsX1_placeOnWholePages wsX1_isBearing := goodIn_r _ [6, 7, 34, 35, 36, 37, 38, 39, 40, 41, 42, 43, 44, 45, 46, 47, 48] (by decide +kernel) (by decide +kernel)
set_option maxRecDepth 20000 in
theorem gX1_placeOnWholePages_X1_isBearing : GoodIn wsX1_placeOnWholePages (wsV RX1 106 RX1 yX1_isBearing wsX1_isBearing) := goodIn_app (goodIn_of _ (by decide +kernel)) ggX1_placeOnWholePages_X1_isBearing
set_option maxRecDepth 20000 in
theorem ggX1_placeOnWholePages_X1_isOnLeft : GoodIn wsX1_placeOnWholePages wsX1_isOnLeft := goodIn_r _ [10] (by decide +kernel) (by decide +kernel)
set_option maxRecDepth 20000 in
theorem gX1_placeOnWholePages_X1_isOnLeft : GoodIn wsX1_placeOnWholePages (va_wsS RX1 110 yX1_isOnLeft wsX1_isOnLeft) := goodIn_app (goodIn_of _ (by decide +kernel)) ggX1_placeOnWholePages_X1_isOnLeft
set_option maxRecDepth 20000 in
theorem ggX1_placeOnWholePages_X1_note : GoodIn wsX1_placeOnWholePages wsX1_note := goodIn_r _ [14, 15, 16, 17, 34, 35, 36, 37, 38, 39, 40, 41, 42, 43, 44, 45, 46, 47, 48] (by decide +kernel) (by decide +kernel)
set_option maxRecDepth 20000 in
theorem gX1_placeOnWholePages_X1_note : GoodIn wsX1_placeOnWholePages (wsV RX1 70 RX1 yX1_note wsX1_note) := goodIn_app (goodIn_of _ (by decide +kernel)) ggX1_placeOnWholePages_X1_note
set_option maxRecDepth 20000 in
theorem ggX1_placeOnWholePages_X1_bear : GoodIn wsX1_placeOnWholePages wsX1_bear := goodIn_r _ [21, 7, 22, 23, 24, 25, 26, 27, 34, 35, 36, 37, 38, 39, 40, 41, 42, 43, 44, 45, 46, 47, 48] (by decide +kernel) (by decide +kernel)
set_option maxRecDepth 20000 in
theorem gX1_placeOnWholePages_X1_bear : GoodIn wsX1_placeOnWholePages (wsV RX1 113 RX1 yX1_bear wsX1_bear) := goodIn_app (goodIn_of _ (by decide +kernel)) ggX1_placeOnWholePages_X1_bear
set_option maxRecDepth 20000 in
theorem ggX1_placeOnWholePages_X1_beginPage : GoodIn wsX1_placeOnWholePages wsX1_beginPage := goodIn_r _ [31, 1, 32, 33, 34, 35, 36, 37, 38, 39, 40, 41, 42, 43, 44, 45, 46, 47, 48] (by decide +kernel) (by decide +kernel)
set_option maxRecDepth 20000 in
theorem gX1_placeOnWholePages_X1_beginPage : GoodIn wsX1_placeOnWholePages (wsV RX1 74 RX1 yX1_beginPage wsX1_beginPage) := goodIn_app (goodIn_of _ (by decide +kernel)) ggX1_placeOnWholePages_X1_beginPage
theorem dX1_placeOnWholePages_0 : decode cX1_placeOnWholePages 0 = .ok (.aload_n 0, 1) := by decide +kernel
theorem dX1_placeOnWholePages_1 : decode cX1_placeOnWholePages 1 = .ok (.aload_n 0, 1) := by decide +kernel
theorem dX1_placeOnWholePages_2 : decode cX1_placeOnWholePages 2 = .ok (.getfield 36, 3) := by decide +kernel
theorem dX1_placeOnWholePages_5 : decode cX1_placeOnWholePages 5 = .ok (.invokevirtual 106, 3) := by decide +kernel
theorem dX1_placeOnWholePages_8 : decode cX1_placeOnWholePages 8 = .ok (.ifCond .eq 12, 3) := by decide +kernel
theorem dX1_placeOnWholePages_11 : decode cX1_placeOnWholePages 11 = .ok (.aload_n 0, 1) := by decide +kernel
theorem dX1_placeOnWholePages_12 : decode cX1_placeOnWholePages 12 = .ok (.getfield 36, 3) := by decide +kernel
theorem dX1_placeOnWholePages_15 : decode cX1_placeOnWholePages 15 = .ok (.iconst 1, 1) := by decide +kernel
theorem dX1_placeOnWholePages_16 : decode cX1_placeOnWholePages 16 = .ok (.iadd, 1) := by decide +kernel
theorem dX1_placeOnWholePages_17 : decode cX1_placeOnWholePages 17 = .ok (.goto 7, 3) := by decide +kernel
theorem dX1_placeOnWholePages_20 : decode cX1_placeOnWholePages 20 = .ok (.aload_n 0, 1) := by decide +kernel
theorem dX1_placeOnWholePages_21 : decode cX1_placeOnWholePages 21 = .ok (.getfield 36, 3) := by decide +kernel
theorem dX1_placeOnWholePages_24 : decode cX1_placeOnWholePages 24 = .ok (.istore 4, 2) := by decide +kernel
theorem dX1_placeOnWholePages_26 : decode cX1_placeOnWholePages 26 = .ok (.iload_n 3, 1) := by decide +kernel
theorem dX1_placeOnWholePages_27 : decode cX1_placeOnWholePages 27 = .ok (.iconst 2, 1) := by decide +kernel
theorem dX1_placeOnWholePages_28 : decode cX1_placeOnWholePages 28 = .ok (.if_icmp .ne 14, 3) := by decide +kernel
theorem dX1_placeOnWholePages_31 : decode cX1_placeOnWholePages 31 = .ok (.iload 4, 2) := by decide +kernel
theorem dX1_placeOnWholePages_33 : decode cX1_placeOnWholePages 33 = .ok (.invokestatic 110, 3) := by decide +kernel
theorem dX1_placeOnWholePages_36 : decode cX1_placeOnWholePages 36 = .ok (.ifCond .eq 6, 3) := by decide +kernel
theorem dX1_placeOnWholePages_39 : decode cX1_placeOnWholePages 39 = .ok (.iinc 4 1, 3) := by decide +kernel
theorem dX1_placeOnWholePages_42 : decode cX1_placeOnWholePages 42 = .ok (.iload 4, 2) := by decide +kernel
theorem dX1_placeOnWholePages_44 : decode cX1_placeOnWholePages 44 = .ok (.iload_n 3, 1) := by decide +kernel
theorem dX1_placeOnWholePages_45 : decode cX1_placeOnWholePages 45 = .ok (.iadd, 1) := by decide +kernel
theorem dX1_placeOnWholePages_46 : decode cX1_placeOnWholePages 46 = .ok (.bipush 16, 2) := by decide +kernel
theorem dX1_placeOnWholePages_48 : decode cX1_placeOnWholePages 48 = .ok (.if_icmp .le 5, 3) := by decide +kernel
theorem dX1_placeOnWholePages_51 : decode cX1_placeOnWholePages 51 = .ok (.iconst 0, 1) := by decide +kernel
theorem dX1_placeOnWholePages_52 : decode cX1_placeOnWholePages 52 = .ok (.ireturn, 1) := by decide +kernel
theorem dX1_placeOnWholePages_53 : decode cX1_placeOnWholePages 53 = .ok (.aload_n 0, 1) := by decide +kernel
theorem dX1_placeOnWholePages_54 : decode cX1_placeOnWholePages 54 = .ok (.iload_n 1, 1) := by decide +kernel
theorem dX1_placeOnWholePages_55 : decode cX1_placeOnWholePages 55 = .ok (.iload 4, 2) := by decide +kernel
theorem dX1_placeOnWholePages_57 : decode cX1_placeOnWholePages 57 = .ok (.iconst (-1), 1) := by decide +kernel
theorem dX1_placeOnWholePages_58 : decode cX1_placeOnWholePages 58 = .ok (.iconst (-1), 1) := by decide +kernel
theorem dX1_placeOnWholePages_59 : decode cX1_placeOnWholePages 59 = .ok (.invokevirtual 70, 3) := by decide +kernel
theorem dX1_placeOnWholePages_62 : decode cX1_placeOnWholePages 62 = .ok (.aload_n 0, 1) := by decide +kernel
theorem dX1_placeOnWholePages_63 : decode cX1_placeOnWholePages 63 = .ok (.iload 4, 2) := by decide +kernel
theorem dX1_placeOnWholePages_65 : decode cX1_placeOnWholePages 65 = .ok (.iload_n 1, 1) := by decide +kernel
theorem dX1_placeOnWholePages_66 : decode cX1_placeOnWholePages 66 = .ok (.bipush 24, 2) := by decide +kernel
theorem dX1_placeOnWholePages_68 : decode cX1_placeOnWholePages 68 = .ok (.iload_n 2, 1) := by decide +kernel
theorem dX1_placeOnWholePages_69 : decode cX1_placeOnWholePages 69 = .ok (.invokevirtual 113, 3) := by decide +kernel
theorem dX1_placeOnWholePages_72 : decode cX1_placeOnWholePages 72 = .ok (.iload_n 3, 1) := by decide +kernel
theorem dX1_placeOnWholePages_73 : decode cX1_placeOnWholePages 73 = .ok (.iconst 2, 1) := by decide +kernel
theorem dX1_placeOnWholePages_74 : decode cX1_placeOnWholePages 74 = .ok (.if_icmp .ne 15, 3) := by decide +kernel
theorem dX1_placeOnWholePages_77 : decode cX1_placeOnWholePages 77 = .ok (.aload_n 0, 1) := by decide +kernel
theorem dX1_placeOnWholePages_78 : decode cX1_placeOnWholePages 78 = .ok (.iload 4, 2) := by decide +kernel
theorem dX1_placeOnWholePages_80 : decode cX1_placeOnWholePages 80 = .ok (.iconst 1, 1) := by decide +kernel
theorem dX1_placeOnWholePages_81 : decode cX1_placeOnWholePages 81 = .ok (.iadd, 1) := by decide +kernel
theorem dX1_placeOnWholePages_82 : decode cX1_placeOnWholePages 82 = .ok (.iload_n 1, 1) := by decide +kernel
theorem dX1_placeOnWholePages_83 : decode cX1_placeOnWholePages 83 = .ok (.bipush 24, 2) := by decide +kernel
theorem dX1_placeOnWholePages_85 : decode cX1_placeOnWholePages 85 = .ok (.iconst 0, 1) := by decide +kernel
theorem dX1_placeOnWholePages_86 : decode cX1_placeOnWholePages 86 = .ok (.invokevirtual 113, 3) := by decide +kernel
theorem dX1_placeOnWholePages_89 : decode cX1_placeOnWholePages 89 = .ok (.aload_n 0, 1) := by decide +kernel
theorem dX1_placeOnWholePages_90 : decode cX1_placeOnWholePages 90 = .ok (.iload 4, 2) := by decide +kernel
theorem dX1_placeOnWholePages_92 : decode cX1_placeOnWholePages 92 = .ok (.iload_n 3, 1) := by decide +kernel
theorem dX1_placeOnWholePages_93 : decode cX1_placeOnWholePages 93 = .ok (.iadd, 1) := by decide +kernel
theorem dX1_placeOnWholePages_94 : decode cX1_placeOnWholePages 94 = .ok (.invokevirtual 74, 3) := by decide +kernel
theorem dX1_placeOnWholePages_97 : decode cX1_placeOnWholePages 97 = .ok (.iconst 1, 1) := by decide +kernel
theorem dX1_placeOnWholePages_98 : decode cX1_placeOnWholePages 98 = .ok (.ireturn, 1) := by decide +kernel
set_option maxRecDepth 20000 in
theorem ggX1_goOnIfTooManyBeats_X1_isBearing : GoodIn wsX1_goOnIfTooManyBeats wsX1_isBearing := goodIn_r _ [7, 8, 18, 19, 20, 21, 22, 23, 24, 25, 26, 27, 28, 29, 30, 31, 32] (by decide +kernel) (by decide +kernel)
set_option maxRecDepth 20000 in
theorem gX1_goOnIfTooManyBeats_X1_isBearing : GoodIn wsX1_goOnIfTooManyBeats (wsV RX1 106 RX1 yX1_isBearing wsX1_isBearing) := goodIn_app (goodIn_of _ (by decide +kernel)) ggX1_goOnIfTooManyBeats_X1_isBearing
set_option maxRecDepth 20000 in
theorem ggX1_goOnIfTooManyBeats_X4_read : GoodIn wsX1_goOnIfTooManyBeats wsX4_read := goodIn_r _ [11] (by decide +kernel) (by decide +kernel)
set_option maxRecDepth 20000 in
theorem gX1_goOnIfTooManyBeats_X4_read_n81 : GoodIn wsX1_goOnIfTooManyBeats (wsX4_read) := ggX1_goOnIfTooManyBeats_X4_read
set_option maxRecDepth 20000 in
theorem ggX1_goOnIfTooManyBeats_X1_beginPage : GoodIn wsX1_goOnIfTooManyBeats wsX1_beginPage := goodIn_r _ [15, 1, 16, 17, 18, 19, 20, 21, 22, 23, 24, 25, 26, 27, 28, 29, 30, 31, 32] (by decide +kernel) (by decide +kernel)
set_option maxRecDepth 20000 in
theorem gX1_goOnIfTooManyBeats_X1_beginPage : GoodIn wsX1_goOnIfTooManyBeats (wsV RX1 74 RX1 yX1_beginPage wsX1_beginPage) := goodIn_app (goodIn_of _ (by decide +kernel)) ggX1_goOnIfTooManyBeats_X1_beginPage
theorem dX1_goOnIfTooManyBeats_0 : decode cX1_goOnIfTooManyBeats 0 = .ok (.aload_n 0, 1) := by decide +kernel
theorem dX1_goOnIfTooManyBeats_1 : decode cX1_goOnIfTooManyBeats 1 = .ok (.aload_n 0, 1) := by decide +kernel
theorem dX1_goOnIfTooManyBeats_2 : decode cX1_goOnIfTooManyBeats 2 = .ok (.getfield 36, 3) := by decide +kernel
theorem dX1_goOnIfTooManyBeats_5 : decode cX1_goOnIfTooManyBeats 5 = .ok (.invokevirtual 106, 3) := by decide +kernel
theorem dX1_goOnIfTooManyBeats_8 : decode cX1_goOnIfTooManyBeats 8 = .ok (.ifCond .eq 30, 3) := by decide +kernel
theorem dX1_goOnIfTooManyBeats_11 : decode cX1_goOnIfTooManyBeats 11 = .ok (.aload_n 0, 1) := by decide +kernel
theorem dX1_goOnIfTooManyBeats_12 : decode cX1_goOnIfTooManyBeats 12 = .ok (.getfield 24, 3) := by decide +kernel
theorem dX1_goOnIfTooManyBeats_15 : decode cX1_goOnIfTooManyBeats 15 = .ok (.aload_n 0, 1) := by decide +kernel
theorem dX1_goOnIfTooManyBeats_16 : decode cX1_goOnIfTooManyBeats 16 = .ok (.getfield 36, 3) := by decide +kernel
theorem dX1_goOnIfTooManyBeats_19 : decode cX1_goOnIfTooManyBeats 19 = .ok (.invokestatic 81, 3) := by decide +kernel
theorem dX1_goOnIfTooManyBeats_22 : decode cX1_goOnIfTooManyBeats 22 = .ok (.iload_n 1, 1) := by decide +kernel
theorem dX1_goOnIfTooManyBeats_23 : decode cX1_goOnIfTooManyBeats 23 = .ok (.iadd, 1) := by decide +kernel
theorem dX1_goOnIfTooManyBeats_24 : decode cX1_goOnIfTooManyBeats 24 = .ok (.iload_n 2, 1) := by decide +kernel
theorem dX1_goOnIfTooManyBeats_25 : decode cX1_goOnIfTooManyBeats 25 = .ok (.if_icmp .le 13, 3) := by decide +kernel
theorem dX1_goOnIfTooManyBeats_28 : decode cX1_goOnIfTooManyBeats 28 = .ok (.aload_n 0, 1) := by decide +kernel
theorem dX1_goOnIfTooManyBeats_29 : decode cX1_goOnIfTooManyBeats 29 = .ok (.aload_n 0, 1) := by decide +kernel
theorem dX1_goOnIfTooManyBeats_30 : decode cX1_goOnIfTooManyBeats 30 = .ok (.getfield 36, 3) := by decide +kernel
theorem dX1_goOnIfTooManyBeats_33 : decode cX1_goOnIfTooManyBeats 33 = .ok (.iconst 1, 1) := by decide +kernel
theorem dX1_goOnIfTooManyBeats_34 : decode cX1_goOnIfTooManyBeats 34 = .ok (.iadd, 1) := by decide +kernel
theorem dX1_goOnIfTooManyBeats_35 : decode cX1_goOnIfTooManyBeats 35 = .ok (.invokevirtual 74, 3) := by decide +kernel
theorem dX1_goOnIfTooManyBeats_38 : decode cX1_goOnIfTooManyBeats 38 = .ok (.return_, 1) := by decide +kernel
set_option maxRecDepth 20000 in
theorem ggX1_placeInRow_X1_beginRow : GoodIn wsX1_placeInRow wsX1_beginRow := goodIn_r _ [9, 1, 3, 2, 36, 37, 38, 39, 40, 41, 42, 43, 44, 45, 46, 47, 48, 49, 50] (by decide +kernel) (by decide +kernel)
set_option maxRecDepth 20000 in
theorem gX1_placeInRow_X1_beginRow : GoodIn wsX1_placeInRow (wsV RX1 116 RX1 yX1_beginRow wsX1_beginRow) := goodIn_app (goodIn_of _ (by decide +kernel)) ggX1_placeInRow_X1_beginRow
set_option maxRecDepth 20000 in
theorem ggX1_placeInRow_X1_isOnLeft : GoodIn wsX1_placeInRow wsX1_isOnLeft := goodIn_r _ [12] (by decide +kernel) (by decide +kernel)
set_option maxRecDepth 20000 in
theorem gX1_placeInRow_X1_isOnLeft : GoodIn wsX1_placeInRow (va_wsS RX1 110 yX1_isOnLeft wsX1_isOnLeft) := goodIn_app (goodIn_of _ (by decide +kernel)) ggX1_placeInRow_X1_isOnLeft
set_option maxRecDepth 20000 in
theorem ggX1_placeInRow_X1_note : GoodIn wsX1_placeInRow wsX1_note := goodIn_r _ [16, 17, 18, 19, 36, 37, 38, 39, 40, 41, 42, 43, 44, 45, 46, 47, 48, 49, 50] (by decide +kernel) (by decide +kernel)
set_option maxRecDepth 20000 in
theorem gX1_placeInRow_X1_note : GoodIn wsX1_placeInRow (wsV RX1 70 RX1 yX1_note wsX1_note) := goodIn_app (goodIn_of _ (by decide +kernel)) ggX1_placeInRow_X1_note
set_option maxRecDepth 20000 in
theorem ggX1_placeInRow_X1_bear : GoodIn wsX1_placeInRow wsX1_bear := goodIn_r _ [23, 24, 25, 26, 27, 28, 29, 30, 36, 37, 38, 39, 40, 41, 42, 43, 44, 45, 46, 47, 48, 49, 50] (by decide +kernel) (by decide +kernel)
set_option maxRecDepth 20000 in
theorem gX1_placeInRow_X1_bear : GoodIn wsX1_placeInRow (wsV RX1 113 RX1 yX1_bear wsX1_bear) := goodIn_app (goodIn_of _ (by decide +kernel)) ggX1_placeInRow_X1_bear
set_option maxRecDepth 20000 in
theorem ggX1_placeInRow_X4_read : GoodIn wsX1_placeInRow wsX4_read := goodIn_r _ [33] (by decide +kernel) (by decide +kernel)
set_option maxRecDepth 20000 in
theorem gX1_placeInRow_X4_read_n81 : GoodIn wsX1_placeInRow (wsX4_read) := ggX1_placeInRow_X4_read
set_option maxRecDepth 20000 in
theorem ggX1_placeInRow_X4_write : GoodIn wsX1_placeInRow wsX4_write := goodIn_r _ [35] (by decide +kernel) (by decide +kernel)
set_option maxRecDepth 20000 in
theorem gX1_placeInRow_X4_write_n119 : GoodIn wsX1_placeInRow (wsX4_write) := ggX1_placeInRow_X4_write
theorem dX1_placeInRow_0 : decode cX1_placeInRow 0 = .ok (.bipush 6, 2) := by decide +kernel
theorem dX1_placeInRow_2 : decode cX1_placeInRow 2 = .ok (.aload_n 0, 1) := by decide +kernel
theorem dX1_placeInRow_3 : decode cX1_placeInRow 3 = .ok (.getfield 43, 3) := by decide +kernel
theorem dX1_placeInRow_6 : decode cX1_placeInRow 6 = .ok (.isub, 1) := by decide +kernel
theorem dX1_placeInRow_7 : decode cX1_placeInRow 7 = .ok (.iload_n 3, 1) := by decide +kernel
theorem dX1_placeInRow_8 : decode cX1_placeInRow 8 = .ok (.if_icmp .ge 7, 3) := by decide +kernel
theorem dX1_placeInRow_11 : decode cX1_placeInRow 11 = .ok (.aload_n 0, 1) := by decide +kernel
theorem dX1_placeInRow_12 : decode cX1_placeInRow 12 = .ok (.invokevirtual 116, 3) := by decide +kernel
theorem dX1_placeInRow_15 : decode cX1_placeInRow 15 = .ok (.iload_n 2, 1) := by decide +kernel
theorem dX1_placeInRow_16 : decode cX1_placeInRow 16 = .ok (.ifCond .eq 24, 3) := by decide +kernel
theorem dX1_placeInRow_19 : decode cX1_placeInRow 19 = .ok (.aload_n 0, 1) := by decide +kernel
theorem dX1_placeInRow_20 : decode cX1_placeInRow 20 = .ok (.getfield 36, 3) := by decide +kernel
theorem dX1_placeInRow_23 : decode cX1_placeInRow 23 = .ok (.invokestatic 110, 3) := by decide +kernel
theorem dX1_placeInRow_26 : decode cX1_placeInRow 26 = .ok (.ifCond .ne 14, 3) := by decide +kernel
theorem dX1_placeInRow_29 : decode cX1_placeInRow 29 = .ok (.aload_n 0, 1) := by decide +kernel
theorem dX1_placeInRow_30 : decode cX1_placeInRow 30 = .ok (.getfield 43, 3) := by decide +kernel
theorem dX1_placeInRow_33 : decode cX1_placeInRow 33 = .ok (.ifCond .eq 7, 3) := by decide +kernel
theorem dX1_placeInRow_36 : decode cX1_placeInRow 36 = .ok (.aload_n 0, 1) := by decide +kernel
theorem dX1_placeInRow_37 : decode cX1_placeInRow 37 = .ok (.invokevirtual 116, 3) := by decide +kernel
theorem dX1_placeInRow_40 : decode cX1_placeInRow 40 = .ok (.aload_n 0, 1) := by decide +kernel
theorem dX1_placeInRow_41 : decode cX1_placeInRow 41 = .ok (.getfield 36, 3) := by decide +kernel
theorem dX1_placeInRow_44 : decode cX1_placeInRow 44 = .ok (.bipush 16, 2) := by decide +kernel
theorem dX1_placeInRow_46 : decode cX1_placeInRow 46 = .ok (.if_icmp .lt 5, 3) := by decide +kernel
theorem dX1_placeInRow_49 : decode cX1_placeInRow 49 = .ok (.iconst 0, 1) := by decide +kernel
theorem dX1_placeInRow_50 : decode cX1_placeInRow 50 = .ok (.ireturn, 1) := by decide +kernel
theorem dX1_placeInRow_51 : decode cX1_placeInRow 51 = .ok (.iload_n 2, 1) := by decide +kernel
theorem dX1_placeInRow_52 : decode cX1_placeInRow 52 = .ok (.ifCond .eq 20, 3) := by decide +kernel
theorem dX1_placeInRow_55 : decode cX1_placeInRow 55 = .ok (.aload_n 0, 1) := by decide +kernel
theorem dX1_placeInRow_56 : decode cX1_placeInRow 56 = .ok (.getfield 36, 3) := by decide +kernel
theorem dX1_placeInRow_59 : decode cX1_placeInRow 59 = .ok (.invokestatic 110, 3) := by decide +kernel
theorem dX1_placeInRow_62 : decode cX1_placeInRow 62 = .ok (.ifCond .eq 10, 3) := by decide +kernel
theorem dX1_placeInRow_65 : decode cX1_placeInRow 65 = .ok (.bipush 6, 2) := by decide +kernel
theorem dX1_placeInRow_67 : decode cX1_placeInRow 67 = .ok (.iload_n 3, 1) := by decide +kernel
theorem dX1_placeInRow_68 : decode cX1_placeInRow 68 = .ok (.isub, 1) := by decide +kernel
theorem dX1_placeInRow_69 : decode cX1_placeInRow 69 = .ok (.goto 7, 3) := by decide +kernel
theorem dX1_placeInRow_72 : decode cX1_placeInRow 72 = .ok (.aload_n 0, 1) := by decide +kernel
theorem dX1_placeInRow_73 : decode cX1_placeInRow 73 = .ok (.getfield 43, 3) := by decide +kernel
theorem dX1_placeInRow_76 : decode cX1_placeInRow 76 = .ok (.istore 5, 2) := by decide +kernel
theorem dX1_placeInRow_78 : decode cX1_placeInRow 78 = .ok (.aload_n 0, 1) := by decide +kernel
theorem dX1_placeInRow_79 : decode cX1_placeInRow 79 = .ok (.iload_n 1, 1) := by decide +kernel
theorem dX1_placeInRow_80 : decode cX1_placeInRow 80 = .ok (.aload_n 0, 1) := by decide +kernel
theorem dX1_placeInRow_81 : decode cX1_placeInRow 81 = .ok (.getfield 36, 3) := by decide +kernel
theorem dX1_placeInRow_84 : decode cX1_placeInRow 84 = .ok (.aload_n 0, 1) := by decide +kernel
theorem dX1_placeInRow_85 : decode cX1_placeInRow 85 = .ok (.getfield 40, 3) := by decide +kernel
theorem dX1_placeInRow_88 : decode cX1_placeInRow 88 = .ok (.iload 5, 2) := by decide +kernel
theorem dX1_placeInRow_90 : decode cX1_placeInRow 90 = .ok (.invokevirtual 70, 3) := by decide +kernel
theorem dX1_placeInRow_93 : decode cX1_placeInRow 93 = .ok (.aload_n 0, 1) := by decide +kernel
theorem dX1_placeInRow_94 : decode cX1_placeInRow 94 = .ok (.aload_n 0, 1) := by decide +kernel
theorem dX1_placeInRow_95 : decode cX1_placeInRow 95 = .ok (.getfield 36, 3) := by decide +kernel
theorem dX1_placeInRow_98 : decode cX1_placeInRow 98 = .ok (.iload_n 1, 1) := by decide +kernel
theorem dX1_placeInRow_99 : decode cX1_placeInRow 99 = .ok (.iload_n 3, 1) := by decide +kernel
theorem dX1_placeInRow_100 : decode cX1_placeInRow 100 = .ok (.iload 4, 2) := by decide +kernel
theorem dX1_placeInRow_102 : decode cX1_placeInRow 102 = .ok (.invokevirtual 113, 3) := by decide +kernel
theorem dX1_placeInRow_105 : decode cX1_placeInRow 105 = .ok (.iload_n 2, 1) := by decide +kernel
theorem dX1_placeInRow_106 : decode cX1_placeInRow 106 = .ok (.ifCond .eq 27, 3) := by decide +kernel
theorem dX1_placeInRow_109 : decode cX1_placeInRow 109 = .ok (.aload_n 0, 1) := by decide +kernel
theorem dX1_placeInRow_110 : decode cX1_placeInRow 110 = .ok (.getfield 33, 3) := by decide +kernel
theorem dX1_placeInRow_113 : decode cX1_placeInRow 113 = .ok (.aload_n 0, 1) := by decide +kernel
theorem dX1_placeInRow_114 : decode cX1_placeInRow 114 = .ok (.getfield 36, 3) := by decide +kernel
theorem dX1_placeInRow_117 : decode cX1_placeInRow 117 = .ok (.aload_n 0, 1) := by decide +kernel
theorem dX1_placeInRow_118 : decode cX1_placeInRow 118 = .ok (.getfield 33, 3) := by decide +kernel
theorem dX1_placeInRow_121 : decode cX1_placeInRow 121 = .ok (.aload_n 0, 1) := by decide +kernel
theorem dX1_placeInRow_122 : decode cX1_placeInRow 122 = .ok (.getfield 36, 3) := by decide +kernel
theorem dX1_placeInRow_125 : decode cX1_placeInRow 125 = .ok (.invokestatic 81, 3) := by decide +kernel
theorem dX1_placeInRow_128 : decode cX1_placeInRow 128 = .ok (.iconst 1, 1) := by decide +kernel
theorem dX1_placeInRow_129 : decode cX1_placeInRow 129 = .ok (.iadd, 1) := by decide +kernel
theorem dX1_placeInRow_130 : decode cX1_placeInRow 130 = .ok (.invokestatic 119, 3) := by decide +kernel
theorem dX1_placeInRow_133 : decode cX1_placeInRow 133 = .ok (.aload_n 0, 1) := by decide +kernel
theorem dX1_placeInRow_134 : decode cX1_placeInRow 134 = .ok (.iload 5, 2) := by decide +kernel
theorem dX1_placeInRow_136 : decode cX1_placeInRow 136 = .ok (.iload_n 3, 1) := by decide +kernel
theorem dX1_placeInRow_137 : decode cX1_placeInRow 137 = .ok (.iadd, 1) := by decide +kernel
theorem dX1_placeInRow_138 : decode cX1_placeInRow 138 = .ok (.putfield 43, 3) := by decide +kernel
theorem dX1_placeInRow_141 : decode cX1_placeInRow 141 = .ok (.iconst 1, 1) := by decide +kernel
theorem dX1_placeInRow_142 : decode cX1_placeInRow 142 = .ok (.ireturn, 1) := by decide +kernel
theorem dX1_beginRow_0 : decode cX1_beginRow 0 = .ok (.aload_n 0, 1) := by decide +kernel
theorem dX1_beginRow_1 : decode cX1_beginRow 1 = .ok (.iconst 0, 1) := by decide +kernel
theorem dX1_beginRow_2 : decode cX1_beginRow 2 = .ok (.putfield 43, 3) := by decide +kernel
theorem dX1_beginRow_5 : decode cX1_beginRow 5 = .ok (.aload_n 0, 1) := by decide +kernel
theorem dX1_beginRow_6 : decode cX1_beginRow 6 = .ok (.dup, 1) := by decide +kernel
theorem dX1_beginRow_7 : decode cX1_beginRow 7 = .ok (.getfield 40, 3) := by decide +kernel
theorem dX1_beginRow_10 : decode cX1_beginRow 10 = .ok (.iconst 1, 1) := by decide +kernel
theorem dX1_beginRow_11 : decode cX1_beginRow 11 = .ok (.iadd, 1) := by decide +kernel
theorem dX1_beginRow_12 : decode cX1_beginRow 12 = .ok (.putfield 40, 3) := by decide +kernel
theorem dX1_beginRow_15 : decode cX1_beginRow 15 = .ok (.aload_n 0, 1) := by decide +kernel
theorem dX1_beginRow_16 : decode cX1_beginRow 16 = .ok (.getfield 40, 3) := by decide +kernel
theorem dX1_beginRow_19 : decode cX1_beginRow 19 = .ok (.iconst 4, 1) := by decide +kernel
theorem dX1_beginRow_20 : decode cX1_beginRow 20 = .ok (.if_icmp .ne 18, 3) := by decide +kernel
theorem dX1_beginRow_23 : decode cX1_beginRow 23 = .ok (.aload_n 0, 1) := by decide +kernel
theorem dX1_beginRow_24 : decode cX1_beginRow 24 = .ok (.iconst 0, 1) := by decide +kernel
theorem dX1_beginRow_25 : decode cX1_beginRow 25 = .ok (.putfield 40, 3) := by decide +kernel
theorem dX1_beginRow_28 : decode cX1_beginRow 28 = .ok (.aload_n 0, 1) := by decide +kernel
theorem dX1_beginRow_29 : decode cX1_beginRow 29 = .ok (.dup, 1) := by decide +kernel
theorem dX1_beginRow_30 : decode cX1_beginRow 30 = .ok (.getfield 36, 3) := by decide +kernel
theorem dX1_beginRow_33 : decode cX1_beginRow 33 = .ok (.iconst 1, 1) := by decide +kernel
theorem dX1_beginRow_34 : decode cX1_beginRow 34 = .ok (.iadd, 1) := by decide +kernel
theorem dX1_beginRow_35 : decode cX1_beginRow 35 = .ok (.putfield 36, 3) := by decide +kernel
theorem dX1_beginRow_38 : decode cX1_beginRow 38 = .ok (.return_, 1) := by decide +kernel
theorem dX1_beginPage_0 : decode cX1_beginPage 0 = .ok (.aload_n 0, 1) := by decide +kernel
theorem dX1_beginPage_1 : decode cX1_beginPage 1 = .ok (.iload_n 1, 1) := by decide +kernel
theorem dX1_beginPage_2 : decode cX1_beginPage 2 = .ok (.putfield 36, 3) := by decide +kernel
theorem dX1_beginPage_5 : decode cX1_beginPage 5 = .ok (.aload_n 0, 1) := by decide +kernel
theorem dX1_beginPage_6 : decode cX1_beginPage 6 = .ok (.iconst 0, 1) := by decide +kernel
theorem dX1_beginPage_7 : decode cX1_beginPage 7 = .ok (.putfield 40, 3) := by decide +kernel
theorem dX1_beginPage_10 : decode cX1_beginPage 10 = .ok (.aload_n 0, 1) := by decide +kernel
theorem dX1_beginPage_11 : decode cX1_beginPage 11 = .ok (.iconst 0, 1) := by decide +kernel
theorem dX1_beginPage_12 : decode cX1_beginPage 12 = .ok (.putfield 43, 3) := by decide +kernel
theorem dX1_beginPage_15 : decode cX1_beginPage 15 = .ok (.return_, 1) := by decide +kernel
theorem dX1_note_0 : decode cX1_note 0 = .ok (.iload_n 1, 1) := by decide +kernel
theorem dX1_note_1 : decode cX1_note 1 = .ok (.ifCond .lt 9, 3) := by decide +kernel
theorem dX1_note_4 : decode cX1_note 4 = .ok (.iload_n 1, 1) := by decide +kernel
theorem dX1_note_5 : decode cX1_note 5 = .ok (.bipush 24, 2) := by decide +kernel
theorem dX1_note_7 : decode cX1_note 7 = .ok (.if_icmp .lt 4, 3) := by decide +kernel
theorem dX1_note_10 : decode cX1_note 10 = .ok (.return_, 1) := by decide +kernel
theorem dX1_note_11 : decode cX1_note 11 = .ok (.aload_n 0, 1) := by decide +kernel
theorem dX1_note_12 : decode cX1_note 12 = .ok (.getfield 9, 3) := by decide +kernel
theorem dX1_note_15 : decode cX1_note 15 = .ok (.iload_n 1, 1) := by decide +kernel
theorem dX1_note_16 : decode cX1_note 16 = .ok (.iload_n 2, 1) := by decide +kernel
theorem dX1_note_17 : decode cX1_note 17 = .ok (.iastore, 1) := by decide +kernel
theorem dX1_note_18 : decode cX1_note 18 = .ok (.aload_n 0, 1) := by decide +kernel
theorem dX1_note_19 : decode cX1_note 19 = .ok (.getfield 15, 3) := by decide +kernel
theorem dX1_note_22 : decode cX1_note 22 = .ok (.iload_n 1, 1) := by decide +kernel
theorem dX1_note_23 : decode cX1_note 23 = .ok (.iload_n 3, 1) := by decide +kernel
theorem dX1_note_24 : decode cX1_note 24 = .ok (.iastore, 1) := by decide +kernel
theorem dX1_note_25 : decode cX1_note 25 = .ok (.aload_n 0, 1) := by decide +kernel
theorem dX1_note_26 : decode cX1_note 26 = .ok (.getfield 18, 3) := by decide +kernel
theorem dX1_note_29 : decode cX1_note 29 = .ok (.iload_n 1, 1) := by decide +kernel
theorem dX1_note_30 : decode cX1_note 30 = .ok (.iload 4, 2) := by decide +kernel
theorem dX1_note_32 : decode cX1_note 32 = .ok (.iastore, 1) := by decide +kernel
theorem dX1_note_33 : decode cX1_note 33 = .ok (.return_, 1) := by decide +kernel
theorem dX1_bear_0 : decode cX1_bear 0 = .ok (.iload_n 1, 1) := by decide +kernel
theorem dX1_bear_1 : decode cX1_bear 1 = .ok (.ifCond .lt 9, 3) := by decide +kernel
theorem dX1_bear_4 : decode cX1_bear 4 = .ok (.iload_n 1, 1) := by decide +kernel
theorem dX1_bear_5 : decode cX1_bear 5 = .ok (.bipush 16, 2) := by decide +kernel
theorem dX1_bear_7 : decode cX1_bear 7 = .ok (.if_icmp .lt 4, 3) := by decide +kernel
theorem dX1_bear_10 : decode cX1_bear 10 = .ok (.return_, 1) := by decide +kernel
theorem dX1_bear_11 : decode cX1_bear 11 = .ok (.aload_n 0, 1) := by decide +kernel
theorem dX1_bear_12 : decode cX1_bear 12 = .ok (.getfield 21, 3) := by decide +kernel
theorem dX1_bear_15 : decode cX1_bear 15 = .ok (.iload_n 1, 1) := by decide +kernel
theorem dX1_bear_16 : decode cX1_bear 16 = .ok (.iaload, 1) := by decide +kernel
theorem dX1_bear_17 : decode cX1_bear 17 = .ok (.ifCond .ne 20, 3) := by decide +kernel
theorem dX1_bear_20 : decode cX1_bear 20 = .ok (.aload_n 0, 1) := by decide +kernel
theorem dX1_bear_21 : decode cX1_bear 21 = .ok (.getfield 30, 3) := by decide +kernel
theorem dX1_bear_24 : decode cX1_bear 24 = .ok (.iload_n 1, 1) := by decide +kernel
theorem dX1_bear_25 : decode cX1_bear 25 = .ok (.iload_n 2, 1) := by decide +kernel
theorem dX1_bear_26 : decode cX1_bear 26 = .ok (.iastore, 1) := by decide +kernel
theorem dX1_bear_27 : decode cX1_bear 27 = .ok (.aload_n 0, 1) := by decide +kernel
theorem dX1_bear_28 : decode cX1_bear 28 = .ok (.dup, 1) := by decide +kernel
theorem dX1_bear_29 : decode cX1_bear 29 = .ok (.getfield 49, 3) := by decide +kernel
theorem dX1_bear_32 : decode cX1_bear 32 = .ok (.iconst 1, 1) := by decide +kernel
theorem dX1_bear_33 : decode cX1_bear 33 = .ok (.iadd, 1) := by decide +kernel
theorem dX1_bear_34 : decode cX1_bear 34 = .ok (.putfield 49, 3) := by decide +kernel
theorem dX1_bear_37 : decode cX1_bear 37 = .ok (.aload_n 0, 1) := by decide +kernel
theorem dX1_bear_38 : decode cX1_bear 38 = .ok (.getfield 21, 3) := by decide +kernel
theorem dX1_bear_41 : decode cX1_bear 41 = .ok (.iload_n 1, 1) := by decide +kernel
theorem dX1_bear_42 : decode cX1_bear 42 = .ok (.dup2, 1) := by decide +kernel
theorem dX1_bear_43 : decode cX1_bear 43 = .ok (.iaload, 1) := by decide +kernel
theorem dX1_bear_44 : decode cX1_bear 44 = .ok (.iconst 1, 1) := by decide +kernel
theorem dX1_bear_45 : decode cX1_bear 45 = .ok (.iadd, 1) := by decide +kernel
theorem dX1_bear_46 : decode cX1_bear 46 = .ok (.iastore, 1) := by decide +kernel
theorem dX1_bear_47 : decode cX1_bear 47 = .ok (.aload_n 0, 1) := by decide +kernel
theorem dX1_bear_48 : decode cX1_bear 48 = .ok (.getfield 24, 3) := by decide +kernel
theorem dX1_bear_51 : decode cX1_bear 51 = .ok (.iload_n 1, 1) := by decide +kernel
theorem dX1_bear_52 : decode cX1_bear 52 = .ok (.dup2, 1) := by decide +kernel
theorem dX1_bear_53 : decode cX1_bear 53 = .ok (.iaload, 1) := by decide +kernel
theorem dX1_bear_54 : decode cX1_bear 54 = .ok (.iload 4, 2) := by decide +kernel
theorem dX1_bear_56 : decode cX1_bear 56 = .ok (.iadd, 1) := by decide +kernel
theorem dX1_bear_57 : decode cX1_bear 57 = .ok (.iastore, 1) := by decide +kernel
theorem dX1_bear_58 : decode cX1_bear 58 = .ok (.aload_n 0, 1) := by decide +kernel
theorem dX1_bear_59 : decode cX1_bear 59 = .ok (.getfield 27, 3) := by decide +kernel
theorem dX1_bear_62 : decode cX1_bear 62 = .ok (.iload_n 1, 1) := by decide +kernel
theorem dX1_bear_63 : decode cX1_bear 63 = .ok (.dup2, 1) := by decide +kernel
theorem dX1_bear_64 : decode cX1_bear 64 = .ok (.iaload, 1) := by decide +kernel
theorem dX1_bear_65 : decode cX1_bear 65 = .ok (.iload_n 3, 1) := by decide +kernel
theorem dX1_bear_66 : decode cX1_bear 66 = .ok (.iadd, 1) := by decide +kernel
theorem dX1_bear_67 : decode cX1_bear 67 = .ok (.iastore, 1) := by decide +kernel
theorem dX1_bear_68 : decode cX1_bear 68 = .ok (.aload_n 0, 1) := by decide +kernel
theorem dX1_bear_69 : decode cX1_bear 69 = .ok (.dup, 1) := by decide +kernel
theorem dX1_bear_70 : decode cX1_bear 70 = .ok (.getfield 52, 3) := by decide +kernel
theorem dX1_bear_73 : decode cX1_bear 73 = .ok (.iload_n 3, 1) := by decide +kernel
theorem dX1_bear_74 : decode cX1_bear 74 = .ok (.iadd, 1) := by decide +kernel
theorem dX1_bear_75 : decode cX1_bear 75 = .ok (.putfield 52, 3) := by decide +kernel
theorem dX1_bear_78 : decode cX1_bear 78 = .ok (.aload_n 0, 1) := by decide +kernel
theorem dX1_bear_79 : decode cX1_bear 79 = .ok (.iload_n 1, 1) := by decide +kernel
theorem dX1_bear_80 : decode cX1_bear 80 = .ok (.iconst 1, 1) := by decide +kernel
theorem dX1_bear_81 : decode cX1_bear 81 = .ok (.iadd, 1) := by decide +kernel
theorem dX1_bear_82 : decode cX1_bear 82 = .ok (.putfield 46, 3) := by decide +kernel
theorem dX1_bear_85 : decode cX1_bear 85 = .ok (.return_, 1) := by decide +kernel
theorem dX1_isBearing_0 : decode cX1_isBearing 0 = .ok (.iload_n 1, 1) := by decide +kernel
theorem dX1_isBearing_1 : decode cX1_isBearing 1 = .ok (.ifCond .lt 22, 3) := by decide +kernel
theorem dX1_isBearing_4 : decode cX1_isBearing 4 = .ok (.iload_n 1, 1) := by decide +kernel
theorem dX1_isBearing_5 : decode cX1_isBearing 5 = .ok (.bipush 16, 2) := by decide +kernel
theorem dX1_isBearing_7 : decode cX1_isBearing 7 = .ok (.if_icmp .ge 16, 3) := by decide +kernel
theorem dX1_isBearing_10 : decode cX1_isBearing 10 = .ok (.aload_n 0, 1) := by decide +kernel
theorem dX1_isBearing_11 : decode cX1_isBearing 11 = .ok (.getfield 21, 3) := by decide +kernel
theorem dX1_isBearing_14 : decode cX1_isBearing 14 = .ok (.iload_n 1, 1) := by decide +kernel
theorem dX1_isBearing_15 : decode cX1_isBearing 15 = .ok (.iaload, 1) := by decide +kernel
theorem dX1_isBearing_16 : decode cX1_isBearing 16 = .ok (.ifCond .le 7, 3) := by decide +kernel
theorem dX1_isBearing_19 : decode cX1_isBearing 19 = .ok (.iconst 1, 1) := by decide +kernel
theorem dX1_isBearing_20 : decode cX1_isBearing 20 = .ok (.goto 4, 3) := by decide +kernel
theorem dX1_isBearing_23 : decode cX1_isBearing 23 = .ok (.iconst 0, 1) := by decide +kernel
theorem dX1_isBearing_24 : decode cX1_isBearing 24 = .ok (.ireturn, 1) := by decide +kernel
theorem dX1_isOnLeft_0 : decode cX1_isOnLeft 0 = .ok (.iload_n 0, 1) := by decide +kernel
theorem dX1_isOnLeft_1 : decode cX1_isOnLeft 1 = .ok (.iconst 1, 1) := by decide +kernel
theorem dX1_isOnLeft_2 : decode cX1_isOnLeft 2 = .ok (.iand, 1) := by decide +kernel
theorem dX1_isOnLeft_3 : decode cX1_isOnLeft 3 = .ok (.iconst 1, 1) := by decide +kernel
theorem dX1_isOnLeft_4 : decode cX1_isOnLeft 4 = .ok (.if_icmp .ne 7, 3) := by decide +kernel
theorem dX1_isOnLeft_7 : decode cX1_isOnLeft 7 = .ok (.iconst 1, 1) := by decide +kernel
theorem dX1_isOnLeft_8 : decode cX1_isOnLeft 8 = .ok (.goto 4, 3) := by decide +kernel
theorem dX1_isOnLeft_11 : decode cX1_isOnLeft 11 = .ok (.iconst 0, 1) := by decide +kernel
theorem dX1_isOnLeft_12 : decode cX1_isOnLeft 12 = .ok (.ireturn, 1) := by decide +kernel
set_option maxRecDepth 20000 in
theorem ggX1_numberOfPage_X4_read : GoodIn wsX1_numberOfPage wsX4_read := goodIn_r _ [9] (by decide +kernel) (by decide +kernel)
set_option maxRecDepth 20000 in
theorem gX1_numberOfPage_X4_read_n81 : GoodIn wsX1_numberOfPage (wsX4_read) := ggX1_numberOfPage_X4_read
set_option maxRecDepth 20000 in
theorem ggX1_numberOfPage_X1_isBearing : GoodIn wsX1_numberOfPage wsX1_isBearing := goodIn_r _ [14, 1, 15, 16, 17, 18, 19, 20, 21, 22, 23, 24, 25, 26, 27, 28, 29] (by decide +kernel) (by decide +kernel)
set_option maxRecDepth 20000 in
theorem gX1_numberOfPage_X1_isBearing : GoodIn wsX1_numberOfPage (wsV RX1 106 RX1 yX1_isBearing wsX1_isBearing) := goodIn_app (goodIn_of _ (by decide +kernel)) ggX1_numberOfPage_X1_isBearing
theorem dX1_numberOfPage_0 : decode cX1_numberOfPage 0 = .ok (.iload_n 2, 1) := by decide +kernel
theorem dX1_numberOfPage_1 : decode cX1_numberOfPage 1 = .ok (.tableswitch 108 0 4 #[35, 44, 53, 65, 86], 35) := by decide +kernel
theorem dX1_numberOfPage_36 : decode cX1_numberOfPage 36 = .ok (.aload_n 0, 1) := by decide +kernel
theorem dX1_numberOfPage_37 : decode cX1_numberOfPage 37 = .ok (.getfield 21, 3) := by decide +kernel
theorem dX1_numberOfPage_40 : decode cX1_numberOfPage 40 = .ok (.iload_n 1, 1) := by decide +kernel
theorem dX1_numberOfPage_41 : decode cX1_numberOfPage 41 = .ok (.invokestatic 81, 3) := by decide +kernel
theorem dX1_numberOfPage_44 : decode cX1_numberOfPage 44 = .ok (.ireturn, 1) := by decide +kernel
theorem dX1_numberOfPage_45 : decode cX1_numberOfPage 45 = .ok (.aload_n 0, 1) := by decide +kernel
theorem dX1_numberOfPage_46 : decode cX1_numberOfPage 46 = .ok (.getfield 24, 3) := by decide +kernel
theorem dX1_numberOfPage_49 : decode cX1_numberOfPage 49 = .ok (.iload_n 1, 1) := by decide +kernel
theorem dX1_numberOfPage_50 : decode cX1_numberOfPage 50 = .ok (.invokestatic 81, 3) := by decide +kernel
theorem dX1_numberOfPage_53 : decode cX1_numberOfPage 53 = .ok (.ireturn, 1) := by decide +kernel
theorem dX1_numberOfPage_54 : decode cX1_numberOfPage 54 = .ok (.bipush 24, 2) := by decide +kernel
theorem dX1_numberOfPage_56 : decode cX1_numberOfPage 56 = .ok (.aload_n 0, 1) := by decide +kernel
theorem dX1_numberOfPage_57 : decode cX1_numberOfPage 57 = .ok (.getfield 27, 3) := by decide +kernel
theorem dX1_numberOfPage_60 : decode cX1_numberOfPage 60 = .ok (.iload_n 1, 1) := by decide +kernel
theorem dX1_numberOfPage_61 : decode cX1_numberOfPage 61 = .ok (.invokestatic 81, 3) := by decide +kernel
theorem dX1_numberOfPage_64 : decode cX1_numberOfPage 64 = .ok (.isub, 1) := by decide +kernel
theorem dX1_numberOfPage_65 : decode cX1_numberOfPage 65 = .ok (.ireturn, 1) := by decide +kernel
theorem dX1_numberOfPage_66 : decode cX1_numberOfPage 66 = .ok (.aload_n 0, 1) := by decide +kernel
theorem dX1_numberOfPage_67 : decode cX1_numberOfPage 67 = .ok (.iload_n 1, 1) := by decide +kernel
theorem dX1_numberOfPage_68 : decode cX1_numberOfPage 68 = .ok (.invokevirtual 106, 3) := by decide +kernel
theorem dX1_numberOfPage_71 : decode cX1_numberOfPage 71 = .ok (.ifCond .eq 14, 3) := by decide +kernel
theorem dX1_numberOfPage_74 : decode cX1_numberOfPage 74 = .ok (.aload_n 0, 1) := by decide +kernel
theorem dX1_numberOfPage_75 : decode cX1_numberOfPage 75 = .ok (.getfield 30, 3) := by decide +kernel
theorem dX1_numberOfPage_78 : decode cX1_numberOfPage 78 = .ok (.iload_n 1, 1) := by decide +kernel
theorem dX1_numberOfPage_79 : decode cX1_numberOfPage 79 = .ok (.invokestatic 81, 3) := by decide +kernel
theorem dX1_numberOfPage_82 : decode cX1_numberOfPage 82 = .ok (.goto 4, 3) := by decide +kernel
theorem dX1_numberOfPage_85 : decode cX1_numberOfPage 85 = .ok (.iconst (-1), 1) := by decide +kernel
theorem dX1_numberOfPage_86 : decode cX1_numberOfPage 86 = .ok (.ireturn, 1) := by decide +kernel
theorem dX1_numberOfPage_87 : decode cX1_numberOfPage 87 = .ok (.iload_n 1, 1) := by decide +kernel
theorem dX1_numberOfPage_88 : decode cX1_numberOfPage 88 = .ok (.aload_n 0, 1) := by decide +kernel
theorem dX1_numberOfPage_89 : decode cX1_numberOfPage 89 = .ok (.getfield 46, 3) := by decide +kernel
theorem dX1_numberOfPage_92 : decode cX1_numberOfPage 92 = .ok (.if_icmp .ge 15, 3) := by decide +kernel
theorem dX1_numberOfPage_95 : decode cX1_numberOfPage 95 = .ok (.aload_n 0, 1) := by decide +kernel
theorem dX1_numberOfPage_96 : decode cX1_numberOfPage 96 = .ok (.iload_n 1, 1) := by decide +kernel
theorem dX1_numberOfPage_97 : decode cX1_numberOfPage 97 = .ok (.invokevirtual 106, 3) := by decide +kernel
theorem dX1_numberOfPage_100 : decode cX1_numberOfPage 100 = .ok (.ifCond .ne 7, 3) := by decide +kernel
theorem dX1_numberOfPage_103 : decode cX1_numberOfPage 103 = .ok (.iconst 1, 1) := by decide +kernel
theorem dX1_numberOfPage_104 : decode cX1_numberOfPage 104 = .ok (.goto 4, 3) := by decide +kernel
theorem dX1_numberOfPage_107 : decode cX1_numberOfPage 107 = .ok (.iconst 0, 1) := by decide +kernel
theorem dX1_numberOfPage_108 : decode cX1_numberOfPage 108 = .ok (.ireturn, 1) := by decide +kernel
theorem dX1_numberOfPage_109 : decode cX1_numberOfPage 109 = .ok (.aload_n 0, 1) := by decide +kernel
theorem dX1_numberOfPage_110 : decode cX1_numberOfPage 110 = .ok (.getfield 33, 3) := by decide +kernel
theorem dX1_numberOfPage_113 : decode cX1_numberOfPage 113 = .ok (.iload_n 1, 1) := by decide +kernel
theorem dX1_numberOfPage_114 : decode cX1_numberOfPage 114 = .ok (.invokestatic 81, 3) := by decide +kernel
theorem dX1_numberOfPage_117 : decode cX1_numberOfPage 117 = .ok (.ireturn, 1) := by decide +kernel
theorem dX1_emptyUnits_0 : decode cX1_emptyUnits 0 = .ok (.aload_n 0, 1) := by decide +kernel
theorem dX1_emptyUnits_1 : decode cX1_emptyUnits 1 = .ok (.getfield 49, 3) := by decide +kernel
theorem dX1_emptyUnits_4 : decode cX1_emptyUnits 4 = .ok (.bipush 24, 2) := by decide +kernel
theorem dX1_emptyUnits_6 : decode cX1_emptyUnits 6 = .ok (.imul, 1) := by decide +kernel
theorem dX1_emptyUnits_7 : decode cX1_emptyUnits 7 = .ok (.aload_n 0, 1) := by decide +kernel
theorem dX1_emptyUnits_8 : decode cX1_emptyUnits 8 = .ok (.getfield 52, 3) := by decide +kernel
theorem dX1_emptyUnits_11 : decode cX1_emptyUnits 11 = .ok (.isub, 1) := by decide +kernel
theorem dX1_emptyUnits_12 : decode cX1_emptyUnits 12 = .ok (.ireturn, 1) := by decide +kernel
theorem dX1_greatestBeats_0 : decode cX1_greatestBeats 0 = .ok (.iconst 0, 1) := by decide +kernel
theorem dX1_greatestBeats_1 : decode cX1_greatestBeats 1 = .ok (.istore_n 1, 1) := by decide +kernel
theorem dX1_greatestBeats_2 : decode cX1_greatestBeats 2 = .ok (.iconst 0, 1) := by decide +kernel
theorem dX1_greatestBeats_3 : decode cX1_greatestBeats 3 = .ok (.istore_n 2, 1) := by decide +kernel
theorem dX1_greatestBeats_4 : decode cX1_greatestBeats 4 = .ok (.iload_n 2, 1) := by decide +kernel
theorem dX1_greatestBeats_5 : decode cX1_greatestBeats 5 = .ok (.bipush 16, 2) := by decide +kernel
theorem dX1_greatestBeats_7 : decode cX1_greatestBeats 7 = .ok (.if_icmp .ge 20, 3) := by decide +kernel
theorem dX1_greatestBeats_10 : decode cX1_greatestBeats 10 = .ok (.iload_n 1, 1) := by decide +kernel
theorem dX1_greatestBeats_11 : decode cX1_greatestBeats 11 = .ok (.aload_n 0, 1) := by decide +kernel
theorem dX1_greatestBeats_12 : decode cX1_greatestBeats 12 = .ok (.getfield 24, 3) := by decide +kernel
theorem dX1_greatestBeats_15 : decode cX1_greatestBeats 15 = .ok (.iload_n 2, 1) := by decide +kernel
theorem dX1_greatestBeats_16 : decode cX1_greatestBeats 16 = .ok (.iaload, 1) := by decide +kernel
theorem dX1_greatestBeats_17 : decode cX1_greatestBeats 17 = .ok (.invokestatic 123, 3) := by decide +kernel
theorem dX1_greatestBeats_20 : decode cX1_greatestBeats 20 = .ok (.istore_n 1, 1) := by decide +kernel
theorem dX1_greatestBeats_21 : decode cX1_greatestBeats 21 = .ok (.iinc 2 1, 3) := by decide +kernel
theorem dX1_greatestBeats_24 : decode cX1_greatestBeats 24 = .ok (.goto (-20), 3) := by decide +kernel
theorem dX1_greatestBeats_27 : decode cX1_greatestBeats 27 = .ok (.iload_n 1, 1) := by decide +kernel
theorem dX1_greatestBeats_28 : decode cX1_greatestBeats 28 = .ok (.ireturn, 1) := by decide +kernel
theorem dX1_greatestDifference_0 : decode cX1_greatestDifference 0 = .ok (.iconst 0, 1) := by decide +kernel
theorem dX1_greatestDifference_1 : decode cX1_greatestDifference 1 = .ok (.istore_n 1, 1) := by decide +kernel
theorem dX1_greatestDifference_2 : decode cX1_greatestDifference 2 = .ok (.iconst 0, 1) := by decide +kernel
theorem dX1_greatestDifference_3 : decode cX1_greatestDifference 3 = .ok (.istore_n 2, 1) := by decide +kernel
theorem dX1_greatestDifference_4 : decode cX1_greatestDifference 4 = .ok (.iload_n 2, 1) := by decide +kernel
theorem dX1_greatestDifference_5 : decode cX1_greatestDifference 5 = .ok (.iconst 1, 1) := by decide +kernel
theorem dX1_greatestDifference_6 : decode cX1_greatestDifference 6 = .ok (.iadd, 1) := by decide +kernel
theorem dX1_greatestDifference_7 : decode cX1_greatestDifference 7 = .ok (.bipush 16, 2) := by decide +kernel
theorem dX1_greatestDifference_9 : decode cX1_greatestDifference 9 = .ok (.if_icmp .ge 32, 3) := by decide +kernel
theorem dX1_greatestDifference_12 : decode cX1_greatestDifference 12 = .ok (.iload_n 1, 1) := by decide +kernel
theorem dX1_greatestDifference_13 : decode cX1_greatestDifference 13 = .ok (.aload_n 0, 1) := by decide +kernel
theorem dX1_greatestDifference_14 : decode cX1_greatestDifference 14 = .ok (.getfield 24, 3) := by decide +kernel
theorem dX1_greatestDifference_17 : decode cX1_greatestDifference 17 = .ok (.iload_n 2, 1) := by decide +kernel
theorem dX1_greatestDifference_18 : decode cX1_greatestDifference 18 = .ok (.iaload, 1) := by decide +kernel
theorem dX1_greatestDifference_19 : decode cX1_greatestDifference 19 = .ok (.aload_n 0, 1) := by decide +kernel
theorem dX1_greatestDifference_20 : decode cX1_greatestDifference 20 = .ok (.getfield 24, 3) := by decide +kernel
theorem dX1_greatestDifference_23 : decode cX1_greatestDifference 23 = .ok (.iload_n 2, 1) := by decide +kernel
theorem dX1_greatestDifference_24 : decode cX1_greatestDifference 24 = .ok (.iconst 1, 1) := by decide +kernel
theorem dX1_greatestDifference_25 : decode cX1_greatestDifference 25 = .ok (.iadd, 1) := by decide +kernel
theorem dX1_greatestDifference_26 : decode cX1_greatestDifference 26 = .ok (.iaload, 1) := by decide +kernel
theorem dX1_greatestDifference_27 : decode cX1_greatestDifference 27 = .ok (.isub, 1) := by decide +kernel
theorem dX1_greatestDifference_28 : decode cX1_greatestDifference 28 = .ok (.invokestatic 129, 3) := by decide +kernel
theorem dX1_greatestDifference_31 : decode cX1_greatestDifference 31 = .ok (.invokestatic 123, 3) := by decide +kernel
theorem dX1_greatestDifference_34 : decode cX1_greatestDifference 34 = .ok (.istore_n 1, 1) := by decide +kernel
theorem dX1_greatestDifference_35 : decode cX1_greatestDifference 35 = .ok (.iinc 2 2, 3) := by decide +kernel
theorem dX1_greatestDifference_38 : decode cX1_greatestDifference 38 = .ok (.goto (-34), 3) := by decide +kernel
theorem dX1_greatestDifference_41 : decode cX1_greatestDifference 41 = .ok (.iload_n 1, 1) := by decide +kernel
theorem dX1_greatestDifference_42 : decode cX1_greatestDifference 42 = .ok (.ireturn, 1) := by decide +kernel
set_option maxRecDepth 20000 in
theorem ggX1_cost_X1_emptyUnits : GoodIn wsX1_cost wsX1_emptyUnits := goodIn_r _ [7, 8, 9, 10, 11, 12, 13, 14, 15, 16, 17, 18, 19, 20, 21, 22, 23, 24] (by decide +kernel) (by decide +kernel)
set_option maxRecDepth 20000 in
theorem gX1_cost_X1_emptyUnits : GoodIn wsX1_cost (wsV RX1 133 RX1 yX1_emptyUnits wsX1_emptyUnits) := goodIn_app (goodIn_of _ (by decide +kernel)) ggX1_cost_X1_emptyUnits
theorem dX1_cost_0 : decode cX1_cost 0 = .ok (.aload_n 0, 1) := by decide +kernel
theorem dX1_cost_1 : decode cX1_cost 1 = .ok (.getfield 55, 3) := by decide +kernel
theorem dX1_cost_4 : decode cX1_cost 4 = .ok (.bipush 17, 2) := by decide +kernel
theorem dX1_cost_6 : decode cX1_cost 6 = .ok (.imul, 1) := by decide +kernel
theorem dX1_cost_7 : decode cX1_cost 7 = .ok (.aload_n 0, 1) := by decide +kernel
theorem dX1_cost_8 : decode cX1_cost 8 = .ok (.getfield 46, 3) := by decide +kernel
theorem dX1_cost_11 : decode cX1_cost 11 = .ok (.iadd, 1) := by decide +kernel
theorem dX1_cost_12 : decode cX1_cost 12 = .ok (.sipush 385, 3) := by decide +kernel
theorem dX1_cost_15 : decode cX1_cost 15 = .ok (.imul, 1) := by decide +kernel
theorem dX1_cost_16 : decode cX1_cost 16 = .ok (.aload_n 0, 1) := by decide +kernel
theorem dX1_cost_17 : decode cX1_cost 17 = .ok (.invokevirtual 133, 3) := by decide +kernel
theorem dX1_cost_20 : decode cX1_cost 20 = .ok (.iadd, 1) := by decide +kernel
theorem dX1_cost_21 : decode cX1_cost 21 = .ok (.ireturn, 1) := by decide +kernel
end
section
theorem dX2_init_0 : decode cX2_init 0 = .ok (.aload_n 0, 1) := by decide +kernel
theorem dX2_init_1 : decode cX2_init 1 = .ok (.invokespecial 3, 3) := by decide +kernel
theorem dX2_init_4 : decode cX2_init 4 = .ok (.aload_n 0, 1) := by decide +kernel
theorem dX2_init_5 : decode cX2_init 5 = .ok (.bipush 24, 2) := by decide +kernel
theorem dX2_init_7 : decode cX2_init 7 = .ok (.newarray .int, 2) := by decide +kernel
theorem dX2_init_9 : decode cX2_init 9 = .ok (.putfield 9, 3) := by decide +kernel
theorem dX2_init_12 : decode cX2_init 12 = .ok (.aload_n 0, 1) := by decide +kernel
theorem dX2_init_13 : decode cX2_init 13 = .ok (.bipush 24, 2) := by decide +kernel
theorem dX2_init_15 : decode cX2_init 15 = .ok (.newarray .int, 2) := by decide +kernel
theorem dX2_init_17 : decode cX2_init 17 = .ok (.putfield 15, 3) := by decide +kernel
theorem dX2_init_20 : decode cX2_init 20 = .ok (.aload_n 0, 1) := by decide +kernel
theorem dX2_init_21 : decode cX2_init 21 = .ok (.bipush 24, 2) := by decide +kernel
theorem dX2_init_23 : decode cX2_init 23 = .ok (.newarray .int, 2) := by decide +kernel
theorem dX2_init_25 : decode cX2_init 25 = .ok (.putfield 18, 3) := by decide +kernel
theorem dX2_init_28 : decode cX2_init 28 = .ok (.aload_n 0, 1) := by decide +kernel
theorem dX2_init_29 : decode cX2_init 29 = .ok (.iconst 0, 1) := by decide +kernel
theorem dX2_init_30 : decode cX2_init 30 = .ok (.putfield 21, 3) := by decide +kernel
theorem dX2_init_33 : decode cX2_init 33 = .ok (.aload_n 0, 1) := by decide +kernel
theorem dX2_init_34 : decode cX2_init 34 = .ok (.bipush 30, 2) := by decide +kernel
theorem dX2_init_36 : decode cX2_init 36 = .ok (.putfield 25, 3) := by decide +kernel
theorem dX2_init_39 : decode cX2_init 39 = .ok (.return_, 1) := by decide +kernel
theorem dX2_has_0 : decode cX2_has 0 = .ok (.iload_n 1, 1) := by decide +kernel
theorem dX2_has_1 : decode cX2_has 1 = .ok (.ifCond .lt 15, 3) := by decide +kernel
theorem dX2_has_4 : decode cX2_has 4 = .ok (.iload_n 1, 1) := by decide +kernel
theorem dX2_has_5 : decode cX2_has 5 = .ok (.aload_n 0, 1) := by decide +kernel
theorem dX2_has_6 : decode cX2_has 6 = .ok (.getfield 21, 3) := by decide +kernel
theorem dX2_has_9 : decode cX2_has 9 = .ok (.if_icmp .ge 7, 3) := by decide +kernel
theorem dX2_has_12 : decode cX2_has 12 = .ok (.iconst 1, 1) := by decide +kernel
theorem dX2_has_13 : decode cX2_has 13 = .ok (.goto 4, 3) := by decide +kernel
theorem dX2_has_16 : decode cX2_has 16 = .ok (.iconst 0, 1) := by decide +kernel
theorem dX2_has_17 : decode cX2_has 17 = .ok (.ireturn, 1) := by decide +kernel
theorem dX2_copyFrom_0 : decode cX2_copyFrom 0 = .ok (.aload_n 1, 1) := by decide +kernel
theorem dX2_copyFrom_1 : decode cX2_copyFrom 1 = .ok (.getfield 9, 3) := by decide +kernel
theorem dX2_copyFrom_4 : decode cX2_copyFrom 4 = .ok (.iconst 0, 1) := by decide +kernel
theorem dX2_copyFrom_5 : decode cX2_copyFrom 5 = .ok (.aload_n 0, 1) := by decide +kernel
theorem dX2_copyFrom_6 : decode cX2_copyFrom 6 = .ok (.getfield 9, 3) := by decide +kernel
theorem dX2_copyFrom_9 : decode cX2_copyFrom 9 = .ok (.iconst 0, 1) := by decide +kernel
theorem dX2_copyFrom_10 : decode cX2_copyFrom 10 = .ok (.bipush 24, 2) := by decide +kernel
theorem dX2_copyFrom_12 : decode cX2_copyFrom 12 = .ok (.invokestatic 28, 3) := by decide +kernel
theorem dX2_copyFrom_15 : decode cX2_copyFrom 15 = .ok (.aload_n 1, 1) := by decide +kernel
theorem dX2_copyFrom_16 : decode cX2_copyFrom 16 = .ok (.getfield 15, 3) := by decide +kernel
theorem dX2_copyFrom_19 : decode cX2_copyFrom 19 = .ok (.iconst 0, 1) := by decide +kernel
theorem dX2_copyFrom_20 : decode cX2_copyFrom 20 = .ok (.aload_n 0, 1) := by decide +kernel
theorem dX2_copyFrom_21 : decode cX2_copyFrom 21 = .ok (.getfield 15, 3) := by decide +kernel
theorem dX2_copyFrom_24 : decode cX2_copyFrom 24 = .ok (.iconst 0, 1) := by decide +kernel
theorem dX2_copyFrom_25 : decode cX2_copyFrom 25 = .ok (.bipush 24, 2) := by decide +kernel
theorem dX2_copyFrom_27 : decode cX2_copyFrom 27 = .ok (.invokestatic 28, 3) := by decide +kernel
theorem dX2_copyFrom_30 : decode cX2_copyFrom 30 = .ok (.aload_n 1, 1) := by decide +kernel
theorem dX2_copyFrom_31 : decode cX2_copyFrom 31 = .ok (.getfield 18, 3) := by decide +kernel
theorem dX2_copyFrom_34 : decode cX2_copyFrom 34 = .ok (.iconst 0, 1) := by decide +kernel
theorem dX2_copyFrom_35 : decode cX2_copyFrom 35 = .ok (.aload_n 0, 1) := by decide +kernel
theorem dX2_copyFrom_36 : decode cX2_copyFrom 36 = .ok (.getfield 18, 3) := by decide +kernel
theorem dX2_copyFrom_39 : decode cX2_copyFrom 39 = .ok (.iconst 0, 1) := by decide +kernel
theorem dX2_copyFrom_40 : decode cX2_copyFrom 40 = .ok (.bipush 24, 2) := by decide +kernel
theorem dX2_copyFrom_42 : decode cX2_copyFrom 42 = .ok (.invokestatic 28, 3) := by decide +kernel
theorem dX2_copyFrom_45 : decode cX2_copyFrom 45 = .ok (.aload_n 0, 1) := by decide +kernel
theorem dX2_copyFrom_46 : decode cX2_copyFrom 46 = .ok (.aload_n 1, 1) := by decide +kernel
theorem dX2_copyFrom_47 : decode cX2_copyFrom 47 = .ok (.getfield 21, 3) := by decide +kernel
theorem dX2_copyFrom_50 : decode cX2_copyFrom 50 = .ok (.putfield 21, 3) := by decide +kernel
theorem dX2_copyFrom_53 : decode cX2_copyFrom 53 = .ok (.aload_n 0, 1) := by decide +kernel
theorem dX2_copyFrom_54 : decode cX2_copyFrom 54 = .ok (.aload_n 1, 1) := by decide +kernel
theorem dX2_copyFrom_55 : decode cX2_copyFrom 55 = .ok (.getfield 25, 3) := by decide +kernel
theorem dX2_copyFrom_58 : decode cX2_copyFrom 58 = .ok (.putfield 25, 3) := by decide +kernel
theorem dX2_copyFrom_61 : decode cX2_copyFrom 61 = .ok (.return_, 1) := by decide +kernel
set_option maxRecDepth 20000 in
theorem ggX2_insert_X2_openGap : GoodIn wsX2_insert wsX2_openGap := goodIn_r _ [8, 9, 10, 11] (by decide +kernel) (by decide +kernel)
set_option maxRecDepth 20000 in
theorem gX2_insert_X2_openGap : GoodIn wsX2_insert (va_wsS RX2 34 yX2_openGap wsX2_openGap) := goodIn_app (goodIn_of _ (by decide +kernel)) ggX2_insert_X2_openGap
theorem dX2_insert_0 : decode cX2_insert 0 = .ok (.aload_n 0, 1) := by decide +kernel
theorem dX2_insert_1 : decode cX2_insert 1 = .ok (.getfield 21, 3) := by decide +kernel
theorem dX2_insert_4 : decode cX2_insert 4 = .ok (.bipush 24, 2) := by decide +kernel
theorem dX2_insert_6 : decode cX2_insert 6 = .ok (.if_icmp .lt 4, 3) := by decide +kernel
theorem dX2_insert_9 : decode cX2_insert 9 = .ok (.return_, 1) := by decide +kernel
theorem dX2_insert_10 : decode cX2_insert 10 = .ok (.aload_n 0, 1) := by decide +kernel
theorem dX2_insert_11 : decode cX2_insert 11 = .ok (.getfield 9, 3) := by decide +kernel
theorem dX2_insert_14 : decode cX2_insert 14 = .ok (.iload_n 1, 1) := by decide +kernel
theorem dX2_insert_15 : decode cX2_insert 15 = .ok (.iload_n 2, 1) := by decide +kernel
theorem dX2_insert_16 : decode cX2_insert 16 = .ok (.invokestatic 34, 3) := by decide +kernel
theorem dX2_insert_19 : decode cX2_insert 19 = .ok (.aload_n 0, 1) := by decide +kernel
theorem dX2_insert_20 : decode cX2_insert 20 = .ok (.getfield 15, 3) := by decide +kernel
theorem dX2_insert_23 : decode cX2_insert 23 = .ok (.iload_n 1, 1) := by decide +kernel
theorem dX2_insert_24 : decode cX2_insert 24 = .ok (.iload_n 3, 1) := by decide +kernel
theorem dX2_insert_25 : decode cX2_insert 25 = .ok (.invokestatic 34, 3) := by decide +kernel
theorem dX2_insert_28 : decode cX2_insert 28 = .ok (.aload_n 0, 1) := by decide +kernel
theorem dX2_insert_29 : decode cX2_insert 29 = .ok (.getfield 18, 3) := by decide +kernel
theorem dX2_insert_32 : decode cX2_insert 32 = .ok (.iload_n 1, 1) := by decide +kernel
theorem dX2_insert_33 : decode cX2_insert 33 = .ok (.iload 4, 2) := by decide +kernel
theorem dX2_insert_35 : decode cX2_insert 35 = .ok (.invokestatic 34, 3) := by decide +kernel
theorem dX2_insert_38 : decode cX2_insert 38 = .ok (.aload_n 0, 1) := by decide +kernel
theorem dX2_insert_39 : decode cX2_insert 39 = .ok (.dup, 1) := by decide +kernel
theorem dX2_insert_40 : decode cX2_insert 40 = .ok (.getfield 21, 3) := by decide +kernel
theorem dX2_insert_43 : decode cX2_insert 43 = .ok (.iconst 1, 1) := by decide +kernel
theorem dX2_insert_44 : decode cX2_insert 44 = .ok (.iadd, 1) := by decide +kernel
theorem dX2_insert_45 : decode cX2_insert 45 = .ok (.putfield 21, 3) := by decide +kernel
theorem dX2_insert_48 : decode cX2_insert 48 = .ok (.return_, 1) := by decide +kernel
set_option maxRecDepth 20000 in
theorem ggX2_remove_X2_has : GoodIn wsX2_remove wsX2_has := goodIn_r _ [9, 4, 13, 14, 15, 16, 17] (by decide +kernel) (by decide +kernel)
set_option maxRecDepth 20000 in
theorem gX2_remove_X2_has : GoodIn wsX2_remove (wsV RX2 38 RX2 yX2_has wsX2_has) := goodIn_app (goodIn_of _ (by decide +kernel)) ggX2_remove_X2_has
set_option maxRecDepth 20000 in
theorem ggX2_remove_X2_closeGap : GoodIn wsX2_remove wsX2_closeGap := goodIn_r _ [12] (by decide +kernel) (by decide +kernel)
set_option maxRecDepth 20000 in
theorem gX2_remove_X2_closeGap : GoodIn wsX2_remove (va_wsS RX2 42 yX2_closeGap wsX2_closeGap) := goodIn_app (goodIn_of _ (by decide +kernel)) ggX2_remove_X2_closeGap
theorem dX2_remove_0 : decode cX2_remove 0 = .ok (.aload_n 0, 1) := by decide +kernel
theorem dX2_remove_1 : decode cX2_remove 1 = .ok (.iload_n 1, 1) := by decide +kernel
theorem dX2_remove_2 : decode cX2_remove 2 = .ok (.invokevirtual 38, 3) := by decide +kernel
theorem dX2_remove_5 : decode cX2_remove 5 = .ok (.ifCond .ne 4, 3) := by decide +kernel
theorem dX2_remove_8 : decode cX2_remove 8 = .ok (.return_, 1) := by decide +kernel
theorem dX2_remove_9 : decode cX2_remove 9 = .ok (.aload_n 0, 1) := by decide +kernel
theorem dX2_remove_10 : decode cX2_remove 10 = .ok (.getfield 9, 3) := by decide +kernel
theorem dX2_remove_13 : decode cX2_remove 13 = .ok (.iload_n 1, 1) := by decide +kernel
theorem dX2_remove_14 : decode cX2_remove 14 = .ok (.invokestatic 42, 3) := by decide +kernel
theorem dX2_remove_17 : decode cX2_remove 17 = .ok (.aload_n 0, 1) := by decide +kernel
theorem dX2_remove_18 : decode cX2_remove 18 = .ok (.getfield 15, 3) := by decide +kernel
theorem dX2_remove_21 : decode cX2_remove 21 = .ok (.iload_n 1, 1) := by decide +kernel
theorem dX2_remove_22 : decode cX2_remove 22 = .ok (.invokestatic 42, 3) := by decide +kernel
theorem dX2_remove_25 : decode cX2_remove 25 = .ok (.aload_n 0, 1) := by decide +kernel
theorem dX2_remove_26 : decode cX2_remove 26 = .ok (.getfield 18, 3) := by decide +kernel
theorem dX2_remove_29 : decode cX2_remove 29 = .ok (.iload_n 1, 1) := by decide +kernel
theorem dX2_remove_30 : decode cX2_remove 30 = .ok (.invokestatic 42, 3) := by decide +kernel
theorem dX2_remove_33 : decode cX2_remove 33 = .ok (.aload_n 0, 1) := by decide +kernel
theorem dX2_remove_34 : decode cX2_remove 34 = .ok (.dup, 1) := by decide +kernel
theorem dX2_remove_35 : decode cX2_remove 35 = .ok (.getfield 21, 3) := by decide +kernel
theorem dX2_remove_38 : decode cX2_remove 38 = .ok (.iconst 1, 1) := by decide +kernel
theorem dX2_remove_39 : decode cX2_remove 39 = .ok (.isub, 1) := by decide +kernel
theorem dX2_remove_40 : decode cX2_remove 40 = .ok (.putfield 21, 3) := by decide +kernel
theorem dX2_remove_43 : decode cX2_remove 43 = .ok (.return_, 1) := by decide +kernel
set_option maxRecDepth 20000 in
theorem ggX2_exchangeWithNext_X2_exchangeInRow : GoodIn wsX2_exchangeWithNext wsX2_exchangeInRow := goodIn_r _ [7, 8, 9, 10, 11, 12] (by decide +kernel) (by decide +kernel)
set_option maxRecDepth 20000 in
theorem gX2_exchangeWithNext_X2_exchangeInRow : GoodIn wsX2_exchangeWithNext (va_wsS RX2 46 yX2_exchangeInRow wsX2_exchangeInRow) := goodIn_app (goodIn_of _ (by decide +kernel)) ggX2_exchangeWithNext_X2_exchangeInRow
theorem dX2_exchangeWithNext_0 : decode cX2_exchangeWithNext 0 = .ok (.aload_n 0, 1) := by decide +kernel
theorem dX2_exchangeWithNext_1 : decode cX2_exchangeWithNext 1 = .ok (.getfield 9, 3) := by decide +kernel
theorem dX2_exchangeWithNext_4 : decode cX2_exchangeWithNext 4 = .ok (.iload_n 1, 1) := by decide +kernel
theorem dX2_exchangeWithNext_5 : decode cX2_exchangeWithNext 5 = .ok (.invokestatic 46, 3) := by decide +kernel
theorem dX2_exchangeWithNext_8 : decode cX2_exchangeWithNext 8 = .ok (.aload_n 0, 1) := by decide +kernel
theorem dX2_exchangeWithNext_9 : decode cX2_exchangeWithNext 9 = .ok (.getfield 15, 3) := by decide +kernel
theorem dX2_exchangeWithNext_12 : decode cX2_exchangeWithNext 12 = .ok (.iload_n 1, 1) := by decide +kernel
theorem dX2_exchangeWithNext_13 : decode cX2_exchangeWithNext 13 = .ok (.invokestatic 46, 3) := by decide +kernel
theorem dX2_exchangeWithNext_16 : decode cX2_exchangeWithNext 16 = .ok (.aload_n 0, 1) := by decide +kernel
theorem dX2_exchangeWithNext_17 : decode cX2_exchangeWithNext 17 = .ok (.getfield 18, 3) := by decide +kernel
theorem dX2_exchangeWithNext_20 : decode cX2_exchangeWithNext 20 = .ok (.iload_n 1, 1) := by decide +kernel
theorem dX2_exchangeWithNext_21 : decode cX2_exchangeWithNext 21 = .ok (.invokestatic 46, 3) := by decide +kernel
theorem dX2_exchangeWithNext_24 : decode cX2_exchangeWithNext 24 = .ok (.return_, 1) := by decide +kernel
set_option maxRecDepth 20000 in
theorem ggX2_openGap_X4_write : GoodIn wsX2_openGap wsX4_write := goodIn_r _ [3] (by decide +kernel) (by decide +kernel)
set_option maxRecDepth 20000 in
theorem gX2_openGap_X4_write_n49 : GoodIn wsX2_openGap (wsX4_write) := ggX2_openGap_X4_write
theorem dX2_openGap_0 : decode cX2_openGap 0 = .ok (.aload_n 0, 1) := by decide +kernel
theorem dX2_openGap_1 : decode cX2_openGap 1 = .ok (.arraylength, 1) := by decide +kernel
theorem dX2_openGap_2 : decode cX2_openGap 2 = .ok (.iconst 1, 1) := by decide +kernel
theorem dX2_openGap_3 : decode cX2_openGap 3 = .ok (.isub, 1) := by decide +kernel
theorem dX2_openGap_4 : decode cX2_openGap 4 = .ok (.istore_n 3, 1) := by decide +kernel
theorem dX2_openGap_5 : decode cX2_openGap 5 = .ok (.iload_n 3, 1) := by decide +kernel
theorem dX2_openGap_6 : decode cX2_openGap 6 = .ok (.iload_n 1, 1) := by decide +kernel
theorem dX2_openGap_7 : decode cX2_openGap 7 = .ok (.if_icmp .le 21, 3) := by decide +kernel
theorem dX2_openGap_10 : decode cX2_openGap 10 = .ok (.iload_n 3, 1) := by decide +kernel
theorem dX2_openGap_11 : decode cX2_openGap 11 = .ok (.ifCond .le 17, 3) := by decide +kernel
theorem dX2_openGap_14 : decode cX2_openGap 14 = .ok (.aload_n 0, 1) := by decide +kernel
theorem dX2_openGap_15 : decode cX2_openGap 15 = .ok (.iload_n 3, 1) := by decide +kernel
theorem dX2_openGap_16 : decode cX2_openGap 16 = .ok (.aload_n 0, 1) := by decide +kernel
theorem dX2_openGap_17 : decode cX2_openGap 17 = .ok (.iload_n 3, 1) := by decide +kernel
theorem dX2_openGap_18 : decode cX2_openGap 18 = .ok (.iconst 1, 1) := by decide +kernel
theorem dX2_openGap_19 : decode cX2_openGap 19 = .ok (.isub, 1) := by decide +kernel
theorem dX2_openGap_20 : decode cX2_openGap 20 = .ok (.iaload, 1) := by decide +kernel
theorem dX2_openGap_21 : decode cX2_openGap 21 = .ok (.iastore, 1) := by decide +kernel
theorem dX2_openGap_22 : decode cX2_openGap 22 = .ok (.iinc 3 (-1), 3) := by decide +kernel
theorem dX2_openGap_25 : decode cX2_openGap 25 = .ok (.goto (-20), 3) := by decide +kernel
theorem dX2_openGap_28 : decode cX2_openGap 28 = .ok (.aload_n 0, 1) := by decide +kernel
theorem dX2_openGap_29 : decode cX2_openGap 29 = .ok (.iload_n 1, 1) := by decide +kernel
theorem dX2_openGap_30 : decode cX2_openGap 30 = .ok (.iload_n 2, 1) := by decide +kernel
theorem dX2_openGap_31 : decode cX2_openGap 31 = .ok (.invokestatic 49, 3) := by decide +kernel
theorem dX2_openGap_34 : decode cX2_openGap 34 = .ok (.return_, 1) := by decide +kernel
theorem dX2_closeGap_0 : decode cX2_closeGap 0 = .ok (.iload_n 1, 1) := by decide +kernel
theorem dX2_closeGap_1 : decode cX2_closeGap 1 = .ok (.ifCond .ge 4, 3) := by decide +kernel
theorem dX2_closeGap_4 : decode cX2_closeGap 4 = .ok (.return_, 1) := by decide +kernel
theorem dX2_closeGap_5 : decode cX2_closeGap 5 = .ok (.iload_n 1, 1) := by decide +kernel
theorem dX2_closeGap_6 : decode cX2_closeGap 6 = .ok (.istore_n 2, 1) := by decide +kernel
theorem dX2_closeGap_7 : decode cX2_closeGap 7 = .ok (.iload_n 2, 1) := by decide +kernel
theorem dX2_closeGap_8 : decode cX2_closeGap 8 = .ok (.aload_n 0, 1) := by decide +kernel
theorem dX2_closeGap_9 : decode cX2_closeGap 9 = .ok (.arraylength, 1) := by decide +kernel
theorem dX2_closeGap_10 : decode cX2_closeGap 10 = .ok (.iconst 1, 1) := by decide +kernel
theorem dX2_closeGap_11 : decode cX2_closeGap 11 = .ok (.isub, 1) := by decide +kernel
theorem dX2_closeGap_12 : decode cX2_closeGap 12 = .ok (.if_icmp .ge 17, 3) := by decide +kernel
theorem dX2_closeGap_15 : decode cX2_closeGap 15 = .ok (.aload_n 0, 1) := by decide +kernel
theorem dX2_closeGap_16 : decode cX2_closeGap 16 = .ok (.iload_n 2, 1) := by decide +kernel
theorem dX2_closeGap_17 : decode cX2_closeGap 17 = .ok (.aload_n 0, 1) := by decide +kernel
theorem dX2_closeGap_18 : decode cX2_closeGap 18 = .ok (.iload_n 2, 1) := by decide +kernel
theorem dX2_closeGap_19 : decode cX2_closeGap 19 = .ok (.iconst 1, 1) := by decide +kernel
theorem dX2_closeGap_20 : decode cX2_closeGap 20 = .ok (.iadd, 1) := by decide +kernel
theorem dX2_closeGap_21 : decode cX2_closeGap 21 = .ok (.iaload, 1) := by decide +kernel
theorem dX2_closeGap_22 : decode cX2_closeGap 22 = .ok (.iastore, 1) := by decide +kernel
theorem dX2_closeGap_23 : decode cX2_closeGap 23 = .ok (.iinc 2 1, 3) := by decide +kernel
theorem dX2_closeGap_26 : decode cX2_closeGap 26 = .ok (.goto (-19), 3) := by decide +kernel
theorem dX2_closeGap_29 : decode cX2_closeGap 29 = .ok (.return_, 1) := by decide +kernel
set_option maxRecDepth 20000 in
theorem ggX2_exchangeInRow_X4_read : GoodIn wsX2_exchangeInRow wsX4_read := goodIn_r _ [3] (by decide +kernel) (by decide +kernel)
set_option maxRecDepth 20000 in
theorem gX2_exchangeInRow_X4_read_n52 : GoodIn wsX2_exchangeInRow (wsX4_read) := ggX2_exchangeInRow_X4_read
set_option maxRecDepth 20000 in
theorem ggX2_exchangeInRow_X4_write : GoodIn wsX2_exchangeInRow wsX4_write := goodIn_r _ [5] (by decide +kernel) (by decide +kernel)
set_option maxRecDepth 20000 in
theorem gX2_exchangeInRow_X4_write_n49 : GoodIn wsX2_exchangeInRow (wsX4_write) := ggX2_exchangeInRow_X4_write
theorem dX2_exchangeInRow_0 : decode cX2_exchangeInRow 0 = .ok (.aload_n 0, 1) := by decide +kernel
theorem dX2_exchangeInRow_1 : decode cX2_exchangeInRow 1 = .ok (.iload_n 1, 1) := by decide +kernel
theorem dX2_exchangeInRow_2 : decode cX2_exchangeInRow 2 = .ok (.invokestatic 52, 3) := by decide +kernel
theorem dX2_exchangeInRow_5 : decode cX2_exchangeInRow 5 = .ok (.istore_n 2, 1) := by decide +kernel
theorem dX2_exchangeInRow_6 : decode cX2_exchangeInRow 6 = .ok (.aload_n 0, 1) := by decide +kernel
theorem dX2_exchangeInRow_7 : decode cX2_exchangeInRow 7 = .ok (.iload_n 1, 1) := by decide +kernel
theorem dX2_exchangeInRow_8 : decode cX2_exchangeInRow 8 = .ok (.aload_n 0, 1) := by decide +kernel
theorem dX2_exchangeInRow_9 : decode cX2_exchangeInRow 9 = .ok (.iload_n 1, 1) := by decide +kernel
theorem dX2_exchangeInRow_10 : decode cX2_exchangeInRow 10 = .ok (.iconst 1, 1) := by decide +kernel
theorem dX2_exchangeInRow_11 : decode cX2_exchangeInRow 11 = .ok (.iadd, 1) := by decide +kernel
theorem dX2_exchangeInRow_12 : decode cX2_exchangeInRow 12 = .ok (.invokestatic 52, 3) := by decide +kernel
theorem dX2_exchangeInRow_15 : decode cX2_exchangeInRow 15 = .ok (.invokestatic 49, 3) := by decide +kernel
theorem dX2_exchangeInRow_18 : decode cX2_exchangeInRow 18 = .ok (.aload_n 0, 1) := by decide +kernel
theorem dX2_exchangeInRow_19 : decode cX2_exchangeInRow 19 = .ok (.iload_n 1, 1) := by decide +kernel
theorem dX2_exchangeInRow_20 : decode cX2_exchangeInRow 20 = .ok (.iconst 1, 1) := by decide +kernel
theorem dX2_exchangeInRow_21 : decode cX2_exchangeInRow 21 = .ok (.iadd, 1) := by decide +kernel
theorem dX2_exchangeInRow_22 : decode cX2_exchangeInRow 22 = .ok (.iload_n 2, 1) := by decide +kernel
theorem dX2_exchangeInRow_23 : decode cX2_exchangeInRow 23 = .ok (.invokestatic 49, 3) := by decide +kernel
theorem dX2_exchangeInRow_26 : decode cX2_exchangeInRow 26 = .ok (.return_, 1) := by decide +kernel
theorem dX3_init_0 : decode cX3_init 0 = .ok (.aload_n 0, 1) := by decide +kernel
theorem dX3_init_1 : decode cX3_init 1 = .ok (.invokespecial 3, 3) := by decide +kernel
theorem dX3_init_4 : decode cX3_init 4 = .ok (.aload_n 0, 1) := by decide +kernel
theorem dX3_init_5 : decode cX3_init 5 = .ok (.bipush 60, 2) := by decide +kernel
theorem dX3_init_7 : decode cX3_init 7 = .ok (.newarray .int, 2) := by decide +kernel
theorem dX3_init_9 : decode cX3_init 9 = .ok (.putfield 9, 3) := by decide +kernel
theorem dX3_init_12 : decode cX3_init 12 = .ok (.aload_n 0, 1) := by decide +kernel
theorem dX3_init_13 : decode cX3_init 13 = .ok (.iconst 0, 1) := by decide +kernel
theorem dX3_init_14 : decode cX3_init 14 = .ok (.putfield 15, 3) := by decide +kernel
theorem dX3_init_17 : decode cX3_init 17 = .ok (.return_, 1) := by decide +kernel
set_option maxRecDepth 20000 in
theorem ggX4_init_X2_init : GoodIn wsX4_init wsX2_init := goodIn_r _ [23, 24, 2, 3, 25, 26, 27, 28, 29, 30, 60, 61, 62, 63, 64] (by decide +kernel) (by decide +kernel)
set_option maxRecDepth 20000 in
theorem gX4_init_X2_init_n11 : GoodIn wsX4_init (wsX2_init) := ggX4_init_X2_init
set_option maxRecDepth 20000 in
theorem ggX4_init_X1_init : GoodIn wsX4_init wsX1_init := goodIn_r _ [32, 33, 2, 3, 25, 34, 35, 36, 37, 38, 39, 40, 41, 42, 43, 44, 45, 46, 47, 48, 71, 72, 73, 74, 75, 76, 77, 78, 79, 80, 81, 82, 83, 84, 85] (by decide +kernel) (by decide +kernel)
set_option maxRecDepth 20000 in
theorem gX4_init_X1_init_n18 : GoodIn wsX4_init (wsX1_init) := ggX4_init_X1_init
set_option maxRecDepth 20000 in
theorem ggX4_init_X0_init : GoodIn wsX4_init wsX0_init := goodIn_r _ [50, 51, 2, 3, 52, 53, 54, 5, 6, 22, 23, 24, 25, 26, 27, 28, 29, 30, 86, 87, 60, 61, 62, 63, 64] (by decide +kernel) (by decide +kernel)
set_option maxRecDepth 20000 in
theorem gX4_init_X0_init_n31 : GoodIn wsX4_init (wsX0_init) := ggX4_init_X0_init
set_option maxRecDepth 20000 in
theorem ggX4_init_X3_init : GoodIn wsX4_init wsX3_init := goodIn_r _ [56, 57, 2, 3, 25, 58, 59, 88, 89] (by decide +kernel) (by decide +kernel)
set_option maxRecDepth 20000 in
theorem gX4_init_X3_init_n38 : GoodIn wsX4_init (wsX3_init) := ggX4_init_X3_init
theorem dX4_init_0 : decode cX4_init 0 = .ok (.aload_n 0, 1) := by decide +kernel
theorem dX4_init_1 : decode cX4_init 1 = .ok (.invokespecial 3, 3) := by decide +kernel
theorem dX4_init_4 : decode cX4_init 4 = .ok (.aload_n 0, 1) := by decide +kernel
theorem dX4_init_5 : decode cX4_init 5 = .ok (.new 9, 3) := by decide +kernel
theorem dX4_init_8 : decode cX4_init 8 = .ok (.dup, 1) := by decide +kernel
theorem dX4_init_9 : decode cX4_init 9 = .ok (.invokespecial 11, 3) := by decide +kernel
theorem dX4_init_12 : decode cX4_init 12 = .ok (.putfield 12, 3) := by decide +kernel
theorem dX4_init_15 : decode cX4_init 15 = .ok (.aload_n 0, 1) := by decide +kernel
theorem dX4_init_16 : decode cX4_init 16 = .ok (.new 16, 3) := by decide +kernel
theorem dX4_init_19 : decode cX4_init 19 = .ok (.dup, 1) := by decide +kernel
theorem dX4_init_20 : decode cX4_init 20 = .ok (.invokespecial 18, 3) := by decide +kernel
theorem dX4_init_23 : decode cX4_init 23 = .ok (.putfield 19, 3) := by decide +kernel
theorem dX4_init_26 : decode cX4_init 26 = .ok (.aload_n 0, 1) := by decide +kernel
theorem dX4_init_27 : decode cX4_init 27 = .ok (.new 9, 3) := by decide +kernel
theorem dX4_init_30 : decode cX4_init 30 = .ok (.dup, 1) := by decide +kernel
theorem dX4_init_31 : decode cX4_init 31 = .ok (.invokespecial 11, 3) := by decide +kernel
theorem dX4_init_34 : decode cX4_init 34 = .ok (.putfield 23, 3) := by decide +kernel
theorem dX4_init_37 : decode cX4_init 37 = .ok (.aload_n 0, 1) := by decide +kernel
theorem dX4_init_38 : decode cX4_init 38 = .ok (.new 16, 3) := by decide +kernel
theorem dX4_init_41 : decode cX4_init 41 = .ok (.dup, 1) := by decide +kernel
theorem dX4_init_42 : decode cX4_init 42 = .ok (.invokespecial 18, 3) := by decide +kernel
theorem dX4_init_45 : decode cX4_init 45 = .ok (.putfield 26, 3) := by decide +kernel
theorem dX4_init_48 : decode cX4_init 48 = .ok (.aload_n 0, 1) := by decide +kernel
theorem dX4_init_49 : decode cX4_init 49 = .ok (.new 29, 3) := by decide +kernel
theorem dX4_init_52 : decode cX4_init 52 = .ok (.dup, 1) := by decide +kernel
theorem dX4_init_53 : decode cX4_init 53 = .ok (.invokespecial 31, 3) := by decide +kernel
theorem dX4_init_56 : decode cX4_init 56 = .ok (.putfield 32, 3) := by decide +kernel
theorem dX4_init_59 : decode cX4_init 59 = .ok (.aload_n 0, 1) := by decide +kernel
theorem dX4_init_60 : decode cX4_init 60 = .ok (.new 36, 3) := by decide +kernel
theorem dX4_init_63 : decode cX4_init 63 = .ok (.dup, 1) := by decide +kernel
theorem dX4_init_64 : decode cX4_init 64 = .ok (.invokespecial 38, 3) := by decide +kernel
theorem dX4_init_67 : decode cX4_init 67 = .ok (.putfield 39, 3) := by decide +kernel
theorem dX4_init_70 : decode cX4_init 70 = .ok (.return_, 1) := by decide +kernel
set_option maxRecDepth 20000 in
theorem ggX4_put_X4_isWithin : GoodIn wsX4_put wsX4_isWithin := goodIn_r _ [13] (by decide +kernel) (by decide +kernel)
set_option maxRecDepth 20000 in
theorem gX4_put_X4_isWithin : GoodIn wsX4_put (va_wsS RX4 47 yX4_isWithin wsX4_isWithin) := goodIn_app (goodIn_of _ (by decide +kernel)) ggX4_put_X4_isWithin
set_option maxRecDepth 20000 in
theorem ggX4_put_X4_isPanelSize : GoodIn wsX4_put wsX4_isPanelSize := goodIn_r _ [16, 10, 11, 12, 13] (by decide +kernel) (by decide +kernel)
set_option maxRecDepth 20000 in
theorem gX4_put_X4_isPanelSize : GoodIn wsX4_put (va_wsS RX4 58 yX4_isPanelSize wsX4_isPanelSize) := goodIn_app (goodIn_of _ (by decide +kernel)) ggX4_put_X4_isPanelSize
set_option maxRecDepth 20000 in
theorem ggX4_put_X0_save : GoodIn wsX4_put wsX0_save := goodIn_r _ [20, 21, 22, 23, 24, 18, 25, 26, 27, 28, 29, 30, 31, 32, 33, 34, 35, 36, 37, 38, 39, 40, 41, 42, 43, 127, 128, 122, 123, 124, 125, 126] (by decide +kernel) (by decide +kernel)
set_option maxRecDepth 20000 in
theorem gX4_put_X0_save_n72 : GoodIn wsX4_put (wsX0_save) := ggX4_put_X0_save
set_option maxRecDepth 20000 in
theorem ggX4_put_X2_insert : GoodIn wsX4_put wsX2_insert := goodIn_r _ [46, 42, 35, 40, 41, 47, 48, 32, 49, 50, 12, 51, 122, 123, 124, 125, 126] (by decide +kernel) (by decide +kernel)
set_option maxRecDepth 20000 in
theorem gX4_put_X2_insert_n76 : GoodIn wsX4_put (wsX2_insert) := ggX4_put_X2_insert
set_option maxRecDepth 20000 in
theorem ggX4_put_X1_pour : GoodIn wsX4_put wsX1_pour := goodIn_r _ [55, 56, 57, 58, 59, 53, 60, 61, 62, 63, 64, 65, 66, 67, 68, 69, 70, 71, 72, 73, 74, 75, 76, 77, 78, 79, 80, 12, 81, 82, 83, 84, 85, 86, 87, 88, 89, 90, 91, 92, 93, 94, 95, 96, 97, 98, 99, 100, 101, 102, 103, 104, 105, 106, 107, 108, 109, 110, 111, 112, 113, 114, 115, 50, 51, 122, 123, 124, 125, 126, 129, 130, 131, 132, 133, 134, 135, 136, 137, 138, 139, 140, 141, 142, 143] (by decide +kernel) (by decide +kernel)
set_option maxRecDepth 20000 in
theorem gX4_put_X1_pour_n80 : GoodIn wsX4_put (wsX1_pour) := ggX4_put_X1_pour
theorem dX4_put_0 : decode cX4_put 0 = .ok (.iload_n 1, 1) := by decide +kernel
theorem dX4_put_1 : decode cX4_put 1 = .ok (.iconst 0, 1) := by decide +kernel
theorem dX4_put_2 : decode cX4_put 2 = .ok (.aload_n 0, 1) := by decide +kernel
theorem dX4_put_3 : decode cX4_put 3 = .ok (.getfield 12, 3) := by decide +kernel
theorem dX4_put_6 : decode cX4_put 6 = .ok (.getfield 43, 3) := by decide +kernel
theorem dX4_put_9 : decode cX4_put 9 = .ok (.invokestatic 47, 3) := by decide +kernel
theorem dX4_put_12 : decode cX4_put 12 = .ok (.ifCond .ne 13, 3) := by decide +kernel
theorem dX4_put_15 : decode cX4_put 15 = .ok (.new 51, 3) := by decide +kernel
theorem dX4_put_18 : decode cX4_put 18 = .ok (.dup, 1) := by decide +kernel
theorem dX4_put_19 : decode cX4_put 19 = .ok (.ldc 53, 2) := by decide +kernel
theorem dX4_put_21 : decode cX4_put 21 = .ok (.invokespecial 55, 3) := by decide +kernel
theorem dX4_put_24 : decode cX4_put 24 = .ok (.athrow, 1) := by decide +kernel
theorem dX4_put_25 : decode cX4_put 25 = .ok (.iload_n 2, 1) := by decide +kernel
theorem dX4_put_26 : decode cX4_put 26 = .ok (.iconst 0, 1) := by decide +kernel
theorem dX4_put_27 : decode cX4_put 27 = .ok (.iconst 3, 1) := by decide +kernel
theorem dX4_put_28 : decode cX4_put 28 = .ok (.invokestatic 47, 3) := by decide +kernel
theorem dX4_put_31 : decode cX4_put 31 = .ok (.ifCond .eq 12, 3) := by decide +kernel
theorem dX4_put_34 : decode cX4_put 34 = .ok (.iload_n 3, 1) := by decide +kernel
theorem dX4_put_35 : decode cX4_put 35 = .ok (.iload 4, 2) := by decide +kernel
theorem dX4_put_37 : decode cX4_put 37 = .ok (.invokestatic 58, 3) := by decide +kernel
theorem dX4_put_40 : decode cX4_put 40 = .ok (.ifCond .ne 13, 3) := by decide +kernel
theorem dX4_put_43 : decode cX4_put 43 = .ok (.new 62, 3) := by decide +kernel
theorem dX4_put_46 : decode cX4_put 46 = .ok (.dup, 1) := by decide +kernel
theorem dX4_put_47 : decode cX4_put 47 = .ok (.ldc 64, 2) := by decide +kernel
theorem dX4_put_49 : decode cX4_put 49 = .ok (.invokespecial 66, 3) := by decide +kernel
theorem dX4_put_52 : decode cX4_put 52 = .ok (.athrow, 1) := by decide +kernel
theorem dX4_put_53 : decode cX4_put 53 = .ok (.aload_n 0, 1) := by decide +kernel
theorem dX4_put_54 : decode cX4_put 54 = .ok (.getfield 12, 3) := by decide +kernel
theorem dX4_put_57 : decode cX4_put 57 = .ok (.getfield 43, 3) := by decide +kernel
theorem dX4_put_60 : decode cX4_put 60 = .ok (.bipush 24, 2) := by decide +kernel
theorem dX4_put_62 : decode cX4_put 62 = .ok (.if_icmp .lt 13, 3) := by decide +kernel
theorem dX4_put_65 : decode cX4_put 65 = .ok (.new 67, 3) := by decide +kernel
theorem dX4_put_68 : decode cX4_put 68 = .ok (.dup, 1) := by decide +kernel
theorem dX4_put_69 : decode cX4_put 69 = .ok (.ldc 69, 2) := by decide +kernel
theorem dX4_put_71 : decode cX4_put 71 = .ok (.invokespecial 71, 3) := by decide +kernel
theorem dX4_put_74 : decode cX4_put 74 = .ok (.athrow, 1) := by decide +kernel
theorem dX4_put_75 : decode cX4_put 75 = .ok (.aload_n 0, 1) := by decide +kernel
theorem dX4_put_76 : decode cX4_put 76 = .ok (.getfield 32, 3) := by decide +kernel
theorem dX4_put_79 : decode cX4_put 79 = .ok (.aload_n 0, 1) := by decide +kernel
theorem dX4_put_80 : decode cX4_put 80 = .ok (.getfield 12, 3) := by decide +kernel
theorem dX4_put_83 : decode cX4_put 83 = .ok (.invokevirtual 72, 3) := by decide +kernel
theorem dX4_put_86 : decode cX4_put 86 = .ok (.aload_n 0, 1) := by decide +kernel
theorem dX4_put_87 : decode cX4_put 87 = .ok (.getfield 12, 3) := by decide +kernel
theorem dX4_put_90 : decode cX4_put 90 = .ok (.iload_n 1, 1) := by decide +kernel
theorem dX4_put_91 : decode cX4_put 91 = .ok (.iload_n 2, 1) := by decide +kernel
theorem dX4_put_92 : decode cX4_put 92 = .ok (.iload_n 3, 1) := by decide +kernel
theorem dX4_put_93 : decode cX4_put 93 = .ok (.iload 4, 2) := by decide +kernel
theorem dX4_put_95 : decode cX4_put 95 = .ok (.invokevirtual 76, 3) := by decide +kernel
theorem dX4_put_98 : decode cX4_put 98 = .ok (.aload_n 0, 1) := by decide +kernel
theorem dX4_put_99 : decode cX4_put 99 = .ok (.getfield 19, 3) := by decide +kernel
theorem dX4_put_102 : decode cX4_put 102 = .ok (.aload_n 0, 1) := by decide +kernel
theorem dX4_put_103 : decode cX4_put 103 = .ok (.getfield 12, 3) := by decide +kernel
theorem dX4_put_106 : decode cX4_put 106 = .ok (.invokevirtual 80, 3) := by decide +kernel
theorem dX4_put_109 : decode cX4_put 109 = .ok (.aload_n 0, 1) := by decide +kernel
theorem dX4_put_110 : decode cX4_put 110 = .ok (.getfield 12, 3) := by decide +kernel
theorem dX4_put_113 : decode cX4_put 113 = .ok (.getfield 43, 3) := by decide +kernel
theorem dX4_put_116 : decode cX4_put 116 = .ok (.ireturn, 1) := by decide +kernel
set_option maxRecDepth 20000 in
theorem ggX4_take_X2_has : GoodIn wsX4_take wsX2_has := goodIn_r _ [9, 10, 116, 117, 118, 119, 120] (by decide +kernel) (by decide +kernel)
set_option maxRecDepth 20000 in
theorem gX4_take_X2_has_n83 : GoodIn wsX4_take (wsX2_has) := ggX4_take_X2_has
set_option maxRecDepth 20000 in
theorem ggX4_take_X0_save : GoodIn wsX4_take wsX0_save := goodIn_r _ [14, 15, 16, 17, 18, 12, 19, 20, 21, 22, 23, 24, 25, 7, 26, 27, 28, 29, 30, 31, 32, 33, 34, 10, 35, 121, 122, 116, 117, 118, 119, 120] (by decide +kernel) (by decide +kernel)
set_option maxRecDepth 20000 in
theorem gX4_take_X0_save_n72 : GoodIn wsX4_take (wsX0_save) := ggX4_take_X0_save
set_option maxRecDepth 20000 in
theorem ggX4_take_X2_remove : GoodIn wsX4_take wsX2_remove := goodIn_r _ [38, 28, 33, 34, 10, 39, 6, 8, 7, 9, 40, 41, 42, 116, 117, 118, 119, 120] (by decide +kernel) (by decide +kernel)
set_option maxRecDepth 20000 in
theorem gX4_take_X2_remove_n89 : GoodIn wsX4_take (wsX2_remove) := ggX4_take_X2_remove
set_option maxRecDepth 20000 in
theorem ggX4_take_X1_pour : GoodIn wsX4_take wsX1_pour := goodIn_r _ [46, 47, 48, 49, 50, 44, 51, 52, 53, 54, 55, 56, 57, 58, 59, 60, 61, 62, 63, 64, 65, 66, 67, 68, 69, 70, 71, 72, 73, 74, 75, 76, 77, 78, 79, 80, 81, 82, 83, 84, 85, 86, 87, 88, 89, 90, 91, 92, 93, 94, 95, 96, 97, 98, 99, 100, 101, 102, 103, 104, 105, 106, 107, 108, 109, 116, 117, 118, 119, 120, 123, 124, 125, 126, 127, 128, 129, 130, 131, 132, 133, 134, 135, 136, 137] (by decide +kernel) (by decide +kernel)
set_option maxRecDepth 20000 in
theorem gX4_take_X1_pour_n80 : GoodIn wsX4_take (wsX1_pour) := ggX4_take_X1_pour
theorem dX4_take_0 : decode cX4_take 0 = .ok (.aload_n 0, 1) := by decide +kernel
theorem dX4_take_1 : decode cX4_take 1 = .ok (.getfield 12, 3) := by decide +kernel
theorem dX4_take_4 : decode cX4_take 4 = .ok (.iload_n 1, 1) := by decide +kernel
theorem dX4_take_5 : decode cX4_take 5 = .ok (.invokevirtual 83, 3) := by decide +kernel
theorem dX4_take_8 : decode cX4_take 8 = .ok (.ifCond .ne 13, 3) := by decide +kernel
theorem dX4_take_11 : decode cX4_take 11 = .ok (.new 51, 3) := by decide +kernel
theorem dX4_take_14 : decode cX4_take 14 = .ok (.dup, 1) := by decide +kernel
theorem dX4_take_15 : decode cX4_take 15 = .ok (.ldc 87, 2) := by decide +kernel
theorem dX4_take_17 : decode cX4_take 17 = .ok (.invokespecial 55, 3) := by decide +kernel
theorem dX4_take_20 : decode cX4_take 20 = .ok (.athrow, 1) := by decide +kernel
theorem dX4_take_21 : decode cX4_take 21 = .ok (.aload_n 0, 1) := by decide +kernel
theorem dX4_take_22 : decode cX4_take 22 = .ok (.getfield 32, 3) := by decide +kernel
theorem dX4_take_25 : decode cX4_take 25 = .ok (.aload_n 0, 1) := by decide +kernel
theorem dX4_take_26 : decode cX4_take 26 = .ok (.getfield 12, 3) := by decide +kernel
theorem dX4_take_29 : decode cX4_take 29 = .ok (.invokevirtual 72, 3) := by decide +kernel
theorem dX4_take_32 : decode cX4_take 32 = .ok (.aload_n 0, 1) := by decide +kernel
theorem dX4_take_33 : decode cX4_take 33 = .ok (.getfield 12, 3) := by decide +kernel
theorem dX4_take_36 : decode cX4_take 36 = .ok (.iload_n 1, 1) := by decide +kernel
theorem dX4_take_37 : decode cX4_take 37 = .ok (.invokevirtual 89, 3) := by decide +kernel
theorem dX4_take_40 : decode cX4_take 40 = .ok (.aload_n 0, 1) := by decide +kernel
theorem dX4_take_41 : decode cX4_take 41 = .ok (.getfield 19, 3) := by decide +kernel
theorem dX4_take_44 : decode cX4_take 44 = .ok (.aload_n 0, 1) := by decide +kernel
theorem dX4_take_45 : decode cX4_take 45 = .ok (.getfield 12, 3) := by decide +kernel
theorem dX4_take_48 : decode cX4_take 48 = .ok (.invokevirtual 80, 3) := by decide +kernel
theorem dX4_take_51 : decode cX4_take 51 = .ok (.aload_n 0, 1) := by decide +kernel
theorem dX4_take_52 : decode cX4_take 52 = .ok (.getfield 12, 3) := by decide +kernel
theorem dX4_take_55 : decode cX4_take 55 = .ok (.getfield 43, 3) := by decide +kernel
theorem dX4_take_58 : decode cX4_take 58 = .ok (.ireturn, 1) := by decide +kernel
set_option maxRecDepth 20000 in
theorem ggX4_change_X2_has : GoodIn wsX4_change wsX2_has := goodIn_r _ [11, 12, 118, 119, 120, 121, 122] (by decide +kernel) (by decide +kernel)
set_option maxRecDepth 20000 in
theorem gX4_change_X2_has_n83 : GoodIn wsX4_change (wsX2_has) := ggX4_change_X2_has
set_option maxRecDepth 20000 in
theorem ggX4_change_X4_isPanelSize : GoodIn wsX4_change wsX4_isPanelSize := goodIn_r _ [16, 17, 18, 15, 19] (by decide +kernel) (by decide +kernel)
set_option maxRecDepth 20000 in
theorem gX4_change_X4_isPanelSize : GoodIn wsX4_change (va_wsS RX4 58 yX4_isPanelSize wsX4_isPanelSize) := goodIn_app (goodIn_of _ (by decide +kernel)) ggX4_change_X4_isPanelSize
set_option maxRecDepth 20000 in
theorem ggX4_change_X0_save : GoodIn wsX4_change wsX0_save := goodIn_r _ [23, 24, 25, 26, 27, 21, 28, 29, 30, 31, 32, 33, 34, 9, 35, 36, 37, 38, 39, 40, 41, 42, 43, 12, 44, 138, 139, 118, 119, 120, 121, 122] (by decide +kernel) (by decide +kernel)
set_option maxRecDepth 20000 in
theorem gX4_change_X0_save_n72 : GoodIn wsX4_change (wsX0_save) := ggX4_change_X0_save
set_option maxRecDepth 20000 in
theorem ggX4_change_X4_write : GoodIn wsX4_change wsX4_write := goodIn_r _ [47] (by decide +kernel) (by decide +kernel)
set_option maxRecDepth 20000 in
theorem gX4_change_X4_write : GoodIn wsX4_change (va_wsS RX4 99 yX4_write wsX4_write) := goodIn_app (goodIn_of _ (by decide +kernel)) ggX4_change_X4_write
set_option maxRecDepth 20000 in
theorem ggX4_change_X1_pour : GoodIn wsX4_change wsX1_pour := goodIn_r _ [51, 52, 53, 54, 55, 49, 56, 57, 58, 59, 60, 61, 62, 63, 64, 65, 66, 67, 68, 69, 70, 71, 72, 73, 74, 75, 76, 15, 77, 78, 79, 80, 81, 82, 83, 84, 85, 86, 87, 88, 89, 90, 91, 92, 93, 94, 95, 96, 97, 98, 99, 100, 101, 102, 103, 104, 105, 106, 107, 108, 109, 110, 111, 46, 47, 118, 119, 120, 121, 122, 123, 124, 125, 126, 127, 128, 129, 130, 131, 132, 133, 134, 135, 136, 137] (by decide +kernel) (by decide +kernel)
set_option maxRecDepth 20000 in
theorem gX4_change_X1_pour_n80 : GoodIn wsX4_change (wsX1_pour) := ggX4_change_X1_pour
theorem dX4_change_0 : decode cX4_change 0 = .ok (.aload_n 0, 1) := by decide +kernel
theorem dX4_change_1 : decode cX4_change 1 = .ok (.getfield 12, 3) := by decide +kernel
theorem dX4_change_4 : decode cX4_change 4 = .ok (.iload_n 1, 1) := by decide +kernel
theorem dX4_change_5 : decode cX4_change 5 = .ok (.invokevirtual 83, 3) := by decide +kernel
theorem dX4_change_8 : decode cX4_change 8 = .ok (.ifCond .ne 13, 3) := by decide +kernel
theorem dX4_change_11 : decode cX4_change 11 = .ok (.new 51, 3) := by decide +kernel
theorem dX4_change_14 : decode cX4_change 14 = .ok (.dup, 1) := by decide +kernel
theorem dX4_change_15 : decode cX4_change 15 = .ok (.ldc 87, 2) := by decide +kernel
theorem dX4_change_17 : decode cX4_change 17 = .ok (.invokespecial 55, 3) := by decide +kernel
theorem dX4_change_20 : decode cX4_change 20 = .ok (.athrow, 1) := by decide +kernel
theorem dX4_change_21 : decode cX4_change 21 = .ok (.iload_n 2, 1) := by decide +kernel
theorem dX4_change_22 : decode cX4_change 22 = .ok (.iload_n 3, 1) := by decide +kernel
theorem dX4_change_23 : decode cX4_change 23 = .ok (.invokestatic 58, 3) := by decide +kernel
theorem dX4_change_26 : decode cX4_change 26 = .ok (.ifCond .ne 13, 3) := by decide +kernel
theorem dX4_change_29 : decode cX4_change 29 = .ok (.new 62, 3) := by decide +kernel
theorem dX4_change_32 : decode cX4_change 32 = .ok (.dup, 1) := by decide +kernel
theorem dX4_change_33 : decode cX4_change 33 = .ok (.ldc 93, 2) := by decide +kernel
theorem dX4_change_35 : decode cX4_change 35 = .ok (.invokespecial 66, 3) := by decide +kernel
theorem dX4_change_38 : decode cX4_change 38 = .ok (.athrow, 1) := by decide +kernel
theorem dX4_change_39 : decode cX4_change 39 = .ok (.aload_n 0, 1) := by decide +kernel
theorem dX4_change_40 : decode cX4_change 40 = .ok (.getfield 32, 3) := by decide +kernel
theorem dX4_change_43 : decode cX4_change 43 = .ok (.aload_n 0, 1) := by decide +kernel
theorem dX4_change_44 : decode cX4_change 44 = .ok (.getfield 12, 3) := by decide +kernel
theorem dX4_change_47 : decode cX4_change 47 = .ok (.invokevirtual 72, 3) := by decide +kernel
theorem dX4_change_50 : decode cX4_change 50 = .ok (.aload_n 0, 1) := by decide +kernel
theorem dX4_change_51 : decode cX4_change 51 = .ok (.getfield 12, 3) := by decide +kernel
theorem dX4_change_54 : decode cX4_change 54 = .ok (.getfield 95, 3) := by decide +kernel
theorem dX4_change_57 : decode cX4_change 57 = .ok (.iload_n 1, 1) := by decide +kernel
theorem dX4_change_58 : decode cX4_change 58 = .ok (.iload_n 2, 1) := by decide +kernel
theorem dX4_change_59 : decode cX4_change 59 = .ok (.invokestatic 99, 3) := by decide +kernel
theorem dX4_change_62 : decode cX4_change 62 = .ok (.aload_n 0, 1) := by decide +kernel
theorem dX4_change_63 : decode cX4_change 63 = .ok (.getfield 12, 3) := by decide +kernel
theorem dX4_change_66 : decode cX4_change 66 = .ok (.getfield 103, 3) := by decide +kernel
theorem dX4_change_69 : decode cX4_change 69 = .ok (.iload_n 1, 1) := by decide +kernel
theorem dX4_change_70 : decode cX4_change 70 = .ok (.iload_n 3, 1) := by decide +kernel
theorem dX4_change_71 : decode cX4_change 71 = .ok (.invokestatic 99, 3) := by decide +kernel
theorem dX4_change_74 : decode cX4_change 74 = .ok (.aload_n 0, 1) := by decide +kernel
theorem dX4_change_75 : decode cX4_change 75 = .ok (.getfield 19, 3) := by decide +kernel
theorem dX4_change_78 : decode cX4_change 78 = .ok (.aload_n 0, 1) := by decide +kernel
theorem dX4_change_79 : decode cX4_change 79 = .ok (.getfield 12, 3) := by decide +kernel
theorem dX4_change_82 : decode cX4_change 82 = .ok (.invokevirtual 80, 3) := by decide +kernel
theorem dX4_change_85 : decode cX4_change 85 = .ok (.aload_n 0, 1) := by decide +kernel
theorem dX4_change_86 : decode cX4_change 86 = .ok (.getfield 19, 3) := by decide +kernel
theorem dX4_change_89 : decode cX4_change 89 = .ok (.getfield 106, 3) := by decide +kernel
theorem dX4_change_92 : decode cX4_change 92 = .ok (.ireturn, 1) := by decide +kernel
set_option maxRecDepth 20000 in
theorem ggX4_set_X4_isWithin : GoodIn wsX4_set wsX4_isWithin := goodIn_r _ [9] (by decide +kernel) (by decide +kernel)
set_option maxRecDepth 20000 in
theorem gX4_set_X4_isWithin : GoodIn wsX4_set (va_wsS RX4 47 yX4_isWithin wsX4_isWithin) := goodIn_app (goodIn_of _ (by decide +kernel)) ggX4_set_X4_isWithin
set_option maxRecDepth 20000 in
theorem ggX4_set_X0_save : GoodIn wsX4_set wsX0_save := goodIn_r _ [13, 14, 15, 16, 17, 11, 18, 19, 20, 21, 22, 23, 24, 25, 26, 27, 28, 29, 30, 31, 32, 33, 34, 35, 36, 114, 115, 109, 110, 111, 112, 113] (by decide +kernel) (by decide +kernel)
set_option maxRecDepth 20000 in
theorem gX4_set_X0_save_n72 : GoodIn wsX4_set (wsX0_save) := ggX4_set_X0_save
set_option maxRecDepth 20000 in
theorem ggX4_set_X1_pour : GoodIn wsX4_set wsX1_pour := goodIn_r _ [40, 41, 42, 43, 44, 38, 45, 46, 47, 48, 49, 50, 51, 52, 53, 54, 55, 56, 57, 58, 59, 60, 61, 62, 63, 64, 65, 8, 66, 67, 68, 69, 70, 71, 72, 73, 74, 75, 76, 77, 78, 79, 80, 81, 82, 83, 84, 85, 86, 87, 88, 89, 90, 91, 92, 93, 94, 95, 96, 97, 98, 99, 100, 101, 102, 109, 110, 111, 112, 113, 116, 117, 118, 119, 120, 121, 122, 123, 124, 125, 126, 127, 128, 129, 130] (by decide +kernel) (by decide +kernel)
set_option maxRecDepth 20000 in
theorem gX4_set_X1_pour_n80 : GoodIn wsX4_set (wsX1_pour) := ggX4_set_X1_pour
theorem dX4_set_0 : decode cX4_set 0 = .ok (.iload_n 1, 1) := by decide +kernel
theorem dX4_set_1 : decode cX4_set 1 = .ok (.bipush 9, 2) := by decide +kernel
theorem dX4_set_3 : decode cX4_set 3 = .ok (.bipush 60, 2) := by decide +kernel
theorem dX4_set_5 : decode cX4_set 5 = .ok (.invokestatic 47, 3) := by decide +kernel
theorem dX4_set_8 : decode cX4_set 8 = .ok (.ifCond .ne 13, 3) := by decide +kernel
theorem dX4_set_11 : decode cX4_set 11 = .ok (.new 62, 3) := by decide +kernel
theorem dX4_set_14 : decode cX4_set 14 = .ok (.dup, 1) := by decide +kernel
theorem dX4_set_15 : decode cX4_set 15 = .ok (.ldc 109, 2) := by decide +kernel
theorem dX4_set_17 : decode cX4_set 17 = .ok (.invokespecial 66, 3) := by decide +kernel
theorem dX4_set_20 : decode cX4_set 20 = .ok (.athrow, 1) := by decide +kernel
theorem dX4_set_21 : decode cX4_set 21 = .ok (.aload_n 0, 1) := by decide +kernel
theorem dX4_set_22 : decode cX4_set 22 = .ok (.getfield 12, 3) := by decide +kernel
theorem dX4_set_25 : decode cX4_set 25 = .ok (.getfield 111, 3) := by decide +kernel
theorem dX4_set_28 : decode cX4_set 28 = .ok (.istore_n 2, 1) := by decide +kernel
theorem dX4_set_29 : decode cX4_set 29 = .ok (.aload_n 0, 1) := by decide +kernel
theorem dX4_set_30 : decode cX4_set 30 = .ok (.getfield 32, 3) := by decide +kernel
theorem dX4_set_33 : decode cX4_set 33 = .ok (.aload_n 0, 1) := by decide +kernel
theorem dX4_set_34 : decode cX4_set 34 = .ok (.getfield 12, 3) := by decide +kernel
theorem dX4_set_37 : decode cX4_set 37 = .ok (.invokevirtual 72, 3) := by decide +kernel
theorem dX4_set_40 : decode cX4_set 40 = .ok (.aload_n 0, 1) := by decide +kernel
theorem dX4_set_41 : decode cX4_set 41 = .ok (.getfield 12, 3) := by decide +kernel
theorem dX4_set_44 : decode cX4_set 44 = .ok (.iload_n 1, 1) := by decide +kernel
theorem dX4_set_45 : decode cX4_set 45 = .ok (.putfield 111, 3) := by decide +kernel
theorem dX4_set_48 : decode cX4_set 48 = .ok (.aload_n 0, 1) := by decide +kernel
theorem dX4_set_49 : decode cX4_set 49 = .ok (.getfield 19, 3) := by decide +kernel
theorem dX4_set_52 : decode cX4_set 52 = .ok (.aload_n 0, 1) := by decide +kernel
theorem dX4_set_53 : decode cX4_set 53 = .ok (.getfield 12, 3) := by decide +kernel
theorem dX4_set_56 : decode cX4_set 56 = .ok (.invokevirtual 80, 3) := by decide +kernel
theorem dX4_set_59 : decode cX4_set 59 = .ok (.iload_n 2, 1) := by decide +kernel
theorem dX4_set_60 : decode cX4_set 60 = .ok (.ireturn, 1) := by decide +kernel
set_option maxRecDepth 20000 in
theorem ggX4_panel_X2_has : GoodIn wsX4_panel wsX2_has := goodIn_r _ [9, 10, 29, 30, 31, 32, 33] (by decide +kernel) (by decide +kernel)
set_option maxRecDepth 20000 in
theorem gX4_panel_X2_has_n83 : GoodIn wsX4_panel (wsX2_has) := ggX4_panel_X2_has
set_option maxRecDepth 20000 in
theorem ggX4_panel_X4_isWithin : GoodIn wsX4_panel wsX4_isWithin := goodIn_r _ [14] (by decide +kernel) (by decide +kernel)
set_option maxRecDepth 20000 in
theorem gX4_panel_X4_isWithin : GoodIn wsX4_panel (va_wsS RX4 47 yX4_isWithin wsX4_isWithin) := goodIn_app (goodIn_of _ (by decide +kernel)) ggX4_panel_X4_isWithin
set_option maxRecDepth 20000 in
theorem ggX4_panel_X4_numberOfPanel : GoodIn wsX4_panel wsX4_numberOfPanel := goodIn_r _ [18, 5, 19, 20, 21, 13, 22, 23, 24, 25, 26, 27, 28, 29, 30, 31, 32, 33, 34, 35, 36, 37, 38, 39, 40, 41, 42, 43, 44, 45, 46, 47, 48] (by decide +kernel) (by decide +kernel)
set_option maxRecDepth 20000 in
theorem gX4_panel_X4_numberOfPanel : GoodIn wsX4_panel (wsV RX4 145 RX4 yX4_numberOfPanel wsX4_numberOfPanel) := goodIn_app (goodIn_of _ (by decide +kernel)) ggX4_panel_X4_numberOfPanel
theorem dX4_panel_0 : decode cX4_panel 0 = .ok (.aload_n 0, 1) := by decide +kernel
theorem dX4_panel_1 : decode cX4_panel 1 = .ok (.getfield 12, 3) := by decide +kernel
theorem dX4_panel_4 : decode cX4_panel 4 = .ok (.iload_n 1, 1) := by decide +kernel
theorem dX4_panel_5 : decode cX4_panel 5 = .ok (.invokevirtual 83, 3) := by decide +kernel
theorem dX4_panel_8 : decode cX4_panel 8 = .ok (.ifCond .ne 13, 3) := by decide +kernel
theorem dX4_panel_11 : decode cX4_panel 11 = .ok (.new 51, 3) := by decide +kernel
theorem dX4_panel_14 : decode cX4_panel 14 = .ok (.dup, 1) := by decide +kernel
theorem dX4_panel_15 : decode cX4_panel 15 = .ok (.ldc 87, 2) := by decide +kernel
theorem dX4_panel_17 : decode cX4_panel 17 = .ok (.invokespecial 55, 3) := by decide +kernel
theorem dX4_panel_20 : decode cX4_panel 20 = .ok (.athrow, 1) := by decide +kernel
theorem dX4_panel_21 : decode cX4_panel 21 = .ok (.iload_n 2, 1) := by decide +kernel
theorem dX4_panel_22 : decode cX4_panel 22 = .ok (.iconst 0, 1) := by decide +kernel
theorem dX4_panel_23 : decode cX4_panel 23 = .ok (.iconst 5, 1) := by decide +kernel
theorem dX4_panel_24 : decode cX4_panel 24 = .ok (.invokestatic 47, 3) := by decide +kernel
theorem dX4_panel_27 : decode cX4_panel 27 = .ok (.ifCond .ne 13, 3) := by decide +kernel
theorem dX4_panel_30 : decode cX4_panel 30 = .ok (.new 62, 3) := by decide +kernel
theorem dX4_panel_33 : decode cX4_panel 33 = .ok (.dup, 1) := by decide +kernel
theorem dX4_panel_34 : decode cX4_panel 34 = .ok (.ldc 143, 2) := by decide +kernel
theorem dX4_panel_36 : decode cX4_panel 36 = .ok (.invokespecial 66, 3) := by decide +kernel
theorem dX4_panel_39 : decode cX4_panel 39 = .ok (.athrow, 1) := by decide +kernel
theorem dX4_panel_40 : decode cX4_panel 40 = .ok (.aload_n 0, 1) := by decide +kernel
theorem dX4_panel_41 : decode cX4_panel 41 = .ok (.iload_n 1, 1) := by decide +kernel
theorem dX4_panel_42 : decode cX4_panel 42 = .ok (.iload_n 2, 1) := by decide +kernel
theorem dX4_panel_43 : decode cX4_panel 43 = .ok (.invokevirtual 145, 3) := by decide +kernel
theorem dX4_panel_46 : decode cX4_panel 46 = .ok (.ireturn, 1) := by decide +kernel
set_option maxRecDepth 20000 in
theorem ggX4_page_X4_isWithin : GoodIn wsX4_page wsX4_isWithin := goodIn_r _ [9] (by decide +kernel) (by decide +kernel)
set_option maxRecDepth 20000 in
theorem gX4_page_X4_isWithin : GoodIn wsX4_page (va_wsS RX4 47 yX4_isWithin wsX4_isWithin) := goodIn_app (goodIn_of _ (by decide +kernel)) ggX4_page_X4_isWithin
set_option maxRecDepth 20000 in
theorem ggX4_page_X1_numberOfPage : GoodIn wsX4_page wsX1_numberOfPage := goodIn_r _ [13, 14, 15, 16, 17, 18, 19, 20, 8, 21, 22, 23, 24, 11, 25, 32, 33, 34, 35, 36, 37, 38, 39, 40, 41, 42, 43, 44, 45, 46] (by decide +kernel) (by decide +kernel)
set_option maxRecDepth 20000 in
theorem gX4_page_X1_numberOfPage_n151 : GoodIn wsX4_page (wsX1_numberOfPage) := ggX4_page_X1_numberOfPage
theorem dX4_page_0 : decode cX4_page 0 = .ok (.iload_n 1, 1) := by decide +kernel
theorem dX4_page_1 : decode cX4_page 1 = .ok (.iconst 0, 1) := by decide +kernel
theorem dX4_page_2 : decode cX4_page 2 = .ok (.bipush 15, 2) := by decide +kernel
theorem dX4_page_4 : decode cX4_page 4 = .ok (.invokestatic 47, 3) := by decide +kernel
theorem dX4_page_7 : decode cX4_page 7 = .ok (.ifCond .ne 13, 3) := by decide +kernel
theorem dX4_page_10 : decode cX4_page 10 = .ok (.new 51, 3) := by decide +kernel
theorem dX4_page_13 : decode cX4_page 13 = .ok (.dup, 1) := by decide +kernel
theorem dX4_page_14 : decode cX4_page 14 = .ok (.ldc 149, 2) := by decide +kernel
theorem dX4_page_16 : decode cX4_page 16 = .ok (.invokespecial 55, 3) := by decide +kernel
theorem dX4_page_19 : decode cX4_page 19 = .ok (.athrow, 1) := by decide +kernel
theorem dX4_page_20 : decode cX4_page 20 = .ok (.iload_n 2, 1) := by decide +kernel
theorem dX4_page_21 : decode cX4_page 21 = .ok (.iconst 0, 1) := by decide +kernel
theorem dX4_page_22 : decode cX4_page 22 = .ok (.iconst 5, 1) := by decide +kernel
theorem dX4_page_23 : decode cX4_page 23 = .ok (.invokestatic 47, 3) := by decide +kernel
theorem dX4_page_26 : decode cX4_page 26 = .ok (.ifCond .ne 13, 3) := by decide +kernel
theorem dX4_page_29 : decode cX4_page 29 = .ok (.new 62, 3) := by decide +kernel
theorem dX4_page_32 : decode cX4_page 32 = .ok (.dup, 1) := by decide +kernel
theorem dX4_page_33 : decode cX4_page 33 = .ok (.ldc 143, 2) := by decide +kernel
theorem dX4_page_35 : decode cX4_page 35 = .ok (.invokespecial 66, 3) := by decide +kernel
theorem dX4_page_38 : decode cX4_page 38 = .ok (.athrow, 1) := by decide +kernel
theorem dX4_page_39 : decode cX4_page 39 = .ok (.aload_n 0, 1) := by decide +kernel
theorem dX4_page_40 : decode cX4_page 40 = .ok (.getfield 19, 3) := by decide +kernel
theorem dX4_page_43 : decode cX4_page 43 = .ok (.iload_n 1, 1) := by decide +kernel
theorem dX4_page_44 : decode cX4_page 44 = .ok (.iload_n 2, 1) := by decide +kernel
theorem dX4_page_45 : decode cX4_page 45 = .ok (.invokevirtual 151, 3) := by decide +kernel
theorem dX4_page_48 : decode cX4_page 48 = .ok (.ireturn, 1) := by decide +kernel
set_option maxRecDepth 20000 in
theorem ggX4_at_X4_isWithin : GoodIn wsX4_at wsX4_isWithin := goodIn_r _ [6] (by decide +kernel) (by decide +kernel)
set_option maxRecDepth 20000 in
theorem gX4_at_X4_isWithin : GoodIn wsX4_at (va_wsS RX4 47 yX4_isWithin wsX4_isWithin) := goodIn_app (goodIn_of _ (by decide +kernel)) ggX4_at_X4_isWithin
set_option maxRecDepth 20000 in
theorem ggX4_at_X4_panelAt : GoodIn wsX4_at wsX4_panelAt := goodIn_r _ [10, 11, 12, 13, 14, 5, 15, 16, 17, 18, 19, 20, 21, 22, 23, 24, 25, 26, 27, 28, 29, 30, 31, 32, 33, 34, 35, 36, 37, 38, 39, 40, 41] (by decide +kernel) (by decide +kernel)
set_option maxRecDepth 20000 in
theorem gX4_at_X4_panelAt : GoodIn wsX4_at (wsV RX4 156 RX4 yX4_panelAt wsX4_panelAt) := goodIn_app (goodIn_of _ (by decide +kernel)) ggX4_at_X4_panelAt
theorem dX4_at_0 : decode cX4_at 0 = .ok (.iload_n 1, 1) := by decide +kernel
theorem dX4_at_1 : decode cX4_at 1 = .ok (.iconst 0, 1) := by decide +kernel
theorem dX4_at_2 : decode cX4_at 2 = .ok (.bipush 15, 2) := by decide +kernel
theorem dX4_at_4 : decode cX4_at 4 = .ok (.invokestatic 47, 3) := by decide +kernel
theorem dX4_at_7 : decode cX4_at 7 = .ok (.ifCond .eq 21, 3) := by decide +kernel
theorem dX4_at_10 : decode cX4_at 10 = .ok (.iload_n 2, 1) := by decide +kernel
theorem dX4_at_11 : decode cX4_at 11 = .ok (.iconst 0, 1) := by decide +kernel
theorem dX4_at_12 : decode cX4_at 12 = .ok (.iconst 3, 1) := by decide +kernel
theorem dX4_at_13 : decode cX4_at 13 = .ok (.invokestatic 47, 3) := by decide +kernel
theorem dX4_at_16 : decode cX4_at 16 = .ok (.ifCond .eq 12, 3) := by decide +kernel
theorem dX4_at_19 : decode cX4_at 19 = .ok (.iload_n 3, 1) := by decide +kernel
theorem dX4_at_20 : decode cX4_at 20 = .ok (.iconst 0, 1) := by decide +kernel
theorem dX4_at_21 : decode cX4_at 21 = .ok (.iconst 5, 1) := by decide +kernel
theorem dX4_at_22 : decode cX4_at 22 = .ok (.invokestatic 47, 3) := by decide +kernel
theorem dX4_at_25 : decode cX4_at 25 = .ok (.ifCond .ne 13, 3) := by decide +kernel
theorem dX4_at_28 : decode cX4_at 28 = .ok (.new 51, 3) := by decide +kernel
theorem dX4_at_31 : decode cX4_at 31 = .ok (.dup, 1) := by decide +kernel
theorem dX4_at_32 : decode cX4_at 32 = .ok (.ldc 154, 2) := by decide +kernel
theorem dX4_at_34 : decode cX4_at 34 = .ok (.invokespecial 55, 3) := by decide +kernel
theorem dX4_at_37 : decode cX4_at 37 = .ok (.athrow, 1) := by decide +kernel
theorem dX4_at_38 : decode cX4_at 38 = .ok (.aload_n 0, 1) := by decide +kernel
theorem dX4_at_39 : decode cX4_at 39 = .ok (.iload_n 1, 1) := by decide +kernel
theorem dX4_at_40 : decode cX4_at 40 = .ok (.iload_n 2, 1) := by decide +kernel
theorem dX4_at_41 : decode cX4_at 41 = .ok (.iload_n 3, 1) := by decide +kernel
theorem dX4_at_42 : decode cX4_at 42 = .ok (.invokevirtual 156, 3) := by decide +kernel
theorem dX4_at_45 : decode cX4_at 45 = .ok (.ireturn, 1) := by decide +kernel
set_option maxRecDepth 20000 in
theorem ggX4_count_X4_isWithin : GoodIn wsX4_count wsX4_isWithin := goodIn_r _ [6] (by decide +kernel) (by decide +kernel)
set_option maxRecDepth 20000 in
theorem gX4_count_X4_isWithin : GoodIn wsX4_count (va_wsS RX4 47 yX4_isWithin wsX4_isWithin) := goodIn_app (goodIn_of _ (by decide +kernel)) ggX4_count_X4_isWithin
set_option maxRecDepth 20000 in
theorem ggX4_count_X4_numberInAll : GoodIn wsX4_count wsX4_numberInAll := goodIn_r _ [10, 11, 12, 13, 14, 15, 16, 17, 18, 19, 20, 21, 22, 23, 24, 25, 26, 27, 28, 29, 30, 31, 32, 33, 34, 35, 36, 37, 38, 39, 40, 41, 42, 43, 44, 45, 46, 47, 48, 49, 50, 51, 52, 53, 54, 55, 56, 57, 58, 59, 60, 61] (by decide +kernel) (by decide +kernel)
set_option maxRecDepth 20000 in
theorem gX4_count_X4_numberInAll : GoodIn wsX4_count (wsV RX4 162 RX4 yX4_numberInAll wsX4_numberInAll) := goodIn_app (goodIn_of _ (by decide +kernel)) ggX4_count_X4_numberInAll
theorem dX4_count_0 : decode cX4_count 0 = .ok (.iload_n 1, 1) := by decide +kernel
theorem dX4_count_1 : decode cX4_count 1 = .ok (.iconst 0, 1) := by decide +kernel
theorem dX4_count_2 : decode cX4_count 2 = .ok (.bipush 8, 2) := by decide +kernel
theorem dX4_count_4 : decode cX4_count 4 = .ok (.invokestatic 47, 3) := by decide +kernel
theorem dX4_count_7 : decode cX4_count 7 = .ok (.ifCond .ne 13, 3) := by decide +kernel
theorem dX4_count_10 : decode cX4_count 10 = .ok (.new 62, 3) := by decide +kernel
theorem dX4_count_13 : decode cX4_count 13 = .ok (.dup, 1) := by decide +kernel
theorem dX4_count_14 : decode cX4_count 14 = .ok (.ldc 160, 2) := by decide +kernel
theorem dX4_count_16 : decode cX4_count 16 = .ok (.invokespecial 66, 3) := by decide +kernel
theorem dX4_count_19 : decode cX4_count 19 = .ok (.athrow, 1) := by decide +kernel
theorem dX4_count_20 : decode cX4_count 20 = .ok (.aload_n 0, 1) := by decide +kernel
theorem dX4_count_21 : decode cX4_count 21 = .ok (.iload_n 1, 1) := by decide +kernel
theorem dX4_count_22 : decode cX4_count 22 = .ok (.invokevirtual 162, 3) := by decide +kernel
theorem dX4_count_25 : decode cX4_count 25 = .ok (.ireturn, 1) := by decide +kernel
set_option maxRecDepth 20000 in
theorem ggX4_ifExchanged_X2_has : GoodIn wsX4_ifExchanged wsX2_has := goodIn_r _ [9, 10, 113, 114, 115, 116, 117] (by decide +kernel) (by decide +kernel)
set_option maxRecDepth 20000 in
theorem gX4_ifExchanged_X2_has_n83 : GoodIn wsX4_ifExchanged (wsX2_has) := ggX4_ifExchanged_X2_has
set_option maxRecDepth 20000 in
theorem ggX4_ifExchanged_X4_isWithin : GoodIn wsX4_ifExchanged wsX4_isWithin := goodIn_r _ [14] (by decide +kernel) (by decide +kernel)
set_option maxRecDepth 20000 in
theorem gX4_ifExchanged_X4_isWithin : GoodIn wsX4_ifExchanged (va_wsS RX4 47 yX4_isWithin wsX4_isWithin) := goodIn_app (goodIn_of _ (by decide +kernel)) ggX4_ifExchanged_X4_isWithin
set_option maxRecDepth 20000 in
theorem ggX4_ifExchanged_X4_afterExchange : GoodIn wsX4_ifExchanged wsX4_afterExchange := goodIn_r _ [18, 19, 5, 20, 21, 7, 22, 23, 24, 25, 26, 27, 28, 29, 30, 10, 31, 32, 33, 34, 35, 36, 37, 38, 13, 39, 40, 41, 42, 43, 44, 45, 46, 47, 48, 49, 50, 51, 52, 53, 54, 55, 56, 57, 58, 59, 60, 61, 62, 63, 64, 65, 66, 67, 68, 69, 70, 71, 72, 73, 74, 75, 76, 77, 78, 79, 80, 81, 82, 83, 84, 85, 86, 87, 88, 89, 90, 91, 92, 93, 94, 95, 96, 97, 98, 99, 100, 101, 102, 103, 104, 105, 106, 107, 108, 109, 110, 111, 112, 118, 119, 120, 121, 122, 123, 124, 125, 126, 127, 128, 129, 130, 131, 132, 113, 114, 115, 116, 117] (by decide +kernel) (by decide +kernel)
set_option maxRecDepth 20000 in
theorem gX4_ifExchanged_X4_afterExchange : GoodIn wsX4_ifExchanged (wsV RX4 170 RX4 yX4_afterExchange wsX4_afterExchange) := goodIn_app (goodIn_of _ (by decide +kernel)) ggX4_ifExchanged_X4_afterExchange
theorem dX4_ifExchanged_0 : decode cX4_ifExchanged 0 = .ok (.aload_n 0, 1) := by decide +kernel
theorem dX4_ifExchanged_1 : decode cX4_ifExchanged 1 = .ok (.getfield 12, 3) := by decide +kernel
theorem dX4_ifExchanged_4 : decode cX4_ifExchanged 4 = .ok (.iload_n 1, 1) := by decide +kernel
theorem dX4_ifExchanged_5 : decode cX4_ifExchanged 5 = .ok (.invokevirtual 83, 3) := by decide +kernel
theorem dX4_ifExchanged_8 : decode cX4_ifExchanged 8 = .ok (.ifCond .eq 16, 3) := by decide +kernel
theorem dX4_ifExchanged_11 : decode cX4_ifExchanged 11 = .ok (.aload_n 0, 1) := by decide +kernel
theorem dX4_ifExchanged_12 : decode cX4_ifExchanged 12 = .ok (.getfield 12, 3) := by decide +kernel
theorem dX4_ifExchanged_15 : decode cX4_ifExchanged 15 = .ok (.iload_n 1, 1) := by decide +kernel
theorem dX4_ifExchanged_16 : decode cX4_ifExchanged 16 = .ok (.iconst 1, 1) := by decide +kernel
theorem dX4_ifExchanged_17 : decode cX4_ifExchanged 17 = .ok (.iadd, 1) := by decide +kernel
theorem dX4_ifExchanged_18 : decode cX4_ifExchanged 18 = .ok (.invokevirtual 83, 3) := by decide +kernel
theorem dX4_ifExchanged_21 : decode cX4_ifExchanged 21 = .ok (.ifCond .ne 13, 3) := by decide +kernel
theorem dX4_ifExchanged_24 : decode cX4_ifExchanged 24 = .ok (.new 51, 3) := by decide +kernel
theorem dX4_ifExchanged_27 : decode cX4_ifExchanged 27 = .ok (.dup, 1) := by decide +kernel
theorem dX4_ifExchanged_28 : decode cX4_ifExchanged 28 = .ok (.ldc 166, 2) := by decide +kernel
theorem dX4_ifExchanged_30 : decode cX4_ifExchanged 30 = .ok (.invokespecial 55, 3) := by decide +kernel
theorem dX4_ifExchanged_33 : decode cX4_ifExchanged 33 = .ok (.athrow, 1) := by decide +kernel
theorem dX4_ifExchanged_34 : decode cX4_ifExchanged 34 = .ok (.iload_n 2, 1) := by decide +kernel
theorem dX4_ifExchanged_35 : decode cX4_ifExchanged 35 = .ok (.iconst 0, 1) := by decide +kernel
theorem dX4_ifExchanged_36 : decode cX4_ifExchanged 36 = .ok (.iconst 1, 1) := by decide +kernel
theorem dX4_ifExchanged_37 : decode cX4_ifExchanged 37 = .ok (.invokestatic 47, 3) := by decide +kernel
theorem dX4_ifExchanged_40 : decode cX4_ifExchanged 40 = .ok (.ifCond .ne 13, 3) := by decide +kernel
theorem dX4_ifExchanged_43 : decode cX4_ifExchanged 43 = .ok (.new 62, 3) := by decide +kernel
theorem dX4_ifExchanged_46 : decode cX4_ifExchanged 46 = .ok (.dup, 1) := by decide +kernel
theorem dX4_ifExchanged_47 : decode cX4_ifExchanged 47 = .ok (.ldc 168, 2) := by decide +kernel
theorem dX4_ifExchanged_49 : decode cX4_ifExchanged 49 = .ok (.invokespecial 66, 3) := by decide +kernel
theorem dX4_ifExchanged_52 : decode cX4_ifExchanged 52 = .ok (.athrow, 1) := by decide +kernel
theorem dX4_ifExchanged_53 : decode cX4_ifExchanged 53 = .ok (.aload_n 0, 1) := by decide +kernel
theorem dX4_ifExchanged_54 : decode cX4_ifExchanged 54 = .ok (.iload_n 1, 1) := by decide +kernel
theorem dX4_ifExchanged_55 : decode cX4_ifExchanged 55 = .ok (.iload_n 2, 1) := by decide +kernel
theorem dX4_ifExchanged_56 : decode cX4_ifExchanged 56 = .ok (.invokevirtual 170, 3) := by decide +kernel
theorem dX4_ifExchanged_59 : decode cX4_ifExchanged 59 = .ok (.ireturn, 1) := by decide +kernel
set_option maxRecDepth 20000 in
theorem ggX4_leastSetting_X4_leastThatServes : GoodIn wsX4_leastSetting wsX4_leastThatServes := goodIn_r _ [5, 6, 7, 8, 9, 10, 11, 12, 13, 14, 15, 16, 17, 18, 19, 20, 21, 22, 23, 24, 25, 26, 27, 28, 29, 30, 31, 32, 33, 34, 35, 36, 37, 38, 39, 40, 41, 42, 43, 44, 45, 46, 47, 48, 49, 50, 51, 4, 52, 53, 54, 55, 56, 57, 58, 59, 60, 61, 62, 63, 64, 65, 66, 67, 68, 69, 70, 71, 72, 73, 74, 75, 76, 77, 78, 79, 80, 81, 82, 83, 84, 85, 86, 87, 88, 89, 90, 91, 92, 93, 94, 95, 96, 97, 98, 99, 100, 101, 102, 103, 104, 105, 106, 107, 108, 109, 110, 111, 112, 113, 114] (by decide +kernel) (by decide +kernel)
set_option maxRecDepth 20000 in
theorem gX4_leastSetting_X4_leastThatServes : GoodIn wsX4_leastSetting (wsV RX4 173 RX4 yX4_leastThatServes wsX4_leastThatServes) := goodIn_app (goodIn_of _ (by decide +kernel)) ggX4_leastSetting_X4_leastThatServes
theorem dX4_leastSetting_0 : decode cX4_leastSetting 0 = .ok (.aload_n 0, 1) := by decide +kernel
theorem dX4_leastSetting_1 : decode cX4_leastSetting 1 = .ok (.invokevirtual 173, 3) := by decide +kernel
theorem dX4_leastSetting_4 : decode cX4_leastSetting 4 = .ok (.ireturn, 1) := by decide +kernel
set_option maxRecDepth 20000 in
theorem ggX4_bestWidth_X2_has : GoodIn wsX4_bestWidth wsX2_has := goodIn_r _ [7, 8, 107, 108, 109, 110, 111] (by decide +kernel) (by decide +kernel)
set_option maxRecDepth 20000 in
theorem gX4_bestWidth_X2_has_n83 : GoodIn wsX4_bestWidth (wsX2_has) := ggX4_bestWidth_X2_has
set_option maxRecDepth 20000 in
theorem ggX4_bestWidth_X4_widthOfLeastCost : GoodIn wsX4_bestWidth wsX4_widthOfLeastCost := goodIn_r _ [13, 14, 3, 15, 16, 5, 17, 18, 19, 20, 21, 22, 23, 24, 25, 8, 26, 27, 28, 12, 29, 30, 31, 32, 33, 34, 35, 36, 37, 38, 39, 40, 41, 42, 43, 44, 45, 46, 47, 48, 49, 50, 51, 52, 53, 54, 55, 56, 57, 58, 59, 60, 61, 62, 63, 64, 65, 66, 67, 68, 69, 70, 71, 72, 73, 74, 75, 76, 77, 78, 79, 80, 81, 82, 83, 84, 85, 86, 87, 88, 89, 90, 91, 92, 93, 94, 95, 96, 97, 98, 99, 100, 101, 102, 103, 104, 105, 106, 107, 108, 109, 110, 111, 112, 113, 114, 115, 116, 117, 118, 119, 120, 121, 122, 123, 124, 125, 126] (by decide +kernel) (by decide +kernel)
set_option maxRecDepth 20000 in
theorem gX4_bestWidth_X4_widthOfLeastCost : GoodIn wsX4_bestWidth (wsV RX4 176 RX4 yX4_widthOfLeastCost wsX4_widthOfLeastCost) := goodIn_app (goodIn_of _ (by decide +kernel)) ggX4_bestWidth_X4_widthOfLeastCost
theorem dX4_bestWidth_0 : decode cX4_bestWidth 0 = .ok (.aload_n 0, 1) := by decide +kernel
theorem dX4_bestWidth_1 : decode cX4_bestWidth 1 = .ok (.getfield 12, 3) := by decide +kernel
theorem dX4_bestWidth_4 : decode cX4_bestWidth 4 = .ok (.iload_n 1, 1) := by decide +kernel
theorem dX4_bestWidth_5 : decode cX4_bestWidth 5 = .ok (.invokevirtual 83, 3) := by decide +kernel
theorem dX4_bestWidth_8 : decode cX4_bestWidth 8 = .ok (.ifCond .ne 13, 3) := by decide +kernel
theorem dX4_bestWidth_11 : decode cX4_bestWidth 11 = .ok (.new 51, 3) := by decide +kernel
theorem dX4_bestWidth_14 : decode cX4_bestWidth 14 = .ok (.dup, 1) := by decide +kernel
theorem dX4_bestWidth_15 : decode cX4_bestWidth 15 = .ok (.ldc 87, 2) := by decide +kernel
theorem dX4_bestWidth_17 : decode cX4_bestWidth 17 = .ok (.invokespecial 55, 3) := by decide +kernel
theorem dX4_bestWidth_20 : decode cX4_bestWidth 20 = .ok (.athrow, 1) := by decide +kernel
theorem dX4_bestWidth_21 : decode cX4_bestWidth 21 = .ok (.aload_n 0, 1) := by decide +kernel
theorem dX4_bestWidth_22 : decode cX4_bestWidth 22 = .ok (.iload_n 1, 1) := by decide +kernel
theorem dX4_bestWidth_23 : decode cX4_bestWidth 23 = .ok (.invokevirtual 176, 3) := by decide +kernel
theorem dX4_bestWidth_26 : decode cX4_bestWidth 26 = .ok (.ireturn, 1) := by decide +kernel
set_option maxRecDepth 20000 in
theorem ggX4_fullness_X4_shareOfFilled : GoodIn wsX4_fullness wsX4_shareOfFilled := goodIn_r _ [5, 6, 7, 8, 9, 10, 11, 12, 13, 14, 15, 16, 17, 18, 19, 20, 21, 22, 23, 24, 25, 26, 27] (by decide +kernel) (by decide +kernel)
set_option maxRecDepth 20000 in
theorem gX4_fullness_X4_shareOfFilled : GoodIn wsX4_fullness (wsV RX4 179 RX4 yX4_shareOfFilled wsX4_shareOfFilled) := goodIn_app (goodIn_of _ (by decide +kernel)) ggX4_fullness_X4_shareOfFilled
theorem dX4_fullness_0 : decode cX4_fullness 0 = .ok (.aload_n 0, 1) := by decide +kernel
theorem dX4_fullness_1 : decode cX4_fullness 1 = .ok (.invokevirtual 179, 3) := by decide +kernel
theorem dX4_fullness_4 : decode cX4_fullness 4 = .ok (.dreturn, 1) := by decide +kernel
theorem dX4_isWithin_0 : decode cX4_isWithin 0 = .ok (.iload_n 0, 1) := by decide +kernel
theorem dX4_isWithin_1 : decode cX4_isWithin 1 = .ok (.iload_n 1, 1) := by decide +kernel
theorem dX4_isWithin_2 : decode cX4_isWithin 2 = .ok (.if_icmp .lt 12, 3) := by decide +kernel
theorem dX4_isWithin_5 : decode cX4_isWithin 5 = .ok (.iload_n 0, 1) := by decide +kernel
theorem dX4_isWithin_6 : decode cX4_isWithin 6 = .ok (.iload_n 2, 1) := by decide +kernel
theorem dX4_isWithin_7 : decode cX4_isWithin 7 = .ok (.if_icmp .gt 7, 3) := by decide +kernel
theorem dX4_isWithin_10 : decode cX4_isWithin 10 = .ok (.iconst 1, 1) := by decide +kernel
theorem dX4_isWithin_11 : decode cX4_isWithin 11 = .ok (.goto 4, 3) := by decide +kernel
theorem dX4_isWithin_14 : decode cX4_isWithin 14 = .ok (.iconst 0, 1) := by decide +kernel
theorem dX4_isWithin_15 : decode cX4_isWithin 15 = .ok (.ireturn, 1) := by decide +kernel
set_option maxRecDepth 20000 in
theorem ggX4_isPanelSize_X4_isWithin : GoodIn wsX4_isPanelSize wsX4_isWithin := goodIn_r _ [4] (by decide +kernel) (by decide +kernel)
set_option maxRecDepth 20000 in
theorem gX4_isPanelSize_X4_isWithin : GoodIn wsX4_isPanelSize (va_wsS RX4 47 yX4_isWithin wsX4_isWithin) := goodIn_app (goodIn_of _ (by decide +kernel)) ggX4_isPanelSize_X4_isWithin
theorem dX4_isPanelSize_0 : decode cX4_isPanelSize 0 = .ok (.iload_n 0, 1) := by decide +kernel
theorem dX4_isPanelSize_1 : decode cX4_isPanelSize 1 = .ok (.iconst 1, 1) := by decide +kernel
theorem dX4_isPanelSize_2 : decode cX4_isPanelSize 2 = .ok (.bipush 6, 2) := by decide +kernel
theorem dX4_isPanelSize_4 : decode cX4_isPanelSize 4 = .ok (.invokestatic 47, 3) := by decide +kernel
theorem dX4_isPanelSize_7 : decode cX4_isPanelSize 7 = .ok (.ifCond .eq 17, 3) := by decide +kernel
theorem dX4_isPanelSize_10 : decode cX4_isPanelSize 10 = .ok (.iload_n 1, 1) := by decide +kernel
theorem dX4_isPanelSize_11 : decode cX4_isPanelSize 11 = .ok (.iconst 1, 1) := by decide +kernel
theorem dX4_isPanelSize_12 : decode cX4_isPanelSize 12 = .ok (.bipush 9, 2) := by decide +kernel
theorem dX4_isPanelSize_14 : decode cX4_isPanelSize 14 = .ok (.invokestatic 47, 3) := by decide +kernel
theorem dX4_isPanelSize_17 : decode cX4_isPanelSize 17 = .ok (.ifCond .eq 7, 3) := by decide +kernel
theorem dX4_isPanelSize_20 : decode cX4_isPanelSize 20 = .ok (.iconst 1, 1) := by decide +kernel
theorem dX4_isPanelSize_21 : decode cX4_isPanelSize 21 = .ok (.goto 4, 3) := by decide +kernel
theorem dX4_isPanelSize_24 : decode cX4_isPanelSize 24 = .ok (.iconst 0, 1) := by decide +kernel
theorem dX4_isPanelSize_25 : decode cX4_isPanelSize 25 = .ok (.ireturn, 1) := by decide +kernel
theorem dX4_read_0 : decode cX4_read 0 = .ok (.iload_n 1, 1) := by decide +kernel
theorem dX4_read_1 : decode cX4_read 1 = .ok (.ifCond .lt 15, 3) := by decide +kernel
theorem dX4_read_4 : decode cX4_read 4 = .ok (.iload_n 1, 1) := by decide +kernel
theorem dX4_read_5 : decode cX4_read 5 = .ok (.aload_n 0, 1) := by decide +kernel
theorem dX4_read_6 : decode cX4_read 6 = .ok (.arraylength, 1) := by decide +kernel
theorem dX4_read_7 : decode cX4_read 7 = .ok (.if_icmp .ge 9, 3) := by decide +kernel
theorem dX4_read_10 : decode cX4_read 10 = .ok (.aload_n 0, 1) := by decide +kernel
theorem dX4_read_11 : decode cX4_read 11 = .ok (.iload_n 1, 1) := by decide +kernel
theorem dX4_read_12 : decode cX4_read 12 = .ok (.iaload, 1) := by decide +kernel
theorem dX4_read_13 : decode cX4_read 13 = .ok (.goto 4, 3) := by decide +kernel
theorem dX4_read_16 : decode cX4_read 16 = .ok (.iconst (-1), 1) := by decide +kernel
theorem dX4_read_17 : decode cX4_read 17 = .ok (.ireturn, 1) := by decide +kernel
theorem dX4_write_0 : decode cX4_write 0 = .ok (.iload_n 1, 1) := by decide +kernel
theorem dX4_write_1 : decode cX4_write 1 = .ok (.ifCond .lt 13, 3) := by decide +kernel
theorem dX4_write_4 : decode cX4_write 4 = .ok (.iload_n 1, 1) := by decide +kernel
theorem dX4_write_5 : decode cX4_write 5 = .ok (.aload_n 0, 1) := by decide +kernel
theorem dX4_write_6 : decode cX4_write 6 = .ok (.arraylength, 1) := by decide +kernel
theorem dX4_write_7 : decode cX4_write 7 = .ok (.if_icmp .ge 7, 3) := by decide +kernel
theorem dX4_write_10 : decode cX4_write 10 = .ok (.aload_n 0, 1) := by decide +kernel
theorem dX4_write_11 : decode cX4_write 11 = .ok (.iload_n 1, 1) := by decide +kernel
theorem dX4_write_12 : decode cX4_write 12 = .ok (.iload_n 2, 1) := by decide +kernel
theorem dX4_write_13 : decode cX4_write 13 = .ok (.iastore, 1) := by decide +kernel
theorem dX4_write_14 : decode cX4_write 14 = .ok (.return_, 1) := by decide +kernel
set_option maxRecDepth 20000 in
theorem ggX4_numberOfPanel_X4_read : GoodIn wsX4_numberOfPanel wsX4_read := goodIn_r _ [6] (by decide +kernel) (by decide +kernel)
set_option maxRecDepth 20000 in
theorem gX4_numberOfPanel_X4_read : GoodIn wsX4_numberOfPanel (va_wsS RX4 201 yX4_read wsX4_read) := goodIn_app (goodIn_of _ (by decide +kernel)) ggX4_numberOfPanel_X4_read
theorem dX4_numberOfPanel_0 : decode cX4_numberOfPanel 0 = .ok (.iload_n 2, 1) := by decide +kernel
theorem dX4_numberOfPanel_1 : decode cX4_numberOfPanel 1 = .ok (.tableswitch 95 0 4 #[35, 47, 59, 71, 83], 35) := by decide +kernel
theorem dX4_numberOfPanel_36 : decode cX4_numberOfPanel 36 = .ok (.aload_n 0, 1) := by decide +kernel
theorem dX4_numberOfPanel_37 : decode cX4_numberOfPanel 37 = .ok (.getfield 12, 3) := by decide +kernel
theorem dX4_numberOfPanel_40 : decode cX4_numberOfPanel 40 = .ok (.getfield 205, 3) := by decide +kernel
theorem dX4_numberOfPanel_43 : decode cX4_numberOfPanel 43 = .ok (.iload_n 1, 1) := by decide +kernel
theorem dX4_numberOfPanel_44 : decode cX4_numberOfPanel 44 = .ok (.invokestatic 201, 3) := by decide +kernel
theorem dX4_numberOfPanel_47 : decode cX4_numberOfPanel 47 = .ok (.ireturn, 1) := by decide +kernel
theorem dX4_numberOfPanel_48 : decode cX4_numberOfPanel 48 = .ok (.aload_n 0, 1) := by decide +kernel
theorem dX4_numberOfPanel_49 : decode cX4_numberOfPanel 49 = .ok (.getfield 12, 3) := by decide +kernel
theorem dX4_numberOfPanel_52 : decode cX4_numberOfPanel 52 = .ok (.getfield 95, 3) := by decide +kernel
theorem dX4_numberOfPanel_55 : decode cX4_numberOfPanel 55 = .ok (.iload_n 1, 1) := by decide +kernel
theorem dX4_numberOfPanel_56 : decode cX4_numberOfPanel 56 = .ok (.invokestatic 201, 3) := by decide +kernel
theorem dX4_numberOfPanel_59 : decode cX4_numberOfPanel 59 = .ok (.ireturn, 1) := by decide +kernel
theorem dX4_numberOfPanel_60 : decode cX4_numberOfPanel 60 = .ok (.aload_n 0, 1) := by decide +kernel
theorem dX4_numberOfPanel_61 : decode cX4_numberOfPanel 61 = .ok (.getfield 12, 3) := by decide +kernel
theorem dX4_numberOfPanel_64 : decode cX4_numberOfPanel 64 = .ok (.getfield 103, 3) := by decide +kernel
theorem dX4_numberOfPanel_67 : decode cX4_numberOfPanel 67 = .ok (.iload_n 1, 1) := by decide +kernel
theorem dX4_numberOfPanel_68 : decode cX4_numberOfPanel 68 = .ok (.invokestatic 201, 3) := by decide +kernel
theorem dX4_numberOfPanel_71 : decode cX4_numberOfPanel 71 = .ok (.ireturn, 1) := by decide +kernel
theorem dX4_numberOfPanel_72 : decode cX4_numberOfPanel 72 = .ok (.aload_n 0, 1) := by decide +kernel
theorem dX4_numberOfPanel_73 : decode cX4_numberOfPanel 73 = .ok (.getfield 19, 3) := by decide +kernel
theorem dX4_numberOfPanel_76 : decode cX4_numberOfPanel 76 = .ok (.getfield 208, 3) := by decide +kernel
theorem dX4_numberOfPanel_79 : decode cX4_numberOfPanel 79 = .ok (.iload_n 1, 1) := by decide +kernel
theorem dX4_numberOfPanel_80 : decode cX4_numberOfPanel 80 = .ok (.invokestatic 201, 3) := by decide +kernel
theorem dX4_numberOfPanel_83 : decode cX4_numberOfPanel 83 = .ok (.ireturn, 1) := by decide +kernel
theorem dX4_numberOfPanel_84 : decode cX4_numberOfPanel 84 = .ok (.aload_n 0, 1) := by decide +kernel
theorem dX4_numberOfPanel_85 : decode cX4_numberOfPanel 85 = .ok (.getfield 19, 3) := by decide +kernel
theorem dX4_numberOfPanel_88 : decode cX4_numberOfPanel 88 = .ok (.getfield 211, 3) := by decide +kernel
theorem dX4_numberOfPanel_91 : decode cX4_numberOfPanel 91 = .ok (.iload_n 1, 1) := by decide +kernel
theorem dX4_numberOfPanel_92 : decode cX4_numberOfPanel 92 = .ok (.invokestatic 201, 3) := by decide +kernel
theorem dX4_numberOfPanel_95 : decode cX4_numberOfPanel 95 = .ok (.ireturn, 1) := by decide +kernel
theorem dX4_numberOfPanel_96 : decode cX4_numberOfPanel 96 = .ok (.aload_n 0, 1) := by decide +kernel
theorem dX4_numberOfPanel_97 : decode cX4_numberOfPanel 97 = .ok (.getfield 19, 3) := by decide +kernel
theorem dX4_numberOfPanel_100 : decode cX4_numberOfPanel 100 = .ok (.getfield 214, 3) := by decide +kernel
theorem dX4_numberOfPanel_103 : decode cX4_numberOfPanel 103 = .ok (.iload_n 1, 1) := by decide +kernel
theorem dX4_numberOfPanel_104 : decode cX4_numberOfPanel 104 = .ok (.invokestatic 201, 3) := by decide +kernel
theorem dX4_numberOfPanel_107 : decode cX4_numberOfPanel 107 = .ok (.ireturn, 1) := by decide +kernel
set_option maxRecDepth 20000 in
theorem ggX4_numberInAll_X1_greatestBeats : GoodIn wsX4_numberInAll wsX1_greatestBeats := goodIn_r _ [7, 8, 9, 10, 11, 12, 35, 36, 37, 38, 39, 40, 41, 42, 43, 44, 45, 46, 47, 48, 49] (by decide +kernel) (by decide +kernel)
set_option maxRecDepth 20000 in
theorem gX4_numberInAll_X1_greatestBeats_n223 : GoodIn wsX4_numberInAll (wsX1_greatestBeats) := ggX4_numberInAll_X1_greatestBeats
set_option maxRecDepth 20000 in
theorem ggX4_numberInAll_X1_emptyUnits : GoodIn wsX4_numberInAll wsX1_emptyUnits := goodIn_r _ [15, 16, 17, 35, 36, 37, 38, 39, 40, 41, 42, 43, 44, 45, 46, 47, 48, 49] (by decide +kernel) (by decide +kernel)
set_option maxRecDepth 20000 in
theorem gX4_numberInAll_X1_emptyUnits_n226 : GoodIn wsX4_numberInAll (wsX1_emptyUnits) := ggX4_numberInAll_X1_emptyUnits
set_option maxRecDepth 20000 in
theorem ggX4_numberInAll_X1_greatestDifference : GoodIn wsX4_numberInAll wsX1_greatestDifference := goodIn_r _ [20, 8, 21, 22, 11, 23, 9, 10, 12, 35, 36, 37, 38, 39, 40, 41, 42, 43, 44, 45, 46, 47, 48, 49] (by decide +kernel) (by decide +kernel)
set_option maxRecDepth 20000 in
theorem gX4_numberInAll_X1_greatestDifference_n229 : GoodIn wsX4_numberInAll (wsX1_greatestDifference) := ggX4_numberInAll_X1_greatestDifference
theorem dX4_numberInAll_0 : decode cX4_numberInAll 0 = .ok (.iload_n 1, 1) := by decide +kernel
theorem dX4_numberInAll_1 : decode cX4_numberInAll 1 = .ok (.tableswitch 119 0 7 #[47, 55, 63, 79, 87, 95, 103, 111], 47) := by decide +kernel
theorem dX4_numberInAll_48 : decode cX4_numberInAll 48 = .ok (.aload_n 0, 1) := by decide +kernel
theorem dX4_numberInAll_49 : decode cX4_numberInAll 49 = .ok (.getfield 12, 3) := by decide +kernel
theorem dX4_numberInAll_52 : decode cX4_numberInAll 52 = .ok (.getfield 43, 3) := by decide +kernel
theorem dX4_numberInAll_55 : decode cX4_numberInAll 55 = .ok (.ireturn, 1) := by decide +kernel
theorem dX4_numberInAll_56 : decode cX4_numberInAll 56 = .ok (.aload_n 0, 1) := by decide +kernel
theorem dX4_numberInAll_57 : decode cX4_numberInAll 57 = .ok (.getfield 19, 3) := by decide +kernel
theorem dX4_numberInAll_60 : decode cX4_numberInAll 60 = .ok (.getfield 106, 3) := by decide +kernel
theorem dX4_numberInAll_63 : decode cX4_numberInAll 63 = .ok (.ireturn, 1) := by decide +kernel
theorem dX4_numberInAll_64 : decode cX4_numberInAll 64 = .ok (.aload_n 0, 1) := by decide +kernel
theorem dX4_numberInAll_65 : decode cX4_numberInAll 65 = .ok (.getfield 19, 3) := by decide +kernel
theorem dX4_numberInAll_68 : decode cX4_numberInAll 68 = .ok (.getfield 106, 3) := by decide +kernel
theorem dX4_numberInAll_71 : decode cX4_numberInAll 71 = .ok (.aload_n 0, 1) := by decide +kernel
theorem dX4_numberInAll_72 : decode cX4_numberInAll 72 = .ok (.getfield 19, 3) := by decide +kernel
theorem dX4_numberInAll_75 : decode cX4_numberInAll 75 = .ok (.getfield 217, 3) := by decide +kernel
theorem dX4_numberInAll_78 : decode cX4_numberInAll 78 = .ok (.isub, 1) := by decide +kernel
theorem dX4_numberInAll_79 : decode cX4_numberInAll 79 = .ok (.ireturn, 1) := by decide +kernel
theorem dX4_numberInAll_80 : decode cX4_numberInAll 80 = .ok (.aload_n 0, 1) := by decide +kernel
theorem dX4_numberInAll_81 : decode cX4_numberInAll 81 = .ok (.getfield 19, 3) := by decide +kernel
theorem dX4_numberInAll_84 : decode cX4_numberInAll 84 = .ok (.getfield 220, 3) := by decide +kernel
theorem dX4_numberInAll_87 : decode cX4_numberInAll 87 = .ok (.ireturn, 1) := by decide +kernel
theorem dX4_numberInAll_88 : decode cX4_numberInAll 88 = .ok (.aload_n 0, 1) := by decide +kernel
theorem dX4_numberInAll_89 : decode cX4_numberInAll 89 = .ok (.getfield 19, 3) := by decide +kernel
theorem dX4_numberInAll_92 : decode cX4_numberInAll 92 = .ok (.invokevirtual 223, 3) := by decide +kernel
theorem dX4_numberInAll_95 : decode cX4_numberInAll 95 = .ok (.ireturn, 1) := by decide +kernel
theorem dX4_numberInAll_96 : decode cX4_numberInAll 96 = .ok (.aload_n 0, 1) := by decide +kernel
theorem dX4_numberInAll_97 : decode cX4_numberInAll 97 = .ok (.getfield 19, 3) := by decide +kernel
theorem dX4_numberInAll_100 : decode cX4_numberInAll 100 = .ok (.invokevirtual 226, 3) := by decide +kernel
theorem dX4_numberInAll_103 : decode cX4_numberInAll 103 = .ok (.ireturn, 1) := by decide +kernel
theorem dX4_numberInAll_104 : decode cX4_numberInAll 104 = .ok (.aload_n 0, 1) := by decide +kernel
theorem dX4_numberInAll_105 : decode cX4_numberInAll 105 = .ok (.getfield 19, 3) := by decide +kernel
theorem dX4_numberInAll_108 : decode cX4_numberInAll 108 = .ok (.invokevirtual 229, 3) := by decide +kernel
theorem dX4_numberInAll_111 : decode cX4_numberInAll 111 = .ok (.ireturn, 1) := by decide +kernel
theorem dX4_numberInAll_112 : decode cX4_numberInAll 112 = .ok (.aload_n 0, 1) := by decide +kernel
theorem dX4_numberInAll_113 : decode cX4_numberInAll 113 = .ok (.getfield 12, 3) := by decide +kernel
theorem dX4_numberInAll_116 : decode cX4_numberInAll 116 = .ok (.getfield 111, 3) := by decide +kernel
theorem dX4_numberInAll_119 : decode cX4_numberInAll 119 = .ok (.ireturn, 1) := by decide +kernel
theorem dX4_numberInAll_120 : decode cX4_numberInAll 120 = .ok (.aload_n 0, 1) := by decide +kernel
theorem dX4_numberInAll_121 : decode cX4_numberInAll 121 = .ok (.getfield 32, 3) := by decide +kernel
theorem dX4_numberInAll_124 : decode cX4_numberInAll 124 = .ok (.getfield 137, 3) := by decide +kernel
theorem dX4_numberInAll_127 : decode cX4_numberInAll 127 = .ok (.ireturn, 1) := by decide +kernel
set_option maxRecDepth 20000 in
theorem ggX4_panelAt_X4_read : GoodIn wsX4_panelAt wsX4_read := goodIn_r _ [6] (by decide +kernel) (by decide +kernel)
set_option maxRecDepth 20000 in
theorem gX4_panelAt_X4_read : GoodIn wsX4_panelAt (va_wsS RX4 201 yX4_read wsX4_read) := goodIn_app (goodIn_of _ (by decide +kernel)) ggX4_panelAt_X4_read
theorem dX4_panelAt_0 : decode cX4_panelAt 0 = .ok (.aload_n 0, 1) := by decide +kernel
theorem dX4_panelAt_1 : decode cX4_panelAt 1 = .ok (.getfield 19, 3) := by decide +kernel
theorem dX4_panelAt_4 : decode cX4_panelAt 4 = .ok (.getfield 232, 3) := by decide +kernel
theorem dX4_panelAt_7 : decode cX4_panelAt 7 = .ok (.iload_n 1, 1) := by decide +kernel
theorem dX4_panelAt_8 : decode cX4_panelAt 8 = .ok (.invokestatic 201, 3) := by decide +kernel
theorem dX4_panelAt_11 : decode cX4_panelAt 11 = .ok (.istore 4, 2) := by decide +kernel
theorem dX4_panelAt_13 : decode cX4_panelAt 13 = .ok (.iload 4, 2) := by decide +kernel
theorem dX4_panelAt_15 : decode cX4_panelAt 15 = .ok (.aload_n 0, 1) := by decide +kernel
theorem dX4_panelAt_16 : decode cX4_panelAt 16 = .ok (.getfield 19, 3) := by decide +kernel
theorem dX4_panelAt_19 : decode cX4_panelAt 19 = .ok (.getfield 235, 3) := by decide +kernel
theorem dX4_panelAt_22 : decode cX4_panelAt 22 = .ok (.iload_n 1, 1) := by decide +kernel
theorem dX4_panelAt_23 : decode cX4_panelAt 23 = .ok (.invokestatic 201, 3) := by decide +kernel
theorem dX4_panelAt_26 : decode cX4_panelAt 26 = .ok (.iadd, 1) := by decide +kernel
theorem dX4_panelAt_27 : decode cX4_panelAt 27 = .ok (.istore 5, 2) := by decide +kernel
theorem dX4_panelAt_29 : decode cX4_panelAt 29 = .ok (.iload 4, 2) := by decide +kernel
theorem dX4_panelAt_31 : decode cX4_panelAt 31 = .ok (.istore 6, 2) := by decide +kernel
theorem dX4_panelAt_33 : decode cX4_panelAt 33 = .ok (.iload 6, 2) := by decide +kernel
theorem dX4_panelAt_35 : decode cX4_panelAt 35 = .ok (.iload 5, 2) := by decide +kernel
theorem dX4_panelAt_37 : decode cX4_panelAt 37 = .ok (.if_icmp .ge 80, 3) := by decide +kernel
theorem dX4_panelAt_40 : decode cX4_panelAt 40 = .ok (.aload_n 0, 1) := by decide +kernel
theorem dX4_panelAt_41 : decode cX4_panelAt 41 = .ok (.getfield 19, 3) := by decide +kernel
theorem dX4_panelAt_44 : decode cX4_panelAt 44 = .ok (.getfield 211, 3) := by decide +kernel
theorem dX4_panelAt_47 : decode cX4_panelAt 47 = .ok (.iload 6, 2) := by decide +kernel
theorem dX4_panelAt_49 : decode cX4_panelAt 49 = .ok (.invokestatic 201, 3) := by decide +kernel
theorem dX4_panelAt_52 : decode cX4_panelAt 52 = .ok (.istore 7, 2) := by decide +kernel
theorem dX4_panelAt_54 : decode cX4_panelAt 54 = .ok (.aload_n 0, 1) := by decide +kernel
theorem dX4_panelAt_55 : decode cX4_panelAt 55 = .ok (.getfield 19, 3) := by decide +kernel
theorem dX4_panelAt_58 : decode cX4_panelAt 58 = .ok (.getfield 214, 3) := by decide +kernel
theorem dX4_panelAt_61 : decode cX4_panelAt 61 = .ok (.iload 6, 2) := by decide +kernel
theorem dX4_panelAt_63 : decode cX4_panelAt 63 = .ok (.invokestatic 201, 3) := by decide +kernel
theorem dX4_panelAt_66 : decode cX4_panelAt 66 = .ok (.istore 8, 2) := by decide +kernel
theorem dX4_panelAt_68 : decode cX4_panelAt 68 = .ok (.iload 7, 2) := by decide +kernel
theorem dX4_panelAt_70 : decode cX4_panelAt 70 = .ok (.iconst (-1), 1) := by decide +kernel
theorem dX4_panelAt_71 : decode cX4_panelAt 71 = .ok (.if_icmp .ne 6, 3) := by decide +kernel
theorem dX4_panelAt_74 : decode cX4_panelAt 74 = .ok (.iload 6, 2) := by decide +kernel
theorem dX4_panelAt_76 : decode cX4_panelAt 76 = .ok (.ireturn, 1) := by decide +kernel
theorem dX4_panelAt_77 : decode cX4_panelAt 77 = .ok (.iload 7, 2) := by decide +kernel
theorem dX4_panelAt_79 : decode cX4_panelAt 79 = .ok (.iload_n 2, 1) := by decide +kernel
theorem dX4_panelAt_80 : decode cX4_panelAt 80 = .ok (.if_icmp .ne 31, 3) := by decide +kernel
theorem dX4_panelAt_83 : decode cX4_panelAt 83 = .ok (.iload_n 3, 1) := by decide +kernel
theorem dX4_panelAt_84 : decode cX4_panelAt 84 = .ok (.iload 8, 2) := by decide +kernel
theorem dX4_panelAt_86 : decode cX4_panelAt 86 = .ok (.if_icmp .lt 25, 3) := by decide +kernel
theorem dX4_panelAt_89 : decode cX4_panelAt 89 = .ok (.iload_n 3, 1) := by decide +kernel
theorem dX4_panelAt_90 : decode cX4_panelAt 90 = .ok (.iload 8, 2) := by decide +kernel
theorem dX4_panelAt_92 : decode cX4_panelAt 92 = .ok (.aload_n 0, 1) := by decide +kernel
theorem dX4_panelAt_93 : decode cX4_panelAt 93 = .ok (.getfield 12, 3) := by decide +kernel
theorem dX4_panelAt_96 : decode cX4_panelAt 96 = .ok (.getfield 95, 3) := by decide +kernel
theorem dX4_panelAt_99 : decode cX4_panelAt 99 = .ok (.iload 6, 2) := by decide +kernel
theorem dX4_panelAt_101 : decode cX4_panelAt 101 = .ok (.invokestatic 201, 3) := by decide +kernel
theorem dX4_panelAt_104 : decode cX4_panelAt 104 = .ok (.iadd, 1) := by decide +kernel
theorem dX4_panelAt_105 : decode cX4_panelAt 105 = .ok (.if_icmp .ge 6, 3) := by decide +kernel
theorem dX4_panelAt_108 : decode cX4_panelAt 108 = .ok (.iload 6, 2) := by decide +kernel
theorem dX4_panelAt_110 : decode cX4_panelAt 110 = .ok (.ireturn, 1) := by decide +kernel
theorem dX4_panelAt_111 : decode cX4_panelAt 111 = .ok (.iinc 6 1, 3) := by decide +kernel
theorem dX4_panelAt_114 : decode cX4_panelAt 114 = .ok (.goto (-81), 3) := by decide +kernel
theorem dX4_panelAt_117 : decode cX4_panelAt 117 = .ok (.iconst (-1), 1) := by decide +kernel
theorem dX4_panelAt_118 : decode cX4_panelAt 118 = .ok (.ireturn, 1) := by decide +kernel
theorem dX4_shareOfFilled_0 : decode cX4_shareOfFilled 0 = .ok (.aload_n 0, 1) := by decide +kernel
theorem dX4_shareOfFilled_1 : decode cX4_shareOfFilled 1 = .ok (.getfield 19, 3) := by decide +kernel
theorem dX4_shareOfFilled_4 : decode cX4_shareOfFilled 4 = .ok (.getfield 217, 3) := by decide +kernel
theorem dX4_shareOfFilled_7 : decode cX4_shareOfFilled 7 = .ok (.bipush 24, 2) := by decide +kernel
theorem dX4_shareOfFilled_9 : decode cX4_shareOfFilled 9 = .ok (.imul, 1) := by decide +kernel
theorem dX4_shareOfFilled_10 : decode cX4_shareOfFilled 10 = .ok (.istore_n 1, 1) := by decide +kernel
theorem dX4_shareOfFilled_11 : decode cX4_shareOfFilled 11 = .ok (.iload_n 1, 1) := by decide +kernel
theorem dX4_shareOfFilled_12 : decode cX4_shareOfFilled 12 = .ok (.ifCond .gt 5, 3) := by decide +kernel
theorem dX4_shareOfFilled_15 : decode cX4_shareOfFilled 15 = .ok (.dconst 1, 1) := by decide +kernel
theorem dX4_shareOfFilled_16 : decode cX4_shareOfFilled 16 = .ok (.dreturn, 1) := by decide +kernel
theorem dX4_shareOfFilled_17 : decode cX4_shareOfFilled 17 = .ok (.aload_n 0, 1) := by decide +kernel
theorem dX4_shareOfFilled_18 : decode cX4_shareOfFilled 18 = .ok (.getfield 19, 3) := by decide +kernel
theorem dX4_shareOfFilled_21 : decode cX4_shareOfFilled 21 = .ok (.getfield 238, 3) := by decide +kernel
theorem dX4_shareOfFilled_24 : decode cX4_shareOfFilled 24 = .ok (.i2d, 1) := by decide +kernel
theorem dX4_shareOfFilled_25 : decode cX4_shareOfFilled 25 = .ok (.iload_n 1, 1) := by decide +kernel
theorem dX4_shareOfFilled_26 : decode cX4_shareOfFilled 26 = .ok (.i2d, 1) := by decide +kernel
theorem dX4_shareOfFilled_27 : decode cX4_shareOfFilled 27 = .ok (.ddiv, 1) := by decide +kernel
theorem dX4_shareOfFilled_28 : decode cX4_shareOfFilled 28 = .ok (.dreturn, 1) := by decide +kernel
set_option maxRecDepth 20000 in
theorem ggX4_afterExchange_X2_copyFrom : GoodIn wsX4_afterExchange wsX2_copyFrom := goodIn_r _ [7, 8, 9, 10, 11, 12, 13, 14, 15, 16, 114, 115, 116, 117, 118] (by decide +kernel) (by decide +kernel)
set_option maxRecDepth 20000 in
theorem gX4_afterExchange_X2_copyFrom_n241 : GoodIn wsX4_afterExchange (wsX2_copyFrom) := ggX4_afterExchange_X2_copyFrom
set_option maxRecDepth 20000 in
theorem ggX4_afterExchange_X2_exchangeWithNext : GoodIn wsX4_afterExchange wsX2_exchangeWithNext := goodIn_r _ [19, 8, 13, 14, 20, 21, 5, 22, 23, 24, 25, 26, 27, 114, 115, 116, 117, 118] (by decide +kernel) (by decide +kernel)
set_option maxRecDepth 20000 in
theorem gX4_afterExchange_X2_exchangeWithNext_n244 : GoodIn wsX4_afterExchange (wsX2_exchangeWithNext) := ggX4_afterExchange_X2_exchangeWithNext
set_option maxRecDepth 20000 in
theorem ggX4_afterExchange_X1_pour : GoodIn wsX4_afterExchange wsX1_pour := goodIn_r _ [31, 32, 33, 34, 35, 29, 36, 37, 38, 39, 40, 41, 42, 43, 44, 45, 46, 47, 48, 49, 50, 51, 52, 53, 54, 55, 23, 24, 25, 56, 57, 58, 59, 60, 61, 62, 63, 64, 65, 66, 67, 68, 69, 70, 71, 72, 73, 74, 75, 76, 77, 78, 79, 80, 81, 82, 83, 84, 85, 86, 87, 88, 89, 26, 27, 114, 115, 116, 117, 118, 99, 100, 101, 102, 103, 104, 105, 106, 107, 108, 109, 110, 111, 112, 113] (by decide +kernel) (by decide +kernel)
set_option maxRecDepth 20000 in
theorem gX4_afterExchange_X1_pour_n80 : GoodIn wsX4_afterExchange (wsX1_pour) := ggX4_afterExchange_X1_pour
set_option maxRecDepth 20000 in
theorem ggX4_afterExchange_X1_emptyUnits : GoodIn wsX4_afterExchange wsX1_emptyUnits := goodIn_r _ [92, 43, 44, 99, 100, 101, 102, 103, 104, 105, 106, 107, 108, 109, 110, 111, 112, 113] (by decide +kernel) (by decide +kernel)
set_option maxRecDepth 20000 in
theorem gX4_afterExchange_X1_emptyUnits_n226 : GoodIn wsX4_afterExchange (wsX1_emptyUnits) := ggX4_afterExchange_X1_emptyUnits
theorem dX4_afterExchange_0 : decode cX4_afterExchange 0 = .ok (.aload_n 0, 1) := by decide +kernel
theorem dX4_afterExchange_1 : decode cX4_afterExchange 1 = .ok (.getfield 23, 3) := by decide +kernel
theorem dX4_afterExchange_4 : decode cX4_afterExchange 4 = .ok (.aload_n 0, 1) := by decide +kernel
theorem dX4_afterExchange_5 : decode cX4_afterExchange 5 = .ok (.getfield 12, 3) := by decide +kernel
theorem dX4_afterExchange_8 : decode cX4_afterExchange 8 = .ok (.invokevirtual 241, 3) := by decide +kernel
theorem dX4_afterExchange_11 : decode cX4_afterExchange 11 = .ok (.aload_n 0, 1) := by decide +kernel
theorem dX4_afterExchange_12 : decode cX4_afterExchange 12 = .ok (.getfield 23, 3) := by decide +kernel
theorem dX4_afterExchange_15 : decode cX4_afterExchange 15 = .ok (.iload_n 1, 1) := by decide +kernel
theorem dX4_afterExchange_16 : decode cX4_afterExchange 16 = .ok (.invokevirtual 244, 3) := by decide +kernel
theorem dX4_afterExchange_19 : decode cX4_afterExchange 19 = .ok (.aload_n 0, 1) := by decide +kernel
theorem dX4_afterExchange_20 : decode cX4_afterExchange 20 = .ok (.getfield 26, 3) := by decide +kernel
theorem dX4_afterExchange_23 : decode cX4_afterExchange 23 = .ok (.aload_n 0, 1) := by decide +kernel
theorem dX4_afterExchange_24 : decode cX4_afterExchange 24 = .ok (.getfield 23, 3) := by decide +kernel
theorem dX4_afterExchange_27 : decode cX4_afterExchange 27 = .ok (.invokevirtual 80, 3) := by decide +kernel
theorem dX4_afterExchange_30 : decode cX4_afterExchange 30 = .ok (.iload_n 2, 1) := by decide +kernel
theorem dX4_afterExchange_31 : decode cX4_afterExchange 31 = .ok (.ifCond .ne 13, 3) := by decide +kernel
theorem dX4_afterExchange_34 : decode cX4_afterExchange 34 = .ok (.aload_n 0, 1) := by decide +kernel
theorem dX4_afterExchange_35 : decode cX4_afterExchange 35 = .ok (.getfield 26, 3) := by decide +kernel
theorem dX4_afterExchange_38 : decode cX4_afterExchange 38 = .ok (.getfield 106, 3) := by decide +kernel
theorem dX4_afterExchange_41 : decode cX4_afterExchange 41 = .ok (.goto 10, 3) := by decide +kernel
theorem dX4_afterExchange_44 : decode cX4_afterExchange 44 = .ok (.aload_n 0, 1) := by decide +kernel
theorem dX4_afterExchange_45 : decode cX4_afterExchange 45 = .ok (.getfield 26, 3) := by decide +kernel
theorem dX4_afterExchange_48 : decode cX4_afterExchange 48 = .ok (.invokevirtual 226, 3) := by decide +kernel
theorem dX4_afterExchange_51 : decode cX4_afterExchange 51 = .ok (.ireturn, 1) := by decide +kernel
set_option maxRecDepth 20000 in
theorem ggX4_leastThatServes_X2_copyFrom : GoodIn wsX4_leastThatServes wsX2_copyFrom := goodIn_r _ [8, 9, 10, 11, 12, 13, 14, 15, 16, 17, 91, 92, 93, 94, 95] (by decide +kernel) (by decide +kernel)
set_option maxRecDepth 20000 in
theorem gX4_leastThatServes_X2_copyFrom_n241 : GoodIn wsX4_leastThatServes (wsX2_copyFrom) := ggX4_leastThatServes_X2_copyFrom
set_option maxRecDepth 20000 in
theorem ggX4_leastThatServes_X1_pour : GoodIn wsX4_leastThatServes wsX1_pour := goodIn_r _ [21, 22, 23, 24, 25, 19, 26, 27, 28, 29, 30, 31, 32, 33, 34, 35, 36, 37, 38, 39, 40, 41, 42, 43, 44, 45, 46, 47, 48, 49, 50, 51, 52, 53, 54, 55, 56, 57, 58, 59, 60, 61, 62, 63, 64, 65, 66, 67, 68, 69, 70, 71, 72, 73, 74, 75, 76, 77, 78, 79, 80, 81, 82, 83, 84, 91, 92, 93, 94, 95, 96, 97, 98, 99, 100, 101, 102, 103, 104, 105, 106, 107, 108, 109, 110] (by decide +kernel) (by decide +kernel)
set_option maxRecDepth 20000 in
theorem gX4_leastThatServes_X1_pour_n80 : GoodIn wsX4_leastThatServes (wsX1_pour) := ggX4_leastThatServes_X1_pour
theorem dX4_leastThatServes_0 : decode cX4_leastThatServes 0 = .ok (.aload_n 0, 1) := by decide +kernel
theorem dX4_leastThatServes_1 : decode cX4_leastThatServes 1 = .ok (.getfield 23, 3) := by decide +kernel
theorem dX4_leastThatServes_4 : decode cX4_leastThatServes 4 = .ok (.aload_n 0, 1) := by decide +kernel
theorem dX4_leastThatServes_5 : decode cX4_leastThatServes 5 = .ok (.getfield 12, 3) := by decide +kernel
theorem dX4_leastThatServes_8 : decode cX4_leastThatServes 8 = .ok (.invokevirtual 241, 3) := by decide +kernel
theorem dX4_leastThatServes_11 : decode cX4_leastThatServes 11 = .ok (.bipush 9, 2) := by decide +kernel
theorem dX4_leastThatServes_13 : decode cX4_leastThatServes 13 = .ok (.istore_n 1, 1) := by decide +kernel
theorem dX4_leastThatServes_14 : decode cX4_leastThatServes 14 = .ok (.iload_n 1, 1) := by decide +kernel
theorem dX4_leastThatServes_15 : decode cX4_leastThatServes 15 = .ok (.aload_n 0, 1) := by decide +kernel
theorem dX4_leastThatServes_16 : decode cX4_leastThatServes 16 = .ok (.getfield 12, 3) := by decide +kernel
theorem dX4_leastThatServes_19 : decode cX4_leastThatServes 19 = .ok (.getfield 111, 3) := by decide +kernel
theorem dX4_leastThatServes_22 : decode cX4_leastThatServes 22 = .ok (.if_icmp .ge 64, 3) := by decide +kernel
theorem dX4_leastThatServes_25 : decode cX4_leastThatServes 25 = .ok (.aload_n 0, 1) := by decide +kernel
theorem dX4_leastThatServes_26 : decode cX4_leastThatServes 26 = .ok (.getfield 23, 3) := by decide +kernel
theorem dX4_leastThatServes_29 : decode cX4_leastThatServes 29 = .ok (.iload_n 1, 1) := by decide +kernel
theorem dX4_leastThatServes_30 : decode cX4_leastThatServes 30 = .ok (.putfield 111, 3) := by decide +kernel
theorem dX4_leastThatServes_33 : decode cX4_leastThatServes 33 = .ok (.aload_n 0, 1) := by decide +kernel
theorem dX4_leastThatServes_34 : decode cX4_leastThatServes 34 = .ok (.getfield 26, 3) := by decide +kernel
theorem dX4_leastThatServes_37 : decode cX4_leastThatServes 37 = .ok (.aload_n 0, 1) := by decide +kernel
theorem dX4_leastThatServes_38 : decode cX4_leastThatServes 38 = .ok (.getfield 23, 3) := by decide +kernel
theorem dX4_leastThatServes_41 : decode cX4_leastThatServes 41 = .ok (.invokevirtual 80, 3) := by decide +kernel
theorem dX4_leastThatServes_44 : decode cX4_leastThatServes 44 = .ok (.aload_n 0, 1) := by decide +kernel
theorem dX4_leastThatServes_45 : decode cX4_leastThatServes 45 = .ok (.getfield 26, 3) := by decide +kernel
theorem dX4_leastThatServes_48 : decode cX4_leastThatServes 48 = .ok (.getfield 106, 3) := by decide +kernel
theorem dX4_leastThatServes_51 : decode cX4_leastThatServes 51 = .ok (.aload_n 0, 1) := by decide +kernel
theorem dX4_leastThatServes_52 : decode cX4_leastThatServes 52 = .ok (.getfield 19, 3) := by decide +kernel
theorem dX4_leastThatServes_55 : decode cX4_leastThatServes 55 = .ok (.getfield 106, 3) := by decide +kernel
theorem dX4_leastThatServes_58 : decode cX4_leastThatServes 58 = .ok (.if_icmp .gt 22, 3) := by decide +kernel
theorem dX4_leastThatServes_61 : decode cX4_leastThatServes 61 = .ok (.aload_n 0, 1) := by decide +kernel
theorem dX4_leastThatServes_62 : decode cX4_leastThatServes 62 = .ok (.getfield 26, 3) := by decide +kernel
theorem dX4_leastThatServes_65 : decode cX4_leastThatServes 65 = .ok (.getfield 220, 3) := by decide +kernel
theorem dX4_leastThatServes_68 : decode cX4_leastThatServes 68 = .ok (.aload_n 0, 1) := by decide +kernel
theorem dX4_leastThatServes_69 : decode cX4_leastThatServes 69 = .ok (.getfield 19, 3) := by decide +kernel
theorem dX4_leastThatServes_72 : decode cX4_leastThatServes 72 = .ok (.getfield 220, 3) := by decide +kernel
theorem dX4_leastThatServes_75 : decode cX4_leastThatServes 75 = .ok (.if_icmp .gt 5, 3) := by decide +kernel
theorem dX4_leastThatServes_78 : decode cX4_leastThatServes 78 = .ok (.iload_n 1, 1) := by decide +kernel
theorem dX4_leastThatServes_79 : decode cX4_leastThatServes 79 = .ok (.ireturn, 1) := by decide +kernel
theorem dX4_leastThatServes_80 : decode cX4_leastThatServes 80 = .ok (.iinc 1 1, 3) := by decide +kernel
theorem dX4_leastThatServes_83 : decode cX4_leastThatServes 83 = .ok (.goto (-69), 3) := by decide +kernel
theorem dX4_leastThatServes_86 : decode cX4_leastThatServes 86 = .ok (.aload_n 0, 1) := by decide +kernel
theorem dX4_leastThatServes_87 : decode cX4_leastThatServes 87 = .ok (.getfield 12, 3) := by decide +kernel
theorem dX4_leastThatServes_90 : decode cX4_leastThatServes 90 = .ok (.getfield 111, 3) := by decide +kernel
theorem dX4_leastThatServes_93 : decode cX4_leastThatServes 93 = .ok (.ireturn, 1) := by decide +kernel
set_option maxRecDepth 20000 in
theorem ggX4_widthOfLeastCost_X2_copyFrom : GoodIn wsX4_widthOfLeastCost wsX2_copyFrom := goodIn_r _ [7, 8, 9, 10, 11, 12, 13, 14, 15, 16, 98, 99, 100, 101, 102] (by decide +kernel) (by decide +kernel)
set_option maxRecDepth 20000 in
theorem gX4_widthOfLeastCost_X2_copyFrom_n241 : GoodIn wsX4_widthOfLeastCost (wsX2_copyFrom) := ggX4_widthOfLeastCost_X2_copyFrom
set_option maxRecDepth 20000 in
theorem ggX4_widthOfLeastCost_X4_write : GoodIn wsX4_widthOfLeastCost wsX4_write := goodIn_r _ [20] (by decide +kernel) (by decide +kernel)
set_option maxRecDepth 20000 in
theorem gX4_widthOfLeastCost_X4_write : GoodIn wsX4_widthOfLeastCost (va_wsS RX4 99 yX4_write wsX4_write) := goodIn_app (goodIn_of _ (by decide +kernel)) ggX4_widthOfLeastCost_X4_write
set_option maxRecDepth 20000 in
theorem ggX4_widthOfLeastCost_X1_pour : GoodIn wsX4_widthOfLeastCost wsX1_pour := goodIn_r _ [24, 25, 26, 27, 28, 22, 29, 30, 31, 32, 33, 34, 35, 36, 37, 38, 39, 40, 41, 42, 43, 44, 45, 46, 47, 48, 49, 19, 50, 51, 52, 53, 54, 55, 56, 57, 58, 59, 60, 61, 62, 63, 64, 65, 66, 67, 68, 69, 70, 71, 72, 73, 74, 75, 76, 77, 78, 79, 80, 81, 82, 83, 84, 18, 20, 98, 99, 100, 101, 102, 103, 104, 105, 106, 107, 108, 109, 110, 111, 112, 113, 114, 115, 116, 117] (by decide +kernel) (by decide +kernel)
set_option maxRecDepth 20000 in
theorem gX4_widthOfLeastCost_X1_pour_n80 : GoodIn wsX4_widthOfLeastCost (wsX1_pour) := ggX4_widthOfLeastCost_X1_pour
set_option maxRecDepth 20000 in
theorem ggX4_widthOfLeastCost_X1_cost : GoodIn wsX4_widthOfLeastCost wsX1_cost := goodIn_r _ [87, 25, 35, 88, 89, 90, 22, 91, 36, 37, 103, 104, 105, 106, 107, 108, 109, 110, 111, 112, 113, 114, 115, 116, 117] (by decide +kernel) (by decide +kernel)
set_option maxRecDepth 20000 in
theorem gX4_widthOfLeastCost_X1_cost_n247 : GoodIn wsX4_widthOfLeastCost (wsX1_cost) := ggX4_widthOfLeastCost_X1_cost
theorem dX4_widthOfLeastCost_0 : decode cX4_widthOfLeastCost 0 = .ok (.aload_n 0, 1) := by decide +kernel
theorem dX4_widthOfLeastCost_1 : decode cX4_widthOfLeastCost 1 = .ok (.getfield 23, 3) := by decide +kernel
theorem dX4_widthOfLeastCost_4 : decode cX4_widthOfLeastCost 4 = .ok (.aload_n 0, 1) := by decide +kernel
theorem dX4_widthOfLeastCost_5 : decode cX4_widthOfLeastCost 5 = .ok (.getfield 12, 3) := by decide +kernel
theorem dX4_widthOfLeastCost_8 : decode cX4_widthOfLeastCost 8 = .ok (.invokevirtual 241, 3) := by decide +kernel
theorem dX4_widthOfLeastCost_11 : decode cX4_widthOfLeastCost 11 = .ok (.iconst (-1), 1) := by decide +kernel
theorem dX4_widthOfLeastCost_12 : decode cX4_widthOfLeastCost 12 = .ok (.istore_n 2, 1) := by decide +kernel
theorem dX4_widthOfLeastCost_13 : decode cX4_widthOfLeastCost 13 = .ok (.iconst 0, 1) := by decide +kernel
theorem dX4_widthOfLeastCost_14 : decode cX4_widthOfLeastCost 14 = .ok (.istore_n 3, 1) := by decide +kernel
theorem dX4_widthOfLeastCost_15 : decode cX4_widthOfLeastCost 15 = .ok (.iconst 1, 1) := by decide +kernel
theorem dX4_widthOfLeastCost_16 : decode cX4_widthOfLeastCost 16 = .ok (.istore 4, 2) := by decide +kernel
theorem dX4_widthOfLeastCost_18 : decode cX4_widthOfLeastCost 18 = .ok (.iload 4, 2) := by decide +kernel
theorem dX4_widthOfLeastCost_20 : decode cX4_widthOfLeastCost 20 = .ok (.bipush 6, 2) := by decide +kernel
theorem dX4_widthOfLeastCost_22 : decode cX4_widthOfLeastCost 22 = .ok (.if_icmp .gt 59, 3) := by decide +kernel
theorem dX4_widthOfLeastCost_25 : decode cX4_widthOfLeastCost 25 = .ok (.aload_n 0, 1) := by decide +kernel
theorem dX4_widthOfLeastCost_26 : decode cX4_widthOfLeastCost 26 = .ok (.getfield 23, 3) := by decide +kernel
theorem dX4_widthOfLeastCost_29 : decode cX4_widthOfLeastCost 29 = .ok (.getfield 95, 3) := by decide +kernel
theorem dX4_widthOfLeastCost_32 : decode cX4_widthOfLeastCost 32 = .ok (.iload_n 1, 1) := by decide +kernel
theorem dX4_widthOfLeastCost_33 : decode cX4_widthOfLeastCost 33 = .ok (.iload 4, 2) := by decide +kernel
theorem dX4_widthOfLeastCost_35 : decode cX4_widthOfLeastCost 35 = .ok (.invokestatic 99, 3) := by decide +kernel
theorem dX4_widthOfLeastCost_38 : decode cX4_widthOfLeastCost 38 = .ok (.aload_n 0, 1) := by decide +kernel
theorem dX4_widthOfLeastCost_39 : decode cX4_widthOfLeastCost 39 = .ok (.getfield 26, 3) := by decide +kernel
theorem dX4_widthOfLeastCost_42 : decode cX4_widthOfLeastCost 42 = .ok (.aload_n 0, 1) := by decide +kernel
theorem dX4_widthOfLeastCost_43 : decode cX4_widthOfLeastCost 43 = .ok (.getfield 23, 3) := by decide +kernel
theorem dX4_widthOfLeastCost_46 : decode cX4_widthOfLeastCost 46 = .ok (.invokevirtual 80, 3) := by decide +kernel
theorem dX4_widthOfLeastCost_49 : decode cX4_widthOfLeastCost 49 = .ok (.aload_n 0, 1) := by decide +kernel
theorem dX4_widthOfLeastCost_50 : decode cX4_widthOfLeastCost 50 = .ok (.getfield 26, 3) := by decide +kernel
theorem dX4_widthOfLeastCost_53 : decode cX4_widthOfLeastCost 53 = .ok (.invokevirtual 247, 3) := by decide +kernel
theorem dX4_widthOfLeastCost_56 : decode cX4_widthOfLeastCost 56 = .ok (.istore 5, 2) := by decide +kernel
theorem dX4_widthOfLeastCost_58 : decode cX4_widthOfLeastCost 58 = .ok (.iload_n 2, 1) := by decide +kernel
theorem dX4_widthOfLeastCost_59 : decode cX4_widthOfLeastCost 59 = .ok (.iconst (-1), 1) := by decide +kernel
theorem dX4_widthOfLeastCost_60 : decode cX4_widthOfLeastCost 60 = .ok (.if_icmp .eq 9, 3) := by decide +kernel
theorem dX4_widthOfLeastCost_63 : decode cX4_widthOfLeastCost 63 = .ok (.iload 5, 2) := by decide +kernel
theorem dX4_widthOfLeastCost_65 : decode cX4_widthOfLeastCost 65 = .ok (.iload_n 3, 1) := by decide +kernel
theorem dX4_widthOfLeastCost_66 : decode cX4_widthOfLeastCost 66 = .ok (.if_icmp .ge 9, 3) := by decide +kernel
theorem dX4_widthOfLeastCost_69 : decode cX4_widthOfLeastCost 69 = .ok (.iload 4, 2) := by decide +kernel
theorem dX4_widthOfLeastCost_71 : decode cX4_widthOfLeastCost 71 = .ok (.istore_n 2, 1) := by decide +kernel
theorem dX4_widthOfLeastCost_72 : decode cX4_widthOfLeastCost 72 = .ok (.iload 5, 2) := by decide +kernel
theorem dX4_widthOfLeastCost_74 : decode cX4_widthOfLeastCost 74 = .ok (.istore_n 3, 1) := by decide +kernel
theorem dX4_widthOfLeastCost_75 : decode cX4_widthOfLeastCost 75 = .ok (.iinc 4 1, 3) := by decide +kernel
theorem dX4_widthOfLeastCost_78 : decode cX4_widthOfLeastCost 78 = .ok (.goto (-60), 3) := by decide +kernel
theorem dX4_widthOfLeastCost_81 : decode cX4_widthOfLeastCost 81 = .ok (.iload_n 2, 1) := by decide +kernel
theorem dX4_widthOfLeastCost_82 : decode cX4_widthOfLeastCost 82 = .ok (.ireturn, 1) := by decide +kernel
end
section
theorem dJ9_abs_0f7a4_0 : decode cJ9_abs_0f7a4 0 = .ok (.iload_n 0, 1) := by decide +kernel
theorem dJ9_abs_0f7a4_1 : decode cJ9_abs_0f7a4 1 = .ok (.ifCond .ge 8, 3) := by decide +kernel
theorem dJ9_abs_0f7a4_4 : decode cJ9_abs_0f7a4 4 = .ok (.iload_n 0, 1) := by decide +kernel
theorem dJ9_abs_0f7a4_5 : decode cJ9_abs_0f7a4 5 = .ok (.ineg, 1) := by decide +kernel
theorem dJ9_abs_0f7a4_6 : decode cJ9_abs_0f7a4 6 = .ok (.goto 4, 3) := by decide +kernel
theorem dJ9_abs_0f7a4_9 : decode cJ9_abs_0f7a4 9 = .ok (.iload_n 0, 1) := by decide +kernel
theorem dJ9_abs_0f7a4_10 : decode cJ9_abs_0f7a4 10 = .ok (.ireturn, 1) := by decide +kernel
theorem dJ9_max_7cf53_0 : decode cJ9_max_7cf53 0 = .ok (.iload_n 0, 1) := by decide +kernel
theorem dJ9_max_7cf53_1 : decode cJ9_max_7cf53 1 = .ok (.iload_n 1, 1) := by decide +kernel
theorem dJ9_max_7cf53_2 : decode cJ9_max_7cf53 2 = .ok (.if_icmp .lt 7, 3) := by decide +kernel
theorem dJ9_max_7cf53_5 : decode cJ9_max_7cf53 5 = .ok (.iload_n 0, 1) := by decide +kernel
theorem dJ9_max_7cf53_6 : decode cJ9_max_7cf53 6 = .ok (.goto 4, 3) := by decide +kernel
theorem dJ9_max_7cf53_9 : decode cJ9_max_7cf53 9 = .ok (.iload_n 1, 1) := by decide +kernel
theorem dJ9_max_7cf53_10 : decode cJ9_max_7cf53 10 = .ok (.ireturn, 1) := by decide +kernel
theorem dL_cell_0 : decode cL_cell 0 = .ok (.iload_n 1, 1) := by decide +kernel
theorem dL_cell_1 : decode cL_cell 1 = .ok (.aload_n 0, 1) := by decide +kernel
theorem dL_cell_2 : decode cL_cell 2 = .ok (.arraylength, 1) := by decide +kernel
theorem dL_cell_3 : decode cL_cell 3 = .ok (.if_icmp .ge 9, 3) := by decide +kernel
theorem dL_cell_6 : decode cL_cell 6 = .ok (.aload_n 0, 1) := by decide +kernel
theorem dL_cell_7 : decode cL_cell 7 = .ok (.iload_n 1, 1) := by decide +kernel
theorem dL_cell_8 : decode cL_cell 8 = .ok (.iaload, 1) := by decide +kernel
theorem dL_cell_9 : decode cL_cell 9 = .ok (.goto 10, 3) := by decide +kernel
theorem dL_cell_12 : decode cL_cell 12 = .ok (.ldc 7, 2) := by decide +kernel
theorem dL_cell_14 : decode cL_cell 14 = .ok (.iload_n 1, 1) := by decide +kernel
theorem dL_cell_15 : decode cL_cell 15 = .ok (.imul, 1) := by decide +kernel
theorem dL_cell_16 : decode cL_cell 16 = .ok (.ldc 8, 2) := by decide +kernel
theorem dL_cell_18 : decode cL_cell 18 = .ok (.iadd, 1) := by decide +kernel
theorem dL_cell_19 : decode cL_cell 19 = .ok (.ireturn, 1) := by decide +kernel
theorem dL_low_0 : decode cL_low 0 = .ok (.iload_n 0, 1) := by decide +kernel
theorem dL_low_1 : decode cL_low 1 = .ok (.ldc 9, 2) := by decide +kernel
theorem dL_low_3 : decode cL_low 3 = .ok (.iand, 1) := by decide +kernel
theorem dL_low_4 : decode cL_low 4 = .ok (.iload_n 1, 1) := by decide +kernel
theorem dL_low_5 : decode cL_low 5 = .ok (.irem, 1) := by decide +kernel
theorem dL_low_6 : decode cL_low 6 = .ok (.ireturn, 1) := by decide +kernel
theorem dL_pour_0 : decode cL_pour 0 = .ok (.iconst 0, 1) := by decide +kernel
theorem dL_pour_1 : decode cL_pour 1 = .ok (.istore 7, 2) := by decide +kernel
theorem dL_pour_3 : decode cL_pour 3 = .ok (.iconst 0, 1) := by decide +kernel
theorem dL_pour_4 : decode cL_pour 4 = .ok (.istore 8, 2) := by decide +kernel
theorem dL_pour_6 : decode cL_pour 6 = .ok (.iconst 0, 1) := by decide +kernel
theorem dL_pour_7 : decode cL_pour 7 = .ok (.istore 9, 2) := by decide +kernel
theorem dL_pour_9 : decode cL_pour 9 = .ok (.iconst 0, 1) := by decide +kernel
theorem dL_pour_10 : decode cL_pour 10 = .ok (.istore 10, 2) := by decide +kernel
theorem dL_pour_12 : decode cL_pour 12 = .ok (.iconst 1, 1) := by decide +kernel
theorem dL_pour_13 : decode cL_pour 13 = .ok (.istore 11, 2) := by decide +kernel
theorem dL_pour_15 : decode cL_pour 15 = .ok (.iconst 0, 1) := by decide +kernel
theorem dL_pour_16 : decode cL_pour 16 = .ok (.istore 12, 2) := by decide +kernel
theorem dL_pour_18 : decode cL_pour 18 = .ok (.iload 12, 2) := by decide +kernel
theorem dL_pour_20 : decode cL_pour 20 = .ok (.aload 6, 2) := by decide +kernel
theorem dL_pour_22 : decode cL_pour 22 = .ok (.iconst 1, 1) := by decide +kernel
theorem dL_pour_23 : decode cL_pour 23 = .ok (.iaload, 1) := by decide +kernel
theorem dL_pour_24 : decode cL_pour 24 = .ok (.if_icmp .ge 407, 3) := by decide +kernel
theorem dL_pour_27 : decode cL_pour 27 = .ok (.aload 4, 2) := by decide +kernel
theorem dL_pour_29 : decode cL_pour 29 = .ok (.iload 12, 2) := by decide +kernel
theorem dL_pour_31 : decode cL_pour 31 = .ok (.iconst (-1), 1) := by decide +kernel
theorem dL_pour_32 : decode cL_pour 32 = .ok (.iastore, 1) := by decide +kernel
theorem dL_pour_33 : decode cL_pour 33 = .ok (.aload 5, 2) := by decide +kernel
theorem dL_pour_35 : decode cL_pour 35 = .ok (.iload 12, 2) := by decide +kernel
theorem dL_pour_37 : decode cL_pour 37 = .ok (.iconst (-1), 1) := by decide +kernel
theorem dL_pour_38 : decode cL_pour 38 = .ok (.iastore, 1) := by decide +kernel
theorem dL_pour_39 : decode cL_pour 39 = .ok (.aload_n 0, 1) := by decide +kernel
theorem dL_pour_40 : decode cL_pour 40 = .ok (.iload 12, 2) := by decide +kernel
theorem dL_pour_42 : decode cL_pour 42 = .ok (.iaload, 1) := by decide +kernel
theorem dL_pour_43 : decode cL_pour 43 = .ok (.iconst 1, 1) := by decide +kernel
theorem dL_pour_44 : decode cL_pour 44 = .ok (.if_icmp .le 108, 3) := by decide +kernel
theorem dL_pour_47 : decode cL_pour 47 = .ok (.iload 7, 2) := by decide +kernel
theorem dL_pour_49 : decode cL_pour 49 = .ok (.iload 10, 2) := by decide +kernel
theorem dL_pour_51 : decode cL_pour 51 = .ok (.ifCond .eq 7, 3) := by decide +kernel
theorem dL_pour_54 : decode cL_pour 54 = .ok (.iconst 1, 1) := by decide +kernel
theorem dL_pour_55 : decode cL_pour 55 = .ok (.goto 4, 3) := by decide +kernel
theorem dL_pour_58 : decode cL_pour 58 = .ok (.iconst 0, 1) := by decide +kernel
theorem dL_pour_59 : decode cL_pour 59 = .ok (.iadd, 1) := by decide +kernel
theorem dL_pour_60 : decode cL_pour 60 = .ok (.istore 7, 2) := by decide +kernel
theorem dL_pour_62 : decode cL_pour 62 = .ok (.iload 7, 2) := by decide +kernel
theorem dL_pour_64 : decode cL_pour 64 = .ok (.aload_n 0, 1) := by decide +kernel
theorem dL_pour_65 : decode cL_pour 65 = .ok (.iload 12, 2) := by decide +kernel
theorem dL_pour_67 : decode cL_pour 67 = .ok (.iaload, 1) := by decide +kernel
theorem dL_pour_68 : decode cL_pour 68 = .ok (.iconst 3, 1) := by decide +kernel
theorem dL_pour_69 : decode cL_pour 69 = .ok (.if_icmp .ne 15, 3) := by decide +kernel
theorem dL_pour_72 : decode cL_pour 72 = .ok (.iload 7, 2) := by decide +kernel
theorem dL_pour_74 : decode cL_pour 74 = .ok (.iconst 2, 1) := by decide +kernel
theorem dL_pour_75 : decode cL_pour 75 = .ok (.irem, 1) := by decide +kernel
theorem dL_pour_76 : decode cL_pour 76 = .ok (.iconst 1, 1) := by decide +kernel
theorem dL_pour_77 : decode cL_pour 77 = .ok (.if_icmp .ne 7, 3) := by decide +kernel
theorem dL_pour_80 : decode cL_pour 80 = .ok (.iconst 1, 1) := by decide +kernel
theorem dL_pour_81 : decode cL_pour 81 = .ok (.goto 4, 3) := by decide +kernel
theorem dL_pour_84 : decode cL_pour 84 = .ok (.iconst 0, 1) := by decide +kernel
theorem dL_pour_85 : decode cL_pour 85 = .ok (.iadd, 1) := by decide +kernel
theorem dL_pour_86 : decode cL_pour 86 = .ok (.istore 7, 2) := by decide +kernel
theorem dL_pour_88 : decode cL_pour 88 = .ok (.iload 11, 2) := by decide +kernel
theorem dL_pour_90 : decode cL_pour 90 = .ok (.ifCond .eq 21, 3) := by decide +kernel
theorem dL_pour_93 : decode cL_pour 93 = .ok (.iload 7, 2) := by decide +kernel
theorem dL_pour_95 : decode cL_pour 95 = .ok (.aload_n 0, 1) := by decide +kernel
theorem dL_pour_96 : decode cL_pour 96 = .ok (.iload 12, 2) := by decide +kernel
theorem dL_pour_98 : decode cL_pour 98 = .ok (.iaload, 1) := by decide +kernel
theorem dL_pour_99 : decode cL_pour 99 = .ok (.iadd, 1) := by decide +kernel
theorem dL_pour_100 : decode cL_pour 100 = .ok (.iconst 2, 1) := by decide +kernel
theorem dL_pour_101 : decode cL_pour 101 = .ok (.isub, 1) := by decide +kernel
theorem dL_pour_102 : decode cL_pour 102 = .ok (.bipush 16, 2) := by decide +kernel
theorem dL_pour_104 : decode cL_pour 104 = .ok (.if_icmp .ge 7, 3) := by decide +kernel
theorem dL_pour_107 : decode cL_pour 107 = .ok (.iconst 1, 1) := by decide +kernel
theorem dL_pour_108 : decode cL_pour 108 = .ok (.goto 4, 3) := by decide +kernel
theorem dL_pour_111 : decode cL_pour 111 = .ok (.iconst 0, 1) := by decide +kernel
theorem dL_pour_112 : decode cL_pour 112 = .ok (.istore 11, 2) := by decide +kernel
theorem dL_pour_114 : decode cL_pour 114 = .ok (.aload_n 3, 1) := by decide +kernel
theorem dL_pour_115 : decode cL_pour 115 = .ok (.iload 12, 2) := by decide +kernel
theorem dL_pour_117 : decode cL_pour 117 = .ok (.iload 11, 2) := by decide +kernel
theorem dL_pour_119 : decode cL_pour 119 = .ok (.ifCond .eq 8, 3) := by decide +kernel
theorem dL_pour_122 : decode cL_pour 122 = .ok (.iload 7, 2) := by decide +kernel
theorem dL_pour_124 : decode cL_pour 124 = .ok (.goto 4, 3) := by decide +kernel
theorem dL_pour_127 : decode cL_pour 127 = .ok (.iconst (-1), 1) := by decide +kernel
theorem dL_pour_128 : decode cL_pour 128 = .ok (.iastore, 1) := by decide +kernel
theorem dL_pour_129 : decode cL_pour 129 = .ok (.iload 7, 2) := by decide +kernel
theorem dL_pour_131 : decode cL_pour 131 = .ok (.aload_n 0, 1) := by decide +kernel
theorem dL_pour_132 : decode cL_pour 132 = .ok (.iload 12, 2) := by decide +kernel
theorem dL_pour_134 : decode cL_pour 134 = .ok (.iaload, 1) := by decide +kernel
theorem dL_pour_135 : decode cL_pour 135 = .ok (.iconst 1, 1) := by decide +kernel
theorem dL_pour_136 : decode cL_pour 136 = .ok (.isub, 1) := by decide +kernel
theorem dL_pour_137 : decode cL_pour 137 = .ok (.iadd, 1) := by decide +kernel
theorem dL_pour_138 : decode cL_pour 138 = .ok (.istore 7, 2) := by decide +kernel
theorem dL_pour_140 : decode cL_pour 140 = .ok (.iconst 0, 1) := by decide +kernel
theorem dL_pour_141 : decode cL_pour 141 = .ok (.istore 8, 2) := by decide +kernel
theorem dL_pour_143 : decode cL_pour 143 = .ok (.iconst 0, 1) := by decide +kernel
theorem dL_pour_144 : decode cL_pour 144 = .ok (.istore 9, 2) := by decide +kernel
theorem dL_pour_146 : decode cL_pour 146 = .ok (.iconst 0, 1) := by decide +kernel
theorem dL_pour_147 : decode cL_pour 147 = .ok (.istore 10, 2) := by decide +kernel
theorem dL_pour_149 : decode cL_pour 149 = .ok (.goto 276, 3) := by decide +kernel
theorem dL_pour_152 : decode cL_pour 152 = .ok (.iload 10, 2) := by decide +kernel
theorem dL_pour_154 : decode cL_pour 154 = .ok (.ifCond .eq 21, 3) := by decide +kernel
theorem dL_pour_157 : decode cL_pour 157 = .ok (.iload 9, 2) := by decide +kernel
theorem dL_pour_159 : decode cL_pour 159 = .ok (.aload_n 2, 1) := by decide +kernel
theorem dL_pour_160 : decode cL_pour 160 = .ok (.iload 12, 2) := by decide +kernel
theorem dL_pour_162 : decode cL_pour 162 = .ok (.iaload, 1) := by decide +kernel
theorem dL_pour_163 : decode cL_pour 163 = .ok (.iadd, 1) := by decide +kernel
theorem dL_pour_164 : decode cL_pour 164 = .ok (.aload 6, 2) := by decide +kernel
theorem dL_pour_166 : decode cL_pour 166 = .ok (.iconst 0, 1) := by decide +kernel
theorem dL_pour_167 : decode cL_pour 167 = .ok (.iaload, 1) := by decide +kernel
theorem dL_pour_168 : decode cL_pour 168 = .ok (.if_icmp .le 7, 3) := by decide +kernel
theorem dL_pour_171 : decode cL_pour 171 = .ok (.iconst 1, 1) := by decide +kernel
theorem dL_pour_172 : decode cL_pour 172 = .ok (.goto 4, 3) := by decide +kernel
theorem dL_pour_175 : decode cL_pour 175 = .ok (.iconst 0, 1) := by decide +kernel
theorem dL_pour_176 : decode cL_pour 176 = .ok (.istore 13, 2) := by decide +kernel
theorem dL_pour_178 : decode cL_pour 178 = .ok (.iload 13, 2) := by decide +kernel
theorem dL_pour_180 : decode cL_pour 180 = .ok (.ifCond .eq 8, 3) := by decide +kernel
theorem dL_pour_183 : decode cL_pour 183 = .ok (.bipush 24, 2) := by decide +kernel
theorem dL_pour_185 : decode cL_pour 185 = .ok (.goto 5, 3) := by decide +kernel
theorem dL_pour_188 : decode cL_pour 188 = .ok (.iload 8, 2) := by decide +kernel
theorem dL_pour_190 : decode cL_pour 190 = .ok (.istore 8, 2) := by decide +kernel
theorem dL_pour_192 : decode cL_pour 192 = .ok (.bipush 6, 2) := by decide +kernel
theorem dL_pour_194 : decode cL_pour 194 = .ok (.iload 8, 2) := by decide +kernel
theorem dL_pour_196 : decode cL_pour 196 = .ok (.bipush 6, 2) := by decide +kernel
theorem dL_pour_198 : decode cL_pour 198 = .ok (.irem, 1) := by decide +kernel
theorem dL_pour_199 : decode cL_pour 199 = .ok (.isub, 1) := by decide +kernel
theorem dL_pour_200 : decode cL_pour 200 = .ok (.istore 14, 2) := by decide +kernel
theorem dL_pour_202 : decode cL_pour 202 = .ok (.iload 8, 2) := by decide +kernel
theorem dL_pour_204 : decode cL_pour 204 = .ok (.iload 14, 2) := by decide +kernel
theorem dL_pour_206 : decode cL_pour 206 = .ok (.aload_n 1, 1) := by decide +kernel
theorem dL_pour_207 : decode cL_pour 207 = .ok (.iload 12, 2) := by decide +kernel
theorem dL_pour_209 : decode cL_pour 209 = .ok (.iaload, 1) := by decide +kernel
theorem dL_pour_210 : decode cL_pour 210 = .ok (.if_icmp .ge 8, 3) := by decide +kernel
theorem dL_pour_213 : decode cL_pour 213 = .ok (.iload 14, 2) := by decide +kernel
theorem dL_pour_215 : decode cL_pour 215 = .ok (.goto 4, 3) := by decide +kernel
theorem dL_pour_218 : decode cL_pour 218 = .ok (.iconst 0, 1) := by decide +kernel
theorem dL_pour_219 : decode cL_pour 219 = .ok (.iadd, 1) := by decide +kernel
theorem dL_pour_220 : decode cL_pour 220 = .ok (.istore 8, 2) := by decide +kernel
theorem dL_pour_222 : decode cL_pour 222 = .ok (.iconst 0, 1) := by decide +kernel
theorem dL_pour_223 : decode cL_pour 223 = .ok (.istore 15, 2) := by decide +kernel
theorem dL_pour_225 : decode cL_pour 225 = .ok (.iload 15, 2) := by decide +kernel
theorem dL_pour_227 : decode cL_pour 227 = .ok (.iconst 2, 1) := by decide +kernel
theorem dL_pour_228 : decode cL_pour 228 = .ok (.if_icmp .ge 65, 3) := by decide +kernel
theorem dL_pour_231 : decode cL_pour 231 = .ok (.iload 8, 2) := by decide +kernel
theorem dL_pour_233 : decode cL_pour 233 = .ok (.bipush 24, 2) := by decide +kernel
theorem dL_pour_235 : decode cL_pour 235 = .ok (.if_icmp .ne 12, 3) := by decide +kernel
theorem dL_pour_238 : decode cL_pour 238 = .ok (.iinc 7 1, 3) := by decide +kernel
theorem dL_pour_241 : decode cL_pour 241 = .ok (.iconst 0, 1) := by decide +kernel
theorem dL_pour_242 : decode cL_pour 242 = .ok (.istore 8, 2) := by decide +kernel
theorem dL_pour_244 : decode cL_pour 244 = .ok (.iconst 0, 1) := by decide +kernel
theorem dL_pour_245 : decode cL_pour 245 = .ok (.istore 9, 2) := by decide +kernel
theorem dL_pour_247 : decode cL_pour 247 = .ok (.iload 8, 2) := by decide +kernel
theorem dL_pour_249 : decode cL_pour 249 = .ok (.aload_n 0, 1) := by decide +kernel
theorem dL_pour_250 : decode cL_pour 250 = .ok (.iload 12, 2) := by decide +kernel
theorem dL_pour_252 : decode cL_pour 252 = .ok (.iaload, 1) := by decide +kernel
theorem dL_pour_253 : decode cL_pour 253 = .ok (.iconst 1, 1) := by decide +kernel
theorem dL_pour_254 : decode cL_pour 254 = .ok (.if_icmp .ne 29, 3) := by decide +kernel
theorem dL_pour_257 : decode cL_pour 257 = .ok (.iload 7, 2) := by decide +kernel
theorem dL_pour_259 : decode cL_pour 259 = .ok (.iconst 2, 1) := by decide +kernel
theorem dL_pour_260 : decode cL_pour 260 = .ok (.irem, 1) := by decide +kernel
theorem dL_pour_261 : decode cL_pour 261 = .ok (.ifCond .ne 22, 3) := by decide +kernel
theorem dL_pour_264 : decode cL_pour 264 = .ok (.iload 8, 2) := by decide +kernel
theorem dL_pour_266 : decode cL_pour 266 = .ok (.bipush 6, 2) := by decide +kernel
theorem dL_pour_268 : decode cL_pour 268 = .ok (.irem, 1) := by decide +kernel
theorem dL_pour_269 : decode cL_pour 269 = .ok (.ifCond .le 14, 3) := by decide +kernel
theorem dL_pour_272 : decode cL_pour 272 = .ok (.bipush 6, 2) := by decide +kernel
theorem dL_pour_274 : decode cL_pour 274 = .ok (.iload 8, 2) := by decide +kernel
theorem dL_pour_276 : decode cL_pour 276 = .ok (.bipush 6, 2) := by decide +kernel
theorem dL_pour_278 : decode cL_pour 278 = .ok (.irem, 1) := by decide +kernel
theorem dL_pour_279 : decode cL_pour 279 = .ok (.isub, 1) := by decide +kernel
theorem dL_pour_280 : decode cL_pour 280 = .ok (.goto 4, 3) := by decide +kernel
theorem dL_pour_283 : decode cL_pour 283 = .ok (.iconst 0, 1) := by decide +kernel
theorem dL_pour_284 : decode cL_pour 284 = .ok (.iadd, 1) := by decide +kernel
theorem dL_pour_285 : decode cL_pour 285 = .ok (.istore 8, 2) := by decide +kernel
theorem dL_pour_287 : decode cL_pour 287 = .ok (.iinc 15 1, 3) := by decide +kernel
theorem dL_pour_290 : decode cL_pour 290 = .ok (.goto (-65), 3) := by decide +kernel
theorem dL_pour_293 : decode cL_pour 293 = .ok (.aload_n 0, 1) := by decide +kernel
theorem dL_pour_294 : decode cL_pour 294 = .ok (.iload 12, 2) := by decide +kernel
theorem dL_pour_296 : decode cL_pour 296 = .ok (.iaload, 1) := by decide +kernel
theorem dL_pour_297 : decode cL_pour 297 = .ok (.iconst 1, 1) := by decide +kernel
theorem dL_pour_298 : decode cL_pour 298 = .ok (.if_icmp .ne 30, 3) := by decide +kernel
theorem dL_pour_301 : decode cL_pour 301 = .ok (.iload 7, 2) := by decide +kernel
theorem dL_pour_303 : decode cL_pour 303 = .ok (.iconst 2, 1) := by decide +kernel
theorem dL_pour_304 : decode cL_pour 304 = .ok (.irem, 1) := by decide +kernel
theorem dL_pour_305 : decode cL_pour 305 = .ok (.iconst 1, 1) := by decide +kernel
theorem dL_pour_306 : decode cL_pour 306 = .ok (.if_icmp .ne 22, 3) := by decide +kernel
theorem dL_pour_309 : decode cL_pour 309 = .ok (.iload 8, 2) := by decide +kernel
theorem dL_pour_311 : decode cL_pour 311 = .ok (.bipush 6, 2) := by decide +kernel
theorem dL_pour_313 : decode cL_pour 313 = .ok (.idiv, 1) := by decide +kernel
theorem dL_pour_314 : decode cL_pour 314 = .ok (.bipush 6, 2) := by decide +kernel
theorem dL_pour_316 : decode cL_pour 316 = .ok (.imul, 1) := by decide +kernel
theorem dL_pour_317 : decode cL_pour 317 = .ok (.bipush 6, 2) := by decide +kernel
theorem dL_pour_319 : decode cL_pour 319 = .ok (.iadd, 1) := by decide +kernel
theorem dL_pour_320 : decode cL_pour 320 = .ok (.aload_n 1, 1) := by decide +kernel
theorem dL_pour_321 : decode cL_pour 321 = .ok (.iload 12, 2) := by decide +kernel
theorem dL_pour_323 : decode cL_pour 323 = .ok (.iaload, 1) := by decide +kernel
theorem dL_pour_324 : decode cL_pour 324 = .ok (.isub, 1) := by decide +kernel
theorem dL_pour_325 : decode cL_pour 325 = .ok (.goto 5, 3) := by decide +kernel
theorem dL_pour_328 : decode cL_pour 328 = .ok (.iload 8, 2) := by decide +kernel
theorem dL_pour_330 : decode cL_pour 330 = .ok (.istore 8, 2) := by decide +kernel
theorem dL_pour_332 : decode cL_pour 332 = .ok (.iload 11, 2) := by decide +kernel
theorem dL_pour_334 : decode cL_pour 334 = .ok (.ifCond .eq 14, 3) := by decide +kernel
theorem dL_pour_337 : decode cL_pour 337 = .ok (.iload 7, 2) := by decide +kernel
theorem dL_pour_339 : decode cL_pour 339 = .ok (.bipush 16, 2) := by decide +kernel
theorem dL_pour_341 : decode cL_pour 341 = .ok (.if_icmp .ge 7, 3) := by decide +kernel
theorem dL_pour_344 : decode cL_pour 344 = .ok (.iconst 1, 1) := by decide +kernel
theorem dL_pour_345 : decode cL_pour 345 = .ok (.goto 4, 3) := by decide +kernel
theorem dL_pour_348 : decode cL_pour 348 = .ok (.iconst 0, 1) := by decide +kernel
theorem dL_pour_349 : decode cL_pour 349 = .ok (.istore 11, 2) := by decide +kernel
theorem dL_pour_351 : decode cL_pour 351 = .ok (.aload_n 3, 1) := by decide +kernel
theorem dL_pour_352 : decode cL_pour 352 = .ok (.iload 12, 2) := by decide +kernel
theorem dL_pour_354 : decode cL_pour 354 = .ok (.iload 11, 2) := by decide +kernel
theorem dL_pour_356 : decode cL_pour 356 = .ok (.ifCond .eq 8, 3) := by decide +kernel
theorem dL_pour_359 : decode cL_pour 359 = .ok (.iload 7, 2) := by decide +kernel
theorem dL_pour_361 : decode cL_pour 361 = .ok (.goto 4, 3) := by decide +kernel
theorem dL_pour_364 : decode cL_pour 364 = .ok (.iconst (-1), 1) := by decide +kernel
theorem dL_pour_365 : decode cL_pour 365 = .ok (.iastore, 1) := by decide +kernel
theorem dL_pour_366 : decode cL_pour 366 = .ok (.aload 4, 2) := by decide +kernel
theorem dL_pour_368 : decode cL_pour 368 = .ok (.iload 12, 2) := by decide +kernel
theorem dL_pour_370 : decode cL_pour 370 = .ok (.iload 11, 2) := by decide +kernel
theorem dL_pour_372 : decode cL_pour 372 = .ok (.ifCond .eq 11, 3) := by decide +kernel
theorem dL_pour_375 : decode cL_pour 375 = .ok (.iload 8, 2) := by decide +kernel
theorem dL_pour_377 : decode cL_pour 377 = .ok (.bipush 6, 2) := by decide +kernel
theorem dL_pour_379 : decode cL_pour 379 = .ok (.idiv, 1) := by decide +kernel
theorem dL_pour_380 : decode cL_pour 380 = .ok (.goto 4, 3) := by decide +kernel
theorem dL_pour_383 : decode cL_pour 383 = .ok (.iconst (-1), 1) := by decide +kernel
theorem dL_pour_384 : decode cL_pour 384 = .ok (.iastore, 1) := by decide +kernel
theorem dL_pour_385 : decode cL_pour 385 = .ok (.aload 5, 2) := by decide +kernel
theorem dL_pour_387 : decode cL_pour 387 = .ok (.iload 12, 2) := by decide +kernel
theorem dL_pour_389 : decode cL_pour 389 = .ok (.iload 11, 2) := by decide +kernel
theorem dL_pour_391 : decode cL_pour 391 = .ok (.ifCond .eq 11, 3) := by decide +kernel
theorem dL_pour_394 : decode cL_pour 394 = .ok (.iload 8, 2) := by decide +kernel
theorem dL_pour_396 : decode cL_pour 396 = .ok (.bipush 6, 2) := by decide +kernel
theorem dL_pour_398 : decode cL_pour 398 = .ok (.irem, 1) := by decide +kernel
theorem dL_pour_399 : decode cL_pour 399 = .ok (.goto 4, 3) := by decide +kernel
theorem dL_pour_402 : decode cL_pour 402 = .ok (.iconst (-1), 1) := by decide +kernel
theorem dL_pour_403 : decode cL_pour 403 = .ok (.iastore, 1) := by decide +kernel
theorem dL_pour_404 : decode cL_pour 404 = .ok (.iload 8, 2) := by decide +kernel
theorem dL_pour_406 : decode cL_pour 406 = .ok (.aload_n 1, 1) := by decide +kernel
theorem dL_pour_407 : decode cL_pour 407 = .ok (.iload 12, 2) := by decide +kernel
theorem dL_pour_409 : decode cL_pour 409 = .ok (.iaload, 1) := by decide +kernel
theorem dL_pour_410 : decode cL_pour 410 = .ok (.iadd, 1) := by decide +kernel
theorem dL_pour_411 : decode cL_pour 411 = .ok (.istore 8, 2) := by decide +kernel
theorem dL_pour_413 : decode cL_pour 413 = .ok (.iload 9, 2) := by decide +kernel
theorem dL_pour_415 : decode cL_pour 415 = .ok (.aload_n 2, 1) := by decide +kernel
theorem dL_pour_416 : decode cL_pour 416 = .ok (.iload 12, 2) := by decide +kernel
theorem dL_pour_418 : decode cL_pour 418 = .ok (.iaload, 1) := by decide +kernel
theorem dL_pour_419 : decode cL_pour 419 = .ok (.iadd, 1) := by decide +kernel
theorem dL_pour_420 : decode cL_pour 420 = .ok (.istore 9, 2) := by decide +kernel
theorem dL_pour_422 : decode cL_pour 422 = .ok (.iconst 1, 1) := by decide +kernel
theorem dL_pour_423 : decode cL_pour 423 = .ok (.istore 10, 2) := by decide +kernel
theorem dL_pour_425 : decode cL_pour 425 = .ok (.iinc 12 1, 3) := by decide +kernel
theorem dL_pour_428 : decode cL_pour 428 = .ok (.goto (-410), 3) := by decide +kernel
theorem dL_pour_431 : decode cL_pour 431 = .ok (.return_, 1) := by decide +kernel
theorem dL_takes_0 : decode cL_takes 0 = .ok (.aload_n 2, 1) := by decide +kernel
theorem dL_takes_1 : decode cL_takes 1 = .ok (.iload 5, 2) := by decide +kernel
theorem dL_takes_3 : decode cL_takes 3 = .ok (.iaload, 1) := by decide +kernel
theorem dL_takes_4 : decode cL_takes 4 = .ok (.ifCond .ge 5, 3) := by decide +kernel
theorem dL_takes_7 : decode cL_takes 7 = .ok (.iconst 0, 1) := by decide +kernel
theorem dL_takes_8 : decode cL_takes 8 = .ok (.ireturn, 1) := by decide +kernel
theorem dL_takes_9 : decode cL_takes 9 = .ok (.aload_n 0, 1) := by decide +kernel
theorem dL_takes_10 : decode cL_takes 10 = .ok (.iload 5, 2) := by decide +kernel
theorem dL_takes_12 : decode cL_takes 12 = .ok (.iaload, 1) := by decide +kernel
theorem dL_takes_13 : decode cL_takes 13 = .ok (.iconst 1, 1) := by decide +kernel
theorem dL_takes_14 : decode cL_takes 14 = .ok (.if_icmp .le 37, 3) := by decide +kernel
theorem dL_takes_17 : decode cL_takes 17 = .ok (.iload 6, 2) := by decide +kernel
theorem dL_takes_19 : decode cL_takes 19 = .ok (.aload_n 2, 1) := by decide +kernel
theorem dL_takes_20 : decode cL_takes 20 = .ok (.iload 5, 2) := by decide +kernel
theorem dL_takes_22 : decode cL_takes 22 = .ok (.iaload, 1) := by decide +kernel
theorem dL_takes_23 : decode cL_takes 23 = .ok (.if_icmp .eq 22, 3) := by decide +kernel
theorem dL_takes_26 : decode cL_takes 26 = .ok (.aload_n 0, 1) := by decide +kernel
theorem dL_takes_27 : decode cL_takes 27 = .ok (.iload 5, 2) := by decide +kernel
theorem dL_takes_29 : decode cL_takes 29 = .ok (.iaload, 1) := by decide +kernel
theorem dL_takes_30 : decode cL_takes 30 = .ok (.iconst 3, 1) := by decide +kernel
theorem dL_takes_31 : decode cL_takes 31 = .ok (.if_icmp .ne 18, 3) := by decide +kernel
theorem dL_takes_34 : decode cL_takes 34 = .ok (.iload 6, 2) := by decide +kernel
theorem dL_takes_36 : decode cL_takes 36 = .ok (.aload_n 2, 1) := by decide +kernel
theorem dL_takes_37 : decode cL_takes 37 = .ok (.iload 5, 2) := by decide +kernel
theorem dL_takes_39 : decode cL_takes 39 = .ok (.iaload, 1) := by decide +kernel
theorem dL_takes_40 : decode cL_takes 40 = .ok (.iconst 1, 1) := by decide +kernel
theorem dL_takes_41 : decode cL_takes 41 = .ok (.iadd, 1) := by decide +kernel
theorem dL_takes_42 : decode cL_takes 42 = .ok (.if_icmp .ne 7, 3) := by decide +kernel
theorem dL_takes_45 : decode cL_takes 45 = .ok (.iconst 1, 1) := by decide +kernel
theorem dL_takes_46 : decode cL_takes 46 = .ok (.goto 4, 3) := by decide +kernel
theorem dL_takes_49 : decode cL_takes 49 = .ok (.iconst 0, 1) := by decide +kernel
theorem dL_takes_50 : decode cL_takes 50 = .ok (.ireturn, 1) := by decide +kernel
theorem dL_takes_51 : decode cL_takes 51 = .ok (.iload 6, 2) := by decide +kernel
theorem dL_takes_53 : decode cL_takes 53 = .ok (.aload_n 2, 1) := by decide +kernel
theorem dL_takes_54 : decode cL_takes 54 = .ok (.iload 5, 2) := by decide +kernel
theorem dL_takes_56 : decode cL_takes 56 = .ok (.iaload, 1) := by decide +kernel
theorem dL_takes_57 : decode cL_takes 57 = .ok (.if_icmp .ne 50, 3) := by decide +kernel
theorem dL_takes_60 : decode cL_takes 60 = .ok (.iload 7, 2) := by decide +kernel
theorem dL_takes_62 : decode cL_takes 62 = .ok (.bipush 6, 2) := by decide +kernel
theorem dL_takes_64 : decode cL_takes 64 = .ok (.idiv, 1) := by decide +kernel
theorem dL_takes_65 : decode cL_takes 65 = .ok (.aload_n 3, 1) := by decide +kernel
theorem dL_takes_66 : decode cL_takes 66 = .ok (.iload 5, 2) := by decide +kernel
theorem dL_takes_68 : decode cL_takes 68 = .ok (.iaload, 1) := by decide +kernel
theorem dL_takes_69 : decode cL_takes 69 = .ok (.if_icmp .ne 38, 3) := by decide +kernel
theorem dL_takes_72 : decode cL_takes 72 = .ok (.iload 7, 2) := by decide +kernel
theorem dL_takes_74 : decode cL_takes 74 = .ok (.bipush 6, 2) := by decide +kernel
theorem dL_takes_76 : decode cL_takes 76 = .ok (.irem, 1) := by decide +kernel
theorem dL_takes_77 : decode cL_takes 77 = .ok (.aload 4, 2) := by decide +kernel
theorem dL_takes_79 : decode cL_takes 79 = .ok (.iload 5, 2) := by decide +kernel
theorem dL_takes_81 : decode cL_takes 81 = .ok (.iaload, 1) := by decide +kernel
theorem dL_takes_82 : decode cL_takes 82 = .ok (.if_icmp .lt 25, 3) := by decide +kernel
theorem dL_takes_85 : decode cL_takes 85 = .ok (.iload 7, 2) := by decide +kernel
theorem dL_takes_87 : decode cL_takes 87 = .ok (.bipush 6, 2) := by decide +kernel
theorem dL_takes_89 : decode cL_takes 89 = .ok (.irem, 1) := by decide +kernel
theorem dL_takes_90 : decode cL_takes 90 = .ok (.aload 4, 2) := by decide +kernel
theorem dL_takes_92 : decode cL_takes 92 = .ok (.iload 5, 2) := by decide +kernel
theorem dL_takes_94 : decode cL_takes 94 = .ok (.iaload, 1) := by decide +kernel
theorem dL_takes_95 : decode cL_takes 95 = .ok (.aload_n 1, 1) := by decide +kernel
theorem dL_takes_96 : decode cL_takes 96 = .ok (.iload 5, 2) := by decide +kernel
theorem dL_takes_98 : decode cL_takes 98 = .ok (.iaload, 1) := by decide +kernel
theorem dL_takes_99 : decode cL_takes 99 = .ok (.iadd, 1) := by decide +kernel
theorem dL_takes_100 : decode cL_takes 100 = .ok (.if_icmp .ge 7, 3) := by decide +kernel
theorem dL_takes_103 : decode cL_takes 103 = .ok (.iconst 1, 1) := by decide +kernel
theorem dL_takes_104 : decode cL_takes 104 = .ok (.goto 4, 3) := by decide +kernel
theorem dL_takes_107 : decode cL_takes 107 = .ok (.iconst 0, 1) := by decide +kernel
theorem dL_takes_108 : decode cL_takes 108 = .ok (.ireturn, 1) := by decide +kernel
theorem dL_whole_0 : decode cL_whole 0 = .ok (.iconst 0, 1) := by decide +kernel
theorem dL_whole_1 : decode cL_whole 1 = .ok (.istore 4, 2) := by decide +kernel
theorem dL_whole_3 : decode cL_whole 3 = .ok (.iconst 0, 1) := by decide +kernel
theorem dL_whole_4 : decode cL_whole 4 = .ok (.istore 5, 2) := by decide +kernel
theorem dL_whole_6 : decode cL_whole 6 = .ok (.iconst 0, 1) := by decide +kernel
theorem dL_whole_7 : decode cL_whole 7 = .ok (.istore 6, 2) := by decide +kernel
theorem dL_whole_9 : decode cL_whole 9 = .ok (.iconst 0, 1) := by decide +kernel
theorem dL_whole_10 : decode cL_whole 10 = .ok (.istore 7, 2) := by decide +kernel
theorem dL_whole_12 : decode cL_whole 12 = .ok (.iconst 0, 1) := by decide +kernel
theorem dL_whole_13 : decode cL_whole 13 = .ok (.istore 8, 2) := by decide +kernel
theorem dL_whole_15 : decode cL_whole 15 = .ok (.iload 8, 2) := by decide +kernel
theorem dL_whole_17 : decode cL_whole 17 = .ok (.aload_n 3, 1) := by decide +kernel
theorem dL_whole_18 : decode cL_whole 18 = .ok (.iconst 1, 1) := by decide +kernel
theorem dL_whole_19 : decode cL_whole 19 = .ok (.iaload, 1) := by decide +kernel
theorem dL_whole_20 : decode cL_whole 20 = .ok (.if_icmp .ge 127, 3) := by decide +kernel
theorem dL_whole_23 : decode cL_whole 23 = .ok (.iload 4, 2) := by decide +kernel
theorem dL_whole_25 : decode cL_whole 25 = .ok (.aload_n 2, 1) := by decide +kernel
theorem dL_whole_26 : decode cL_whole 26 = .ok (.iload 8, 2) := by decide +kernel
theorem dL_whole_28 : decode cL_whole 28 = .ok (.iaload, 1) := by decide +kernel
theorem dL_whole_29 : decode cL_whole 29 = .ok (.ifCond .ge 7, 3) := by decide +kernel
theorem dL_whole_32 : decode cL_whole 32 = .ok (.iconst 1, 1) := by decide +kernel
theorem dL_whole_33 : decode cL_whole 33 = .ok (.goto 4, 3) := by decide +kernel
theorem dL_whole_36 : decode cL_whole 36 = .ok (.iconst 0, 1) := by decide +kernel
theorem dL_whole_37 : decode cL_whole 37 = .ok (.iadd, 1) := by decide +kernel
theorem dL_whole_38 : decode cL_whole 38 = .ok (.istore 4, 2) := by decide +kernel
theorem dL_whole_40 : decode cL_whole 40 = .ok (.aload_n 2, 1) := by decide +kernel
theorem dL_whole_41 : decode cL_whole 41 = .ok (.iload 8, 2) := by decide +kernel
theorem dL_whole_43 : decode cL_whole 43 = .ok (.iaload, 1) := by decide +kernel
theorem dL_whole_44 : decode cL_whole 44 = .ok (.ifCond .lt 97, 3) := by decide +kernel
theorem dL_whole_47 : decode cL_whole 47 = .ok (.aload_n 0, 1) := by decide +kernel
theorem dL_whole_48 : decode cL_whole 48 = .ok (.iload 8, 2) := by decide +kernel
theorem dL_whole_50 : decode cL_whole 50 = .ok (.iaload, 1) := by decide +kernel
theorem dL_whole_51 : decode cL_whole 51 = .ok (.iconst 3, 1) := by decide +kernel
theorem dL_whole_52 : decode cL_whole 52 = .ok (.if_icmp .ne 12, 3) := by decide +kernel
theorem dL_whole_55 : decode cL_whole 55 = .ok (.aload_n 2, 1) := by decide +kernel
theorem dL_whole_56 : decode cL_whole 56 = .ok (.iload 8, 2) := by decide +kernel
theorem dL_whole_58 : decode cL_whole 58 = .ok (.iaload, 1) := by decide +kernel
theorem dL_whole_59 : decode cL_whole 59 = .ok (.iconst 1, 1) := by decide +kernel
theorem dL_whole_60 : decode cL_whole 60 = .ok (.iadd, 1) := by decide +kernel
theorem dL_whole_61 : decode cL_whole 61 = .ok (.goto 7, 3) := by decide +kernel
theorem dL_whole_64 : decode cL_whole 64 = .ok (.aload_n 2, 1) := by decide +kernel
theorem dL_whole_65 : decode cL_whole 65 = .ok (.iload 8, 2) := by decide +kernel
theorem dL_whole_67 : decode cL_whole 67 = .ok (.iaload, 1) := by decide +kernel
theorem dL_whole_68 : decode cL_whole 68 = .ok (.istore 9, 2) := by decide +kernel
theorem dL_whole_70 : decode cL_whole 70 = .ok (.iload 9, 2) := by decide +kernel
theorem dL_whole_72 : decode cL_whole 72 = .ok (.iconst 1, 1) := by decide +kernel
theorem dL_whole_73 : decode cL_whole 73 = .ok (.iadd, 1) := by decide +kernel
theorem dL_whole_74 : decode cL_whole 74 = .ok (.iload 5, 2) := by decide +kernel
theorem dL_whole_76 : decode cL_whole 76 = .ok (.if_icmp .le 10, 3) := by decide +kernel
theorem dL_whole_79 : decode cL_whole 79 = .ok (.iload 9, 2) := by decide +kernel
theorem dL_whole_81 : decode cL_whole 81 = .ok (.iconst 1, 1) := by decide +kernel
theorem dL_whole_82 : decode cL_whole 82 = .ok (.iadd, 1) := by decide +kernel
theorem dL_whole_83 : decode cL_whole 83 = .ok (.goto 5, 3) := by decide +kernel
theorem dL_whole_86 : decode cL_whole 86 = .ok (.iload 5, 2) := by decide +kernel
theorem dL_whole_88 : decode cL_whole 88 = .ok (.istore 5, 2) := by decide +kernel
theorem dL_whole_90 : decode cL_whole 90 = .ok (.iload 6, 2) := by decide +kernel
theorem dL_whole_92 : decode cL_whole 92 = .ok (.iconst 1, 1) := by decide +kernel
theorem dL_whole_93 : decode cL_whole 93 = .ok (.aload_n 2, 1) := by decide +kernel
theorem dL_whole_94 : decode cL_whole 94 = .ok (.iload 8, 2) := by decide +kernel
theorem dL_whole_96 : decode cL_whole 96 = .ok (.iaload, 1) := by decide +kernel
theorem dL_whole_97 : decode cL_whole 97 = .ok (.ishl, 1) := by decide +kernel
theorem dL_whole_98 : decode cL_whole 98 = .ok (.iconst 1, 1) := by decide +kernel
theorem dL_whole_99 : decode cL_whole 99 = .ok (.iload 9, 2) := by decide +kernel
theorem dL_whole_101 : decode cL_whole 101 = .ok (.ishl, 1) := by decide +kernel
theorem dL_whole_102 : decode cL_whole 102 = .ok (.ior, 1) := by decide +kernel
theorem dL_whole_103 : decode cL_whole 103 = .ok (.ior, 1) := by decide +kernel
theorem dL_whole_104 : decode cL_whole 104 = .ok (.istore 6, 2) := by decide +kernel
theorem dL_whole_106 : decode cL_whole 106 = .ok (.iload 7, 2) := by decide +kernel
theorem dL_whole_108 : decode cL_whole 108 = .ok (.aload_n 0, 1) := by decide +kernel
theorem dL_whole_109 : decode cL_whole 109 = .ok (.iload 8, 2) := by decide +kernel
theorem dL_whole_111 : decode cL_whole 111 = .ok (.iaload, 1) := by decide +kernel
theorem dL_whole_112 : decode cL_whole 112 = .ok (.iconst 2, 1) := by decide +kernel
theorem dL_whole_113 : decode cL_whole 113 = .ok (.if_icmp .ne 8, 3) := by decide +kernel
theorem dL_whole_116 : decode cL_whole 116 = .ok (.bipush 24, 2) := by decide +kernel
theorem dL_whole_118 : decode cL_whole 118 = .ok (.goto 20, 3) := by decide +kernel
theorem dL_whole_121 : decode cL_whole 121 = .ok (.aload_n 0, 1) := by decide +kernel
theorem dL_whole_122 : decode cL_whole 122 = .ok (.iload 8, 2) := by decide +kernel
theorem dL_whole_124 : decode cL_whole 124 = .ok (.iaload, 1) := by decide +kernel
theorem dL_whole_125 : decode cL_whole 125 = .ok (.iconst 3, 1) := by decide +kernel
theorem dL_whole_126 : decode cL_whole 126 = .ok (.if_icmp .ne 8, 3) := by decide +kernel
theorem dL_whole_129 : decode cL_whole 129 = .ok (.bipush 48, 2) := by decide +kernel
theorem dL_whole_131 : decode cL_whole 131 = .ok (.goto 7, 3) := by decide +kernel
theorem dL_whole_134 : decode cL_whole 134 = .ok (.aload_n 1, 1) := by decide +kernel
theorem dL_whole_135 : decode cL_whole 135 = .ok (.iload 8, 2) := by decide +kernel
theorem dL_whole_137 : decode cL_whole 137 = .ok (.iaload, 1) := by decide +kernel
theorem dL_whole_138 : decode cL_whole 138 = .ok (.iadd, 1) := by decide +kernel
theorem dL_whole_139 : decode cL_whole 139 = .ok (.istore 7, 2) := by decide +kernel
theorem dL_whole_141 : decode cL_whole 141 = .ok (.iinc 8 1, 3) := by decide +kernel
theorem dL_whole_144 : decode cL_whole 144 = .ok (.goto (-129), 3) := by decide +kernel
theorem dL_whole_147 : decode cL_whole 147 = .ok (.iconst 0, 1) := by decide +kernel
theorem dL_whole_148 : decode cL_whole 148 = .ok (.istore 8, 2) := by decide +kernel
theorem dL_whole_150 : decode cL_whole 150 = .ok (.iconst 0, 1) := by decide +kernel
theorem dL_whole_151 : decode cL_whole 151 = .ok (.istore 9, 2) := by decide +kernel
theorem dL_whole_153 : decode cL_whole 153 = .ok (.iload 9, 2) := by decide +kernel
theorem dL_whole_155 : decode cL_whole 155 = .ok (.bipush 16, 2) := by decide +kernel
theorem dL_whole_157 : decode cL_whole 157 = .ok (.if_icmp .ge 21, 3) := by decide +kernel
theorem dL_whole_160 : decode cL_whole 160 = .ok (.iload 8, 2) := by decide +kernel
theorem dL_whole_162 : decode cL_whole 162 = .ok (.iload 6, 2) := by decide +kernel
theorem dL_whole_164 : decode cL_whole 164 = .ok (.iload 9, 2) := by decide +kernel
theorem dL_whole_166 : decode cL_whole 166 = .ok (.ishr, 1) := by decide +kernel
theorem dL_whole_167 : decode cL_whole 167 = .ok (.iconst 1, 1) := by decide +kernel
theorem dL_whole_168 : decode cL_whole 168 = .ok (.iand, 1) := by decide +kernel
theorem dL_whole_169 : decode cL_whole 169 = .ok (.iadd, 1) := by decide +kernel
theorem dL_whole_170 : decode cL_whole 170 = .ok (.istore 8, 2) := by decide +kernel
theorem dL_whole_172 : decode cL_whole 172 = .ok (.iinc 9 1, 3) := by decide +kernel
theorem dL_whole_175 : decode cL_whole 175 = .ok (.goto (-22), 3) := by decide +kernel
theorem dL_whole_178 : decode cL_whole 178 = .ok (.ldc 10, 2) := by decide +kernel
theorem dL_whole_180 : decode cL_whole 180 = .ok (.iload 4, 2) := by decide +kernel
theorem dL_whole_182 : decode cL_whole 182 = .ok (.imul, 1) := by decide +kernel
theorem dL_whole_183 : decode cL_whole 183 = .ok (.sipush 1000, 3) := by decide +kernel
theorem dL_whole_186 : decode cL_whole 186 = .ok (.iload 5, 2) := by decide +kernel
theorem dL_whole_188 : decode cL_whole 188 = .ok (.imul, 1) := by decide +kernel
theorem dL_whole_189 : decode cL_whole 189 = .ok (.iadd, 1) := by decide +kernel
theorem dL_whole_190 : decode cL_whole 190 = .ok (.bipush 24, 2) := by decide +kernel
theorem dL_whole_192 : decode cL_whole 192 = .ok (.iload 8, 2) := by decide +kernel
theorem dL_whole_194 : decode cL_whole 194 = .ok (.imul, 1) := by decide +kernel
theorem dL_whole_195 : decode cL_whole 195 = .ok (.iadd, 1) := by decide +kernel
theorem dL_whole_196 : decode cL_whole 196 = .ok (.iload 7, 2) := by decide +kernel
theorem dL_whole_198 : decode cL_whole 198 = .ok (.isub, 1) := by decide +kernel
theorem dL_whole_199 : decode cL_whole 199 = .ok (.ireturn, 1) := by decide +kernel
set_option maxRecDepth 20000 in
theorem ggL_pages_L_whole : GoodIn wsL_pages wsL_whole := goodIn_r _ [5, 1] (by decide +kernel) (by decide +kernel)
set_option maxRecDepth 20000 in
theorem gL_pages_L_whole : GoodIn wsL_pages (va_wsS RL 11 yL_whole wsL_whole) := goodIn_app (goodIn_of _ (by decide +kernel)) ggL_pages_L_whole
set_option maxRecDepth 20000 in
theorem ggL_pages_X4_page : GoodIn wsL_pages wsX4_page := goodIn_ca (goodIn_ca (goodIn_r _ [10, 11, 12, 13, 14, 15, 16, 17, 9, 18, 19, 20, 21, 22, 23, 24, 25, 26, 27, 28, 29, 30, 31, 32, 33, 34, 71, 72, 73, 74, 75, 76, 77, 78, 79, 80, 81, 82, 83, 84, 85, 86, 87, 88, 89, 90, 91] (by decide +kernel) (by decide +kernel)) (goodIn_sub (fun _ h => List.mem_cons_of_mem _ (List.mem_append_left _ (List.mem_append_right _ h))) (by decide +kernel))) (goodIn_sub (fun _ h => List.mem_cons_of_mem _ (List.mem_append_right _ h)) (by decide +kernel))
set_option maxRecDepth 20000 in
theorem gL_pages_X4_page : GoodIn wsL_pages (wsV RL 19 RX4 yX4_page wsX4_page) := goodIn_app (goodIn_of _ (by decide +kernel)) ggL_pages_X4_page
set_option maxRecDepth 20000 in
theorem ggL_pages_X4_count : GoodIn wsL_pages wsX4_count := goodIn_ca (goodIn_r _ [38, 13, 14, 16, 17, 9, 18, 39, 40, 41, 42, 43, 15, 44, 45, 20, 46, 47, 24, 48, 49, 50, 51, 52, 53, 54, 55, 56, 57, 58, 59, 60, 61, 62, 71, 72, 73, 74, 75, 76, 92, 93, 94, 95, 96, 77, 78, 79, 80, 81, 82, 83, 84, 85, 86, 87, 88, 89, 90, 91, 97, 98] (by decide +kernel) (by decide +kernel)) (goodIn_sub (fun _ h => List.mem_cons_of_mem _ (List.mem_append_right _ h)) (by decide +kernel))
set_option maxRecDepth 20000 in
theorem gL_pages_X4_count : GoodIn wsL_pages (wsV RL 23 RX4 yX4_count wsX4_count) := goodIn_app (goodIn_of _ (by decide +kernel)) ggL_pages_X4_count
set_option maxRecDepth 20000 in
theorem ggL_pages_X4_fullness : GoodIn wsL_pages wsX4_fullness := goodIn_r _ [66, 67, 68, 69, 9, 70, 15, 71, 72, 73, 74, 75, 76, 77, 78, 79, 80, 81, 82, 83, 84, 85, 86, 87, 88, 89, 90, 91] (by decide +kernel) (by decide +kernel)
set_option maxRecDepth 20000 in
theorem gL_pages_X4_fullness : GoodIn wsL_pages (wsV RL 27 RX4 yX4_fullness wsX4_fullness) := goodIn_app (goodIn_of _ (by decide +kernel)) ggL_pages_X4_fullness
theorem dL_pages_0 : decode cL_pages 0 = .ok (.iconst 0, 1) := by decide +kernel
theorem dL_pages_1 : decode cL_pages 1 = .ok (.istore 8, 2) := by decide +kernel
theorem dL_pages_3 : decode cL_pages 3 = .ok (.iconst 0, 1) := by decide +kernel
theorem dL_pages_4 : decode cL_pages 4 = .ok (.istore 9, 2) := by decide +kernel
theorem dL_pages_6 : decode cL_pages 6 = .ok (.iconst 0, 1) := by decide +kernel
theorem dL_pages_7 : decode cL_pages 7 = .ok (.istore 10, 2) := by decide +kernel
theorem dL_pages_9 : decode cL_pages 9 = .ok (.iconst 0, 1) := by decide +kernel
theorem dL_pages_10 : decode cL_pages 10 = .ok (.istore 11, 2) := by decide +kernel
theorem dL_pages_12 : decode cL_pages 12 = .ok (.iconst 0, 1) := by decide +kernel
theorem dL_pages_13 : decode cL_pages 13 = .ok (.istore 12, 2) := by decide +kernel
theorem dL_pages_15 : decode cL_pages 15 = .ok (.aload_n 1, 1) := by decide +kernel
theorem dL_pages_16 : decode cL_pages 16 = .ok (.aload_n 2, 1) := by decide +kernel
theorem dL_pages_17 : decode cL_pages 17 = .ok (.aload 4, 2) := by decide +kernel
theorem dL_pages_19 : decode cL_pages 19 = .ok (.aload 7, 2) := by decide +kernel
theorem dL_pages_21 : decode cL_pages 21 = .ok (.invokestatic 11, 3) := by decide +kernel
theorem dL_pages_24 : decode cL_pages 24 = .ok (.sipush 1000, 3) := by decide +kernel
theorem dL_pages_27 : decode cL_pages 27 = .ok (.idiv, 1) := by decide +kernel
theorem dL_pages_28 : decode cL_pages 28 = .ok (.bipush 100, 2) := by decide +kernel
theorem dL_pages_30 : decode cL_pages 30 = .ok (.irem, 1) := by decide +kernel
theorem dL_pages_31 : decode cL_pages 31 = .ok (.istore 13, 2) := by decide +kernel
theorem dL_pages_33 : decode cL_pages 33 = .ok (.iconst 0, 1) := by decide +kernel
theorem dL_pages_34 : decode cL_pages 34 = .ok (.istore 14, 2) := by decide +kernel
theorem dL_pages_36 : decode cL_pages 36 = .ok (.iconst 0, 1) := by decide +kernel
theorem dL_pages_37 : decode cL_pages 37 = .ok (.istore 15, 2) := by decide +kernel
theorem dL_pages_39 : decode cL_pages 39 = .ok (.iload 15, 2) := by decide +kernel
theorem dL_pages_41 : decode cL_pages 41 = .ok (.bipush 16, 2) := by decide +kernel
theorem dL_pages_43 : decode cL_pages 43 = .ok (.if_icmp .ge 423, 3) := by decide +kernel
theorem dL_pages_46 : decode cL_pages 46 = .ok (.iconst 0, 1) := by decide +kernel
theorem dL_pages_47 : decode cL_pages 47 = .ok (.istore 16, 2) := by decide +kernel
theorem dL_pages_49 : decode cL_pages 49 = .ok (.iconst 0, 1) := by decide +kernel
theorem dL_pages_50 : decode cL_pages 50 = .ok (.istore 17, 2) := by decide +kernel
theorem dL_pages_52 : decode cL_pages 52 = .ok (.iconst (-1), 1) := by decide +kernel
theorem dL_pages_53 : decode cL_pages 53 = .ok (.istore 18, 2) := by decide +kernel
theorem dL_pages_55 : decode cL_pages 55 = .ok (.iconst 0, 1) := by decide +kernel
theorem dL_pages_56 : decode cL_pages 56 = .ok (.istore 19, 2) := by decide +kernel
theorem dL_pages_58 : decode cL_pages 58 = .ok (.iconst 0, 1) := by decide +kernel
theorem dL_pages_59 : decode cL_pages 59 = .ok (.istore 20, 2) := by decide +kernel
theorem dL_pages_61 : decode cL_pages 61 = .ok (.aload 7, 2) := by decide +kernel
theorem dL_pages_63 : decode cL_pages 63 = .ok (.iconst 1, 1) := by decide +kernel
theorem dL_pages_64 : decode cL_pages 64 = .ok (.iaload, 1) := by decide +kernel
theorem dL_pages_65 : decode cL_pages 65 = .ok (.iconst 1, 1) := by decide +kernel
theorem dL_pages_66 : decode cL_pages 66 = .ok (.isub, 1) := by decide +kernel
theorem dL_pages_67 : decode cL_pages 67 = .ok (.istore 21, 2) := by decide +kernel
theorem dL_pages_69 : decode cL_pages 69 = .ok (.iload 21, 2) := by decide +kernel
theorem dL_pages_71 : decode cL_pages 71 = .ok (.ifCond .lt 160, 3) := by decide +kernel
theorem dL_pages_74 : decode cL_pages 74 = .ok (.aload 4, 2) := by decide +kernel
theorem dL_pages_76 : decode cL_pages 76 = .ok (.iload 21, 2) := by decide +kernel
theorem dL_pages_78 : decode cL_pages 78 = .ok (.iaload, 1) := by decide +kernel
theorem dL_pages_79 : decode cL_pages 79 = .ok (.iload 15, 2) := by decide +kernel
theorem dL_pages_81 : decode cL_pages 81 = .ok (.if_icmp .eq 31, 3) := by decide +kernel
theorem dL_pages_84 : decode cL_pages 84 = .ok (.aload_n 1, 1) := by decide +kernel
theorem dL_pages_85 : decode cL_pages 85 = .ok (.iload 21, 2) := by decide +kernel
theorem dL_pages_87 : decode cL_pages 87 = .ok (.iaload, 1) := by decide +kernel
theorem dL_pages_88 : decode cL_pages 88 = .ok (.iconst 3, 1) := by decide +kernel
theorem dL_pages_89 : decode cL_pages 89 = .ok (.if_icmp .ne 27, 3) := by decide +kernel
theorem dL_pages_92 : decode cL_pages 92 = .ok (.aload 4, 2) := by decide +kernel
theorem dL_pages_94 : decode cL_pages 94 = .ok (.iload 21, 2) := by decide +kernel
theorem dL_pages_96 : decode cL_pages 96 = .ok (.iaload, 1) := by decide +kernel
theorem dL_pages_97 : decode cL_pages 97 = .ok (.ifCond .lt 19, 3) := by decide +kernel
theorem dL_pages_100 : decode cL_pages 100 = .ok (.aload 4, 2) := by decide +kernel
theorem dL_pages_102 : decode cL_pages 102 = .ok (.iload 21, 2) := by decide +kernel
theorem dL_pages_104 : decode cL_pages 104 = .ok (.iaload, 1) := by decide +kernel
theorem dL_pages_105 : decode cL_pages 105 = .ok (.iconst 1, 1) := by decide +kernel
theorem dL_pages_106 : decode cL_pages 106 = .ok (.iadd, 1) := by decide +kernel
theorem dL_pages_107 : decode cL_pages 107 = .ok (.iload 15, 2) := by decide +kernel
theorem dL_pages_109 : decode cL_pages 109 = .ok (.if_icmp .ne 7, 3) := by decide +kernel
theorem dL_pages_112 : decode cL_pages 112 = .ok (.iconst 1, 1) := by decide +kernel
theorem dL_pages_113 : decode cL_pages 113 = .ok (.goto 4, 3) := by decide +kernel
theorem dL_pages_116 : decode cL_pages 116 = .ok (.iconst 0, 1) := by decide +kernel
theorem dL_pages_117 : decode cL_pages 117 = .ok (.istore 22, 2) := by decide +kernel
theorem dL_pages_119 : decode cL_pages 119 = .ok (.iload 16, 2) := by decide +kernel
theorem dL_pages_121 : decode cL_pages 121 = .ok (.iload 22, 2) := by decide +kernel
theorem dL_pages_123 : decode cL_pages 123 = .ok (.ifCond .eq 7, 3) := by decide +kernel
theorem dL_pages_126 : decode cL_pages 126 = .ok (.iconst 1, 1) := by decide +kernel
theorem dL_pages_127 : decode cL_pages 127 = .ok (.goto 4, 3) := by decide +kernel
theorem dL_pages_130 : decode cL_pages 130 = .ok (.iconst 0, 1) := by decide +kernel
theorem dL_pages_131 : decode cL_pages 131 = .ok (.iadd, 1) := by decide +kernel
theorem dL_pages_132 : decode cL_pages 132 = .ok (.istore 16, 2) := by decide +kernel
theorem dL_pages_134 : decode cL_pages 134 = .ok (.iload 17, 2) := by decide +kernel
theorem dL_pages_136 : decode cL_pages 136 = .ok (.aload 4, 2) := by decide +kernel
theorem dL_pages_138 : decode cL_pages 138 = .ok (.iload 21, 2) := by decide +kernel
theorem dL_pages_140 : decode cL_pages 140 = .ok (.iaload, 1) := by decide +kernel
theorem dL_pages_141 : decode cL_pages 141 = .ok (.iload 15, 2) := by decide +kernel
theorem dL_pages_143 : decode cL_pages 143 = .ok (.if_icmp .ne 10, 3) := by decide +kernel
theorem dL_pages_146 : decode cL_pages 146 = .ok (.aload_n 3, 1) := by decide +kernel
theorem dL_pages_147 : decode cL_pages 147 = .ok (.iload 21, 2) := by decide +kernel
theorem dL_pages_149 : decode cL_pages 149 = .ok (.iaload, 1) := by decide +kernel
theorem dL_pages_150 : decode cL_pages 150 = .ok (.goto 4, 3) := by decide +kernel
theorem dL_pages_153 : decode cL_pages 153 = .ok (.iconst 0, 1) := by decide +kernel
theorem dL_pages_154 : decode cL_pages 154 = .ok (.iadd, 1) := by decide +kernel
theorem dL_pages_155 : decode cL_pages 155 = .ok (.istore 17, 2) := by decide +kernel
theorem dL_pages_157 : decode cL_pages 157 = .ok (.iload 22, 2) := by decide +kernel
theorem dL_pages_159 : decode cL_pages 159 = .ok (.ifCond .eq 8, 3) := by decide +kernel
theorem dL_pages_162 : decode cL_pages 162 = .ok (.iload 21, 2) := by decide +kernel
theorem dL_pages_164 : decode cL_pages 164 = .ok (.goto 5, 3) := by decide +kernel
theorem dL_pages_167 : decode cL_pages 167 = .ok (.iload 18, 2) := by decide +kernel
theorem dL_pages_169 : decode cL_pages 169 = .ok (.istore 18, 2) := by decide +kernel
theorem dL_pages_171 : decode cL_pages 171 = .ok (.iload 19, 2) := by decide +kernel
theorem dL_pages_173 : decode cL_pages 173 = .ok (.iload 22, 2) := by decide +kernel
theorem dL_pages_175 : decode cL_pages 175 = .ok (.ifCond .eq 15, 3) := by decide +kernel
theorem dL_pages_178 : decode cL_pages 178 = .ok (.aload_n 1, 1) := by decide +kernel
theorem dL_pages_179 : decode cL_pages 179 = .ok (.iload 21, 2) := by decide +kernel
theorem dL_pages_181 : decode cL_pages 181 = .ok (.iaload, 1) := by decide +kernel
theorem dL_pages_182 : decode cL_pages 182 = .ok (.iconst 1, 1) := by decide +kernel
theorem dL_pages_183 : decode cL_pages 183 = .ok (.if_icmp .ne 7, 3) := by decide +kernel
theorem dL_pages_186 : decode cL_pages 186 = .ok (.iconst 1, 1) := by decide +kernel
theorem dL_pages_187 : decode cL_pages 187 = .ok (.goto 4, 3) := by decide +kernel
theorem dL_pages_190 : decode cL_pages 190 = .ok (.iconst 0, 1) := by decide +kernel
theorem dL_pages_191 : decode cL_pages 191 = .ok (.iadd, 1) := by decide +kernel
theorem dL_pages_192 : decode cL_pages 192 = .ok (.istore 19, 2) := by decide +kernel
theorem dL_pages_194 : decode cL_pages 194 = .ok (.iload 20, 2) := by decide +kernel
theorem dL_pages_196 : decode cL_pages 196 = .ok (.iload 22, 2) := by decide +kernel
theorem dL_pages_198 : decode cL_pages 198 = .ok (.ifCond .ne 7, 3) := by decide +kernel
theorem dL_pages_201 : decode cL_pages 201 = .ok (.iconst 0, 1) := by decide +kernel
theorem dL_pages_202 : decode cL_pages 202 = .ok (.goto 20, 3) := by decide +kernel
theorem dL_pages_205 : decode cL_pages 205 = .ok (.aload_n 1, 1) := by decide +kernel
theorem dL_pages_206 : decode cL_pages 206 = .ok (.iload 21, 2) := by decide +kernel
theorem dL_pages_208 : decode cL_pages 208 = .ok (.iaload, 1) := by decide +kernel
theorem dL_pages_209 : decode cL_pages 209 = .ok (.iconst 1, 1) := by decide +kernel
theorem dL_pages_210 : decode cL_pages 210 = .ok (.if_icmp .le 8, 3) := by decide +kernel
theorem dL_pages_213 : decode cL_pages 213 = .ok (.bipush 24, 2) := by decide +kernel
theorem dL_pages_215 : decode cL_pages 215 = .ok (.goto 7, 3) := by decide +kernel
theorem dL_pages_218 : decode cL_pages 218 = .ok (.aload_n 2, 1) := by decide +kernel
theorem dL_pages_219 : decode cL_pages 219 = .ok (.iload 21, 2) := by decide +kernel
theorem dL_pages_221 : decode cL_pages 221 = .ok (.iaload, 1) := by decide +kernel
theorem dL_pages_222 : decode cL_pages 222 = .ok (.iadd, 1) := by decide +kernel
theorem dL_pages_223 : decode cL_pages 223 = .ok (.istore 20, 2) := by decide +kernel
theorem dL_pages_225 : decode cL_pages 225 = .ok (.iinc 21 (-1), 3) := by decide +kernel
theorem dL_pages_228 : decode cL_pages 228 = .ok (.goto (-159), 3) := by decide +kernel
theorem dL_pages_231 : decode cL_pages 231 = .ok (.iload 16, 2) := by decide +kernel
theorem dL_pages_233 : decode cL_pages 233 = .ok (.ifCond .ne 14, 3) := by decide +kernel
theorem dL_pages_236 : decode cL_pages 236 = .ok (.iload 15, 2) := by decide +kernel
theorem dL_pages_238 : decode cL_pages 238 = .ok (.iload 13, 2) := by decide +kernel
theorem dL_pages_240 : decode cL_pages 240 = .ok (.if_icmp .ge 7, 3) := by decide +kernel
theorem dL_pages_243 : decode cL_pages 243 = .ok (.iconst 1, 1) := by decide +kernel
theorem dL_pages_244 : decode cL_pages 244 = .ok (.goto 4, 3) := by decide +kernel
theorem dL_pages_247 : decode cL_pages 247 = .ok (.iconst 0, 1) := by decide +kernel
theorem dL_pages_248 : decode cL_pages 248 = .ok (.istore 21, 2) := by decide +kernel
theorem dL_pages_250 : decode cL_pages 250 = .ok (.aload_n 0, 1) := by decide +kernel
theorem dL_pages_251 : decode cL_pages 251 = .ok (.iload 15, 2) := by decide +kernel
theorem dL_pages_253 : decode cL_pages 253 = .ok (.iconst 0, 1) := by decide +kernel
theorem dL_pages_254 : decode cL_pages 254 = .ok (.invokevirtual 19, 3) := by decide +kernel
theorem dL_pages_257 : decode cL_pages 257 = .ok (.iload 16, 2) := by decide +kernel
theorem dL_pages_259 : decode cL_pages 259 = .ok (.if_icmp .ne 74, 3) := by decide +kernel
theorem dL_pages_262 : decode cL_pages 262 = .ok (.aload_n 0, 1) := by decide +kernel
theorem dL_pages_263 : decode cL_pages 263 = .ok (.iload 15, 2) := by decide +kernel
theorem dL_pages_265 : decode cL_pages 265 = .ok (.iconst 1, 1) := by decide +kernel
theorem dL_pages_266 : decode cL_pages 266 = .ok (.invokevirtual 19, 3) := by decide +kernel
theorem dL_pages_269 : decode cL_pages 269 = .ok (.iload 17, 2) := by decide +kernel
theorem dL_pages_271 : decode cL_pages 271 = .ok (.if_icmp .ne 62, 3) := by decide +kernel
theorem dL_pages_274 : decode cL_pages 274 = .ok (.aload_n 0, 1) := by decide +kernel
theorem dL_pages_275 : decode cL_pages 275 = .ok (.iload 15, 2) := by decide +kernel
theorem dL_pages_277 : decode cL_pages 277 = .ok (.iconst 2, 1) := by decide +kernel
theorem dL_pages_278 : decode cL_pages 278 = .ok (.invokevirtual 19, 3) := by decide +kernel
theorem dL_pages_281 : decode cL_pages 281 = .ok (.bipush 24, 2) := by decide +kernel
theorem dL_pages_283 : decode cL_pages 283 = .ok (.iload 20, 2) := by decide +kernel
theorem dL_pages_285 : decode cL_pages 285 = .ok (.isub, 1) := by decide +kernel
theorem dL_pages_286 : decode cL_pages 286 = .ok (.if_icmp .ne 47, 3) := by decide +kernel
theorem dL_pages_289 : decode cL_pages 289 = .ok (.aload_n 0, 1) := by decide +kernel
theorem dL_pages_290 : decode cL_pages 290 = .ok (.iload 15, 2) := by decide +kernel
theorem dL_pages_292 : decode cL_pages 292 = .ok (.iconst 3, 1) := by decide +kernel
theorem dL_pages_293 : decode cL_pages 293 = .ok (.invokevirtual 19, 3) := by decide +kernel
theorem dL_pages_296 : decode cL_pages 296 = .ok (.iload 18, 2) := by decide +kernel
theorem dL_pages_298 : decode cL_pages 298 = .ok (.if_icmp .ne 35, 3) := by decide +kernel
theorem dL_pages_301 : decode cL_pages 301 = .ok (.aload_n 0, 1) := by decide +kernel
theorem dL_pages_302 : decode cL_pages 302 = .ok (.iload 15, 2) := by decide +kernel
theorem dL_pages_304 : decode cL_pages 304 = .ok (.iconst 4, 1) := by decide +kernel
theorem dL_pages_305 : decode cL_pages 305 = .ok (.invokevirtual 19, 3) := by decide +kernel
theorem dL_pages_308 : decode cL_pages 308 = .ok (.iload 21, 2) := by decide +kernel
theorem dL_pages_310 : decode cL_pages 310 = .ok (.ifCond .eq 7, 3) := by decide +kernel
theorem dL_pages_313 : decode cL_pages 313 = .ok (.iconst 1, 1) := by decide +kernel
theorem dL_pages_314 : decode cL_pages 314 = .ok (.goto 4, 3) := by decide +kernel
theorem dL_pages_317 : decode cL_pages 317 = .ok (.iconst 0, 1) := by decide +kernel
theorem dL_pages_318 : decode cL_pages 318 = .ok (.if_icmp .ne 15, 3) := by decide +kernel
theorem dL_pages_321 : decode cL_pages 321 = .ok (.aload_n 0, 1) := by decide +kernel
theorem dL_pages_322 : decode cL_pages 322 = .ok (.iload 15, 2) := by decide +kernel
theorem dL_pages_324 : decode cL_pages 324 = .ok (.iconst 5, 1) := by decide +kernel
theorem dL_pages_325 : decode cL_pages 325 = .ok (.invokevirtual 19, 3) := by decide +kernel
theorem dL_pages_328 : decode cL_pages 328 = .ok (.iload 19, 2) := by decide +kernel
theorem dL_pages_330 : decode cL_pages 330 = .ok (.if_icmp .eq 5, 3) := by decide +kernel
theorem dL_pages_333 : decode cL_pages 333 = .ok (.iconst 0, 1) := by decide +kernel
theorem dL_pages_334 : decode cL_pages 334 = .ok (.ireturn, 1) := by decide +kernel
theorem dL_pages_335 : decode cL_pages 335 = .ok (.iload 10, 2) := by decide +kernel
theorem dL_pages_337 : decode cL_pages 337 = .ok (.iload 21, 2) := by decide +kernel
theorem dL_pages_339 : decode cL_pages 339 = .ok (.ifCond .eq 7, 3) := by decide +kernel
theorem dL_pages_342 : decode cL_pages 342 = .ok (.iconst 1, 1) := by decide +kernel
theorem dL_pages_343 : decode cL_pages 343 = .ok (.goto 4, 3) := by decide +kernel
theorem dL_pages_346 : decode cL_pages 346 = .ok (.iconst 0, 1) := by decide +kernel
theorem dL_pages_347 : decode cL_pages 347 = .ok (.iadd, 1) := by decide +kernel
theorem dL_pages_348 : decode cL_pages 348 = .ok (.istore 10, 2) := by decide +kernel
theorem dL_pages_350 : decode cL_pages 350 = .ok (.iload 11, 2) := by decide +kernel
theorem dL_pages_352 : decode cL_pages 352 = .ok (.iload 16, 2) := by decide +kernel
theorem dL_pages_354 : decode cL_pages 354 = .ok (.ifCond .le 11, 3) := by decide +kernel
theorem dL_pages_357 : decode cL_pages 357 = .ok (.bipush 24, 2) := by decide +kernel
theorem dL_pages_359 : decode cL_pages 359 = .ok (.iload 20, 2) := by decide +kernel
theorem dL_pages_361 : decode cL_pages 361 = .ok (.isub, 1) := by decide +kernel
theorem dL_pages_362 : decode cL_pages 362 = .ok (.goto 4, 3) := by decide +kernel
theorem dL_pages_365 : decode cL_pages 365 = .ok (.iconst 0, 1) := by decide +kernel
theorem dL_pages_366 : decode cL_pages 366 = .ok (.iadd, 1) := by decide +kernel
theorem dL_pages_367 : decode cL_pages 367 = .ok (.istore 11, 2) := by decide +kernel
theorem dL_pages_369 : decode cL_pages 369 = .ok (.iload 12, 2) := by decide +kernel
theorem dL_pages_371 : decode cL_pages 371 = .ok (.iload 16, 2) := by decide +kernel
theorem dL_pages_373 : decode cL_pages 373 = .ok (.ifCond .le 8, 3) := by decide +kernel
theorem dL_pages_376 : decode cL_pages 376 = .ok (.bipush 24, 2) := by decide +kernel
theorem dL_pages_378 : decode cL_pages 378 = .ok (.goto 4, 3) := by decide +kernel
theorem dL_pages_381 : decode cL_pages 381 = .ok (.iconst 0, 1) := by decide +kernel
theorem dL_pages_382 : decode cL_pages 382 = .ok (.iadd, 1) := by decide +kernel
theorem dL_pages_383 : decode cL_pages 383 = .ok (.istore 12, 2) := by decide +kernel
theorem dL_pages_385 : decode cL_pages 385 = .ok (.iload 17, 2) := by decide +kernel
theorem dL_pages_387 : decode cL_pages 387 = .ok (.iload 8, 2) := by decide +kernel
theorem dL_pages_389 : decode cL_pages 389 = .ok (.if_icmp .le 8, 3) := by decide +kernel
theorem dL_pages_392 : decode cL_pages 392 = .ok (.iload 17, 2) := by decide +kernel
theorem dL_pages_394 : decode cL_pages 394 = .ok (.goto 5, 3) := by decide +kernel
theorem dL_pages_397 : decode cL_pages 397 = .ok (.iload 8, 2) := by decide +kernel
theorem dL_pages_399 : decode cL_pages 399 = .ok (.istore 8, 2) := by decide +kernel
theorem dL_pages_401 : decode cL_pages 401 = .ok (.iload 17, 2) := by decide +kernel
theorem dL_pages_403 : decode cL_pages 403 = .ok (.iload 14, 2) := by decide +kernel
theorem dL_pages_405 : decode cL_pages 405 = .ok (.if_icmp .le 11, 3) := by decide +kernel
theorem dL_pages_408 : decode cL_pages 408 = .ok (.iload 17, 2) := by decide +kernel
theorem dL_pages_410 : decode cL_pages 410 = .ok (.iload 14, 2) := by decide +kernel
theorem dL_pages_412 : decode cL_pages 412 = .ok (.isub, 1) := by decide +kernel
theorem dL_pages_413 : decode cL_pages 413 = .ok (.goto 8, 3) := by decide +kernel
theorem dL_pages_416 : decode cL_pages 416 = .ok (.iload 14, 2) := by decide +kernel
theorem dL_pages_418 : decode cL_pages 418 = .ok (.iload 17, 2) := by decide +kernel
theorem dL_pages_420 : decode cL_pages 420 = .ok (.isub, 1) := by decide +kernel
theorem dL_pages_421 : decode cL_pages 421 = .ok (.istore 22, 2) := by decide +kernel
theorem dL_pages_423 : decode cL_pages 423 = .ok (.iload 15, 2) := by decide +kernel
theorem dL_pages_425 : decode cL_pages 425 = .ok (.iconst 2, 1) := by decide +kernel
theorem dL_pages_426 : decode cL_pages 426 = .ok (.irem, 1) := by decide +kernel
theorem dL_pages_427 : decode cL_pages 427 = .ok (.iconst 1, 1) := by decide +kernel
theorem dL_pages_428 : decode cL_pages 428 = .ok (.if_icmp .ne 24, 3) := by decide +kernel
theorem dL_pages_431 : decode cL_pages 431 = .ok (.iload 15, 2) := by decide +kernel
theorem dL_pages_433 : decode cL_pages 433 = .ok (.iconst 1, 1) := by decide +kernel
theorem dL_pages_434 : decode cL_pages 434 = .ok (.isub, 1) := by decide +kernel
theorem dL_pages_435 : decode cL_pages 435 = .ok (.iload 13, 2) := by decide +kernel
theorem dL_pages_437 : decode cL_pages 437 = .ok (.if_icmp .ge 15, 3) := by decide +kernel
theorem dL_pages_440 : decode cL_pages 440 = .ok (.iload 22, 2) := by decide +kernel
theorem dL_pages_442 : decode cL_pages 442 = .ok (.iload 9, 2) := by decide +kernel
theorem dL_pages_444 : decode cL_pages 444 = .ok (.if_icmp .le 8, 3) := by decide +kernel
theorem dL_pages_447 : decode cL_pages 447 = .ok (.iload 22, 2) := by decide +kernel
theorem dL_pages_449 : decode cL_pages 449 = .ok (.goto 5, 3) := by decide +kernel
theorem dL_pages_452 : decode cL_pages 452 = .ok (.iload 9, 2) := by decide +kernel
theorem dL_pages_454 : decode cL_pages 454 = .ok (.istore 9, 2) := by decide +kernel
theorem dL_pages_456 : decode cL_pages 456 = .ok (.iload 17, 2) := by decide +kernel
theorem dL_pages_458 : decode cL_pages 458 = .ok (.istore 14, 2) := by decide +kernel
theorem dL_pages_460 : decode cL_pages 460 = .ok (.iinc 15 1, 3) := by decide +kernel
theorem dL_pages_463 : decode cL_pages 463 = .ok (.goto (-424), 3) := by decide +kernel
theorem dL_pages_466 : decode cL_pages 466 = .ok (.aload_n 0, 1) := by decide +kernel
theorem dL_pages_467 : decode cL_pages 467 = .ok (.iconst 0, 1) := by decide +kernel
theorem dL_pages_468 : decode cL_pages 468 = .ok (.invokevirtual 23, 3) := by decide +kernel
theorem dL_pages_471 : decode cL_pages 471 = .ok (.aload 7, 2) := by decide +kernel
theorem dL_pages_473 : decode cL_pages 473 = .ok (.iconst 1, 1) := by decide +kernel
theorem dL_pages_474 : decode cL_pages 474 = .ok (.iaload, 1) := by decide +kernel
theorem dL_pages_475 : decode cL_pages 475 = .ok (.if_icmp .ne 112, 3) := by decide +kernel
theorem dL_pages_478 : decode cL_pages 478 = .ok (.aload_n 0, 1) := by decide +kernel
theorem dL_pages_479 : decode cL_pages 479 = .ok (.iconst 1, 1) := by decide +kernel
theorem dL_pages_480 : decode cL_pages 480 = .ok (.invokevirtual 23, 3) := by decide +kernel
theorem dL_pages_483 : decode cL_pages 483 = .ok (.iload 13, 2) := by decide +kernel
theorem dL_pages_485 : decode cL_pages 485 = .ok (.if_icmp .ne 102, 3) := by decide +kernel
theorem dL_pages_488 : decode cL_pages 488 = .ok (.aload_n 0, 1) := by decide +kernel
theorem dL_pages_489 : decode cL_pages 489 = .ok (.iconst 2, 1) := by decide +kernel
theorem dL_pages_490 : decode cL_pages 490 = .ok (.invokevirtual 23, 3) := by decide +kernel
theorem dL_pages_493 : decode cL_pages 493 = .ok (.iload 10, 2) := by decide +kernel
theorem dL_pages_495 : decode cL_pages 495 = .ok (.if_icmp .ne 92, 3) := by decide +kernel
theorem dL_pages_498 : decode cL_pages 498 = .ok (.aload_n 0, 1) := by decide +kernel
theorem dL_pages_499 : decode cL_pages 499 = .ok (.iconst 3, 1) := by decide +kernel
theorem dL_pages_500 : decode cL_pages 500 = .ok (.invokevirtual 23, 3) := by decide +kernel
theorem dL_pages_503 : decode cL_pages 503 = .ok (.aload_n 1, 1) := by decide +kernel
theorem dL_pages_504 : decode cL_pages 504 = .ok (.aload_n 2, 1) := by decide +kernel
theorem dL_pages_505 : decode cL_pages 505 = .ok (.aload 4, 2) := by decide +kernel
theorem dL_pages_507 : decode cL_pages 507 = .ok (.aload 7, 2) := by decide +kernel
theorem dL_pages_509 : decode cL_pages 509 = .ok (.invokestatic 11, 3) := by decide +kernel
theorem dL_pages_512 : decode cL_pages 512 = .ok (.ldc 10, 2) := by decide +kernel
theorem dL_pages_514 : decode cL_pages 514 = .ok (.idiv, 1) := by decide +kernel
theorem dL_pages_515 : decode cL_pages 515 = .ok (.if_icmp .ne 72, 3) := by decide +kernel
theorem dL_pages_518 : decode cL_pages 518 = .ok (.aload_n 0, 1) := by decide +kernel
theorem dL_pages_519 : decode cL_pages 519 = .ok (.iconst 4, 1) := by decide +kernel
theorem dL_pages_520 : decode cL_pages 520 = .ok (.invokevirtual 23, 3) := by decide +kernel
theorem dL_pages_523 : decode cL_pages 523 = .ok (.iload 8, 2) := by decide +kernel
theorem dL_pages_525 : decode cL_pages 525 = .ok (.if_icmp .ne 62, 3) := by decide +kernel
theorem dL_pages_528 : decode cL_pages 528 = .ok (.aload_n 0, 1) := by decide +kernel
theorem dL_pages_529 : decode cL_pages 529 = .ok (.iconst 5, 1) := by decide +kernel
theorem dL_pages_530 : decode cL_pages 530 = .ok (.invokevirtual 23, 3) := by decide +kernel
theorem dL_pages_533 : decode cL_pages 533 = .ok (.iload 11, 2) := by decide +kernel
theorem dL_pages_535 : decode cL_pages 535 = .ok (.if_icmp .ne 52, 3) := by decide +kernel
theorem dL_pages_538 : decode cL_pages 538 = .ok (.aload_n 0, 1) := by decide +kernel
theorem dL_pages_539 : decode cL_pages 539 = .ok (.iconst 5, 1) := by decide +kernel
theorem dL_pages_540 : decode cL_pages 540 = .ok (.invokevirtual 23, 3) := by decide +kernel
theorem dL_pages_543 : decode cL_pages 543 = .ok (.aload_n 1, 1) := by decide +kernel
theorem dL_pages_544 : decode cL_pages 544 = .ok (.aload_n 2, 1) := by decide +kernel
theorem dL_pages_545 : decode cL_pages 545 = .ok (.aload 4, 2) := by decide +kernel
theorem dL_pages_547 : decode cL_pages 547 = .ok (.aload 7, 2) := by decide +kernel
theorem dL_pages_549 : decode cL_pages 549 = .ok (.invokestatic 11, 3) := by decide +kernel
theorem dL_pages_552 : decode cL_pages 552 = .ok (.sipush 1000, 3) := by decide +kernel
theorem dL_pages_555 : decode cL_pages 555 = .ok (.irem, 1) := by decide +kernel
theorem dL_pages_556 : decode cL_pages 556 = .ok (.if_icmp .ne 31, 3) := by decide +kernel
theorem dL_pages_559 : decode cL_pages 559 = .ok (.aload_n 0, 1) := by decide +kernel
theorem dL_pages_560 : decode cL_pages 560 = .ok (.bipush 6, 2) := by decide +kernel
theorem dL_pages_562 : decode cL_pages 562 = .ok (.invokevirtual 23, 3) := by decide +kernel
theorem dL_pages_565 : decode cL_pages 565 = .ok (.iload 9, 2) := by decide +kernel
theorem dL_pages_567 : decode cL_pages 567 = .ok (.if_icmp .ne 20, 3) := by decide +kernel
theorem dL_pages_570 : decode cL_pages 570 = .ok (.aload_n 0, 1) := by decide +kernel
theorem dL_pages_571 : decode cL_pages 571 = .ok (.bipush 7, 2) := by decide +kernel
theorem dL_pages_573 : decode cL_pages 573 = .ok (.invokevirtual 23, 3) := by decide +kernel
theorem dL_pages_576 : decode cL_pages 576 = .ok (.aload 7, 2) := by decide +kernel
theorem dL_pages_578 : decode cL_pages 578 = .ok (.iconst 0, 1) := by decide +kernel
theorem dL_pages_579 : decode cL_pages 579 = .ok (.iaload, 1) := by decide +kernel
theorem dL_pages_580 : decode cL_pages 580 = .ok (.if_icmp .ne 7, 3) := by decide +kernel
theorem dL_pages_583 : decode cL_pages 583 = .ok (.iconst 1, 1) := by decide +kernel
theorem dL_pages_584 : decode cL_pages 584 = .ok (.goto 4, 3) := by decide +kernel
theorem dL_pages_587 : decode cL_pages 587 = .ok (.iconst 0, 1) := by decide +kernel
theorem dL_pages_588 : decode cL_pages 588 = .ok (.istore 15, 2) := by decide +kernel
theorem dL_pages_590 : decode cL_pages 590 = .ok (.iload 15, 2) := by decide +kernel
theorem dL_pages_592 : decode cL_pages 592 = .ok (.ifCond .eq 34, 3) := by decide +kernel
theorem dL_pages_595 : decode cL_pages 595 = .ok (.aload_n 0, 1) := by decide +kernel
theorem dL_pages_596 : decode cL_pages 596 = .ok (.invokevirtual 27, 3) := by decide +kernel
theorem dL_pages_599 : decode cL_pages 599 = .ok (.iload 12, 2) := by decide +kernel
theorem dL_pages_601 : decode cL_pages 601 = .ok (.ifCond .ne 7, 3) := by decide +kernel
theorem dL_pages_604 : decode cL_pages 604 = .ok (.dconst 1, 1) := by decide +kernel
theorem dL_pages_605 : decode cL_pages 605 = .ok (.goto 13, 3) := by decide +kernel
theorem dL_pages_608 : decode cL_pages 608 = .ok (.iload 12, 2) := by decide +kernel
theorem dL_pages_610 : decode cL_pages 610 = .ok (.iload 11, 2) := by decide +kernel
theorem dL_pages_612 : decode cL_pages 612 = .ok (.isub, 1) := by decide +kernel
theorem dL_pages_613 : decode cL_pages 613 = .ok (.i2d, 1) := by decide +kernel
theorem dL_pages_614 : decode cL_pages 614 = .ok (.iload 12, 2) := by decide +kernel
theorem dL_pages_616 : decode cL_pages 616 = .ok (.i2d, 1) := by decide +kernel
theorem dL_pages_617 : decode cL_pages 617 = .ok (.ddiv, 1) := by decide +kernel
theorem dL_pages_618 : decode cL_pages 618 = .ok (.dcmp .l, 1) := by decide +kernel
theorem dL_pages_619 : decode cL_pages 619 = .ok (.ifCond .ne 7, 3) := by decide +kernel
theorem dL_pages_622 : decode cL_pages 622 = .ok (.iconst 1, 1) := by decide +kernel
theorem dL_pages_623 : decode cL_pages 623 = .ok (.goto 4, 3) := by decide +kernel
theorem dL_pages_626 : decode cL_pages 626 = .ok (.iconst 0, 1) := by decide +kernel
theorem dL_pages_627 : decode cL_pages 627 = .ok (.ireturn, 1) := by decide +kernel
set_option maxRecDepth 20000 in
theorem ggL_units_L_takes : GoodIn wsL_units wsL_takes := goodIn_r _ [4] (by decide +kernel) (by decide +kernel)
set_option maxRecDepth 20000 in
theorem gL_units_L_takes : GoodIn wsL_units (va_wsS RL 31 yL_takes wsL_takes) := goodIn_app (goodIn_of _ (by decide +kernel)) ggL_units_L_takes
set_option maxRecDepth 20000 in
theorem ggL_units_X4_at : GoodIn wsL_units wsX4_at := goodIn_ca (goodIn_r _ [9, 10, 11, 12, 13, 8, 14, 15, 16, 17, 18, 19, 20, 21, 22, 23, 24, 25, 26, 27, 28, 29, 30, 31, 32, 33, 34, 35, 36, 37, 38, 39, 40, 41, 42, 43, 44, 45, 46, 47, 48, 49] (by decide +kernel) (by decide +kernel)) (goodIn_sub (fun _ h => List.mem_cons_of_mem _ (List.mem_append_right _ h)) (by decide +kernel))
set_option maxRecDepth 20000 in
theorem gL_units_X4_at : GoodIn wsL_units (wsV RL 35 RX4 yX4_at wsX4_at) := goodIn_app (goodIn_of _ (by decide +kernel)) ggL_units_X4_at
theorem dL_units_0 : decode cL_units 0 = .ok (.iconst 0, 1) := by decide +kernel
theorem dL_units_1 : decode cL_units 1 = .ok (.istore 8, 2) := by decide +kernel
theorem dL_units_3 : decode cL_units 3 = .ok (.iload 8, 2) := by decide +kernel
theorem dL_units_5 : decode cL_units 5 = .ok (.bipush 24, 2) := by decide +kernel
theorem dL_units_7 : decode cL_units 7 = .ok (.if_icmp .ge 81, 3) := by decide +kernel
theorem dL_units_10 : decode cL_units 10 = .ok (.iconst (-1), 1) := by decide +kernel
theorem dL_units_11 : decode cL_units 11 = .ok (.istore 9, 2) := by decide +kernel
theorem dL_units_13 : decode cL_units 13 = .ok (.iconst 0, 1) := by decide +kernel
theorem dL_units_14 : decode cL_units 14 = .ok (.istore 10, 2) := by decide +kernel
theorem dL_units_16 : decode cL_units 16 = .ok (.iload 10, 2) := by decide +kernel
theorem dL_units_18 : decode cL_units 18 = .ok (.aload 6, 2) := by decide +kernel
theorem dL_units_20 : decode cL_units 20 = .ok (.iconst 1, 1) := by decide +kernel
theorem dL_units_21 : decode cL_units 21 = .ok (.iaload, 1) := by decide +kernel
theorem dL_units_22 : decode cL_units 22 = .ok (.if_icmp .ge 37, 3) := by decide +kernel
theorem dL_units_25 : decode cL_units 25 = .ok (.aload_n 1, 1) := by decide +kernel
theorem dL_units_26 : decode cL_units 26 = .ok (.aload_n 2, 1) := by decide +kernel
theorem dL_units_27 : decode cL_units 27 = .ok (.aload_n 3, 1) := by decide +kernel
theorem dL_units_28 : decode cL_units 28 = .ok (.aload 4, 2) := by decide +kernel
theorem dL_units_30 : decode cL_units 30 = .ok (.aload 5, 2) := by decide +kernel
theorem dL_units_32 : decode cL_units 32 = .ok (.iload 10, 2) := by decide +kernel
theorem dL_units_34 : decode cL_units 34 = .ok (.iload 7, 2) := by decide +kernel
theorem dL_units_36 : decode cL_units 36 = .ok (.iload 8, 2) := by decide +kernel
theorem dL_units_38 : decode cL_units 38 = .ok (.invokestatic 31, 3) := by decide +kernel
theorem dL_units_41 : decode cL_units 41 = .ok (.ifCond .eq 8, 3) := by decide +kernel
theorem dL_units_44 : decode cL_units 44 = .ok (.iload 10, 2) := by decide +kernel
theorem dL_units_46 : decode cL_units 46 = .ok (.goto 5, 3) := by decide +kernel
theorem dL_units_49 : decode cL_units 49 = .ok (.iload 9, 2) := by decide +kernel
theorem dL_units_51 : decode cL_units 51 = .ok (.istore 9, 2) := by decide +kernel
theorem dL_units_53 : decode cL_units 53 = .ok (.iinc 10 1, 3) := by decide +kernel
theorem dL_units_56 : decode cL_units 56 = .ok (.goto (-40), 3) := by decide +kernel
theorem dL_units_59 : decode cL_units 59 = .ok (.aload_n 0, 1) := by decide +kernel
theorem dL_units_60 : decode cL_units 60 = .ok (.iload 7, 2) := by decide +kernel
theorem dL_units_62 : decode cL_units 62 = .ok (.iload 8, 2) := by decide +kernel
theorem dL_units_64 : decode cL_units 64 = .ok (.bipush 6, 2) := by decide +kernel
theorem dL_units_66 : decode cL_units 66 = .ok (.idiv, 1) := by decide +kernel
theorem dL_units_67 : decode cL_units 67 = .ok (.iload 8, 2) := by decide +kernel
theorem dL_units_69 : decode cL_units 69 = .ok (.bipush 6, 2) := by decide +kernel
theorem dL_units_71 : decode cL_units 71 = .ok (.irem, 1) := by decide +kernel
theorem dL_units_72 : decode cL_units 72 = .ok (.invokevirtual 35, 3) := by decide +kernel
theorem dL_units_75 : decode cL_units 75 = .ok (.iload 9, 2) := by decide +kernel
theorem dL_units_77 : decode cL_units 77 = .ok (.if_icmp .eq 5, 3) := by decide +kernel
theorem dL_units_80 : decode cL_units 80 = .ok (.iconst 0, 1) := by decide +kernel
theorem dL_units_81 : decode cL_units 81 = .ok (.ireturn, 1) := by decide +kernel
theorem dL_units_82 : decode cL_units 82 = .ok (.iinc 8 1, 3) := by decide +kernel
theorem dL_units_85 : decode cL_units 85 = .ok (.goto (-82), 3) := by decide +kernel
theorem dL_units_88 : decode cL_units 88 = .ok (.iconst 1, 1) := by decide +kernel
theorem dL_units_89 : decode cL_units 89 = .ok (.ireturn, 1) := by decide +kernel
set_option maxRecDepth 20000 in
theorem ggL_wouldBe_L_pour : GoodIn wsL_wouldBe wsL_pour := goodIn_r _ [6] (by decide +kernel) (by decide +kernel)
set_option maxRecDepth 20000 in
theorem gL_wouldBe_L_pour : GoodIn wsL_wouldBe (va_wsS RL 39 yL_pour wsL_pour) := goodIn_app (goodIn_of _ (by decide +kernel)) ggL_wouldBe_L_pour
set_option maxRecDepth 20000 in
theorem ggL_wouldBe_L_whole : GoodIn wsL_wouldBe wsL_whole := goodIn_r _ [9, 2] (by decide +kernel) (by decide +kernel)
set_option maxRecDepth 20000 in
theorem gL_wouldBe_L_whole : GoodIn wsL_wouldBe (va_wsS RL 11 yL_whole wsL_whole) := goodIn_app (goodIn_of _ (by decide +kernel)) ggL_wouldBe_L_whole
set_option maxRecDepth 20000 in
theorem ggL_wouldBe_X4_bestWidth : GoodIn wsL_wouldBe wsX4_bestWidth := goodIn_ca (goodIn_r _ [14, 15, 16, 17, 18, 19, 20, 21, 22, 23, 24, 25, 13, 26, 27, 28, 29, 30, 31, 32, 33, 34, 35, 36, 37, 38, 39, 40, 41, 42, 43, 44, 45, 46, 47, 48, 49, 50, 51, 52, 53, 54, 55, 56, 57, 58, 59, 60, 61, 62, 63, 64, 65, 66, 67, 68, 69, 70, 71, 72, 73, 74, 75, 76, 77, 78, 79, 80, 81, 82, 83, 84, 85, 86, 87, 88, 89, 90, 91, 92, 93, 94, 95, 96, 97, 98, 99, 100, 101, 102, 103, 104, 105, 106, 107, 108, 109, 110, 111, 112, 113, 145, 146, 147, 148, 149, 150, 151, 152, 153, 154, 155, 156, 157, 158, 159, 160, 161, 162, 163, 164, 165, 166, 167, 168, 169, 170] (by decide +kernel) (by decide +kernel)) (goodIn_sub (fun _ h => List.mem_cons_of_mem _ (List.mem_append_left _ (List.mem_append_right _ h))) (by decide +kernel))
set_option maxRecDepth 20000 in
theorem gL_wouldBe_X4_bestWidth : GoodIn wsL_wouldBe (wsV RL 43 RX4 yX4_bestWidth wsX4_bestWidth) := goodIn_app (goodIn_of _ (by decide +kernel)) ggL_wouldBe_X4_bestWidth
set_option maxRecDepth 20000 in
theorem ggL_wouldBe_L_exchange : GoodIn wsL_wouldBe wsL_exchange := goodIn_r _ [116] (by decide +kernel) (by decide +kernel)
set_option maxRecDepth 20000 in
theorem gL_wouldBe_L_exchange : GoodIn wsL_wouldBe (va_wsS RL 46 yL_exchange wsL_exchange) := goodIn_app (goodIn_of _ (by decide +kernel)) ggL_wouldBe_L_exchange
set_option maxRecDepth 20000 in
theorem ggL_wouldBe_X4_ifExchanged : GoodIn wsL_wouldBe wsX4_ifExchanged := goodIn_ca (goodIn_ca (goodIn_r _ [120, 15, 16, 121, 122, 17, 18, 19, 20, 21, 22, 123, 124, 13, 125, 126, 127, 128, 129, 27, 28, 29, 30, 31, 32, 33, 34, 35, 36, 37, 38, 39, 130, 131, 132, 133, 134, 135, 71, 72, 41, 42, 43, 44, 45, 46, 47, 48, 49, 50, 51, 52, 53, 54, 55, 56, 57, 58, 59, 60, 61, 62, 63, 64, 65, 66, 67, 68, 69, 70, 73, 74, 75, 76, 77, 78, 79, 80, 81, 82, 83, 84, 85, 86, 87, 88, 89, 90, 91, 92, 93, 94, 95, 96, 97, 98, 99, 100, 101, 102, 103, 104, 105, 106, 111, 112, 113, 145, 146, 147, 148, 149, 150, 151, 152, 153, 154, 155, 156, 157, 158, 159, 160, 161, 162, 163, 164, 165, 166, 167, 168, 169, 170] (by decide +kernel) (by decide +kernel)) (goodIn_sub (fun _ h => List.mem_cons_of_mem _ (List.mem_append_left _ (List.mem_append_right _ h))) (by decide +kernel))) (goodIn_sub (fun _ h => List.mem_cons_of_mem _ (List.mem_append_right _ h)) (by decide +kernel))
set_option maxRecDepth 20000 in
theorem gL_wouldBe_X4_ifExchanged : GoodIn wsL_wouldBe (wsV RL 50 RX4 yX4_ifExchanged wsX4_ifExchanged) := goodIn_app (goodIn_of _ (by decide +kernel)) ggL_wouldBe_X4_ifExchanged
set_option maxRecDepth 20000 in
theorem ggL_wouldBe_X4_leastSetting : GoodIn wsL_wouldBe wsX4_leastSetting := goodIn_r _ [139, 140, 141, 142, 13, 143, 27, 17, 28, 144, 29, 19, 30, 31, 32, 33, 34, 35, 36, 37, 38, 22, 39, 43, 44, 45, 46, 47, 48, 49, 50, 51, 52, 53, 54, 55, 56, 57, 58, 59, 60, 61, 62, 63, 64, 65, 66, 67, 68, 69, 70, 71, 72, 73, 74, 75, 76, 77, 78, 79, 80, 81, 82, 83, 84, 85, 86, 87, 88, 89, 90, 91, 92, 93, 94, 95, 96, 97, 98, 99, 100, 101, 102, 103, 104, 105, 106, 41, 42, 145, 146, 147, 148, 149, 150, 151, 152, 153, 154, 155, 156, 157, 158, 159, 160, 161, 162, 163, 164, 165, 166, 167, 168, 169, 170] (by decide +kernel) (by decide +kernel)
set_option maxRecDepth 20000 in
theorem gL_wouldBe_X4_leastSetting : GoodIn wsL_wouldBe (wsV RL 53 RX4 yX4_leastSetting wsX4_leastSetting) := goodIn_app (goodIn_of _ (by decide +kernel)) ggL_wouldBe_X4_leastSetting
theorem dL_wouldBe_0 : decode cL_wouldBe 0 = .ok (.bipush 24, 2) := by decide +kernel
theorem dL_wouldBe_2 : decode cL_wouldBe 2 = .ok (.newarray .int, 2) := by decide +kernel
theorem dL_wouldBe_4 : decode cL_wouldBe 4 = .ok (.astore 6, 2) := by decide +kernel
theorem dL_wouldBe_6 : decode cL_wouldBe 6 = .ok (.bipush 24, 2) := by decide +kernel
theorem dL_wouldBe_8 : decode cL_wouldBe 8 = .ok (.newarray .int, 2) := by decide +kernel
theorem dL_wouldBe_10 : decode cL_wouldBe 10 = .ok (.astore 7, 2) := by decide +kernel
theorem dL_wouldBe_12 : decode cL_wouldBe 12 = .ok (.bipush 24, 2) := by decide +kernel
theorem dL_wouldBe_14 : decode cL_wouldBe 14 = .ok (.newarray .int, 2) := by decide +kernel
theorem dL_wouldBe_16 : decode cL_wouldBe 16 = .ok (.astore 8, 2) := by decide +kernel
theorem dL_wouldBe_18 : decode cL_wouldBe 18 = .ok (.aload_n 1, 1) := by decide +kernel
theorem dL_wouldBe_19 : decode cL_wouldBe 19 = .ok (.aload_n 2, 1) := by decide +kernel
theorem dL_wouldBe_20 : decode cL_wouldBe 20 = .ok (.aload_n 3, 1) := by decide +kernel
theorem dL_wouldBe_21 : decode cL_wouldBe 21 = .ok (.aload 6, 2) := by decide +kernel
theorem dL_wouldBe_23 : decode cL_wouldBe 23 = .ok (.aload 7, 2) := by decide +kernel
theorem dL_wouldBe_25 : decode cL_wouldBe 25 = .ok (.aload 8, 2) := by decide +kernel
theorem dL_wouldBe_27 : decode cL_wouldBe 27 = .ok (.aload 4, 2) := by decide +kernel
theorem dL_wouldBe_29 : decode cL_wouldBe 29 = .ok (.invokestatic 39, 3) := by decide +kernel
theorem dL_wouldBe_32 : decode cL_wouldBe 32 = .ok (.aload_n 1, 1) := by decide +kernel
theorem dL_wouldBe_33 : decode cL_wouldBe 33 = .ok (.aload_n 2, 1) := by decide +kernel
theorem dL_wouldBe_34 : decode cL_wouldBe 34 = .ok (.aload 6, 2) := by decide +kernel
theorem dL_wouldBe_36 : decode cL_wouldBe 36 = .ok (.aload 4, 2) := by decide +kernel
theorem dL_wouldBe_38 : decode cL_wouldBe 38 = .ok (.invokestatic 11, 3) := by decide +kernel
theorem dL_wouldBe_41 : decode cL_wouldBe 41 = .ok (.istore 9, 2) := by decide +kernel
theorem dL_wouldBe_43 : decode cL_wouldBe 43 = .ok (.aload_n 2, 1) := by decide +kernel
theorem dL_wouldBe_44 : decode cL_wouldBe 44 = .ok (.iload 5, 2) := by decide +kernel
theorem dL_wouldBe_46 : decode cL_wouldBe 46 = .ok (.iaload, 1) := by decide +kernel
theorem dL_wouldBe_47 : decode cL_wouldBe 47 = .ok (.istore 10, 2) := by decide +kernel
theorem dL_wouldBe_49 : decode cL_wouldBe 49 = .ok (.iconst 0, 1) := by decide +kernel
theorem dL_wouldBe_50 : decode cL_wouldBe 50 = .ok (.istore 11, 2) := by decide +kernel
theorem dL_wouldBe_52 : decode cL_wouldBe 52 = .ok (.iconst 0, 1) := by decide +kernel
theorem dL_wouldBe_53 : decode cL_wouldBe 53 = .ok (.istore 12, 2) := by decide +kernel
theorem dL_wouldBe_55 : decode cL_wouldBe 55 = .ok (.iconst 1, 1) := by decide +kernel
theorem dL_wouldBe_56 : decode cL_wouldBe 56 = .ok (.istore 13, 2) := by decide +kernel
theorem dL_wouldBe_58 : decode cL_wouldBe 58 = .ok (.iload 13, 2) := by decide +kernel
theorem dL_wouldBe_60 : decode cL_wouldBe 60 = .ok (.bipush 7, 2) := by decide +kernel
theorem dL_wouldBe_62 : decode cL_wouldBe 62 = .ok (.if_icmp .ge 84, 3) := by decide +kernel
theorem dL_wouldBe_65 : decode cL_wouldBe 65 = .ok (.aload_n 2, 1) := by decide +kernel
theorem dL_wouldBe_66 : decode cL_wouldBe 66 = .ok (.iload 5, 2) := by decide +kernel
theorem dL_wouldBe_68 : decode cL_wouldBe 68 = .ok (.iload 13, 2) := by decide +kernel
theorem dL_wouldBe_70 : decode cL_wouldBe 70 = .ok (.iastore, 1) := by decide +kernel
theorem dL_wouldBe_71 : decode cL_wouldBe 71 = .ok (.aload_n 1, 1) := by decide +kernel
theorem dL_wouldBe_72 : decode cL_wouldBe 72 = .ok (.aload_n 2, 1) := by decide +kernel
theorem dL_wouldBe_73 : decode cL_wouldBe 73 = .ok (.aload_n 3, 1) := by decide +kernel
theorem dL_wouldBe_74 : decode cL_wouldBe 74 = .ok (.aload 6, 2) := by decide +kernel
theorem dL_wouldBe_76 : decode cL_wouldBe 76 = .ok (.aload 7, 2) := by decide +kernel
theorem dL_wouldBe_78 : decode cL_wouldBe 78 = .ok (.aload 8, 2) := by decide +kernel
theorem dL_wouldBe_80 : decode cL_wouldBe 80 = .ok (.aload 4, 2) := by decide +kernel
theorem dL_wouldBe_82 : decode cL_wouldBe 82 = .ok (.invokestatic 39, 3) := by decide +kernel
theorem dL_wouldBe_85 : decode cL_wouldBe 85 = .ok (.aload_n 1, 1) := by decide +kernel
theorem dL_wouldBe_86 : decode cL_wouldBe 86 = .ok (.aload_n 2, 1) := by decide +kernel
theorem dL_wouldBe_87 : decode cL_wouldBe 87 = .ok (.aload 6, 2) := by decide +kernel
theorem dL_wouldBe_89 : decode cL_wouldBe 89 = .ok (.aload 4, 2) := by decide +kernel
theorem dL_wouldBe_91 : decode cL_wouldBe 91 = .ok (.invokestatic 11, 3) := by decide +kernel
theorem dL_wouldBe_94 : decode cL_wouldBe 94 = .ok (.istore 14, 2) := by decide +kernel
theorem dL_wouldBe_96 : decode cL_wouldBe 96 = .ok (.iload 13, 2) := by decide +kernel
theorem dL_wouldBe_98 : decode cL_wouldBe 98 = .ok (.iconst 1, 1) := by decide +kernel
theorem dL_wouldBe_99 : decode cL_wouldBe 99 = .ok (.if_icmp .eq 10, 3) := by decide +kernel
theorem dL_wouldBe_102 : decode cL_wouldBe 102 = .ok (.iload 14, 2) := by decide +kernel
theorem dL_wouldBe_104 : decode cL_wouldBe 104 = .ok (.iload 12, 2) := by decide +kernel
theorem dL_wouldBe_106 : decode cL_wouldBe 106 = .ok (.if_icmp .ge 8, 3) := by decide +kernel
theorem dL_wouldBe_109 : decode cL_wouldBe 109 = .ok (.iload 13, 2) := by decide +kernel
theorem dL_wouldBe_111 : decode cL_wouldBe 111 = .ok (.goto 5, 3) := by decide +kernel
theorem dL_wouldBe_114 : decode cL_wouldBe 114 = .ok (.iload 11, 2) := by decide +kernel
theorem dL_wouldBe_116 : decode cL_wouldBe 116 = .ok (.istore 11, 2) := by decide +kernel
theorem dL_wouldBe_118 : decode cL_wouldBe 118 = .ok (.iload 13, 2) := by decide +kernel
theorem dL_wouldBe_120 : decode cL_wouldBe 120 = .ok (.iconst 1, 1) := by decide +kernel
theorem dL_wouldBe_121 : decode cL_wouldBe 121 = .ok (.if_icmp .eq 10, 3) := by decide +kernel
theorem dL_wouldBe_124 : decode cL_wouldBe 124 = .ok (.iload 14, 2) := by decide +kernel
theorem dL_wouldBe_126 : decode cL_wouldBe 126 = .ok (.iload 12, 2) := by decide +kernel
theorem dL_wouldBe_128 : decode cL_wouldBe 128 = .ok (.if_icmp .ge 8, 3) := by decide +kernel
theorem dL_wouldBe_131 : decode cL_wouldBe 131 = .ok (.iload 14, 2) := by decide +kernel
theorem dL_wouldBe_133 : decode cL_wouldBe 133 = .ok (.goto 5, 3) := by decide +kernel
theorem dL_wouldBe_136 : decode cL_wouldBe 136 = .ok (.iload 12, 2) := by decide +kernel
theorem dL_wouldBe_138 : decode cL_wouldBe 138 = .ok (.istore 12, 2) := by decide +kernel
theorem dL_wouldBe_140 : decode cL_wouldBe 140 = .ok (.iinc 13 1, 3) := by decide +kernel
theorem dL_wouldBe_143 : decode cL_wouldBe 143 = .ok (.goto (-85), 3) := by decide +kernel
theorem dL_wouldBe_146 : decode cL_wouldBe 146 = .ok (.aload_n 2, 1) := by decide +kernel
theorem dL_wouldBe_147 : decode cL_wouldBe 147 = .ok (.iload 5, 2) := by decide +kernel
theorem dL_wouldBe_149 : decode cL_wouldBe 149 = .ok (.iload 10, 2) := by decide +kernel
theorem dL_wouldBe_151 : decode cL_wouldBe 151 = .ok (.iastore, 1) := by decide +kernel
theorem dL_wouldBe_152 : decode cL_wouldBe 152 = .ok (.aload_n 0, 1) := by decide +kernel
theorem dL_wouldBe_153 : decode cL_wouldBe 153 = .ok (.iload 5, 2) := by decide +kernel
theorem dL_wouldBe_155 : decode cL_wouldBe 155 = .ok (.invokevirtual 43, 3) := by decide +kernel
theorem dL_wouldBe_158 : decode cL_wouldBe 158 = .ok (.iload 11, 2) := by decide +kernel
theorem dL_wouldBe_160 : decode cL_wouldBe 160 = .ok (.if_icmp .eq 5, 3) := by decide +kernel
theorem dL_wouldBe_163 : decode cL_wouldBe 163 = .ok (.iconst 0, 1) := by decide +kernel
theorem dL_wouldBe_164 : decode cL_wouldBe 164 = .ok (.ireturn, 1) := by decide +kernel
theorem dL_wouldBe_165 : decode cL_wouldBe 165 = .ok (.iload 5, 2) := by decide +kernel
theorem dL_wouldBe_167 : decode cL_wouldBe 167 = .ok (.iconst 1, 1) := by decide +kernel
theorem dL_wouldBe_168 : decode cL_wouldBe 168 = .ok (.iadd, 1) := by decide +kernel
theorem dL_wouldBe_169 : decode cL_wouldBe 169 = .ok (.aload 4, 2) := by decide +kernel
theorem dL_wouldBe_171 : decode cL_wouldBe 171 = .ok (.iconst 1, 1) := by decide +kernel
theorem dL_wouldBe_172 : decode cL_wouldBe 172 = .ok (.iaload, 1) := by decide +kernel
theorem dL_wouldBe_173 : decode cL_wouldBe 173 = .ok (.if_icmp .ge 101, 3) := by decide +kernel
theorem dL_wouldBe_176 : decode cL_wouldBe 176 = .ok (.aload_n 1, 1) := by decide +kernel
theorem dL_wouldBe_177 : decode cL_wouldBe 177 = .ok (.iload 5, 2) := by decide +kernel
theorem dL_wouldBe_179 : decode cL_wouldBe 179 = .ok (.invokestatic 46, 3) := by decide +kernel
theorem dL_wouldBe_182 : decode cL_wouldBe 182 = .ok (.aload_n 2, 1) := by decide +kernel
theorem dL_wouldBe_183 : decode cL_wouldBe 183 = .ok (.iload 5, 2) := by decide +kernel
theorem dL_wouldBe_185 : decode cL_wouldBe 185 = .ok (.invokestatic 46, 3) := by decide +kernel
theorem dL_wouldBe_188 : decode cL_wouldBe 188 = .ok (.aload_n 3, 1) := by decide +kernel
theorem dL_wouldBe_189 : decode cL_wouldBe 189 = .ok (.iload 5, 2) := by decide +kernel
theorem dL_wouldBe_191 : decode cL_wouldBe 191 = .ok (.invokestatic 46, 3) := by decide +kernel
theorem dL_wouldBe_194 : decode cL_wouldBe 194 = .ok (.aload_n 1, 1) := by decide +kernel
theorem dL_wouldBe_195 : decode cL_wouldBe 195 = .ok (.aload_n 2, 1) := by decide +kernel
theorem dL_wouldBe_196 : decode cL_wouldBe 196 = .ok (.aload_n 3, 1) := by decide +kernel
theorem dL_wouldBe_197 : decode cL_wouldBe 197 = .ok (.aload 6, 2) := by decide +kernel
theorem dL_wouldBe_199 : decode cL_wouldBe 199 = .ok (.aload 7, 2) := by decide +kernel
theorem dL_wouldBe_201 : decode cL_wouldBe 201 = .ok (.aload 8, 2) := by decide +kernel
theorem dL_wouldBe_203 : decode cL_wouldBe 203 = .ok (.aload 4, 2) := by decide +kernel
theorem dL_wouldBe_205 : decode cL_wouldBe 205 = .ok (.invokestatic 39, 3) := by decide +kernel
theorem dL_wouldBe_208 : decode cL_wouldBe 208 = .ok (.aload_n 1, 1) := by decide +kernel
theorem dL_wouldBe_209 : decode cL_wouldBe 209 = .ok (.aload_n 2, 1) := by decide +kernel
theorem dL_wouldBe_210 : decode cL_wouldBe 210 = .ok (.aload 6, 2) := by decide +kernel
theorem dL_wouldBe_212 : decode cL_wouldBe 212 = .ok (.aload 4, 2) := by decide +kernel
theorem dL_wouldBe_214 : decode cL_wouldBe 214 = .ok (.invokestatic 11, 3) := by decide +kernel
theorem dL_wouldBe_217 : decode cL_wouldBe 217 = .ok (.istore 13, 2) := by decide +kernel
theorem dL_wouldBe_219 : decode cL_wouldBe 219 = .ok (.aload_n 1, 1) := by decide +kernel
theorem dL_wouldBe_220 : decode cL_wouldBe 220 = .ok (.iload 5, 2) := by decide +kernel
theorem dL_wouldBe_222 : decode cL_wouldBe 222 = .ok (.invokestatic 46, 3) := by decide +kernel
theorem dL_wouldBe_225 : decode cL_wouldBe 225 = .ok (.aload_n 2, 1) := by decide +kernel
theorem dL_wouldBe_226 : decode cL_wouldBe 226 = .ok (.iload 5, 2) := by decide +kernel
theorem dL_wouldBe_228 : decode cL_wouldBe 228 = .ok (.invokestatic 46, 3) := by decide +kernel
theorem dL_wouldBe_231 : decode cL_wouldBe 231 = .ok (.aload_n 3, 1) := by decide +kernel
theorem dL_wouldBe_232 : decode cL_wouldBe 232 = .ok (.iload 5, 2) := by decide +kernel
theorem dL_wouldBe_234 : decode cL_wouldBe 234 = .ok (.invokestatic 46, 3) := by decide +kernel
theorem dL_wouldBe_237 : decode cL_wouldBe 237 = .ok (.aload_n 0, 1) := by decide +kernel
theorem dL_wouldBe_238 : decode cL_wouldBe 238 = .ok (.iload 5, 2) := by decide +kernel
theorem dL_wouldBe_240 : decode cL_wouldBe 240 = .ok (.iconst 0, 1) := by decide +kernel
theorem dL_wouldBe_241 : decode cL_wouldBe 241 = .ok (.invokevirtual 50, 3) := by decide +kernel
theorem dL_wouldBe_244 : decode cL_wouldBe 244 = .ok (.iload 13, 2) := by decide +kernel
theorem dL_wouldBe_246 : decode cL_wouldBe 246 = .ok (.sipush 1000, 3) := by decide +kernel
theorem dL_wouldBe_249 : decode cL_wouldBe 249 = .ok (.idiv, 1) := by decide +kernel
theorem dL_wouldBe_250 : decode cL_wouldBe 250 = .ok (.bipush 100, 2) := by decide +kernel
theorem dL_wouldBe_252 : decode cL_wouldBe 252 = .ok (.irem, 1) := by decide +kernel
theorem dL_wouldBe_253 : decode cL_wouldBe 253 = .ok (.if_icmp .ne 19, 3) := by decide +kernel
theorem dL_wouldBe_256 : decode cL_wouldBe 256 = .ok (.aload_n 0, 1) := by decide +kernel
theorem dL_wouldBe_257 : decode cL_wouldBe 257 = .ok (.iload 5, 2) := by decide +kernel
theorem dL_wouldBe_259 : decode cL_wouldBe 259 = .ok (.iconst 1, 1) := by decide +kernel
theorem dL_wouldBe_260 : decode cL_wouldBe 260 = .ok (.invokevirtual 50, 3) := by decide +kernel
theorem dL_wouldBe_263 : decode cL_wouldBe 263 = .ok (.iload 13, 2) := by decide +kernel
theorem dL_wouldBe_265 : decode cL_wouldBe 265 = .ok (.sipush 1000, 3) := by decide +kernel
theorem dL_wouldBe_268 : decode cL_wouldBe 268 = .ok (.irem, 1) := by decide +kernel
theorem dL_wouldBe_269 : decode cL_wouldBe 269 = .ok (.if_icmp .eq 5, 3) := by decide +kernel
theorem dL_wouldBe_272 : decode cL_wouldBe 272 = .ok (.iconst 0, 1) := by decide +kernel
theorem dL_wouldBe_273 : decode cL_wouldBe 273 = .ok (.ireturn, 1) := by decide +kernel
theorem dL_wouldBe_274 : decode cL_wouldBe 274 = .ok (.aload 4, 2) := by decide +kernel
theorem dL_wouldBe_276 : decode cL_wouldBe 276 = .ok (.iconst 0, 1) := by decide +kernel
theorem dL_wouldBe_277 : decode cL_wouldBe 277 = .ok (.iaload, 1) := by decide +kernel
theorem dL_wouldBe_278 : decode cL_wouldBe 278 = .ok (.istore 13, 2) := by decide +kernel
theorem dL_wouldBe_280 : decode cL_wouldBe 280 = .ok (.iconst 0, 1) := by decide +kernel
theorem dL_wouldBe_281 : decode cL_wouldBe 281 = .ok (.istore 14, 2) := by decide +kernel
theorem dL_wouldBe_283 : decode cL_wouldBe 283 = .ok (.bipush 9, 2) := by decide +kernel
theorem dL_wouldBe_285 : decode cL_wouldBe 285 = .ok (.istore 15, 2) := by decide +kernel
theorem dL_wouldBe_287 : decode cL_wouldBe 287 = .ok (.iload 15, 2) := by decide +kernel
theorem dL_wouldBe_289 : decode cL_wouldBe 289 = .ok (.iload 13, 2) := by decide +kernel
theorem dL_wouldBe_291 : decode cL_wouldBe 291 = .ok (.if_icmp .gt 87, 3) := by decide +kernel
theorem dL_wouldBe_294 : decode cL_wouldBe 294 = .ok (.iload 14, 2) := by decide +kernel
theorem dL_wouldBe_296 : decode cL_wouldBe 296 = .ok (.ifCond .ne 82, 3) := by decide +kernel
theorem dL_wouldBe_299 : decode cL_wouldBe 299 = .ok (.aload 4, 2) := by decide +kernel
theorem dL_wouldBe_301 : decode cL_wouldBe 301 = .ok (.iconst 0, 1) := by decide +kernel
theorem dL_wouldBe_302 : decode cL_wouldBe 302 = .ok (.iload 15, 2) := by decide +kernel
theorem dL_wouldBe_304 : decode cL_wouldBe 304 = .ok (.iastore, 1) := by decide +kernel
theorem dL_wouldBe_305 : decode cL_wouldBe 305 = .ok (.aload_n 1, 1) := by decide +kernel
theorem dL_wouldBe_306 : decode cL_wouldBe 306 = .ok (.aload_n 2, 1) := by decide +kernel
theorem dL_wouldBe_307 : decode cL_wouldBe 307 = .ok (.aload_n 3, 1) := by decide +kernel
theorem dL_wouldBe_308 : decode cL_wouldBe 308 = .ok (.aload 6, 2) := by decide +kernel
theorem dL_wouldBe_310 : decode cL_wouldBe 310 = .ok (.aload 7, 2) := by decide +kernel
theorem dL_wouldBe_312 : decode cL_wouldBe 312 = .ok (.aload 8, 2) := by decide +kernel
theorem dL_wouldBe_314 : decode cL_wouldBe 314 = .ok (.aload 4, 2) := by decide +kernel
theorem dL_wouldBe_316 : decode cL_wouldBe 316 = .ok (.invokestatic 39, 3) := by decide +kernel
theorem dL_wouldBe_319 : decode cL_wouldBe 319 = .ok (.aload_n 1, 1) := by decide +kernel
theorem dL_wouldBe_320 : decode cL_wouldBe 320 = .ok (.aload_n 2, 1) := by decide +kernel
theorem dL_wouldBe_321 : decode cL_wouldBe 321 = .ok (.aload 6, 2) := by decide +kernel
theorem dL_wouldBe_323 : decode cL_wouldBe 323 = .ok (.aload 4, 2) := by decide +kernel
theorem dL_wouldBe_325 : decode cL_wouldBe 325 = .ok (.invokestatic 11, 3) := by decide +kernel
theorem dL_wouldBe_328 : decode cL_wouldBe 328 = .ok (.istore 16, 2) := by decide +kernel
theorem dL_wouldBe_330 : decode cL_wouldBe 330 = .ok (.iload 16, 2) := by decide +kernel
theorem dL_wouldBe_332 : decode cL_wouldBe 332 = .ok (.ldc 10, 2) := by decide +kernel
theorem dL_wouldBe_334 : decode cL_wouldBe 334 = .ok (.idiv, 1) := by decide +kernel
theorem dL_wouldBe_335 : decode cL_wouldBe 335 = .ok (.iload 9, 2) := by decide +kernel
theorem dL_wouldBe_337 : decode cL_wouldBe 337 = .ok (.ldc 10, 2) := by decide +kernel
theorem dL_wouldBe_339 : decode cL_wouldBe 339 = .ok (.idiv, 1) := by decide +kernel
theorem dL_wouldBe_340 : decode cL_wouldBe 340 = .ok (.if_icmp .gt 29, 3) := by decide +kernel
theorem dL_wouldBe_343 : decode cL_wouldBe 343 = .ok (.iload 16, 2) := by decide +kernel
theorem dL_wouldBe_345 : decode cL_wouldBe 345 = .ok (.sipush 1000, 3) := by decide +kernel
theorem dL_wouldBe_348 : decode cL_wouldBe 348 = .ok (.idiv, 1) := by decide +kernel
theorem dL_wouldBe_349 : decode cL_wouldBe 349 = .ok (.bipush 100, 2) := by decide +kernel
theorem dL_wouldBe_351 : decode cL_wouldBe 351 = .ok (.irem, 1) := by decide +kernel
theorem dL_wouldBe_352 : decode cL_wouldBe 352 = .ok (.iload 9, 2) := by decide +kernel
theorem dL_wouldBe_354 : decode cL_wouldBe 354 = .ok (.sipush 1000, 3) := by decide +kernel
theorem dL_wouldBe_357 : decode cL_wouldBe 357 = .ok (.idiv, 1) := by decide +kernel
theorem dL_wouldBe_358 : decode cL_wouldBe 358 = .ok (.bipush 100, 2) := by decide +kernel
theorem dL_wouldBe_360 : decode cL_wouldBe 360 = .ok (.irem, 1) := by decide +kernel
theorem dL_wouldBe_361 : decode cL_wouldBe 361 = .ok (.if_icmp .gt 8, 3) := by decide +kernel
theorem dL_wouldBe_364 : decode cL_wouldBe 364 = .ok (.iload 15, 2) := by decide +kernel
theorem dL_wouldBe_366 : decode cL_wouldBe 366 = .ok (.goto 4, 3) := by decide +kernel
theorem dL_wouldBe_369 : decode cL_wouldBe 369 = .ok (.iconst 0, 1) := by decide +kernel
theorem dL_wouldBe_370 : decode cL_wouldBe 370 = .ok (.istore 14, 2) := by decide +kernel
theorem dL_wouldBe_372 : decode cL_wouldBe 372 = .ok (.iinc 15 1, 3) := by decide +kernel
theorem dL_wouldBe_375 : decode cL_wouldBe 375 = .ok (.goto (-88), 3) := by decide +kernel
theorem dL_wouldBe_378 : decode cL_wouldBe 378 = .ok (.aload 4, 2) := by decide +kernel
theorem dL_wouldBe_380 : decode cL_wouldBe 380 = .ok (.iconst 0, 1) := by decide +kernel
theorem dL_wouldBe_381 : decode cL_wouldBe 381 = .ok (.iload 13, 2) := by decide +kernel
theorem dL_wouldBe_383 : decode cL_wouldBe 383 = .ok (.iastore, 1) := by decide +kernel
theorem dL_wouldBe_384 : decode cL_wouldBe 384 = .ok (.aload_n 0, 1) := by decide +kernel
theorem dL_wouldBe_385 : decode cL_wouldBe 385 = .ok (.invokevirtual 53, 3) := by decide +kernel
theorem dL_wouldBe_388 : decode cL_wouldBe 388 = .ok (.iload 14, 2) := by decide +kernel
theorem dL_wouldBe_390 : decode cL_wouldBe 390 = .ok (.if_icmp .ne 7, 3) := by decide +kernel
theorem dL_wouldBe_393 : decode cL_wouldBe 393 = .ok (.iconst 1, 1) := by decide +kernel
theorem dL_wouldBe_394 : decode cL_wouldBe 394 = .ok (.goto 4, 3) := by decide +kernel
theorem dL_wouldBe_397 : decode cL_wouldBe 397 = .ok (.iconst 0, 1) := by decide +kernel
theorem dL_wouldBe_398 : decode cL_wouldBe 398 = .ok (.ireturn, 1) := by decide +kernel
theorem dL_exchange_0 : decode cL_exchange 0 = .ok (.aload_n 0, 1) := by decide +kernel
theorem dL_exchange_1 : decode cL_exchange 1 = .ok (.iload_n 1, 1) := by decide +kernel
theorem dL_exchange_2 : decode cL_exchange 2 = .ok (.iaload, 1) := by decide +kernel
theorem dL_exchange_3 : decode cL_exchange 3 = .ok (.istore_n 2, 1) := by decide +kernel
theorem dL_exchange_4 : decode cL_exchange 4 = .ok (.aload_n 0, 1) := by decide +kernel
theorem dL_exchange_5 : decode cL_exchange 5 = .ok (.iload_n 1, 1) := by decide +kernel
theorem dL_exchange_6 : decode cL_exchange 6 = .ok (.aload_n 0, 1) := by decide +kernel
theorem dL_exchange_7 : decode cL_exchange 7 = .ok (.iload_n 1, 1) := by decide +kernel
theorem dL_exchange_8 : decode cL_exchange 8 = .ok (.iconst 1, 1) := by decide +kernel
theorem dL_exchange_9 : decode cL_exchange 9 = .ok (.iadd, 1) := by decide +kernel
theorem dL_exchange_10 : decode cL_exchange 10 = .ok (.iaload, 1) := by decide +kernel
theorem dL_exchange_11 : decode cL_exchange 11 = .ok (.iastore, 1) := by decide +kernel
theorem dL_exchange_12 : decode cL_exchange 12 = .ok (.aload_n 0, 1) := by decide +kernel
theorem dL_exchange_13 : decode cL_exchange 13 = .ok (.iload_n 1, 1) := by decide +kernel
theorem dL_exchange_14 : decode cL_exchange 14 = .ok (.iconst 1, 1) := by decide +kernel
theorem dL_exchange_15 : decode cL_exchange 15 = .ok (.iadd, 1) := by decide +kernel
theorem dL_exchange_16 : decode cL_exchange 16 = .ok (.iload_n 2, 1) := by decide +kernel
theorem dL_exchange_17 : decode cL_exchange 17 = .ok (.iastore, 1) := by decide +kernel
theorem dL_exchange_18 : decode cL_exchange 18 = .ok (.return_, 1) := by decide +kernel
theorem dL_put_0 : decode cL_put 0 = .ok (.aload_n 1, 1) := by decide +kernel
theorem dL_put_1 : decode cL_put 1 = .ok (.iconst 1, 1) := by decide +kernel
theorem dL_put_2 : decode cL_put 2 = .ok (.iaload, 1) := by decide +kernel
theorem dL_put_3 : decode cL_put 3 = .ok (.istore 4, 2) := by decide +kernel
theorem dL_put_5 : decode cL_put 5 = .ok (.iload 4, 2) := by decide +kernel
theorem dL_put_7 : decode cL_put 7 = .ok (.iload_n 2, 1) := by decide +kernel
theorem dL_put_8 : decode cL_put 8 = .ok (.if_icmp .le 19, 3) := by decide +kernel
theorem dL_put_11 : decode cL_put 11 = .ok (.aload_n 0, 1) := by decide +kernel
theorem dL_put_12 : decode cL_put 12 = .ok (.iload 4, 2) := by decide +kernel
theorem dL_put_14 : decode cL_put 14 = .ok (.aload_n 0, 1) := by decide +kernel
theorem dL_put_15 : decode cL_put 15 = .ok (.iload 4, 2) := by decide +kernel
theorem dL_put_17 : decode cL_put 17 = .ok (.iconst 1, 1) := by decide +kernel
theorem dL_put_18 : decode cL_put 18 = .ok (.isub, 1) := by decide +kernel
theorem dL_put_19 : decode cL_put 19 = .ok (.iaload, 1) := by decide +kernel
theorem dL_put_20 : decode cL_put 20 = .ok (.iastore, 1) := by decide +kernel
theorem dL_put_21 : decode cL_put 21 = .ok (.iinc 4 (-1), 3) := by decide +kernel
theorem dL_put_24 : decode cL_put 24 = .ok (.goto (-19), 3) := by decide +kernel
theorem dL_put_27 : decode cL_put 27 = .ok (.aload_n 0, 1) := by decide +kernel
theorem dL_put_28 : decode cL_put 28 = .ok (.iload_n 2, 1) := by decide +kernel
theorem dL_put_29 : decode cL_put 29 = .ok (.iload_n 3, 1) := by decide +kernel
theorem dL_put_30 : decode cL_put 30 = .ok (.iastore, 1) := by decide +kernel
theorem dL_put_31 : decode cL_put 31 = .ok (.return_, 1) := by decide +kernel
theorem dL_take_0 : decode cL_take 0 = .ok (.iload_n 2, 1) := by decide +kernel
theorem dL_take_1 : decode cL_take 1 = .ok (.istore_n 3, 1) := by decide +kernel
theorem dL_take_2 : decode cL_take 2 = .ok (.iload_n 3, 1) := by decide +kernel
theorem dL_take_3 : decode cL_take 3 = .ok (.aload_n 1, 1) := by decide +kernel
theorem dL_take_4 : decode cL_take 4 = .ok (.iconst 1, 1) := by decide +kernel
theorem dL_take_5 : decode cL_take 5 = .ok (.iaload, 1) := by decide +kernel
theorem dL_take_6 : decode cL_take 6 = .ok (.iconst 1, 1) := by decide +kernel
theorem dL_take_7 : decode cL_take 7 = .ok (.isub, 1) := by decide +kernel
theorem dL_take_8 : decode cL_take 8 = .ok (.if_icmp .ge 17, 3) := by decide +kernel
theorem dL_take_11 : decode cL_take 11 = .ok (.aload_n 0, 1) := by decide +kernel
theorem dL_take_12 : decode cL_take 12 = .ok (.iload_n 3, 1) := by decide +kernel
theorem dL_take_13 : decode cL_take 13 = .ok (.aload_n 0, 1) := by decide +kernel
theorem dL_take_14 : decode cL_take 14 = .ok (.iload_n 3, 1) := by decide +kernel
theorem dL_take_15 : decode cL_take 15 = .ok (.iconst 1, 1) := by decide +kernel
theorem dL_take_16 : decode cL_take 16 = .ok (.iadd, 1) := by decide +kernel
theorem dL_take_17 : decode cL_take 17 = .ok (.iaload, 1) := by decide +kernel
theorem dL_take_18 : decode cL_take 18 = .ok (.iastore, 1) := by decide +kernel
theorem dL_take_19 : decode cL_take 19 = .ok (.iinc 3 1, 3) := by decide +kernel
theorem dL_take_22 : decode cL_take 22 = .ok (.goto (-20), 3) := by decide +kernel
theorem dL_take_25 : decode cL_take 25 = .ok (.return_, 1) := by decide +kernel
set_option maxRecDepth 20000 in
theorem ggL_law_X4_init : GoodIn wsL_law wsX4_init := goodIn_r _ [6, 7, 8, 9, 10, 11, 12, 13, 14, 15, 16, 17, 18, 19, 20, 21, 22, 23, 24, 25, 26, 27, 28, 29, 30, 3, 31, 32, 33, 34, 35, 36, 37, 38, 39, 40, 41, 42, 43, 44, 45, 46, 47, 48, 49, 50, 51, 52, 53, 54, 55, 56, 57, 58, 59, 60, 61, 62, 63, 64, 312, 313, 314, 315, 316, 306, 307, 308, 309, 310, 311, 317, 318, 319, 320, 321, 322, 323, 324, 325, 326, 327, 328, 329, 330, 331, 332, 333, 334, 335] (by decide +kernel) (by decide +kernel)
set_option maxRecDepth 20000 in
theorem gL_law_X4_init : GoodIn wsL_law (wsX4_init) := ggL_law_X4_init
set_option maxRecDepth 20000 in
theorem ggL_law_L_cell : GoodIn wsL_law wsL_cell := goodIn_r _ [68, 69, 70] (by decide +kernel) (by decide +kernel)
set_option maxRecDepth 20000 in
theorem gL_law_L_cell : GoodIn wsL_law (va_wsS RL 58 yL_cell wsL_cell) := goodIn_app (goodIn_of _ (by decide +kernel)) ggL_law_L_cell
set_option maxRecDepth 20000 in
theorem ggL_law_L_low : GoodIn wsL_law wsL_low := goodIn_r _ [73, 74] (by decide +kernel) (by decide +kernel)
set_option maxRecDepth 20000 in
theorem gL_law_L_low : GoodIn wsL_law (va_wsS RL 62 yL_low wsL_low) := goodIn_app (goodIn_of _ (by decide +kernel)) ggL_law_L_low
set_option maxRecDepth 20000 in
theorem ggL_law_L_put : GoodIn wsL_law wsL_put := goodIn_r _ [77] (by decide +kernel) (by decide +kernel)
set_option maxRecDepth 20000 in
theorem gL_law_L_put : GoodIn wsL_law (va_wsS RL 65 yL_put wsL_put) := goodIn_app (goodIn_of _ (by decide +kernel)) ggL_law_L_put
set_option maxRecDepth 20000 in
theorem ggL_law_X4_put : GoodIn wsL_law wsX4_put := goodIn_ca (goodIn_ca (goodIn_ca (goodIn_r _ [81, 82, 83, 84, 85, 86, 87, 13, 23, 17, 88, 89, 2, 90, 91, 92, 93, 94, 22, 95, 96, 59, 97, 98, 99, 100, 58, 101, 102, 103, 104, 105, 12, 106, 107, 31, 108, 109, 110, 111, 32, 33, 34, 35, 112, 113, 114, 115, 116, 117, 118, 119, 120, 16, 121, 122, 53, 123, 124, 125, 126, 42, 43, 44, 45, 46, 50, 51, 52, 127, 128, 129, 130, 47, 48, 49, 131, 132, 133, 134, 135, 136, 137, 138, 139, 140, 141, 142, 143, 144, 145, 146, 147, 148, 149, 150, 151, 39, 40, 41, 152, 153, 154, 155, 156, 157, 158, 159, 160, 161, 162, 163, 164, 165, 166, 167, 306, 307, 308, 309, 310, 311, 312, 313, 314, 315, 316, 332, 333, 317, 318, 319, 320, 321, 322, 323, 324, 325, 326, 327, 328, 329, 330, 331] (by decide +kernel) (by decide +kernel)) (goodIn_sub (fun _ h => List.mem_append_left _ (List.mem_append_left _ (List.mem_append_right _ h))) (by decide +kernel))) (goodIn_sub (fun _ h => List.mem_append_left _ (List.mem_append_right _ h)) (by decide +kernel))) (goodIn_sub (fun _ h => List.mem_append_right _ h) (by decide +kernel))
set_option maxRecDepth 20000 in
theorem gL_law_X4_put : GoodIn wsL_law (wsV RL 69 RX4 yX4_put wsX4_put) := goodIn_app (goodIn_of _ (by decide +kernel)) ggL_law_X4_put
set_option maxRecDepth 20000 in
theorem ggL_law_L_take : GoodIn wsL_law wsL_take := goodIn_r _ [170] (by decide +kernel) (by decide +kernel)
set_option maxRecDepth 20000 in
theorem gL_law_L_take : GoodIn wsL_law (va_wsS RL 72 yL_take wsL_take) := goodIn_app (goodIn_of _ (by decide +kernel)) ggL_law_L_take
set_option maxRecDepth 20000 in
theorem ggL_law_X4_take : GoodIn wsL_law wsX4_take := goodIn_ca (goodIn_r _ [174, 82, 83, 13, 23, 17, 175, 12, 176, 177, 34, 94, 22, 95, 96, 59, 97, 98, 99, 100, 58, 101, 102, 103, 104, 105, 106, 107, 31, 108, 109, 110, 111, 32, 33, 35, 178, 179, 180, 181, 182, 183, 184, 120, 16, 121, 122, 53, 123, 124, 125, 126, 42, 43, 44, 45, 46, 50, 51, 52, 127, 128, 129, 130, 47, 48, 49, 131, 132, 133, 134, 135, 2, 136, 137, 138, 139, 140, 141, 142, 143, 144, 145, 146, 147, 148, 149, 150, 151, 39, 40, 41, 152, 153, 154, 155, 156, 157, 158, 159, 160, 161, 162, 163, 164, 165, 166, 167, 118, 119, 306, 307, 308, 309, 310, 311, 312, 313, 314, 315, 316, 332, 333, 317, 318, 319, 320, 321, 322, 323, 324, 325, 326, 327, 328, 329, 330, 331] (by decide +kernel) (by decide +kernel)) (goodIn_sub (fun _ h => List.mem_append_left _ (List.mem_append_left _ (List.mem_append_right _ h))) (by decide +kernel))
set_option maxRecDepth 20000 in
theorem gL_law_X4_take : GoodIn wsL_law (wsV RL 76 RX4 yX4_take wsX4_take) := goodIn_app (goodIn_of _ (by decide +kernel)) ggL_law_X4_take
set_option maxRecDepth 20000 in
theorem ggL_law_X4_set : GoodIn wsL_law wsX4_set := goodIn_ca (goodIn_r _ [188, 84, 85, 13, 23, 17, 88, 89, 2, 90, 94, 22, 95, 96, 59, 97, 98, 99, 100, 58, 101, 102, 103, 104, 105, 12, 106, 107, 31, 108, 109, 110, 111, 32, 33, 34, 35, 120, 16, 121, 122, 53, 123, 124, 125, 126, 42, 43, 44, 45, 46, 50, 51, 52, 127, 128, 129, 130, 47, 48, 49, 131, 132, 133, 134, 135, 136, 137, 138, 139, 140, 141, 142, 143, 144, 145, 146, 147, 148, 149, 150, 151, 39, 40, 41, 152, 153, 154, 155, 156, 157, 158, 159, 160, 161, 162, 163, 164, 165, 166, 167, 118, 119, 306, 307, 308, 309, 310, 311, 312, 313, 314, 315, 316, 332, 333, 317, 318, 319, 320, 321, 322, 323, 324, 325, 326, 327, 328, 329, 330, 331] (by decide +kernel) (by decide +kernel)) (goodIn_sub (fun _ h => List.mem_append_left _ (List.mem_append_right _ h)) (by decide +kernel))
set_option maxRecDepth 20000 in
theorem gL_law_X4_set : GoodIn wsL_law (wsV RL 78 RX4 yX4_set wsX4_set) := goodIn_app (goodIn_of _ (by decide +kernel)) ggL_law_X4_set
set_option maxRecDepth 20000 in
theorem ggL_law_L_pour : GoodIn wsL_law wsL_pour := goodIn_r _ [191] (by decide +kernel) (by decide +kernel)
set_option maxRecDepth 20000 in
theorem gL_law_L_pour : GoodIn wsL_law (va_wsS RL 39 yL_pour wsL_pour) := goodIn_app (goodIn_of _ (by decide +kernel)) ggL_law_L_pour
set_option maxRecDepth 20000 in
theorem ggL_law_X4_change : GoodIn wsL_law wsX4_change := goodIn_ca (goodIn_ca (goodIn_r _ [195, 82, 83, 84, 85, 13, 23, 17, 175, 12, 176, 177, 34, 91, 92, 2, 93, 88, 89, 90, 94, 22, 95, 96, 59, 97, 98, 99, 100, 58, 101, 102, 103, 104, 105, 106, 107, 31, 108, 109, 110, 111, 32, 33, 35, 196, 118, 119, 120, 16, 121, 122, 53, 123, 124, 125, 126, 42, 43, 44, 45, 46, 50, 51, 52, 127, 128, 129, 130, 47, 48, 49, 131, 132, 133, 134, 135, 136, 137, 138, 139, 140, 141, 142, 143, 144, 145, 146, 147, 148, 149, 150, 151, 39, 40, 41, 152, 153, 154, 155, 156, 157, 158, 159, 160, 161, 162, 163, 164, 165, 166, 167, 306, 307, 308, 309, 310, 311, 312, 313, 314, 315, 316, 317, 318, 319, 320, 321, 322, 323, 324, 325, 326, 327, 328, 329, 330, 331, 332, 333] (by decide +kernel) (by decide +kernel)) (goodIn_sub (fun _ h => List.mem_append_left _ (List.mem_append_left _ (List.mem_append_right _ h))) (by decide +kernel))) (goodIn_sub (fun _ h => List.mem_append_left _ (List.mem_append_right _ h)) (by decide +kernel))
set_option maxRecDepth 20000 in
theorem gL_law_X4_change : GoodIn wsL_law (wsV RL 81 RX4 yX4_change wsX4_change) := goodIn_app (goodIn_of _ (by decide +kernel)) ggL_law_X4_change
set_option maxRecDepth 20000 in
theorem ggL_law_L_whole : GoodIn wsL_law wsL_whole := goodIn_r _ [199, 200] (by decide +kernel) (by decide +kernel)
set_option maxRecDepth 20000 in
theorem gL_law_L_whole : GoodIn wsL_law (va_wsS RL 11 yL_whole wsL_whole) := goodIn_app (goodIn_of _ (by decide +kernel)) ggL_law_L_whole
set_option maxRecDepth 20000 in
theorem ggL_law_X4_panel : GoodIn wsL_law wsX4_panel := goodIn_ca (goodIn_ca (goodIn_r _ [204, 82, 83, 84, 85, 13, 175, 12, 176, 177, 34, 88, 89, 2, 90, 205, 206, 207, 208, 17, 209, 135, 136, 306, 307, 308, 309, 310, 311, 312, 313, 314, 315, 316, 317, 318, 319, 320, 321, 322, 323, 324, 325, 326, 327, 328, 329, 330, 331] (by decide +kernel) (by decide +kernel)) (goodIn_sub (fun _ h => List.mem_append_left _ (List.mem_append_left _ (List.mem_append_right _ h))) (by decide +kernel))) (goodIn_sub (fun _ h => List.mem_append_left _ (List.mem_append_right _ h)) (by decide +kernel))
set_option maxRecDepth 20000 in
theorem gL_law_X4_panel : GoodIn wsL_law (wsV RL 84 RX4 yX4_panel wsX4_panel) := goodIn_app (goodIn_of _ (by decide +kernel)) ggL_law_X4_panel
set_option maxRecDepth 20000 in
theorem ggL_law_L_pages : GoodIn wsL_law wsL_pages := goodIn_ca (goodIn_ca (goodIn_r _ [212, 200, 197, 198, 67, 199, 213, 214, 215, 2, 216, 82, 83, 84, 85, 17, 88, 89, 90, 217, 16, 218, 219, 42, 43, 44, 45, 50, 46, 135, 136, 141, 142, 143, 144, 220, 221, 222, 223, 224, 225, 226, 227, 13, 23, 228, 229, 230, 231, 232, 233, 234, 235, 236, 237, 51, 52, 238, 239, 240, 241, 242, 243, 244, 245, 246, 247, 248, 249, 250, 251, 306, 307, 308, 309, 310, 311, 317, 318, 319, 320, 321, 322, 323, 324, 325, 326, 327, 328, 329, 330, 331, 312, 313, 314, 315, 316, 332, 333] (by decide +kernel) (by decide +kernel)) (goodIn_sub (fun _ h => List.mem_append_left _ (List.mem_append_left _ (List.mem_append_right _ h))) (by decide +kernel))) (goodIn_sub (fun _ h => List.mem_append_left _ (List.mem_append_right _ h)) (by decide +kernel))
set_option maxRecDepth 20000 in
theorem gL_law_L_pages : GoodIn wsL_law (va_wsS RL 87 yL_pages wsL_pages) := goodIn_app (goodIn_of _ (by decide +kernel)) ggL_law_L_pages
set_option maxRecDepth 20000 in
theorem ggL_law_L_units : GoodIn wsL_law wsL_units := goodIn_ca (goodIn_r _ [254, 255, 256, 67, 257, 258, 259, 260, 2, 261, 82, 83, 88, 89, 90, 262, 263, 264, 265, 17, 13, 209, 135, 136, 306, 307, 308, 309, 310, 311, 317, 318, 319, 320, 321, 322, 323, 324, 325, 326, 327, 328, 329, 330, 331, 312, 313, 314, 315, 316] (by decide +kernel) (by decide +kernel)) (goodIn_sub (fun _ h => List.mem_append_left _ (List.mem_append_left _ (List.mem_append_right _ h))) (by decide +kernel))
set_option maxRecDepth 20000 in
theorem gL_law_L_units : GoodIn wsL_law (va_wsS RL 91 yL_units wsL_units) := goodIn_app (goodIn_of _ (by decide +kernel)) ggL_law_L_units
set_option maxRecDepth 20000 in
theorem ggL_law_L_wouldBe : GoodIn wsL_law wsL_wouldBe := goodIn_ca (goodIn_ca (goodIn_r _ [268, 3, 200, 189, 190, 67, 191, 197, 198, 199, 269, 270, 271, 2, 272, 82, 83, 13, 175, 12, 176, 177, 34, 273, 274, 275, 276, 18, 19, 105, 106, 107, 31, 108, 109, 110, 111, 32, 33, 35, 196, 118, 119, 120, 16, 121, 122, 53, 123, 124, 125, 126, 42, 43, 44, 45, 46, 50, 51, 52, 127, 128, 129, 130, 47, 48, 49, 131, 132, 133, 134, 135, 136, 137, 138, 139, 140, 141, 142, 143, 144, 145, 146, 147, 148, 149, 150, 151, 39, 40, 41, 152, 153, 154, 155, 156, 157, 158, 159, 160, 161, 162, 163, 164, 165, 166, 167, 277, 278, 279, 280, 235, 236, 237, 281, 282, 283, 284, 285, 286, 287, 84, 85, 88, 89, 90, 288, 289, 290, 291, 292, 293, 294, 295, 296, 297, 298, 299, 300, 301, 302, 303, 304, 305, 17, 306, 307, 308, 309, 310, 311, 312, 313, 314, 315, 316, 317, 318, 319, 320, 321, 322, 323, 324, 325, 326, 327, 328, 329, 330, 331] (by decide +kernel) (by decide +kernel)) (goodIn_sub (fun _ h => List.mem_append_left _ (List.mem_append_left _ (List.mem_append_right _ h))) (by decide +kernel))) (goodIn_sub (fun _ h => List.mem_append_left _ (List.mem_append_right _ h)) (by decide +kernel))
set_option maxRecDepth 20000 in
theorem gL_law_L_wouldBe : GoodIn wsL_law (va_wsS RL 95 yL_wouldBe wsL_wouldBe) := goodIn_app (goodIn_of _ (by decide +kernel)) ggL_law_L_wouldBe
theorem dL_law_0 : decode cL_law 0 = .ok (.new 17, 3) := by decide +kernel
theorem dL_law_3 : decode cL_law 3 = .ok (.dup, 1) := by decide +kernel
theorem dL_law_4 : decode cL_law 4 = .ok (.invokespecial 57, 3) := by decide +kernel
theorem dL_law_7 : decode cL_law 7 = .ok (.astore_n 1, 1) := by decide +kernel
theorem dL_law_8 : decode cL_law 8 = .ok (.bipush 24, 2) := by decide +kernel
theorem dL_law_10 : decode cL_law 10 = .ok (.newarray .int, 2) := by decide +kernel
theorem dL_law_12 : decode cL_law 12 = .ok (.astore_n 2, 1) := by decide +kernel
theorem dL_law_13 : decode cL_law 13 = .ok (.bipush 24, 2) := by decide +kernel
theorem dL_law_15 : decode cL_law 15 = .ok (.newarray .int, 2) := by decide +kernel
theorem dL_law_17 : decode cL_law 17 = .ok (.astore_n 3, 1) := by decide +kernel
theorem dL_law_18 : decode cL_law 18 = .ok (.bipush 24, 2) := by decide +kernel
theorem dL_law_20 : decode cL_law 20 = .ok (.newarray .int, 2) := by decide +kernel
theorem dL_law_22 : decode cL_law 22 = .ok (.astore 4, 2) := by decide +kernel
theorem dL_law_24 : decode cL_law 24 = .ok (.bipush 24, 2) := by decide +kernel
theorem dL_law_26 : decode cL_law 26 = .ok (.newarray .int, 2) := by decide +kernel
theorem dL_law_28 : decode cL_law 28 = .ok (.astore 5, 2) := by decide +kernel
theorem dL_law_30 : decode cL_law 30 = .ok (.bipush 24, 2) := by decide +kernel
theorem dL_law_32 : decode cL_law 32 = .ok (.newarray .int, 2) := by decide +kernel
theorem dL_law_34 : decode cL_law 34 = .ok (.astore 6, 2) := by decide +kernel
theorem dL_law_36 : decode cL_law 36 = .ok (.bipush 24, 2) := by decide +kernel
theorem dL_law_38 : decode cL_law 38 = .ok (.newarray .int, 2) := by decide +kernel
theorem dL_law_40 : decode cL_law 40 = .ok (.astore 7, 2) := by decide +kernel
theorem dL_law_42 : decode cL_law 42 = .ok (.iconst 2, 1) := by decide +kernel
theorem dL_law_43 : decode cL_law 43 = .ok (.newarray .int, 2) := by decide +kernel
theorem dL_law_45 : decode cL_law 45 = .ok (.astore 8, 2) := by decide +kernel
theorem dL_law_47 : decode cL_law 47 = .ok (.aload 8, 2) := by decide +kernel
theorem dL_law_49 : decode cL_law 49 = .ok (.iconst 0, 1) := by decide +kernel
theorem dL_law_50 : decode cL_law 50 = .ok (.bipush 30, 2) := by decide +kernel
theorem dL_law_52 : decode cL_law 52 = .ok (.iastore, 1) := by decide +kernel
theorem dL_law_53 : decode cL_law 53 = .ok (.iconst 0, 1) := by decide +kernel
theorem dL_law_54 : decode cL_law 54 = .ok (.istore 9, 2) := by decide +kernel
theorem dL_law_56 : decode cL_law 56 = .ok (.iload 9, 2) := by decide +kernel
theorem dL_law_58 : decode cL_law 58 = .ok (.bipush 60, 2) := by decide +kernel
theorem dL_law_60 : decode cL_law 60 = .ok (.if_icmp .ge 694, 3) := by decide +kernel
theorem dL_law_63 : decode cL_law 63 = .ok (.aload_n 0, 1) := by decide +kernel
theorem dL_law_64 : decode cL_law 64 = .ok (.iload 9, 2) := by decide +kernel
theorem dL_law_66 : decode cL_law 66 = .ok (.invokestatic 58, 3) := by decide +kernel
theorem dL_law_69 : decode cL_law 69 = .ok (.istore 10, 2) := by decide +kernel
theorem dL_law_71 : decode cL_law 71 = .ok (.iload 10, 2) := by decide +kernel
theorem dL_law_73 : decode cL_law 73 = .ok (.bipush 10, 2) := by decide +kernel
theorem dL_law_75 : decode cL_law 75 = .ok (.invokestatic 62, 3) := by decide +kernel
theorem dL_law_78 : decode cL_law 78 = .ok (.istore 11, 2) := by decide +kernel
theorem dL_law_80 : decode cL_law 80 = .ok (.iconst 1, 1) := by decide +kernel
theorem dL_law_81 : decode cL_law 81 = .ok (.istore 12, 2) := by decide +kernel
theorem dL_law_83 : decode cL_law 83 = .ok (.iload 11, 2) := by decide +kernel
theorem dL_law_85 : decode cL_law 85 = .ok (.bipush 7, 2) := by decide +kernel
theorem dL_law_87 : decode cL_law 87 = .ok (.if_icmp .lt 11, 3) := by decide +kernel
theorem dL_law_90 : decode cL_law 90 = .ok (.aload 8, 2) := by decide +kernel
theorem dL_law_92 : decode cL_law 92 = .ok (.iconst 1, 1) := by decide +kernel
theorem dL_law_93 : decode cL_law 93 = .ok (.iaload, 1) := by decide +kernel
theorem dL_law_94 : decode cL_law 94 = .ok (.iconst 2, 1) := by decide +kernel
theorem dL_law_95 : decode cL_law 95 = .ok (.if_icmp .ge 182, 3) := by decide +kernel
theorem dL_law_98 : decode cL_law 98 = .ok (.aload 8, 2) := by decide +kernel
theorem dL_law_100 : decode cL_law 100 = .ok (.iconst 1, 1) := by decide +kernel
theorem dL_law_101 : decode cL_law 101 = .ok (.iaload, 1) := by decide +kernel
theorem dL_law_102 : decode cL_law 102 = .ok (.bipush 24, 2) := by decide +kernel
theorem dL_law_104 : decode cL_law 104 = .ok (.if_icmp .ge 173, 3) := by decide +kernel
theorem dL_law_107 : decode cL_law 107 = .ok (.iload 10, 2) := by decide +kernel
theorem dL_law_109 : decode cL_law 109 = .ok (.iconst 4, 1) := by decide +kernel
theorem dL_law_110 : decode cL_law 110 = .ok (.ishr, 1) := by decide +kernel
theorem dL_law_111 : decode cL_law 111 = .ok (.iconst 3, 1) := by decide +kernel
theorem dL_law_112 : decode cL_law 112 = .ok (.invokestatic 62, 3) := by decide +kernel
theorem dL_law_115 : decode cL_law 115 = .ok (.ifCond .ne 20, 3) := by decide +kernel
theorem dL_law_118 : decode cL_law 118 = .ok (.iload 10, 2) := by decide +kernel
theorem dL_law_120 : decode cL_law 120 = .ok (.bipush 6, 2) := by decide +kernel
theorem dL_law_122 : decode cL_law 122 = .ok (.ishr, 1) := by decide +kernel
theorem dL_law_123 : decode cL_law 123 = .ok (.aload 8, 2) := by decide +kernel
theorem dL_law_125 : decode cL_law 125 = .ok (.iconst 1, 1) := by decide +kernel
theorem dL_law_126 : decode cL_law 126 = .ok (.iaload, 1) := by decide +kernel
theorem dL_law_127 : decode cL_law 127 = .ok (.iconst 1, 1) := by decide +kernel
theorem dL_law_128 : decode cL_law 128 = .ok (.iadd, 1) := by decide +kernel
theorem dL_law_129 : decode cL_law 129 = .ok (.invokestatic 62, 3) := by decide +kernel
theorem dL_law_132 : decode cL_law 132 = .ok (.goto 7, 3) := by decide +kernel
theorem dL_law_135 : decode cL_law 135 = .ok (.aload 8, 2) := by decide +kernel
theorem dL_law_137 : decode cL_law 137 = .ok (.iconst 1, 1) := by decide +kernel
theorem dL_law_138 : decode cL_law 138 = .ok (.iaload, 1) := by decide +kernel
theorem dL_law_139 : decode cL_law 139 = .ok (.istore 13, 2) := by decide +kernel
theorem dL_law_141 : decode cL_law 141 = .ok (.iload 10, 2) := by decide +kernel
theorem dL_law_143 : decode cL_law 143 = .ok (.bipush 11, 2) := by decide +kernel
theorem dL_law_145 : decode cL_law 145 = .ok (.ishr, 1) := by decide +kernel
theorem dL_law_146 : decode cL_law 146 = .ok (.bipush 10, 2) := by decide +kernel
theorem dL_law_148 : decode cL_law 148 = .ok (.invokestatic 62, 3) := by decide +kernel
theorem dL_law_151 : decode cL_law 151 = .ok (.istore 14, 2) := by decide +kernel
theorem dL_law_153 : decode cL_law 153 = .ok (.iload 14, 2) := by decide +kernel
theorem dL_law_155 : decode cL_law 155 = .ok (.iconst 5, 1) := by decide +kernel
theorem dL_law_156 : decode cL_law 156 = .ok (.if_icmp .ge 7, 3) := by decide +kernel
theorem dL_law_159 : decode cL_law 159 = .ok (.iconst 0, 1) := by decide +kernel
theorem dL_law_160 : decode cL_law 160 = .ok (.goto 19, 3) := by decide +kernel
theorem dL_law_163 : decode cL_law 163 = .ok (.iload 14, 2) := by decide +kernel
theorem dL_law_165 : decode cL_law 165 = .ok (.bipush 8, 2) := by decide +kernel
theorem dL_law_167 : decode cL_law 167 = .ok (.if_icmp .ge 7, 3) := by decide +kernel
theorem dL_law_170 : decode cL_law 170 = .ok (.iconst 1, 1) := by decide +kernel
theorem dL_law_171 : decode cL_law 171 = .ok (.goto 8, 3) := by decide +kernel
theorem dL_law_174 : decode cL_law 174 = .ok (.iload 14, 2) := by decide +kernel
theorem dL_law_176 : decode cL_law 176 = .ok (.bipush 6, 2) := by decide +kernel
theorem dL_law_178 : decode cL_law 178 = .ok (.isub, 1) := by decide +kernel
theorem dL_law_179 : decode cL_law 179 = .ok (.istore 15, 2) := by decide +kernel
theorem dL_law_181 : decode cL_law 181 = .ok (.iconst 1, 1) := by decide +kernel
theorem dL_law_182 : decode cL_law 182 = .ok (.iload 10, 2) := by decide +kernel
theorem dL_law_184 : decode cL_law 184 = .ok (.bipush 15, 2) := by decide +kernel
theorem dL_law_186 : decode cL_law 186 = .ok (.ishr, 1) := by decide +kernel
theorem dL_law_187 : decode cL_law 187 = .ok (.bipush 6, 2) := by decide +kernel
theorem dL_law_189 : decode cL_law 189 = .ok (.invokestatic 62, 3) := by decide +kernel
theorem dL_law_192 : decode cL_law 192 = .ok (.iadd, 1) := by decide +kernel
theorem dL_law_193 : decode cL_law 193 = .ok (.istore 16, 2) := by decide +kernel
theorem dL_law_195 : decode cL_law 195 = .ok (.iconst 1, 1) := by decide +kernel
theorem dL_law_196 : decode cL_law 196 = .ok (.iload 10, 2) := by decide +kernel
theorem dL_law_198 : decode cL_law 198 = .ok (.bipush 18, 2) := by decide +kernel
theorem dL_law_200 : decode cL_law 200 = .ok (.ishr, 1) := by decide +kernel
theorem dL_law_201 : decode cL_law 201 = .ok (.bipush 9, 2) := by decide +kernel
theorem dL_law_203 : decode cL_law 203 = .ok (.invokestatic 62, 3) := by decide +kernel
theorem dL_law_206 : decode cL_law 206 = .ok (.iadd, 1) := by decide +kernel
theorem dL_law_207 : decode cL_law 207 = .ok (.istore 17, 2) := by decide +kernel
theorem dL_law_209 : decode cL_law 209 = .ok (.aload_n 2, 1) := by decide +kernel
theorem dL_law_210 : decode cL_law 210 = .ok (.aload 8, 2) := by decide +kernel
theorem dL_law_212 : decode cL_law 212 = .ok (.iload 13, 2) := by decide +kernel
theorem dL_law_214 : decode cL_law 214 = .ok (.iload 15, 2) := by decide +kernel
theorem dL_law_216 : decode cL_law 216 = .ok (.invokestatic 65, 3) := by decide +kernel
theorem dL_law_219 : decode cL_law 219 = .ok (.aload_n 3, 1) := by decide +kernel
theorem dL_law_220 : decode cL_law 220 = .ok (.aload 8, 2) := by decide +kernel
theorem dL_law_222 : decode cL_law 222 = .ok (.iload 13, 2) := by decide +kernel
theorem dL_law_224 : decode cL_law 224 = .ok (.iload 16, 2) := by decide +kernel
theorem dL_law_226 : decode cL_law 226 = .ok (.invokestatic 65, 3) := by decide +kernel
theorem dL_law_229 : decode cL_law 229 = .ok (.aload 4, 2) := by decide +kernel
theorem dL_law_231 : decode cL_law 231 = .ok (.aload 8, 2) := by decide +kernel
theorem dL_law_233 : decode cL_law 233 = .ok (.iload 13, 2) := by decide +kernel
theorem dL_law_235 : decode cL_law 235 = .ok (.iload 17, 2) := by decide +kernel
theorem dL_law_237 : decode cL_law 237 = .ok (.invokestatic 65, 3) := by decide +kernel
theorem dL_law_240 : decode cL_law 240 = .ok (.aload 8, 2) := by decide +kernel
theorem dL_law_242 : decode cL_law 242 = .ok (.iconst 1, 1) := by decide +kernel
theorem dL_law_243 : decode cL_law 243 = .ok (.dup2, 1) := by decide +kernel
theorem dL_law_244 : decode cL_law 244 = .ok (.iaload, 1) := by decide +kernel
theorem dL_law_245 : decode cL_law 245 = .ok (.iconst 1, 1) := by decide +kernel
theorem dL_law_246 : decode cL_law 246 = .ok (.iadd, 1) := by decide +kernel
theorem dL_law_247 : decode cL_law 247 = .ok (.iastore, 1) := by decide +kernel
theorem dL_law_248 : decode cL_law 248 = .ok (.aload_n 1, 1) := by decide +kernel
theorem dL_law_249 : decode cL_law 249 = .ok (.iload 13, 2) := by decide +kernel
theorem dL_law_251 : decode cL_law 251 = .ok (.iload 15, 2) := by decide +kernel
theorem dL_law_253 : decode cL_law 253 = .ok (.iload 16, 2) := by decide +kernel
theorem dL_law_255 : decode cL_law 255 = .ok (.iload 17, 2) := by decide +kernel
theorem dL_law_257 : decode cL_law 257 = .ok (.invokevirtual 69, 3) := by decide +kernel
theorem dL_law_260 : decode cL_law 260 = .ok (.aload 8, 2) := by decide +kernel
theorem dL_law_262 : decode cL_law 262 = .ok (.iconst 1, 1) := by decide +kernel
theorem dL_law_263 : decode cL_law 263 = .ok (.iaload, 1) := by decide +kernel
theorem dL_law_264 : decode cL_law 264 = .ok (.if_icmp .ne 7, 3) := by decide +kernel
theorem dL_law_267 : decode cL_law 267 = .ok (.iconst 1, 1) := by decide +kernel
theorem dL_law_268 : decode cL_law 268 = .ok (.goto 4, 3) := by decide +kernel
theorem dL_law_271 : decode cL_law 271 = .ok (.iconst 0, 1) := by decide +kernel
theorem dL_law_272 : decode cL_law 272 = .ok (.istore 12, 2) := by decide +kernel
theorem dL_law_274 : decode cL_law 274 = .ok (.goto 248, 3) := by decide +kernel
theorem dL_law_277 : decode cL_law 277 = .ok (.iload 11, 2) := by decide +kernel
theorem dL_law_279 : decode cL_law 279 = .ok (.bipush 7, 2) := by decide +kernel
theorem dL_law_281 : decode cL_law 281 = .ok (.if_icmp .ne 72, 3) := by decide +kernel
theorem dL_law_284 : decode cL_law 284 = .ok (.iload 10, 2) := by decide +kernel
theorem dL_law_286 : decode cL_law 286 = .ok (.iconst 4, 1) := by decide +kernel
theorem dL_law_287 : decode cL_law 287 = .ok (.ishr, 1) := by decide +kernel
theorem dL_law_288 : decode cL_law 288 = .ok (.aload 8, 2) := by decide +kernel
theorem dL_law_290 : decode cL_law 290 = .ok (.iconst 1, 1) := by decide +kernel
theorem dL_law_291 : decode cL_law 291 = .ok (.iaload, 1) := by decide +kernel
theorem dL_law_292 : decode cL_law 292 = .ok (.invokestatic 62, 3) := by decide +kernel
theorem dL_law_295 : decode cL_law 295 = .ok (.istore 13, 2) := by decide +kernel
theorem dL_law_297 : decode cL_law 297 = .ok (.aload_n 2, 1) := by decide +kernel
theorem dL_law_298 : decode cL_law 298 = .ok (.aload 8, 2) := by decide +kernel
theorem dL_law_300 : decode cL_law 300 = .ok (.iload 13, 2) := by decide +kernel
theorem dL_law_302 : decode cL_law 302 = .ok (.invokestatic 72, 3) := by decide +kernel
theorem dL_law_305 : decode cL_law 305 = .ok (.aload_n 3, 1) := by decide +kernel
theorem dL_law_306 : decode cL_law 306 = .ok (.aload 8, 2) := by decide +kernel
theorem dL_law_308 : decode cL_law 308 = .ok (.iload 13, 2) := by decide +kernel
theorem dL_law_310 : decode cL_law 310 = .ok (.invokestatic 72, 3) := by decide +kernel
theorem dL_law_313 : decode cL_law 313 = .ok (.aload 4, 2) := by decide +kernel
theorem dL_law_315 : decode cL_law 315 = .ok (.aload 8, 2) := by decide +kernel
theorem dL_law_317 : decode cL_law 317 = .ok (.iload 13, 2) := by decide +kernel
theorem dL_law_319 : decode cL_law 319 = .ok (.invokestatic 72, 3) := by decide +kernel
theorem dL_law_322 : decode cL_law 322 = .ok (.aload 8, 2) := by decide +kernel
theorem dL_law_324 : decode cL_law 324 = .ok (.iconst 1, 1) := by decide +kernel
theorem dL_law_325 : decode cL_law 325 = .ok (.dup2, 1) := by decide +kernel
theorem dL_law_326 : decode cL_law 326 = .ok (.iaload, 1) := by decide +kernel
theorem dL_law_327 : decode cL_law 327 = .ok (.iconst 1, 1) := by decide +kernel
theorem dL_law_328 : decode cL_law 328 = .ok (.isub, 1) := by decide +kernel
theorem dL_law_329 : decode cL_law 329 = .ok (.iastore, 1) := by decide +kernel
theorem dL_law_330 : decode cL_law 330 = .ok (.aload_n 1, 1) := by decide +kernel
theorem dL_law_331 : decode cL_law 331 = .ok (.iload 13, 2) := by decide +kernel
theorem dL_law_333 : decode cL_law 333 = .ok (.invokevirtual 76, 3) := by decide +kernel
theorem dL_law_336 : decode cL_law 336 = .ok (.aload 8, 2) := by decide +kernel
theorem dL_law_338 : decode cL_law 338 = .ok (.iconst 1, 1) := by decide +kernel
theorem dL_law_339 : decode cL_law 339 = .ok (.iaload, 1) := by decide +kernel
theorem dL_law_340 : decode cL_law 340 = .ok (.if_icmp .ne 7, 3) := by decide +kernel
theorem dL_law_343 : decode cL_law 343 = .ok (.iconst 1, 1) := by decide +kernel
theorem dL_law_344 : decode cL_law 344 = .ok (.goto 4, 3) := by decide +kernel
theorem dL_law_347 : decode cL_law 347 = .ok (.iconst 0, 1) := by decide +kernel
theorem dL_law_348 : decode cL_law 348 = .ok (.istore 12, 2) := by decide +kernel
theorem dL_law_350 : decode cL_law 350 = .ok (.goto 172, 3) := by decide +kernel
theorem dL_law_353 : decode cL_law 353 = .ok (.iload 11, 2) := by decide +kernel
theorem dL_law_355 : decode cL_law 355 = .ok (.bipush 8, 2) := by decide +kernel
theorem dL_law_357 : decode cL_law 357 = .ok (.if_icmp .ne 63, 3) := by decide +kernel
theorem dL_law_360 : decode cL_law 360 = .ok (.bipush 9, 2) := by decide +kernel
theorem dL_law_362 : decode cL_law 362 = .ok (.iload 10, 2) := by decide +kernel
theorem dL_law_364 : decode cL_law 364 = .ok (.iconst 4, 1) := by decide +kernel
theorem dL_law_365 : decode cL_law 365 = .ok (.ishr, 1) := by decide +kernel
theorem dL_law_366 : decode cL_law 366 = .ok (.iload 10, 2) := by decide +kernel
theorem dL_law_368 : decode cL_law 368 = .ok (.bipush 12, 2) := by decide +kernel
theorem dL_law_370 : decode cL_law 370 = .ok (.ishr, 1) := by decide +kernel
theorem dL_law_371 : decode cL_law 371 = .ok (.iconst 2, 1) := by decide +kernel
theorem dL_law_372 : decode cL_law 372 = .ok (.invokestatic 62, 3) := by decide +kernel
theorem dL_law_375 : decode cL_law 375 = .ok (.ifCond .ne 8, 3) := by decide +kernel
theorem dL_law_378 : decode cL_law 378 = .ok (.bipush 52, 2) := by decide +kernel
theorem dL_law_380 : decode cL_law 380 = .ok (.goto 5, 3) := by decide +kernel
theorem dL_law_383 : decode cL_law 383 = .ok (.bipush 12, 2) := by decide +kernel
theorem dL_law_385 : decode cL_law 385 = .ok (.invokestatic 62, 3) := by decide +kernel
theorem dL_law_388 : decode cL_law 388 = .ok (.iadd, 1) := by decide +kernel
theorem dL_law_389 : decode cL_law 389 = .ok (.istore 13, 2) := by decide +kernel
theorem dL_law_391 : decode cL_law 391 = .ok (.aload_n 1, 1) := by decide +kernel
theorem dL_law_392 : decode cL_law 392 = .ok (.iload 13, 2) := by decide +kernel
theorem dL_law_394 : decode cL_law 394 = .ok (.invokevirtual 78, 3) := by decide +kernel
theorem dL_law_397 : decode cL_law 397 = .ok (.aload 8, 2) := by decide +kernel
theorem dL_law_399 : decode cL_law 399 = .ok (.iconst 0, 1) := by decide +kernel
theorem dL_law_400 : decode cL_law 400 = .ok (.iaload, 1) := by decide +kernel
theorem dL_law_401 : decode cL_law 401 = .ok (.if_icmp .ne 7, 3) := by decide +kernel
theorem dL_law_404 : decode cL_law 404 = .ok (.iconst 1, 1) := by decide +kernel
theorem dL_law_405 : decode cL_law 405 = .ok (.goto 4, 3) := by decide +kernel
theorem dL_law_408 : decode cL_law 408 = .ok (.iconst 0, 1) := by decide +kernel
theorem dL_law_409 : decode cL_law 409 = .ok (.istore 12, 2) := by decide +kernel
theorem dL_law_411 : decode cL_law 411 = .ok (.aload 8, 2) := by decide +kernel
theorem dL_law_413 : decode cL_law 413 = .ok (.iconst 0, 1) := by decide +kernel
theorem dL_law_414 : decode cL_law 414 = .ok (.iload 13, 2) := by decide +kernel
theorem dL_law_416 : decode cL_law 416 = .ok (.iastore, 1) := by decide +kernel
theorem dL_law_417 : decode cL_law 417 = .ok (.goto 105, 3) := by decide +kernel
theorem dL_law_420 : decode cL_law 420 = .ok (.iload 10, 2) := by decide +kernel
theorem dL_law_422 : decode cL_law 422 = .ok (.iconst 4, 1) := by decide +kernel
theorem dL_law_423 : decode cL_law 423 = .ok (.ishr, 1) := by decide +kernel
theorem dL_law_424 : decode cL_law 424 = .ok (.aload 8, 2) := by decide +kernel
theorem dL_law_426 : decode cL_law 426 = .ok (.iconst 1, 1) := by decide +kernel
theorem dL_law_427 : decode cL_law 427 = .ok (.iaload, 1) := by decide +kernel
theorem dL_law_428 : decode cL_law 428 = .ok (.invokestatic 62, 3) := by decide +kernel
theorem dL_law_431 : decode cL_law 431 = .ok (.istore 13, 2) := by decide +kernel
theorem dL_law_433 : decode cL_law 433 = .ok (.aload_n 3, 1) := by decide +kernel
theorem dL_law_434 : decode cL_law 434 = .ok (.iload 13, 2) := by decide +kernel
theorem dL_law_436 : decode cL_law 436 = .ok (.iconst 1, 1) := by decide +kernel
theorem dL_law_437 : decode cL_law 437 = .ok (.iload 10, 2) := by decide +kernel
theorem dL_law_439 : decode cL_law 439 = .ok (.bipush 9, 2) := by decide +kernel
theorem dL_law_441 : decode cL_law 441 = .ok (.ishr, 1) := by decide +kernel
theorem dL_law_442 : decode cL_law 442 = .ok (.bipush 6, 2) := by decide +kernel
theorem dL_law_444 : decode cL_law 444 = .ok (.invokestatic 62, 3) := by decide +kernel
theorem dL_law_447 : decode cL_law 447 = .ok (.iadd, 1) := by decide +kernel
theorem dL_law_448 : decode cL_law 448 = .ok (.iastore, 1) := by decide +kernel
theorem dL_law_449 : decode cL_law 449 = .ok (.aload 4, 2) := by decide +kernel
theorem dL_law_451 : decode cL_law 451 = .ok (.iload 13, 2) := by decide +kernel
theorem dL_law_453 : decode cL_law 453 = .ok (.iconst 1, 1) := by decide +kernel
theorem dL_law_454 : decode cL_law 454 = .ok (.iload 10, 2) := by decide +kernel
theorem dL_law_456 : decode cL_law 456 = .ok (.bipush 12, 2) := by decide +kernel
theorem dL_law_458 : decode cL_law 458 = .ok (.ishr, 1) := by decide +kernel
theorem dL_law_459 : decode cL_law 459 = .ok (.bipush 9, 2) := by decide +kernel
theorem dL_law_461 : decode cL_law 461 = .ok (.invokestatic 62, 3) := by decide +kernel
theorem dL_law_464 : decode cL_law 464 = .ok (.iadd, 1) := by decide +kernel
theorem dL_law_465 : decode cL_law 465 = .ok (.iastore, 1) := by decide +kernel
theorem dL_law_466 : decode cL_law 466 = .ok (.aload_n 2, 1) := by decide +kernel
theorem dL_law_467 : decode cL_law 467 = .ok (.aload_n 3, 1) := by decide +kernel
theorem dL_law_468 : decode cL_law 468 = .ok (.aload 4, 2) := by decide +kernel
theorem dL_law_470 : decode cL_law 470 = .ok (.aload 5, 2) := by decide +kernel
theorem dL_law_472 : decode cL_law 472 = .ok (.aload 6, 2) := by decide +kernel
theorem dL_law_474 : decode cL_law 474 = .ok (.aload 7, 2) := by decide +kernel
theorem dL_law_476 : decode cL_law 476 = .ok (.aload 8, 2) := by decide +kernel
theorem dL_law_478 : decode cL_law 478 = .ok (.invokestatic 39, 3) := by decide +kernel
theorem dL_law_481 : decode cL_law 481 = .ok (.aload_n 1, 1) := by decide +kernel
theorem dL_law_482 : decode cL_law 482 = .ok (.iload 13, 2) := by decide +kernel
theorem dL_law_484 : decode cL_law 484 = .ok (.aload_n 3, 1) := by decide +kernel
theorem dL_law_485 : decode cL_law 485 = .ok (.iload 13, 2) := by decide +kernel
theorem dL_law_487 : decode cL_law 487 = .ok (.iaload, 1) := by decide +kernel
theorem dL_law_488 : decode cL_law 488 = .ok (.aload 4, 2) := by decide +kernel
theorem dL_law_490 : decode cL_law 490 = .ok (.iload 13, 2) := by decide +kernel
theorem dL_law_492 : decode cL_law 492 = .ok (.iaload, 1) := by decide +kernel
theorem dL_law_493 : decode cL_law 493 = .ok (.invokevirtual 81, 3) := by decide +kernel
theorem dL_law_496 : decode cL_law 496 = .ok (.aload_n 2, 1) := by decide +kernel
theorem dL_law_497 : decode cL_law 497 = .ok (.aload_n 3, 1) := by decide +kernel
theorem dL_law_498 : decode cL_law 498 = .ok (.aload 5, 2) := by decide +kernel
theorem dL_law_500 : decode cL_law 500 = .ok (.aload 8, 2) := by decide +kernel
theorem dL_law_502 : decode cL_law 502 = .ok (.invokestatic 11, 3) := by decide +kernel
theorem dL_law_505 : decode cL_law 505 = .ok (.sipush 1000, 3) := by decide +kernel
theorem dL_law_508 : decode cL_law 508 = .ok (.idiv, 1) := by decide +kernel
theorem dL_law_509 : decode cL_law 509 = .ok (.bipush 100, 2) := by decide +kernel
theorem dL_law_511 : decode cL_law 511 = .ok (.irem, 1) := by decide +kernel
theorem dL_law_512 : decode cL_law 512 = .ok (.if_icmp .ne 7, 3) := by decide +kernel
theorem dL_law_515 : decode cL_law 515 = .ok (.iconst 1, 1) := by decide +kernel
theorem dL_law_516 : decode cL_law 516 = .ok (.goto 4, 3) := by decide +kernel
theorem dL_law_519 : decode cL_law 519 = .ok (.iconst 0, 1) := by decide +kernel
theorem dL_law_520 : decode cL_law 520 = .ok (.istore 12, 2) := by decide +kernel
theorem dL_law_522 : decode cL_law 522 = .ok (.aload_n 2, 1) := by decide +kernel
theorem dL_law_523 : decode cL_law 523 = .ok (.aload_n 3, 1) := by decide +kernel
theorem dL_law_524 : decode cL_law 524 = .ok (.aload 4, 2) := by decide +kernel
theorem dL_law_526 : decode cL_law 526 = .ok (.aload 5, 2) := by decide +kernel
theorem dL_law_528 : decode cL_law 528 = .ok (.aload 6, 2) := by decide +kernel
theorem dL_law_530 : decode cL_law 530 = .ok (.aload 7, 2) := by decide +kernel
theorem dL_law_532 : decode cL_law 532 = .ok (.aload 8, 2) := by decide +kernel
theorem dL_law_534 : decode cL_law 534 = .ok (.invokestatic 39, 3) := by decide +kernel
theorem dL_law_537 : decode cL_law 537 = .ok (.iconst 0, 1) := by decide +kernel
theorem dL_law_538 : decode cL_law 538 = .ok (.istore 13, 2) := by decide +kernel
theorem dL_law_540 : decode cL_law 540 = .ok (.iload 13, 2) := by decide +kernel
theorem dL_law_542 : decode cL_law 542 = .ok (.aload 8, 2) := by decide +kernel
theorem dL_law_544 : decode cL_law 544 = .ok (.iconst 1, 1) := by decide +kernel
theorem dL_law_545 : decode cL_law 545 = .ok (.iaload, 1) := by decide +kernel
theorem dL_law_546 : decode cL_law 546 = .ok (.if_icmp .ge 109, 3) := by decide +kernel
theorem dL_law_549 : decode cL_law 549 = .ok (.iload 12, 2) := by decide +kernel
theorem dL_law_551 : decode cL_law 551 = .ok (.ifCond .eq 104, 3) := by decide +kernel
theorem dL_law_554 : decode cL_law 554 = .ok (.aload_n 1, 1) := by decide +kernel
theorem dL_law_555 : decode cL_law 555 = .ok (.iload 13, 2) := by decide +kernel
theorem dL_law_557 : decode cL_law 557 = .ok (.iconst 0, 1) := by decide +kernel
theorem dL_law_558 : decode cL_law 558 = .ok (.invokevirtual 84, 3) := by decide +kernel
theorem dL_law_561 : decode cL_law 561 = .ok (.aload_n 2, 1) := by decide +kernel
theorem dL_law_562 : decode cL_law 562 = .ok (.iload 13, 2) := by decide +kernel
theorem dL_law_564 : decode cL_law 564 = .ok (.iaload, 1) := by decide +kernel
theorem dL_law_565 : decode cL_law 565 = .ok (.if_icmp .ne 81, 3) := by decide +kernel
theorem dL_law_568 : decode cL_law 568 = .ok (.aload_n 1, 1) := by decide +kernel
theorem dL_law_569 : decode cL_law 569 = .ok (.iload 13, 2) := by decide +kernel
theorem dL_law_571 : decode cL_law 571 = .ok (.iconst 1, 1) := by decide +kernel
theorem dL_law_572 : decode cL_law 572 = .ok (.invokevirtual 84, 3) := by decide +kernel
theorem dL_law_575 : decode cL_law 575 = .ok (.aload_n 3, 1) := by decide +kernel
theorem dL_law_576 : decode cL_law 576 = .ok (.iload 13, 2) := by decide +kernel
theorem dL_law_578 : decode cL_law 578 = .ok (.iaload, 1) := by decide +kernel
theorem dL_law_579 : decode cL_law 579 = .ok (.if_icmp .ne 67, 3) := by decide +kernel
theorem dL_law_582 : decode cL_law 582 = .ok (.aload_n 1, 1) := by decide +kernel
theorem dL_law_583 : decode cL_law 583 = .ok (.iload 13, 2) := by decide +kernel
theorem dL_law_585 : decode cL_law 585 = .ok (.iconst 2, 1) := by decide +kernel
theorem dL_law_586 : decode cL_law 586 = .ok (.invokevirtual 84, 3) := by decide +kernel
theorem dL_law_589 : decode cL_law 589 = .ok (.aload 4, 2) := by decide +kernel
theorem dL_law_591 : decode cL_law 591 = .ok (.iload 13, 2) := by decide +kernel
theorem dL_law_593 : decode cL_law 593 = .ok (.iaload, 1) := by decide +kernel
theorem dL_law_594 : decode cL_law 594 = .ok (.if_icmp .ne 52, 3) := by decide +kernel
theorem dL_law_597 : decode cL_law 597 = .ok (.aload_n 1, 1) := by decide +kernel
theorem dL_law_598 : decode cL_law 598 = .ok (.iload 13, 2) := by decide +kernel
theorem dL_law_600 : decode cL_law 600 = .ok (.iconst 3, 1) := by decide +kernel
theorem dL_law_601 : decode cL_law 601 = .ok (.invokevirtual 84, 3) := by decide +kernel
theorem dL_law_604 : decode cL_law 604 = .ok (.aload 5, 2) := by decide +kernel
theorem dL_law_606 : decode cL_law 606 = .ok (.iload 13, 2) := by decide +kernel
theorem dL_law_608 : decode cL_law 608 = .ok (.iaload, 1) := by decide +kernel
theorem dL_law_609 : decode cL_law 609 = .ok (.if_icmp .ne 37, 3) := by decide +kernel
theorem dL_law_612 : decode cL_law 612 = .ok (.aload_n 1, 1) := by decide +kernel
theorem dL_law_613 : decode cL_law 613 = .ok (.iload 13, 2) := by decide +kernel
theorem dL_law_615 : decode cL_law 615 = .ok (.iconst 4, 1) := by decide +kernel
theorem dL_law_616 : decode cL_law 616 = .ok (.invokevirtual 84, 3) := by decide +kernel
theorem dL_law_619 : decode cL_law 619 = .ok (.aload 6, 2) := by decide +kernel
theorem dL_law_621 : decode cL_law 621 = .ok (.iload 13, 2) := by decide +kernel
theorem dL_law_623 : decode cL_law 623 = .ok (.iaload, 1) := by decide +kernel
theorem dL_law_624 : decode cL_law 624 = .ok (.if_icmp .ne 22, 3) := by decide +kernel
theorem dL_law_627 : decode cL_law 627 = .ok (.aload_n 1, 1) := by decide +kernel
theorem dL_law_628 : decode cL_law 628 = .ok (.iload 13, 2) := by decide +kernel
theorem dL_law_630 : decode cL_law 630 = .ok (.iconst 5, 1) := by decide +kernel
theorem dL_law_631 : decode cL_law 631 = .ok (.invokevirtual 84, 3) := by decide +kernel
theorem dL_law_634 : decode cL_law 634 = .ok (.aload 7, 2) := by decide +kernel
theorem dL_law_636 : decode cL_law 636 = .ok (.iload 13, 2) := by decide +kernel
theorem dL_law_638 : decode cL_law 638 = .ok (.iaload, 1) := by decide +kernel
theorem dL_law_639 : decode cL_law 639 = .ok (.if_icmp .ne 7, 3) := by decide +kernel
theorem dL_law_642 : decode cL_law 642 = .ok (.iconst 1, 1) := by decide +kernel
theorem dL_law_643 : decode cL_law 643 = .ok (.goto 4, 3) := by decide +kernel
theorem dL_law_646 : decode cL_law 646 = .ok (.iconst 0, 1) := by decide +kernel
theorem dL_law_647 : decode cL_law 647 = .ok (.istore 12, 2) := by decide +kernel
theorem dL_law_649 : decode cL_law 649 = .ok (.iinc 13 1, 3) := by decide +kernel
theorem dL_law_652 : decode cL_law 652 = .ok (.goto (-112), 3) := by decide +kernel
theorem dL_law_655 : decode cL_law 655 = .ok (.iload 12, 2) := by decide +kernel
theorem dL_law_657 : decode cL_law 657 = .ok (.ifCond .eq 89, 3) := by decide +kernel
theorem dL_law_660 : decode cL_law 660 = .ok (.aload_n 1, 1) := by decide +kernel
theorem dL_law_661 : decode cL_law 661 = .ok (.aload_n 2, 1) := by decide +kernel
theorem dL_law_662 : decode cL_law 662 = .ok (.aload_n 3, 1) := by decide +kernel
theorem dL_law_663 : decode cL_law 663 = .ok (.aload 4, 2) := by decide +kernel
theorem dL_law_665 : decode cL_law 665 = .ok (.aload 5, 2) := by decide +kernel
theorem dL_law_667 : decode cL_law 667 = .ok (.aload 6, 2) := by decide +kernel
theorem dL_law_669 : decode cL_law 669 = .ok (.aload 7, 2) := by decide +kernel
theorem dL_law_671 : decode cL_law 671 = .ok (.aload 8, 2) := by decide +kernel
theorem dL_law_673 : decode cL_law 673 = .ok (.invokestatic 87, 3) := by decide +kernel
theorem dL_law_676 : decode cL_law 676 = .ok (.ifCond .eq 70, 3) := by decide +kernel
theorem dL_law_679 : decode cL_law 679 = .ok (.aload_n 1, 1) := by decide +kernel
theorem dL_law_680 : decode cL_law 680 = .ok (.aload_n 2, 1) := by decide +kernel
theorem dL_law_681 : decode cL_law 681 = .ok (.aload_n 3, 1) := by decide +kernel
theorem dL_law_682 : decode cL_law 682 = .ok (.aload 5, 2) := by decide +kernel
theorem dL_law_684 : decode cL_law 684 = .ok (.aload 6, 2) := by decide +kernel
theorem dL_law_686 : decode cL_law 686 = .ok (.aload 7, 2) := by decide +kernel
theorem dL_law_688 : decode cL_law 688 = .ok (.aload 8, 2) := by decide +kernel
theorem dL_law_690 : decode cL_law 690 = .ok (.iload 10, 2) := by decide +kernel
theorem dL_law_692 : decode cL_law 692 = .ok (.bipush 9, 2) := by decide +kernel
theorem dL_law_694 : decode cL_law 694 = .ok (.ishr, 1) := by decide +kernel
theorem dL_law_695 : decode cL_law 695 = .ok (.bipush 16, 2) := by decide +kernel
theorem dL_law_697 : decode cL_law 697 = .ok (.invokestatic 62, 3) := by decide +kernel
theorem dL_law_700 : decode cL_law 700 = .ok (.invokestatic 91, 3) := by decide +kernel
theorem dL_law_703 : decode cL_law 703 = .ok (.ifCond .eq 43, 3) := by decide +kernel
theorem dL_law_706 : decode cL_law 706 = .ok (.iload 9, 2) := by decide +kernel
theorem dL_law_708 : decode cL_law 708 = .ok (.iconst 5, 1) := by decide +kernel
theorem dL_law_709 : decode cL_law 709 = .ok (.irem, 1) := by decide +kernel
theorem dL_law_710 : decode cL_law 710 = .ok (.iconst 4, 1) := by decide +kernel
theorem dL_law_711 : decode cL_law 711 = .ok (.if_icmp .ne 37, 3) := by decide +kernel
theorem dL_law_714 : decode cL_law 714 = .ok (.aload 8, 2) := by decide +kernel
theorem dL_law_716 : decode cL_law 716 = .ok (.iconst 1, 1) := by decide +kernel
theorem dL_law_717 : decode cL_law 717 = .ok (.iaload, 1) := by decide +kernel
theorem dL_law_718 : decode cL_law 718 = .ok (.ifCond .le 30, 3) := by decide +kernel
theorem dL_law_721 : decode cL_law 721 = .ok (.aload_n 1, 1) := by decide +kernel
theorem dL_law_722 : decode cL_law 722 = .ok (.aload_n 2, 1) := by decide +kernel
theorem dL_law_723 : decode cL_law 723 = .ok (.aload_n 3, 1) := by decide +kernel
theorem dL_law_724 : decode cL_law 724 = .ok (.aload 4, 2) := by decide +kernel
theorem dL_law_726 : decode cL_law 726 = .ok (.aload 8, 2) := by decide +kernel
theorem dL_law_728 : decode cL_law 728 = .ok (.iload 10, 2) := by decide +kernel
theorem dL_law_730 : decode cL_law 730 = .ok (.bipush 13, 2) := by decide +kernel
theorem dL_law_732 : decode cL_law 732 = .ok (.ishr, 1) := by decide +kernel
theorem dL_law_733 : decode cL_law 733 = .ok (.aload 8, 2) := by decide +kernel
theorem dL_law_735 : decode cL_law 735 = .ok (.iconst 1, 1) := by decide +kernel
theorem dL_law_736 : decode cL_law 736 = .ok (.iaload, 1) := by decide +kernel
theorem dL_law_737 : decode cL_law 737 = .ok (.invokestatic 62, 3) := by decide +kernel
theorem dL_law_740 : decode cL_law 740 = .ok (.invokestatic 95, 3) := by decide +kernel
theorem dL_law_743 : decode cL_law 743 = .ok (.ifCond .ne 5, 3) := by decide +kernel
theorem dL_law_746 : decode cL_law 746 = .ok (.iconst 0, 1) := by decide +kernel
theorem dL_law_747 : decode cL_law 747 = .ok (.ireturn, 1) := by decide +kernel
theorem dL_law_748 : decode cL_law 748 = .ok (.iinc 9 1, 3) := by decide +kernel
theorem dL_law_751 : decode cL_law 751 = .ok (.goto (-695), 3) := by decide +kernel
theorem dL_law_754 : decode cL_law 754 = .ok (.iconst 1, 1) := by decide +kernel
theorem dL_law_755 : decode cL_law 755 = .ok (.ireturn, 1) := by decide +kernel
abbrev vwCl : List vw_C := [(RX0, TX0, 2), (RX1, TX1, 15), (RX2, TX2, 5), (RX3, TX3, 2), (RX4, TX4, 6)]
end
section
/-! ===== ints by their numbers ===== -/
def zI (z : Int) : Int32 := Int32.ofInt z
theorem zI_add (a b : Int) : zI a + zI b = zI (a + b) := (Int32.ofInt_add a b).symm
theorem zI_sub (a b : Int) : zI a - zI b = zI (a - b) := (Int32.ofInt_sub a b).symm
theorem zI_mul (a b : Int) : zI a * zI b = zI (a * b) := (Int32.ofInt_mul a b).symm
theorem zI_neg (a : Int) : -(zI a) = zI (-a) := (Int32.ofInt_neg a).symm
theorem zI_toInt {a : Int} (h : -2147483648 ≤ a ∧ a < 2147483648) : (zI a).toInt = a :=
  Int32.toInt_ofInt_of_le (by have := h.1; omega) (by have := h.2; omega)
theorem zI_of (x : Int32) : x = zI x.toInt := (Int32.ofInt_toInt x).symm
theorem zI_ofE (x : Int32) : ∃ a : Int, (-2147483648 ≤ a ∧ a < 2147483648) ∧ x = zI a :=
  ⟨x.toInt, ⟨by have := Int32.le_toInt x; omega, by have := Int32.toInt_lt x; omega⟩, zI_of x⟩
theorem zI_le {a b : Int} (ha : -2147483648 ≤ a ∧ a < 2147483648) (hb : -2147483648 ≤ b ∧ b < 2147483648) : zI a ≤ zI b ↔ a ≤ b := by
  rw [Int32.le_iff_toInt_le, zI_toInt ha, zI_toInt hb]
theorem zI_lt {a b : Int} (ha : -2147483648 ≤ a ∧ a < 2147483648) (hb : -2147483648 ≤ b ∧ b < 2147483648) : zI a < zI b ↔ a < b := by
  rw [Int32.lt_iff_toInt_lt, zI_toInt ha, zI_toInt hb]
theorem zI_eq {a b : Int} (ha : -2147483648 ≤ a ∧ a < 2147483648) (hb : -2147483648 ≤ b ∧ b < 2147483648) : zI a = zI b ↔ a = b :=
  ⟨fun h => by rw [← zI_toInt ha, h, zI_toInt hb], fun h => by rw [h]⟩
theorem zI_0 : (0 : Int32) = zI 0 := rfl
theorem zI_nat {a : Int} (h : 0 ≤ a ∧ a < 2147483648) : (zI a).toNatClampNeg = a.toNat := by
  show (zI a).toInt.toNat = a.toNat
  rw [zI_toInt ⟨by omega, h.2⟩]
theorem zI_in {a : Int} {n : Nat} (h : 0 ≤ a ∧ a < n) (hn : n < 2147483648) : vp_in (zI a) n := by
  have h2 : (zI a).toInt = a := zI_toInt ⟨by omega, by omega⟩
  exact vp_in_iff.mpr ⟨by rw [h2]; exact h.1, by rw [h2]; exact h.2⟩
theorem zI_i2l {a : Int} (h : -2147483648 ≤ a ∧ a < 2147483648) : (zI a).toInt64 = Int64.ofInt a :=
  Int32.toInt64_ofInt (show (-2147483648 : Int) ≤ a from h.1) (show a ≤ (2147483647 : Int) by omega)
theorem zI_ofNat (n : Nat) : Int32.ofNat n = zI (n : Int) := (Int32.ofInt_eq_ofNat).symm
theorem zI_rem2 {a : Int} (h : 0 ≤ a ∧ a < 2147483648) : zI a - zI a / zI 2 * zI 2 = zI (a % 2) := by
  obtain ⟨n, rfl⟩ := Int.eq_ofNat_of_zero_le h.1
  have e : ∀ k : Nat, zI (k : Int) = nI k := fun k => (zI_ofNat k).symm
  have h2 : zI 2 = nI 2 := rfl
  rw [e n, h2, pk_rem (by omega) (by omega) (by omega), ← e]
  congr 1
theorem zI_and1 {a : Int} (h : 0 ≤ a ∧ a < 2147483648) : zI a &&& zI 1 = zI (a % 2) := by
  obtain ⟨n, rfl⟩ := Int.eq_ofNat_of_zero_le h.1
  have e : ∀ k : Nat, zI (k : Int) = nI k := fun k => (zI_ofNat k).symm
  rw [e n, pk_andN (by omega) (m := zI 1) 1 (by decide), ← e]
  congr 1
theorem zI_and31 (x : Int32) : ∃ a : Int, (0 ≤ a ∧ a < 32) ∧ x &&& zI 31 = zI a := by
  obtain ⟨j, hj, e⟩ := pk_andE x (m := zI 31) 5 (by decide)
  exact ⟨(j : Int), ⟨by omega, by omega⟩, by rw [e, ← zI_ofNat]; rfl⟩
/-- an array's numbers -/
def zA (f : Int → Int) : Nat → Int32 := fun j => zI (f (j : Int))
def zU (f : Int → Int) (i v : Int) : Int → Int := fun x => if x = i then v else f x
theorem zU_eq (f : Int → Int) (i v : Int) : zU f i v i = v := by simp [zU]
theorem zU_ne (f : Int → Int) {i x : Int} (v : Int) (h : x ≠ i) : zU f i v x = f x := by simp [zU, h]
theorem zA_at (f : Int → Int) {i : Int} (h : 0 ≤ i ∧ i < 2147483648) : zA f (zI i).toNatClampNeg = zI (f i) := by
  unfold zA
  rw [zI_nat h, Int.toNat_of_nonneg h.1]
theorem zA_set (f : Int → Int) {i : Int} (v : Int) (h : 0 ≤ i ∧ i < 2147483648) : upd (zA f) (zI i).toNatClampNeg (zI v) = zA (zU f i v) := by
  funext j
  rw [zI_nat h]
  unfold zA zU upd
  by_cases hj : j = i.toNat
  · subst hj
    rw [if_pos rfl, Int.toNat_of_nonneg h.1, if_pos rfl]
  · rw [if_neg hj, if_neg (fun q => hj (by omega))]
theorem zA_0 : (fun _ : Nat => (0 : Int32)) = zA (fun _ => 0) := rfl
/-- System.arraycopy of n from 0 to 0 -/
def zCp (f g : Int → Int) (n : Int) : Int → Int := fun x => if 0 ≤ x ∧ x < n then f x else g x
theorem zA_cpy (f g : Int → Int) (n : Nat) : va_cpy (zA f) (zA g) 0 0 n = zA (zCp f g n) := by
  funext j
  unfold va_cpy zA zCp
  by_cases hj : j < n
  · rw [if_pos ⟨Nat.zero_le _, by omega⟩, if_pos ⟨by omega, by omega⟩]
    congr 2
    omega
  · rw [if_neg (fun q => hj (by omega)), if_neg (fun q => hj (by omega))]
/-! ===== the facts of the tables that good words don't hold ===== -/
def zNest (w : Cond) : Bool := match w with
  | .fieldLinkNest .. => true
  | .methodLinkNest .. => true
  | .castable .. => true
  | .declares .. => true
  | _ => false
def zNW : List Cond := lw_tbl.filter zNest
def zStr : List (Nat × String) := []
def zNo : List (String × String) := []
def zF (U : State) : Prop := (∀ w ∈ zNW, va_Nw w U) ∧ (∀ q ∈ zStr, ∃ a : Nat, vk_R RX4 q.1 q.2 a U) ∧ va_AO RX2 U ∧ ∀ q ∈ zNo, va_Nc q.1 q.2 U
theorem zNest_warm {w : Cond} (h : zNest w = true) {s U : State} (hW : s.WarmedH U.vm) (hZ : va_Nw w s) : va_Nw w U := by
  cases w <;> first | exact va_Nw.warmF hW hZ | exact va_Nw.warmM hW hZ | exact va_Nw.warmC hW hZ | exact va_Nw.warmD hW hZ | exact absurd h (by simp [zNest])
theorem zNest_tab {w : Cond} (h : zNest w = true) : w.onTables = true := by
  cases w <;> first | rfl | exact absurd h (by simp [zNest])
theorem zF.warm {s U : State} (hW : s.WarmedH U.vm) (h : zF s) : zF U :=
  ⟨fun w hw => zNest_warm (List.mem_filter.mp hw).2 hW (h.1 w hw), fun q hq => by
    obtain ⟨a, ha⟩ := h.2.1 q hq
    exact ⟨a, ha.warm hW⟩, va_AO.moved hW.alike h.2.2.1, fun q hq => va_Nc.moved hW.alike (h.2.2.2 q hq)⟩
theorem zF.same {u U : State} (hv : U.vm = u.vm) (h : zF u) : zF U :=
  ⟨fun w hw => va_Nw.same (zNest_tab (List.mem_filter.mp hw).2) hv.symm (h.1 w hw), fun q hq => by
    obtain ⟨a, ha⟩ := h.2.1 q hq
    exact ⟨a, ha.same hv⟩, va_AO.moved (hv ▸ Vm.Alike.refl _) h.2.2.1, fun q hq => va_Nc.moved (hv ▸ Vm.Alike.refl _) (h.2.2.2 q hq)⟩
/-! ===== contracts ===== -/
abbrev zTy (cI cS _cJ : ClassId) : List (ClassId × FieldType) := [(cI, .int), (cS, .object RX2)]
def zPre (D : va_G) (tys : List (ClassId × FieldType)) (wc : va_W) (sz : Nat) : State → Prop := fun U => U.heap.size = sz ∧ va_P D vwCl wc U.heap ∧ va_K D vwCl tys U ∧ va_D (fun _ => True) wc ∧ zF U
def zB (D : va_G) (tys : List (ClassId × FieldType)) (A : Nat → Prop) (w : va_W) (t : State) : Prop := va_P D vwCl w t.heap ∧ va_K D vwCl tys t ∧ va_D A w
theorem zPre_blind {D : va_G} {tys : List (ClassId × FieldType)} {wc : va_W} {sz : Nat} {av : List Value} : FrameBlind (va_Pc av (zPre D tys wc sz)) := fun a U g mk h => by
  obtain ⟨h1, h2, h3, h4, h5, h6⟩ := h
  exact ⟨h1, h2, h3, va_K.moved (u := U) (U := U.calling g mk a) (Vm.Alike.refl U.vm) h4, h5, zF.same (u := U) (U := U.calling g mk a) rfl h6⟩
def zMi (l : Launch) (y : MethodName) (wy : List Cond) (rm : Room) (D : va_G) (tys : List (ClassId × FieldType)) (av : List Value) (wc : va_W) (post : Int32 → va_W → Prop) (mc ms : Nat) : Prop :=
  ∀ sz, Met l y wy rm (va_Pc av (zPre D tys wc sz)) (va_Qi post (zB D tys (va_A wc sz)) (va_A wc sz)) mc ms (va_A wc sz)
def zMv (l : Launch) (y : MethodName) (wy : List Cond) (rm : Room) (D : va_G) (tys : List (ClassId × FieldType)) (av : List Value) (wc : va_W) (post : va_W → Prop) (mc ms : Nat) : Prop :=
  ∀ sz, Met l y wy rm (va_Pc av (zPre D tys wc sz)) (va_Qv post (zB D tys (va_A wc sz)) (va_A wc sz)) mc ms (va_A wc sz)
def zMl (l : Launch) (y : MethodName) (wy : List Cond) (rm : Room) (D : va_G) (tys : List (ClassId × FieldType)) (av : List Value) (wc : va_W) (post : Int64 → va_W → Prop) (mc ms : Nat) : Prop :=
  ∀ sz, Met l y wy rm (va_Pc av (zPre D tys wc sz)) (va_Ql post (zB D tys (va_A wc sz)) (va_A wc sz)) mc ms (va_A wc sz)
def zMd (l : Launch) (y : MethodName) (wy : List Cond) (rm : Room) (D : va_G) (tys : List (ClassId × FieldType)) (av : List Value) (wc : va_W) (post : UInt64 → va_W → Prop) (mc ms : Nat) : Prop :=
  ∀ sz, Met l y wy rm (va_Pc av (zPre D tys wc sz)) (va_Qd post (zB D tys (va_A wc sz)) (va_A wc sz)) mc ms (va_A wc sz)
def zMq (l : Launch) (y : MethodName) (wy : List Cond) (rm : Room) (D : va_G) (tys : List (ClassId × FieldType)) (av : List Value) (wc : va_W) (post : Option Nat → va_W → Prop) (mc ms : Nat) : Prop :=
  ∀ sz, Met l y wy rm (va_Pc av (zPre D tys wc sz)) (va_Qq post (zB D tys (va_A wc sz)) (va_A wc sz)) mc ms (va_A wc sz)
/-- what stays the same in a body -/
def zC (p : Program) (l : Launch) (s : State) (m : MethodId) (args : Array Value) (meth : Method) (c : Code) (cc : ByteArray) (own : String) (Ts : List Cond) (D : va_G) (tys : List (ClassId × FieldType)) (A : Nat → Prop) (nL : Nat) : Prop :=
  CallFix p m c cc nL s args Ts own ∧ va_K D vwCl tys s ∧ (∀ q, s.heap.size ≤ q → A q) ∧ meth.locks = false ∧ zF s
/-- the machine at pc, with this world, these locals, this operand stack, comes to Q -/
def zJ (p : Program) (l : Launch) (e : Env) (R : Room) (s : State) (m : MethodId) (args : Array Value) (below : List Frame) (meth : Method) (c : Code) (Q : State → Prop) (D : va_G) (A : Nat → Prop) (nL : Nat) (ws : va_W) (cn sn : Nat) (lv : List (Nat × Value)) (pc : Nat) (st : List Value) : Prop :=
  ∀ (H : Heap) (locs : List Loc) (ls : Array Slot), va_P D vwCl ws H → va_D A ws → va_S A s.heap H locs → lv_has ls nL lv → W p l e R s m args below meth c H locs cn sn Q (F0 m pc ls st)
section ZOF
variable {l : Launch} {y : MethodName} {wy ws' : List Cond} {rm : Room} {D : va_G} {tys : List (ClassId × FieldType)} {av : List Value} {wc : va_W} {mc ms : Nat} {cc : ByteArray} {nL : Nat} {ret : Option FieldType}
theorem zMet_of {Qc : (Nat → Prop) → Array Value → State → Outcome → State → Prop} (own : String) (lv0 : List (Nat × Value)) (hown : y.cls = own) (hy : plainName y.cls = true) (hw : wy = Cond.code y cc nL ret :: ws') (hlen : (lg_sl av).length ≤ nL) (hlv : lv_args 0 av = lv0)
    (body : ∀ p e s m args below meth c A Q, Q = MQ below (Qc A) args s mc ms A → zC p l s m args meth c cc own wy D tys A nL → meth.sig.returnType = ret → (y.name = "<init>" → meth.name = "<init>") → zJ p l e rm s m args below meth c Q D A nL wc 0 0 lv0 0 []) (sz : Nat) :
    Met l y wy rm (va_Pc av (zPre D tys wc sz)) (Qc (va_A wc sz)) mc ms (va_A wc sz) := by
  refine Met.ofW (cc := cc) (maxL := nL) (ret := ret) hy hw ?_
  intro p e s m args below meth c s₁ B hml hv
  obtain ⟨rfl, hsz, hP, hK, hD0, hF⟩ := hv
  subst hsz
  have hD := hD0.self (sz := s.heap.size)
  have hn : s.vm.findClass own = some m.cls := by rw [← hown]; exact findClass_of_methodNamed B.named
  have hl := lv_entry av (n := nL) hlen
  rw [lg_entry_eq]
  subst hlv
  exact body p e s m _ below meth c (va_A wc s.heap.size) _ rfl ⟨⟨B.exec, B.bytes, hml, hn, atoms_spec (ws := wy) B.pre⟩, hK, fun q h => Or.inr h, B.notSynchronized, hF⟩ B.returns (fun h => (name_of_methodNamed B.named B.method).1.trans h) s.heap [] _ hP hD va_S.rf hl
end ZOF
section ZJ
variable {p : Program} {l : Launch} {e : Env} {R : Room} {s : State} {m : MethodId} {args : Array Value} {below : List Frame} {meth : Method} {c : Code} {Q : State → Prop} {D : va_G} {A : Nat → Prop} {nL : Nat} {ws : va_W} {cn sn : Nat} {lv : List (Nat × Value)} {pc : Nat} {st : List Value} {cc : ByteArray} {own : String} {Ts : List Cond} {tys : List (ClassId × FieldType)}
/-! constants, loads, stores -/
theorem zj_iconst (pc' : Nat) (C : zC p l s m args meth c cc own Ts D tys A nL) {n : Int} (hd : decode cc pc = .ok (.iconst n, 1)) (hp : pc + 1 = pc') (k : zJ p l e R s m args below meth c Q D A nL ws cn sn lv pc' (.int (zI n) :: st)) : zJ p l e R s m args below meth c Q D A nL ws cn sn lv pc st := by
  subst hp
  exact fun H locs ls hP hD hS hl => lv_iconst C.1.1 C.1.2.1 hd rfl (k H locs ls hP hD hS hl)
theorem zj_bipush (pc' : Nat) (C : zC p l s m args meth c cc own Ts D tys A nL) {n : Int} (hd : decode cc pc = .ok (.bipush n, 2)) (hp : pc + 2 = pc') (hn : (Int8.ofInt n).toInt32 = zI n) (k : zJ p l e R s m args below meth c Q D A nL ws cn sn lv pc' (.int (zI n) :: st)) : zJ p l e R s m args below meth c Q D A nL ws cn sn lv pc st := by
  subst hp
  exact fun H locs ls hP hD hS hl => lv_bipush C.1.1 C.1.2.1 hd hn (k H locs ls hP hD hS hl)
theorem zj_sipush (pc' : Nat) (C : zC p l s m args meth c cc own Ts D tys A nL) {n : Int} (hd : decode cc pc = .ok (.sipush n, 3)) (hp : pc + 3 = pc') (hn : (Int16.ofInt n).toInt32 = zI n) (k : zJ p l e R s m args below meth c Q D A nL ws cn sn lv pc' (.int (zI n) :: st)) : zJ p l e R s m args below meth c Q D A nL ws cn sn lv pc st := by
  subst hp
  exact fun H locs ls hP hD hS hl => lv_sipush C.1.1 C.1.2.1 hd hn (k H locs ls hP hD hS hl)
theorem zj_ldcw (pc' : Nat) (C : zC p l s m args meth c cc own Ts D tys A nL) {index : Nat} {v : Int32} (n : Int) (hn : v = zI n) (hw : Cond.constant own index v ∈ Ts) (hd : decode cc pc = .ok (.ldc_w index, 3)) (hp : pc + 3 = pc') (k : zJ p l e R s m args below meth c Q D A nL ws cn sn lv pc' (.int (zI n) :: st)) : zJ p l e R s m args below meth c Q D A nL ws cn sn lv pc st := by
  subst hp; subst hn
  exact fun H locs ls hP hD hS hl => lv_ldcw C.1.1 C.1.2.1 C.1.2.2.2.1 (C.1.2.2.2.2 _ hw) hd (k H locs ls hP hD hS hl)
theorem zj_ldc (pc' : Nat) (C : zC p l s m args meth c cc own Ts D tys A nL) {index : Nat} {v : Int32} (n : Int) (hn : v = zI n) (hw : Cond.constant own index v ∈ Ts) (hd : decode cc pc = .ok (.ldc index, 2)) (hp : pc + 2 = pc') (k : zJ p l e R s m args below meth c Q D A nL ws cn sn lv pc' (.int (zI n) :: st)) : zJ p l e R s m args below meth c Q D A nL ws cn sn lv pc st := by
  subst hp; subst hn
  exact fun H locs ls hP hD hS hl => lv_ldc C.1.1 C.1.2.1 C.1.2.2.2.1 (C.1.2.2.2.2 _ hw) hd (k H locs ls hP hD hS hl)
theorem zj_ldc2 (pc' : Nat) (C : zC p l s m args meth c cc own Ts D tys A nL) {index : Nat} (v : Int64) (hw : Cond.constantLong own index v ∈ Ts) (hd : decode cc pc = .ok (.ldc2_w index, 3)) (hp : pc + 3 = pc') (k : zJ p l e R s m args below meth c Q D A nL ws cn sn lv pc' (.long v :: st)) : zJ p l e R s m args below meth c Q D A nL ws cn sn lv pc st := by
  subst hp
  exact fun H locs ls hP hD hS hl => lv_ldc2 C.1.1 C.1.2.1 C.1.2.2.2.1 (C.1.2.2.2.2 _ hw) hd (k H locs ls hP hD hS hl)
theorem zj_ldc2d (pc' : Nat) (C : zC p l s m args meth c cc own Ts D tys A nL) {index : Nat} (v : UInt64) (hw : Cond.constantDouble own index v ∈ Ts) (hd : decode cc pc = .ok (.ldc2_w index, 3)) (hp : pc + 3 = pc') (k : zJ p l e R s m args below meth c Q D A nL ws cn sn lv pc' (.double v :: st)) : zJ p l e R s m args below meth c Q D A nL ws cn sn lv pc st := by
  subst hp
  exact fun H locs ls hP hD hS hl => lv_ldc2d C.1.1 C.1.2.1 C.1.2.2.2.1 (C.1.2.2.2.2 _ hw) hd (k H locs ls hP hD hS hl)
theorem zj_lconst (pc' : Nat) (C : zC p l s m args meth c cc own Ts D tys A nL) {n : Fin 2} (v : Int64) (hv : Int64.ofNat (n : Nat) = v) (hd : decode cc pc = .ok (.lconst n, 1)) (hp : pc + 1 = pc') (k : zJ p l e R s m args below meth c Q D A nL ws cn sn lv pc' (.long v :: st)) : zJ p l e R s m args below meth c Q D A nL ws cn sn lv pc st := by
  subst hp
  exact fun H locs ls hP hD hS hl => lv_lconst C.1.1 C.1.2.1 hd hv (k H locs ls hP hD hS hl)
theorem zj_dconst1 (pc' : Nat) (C : zC p l s m args meth c cc own Ts D tys A nL) (hd : decode cc pc = .ok (.dconst 1, 1)) (hp : pc + 1 = pc') (k : zJ p l e R s m args below meth c Q D A nL ws cn sn lv pc' (.double FP.dconst1 :: st)) : zJ p l e R s m args below meth c Q D A nL ws cn sn lv pc st := by
  subst hp
  exact fun H locs ls hP hD hS hl => lv_dconst1 C.1.1 C.1.2.1 hd (k H locs ls hP hD hS hl)
theorem zj_iload_n (pc' j : Nat) (C : zC p l s m args meth c cc own Ts D tys A nL) {kk : Fin 4} {i : Nat} {x : Int32} (hd : decode cc pc = .ok (.iload_n kk, 1)) (hp : pc + 1 = pc') (hi : (kk : Nat) = i) (hl : lv[j]? = some (i, .int x)) (k : zJ p l e R s m args below meth c Q D A nL ws cn sn lv pc' (.int x :: st)) : zJ p l e R s m args below meth c Q D A nL ws cn sn lv pc st := by
  subst hp
  exact fun H locs ls hP hD hS h => lv_iload_n C.1.1 C.1.2.1 hd hi (lv_at h j hl) (k H locs ls hP hD hS h)
theorem zj_iload (pc' j : Nat) (C : zC p l s m args meth c cc own Ts D tys A nL) {i : Nat} {x : Int32} (hd : decode cc pc = .ok (.iload i, 2)) (hp : pc + 2 = pc') (hl : lv[j]? = some (i, .int x)) (k : zJ p l e R s m args below meth c Q D A nL ws cn sn lv pc' (.int x :: st)) : zJ p l e R s m args below meth c Q D A nL ws cn sn lv pc st := by
  subst hp
  exact fun H locs ls hP hD hS h => lv_iload C.1.1 C.1.2.1 hd (lv_at h j hl) (k H locs ls hP hD hS h)
theorem zj_lload_n (pc' j : Nat) (C : zC p l s m args meth c cc own Ts D tys A nL) {kk : Fin 4} {i : Nat} {x : Int64} (hd : decode cc pc = .ok (.lload_n kk, 1)) (hp : pc + 1 = pc') (hi : (kk : Nat) = i) (hl : lv[j]? = some (i, .long x)) (k : zJ p l e R s m args below meth c Q D A nL ws cn sn lv pc' (.long x :: st)) : zJ p l e R s m args below meth c Q D A nL ws cn sn lv pc st := by
  subst hp
  exact fun H locs ls hP hD hS h => lv_lload_n C.1.1 C.1.2.1 hd hi (lv_at h j hl) (k H locs ls hP hD hS h)
theorem zj_lload (pc' j : Nat) (C : zC p l s m args meth c cc own Ts D tys A nL) {i : Nat} {x : Int64} (hd : decode cc pc = .ok (.lload i, 2)) (hp : pc + 2 = pc') (hl : lv[j]? = some (i, .long x)) (k : zJ p l e R s m args below meth c Q D A nL ws cn sn lv pc' (.long x :: st)) : zJ p l e R s m args below meth c Q D A nL ws cn sn lv pc st := by
  subst hp
  exact fun H locs ls hP hD hS h => lv_lload C.1.1 C.1.2.1 hd (lv_at h j hl) (k H locs ls hP hD hS h)
theorem zj_dload_n (pc' j : Nat) (C : zC p l s m args meth c cc own Ts D tys A nL) {kk : Fin 4} {i : Nat} {x : UInt64} (hd : decode cc pc = .ok (.dload_n kk, 1)) (hp : pc + 1 = pc') (hi : (kk : Nat) = i) (hl : lv[j]? = some (i, .double x)) (k : zJ p l e R s m args below meth c Q D A nL ws cn sn lv pc' (.double x :: st)) : zJ p l e R s m args below meth c Q D A nL ws cn sn lv pc st := by
  subst hp
  exact fun H locs ls hP hD hS h => lv_dload_n C.1.1 C.1.2.1 hd hi (lv_at h j hl) (k H locs ls hP hD hS h)
theorem zj_dload (pc' j : Nat) (C : zC p l s m args meth c cc own Ts D tys A nL) {i : Nat} {x : UInt64} (hd : decode cc pc = .ok (.dload i, 2)) (hp : pc + 2 = pc') (hl : lv[j]? = some (i, .double x)) (k : zJ p l e R s m args below meth c Q D A nL ws cn sn lv pc' (.double x :: st)) : zJ p l e R s m args below meth c Q D A nL ws cn sn lv pc st := by
  subst hp
  exact fun H locs ls hP hD hS h => lv_dload C.1.1 C.1.2.1 hd (lv_at h j hl) (k H locs ls hP hD hS h)
theorem zj_aload_n (pc' j : Nat) (C : zC p l s m args meth c cc own Ts D tys A nL) {kk : Fin 4} {i : Nat} {x : Nat} (hd : decode cc pc = .ok (.aload_n kk, 1)) (hp : pc + 1 = pc') (hi : (kk : Nat) = i) (hl : lv[j]? = some (i, .ref x)) (k : zJ p l e R s m args below meth c Q D A nL ws cn sn lv pc' (.ref x :: st)) : zJ p l e R s m args below meth c Q D A nL ws cn sn lv pc st := by
  subst hp
  exact fun H locs ls hP hD hS h => lv_aload_n C.1.1 C.1.2.1 hd hi (lv_at h j hl) (k H locs ls hP hD hS h)
theorem zj_aload (pc' j : Nat) (C : zC p l s m args meth c cc own Ts D tys A nL) {i : Nat} {x : Nat} (hd : decode cc pc = .ok (.aload i, 2)) (hp : pc + 2 = pc') (hl : lv[j]? = some (i, .ref x)) (k : zJ p l e R s m args below meth c Q D A nL ws cn sn lv pc' (.ref x :: st)) : zJ p l e R s m args below meth c Q D A nL ws cn sn lv pc st := by
  subst hp
  exact fun H locs ls hP hD hS h => lv_aload C.1.1 C.1.2.1 hd (lv_at h j hl) (k H locs ls hP hD hS h)
theorem zj_aload_nN (pc' j : Nat) (C : zC p l s m args meth c cc own Ts D tys A nL) {kk : Fin 4} {i : Nat} (hd : decode cc pc = .ok (.aload_n kk, 1)) (hp : pc + 1 = pc') (hi : (kk : Nat) = i) (hl : lv[j]? = some (i, .null)) (k : zJ p l e R s m args below meth c Q D A nL ws cn sn lv pc' (.null :: st)) : zJ p l e R s m args below meth c Q D A nL ws cn sn lv pc st := by
  subst hp
  exact fun H locs ls hP hD hS h => lv_aload_nN C.1.1 C.1.2.1 hd hi (lv_at h j hl) (k H locs ls hP hD hS h)
theorem zj_istore_n (pc' : Nat) (lv' : List (Nat × Value)) (C : zC p l s m args meth c cc own Ts D tys A nL) {kk : Fin 4} {i : Nat} {x : Int32} (hd : decode cc pc = .ok (.istore_n kk, 1)) (hp : pc + 1 = pc') (hi : (kk : Nat) = i) (hn : i < nL) (hl : (i, Value.int x) :: lv.filter (fun q => !(q.1 == i) && !(q.1 + 1 == i && q.2.category == 2)) = lv') (k : zJ p l e R s m args below meth c Q D A nL ws cn sn lv' pc' st) : zJ p l e R s m args below meth c Q D A nL ws cn sn lv pc (.int x :: st) := by
  subst hp
  exact fun H locs ls hP hD hS h => lv_istore_n C.1.1 C.1.2.1 hd hi h hn hl (fun ls' h' => k H locs ls' hP hD hS h')
theorem zj_istore (pc' : Nat) (lv' : List (Nat × Value)) (C : zC p l s m args meth c cc own Ts D tys A nL) {i : Nat} {x : Int32} (hd : decode cc pc = .ok (.istore i, 2)) (hp : pc + 2 = pc') (hn : i < nL) (hl : (i, Value.int x) :: lv.filter (fun q => !(q.1 == i) && !(q.1 + 1 == i && q.2.category == 2)) = lv') (k : zJ p l e R s m args below meth c Q D A nL ws cn sn lv' pc' st) : zJ p l e R s m args below meth c Q D A nL ws cn sn lv pc (.int x :: st) := by
  subst hp
  exact fun H locs ls hP hD hS h => lv_istore C.1.1 C.1.2.1 hd h hn hl (fun ls' h' => k H locs ls' hP hD hS h')
theorem zj_astore_n (pc' : Nat) (lv' : List (Nat × Value)) (C : zC p l s m args meth c cc own Ts D tys A nL) {kk : Fin 4} {i : Nat} {x : Nat} (hd : decode cc pc = .ok (.astore_n kk, 1)) (hp : pc + 1 = pc') (hi : (kk : Nat) = i) (hn : i < nL) (hl : (i, Value.ref x) :: lv.filter (fun q => !(q.1 == i) && !(q.1 + 1 == i && q.2.category == 2)) = lv') (k : zJ p l e R s m args below meth c Q D A nL ws cn sn lv' pc' st) : zJ p l e R s m args below meth c Q D A nL ws cn sn lv pc (.ref x :: st) := by
  subst hp
  exact fun H locs ls hP hD hS h => lv_astore_n C.1.1 C.1.2.1 hd hi h hn hl (fun ls' h' => k H locs ls' hP hD hS h')
theorem zj_astore (pc' : Nat) (lv' : List (Nat × Value)) (C : zC p l s m args meth c cc own Ts D tys A nL) {i : Nat} {x : Nat} (hd : decode cc pc = .ok (.astore i, 2)) (hp : pc + 2 = pc') (hn : i < nL) (hl : (i, Value.ref x) :: lv.filter (fun q => !(q.1 == i) && !(q.1 + 1 == i && q.2.category == 2)) = lv') (k : zJ p l e R s m args below meth c Q D A nL ws cn sn lv' pc' st) : zJ p l e R s m args below meth c Q D A nL ws cn sn lv pc (.ref x :: st) := by
  subst hp
  exact fun H locs ls hP hD hS h => lv_astore C.1.1 C.1.2.1 hd h hn hl (fun ls' h' => k H locs ls' hP hD hS h')
theorem zj_lstore_n (pc' : Nat) (lv' : List (Nat × Value)) (C : zC p l s m args meth c cc own Ts D tys A nL) {kk : Fin 4} {i : Nat} {x : Int64} (hd : decode cc pc = .ok (.lstore_n kk, 1)) (hp : pc + 1 = pc') (hi : (kk : Nat) = i) (hn : i + 1 < nL) (hl : (i, Value.long x) :: lv.filter (fun q => !(q.1 == i) && (!(q.1 == i + 1) && !(q.1 + 1 == i && q.2.category == 2))) = lv') (k : zJ p l e R s m args below meth c Q D A nL ws cn sn lv' pc' st) : zJ p l e R s m args below meth c Q D A nL ws cn sn lv pc (.long x :: st) := by
  subst hp
  exact fun H locs ls hP hD hS h => lv_lstore_n C.1.1 C.1.2.1 hd hi h hn hl (fun ls' h' => k H locs ls' hP hD hS h')
theorem zj_lstore (pc' : Nat) (lv' : List (Nat × Value)) (C : zC p l s m args meth c cc own Ts D tys A nL) {i : Nat} {x : Int64} (hd : decode cc pc = .ok (.lstore i, 2)) (hp : pc + 2 = pc') (hn : i + 1 < nL) (hl : (i, Value.long x) :: lv.filter (fun q => !(q.1 == i) && (!(q.1 == i + 1) && !(q.1 + 1 == i && q.2.category == 2))) = lv') (k : zJ p l e R s m args below meth c Q D A nL ws cn sn lv' pc' st) : zJ p l e R s m args below meth c Q D A nL ws cn sn lv pc (.long x :: st) := by
  subst hp
  exact fun H locs ls hP hD hS h => lv_lstore C.1.1 C.1.2.1 hd h hn hl (fun ls' h' => k H locs ls' hP hD hS h')
theorem zj_dstore_n (pc' : Nat) (lv' : List (Nat × Value)) (C : zC p l s m args meth c cc own Ts D tys A nL) {kk : Fin 4} {i : Nat} {x : UInt64} (hd : decode cc pc = .ok (.dstore_n kk, 1)) (hp : pc + 1 = pc') (hi : (kk : Nat) = i) (hn : i + 1 < nL) (hl : (i, Value.double x) :: lv.filter (fun q => !(q.1 == i) && (!(q.1 == i + 1) && !(q.1 + 1 == i && q.2.category == 2))) = lv') (k : zJ p l e R s m args below meth c Q D A nL ws cn sn lv' pc' st) : zJ p l e R s m args below meth c Q D A nL ws cn sn lv pc (.double x :: st) := by
  subst hp
  exact fun H locs ls hP hD hS h => lv_dstore_n C.1.1 C.1.2.1 hd hi h hn hl (fun ls' h' => k H locs ls' hP hD hS h')
theorem zj_dstore (pc' : Nat) (lv' : List (Nat × Value)) (C : zC p l s m args meth c cc own Ts D tys A nL) {i : Nat} {x : UInt64} (hd : decode cc pc = .ok (.dstore i, 2)) (hp : pc + 2 = pc') (hn : i + 1 < nL) (hl : (i, Value.double x) :: lv.filter (fun q => !(q.1 == i) && (!(q.1 == i + 1) && !(q.1 + 1 == i && q.2.category == 2))) = lv') (k : zJ p l e R s m args below meth c Q D A nL ws cn sn lv' pc' st) : zJ p l e R s m args below meth c Q D A nL ws cn sn lv pc (.double x :: st) := by
  subst hp
  exact fun H locs ls hP hD hS h => lv_dstore C.1.1 C.1.2.1 hd h hn hl (fun ls' h' => k H locs ls' hP hD hS h')
theorem zj_iinc (pc' : Nat) (j : Nat) (lv' : List (Nat × Value)) (C : zC p l s m args meth c cc own Ts D tys A nL) {i : Nat} {n x : Int} (hd : decode cc pc = .ok (.iinc i n, 3)) (hp : pc + 3 = pc') (hj : lv[j]? = some (i, .int (zI x))) (hn : i < nL) (hl : (i, Value.int (zI (x + n))) :: lv.filter (fun q => !(q.1 == i) && !(q.1 + 1 == i && q.2.category == 2)) = lv') (k : zJ p l e R s m args below meth c Q D A nL ws cn sn lv' pc' st) : zJ p l e R s m args below meth c Q D A nL ws cn sn lv pc st := by
  subst hp
  exact fun H locs ls hP hD hS h => lv_iinc C.1.1 C.1.2.1 hd h hj (zI_add x n) hn hl (fun ls' h' => k H locs ls' hP hD hS h')
theorem zj_dup (pc' : Nat) (C : zC p l s m args meth c cc own Ts D tys A nL) {v : Value} (hd : decode cc pc = .ok (.dup, 1)) (hp : pc + 1 = pc') (hv : v.category = 1) (k : zJ p l e R s m args below meth c Q D A nL ws cn sn lv pc' (v :: v :: st)) : zJ p l e R s m args below meth c Q D A nL ws cn sn lv pc (v :: st) := by
  subst hp
  exact fun H locs ls hP hD hS h => lv_dup C.1.1 C.1.2.1 hd hv (k H locs ls hP hD hS h)
theorem zj_dup2 (pc' : Nat) (C : zC p l s m args meth c cc own Ts D tys A nL) {va vb : Value} (hd : decode cc pc = .ok (.dup2, 1)) (hp : pc + 1 = pc') (ha : va.category = 1) (hb : vb.category = 1) (k : zJ p l e R s m args below meth c Q D A nL ws cn sn lv pc' (va :: vb :: va :: vb :: st)) : zJ p l e R s m args below meth c Q D A nL ws cn sn lv pc (va :: vb :: st) := by
  subst hp
  exact fun H locs ls hP hD hS h => lv_dup2_11 C.1.1 C.1.2.1 hd ha hb (k H locs ls hP hD hS h)
theorem zj_null (pc' : Nat) (C : zC p l s m args meth c cc own Ts D tys A nL) (hd : decode cc pc = .ok (.aconst_null, 1)) (hp : pc + 1 = pc') (k : zJ p l e R s m args below meth c Q D A nL ws cn sn lv pc' (.null :: st)) : zJ p l e R s m args below meth c Q D A nL ws cn sn lv pc st := by
  subst hp
  exact fun H locs ls hP hD hS h => lv_null C.1.1 C.1.2.1 hd (k H locs ls hP hD hS h)
/-! arithmetic -/
theorem zj_iadd (pc' : Nat) (C : zC p l s m args meth c cc own Ts D tys A nL) {a b : Int} (hd : decode cc pc = .ok (.iadd, 1)) (hp : pc + 1 = pc') (k : zJ p l e R s m args below meth c Q D A nL ws cn sn lv pc' (.int (zI (a + b)) :: st)) : zJ p l e R s m args below meth c Q D A nL ws cn sn lv pc (.int (zI b) :: .int (zI a) :: st) := by
  subst hp
  exact fun H locs ls hP hD hS h => lv_iadd C.1.1 C.1.2.1 hd (by rw [zI_add]; exact k H locs ls hP hD hS h)
theorem zj_isub (pc' : Nat) (C : zC p l s m args meth c cc own Ts D tys A nL) {a b : Int} (hd : decode cc pc = .ok (.isub, 1)) (hp : pc + 1 = pc') (k : zJ p l e R s m args below meth c Q D A nL ws cn sn lv pc' (.int (zI (a - b)) :: st)) : zJ p l e R s m args below meth c Q D A nL ws cn sn lv pc (.int (zI b) :: .int (zI a) :: st) := by
  subst hp
  exact fun H locs ls hP hD hS h => lv_isub C.1.1 C.1.2.1 hd (by rw [zI_sub]; exact k H locs ls hP hD hS h)
theorem zj_imul (pc' : Nat) (C : zC p l s m args meth c cc own Ts D tys A nL) {a b : Int} (hd : decode cc pc = .ok (.imul, 1)) (hp : pc + 1 = pc') (k : zJ p l e R s m args below meth c Q D A nL ws cn sn lv pc' (.int (zI (a * b)) :: st)) : zJ p l e R s m args below meth c Q D A nL ws cn sn lv pc (.int (zI b) :: .int (zI a) :: st) := by
  subst hp
  exact fun H locs ls hP hD hS h => lv_imul C.1.1 C.1.2.1 hd (by rw [zI_mul]; exact k H locs ls hP hD hS h)
theorem zj_ineg (pc' : Nat) (C : zC p l s m args meth c cc own Ts D tys A nL) {a : Int} (hd : decode cc pc = .ok (.ineg, 1)) (hp : pc + 1 = pc') (k : zJ p l e R s m args below meth c Q D A nL ws cn sn lv pc' (.int (zI (-a)) :: st)) : zJ p l e R s m args below meth c Q D A nL ws cn sn lv pc (.int (zI a) :: st) := by
  subst hp
  exact fun H locs ls hP hD hS h => lv_ineg C.1.1 C.1.2.1 hd (by rw [zI_neg]; exact k H locs ls hP hD hS h)
theorem zj_irem2 (pc' : Nat) (C : zC p l s m args meth c cc own Ts D tys A nL) {a : Int} (hd : decode cc pc = .ok (.irem, 1)) (hp : pc + 1 = pc') (ha : 0 ≤ a ∧ a < 2147483648) (k : zJ p l e R s m args below meth c Q D A nL ws cn sn lv pc' (.int (zI (a % 2)) :: st)) : zJ p l e R s m args below meth c Q D A nL ws cn sn lv pc (.int (zI 2) :: .int (zI a) :: st) := by
  subst hp
  exact fun H locs ls hP hD hS h => lv_irem C.1.1 C.1.2.1 hd (by decide) (by rw [zI_rem2 ha]; exact k H locs ls hP hD hS h)
theorem zj_iand1 (pc' : Nat) (C : zC p l s m args meth c cc own Ts D tys A nL) {a : Int} (hd : decode cc pc = .ok (.iand, 1)) (hp : pc + 1 = pc') (ha : 0 ≤ a ∧ a < 2147483648) (k : zJ p l e R s m args below meth c Q D A nL ws cn sn lv pc' (.int (zI (a % 2)) :: st)) : zJ p l e R s m args below meth c Q D A nL ws cn sn lv pc (.int (zI 1) :: .int (zI a) :: st) := by
  subst hp
  exact fun H locs ls hP hD hS h => lv_iand C.1.1 C.1.2.1 hd (by rw [zI_and1 ha]; exact k H locs ls hP hD hS h)
theorem zj_iand31 (pc' : Nat) (C : zC p l s m args meth c cc own Ts D tys A nL) {x : Int32} (hd : decode cc pc = .ok (.iand, 1)) (hp : pc + 1 = pc') (k : ∀ a : Int, (0 ≤ a ∧ a < 32) → zJ p l e R s m args below meth c Q D A nL ws cn sn lv pc' (.int (zI a) :: st)) : zJ p l e R s m args below meth c Q D A nL ws cn sn lv pc (.int (zI 31) :: .int x :: st) := by
  subst hp
  obtain ⟨a, ha, ea⟩ := zI_and31 x
  exact fun H locs ls hP hD hS h => lv_iand C.1.1 C.1.2.1 hd (by rw [ea]; exact k a ha H locs ls hP hD hS h)
theorem zj_i2l (pc' : Nat) (C : zC p l s m args meth c cc own Ts D tys A nL) {a : Int} (hd : decode cc pc = .ok (.i2l, 1)) (hp : pc + 1 = pc') (ha : -2147483648 ≤ a ∧ a < 2147483648) (k : zJ p l e R s m args below meth c Q D A nL ws cn sn lv pc' (.long (Int64.ofInt a) :: st)) : zJ p l e R s m args below meth c Q D A nL ws cn sn lv pc (.int (zI a) :: st) := by
  subst hp
  exact fun H locs ls hP hD hS h => lv_i2l C.1.1 C.1.2.1 hd (zI_i2l ha) (k H locs ls hP hD hS h)
theorem zj_ladd (pc' : Nat) (C : zC p l s m args meth c cc own Ts D tys A nL) {a b : Int64} (hd : decode cc pc = .ok (.ladd, 1)) (hp : pc + 1 = pc') (k : zJ p l e R s m args below meth c Q D A nL ws cn sn lv pc' (.long (a + b) :: st)) : zJ p l e R s m args below meth c Q D A nL ws cn sn lv pc (.long b :: .long a :: st) := by
  subst hp
  exact fun H locs ls hP hD hS h => lv_ladd C.1.1 C.1.2.1 hd (k H locs ls hP hD hS h)
theorem zj_lsub (pc' : Nat) (C : zC p l s m args meth c cc own Ts D tys A nL) {a b : Int64} (hd : decode cc pc = .ok (.lsub, 1)) (hp : pc + 1 = pc') (k : zJ p l e R s m args below meth c Q D A nL ws cn sn lv pc' (.long (a - b) :: st)) : zJ p l e R s m args below meth c Q D A nL ws cn sn lv pc (.long b :: .long a :: st) := by
  subst hp
  exact fun H locs ls hP hD hS h => lv_lsub C.1.1 C.1.2.1 hd (k H locs ls hP hD hS h)
theorem zj_lmul (pc' : Nat) (C : zC p l s m args meth c cc own Ts D tys A nL) {a b : Int64} (hd : decode cc pc = .ok (.lmul, 1)) (hp : pc + 1 = pc') (k : zJ p l e R s m args below meth c Q D A nL ws cn sn lv pc' (.long (a * b) :: st)) : zJ p l e R s m args below meth c Q D A nL ws cn sn lv pc (.long b :: .long a :: st) := by
  subst hp
  exact fun H locs ls hP hD hS h => lv_lmul C.1.1 C.1.2.1 hd (k H locs ls hP hD hS h)
theorem zj_lshl (pc' : Nat) (C : zC p l s m args meth c cc own Ts D tys A nL) {a : Int64} {b : Int32} (hd : decode cc pc = .ok (.lshl, 1)) (hp : pc + 1 = pc') (k : zJ p l e R s m args below meth c Q D A nL ws cn sn lv pc' (.long (a <<< (b.toInt64 &&& 63)) :: st)) : zJ p l e R s m args below meth c Q D A nL ws cn sn lv pc (.int b :: .long a :: st) := by
  subst hp
  exact fun H locs ls hP hD hS h => lv_lshl C.1.1 C.1.2.1 hd rfl (k H locs ls hP hD hS h)
theorem zj_lcmp (pc' : Nat) (C : zC p l s m args meth c cc own Ts D tys A nL) {a b : Int64} (hd : decode cc pc = .ok (.lcmp, 1)) (hp : pc + 1 = pc') (k : zJ p l e R s m args below meth c Q D A nL ws cn sn lv pc' (.int (lg_cmp a b) :: st)) : zJ p l e R s m args below meth c Q D A nL ws cn sn lv pc (.long b :: .long a :: st) := by
  subst hp
  exact fun H locs ls hP hD hS h => W.lcmp C.1.1 C.1.2.1 hd (k H locs ls hP hD hS h)
theorem zj_i2d (pc' : Nat) (C : zC p l s m args meth c cc own Ts D tys A nL) {a : Int32} (hd : decode cc pc = .ok (.i2d, 1)) (hp : pc + 1 = pc') (k : zJ p l e R s m args below meth c Q D A nL ws cn sn lv pc' (.double (FP.i2d a) :: st)) : zJ p l e R s m args below meth c Q D A nL ws cn sn lv pc (.int a :: st) := by
  subst hp
  exact fun H locs ls hP hD hS h => lv_i2d C.1.1 C.1.2.1 hd (k H locs ls hP hD hS h)
theorem zj_l2d (pc' : Nat) (C : zC p l s m args meth c cc own Ts D tys A nL) {a : Int64} (hd : decode cc pc = .ok (.l2d, 1)) (hp : pc + 1 = pc') (k : zJ p l e R s m args below meth c Q D A nL ws cn sn lv pc' (.double (FP.l2d a) :: st)) : zJ p l e R s m args below meth c Q D A nL ws cn sn lv pc (.long a :: st) := by
  subst hp
  exact fun H locs ls hP hD hS h => lv_l2d C.1.1 C.1.2.1 hd (k H locs ls hP hD hS h)
theorem zj_d2l (pc' : Nat) (C : zC p l s m args meth c cc own Ts D tys A nL) {a : UInt64} (hd : decode cc pc = .ok (.d2l, 1)) (hp : pc + 1 = pc') (k : zJ p l e R s m args below meth c Q D A nL ws cn sn lv pc' (.long (FP.d2l a) :: st)) : zJ p l e R s m args below meth c Q D A nL ws cn sn lv pc (.double a :: st) := by
  subst hp
  exact fun H locs ls hP hD hS h => lv_d2l C.1.1 C.1.2.1 hd (k H locs ls hP hD hS h)
theorem zj_ddiv (pc' : Nat) (C : zC p l s m args meth c cc own Ts D tys A nL) {a b : UInt64} (hne : vf_n64 (FP.ddiv a b)) (hd : decode cc pc = .ok (.ddiv, 1)) (hp : pc + 1 = pc') (k : zJ p l e R s m args below meth c Q D A nL ws cn sn lv pc' (.double (FP.ddiv a b) :: st)) : zJ p l e R s m args below meth c Q D A nL ws cn sn lv pc (.double b :: .double a :: st) := by
  subst hp
  exact fun H locs ls hP hD hS h => lv_ddiv C.1.1 C.1.2.1 hd hne (k H locs ls hP hD hS h)
theorem zj_dmul (pc' : Nat) (C : zC p l s m args meth c cc own Ts D tys A nL) {a b : UInt64} (hne : vf_n64 (FP.dmul a b)) (hd : decode cc pc = .ok (.dmul, 1)) (hp : pc + 1 = pc') (k : zJ p l e R s m args below meth c Q D A nL ws cn sn lv pc' (.double (FP.dmul a b) :: st)) : zJ p l e R s m args below meth c Q D A nL ws cn sn lv pc (.double b :: .double a :: st) := by
  subst hp
  exact fun H locs ls hP hD hS h => lv_dmul C.1.1 C.1.2.1 hd hne (k H locs ls hP hD hS h)
theorem zj_dsub (pc' : Nat) (C : zC p l s m args meth c cc own Ts D tys A nL) {a b : UInt64} (hne : vf_n64 (FP.dsub a b)) (hd : decode cc pc = .ok (.dsub, 1)) (hp : pc + 1 = pc') (k : zJ p l e R s m args below meth c Q D A nL ws cn sn lv pc' (.double (FP.dsub a b) :: st)) : zJ p l e R s m args below meth c Q D A nL ws cn sn lv pc (.double b :: .double a :: st) := by
  subst hp
  exact fun H locs ls hP hD hS h => lv_dsub C.1.1 C.1.2.1 hd hne (k H locs ls hP hD hS h)
theorem zj_dcmp (pc' : Nat) (C : zC p l s m args meth c cc own Ts D tys A nL) {a b : UInt64} {op : CmpOp} (hd : decode cc pc = .ok (.dcmp op, 1)) (hp : pc + 1 = pc') (k : zJ p l e R s m args below meth c Q D A nL ws cn sn lv pc' (.int (Op.cmpValue (FP.dcmp a b) op) :: st)) : zJ p l e R s m args below meth c Q D A nL ws cn sn lv pc (.double b :: .double a :: st) := by
  subst hp
  exact fun H locs ls hP hD hS h => lv_dcmp C.1.1 C.1.2.1 hd (k H locs ls hP hD hS h)
end ZJ
end
section
section ZK
variable {p : Program} {l : Launch} {e : Env} {R : Room} {s : State} {m : MethodId} {args : Array Value} {below : List Frame} {meth : Method} {c : Code} {Q : State → Prop} {D : va_G} {A : Nat → Prop} {nL : Nat} {ws : va_W} {cn sn : Nat} {lv : List (Nat × Value)} {pc : Nat} {st : List Value} {cc : ByteArray} {own : String} {Ts : List Cond} {tys : List (ClassId × FieldType)}
theorem zj_icmp_eq (pc' tgt : Nat) (C : zC p l s m args meth c cc own Ts D tys A nL) {a b : Int} {off : Int} (ha : (-2147483648 ≤ a ∧ a < 2147483648)) (hb : (-2147483648 ≤ b ∧ b < 2147483648)) (hd : decode cc pc = .ok (.if_icmp .eq off, 3)) (hp : pc + 3 = pc') (ht : (pc : Int) + off = (tgt : Int)) (kt : a = b → zJ p l e R s m args below meth c Q D A nL ws cn sn lv tgt st) (kf : ¬ a = b → zJ p l e R s m args below meth c Q D A nL ws cn sn lv pc' st) : zJ p l e R s m args below meth c Q D A nL ws cn sn lv pc (.int (zI b) :: .int (zI a) :: st) := by
  subst hp
  exact fun H locs ls hP hD hS hl => lv_icmp_eq C.1.1 C.1.2.1 hd ht (fun h => kt ((zI_eq ha hb).mp h) H locs ls hP hD hS hl) (fun h => kf (fun q => h (by rw [q])) H locs ls hP hD hS hl)
theorem zj_icmp_ne (pc' tgt : Nat) (C : zC p l s m args meth c cc own Ts D tys A nL) {a b : Int} {off : Int} (ha : (-2147483648 ≤ a ∧ a < 2147483648)) (hb : (-2147483648 ≤ b ∧ b < 2147483648)) (hd : decode cc pc = .ok (.if_icmp .ne off, 3)) (hp : pc + 3 = pc') (ht : (pc : Int) + off = (tgt : Int)) (kt : ¬ a = b → zJ p l e R s m args below meth c Q D A nL ws cn sn lv tgt st) (kf : a = b → zJ p l e R s m args below meth c Q D A nL ws cn sn lv pc' st) : zJ p l e R s m args below meth c Q D A nL ws cn sn lv pc (.int (zI b) :: .int (zI a) :: st) := by
  subst hp
  exact fun H locs ls hP hD hS hl => lv_icmp_ne C.1.1 C.1.2.1 hd ht (fun h => kt (fun q => h (by rw [q])) H locs ls hP hD hS hl) (fun h => kf ((zI_eq ha hb).mp h) H locs ls hP hD hS hl)
theorem zj_icmp_lt (pc' tgt : Nat) (C : zC p l s m args meth c cc own Ts D tys A nL) {a b : Int} {off : Int} (ha : (-2147483648 ≤ a ∧ a < 2147483648)) (hb : (-2147483648 ≤ b ∧ b < 2147483648)) (hd : decode cc pc = .ok (.if_icmp .lt off, 3)) (hp : pc + 3 = pc') (ht : (pc : Int) + off = (tgt : Int)) (kt : a < b → zJ p l e R s m args below meth c Q D A nL ws cn sn lv tgt st) (kf : b ≤ a → zJ p l e R s m args below meth c Q D A nL ws cn sn lv pc' st) : zJ p l e R s m args below meth c Q D A nL ws cn sn lv pc (.int (zI b) :: .int (zI a) :: st) := by
  subst hp
  exact fun H locs ls hP hD hS hl => lv_icmp_lt C.1.1 C.1.2.1 hd ht (fun h => kt ((zI_lt ha hb).mp h) H locs ls hP hD hS hl) (fun h => kf (by have q := (not_congr (zI_lt ha hb)).mp h; omega) H locs ls hP hD hS hl)
theorem zj_icmp_ge (pc' tgt : Nat) (C : zC p l s m args meth c cc own Ts D tys A nL) {a b : Int} {off : Int} (ha : (-2147483648 ≤ a ∧ a < 2147483648)) (hb : (-2147483648 ≤ b ∧ b < 2147483648)) (hd : decode cc pc = .ok (.if_icmp .ge off, 3)) (hp : pc + 3 = pc') (ht : (pc : Int) + off = (tgt : Int)) (kt : b ≤ a → zJ p l e R s m args below meth c Q D A nL ws cn sn lv tgt st) (kf : a < b → zJ p l e R s m args below meth c Q D A nL ws cn sn lv pc' st) : zJ p l e R s m args below meth c Q D A nL ws cn sn lv pc (.int (zI b) :: .int (zI a) :: st) := by
  subst hp
  exact fun H locs ls hP hD hS hl => lv_icmp_ge C.1.1 C.1.2.1 hd ht (fun h => kt ((zI_le hb ha).mp h) H locs ls hP hD hS hl) (fun h => kf (by have q := (not_congr (zI_le hb ha)).mp h; omega) H locs ls hP hD hS hl)
theorem zj_icmp_gt (pc' tgt : Nat) (C : zC p l s m args meth c cc own Ts D tys A nL) {a b : Int} {off : Int} (ha : (-2147483648 ≤ a ∧ a < 2147483648)) (hb : (-2147483648 ≤ b ∧ b < 2147483648)) (hd : decode cc pc = .ok (.if_icmp .gt off, 3)) (hp : pc + 3 = pc') (ht : (pc : Int) + off = (tgt : Int)) (kt : b < a → zJ p l e R s m args below meth c Q D A nL ws cn sn lv tgt st) (kf : a ≤ b → zJ p l e R s m args below meth c Q D A nL ws cn sn lv pc' st) : zJ p l e R s m args below meth c Q D A nL ws cn sn lv pc (.int (zI b) :: .int (zI a) :: st) := by
  subst hp
  exact fun H locs ls hP hD hS hl => lv_icmp_gt C.1.1 C.1.2.1 hd ht (fun h => kt ((zI_lt hb ha).mp h) H locs ls hP hD hS hl) (fun h => kf (by have q := (not_congr (zI_lt hb ha)).mp h; omega) H locs ls hP hD hS hl)
theorem zj_icmp_le (pc' tgt : Nat) (C : zC p l s m args meth c cc own Ts D tys A nL) {a b : Int} {off : Int} (ha : (-2147483648 ≤ a ∧ a < 2147483648)) (hb : (-2147483648 ≤ b ∧ b < 2147483648)) (hd : decode cc pc = .ok (.if_icmp .le off, 3)) (hp : pc + 3 = pc') (ht : (pc : Int) + off = (tgt : Int)) (kt : a ≤ b → zJ p l e R s m args below meth c Q D A nL ws cn sn lv tgt st) (kf : b < a → zJ p l e R s m args below meth c Q D A nL ws cn sn lv pc' st) : zJ p l e R s m args below meth c Q D A nL ws cn sn lv pc (.int (zI b) :: .int (zI a) :: st) := by
  subst hp
  exact fun H locs ls hP hD hS hl => lv_icmp_le C.1.1 C.1.2.1 hd ht (fun h => kt ((zI_le ha hb).mp h) H locs ls hP hD hS hl) (fun h => kf (by have q := (not_congr (zI_le ha hb)).mp h; omega) H locs ls hP hD hS hl)
theorem zj_if_eq (pc' tgt : Nat) (C : zC p l s m args meth c cc own Ts D tys A nL) {a : Int} {off : Int} (ha : (-2147483648 ≤ a ∧ a < 2147483648)) (hd : decode cc pc = .ok (.ifCond .eq off, 3)) (hp : pc + 3 = pc') (ht : (pc : Int) + off = (tgt : Int)) (kt : a = 0 → zJ p l e R s m args below meth c Q D A nL ws cn sn lv tgt st) (kf : ¬ a = 0 → zJ p l e R s m args below meth c Q D A nL ws cn sn lv pc' st) : zJ p l e R s m args below meth c Q D A nL ws cn sn lv pc (.int (zI a) :: st) := by
  subst hp
  have hz : (-2147483648 : Int) ≤ 0 ∧ (0 : Int) < 2147483648 := by omega
  exact fun H locs ls hP hD hS hl => lv_if_eq C.1.1 C.1.2.1 hd ht (fun h => kt ((zI_eq ha hz).mp h) H locs ls hP hD hS hl) (fun h => kf (fun q => h (by rw [q]; rfl)) H locs ls hP hD hS hl)
theorem zj_if_ne (pc' tgt : Nat) (C : zC p l s m args meth c cc own Ts D tys A nL) {a : Int} {off : Int} (ha : (-2147483648 ≤ a ∧ a < 2147483648)) (hd : decode cc pc = .ok (.ifCond .ne off, 3)) (hp : pc + 3 = pc') (ht : (pc : Int) + off = (tgt : Int)) (kt : ¬ a = 0 → zJ p l e R s m args below meth c Q D A nL ws cn sn lv tgt st) (kf : a = 0 → zJ p l e R s m args below meth c Q D A nL ws cn sn lv pc' st) : zJ p l e R s m args below meth c Q D A nL ws cn sn lv pc (.int (zI a) :: st) := by
  subst hp
  have hz : (-2147483648 : Int) ≤ 0 ∧ (0 : Int) < 2147483648 := by omega
  exact fun H locs ls hP hD hS hl => lv_if_ne C.1.1 C.1.2.1 hd ht (fun h => kt (fun q => h (by rw [q]; rfl)) H locs ls hP hD hS hl) (fun h => kf ((zI_eq ha hz).mp h) H locs ls hP hD hS hl)
theorem zj_if_lt (pc' tgt : Nat) (C : zC p l s m args meth c cc own Ts D tys A nL) {a : Int} {off : Int} (ha : (-2147483648 ≤ a ∧ a < 2147483648)) (hd : decode cc pc = .ok (.ifCond .lt off, 3)) (hp : pc + 3 = pc') (ht : (pc : Int) + off = (tgt : Int)) (kt : a < 0 → zJ p l e R s m args below meth c Q D A nL ws cn sn lv tgt st) (kf : 0 ≤ a → zJ p l e R s m args below meth c Q D A nL ws cn sn lv pc' st) : zJ p l e R s m args below meth c Q D A nL ws cn sn lv pc (.int (zI a) :: st) := by
  subst hp
  have hz : (-2147483648 : Int) ≤ 0 ∧ (0 : Int) < 2147483648 := by omega
  exact fun H locs ls hP hD hS hl => lv_if_lt C.1.1 C.1.2.1 hd ht (fun h => kt ((zI_lt ha hz).mp h) H locs ls hP hD hS hl) (fun h => kf (by have q := (not_congr (zI_lt ha hz)).mp h; omega) H locs ls hP hD hS hl)
theorem zj_if_ge (pc' tgt : Nat) (C : zC p l s m args meth c cc own Ts D tys A nL) {a : Int} {off : Int} (ha : (-2147483648 ≤ a ∧ a < 2147483648)) (hd : decode cc pc = .ok (.ifCond .ge off, 3)) (hp : pc + 3 = pc') (ht : (pc : Int) + off = (tgt : Int)) (kt : 0 ≤ a → zJ p l e R s m args below meth c Q D A nL ws cn sn lv tgt st) (kf : a < 0 → zJ p l e R s m args below meth c Q D A nL ws cn sn lv pc' st) : zJ p l e R s m args below meth c Q D A nL ws cn sn lv pc (.int (zI a) :: st) := by
  subst hp
  have hz : (-2147483648 : Int) ≤ 0 ∧ (0 : Int) < 2147483648 := by omega
  exact fun H locs ls hP hD hS hl => lv_if_ge C.1.1 C.1.2.1 hd ht (fun h => kt ((zI_le hz ha).mp h) H locs ls hP hD hS hl) (fun h => kf (by have q := (not_congr (zI_le hz ha)).mp h; omega) H locs ls hP hD hS hl)
theorem zj_if_gt (pc' tgt : Nat) (C : zC p l s m args meth c cc own Ts D tys A nL) {a : Int} {off : Int} (ha : (-2147483648 ≤ a ∧ a < 2147483648)) (hd : decode cc pc = .ok (.ifCond .gt off, 3)) (hp : pc + 3 = pc') (ht : (pc : Int) + off = (tgt : Int)) (kt : 0 < a → zJ p l e R s m args below meth c Q D A nL ws cn sn lv tgt st) (kf : a ≤ 0 → zJ p l e R s m args below meth c Q D A nL ws cn sn lv pc' st) : zJ p l e R s m args below meth c Q D A nL ws cn sn lv pc (.int (zI a) :: st) := by
  subst hp
  have hz : (-2147483648 : Int) ≤ 0 ∧ (0 : Int) < 2147483648 := by omega
  exact fun H locs ls hP hD hS hl => lv_if_gt C.1.1 C.1.2.1 hd ht (fun h => kt ((zI_lt hz ha).mp h) H locs ls hP hD hS hl) (fun h => kf (by have q := (not_congr (zI_lt hz ha)).mp h; omega) H locs ls hP hD hS hl)
theorem zj_if_le (pc' tgt : Nat) (C : zC p l s m args meth c cc own Ts D tys A nL) {a : Int} {off : Int} (ha : (-2147483648 ≤ a ∧ a < 2147483648)) (hd : decode cc pc = .ok (.ifCond .le off, 3)) (hp : pc + 3 = pc') (ht : (pc : Int) + off = (tgt : Int)) (kt : a ≤ 0 → zJ p l e R s m args below meth c Q D A nL ws cn sn lv tgt st) (kf : 0 < a → zJ p l e R s m args below meth c Q D A nL ws cn sn lv pc' st) : zJ p l e R s m args below meth c Q D A nL ws cn sn lv pc (.int (zI a) :: st) := by
  subst hp
  have hz : (-2147483648 : Int) ≤ 0 ∧ (0 : Int) < 2147483648 := by omega
  exact fun H locs ls hP hD hS hl => lv_if_le C.1.1 C.1.2.1 hd ht (fun h => kt ((zI_le ha hz).mp h) H locs ls hP hD hS hl) (fun h => kf (by have q := (not_congr (zI_le ha hz)).mp h; omega) H locs ls hP hD hS hl)
theorem zj_goto (tgt : Nat) (C : zC p l s m args meth c cc own Ts D tys A nL) {off : Int} (hd : decode cc pc = .ok (.goto off, 3)) (ht : (pc : Int) + off = (tgt : Int)) (k : zJ p l e R s m args below meth c Q D A nL ws cn sn lv tgt st) : zJ p l e R s m args below meth c Q D A nL ws cn sn lv pc st :=
  fun H locs ls hP hD hS hl => lv_goto C.1.1 C.1.2.1 hd ht (k H locs ls hP hD hS hl)
theorem zj_nonnull (tgt : Nat) (C : zC p l s m args meth c cc own Ts D tys A nL) {off : Int} {x : Nat} (hd : decode cc pc = .ok (.ifnonnull off, 3)) (ht : (pc : Int) + off = (tgt : Int)) (k : zJ p l e R s m args below meth c Q D A nL ws cn sn lv tgt st) : zJ p l e R s m args below meth c Q D A nL ws cn sn lv pc (.ref x :: st) :=
  fun H locs ls hP hD hS hl => lv_ifnonnull C.1.1 C.1.2.1 hd ht (k H locs ls hP hD hS hl)
theorem zj_null_no (pc' : Nat) (C : zC p l s m args meth c cc own Ts D tys A nL) {off : Int} {x : Nat} (hd : decode cc pc = .ok (.ifnull off, 3)) (hp : pc + 3 = pc') (k : zJ p l e R s m args below meth c Q D A nL ws cn sn lv pc' st) : zJ p l e R s m args below meth c Q D A nL ws cn sn lv pc (.ref x :: st) := by
  subst hp
  exact fun H locs ls hP hD hS hl => lv_ifnull C.1.1 C.1.2.1 hd (k H locs ls hP hD hS hl)
theorem zj_null_yes (tgt : Nat) (C : zC p l s m args meth c cc own Ts D tys A nL) {off : Int} (hd : decode cc pc = .ok (.ifnull off, 3)) (ht : (pc : Int) + off = (tgt : Int)) (k : zJ p l e R s m args below meth c Q D A nL ws cn sn lv tgt st) : zJ p l e R s m args below meth c Q D A nL ws cn sn lv pc (.null :: st) :=
  fun H locs ls hP hD hS hl => lv_ifnullN C.1.1 C.1.2.1 hd ht (k H locs ls hP hD hS hl)
theorem zj_tabIn (tgt : Nat) (C : zC p l s m args meth c cc own Ts D tys A nL) {dflt lo hi : Int} {offs : Array Int} {len : Nat} {a off : Int} (ha : (-2147483648 ≤ a ∧ a < 2147483648)) (hd : decode cc pc = .ok (.tableswitch dflt lo hi offs, len)) (h1 : lo ≤ a) (h2 : a ≤ hi) (ho : offs[(a - lo).toNat]? = some off) (ht : (pc : Int) + off = (tgt : Int)) (k : zJ p l e R s m args below meth c Q D A nL ws cn sn lv tgt st) : zJ p l e R s m args below meth c Q D A nL ws cn sn lv pc (.int (zI a) :: st) :=
  fun H locs ls hP hD hS hl => lv_tableIn C.1.1 C.1.2.1 hd (by rw [zI_toInt ha]; omega) (by rw [zI_toInt ha]; omega) (by rw [zI_toInt ha]; exact ho) ht (k H locs ls hP hD hS hl)
theorem zj_tabOut (tgt : Nat) (C : zC p l s m args meth c cc own Ts D tys A nL) {dflt lo hi : Int} {offs : Array Int} {len : Nat} {a : Int} (ha : (-2147483648 ≤ a ∧ a < 2147483648)) (hd : decode cc pc = .ok (.tableswitch dflt lo hi offs, len)) (h1 : a < lo ∨ hi < a) (ht : (pc : Int) + dflt = (tgt : Int)) (k : zJ p l e R s m args below meth c Q D A nL ws cn sn lv tgt st) : zJ p l e R s m args below meth c Q D A nL ws cn sn lv pc (.int (zI a) :: st) :=
  fun H locs ls hP hD hS hl => lv_tableOut C.1.1 C.1.2.1 hd (by rw [zI_toInt ha]; exact h1) ht (k H locs ls hP hD hS hl)
theorem zj_lookup (tgt : Nat) (C : zC p l s m args meth c cc own Ts D tys A nL) {dflt : Int} {ps : Array (Int × Int)} {len : Nat} {a off : Int} (ha : (-2147483648 ≤ a ∧ a < 2147483648)) (hd : decode cc pc = .ok (.lookupswitch dflt ps, len)) (hq : (ps.toList.zip (ps.toList.drop 1)).all (fun (x, next) => x.1 < next.1) = true) (ho : Op.lookupswitch.offset ps.toList dflt a = off) (ht : (pc : Int) + off = (tgt : Int)) (k : zJ p l e R s m args below meth c Q D A nL ws cn sn lv tgt st) : zJ p l e R s m args below meth c Q D A nL ws cn sn lv pc (.int (zI a) :: st) :=
  fun H locs ls hP hD hS hl => lv_lookup C.1.1 C.1.2.1 hd hq (by rw [zI_toInt ha]; exact ho) ht (k H locs ls hP hD hS hl)
theorem zj_get (pc' q0 kf : Nat) (C : zC p l s m args meth c cc own Ts D tys A nL) {ref Cn : String} {T : u_T} {N ci index a : Nat} {fs : List Value} {v : Value} (hin : ∀ w ∈ u_ws Cn T N, w ∈ Ts) (hlink : (Cond.fieldLink own index ref (T kf).2.1 (T kf).2.2.1) ∈ Ts) (he : ws[q0]? = some (a, .inr (ci, fs))) (hc : vwCl[ci]? = some (Cn, T, N)) (hk : kf < N) (hr : (T kf).1 = ref) (hv : fs[kf]? = some v) (hd : decode cc pc = .ok (.getfield index, 3)) (hp : pc + 3 = pc') (k : zJ p l e R s m args below meth c Q D A nL ws cn sn lv pc' (v :: st)) : zJ p l e R s m args below meth c Q D A nL ws cn sn lv pc (.ref a :: st) := by
  subst hp; subst hr
  exact fun H locs ls hP hD hS hl => va_get C.1.1 C.1.2.1 C.1.2.2.2.2 hin C.1.2.2.2.1 C.2.1 hP q0 he hc kf hk (C.1.2.2.2.2 _ hlink) (fun _ h => h) hv hd (k H locs ls hP hD hS hl)
theorem zj_getN (pc' q0 kf : Nat) (C : zC p l s m args meth c cc own Ts D tys A nL) {ref Cn host : String} {T : u_T} {N ci index a : Nat} {fs : List Value} {v : Value} (hin : ∀ w ∈ u_ws Cn T N, w ∈ Ts) (hlink : (Cond.fieldLinkNest own index ref (T kf).2.1 (T kf).2.2.1 host) ∈ zNW) (he : ws[q0]? = some (a, .inr (ci, fs))) (hc : vwCl[ci]? = some (Cn, T, N)) (hk : kf < N) (hr : (T kf).1 = ref) (hv : fs[kf]? = some v) (hd : decode cc pc = .ok (.getfield index, 3)) (hp : pc + 3 = pc') (k : zJ p l e R s m args below meth c Q D A nL ws cn sn lv pc' (v :: st)) : zJ p l e R s m args below meth c Q D A nL ws cn sn lv pc (.ref a :: st) := by
  subst hp; subst hr
  exact fun H locs ls hP hD hS hl => va_getN C.1.1 C.1.2.1 C.1.2.2.2.2 hin C.1.2.2.2.1 C.2.1 hP q0 he hc kf hk (va_Nw.use rfl (C.2.2.2.2.1 _ hlink)) (fun _ h => h) hv hd (k H locs ls hP hD hS hl)
theorem zj_put (pc' q0 kf : Nat) (ws' : va_W) (C : zC p l s m args meth c cc own Ts D tys A nL) {ref Cn : String} {T : u_T} {N ci index a : Nat} {fs : List Value} {v : Value} {ty : FieldType} (ty0 : Nat → FieldType) (hty : ∀ k, k < N → parseFieldDescriptor (T k).2.2.1 = some (ty0 k)) (hnm : ∀ a, a < N → ∀ b, b < N → a ≠ b → (T a).2.1 ≠ (T b).2.1) (hin : ∀ w ∈ u_ws Cn T N, w ∈ Ts) (hlink : (Cond.fieldLink own index ref (T kf).2.1 (T kf).2.2.1) ∈ Ts) (he : ws[q0]? = some (a, .inr (ci, fs))) (hc : vwCl[ci]? = some (Cn, T, N)) (hk : kf < N) (hr : (T kf).1 = ref) (hfin : (T kf).2.2.2 = false) (hd0 : ty0 kf = ty) (hn : narrow ty v = v) (hfit : fits ty v = true) (hlf : kf < fs.length) (hws : ws.set q0 (a, .inr (ci, fs.set kf v)) = ws') (hd : decode cc pc = .ok (.putfield index, 3)) (hp : pc + 3 = pc') (k : zJ p l e R s m args below meth c Q D A nL ws' cn sn lv pc' st) : zJ p l e R s m args below meth c Q D A nL ws cn sn lv pc (v :: .ref a :: st) := by
  subst hp; subst hr; subst hws; subst hd0
  exact fun H locs ls hP hD hS hl => va_put C.1.1 C.1.2.1 C.1.2.2.2.2 hin ty0 hty hnm C.1.2.2.2.1 C.2.1 hP hD hS q0 he hc kf hk (C.1.2.2.2.2 _ hlink) (fun _ h => h) hfin (hty kf hk) hn hfit hlf hd (fun H1 locs1 hP1 hD1 hS1 => k H1 locs1 ls hP1 hD1 hS1 hl)
theorem zj_putN (pc' q0 kf : Nat) (ws' : va_W) (C : zC p l s m args meth c cc own Ts D tys A nL) {ref Cn host : String} {T : u_T} {N ci index a : Nat} {fs : List Value} {v : Value} {ty : FieldType} (ty0 : Nat → FieldType) (hty : ∀ k, k < N → parseFieldDescriptor (T k).2.2.1 = some (ty0 k)) (hnm : ∀ a, a < N → ∀ b, b < N → a ≠ b → (T a).2.1 ≠ (T b).2.1) (hin : ∀ w ∈ u_ws Cn T N, w ∈ Ts) (hlink : (Cond.fieldLinkNest own index ref (T kf).2.1 (T kf).2.2.1 host) ∈ zNW) (he : ws[q0]? = some (a, .inr (ci, fs))) (hc : vwCl[ci]? = some (Cn, T, N)) (hk : kf < N) (hr : (T kf).1 = ref) (hfin : (T kf).2.2.2 = false) (hd0 : ty0 kf = ty) (hn : narrow ty v = v) (hfit : fits ty v = true) (hlf : kf < fs.length) (hws : ws.set q0 (a, .inr (ci, fs.set kf v)) = ws') (hd : decode cc pc = .ok (.putfield index, 3)) (hp : pc + 3 = pc') (k : zJ p l e R s m args below meth c Q D A nL ws' cn sn lv pc' st) : zJ p l e R s m args below meth c Q D A nL ws cn sn lv pc (v :: .ref a :: st) := by
  subst hp; subst hr; subst hws; subst hd0
  exact fun H locs ls hP hD hS hl => va_putN C.1.1 C.1.2.1 C.1.2.2.2.2 hin ty0 hty hnm C.1.2.2.2.1 C.2.1 hP hD hS q0 he hc kf hk (va_Nw.use rfl (C.2.2.2.2.1 _ hlink)) (fun _ h => h) hfin (hty kf hk) hn hfit hlf hd (fun H1 locs1 hP1 hD1 hS1 => k H1 locs1 ls hP1 hD1 hS1 hl)
theorem zj_putF (pc' q0 kf : Nat) (ws' : va_W) (C : zC p l s m args meth c cc own Ts D tys A nL) {ref Cn : String} {T : u_T} {N ci index a : Nat} {fs : List Value} {v : Value} {ty : FieldType} (ty0 : Nat → FieldType) (hty : ∀ k, k < N → parseFieldDescriptor (T k).2.2.1 = some (ty0 k)) (hnm : ∀ a, a < N → ∀ b, b < N → a ≠ b → (T a).2.1 ≠ (T b).2.1) (hin : ∀ w ∈ u_ws Cn T N, w ∈ Ts) (hlink : (Cond.fieldLink own index ref (T kf).2.1 (T kf).2.2.1) ∈ Ts) (he : ws[q0]? = some (a, .inr (ci, fs))) (hc : vwCl[ci]? = some (Cn, T, N)) (hk : kf < N) (hr : (T kf).1 = ref) (hfin : (T kf).2.2.2 = true) (hin2 : meth.name = "<init>") (ho : ref = own) (hd0 : ty0 kf = ty) (hn : narrow ty v = v) (hfit : fits ty v = true) (hlf : kf < fs.length) (hws : ws.set q0 (a, .inr (ci, fs.set kf v)) = ws') (hd : decode cc pc = .ok (.putfield index, 3)) (hp : pc + 3 = pc') (k : zJ p l e R s m args below meth c Q D A nL ws' cn sn lv pc' st) : zJ p l e R s m args below meth c Q D A nL ws cn sn lv pc (v :: .ref a :: st) := by
  subst hp; subst hr; subst hws; subst hd0
  exact fun H locs ls hP hD hS hl => va_putF C.1.1 C.1.2.1 C.1.2.2.2.2 hin ty0 hty hnm C.1.2.2.2.1 C.2.1 hP hD hS q0 he hc kf hk (C.1.2.2.2.2 _ hlink) (fun _ h => h) hfin hin2 ho (hty kf hk) hn hfit hlf hd (fun H1 locs1 hP1 hD1 hS1 => k H1 locs1 ls hP1 hD1 hS1 hl)
theorem zj_iald (pc' q0 : Nat) (C : zC p l s m args meth c cc own Ts D tys A nL) {a n : Nat} {cI : ClassId} {f : Int → Int} {i : Int} (hi : 0 ≤ i ∧ i < (n : Int)) (hn : n ≤ 1000000) (he : ws[q0]? = some (a, .inl (cI, n, .inl (zA f)))) (ht : tys[0]? = some (cI, .int)) (hd : decode cc pc = .ok (.iaload, 1)) (hp : pc + 1 = pc') (k : zJ p l e R s m args below meth c Q D A nL ws cn sn lv pc' (.int (zI (f i)) :: st)) : zJ p l e R s m args below meth c Q D A nL ws cn sn lv pc (.int (zI i) :: .ref a :: st) := by
  subst hp
  exact fun H locs ls hP hD hS hl => va_iald C.1.1 C.1.2.1 C.2.1 hP q0 0 he ht (zI_in hi (by omega)) hd (by rw [zA_at f ⟨hi.1, by omega⟩]; exact k H locs ls hP hD hS hl)
theorem zj_iast (pc' q0 : Nat) (ws' : va_W) (C : zC p l s m args meth c cc own Ts D tys A nL) {a n : Nat} {cI : ClassId} {f : Int → Int} {i v : Int} (hi : 0 ≤ i ∧ i < (n : Int)) (hn : n ≤ 1000000) (he : ws[q0]? = some (a, .inl (cI, n, .inl (zA f)))) (ht : tys[0]? = some (cI, .int)) (hws : ws.set q0 (a, .inl (cI, n, .inl (zA (zU f i v)))) = ws') (hd : decode cc pc = .ok (.iastore, 1)) (hp : pc + 1 = pc') (k : zJ p l e R s m args below meth c Q D A nL ws' cn sn lv pc' st) : zJ p l e R s m args below meth c Q D A nL ws cn sn lv pc (.int (zI v) :: .int (zI i) :: .ref a :: st) := by
  subst hp; subst hws
  exact fun H locs ls hP hD hS hl => va_iast C.1.1 C.1.2.1 C.2.1 hP hD hS q0 0 he ht (zI_in hi (by omega)) hd (fun H1 locs1 hP1 hD1 hS1 => by
    rw [zA_set f v ⟨hi.1, by omega⟩] at hP1 hD1
    exact k H1 locs1 ls hP1 hD1 hS1 hl)
theorem zj_alen (pc' q0 t0 : Nat) (z : Int) (C : zC p l s m args meth c cc own Ts D tys A nL) {a : Nat} {cA : ClassId} {x : vp_A} {ty : FieldType} (he : ws[q0]? = some (a, .inl (cA, x))) (ht : tys[t0]? = some (cA, ty)) (hz : (x.1 : Int) = z) (hd : decode cc pc = .ok (.arraylength, 1)) (hp : pc + 1 = pc') (k : zJ p l e R s m args below meth c Q D A nL ws cn sn lv pc' (.int (zI z) :: st)) : zJ p l e R s m args below meth c Q D A nL ws cn sn lv pc (.ref a :: st) := by
  subst hp; subst hz
  exact fun H locs ls hP hD hS hl => va_alen C.1.1 C.1.2.1 C.2.1 hP q0 t0 he ht (zI_ofNat x.1) hd (k H locs ls hP hD hS hl)
theorem zj_lald (pc' q0 : Nat) (C : zC p l s m args meth c cc own Ts D tys A nL) {a n : Nat} {cJ : ClassId} {f : Nat → Int64} {i : Int} (hi : 0 ≤ i ∧ i < (n : Int)) (hn : n ≤ 1000000) (he : ws[q0]? = some (a, .inl (cJ, n, .inr (.inl f)))) (ht : tys[2]? = some (cJ, .long)) (hd : decode cc pc = .ok (.laload, 1)) (hp : pc + 1 = pc') (k : zJ p l e R s m args below meth c Q D A nL ws cn sn lv pc' (.long (f i.toNat) :: st)) : zJ p l e R s m args below meth c Q D A nL ws cn sn lv pc (.int (zI i) :: .ref a :: st) := by
  subst hp
  exact fun H locs ls hP hD hS hl => va_lald C.1.1 C.1.2.1 C.2.1 hP q0 2 he ht (zI_in hi (by omega)) hd (by rw [zI_nat ⟨hi.1, by omega⟩]; exact k H locs ls hP hD hS hl)
theorem zj_last (pc' q0 : Nat) (ws' : va_W) (C : zC p l s m args meth c cc own Ts D tys A nL) {a n : Nat} {cJ : ClassId} {f : Nat → Int64} {i : Int} {v : Int64} (hi : 0 ≤ i ∧ i < (n : Int)) (hn : n ≤ 1000000) (he : ws[q0]? = some (a, .inl (cJ, n, .inr (.inl f)))) (ht : tys[2]? = some (cJ, .long)) (hws : ws.set q0 (a, .inl (cJ, n, .inr (.inl (vp_updL f i.toNat v)))) = ws') (hd : decode cc pc = .ok (.lastore, 1)) (hp : pc + 1 = pc') (k : zJ p l e R s m args below meth c Q D A nL ws' cn sn lv pc' st) : zJ p l e R s m args below meth c Q D A nL ws cn sn lv pc (.long v :: .int (zI i) :: .ref a :: st) := by
  subst hp; subst hws
  exact fun H locs ls hP hD hS hl => va_last C.1.1 C.1.2.1 C.2.1 hP hD hS q0 2 he ht (zI_in hi (by omega)) hd (fun H1 locs1 hP1 hD1 hS1 => by
    rw [zI_nat ⟨hi.1, by omega⟩] at hP1 hD1
    exact k H1 locs1 ls hP1 hD1 hS1 hl)
/-- another order of the world's cells (or fewer) -/
theorem zj_re (is : List Nat) (ws' : va_W) (hn : va_nd is = true) (h : is.map (fun i => ws[i]?) = ws'.map some) (k : zJ p l e R s m args below meth c Q D A nL ws' cn sn lv pc st) : zJ p l e R s m args below meth c Q D A nL ws cn sn lv pc st :=
  fun H locs ls hP hD hS hl => k H locs ls (hP.by (fun k => (is[k]?).getD 0) (fun k q hk => by
    have h1 : (is.map (fun i => ws[i]?))[k]? = some (some q) := by rw [h, List.getElem?_map, hk]; rfl
    rw [List.getElem?_map] at h1
    cases hi : is[k]? with
    | none => rw [hi] at h1; cases h1
    | some i => rw [hi] at h1; exact Option.some.inj h1)) (hD.sub is hn h) hS hl
/-- fewer locals -/
theorem zj_lv (ks : List Nat) (lv' : List (Nat × Value)) (h : lv_pick lv ks = lv') (k : zJ p l e R s m args below meth c Q D A nL ws cn sn lv' pc st) : zJ p l e R s m args below meth c Q D A nL ws cn sn lv pc st :=
  fun H locs ls hP hD hS hl => k H locs ls hP hD hS (lv_sub hl ks h)
theorem zj_widen {k n : Nat} (h1 : cn ≤ k) (h2 : sn ≤ n) (kk : zJ p l e R s m args below meth c Q D A nL ws k n lv pc st) : zJ p l e R s m args below meth c Q D A nL ws cn sn lv pc st :=
  fun H locs ls hP hD hS hl => W.widen h1 h2 (kk H locs ls hP hD hS hl)
theorem zj_ws {ws' : va_W} (h : ws = ws') (k : zJ p l e R s m args below meth c Q D A nL ws' cn sn lv pc st) : zJ p l e R s m args below meth c Q D A nL ws cn sn lv pc st := h ▸ k
theorem zj_st {st' : List Value} (h : st = st') (k : zJ p l e R s m args below meth c Q D A nL ws cn sn lv pc st') : zJ p l e R s m args below meth c Q D A nL ws cn sn lv pc st := h ▸ k
theorem zj_eqlv {lv' : List (Nat × Value)} (h : lv = lv') (k : zJ p l e R s m args below meth c Q D A nL ws cn sn lv' pc st) : zJ p l e R s m args below meth c Q D A nL ws cn sn lv pc st := h ▸ k
end ZK
section ZR
variable {p : Program} {l : Launch} {e : Env} {R : Room} {s : State} {m : MethodId} {args : Array Value} {below : List Frame} {meth : Method} {c : Code} {D : va_G} {A : Nat → Prop} {nL : Nat} {ws : va_W} {cn sn : Nat} {lv : List (Nat × Value)} {pc : Nat} {cc : ByteArray} {own : String} {Ts : List Cond} {tys : List (ClassId × FieldType)}
theorem zj_ireturn (C : zC p l s m args meth c cc own Ts D tys A nL) {mc ms : Nat} {post : Int32 → va_W → Prop} {v : Int32} (hr : meth.sig.returnType = some .int) (hp : post v ws) (hc : cn ≤ mc) (hs : sn ≤ ms) (hd : decode cc pc = .ok (.ireturn, 1)) : zJ p l e R s m args below meth c (MQ below (va_Qi post (zB D tys A) A) args s mc ms A) D A nL ws cn sn lv pc [.int v] :=
  fun H locs ls hP hD hS hl => W.widen hc hs (W.iret C.1.1 C.1.2.1 hr (fun t ht hW => ⟨⟨v, ws, rfl, hp, by rw [ht]; exact hP, va_K.moved hW.alike C.2.1, hD⟩, hS.F ht⟩) hS.2.2 hd C.2.2.2.1)
theorem zj_zret (C : zC p l s m args meth c cc own Ts D tys A nL) {mc ms : Nat} {post : Int32 → va_W → Prop} {v : Int32} {ty : FieldType} (hn : narrow ty (.int v) = .int v) (hr : meth.sig.returnType = some ty) (hp : post v ws) (hc : cn ≤ mc) (hs : sn ≤ ms) (hd : decode cc pc = .ok (.ireturn, 1)) : zJ p l e R s m args below meth c (MQ below (va_Qi post (zB D tys A) A) args s mc ms A) D A nL ws cn sn lv pc [.int v] :=
  fun H locs ls hP hD hS hl => W.widen hc hs (W.zret C.1.1 C.1.2.1 hr hn (fun t ht hW => ⟨⟨v, ws, rfl, hp, by rw [ht]; exact hP, va_K.moved hW.alike C.2.1, hD⟩, hS.F ht⟩) hS.2.2 hd C.2.2.2.1)
theorem zj_lreturn (C : zC p l s m args meth c cc own Ts D tys A nL) {mc ms : Nat} {post : Int64 → va_W → Prop} {v : Int64} (hr : meth.sig.returnType = some .long) (hp : post v ws) (hc : cn ≤ mc) (hs : sn ≤ ms) (hd : decode cc pc = .ok (.lreturn, 1)) : zJ p l e R s m args below meth c (MQ below (va_Ql post (zB D tys A) A) args s mc ms A) D A nL ws cn sn lv pc [.long v] :=
  fun H locs ls hP hD hS hl => W.widen hc hs (W.lret C.1.1 C.1.2.1 hr (fun t ht hW => ⟨⟨v, ws, rfl, hp, by rw [ht]; exact hP, va_K.moved hW.alike C.2.1, hD⟩, hS.F ht⟩) hS.2.2 hd C.2.2.2.1)
theorem zj_dreturn (C : zC p l s m args meth c cc own Ts D tys A nL) {mc ms : Nat} {post : UInt64 → va_W → Prop} {v : UInt64} (hr : meth.sig.returnType = some .double) (hp : post v ws) (hc : cn ≤ mc) (hs : sn ≤ ms) (hd : decode cc pc = .ok (.dreturn, 1)) : zJ p l e R s m args below meth c (MQ below (va_Qd post (zB D tys A) A) args s mc ms A) D A nL ws cn sn lv pc [.double v] :=
  fun H locs ls hP hD hS hl => W.widen hc hs (W.dret C.1.1 C.1.2.1 hr (fun t ht hW => ⟨⟨v, ws, rfl, hp, by rw [ht]; exact hP, va_K.moved hW.alike C.2.1, hD⟩, hS.F ht⟩) hS.2.2 hd C.2.2.2.1)
theorem zj_return (C : zC p l s m args meth c cc own Ts D tys A nL) {mc ms : Nat} {post : va_W → Prop} (hr : meth.sig.returnType = none) (hp : post ws) (hc : cn ≤ mc) (hs : sn ≤ ms) (hd : decode cc pc = .ok (.return_, 1)) : zJ p l e R s m args below meth c (MQ below (va_Qv post (zB D tys A) A) args s mc ms A) D A nL ws cn sn lv pc [] :=
  fun H locs ls hP hD hS hl => W.widen hc hs (W.vret C.1.1 C.1.2.1 hr (fun t ht hW => ⟨⟨ws, rfl, hp, by rw [ht]; exact hP, va_K.moved hW.alike C.2.1, hD⟩, hS.F ht⟩) hS.2.2 hd C.2.2.2.1)
theorem zj_areturn (C : zC p l s m args meth c cc own Ts D tys A nL) {mc ms : Nat} {post : Option Nat → va_W → Prop} {v : Option Nat} {rt : String} (hr : meth.sig.returnType = some (.object rt)) (hp : post v ws) (hc : cn ≤ mc) (hs : sn ≤ ms) (hd : decode cc pc = .ok (.areturn, 1)) : zJ p l e R s m args below meth c (MQ below (va_Qq post (zB D tys A) A) args s mc ms A) D A nL ws cn sn lv pc [va_rf v] :=
  fun H locs ls hP hD hS hl => W.widen hc hs (W.aret C.1.1 C.1.2.1 hr (Or.inl ⟨_, rfl⟩) (va_rf_or v) (fun t ht hW => ⟨⟨v, ws, rfl, hp, by rw [ht]; exact hP, va_K.moved hW.alike C.2.1, hD⟩, hS.F ht⟩) hS.2.2 hd C.2.2.2.1)
end ZR
/-! ===== calls ===== -/
theorem zmap_fm {α β : Type} {f : α → Option β} : ∀ {is : List α} {w : List β}, is.map f = w.map some → is.filterMap f = w
  | [], [], _ => rfl
  | [], _ :: _, h => by simp at h
  | _ :: _, [], h => by simp at h
  | i :: is, b :: w, h => by
    simp only [List.map_cons, List.cons.injEq] at h
    rw [List.filterMap_cons, h.1, zmap_fm h.2]
section ZN
variable {p : Program} {l : Launch} {e : Env} {R : Room} {s : State} {m : MethodId} {args : Array Value} {below : List Frame} {meth : Method} {c : Code} {D : va_G} {A : Nat → Prop} {nL : Nat} {ws : va_W} {cn sn : Nat} {lv : List (Nat × Value)} {pc : Nat} {st : List Value} {cc : ByteArray} {own : String} {Ts : List Cond} {tys : List (ClassId × FieldType)}
def zRn (p : Program) (l : Launch) (e : Env) (R : Room) (s : State) (m : MethodId) (args : Array Value) (below : List Frame) (meth : Method) (c : Code) (D : va_G) (A : Nat → Prop) (nL : Nat) (ws : va_W) (cn sn : Nat) (lv : List (Nat × Value)) (pc : Nat) (st rest : List Value) (mc ms : Nat) (wc : va_W) (Qa : Nat → State → Outcome → State → Prop) : Prop :=
  ∀ (H : Heap) (locs : List Loc) (ls : Array Slot), va_P D vwCl ws H → va_D A ws → va_S A s.heap H locs → lv_has ls nL lv → va_Run p l e R s m args below meth c H locs cn sn mc ms (F0 m pc ls st) rest (Qa H.size) (va_A wc H.size)
theorem zr_V (isC : List Nat) (C : zC p l s m args meth c cc own Ts D tys A nL) {y : MethodName} {bytes : ByteArray} {maxL mc ms n index : Nat} {ret : Option FieldType} {wy : List Cond} {rm : Room} {wc : va_W} {As rest : List Value} {Qc : Nat → Array Value → State → Outcome → State → Prop} {Cn : String} {b : Nat} (hM : ∀ sz, Met l y wy rm (va_Pc (.ref b :: As) (zPre D tys wc sz)) (Qc sz) mc ms (va_A wc sz)) (cw : CallW R s args own Cn index y bytes maxL ret wy rm mc ms n) (hC : isC.map (fun i => ws[i]?) = wc.map some) (hnd : va_nd isC = true) {ci : Nat} {fs : List Value} {Tn : u_T × Nat} (q0 : Nat) (he : wc[q0]? = some (b, .inr (ci, fs))) (hcl : vwCl[ci]? = some (Cn, Tn)) (hn : As.length = n) (hst : st = As.reverse ++ .ref b :: rest) (hrs : (rest.map fun v => v.category).sum ≤ 8) (hd : decode cc pc = .ok (.invokevirtual index, 3)) (hf : cn + mc ≤ R.cells ∧ sn + ms ≤ R.slots) : zRn p l e R s m args below meth c D A nL ws cn sn lv pc st rest mc ms wc (fun sz => Qc sz (.ref b :: As).toArray) :=
  fun H locs ls hP hD hS hl => va_runV C.1 (hM H.size) cw ⟨zPre_blind, va_recv C.2.1 (hP.sub isC (zmap_fm hC)) hcl he, fun U hU hW => ⟨rfl, by rw [hU], by rw [hU]; exact hP.sub isC (zmap_fm hC), va_K.moved hW.alike C.2.1, (hD.sub isC hnd hC).weaken (fun _ _ _ _ => trivial), C.2.2.2.2.warm hW⟩⟩ rfl hn hl.1 hst (lv_room hrs) hd hf
theorem zr_VN (isC : List Nat) (C : zC p l s m args meth c cc own Ts D tys A nL) {y : MethodName} {bytes : ByteArray} {maxL mc ms n index : Nat} {ret : Option FieldType} {wy : List Cond} {rm : Room} {wc : va_W} {As rest : List Value} {Qc : Nat → Array Value → State → Outcome → State → Prop} {Cn host : String} {b : Nat} (hM : ∀ sz, Met l y wy rm (va_Pc (.ref b :: As) (zPre D tys wc sz)) (Qc sz) mc ms (va_A wc sz)) (cw : va_CN R s args own index y host bytes maxL ret wy rm mc ms n ∧ (Cond.instanceMethod y).before args s = true ∧ (Cond.selects Cn y y).before args s = true) (hC : isC.map (fun i => ws[i]?) = wc.map some) (hnd : va_nd isC = true) {ci : Nat} {fs : List Value} {Tn : u_T × Nat} (q0 : Nat) (he : wc[q0]? = some (b, .inr (ci, fs))) (hcl : vwCl[ci]? = some (Cn, Tn)) (hn : As.length = n) (hst : st = As.reverse ++ .ref b :: rest) (hrs : (rest.map fun v => v.category).sum ≤ 8) (hd : decode cc pc = .ok (.invokevirtual index, 3)) (hf : cn + mc ≤ R.cells ∧ sn + ms ≤ R.slots) : zRn p l e R s m args below meth c D A nL ws cn sn lv pc st rest mc ms wc (fun sz => Qc sz (.ref b :: As).toArray) :=
  fun H locs ls hP hD hS hl => va_runVN C.1 (hM H.size) cw ⟨zPre_blind, va_recv C.2.1 (hP.sub isC (zmap_fm hC)) hcl he, fun U hU hW => ⟨rfl, by rw [hU], by rw [hU]; exact hP.sub isC (zmap_fm hC), va_K.moved hW.alike C.2.1, (hD.sub isC hnd hC).weaken (fun _ _ _ _ => trivial), C.2.2.2.2.warm hW⟩⟩ rfl hn hl.1 hst (lv_room hrs) hd hf
theorem zr_S (isC : List Nat) (C : zC p l s m args meth c cc own Ts D tys A nL) {y : MethodName} {bytes : ByteArray} {maxL mc ms n index : Nat} {ret : Option FieldType} {wy : List Cond} {rm : Room} {wc : va_W} {As rest : List Value} {Qc : Nat → Array Value → State → Outcome → State → Prop} (hM : ∀ sz, Met l y wy rm (va_Pc (As) (zPre D tys wc sz)) (Qc sz) mc ms (va_A wc sz)) (cw : CallB R s args own index y bytes maxL ret wy rm mc ms n ∧ (Cond.static y).before args s = true) (hC : isC.map (fun i => ws[i]?) = wc.map some) (hnd : va_nd isC = true) (hn : As.length = n) (hst : st = As.reverse ++ rest) (hrs : (rest.map fun v => v.category).sum ≤ 8) (hd : decode cc pc = .ok (.invokestatic index, 3)) (hf : cn + mc ≤ R.cells ∧ sn + ms ≤ R.slots) : zRn p l e R s m args below meth c D A nL ws cn sn lv pc st rest mc ms wc (fun sz => Qc sz (As).toArray) :=
  fun H locs ls hP hD hS hl => va_runS C.1 (hM H.size) cw ⟨zPre_blind, fun U hU hW => ⟨rfl, by rw [hU], by rw [hU]; exact hP.sub isC (zmap_fm hC), va_K.moved hW.alike C.2.1, (hD.sub isC hnd hC).weaken (fun _ _ _ _ => trivial), C.2.2.2.2.warm hW⟩⟩ rfl hn hl.1 hst (lv_room hrs) hd hf
theorem zr_SN (isC : List Nat) (C : zC p l s m args meth c cc own Ts D tys A nL) {y : MethodName} {bytes : ByteArray} {maxL mc ms n index : Nat} {ret : Option FieldType} {wy : List Cond} {rm : Room} {wc : va_W} {As rest : List Value} {Qc : Nat → Array Value → State → Outcome → State → Prop} {host : String} (hM : ∀ sz, Met l y wy rm (va_Pc (As) (zPre D tys wc sz)) (Qc sz) mc ms (va_A wc sz)) (cw : va_CN R s args own index y host bytes maxL ret wy rm mc ms n ∧ (Cond.static y).before args s = true ∧ True) (hC : isC.map (fun i => ws[i]?) = wc.map some) (hnd : va_nd isC = true) (hn : As.length = n) (hst : st = As.reverse ++ rest) (hrs : (rest.map fun v => v.category).sum ≤ 8) (hd : decode cc pc = .ok (.invokestatic index, 3)) (hf : cn + mc ≤ R.cells ∧ sn + ms ≤ R.slots) : zRn p l e R s m args below meth c D A nL ws cn sn lv pc st rest mc ms wc (fun sz => Qc sz (As).toArray) :=
  fun H locs ls hP hD hS hl => va_runSN C.1 (hM H.size) cw ⟨zPre_blind, fun U hU hW => ⟨rfl, by rw [hU], by rw [hU]; exact hP.sub isC (zmap_fm hC), va_K.moved hW.alike C.2.1, (hD.sub isC hnd hC).weaken (fun _ _ _ _ => trivial), C.2.2.2.2.warm hW⟩⟩ rfl hn hl.1 hst (lv_room hrs) hd hf
theorem zr_I (isC : List Nat) (C : zC p l s m args meth c cc own Ts D tys A nL) {y : MethodName} {bytes : ByteArray} {maxL mc ms n index : Nat} {wy : List Cond} {rm : Room} {wc : va_W} {As rest : List Value} {Qc : Nat → Array Value → State → Outcome → State → Prop} {b : Nat} (hM : ∀ sz, Met l y wy rm (va_Pc (.ref b :: As) (zPre D tys wc sz)) (Qc sz) mc ms (va_A wc sz)) (cw : CallB R s args own index y bytes maxL none wy rm mc ms n ∧ y.name = "<init>" ∧ (Cond.instanceMethod y).before args s = true) (hC : isC.map (fun i => ws[i]?) = wc.map some) (hnd : va_nd isC = true) (hn : As.length = n) (hst : st = As.reverse ++ .ref b :: rest) (hrs : (rest.map fun v => v.category).sum ≤ 8) (hd : decode cc pc = .ok (.invokespecial index, 3)) (hf : cn + mc ≤ R.cells ∧ sn + ms ≤ R.slots) : zRn p l e R s m args below meth c D A nL ws cn sn lv pc st rest mc ms wc (fun sz => Qc sz (.ref b :: As).toArray) :=
  fun H locs ls hP hD hS hl => va_runI C.1 (hM H.size) cw ⟨zPre_blind, fun U hU hW => ⟨rfl, by rw [hU], by rw [hU]; exact hP.sub isC (zmap_fm hC), va_K.moved hW.alike C.2.1, (hD.sub isC hnd hC).weaken (fun _ _ _ _ => trivial), C.2.2.2.2.warm hW⟩⟩ rfl hn hl.1 hst (lv_room hrs) hd hf
theorem zr_IN (isC : List Nat) (C : zC p l s m args meth c cc own Ts D tys A nL) {y : MethodName} {bytes : ByteArray} {maxL mc ms n index : Nat} {wy : List Cond} {rm : Room} {wc : va_W} {As rest : List Value} {Qc : Nat → Array Value → State → Outcome → State → Prop} {b : Nat} {host : String} (hM : ∀ sz, Met l y wy rm (va_Pc (.ref b :: As) (zPre D tys wc sz)) (Qc sz) mc ms (va_A wc sz)) (cw : va_CN R s args own index y host bytes maxL none wy rm mc ms n ∧ y.name = "<init>" ∧ (Cond.instanceMethod y).before args s = true) (hC : isC.map (fun i => ws[i]?) = wc.map some) (hnd : va_nd isC = true) (hn : As.length = n) (hst : st = As.reverse ++ .ref b :: rest) (hrs : (rest.map fun v => v.category).sum ≤ 8) (hd : decode cc pc = .ok (.invokespecial index, 3)) (hf : cn + mc ≤ R.cells ∧ sn + ms ≤ R.slots) : zRn p l e R s m args below meth c D A nL ws cn sn lv pc st rest mc ms wc (fun sz => Qc sz (.ref b :: As).toArray) :=
  fun H locs ls hP hD hS hl => va_runIN C.1 (hM H.size) cw ⟨zPre_blind, fun U hU hW => ⟨rfl, by rw [hU], by rw [hU]; exact hP.sub isC (zmap_fm hC), va_K.moved hW.alike C.2.1, (hD.sub isC hnd hC).weaken (fun _ _ _ _ => trivial), C.2.2.2.2.warm hW⟩⟩ rfl hn hl.1 hst (lv_room hrs) hd hf
end ZN
section ZQ
variable {p : Program} {l : Launch} {e : Env} {R : Room} {s : State} {m : MethodId} {args : Array Value} {below : List Frame} {meth : Method} {c : Code} {Q : State → Prop} {D : va_G} {A : Nat → Prop} {nL : Nat} {ws : va_W} {cn sn : Nat} {lv : List (Nat × Value)} {pc : Nat} {st : List Value} {cc : ByteArray} {own : String} {Ts : List Cond} {tys : List (ClassId × FieldType)}
theorem zj_ci (pc' : Nat) (isC isR : List Nat) (C : zC p l s m args meth c cc own Ts D tys A nL) {rest : List Value} {mc ms : Nat} {wc wr : va_W} {av : List Value} {post : Int32 → va_W → Prop} (hr : zRn p l e R s m args below meth c D A nL ws cn sn lv pc st rest mc ms wc (fun sz => va_Qi post (zB D tys (va_A wc sz)) (va_A wc sz) av.toArray)) (hC : isC.map (fun i => ws[i]?) = wc.map some) (hR : isR.map (fun i => ws[i]?) = wr.map some) (hn : va_nd isR = true) (hdis : ∀ i ∈ isR, i ∉ isC) (hp : pc + 3 = pc') (kk : ∀ (r : Int32) (w : va_W), post r w → zJ p l e R s m args below meth c Q D A nL (wr ++ w) (cn + mc) (sn + ms) lv pc' (.int r :: rest)) : zJ p l e R s m args below meth c Q D A nL ws cn sn lv pc st := by
  subst hp
  intro H locs ls hP hD hS hl
  have hFc := va_free hD hS C.2.2.1 isC hC
  refine va_calli (hr H locs ls hP hD hS hl) hS (fun q _ h => hFc q h) hFc (fun r u t H1 locs1 ht hvm hw hB hz1 hk1 hS1 => ?_)
  obtain ⟨hP1, hK1, hD1⟩ := hB
  rw [ht] at hP1
  obtain ⟨hP2, hD2⟩ := va_join hP hD isC isR hC hR hn hdis hk1 hFc hP1 hD1
  exact kk r u hw H1 locs1 ls hP2 hD2 hS1 hl
theorem zj_cl (pc' : Nat) (isC isR : List Nat) (C : zC p l s m args meth c cc own Ts D tys A nL) {rest : List Value} {mc ms : Nat} {wc wr : va_W} {av : List Value} {post : Int64 → va_W → Prop} (hr : zRn p l e R s m args below meth c D A nL ws cn sn lv pc st rest mc ms wc (fun sz => va_Ql post (zB D tys (va_A wc sz)) (va_A wc sz) av.toArray)) (hC : isC.map (fun i => ws[i]?) = wc.map some) (hR : isR.map (fun i => ws[i]?) = wr.map some) (hn : va_nd isR = true) (hdis : ∀ i ∈ isR, i ∉ isC) (hp : pc + 3 = pc') (kk : ∀ (r : Int64) (w : va_W), post r w → zJ p l e R s m args below meth c Q D A nL (wr ++ w) (cn + mc) (sn + ms) lv pc' (.long r :: rest)) : zJ p l e R s m args below meth c Q D A nL ws cn sn lv pc st := by
  subst hp
  intro H locs ls hP hD hS hl
  have hFc := va_free hD hS C.2.2.1 isC hC
  refine va_calll (hr H locs ls hP hD hS hl) hS (fun q _ h => hFc q h) hFc (fun r u t H1 locs1 ht hvm hw hB hz1 hk1 hS1 => ?_)
  obtain ⟨hP1, hK1, hD1⟩ := hB
  rw [ht] at hP1
  obtain ⟨hP2, hD2⟩ := va_join hP hD isC isR hC hR hn hdis hk1 hFc hP1 hD1
  exact kk r u hw H1 locs1 ls hP2 hD2 hS1 hl
theorem zj_cd (pc' : Nat) (isC isR : List Nat) (C : zC p l s m args meth c cc own Ts D tys A nL) {rest : List Value} {mc ms : Nat} {wc wr : va_W} {av : List Value} {post : UInt64 → va_W → Prop} (hr : zRn p l e R s m args below meth c D A nL ws cn sn lv pc st rest mc ms wc (fun sz => va_Qd post (zB D tys (va_A wc sz)) (va_A wc sz) av.toArray)) (hC : isC.map (fun i => ws[i]?) = wc.map some) (hR : isR.map (fun i => ws[i]?) = wr.map some) (hn : va_nd isR = true) (hdis : ∀ i ∈ isR, i ∉ isC) (hp : pc + 3 = pc') (kk : ∀ (r : UInt64) (w : va_W), post r w → zJ p l e R s m args below meth c Q D A nL (wr ++ w) (cn + mc) (sn + ms) lv pc' (.double r :: rest)) : zJ p l e R s m args below meth c Q D A nL ws cn sn lv pc st := by
  subst hp
  intro H locs ls hP hD hS hl
  have hFc := va_free hD hS C.2.2.1 isC hC
  refine va_calld (hr H locs ls hP hD hS hl) hS (fun q _ h => hFc q h) hFc (fun r u t H1 locs1 ht hvm hw hB hz1 hk1 hS1 => ?_)
  obtain ⟨hP1, hK1, hD1⟩ := hB
  rw [ht] at hP1
  obtain ⟨hP2, hD2⟩ := va_join hP hD isC isR hC hR hn hdis hk1 hFc hP1 hD1
  exact kk r u hw H1 locs1 ls hP2 hD2 hS1 hl
theorem zj_cv (pc' : Nat) (isC isR : List Nat) (C : zC p l s m args meth c cc own Ts D tys A nL) {rest : List Value} {mc ms : Nat} {wc wr : va_W} {av : List Value} {post : va_W → Prop} (hr : zRn p l e R s m args below meth c D A nL ws cn sn lv pc st rest mc ms wc (fun sz => va_Qv post (zB D tys (va_A wc sz)) (va_A wc sz) av.toArray)) (hC : isC.map (fun i => ws[i]?) = wc.map some) (hR : isR.map (fun i => ws[i]?) = wr.map some) (hn : va_nd isR = true) (hdis : ∀ i ∈ isR, i ∉ isC) (hp : pc + 3 = pc') (kk : ∀ (w : va_W), post w → zJ p l e R s m args below meth c Q D A nL (wr ++ w) (cn + mc) (sn + ms) lv pc' (rest)) : zJ p l e R s m args below meth c Q D A nL ws cn sn lv pc st := by
  subst hp
  intro H locs ls hP hD hS hl
  have hFc := va_free hD hS C.2.2.1 isC hC
  refine va_callv (hr H locs ls hP hD hS hl) hS (fun q _ h => hFc q h) hFc (fun u t H1 locs1 ht hvm hw hB hz1 hk1 hS1 => ?_)
  obtain ⟨hP1, hK1, hD1⟩ := hB
  rw [ht] at hP1
  obtain ⟨hP2, hD2⟩ := va_join hP hD isC isR hC hR hn hdis hk1 hFc hP1 hD1
  exact kk u hw H1 locs1 ls hP2 hD2 hS1 hl
theorem zj_cq (pc' : Nat) (isC isR : List Nat) (C : zC p l s m args meth c cc own Ts D tys A nL) {rest : List Value} {mc ms : Nat} {wc wr : va_W} {av : List Value} {post : Option Nat → va_W → Prop} (hr : zRn p l e R s m args below meth c D A nL ws cn sn lv pc st rest mc ms wc (fun sz => va_Qq post (zB D tys (va_A wc sz)) (va_A wc sz) av.toArray)) (hC : isC.map (fun i => ws[i]?) = wc.map some) (hR : isR.map (fun i => ws[i]?) = wr.map some) (hn : va_nd isR = true) (hdis : ∀ i ∈ isR, i ∉ isC) (hp : pc + 3 = pc') (kk : ∀ (r : Option Nat) (w : va_W), post r w → zJ p l e R s m args below meth c Q D A nL (wr ++ w) (cn + mc) (sn + ms) lv pc' (va_rf r :: rest)) : zJ p l e R s m args below meth c Q D A nL ws cn sn lv pc st := by
  subst hp
  intro H locs ls hP hD hS hl
  have hFc := va_free hD hS C.2.2.1 isC hC
  refine va_callq (hr H locs ls hP hD hS hl) hS (fun q _ h => hFc q h) hFc (fun r u t H1 locs1 ht hvm hw hB hz1 hk1 hS1 => ?_)
  obtain ⟨hP1, hK1, hD1⟩ := hB
  rw [ht] at hP1
  obtain ⟨hP2, hD2⟩ := va_join hP hD isC isR hC hR hn hdis hk1 hFc hP1 hD1
  exact kk r u hw H1 locs1 ls hP2 hD2 hS1 hl
end ZQ
end
section
section ZO
variable {p : Program} {l : Launch} {e : Env} {R : Room} {s : State} {m : MethodId} {args : Array Value} {below : List Frame} {meth : Method} {c : Code} {Q : State → Prop} {D : va_G} {A : Nat → Prop} {nL : Nat} {ws : va_W} {cn sn : Nat} {lv : List (Nat × Value)} {pc : Nat} {st : List Value} {cc : ByteArray} {own : String} {Ts : List Cond} {tys : List (ClassId × FieldType)}
theorem zI_bool {v : Int} (h : v = 0 ∨ v = 1) : narrow .boolean (.int (zI v)) = .int (zI v) := by rcases h with rfl | rfl <;> rfl
theorem zj_objInit (pc' : Nat) (C : zC p l s m args meth c cc own Ts D tys A nL) {idx a : Nat} (hl : Cond.methodLink own idx objectInit ∈ Ts) (hi : Cond.instanceMethod objectInit ∈ Ts) (hc : Cond.code objectInit ⟨#[0xb1]⟩ 1 none ∈ Ts) (hf : 1 ≤ R.frames) (hlo : (st.map fun v => v.category).sum + 12 ≤ R.locals) (hd : decode cc pc = .ok (.invokespecial idx, 3)) (hp : pc + 3 = pc') (k : zJ p l e R s m args below meth c Q D A nL ws cn sn lv pc' st) : zJ p l e R s m args below meth c Q D A nL ws cn sn lv pc (.ref a :: st) := by
  subst hp
  exact fun H locs ls hP hD hS h => W.objInit C.1.1 C.1.2.1 C.1.2.2.2.1 (C.1.2.2.2.2 _ hl) (C.1.2.2.2.2 _ hi) (C.1.2.2.2.2 _ hc) rfl (h.1.trans C.1.2.2.1.symm) rfl hd hf (by show 2 * 0 + _ + 12 ≤ _; omega) (k H locs ls hP hD hS h)
theorem zj_new (pc' : Nat) (cn' sn' : Nat) (ws' : Nat → va_W) (C : zC p l s m args meth c cc own Ts D tys A nL) {Cn : String} {T : u_T} {N ci index : Nat} {fs : List Value} (ty : Nat → FieldType) (hty : ∀ k, k < N → parseFieldDescriptor (T k).2.2.1 = some (ty k)) (hin : ∀ w ∈ u_ws Cn T N, w ∈ Ts) (hcl : Cond.classLink own index Cn ∈ Ts) (hinst : Cond.instantiable Cn N ∈ Ts) (hini : Cond.initialized Cn ∈ Ts) (hc : vwCl[ci]? = some (Cn, T, N)) (hfs : ∀ j, j < N → defaultValue (ty j) = vp_V fs j) (hcn : cn + 1 = cn') (hsn : sn + N = sn') (hR : cn' ≤ R.cells ∧ sn' ≤ R.slots) (hws : ∀ q, ws ++ [(q, .inr (ci, fs))] = ws' q) (hd : decode cc pc = .ok (.new index, 3)) (hp : pc + 3 = pc') (k : ∀ q : Nat, zJ p l e R s m args below meth c Q D A nL (ws' q) cn' sn' lv pc' (.ref q :: st)) : zJ p l e R s m args below meth c Q D A nL ws cn sn lv pc st := by
  subst hp; subst hcn; subst hsn
  exact fun H locs ls hP hD hS h => va_new C.1.1 C.1.2.1 C.1.2.2.2.2 hin ty hty C.1.2.2.2.1 (C.1.2.2.2.2 _ hcl) (C.1.2.2.2.2 _ hinst) (C.1.2.2.2.2 _ hini) C.2.1 hP hD hS C.2.2.1 hc hfs hR.1 hR.2 hd (fun q H1 hP1 hD1 hS1 => by
    rw [hws q] at hP1 hD1
    exact k q H1 locs ls hP1 hD1 hS1 h)
theorem zRA_one {U : State} {c1 c2 : ClassId} {ty : FieldType} (h1 : va_RA U c1 ty) (h2 : va_RA U c2 ty) : c1 = c2 := by
  cases ty with
  | object Cn =>
    obtain ⟨_, _, _, _, _, e1⟩ := h1
    obtain ⟨_, _, _, _, _, e2⟩ := h2
    exact Option.some.inj (e1.symm.trans e2)
  | _ => exact Option.some.inj (Eq.trans (Eq.symm h1) h2)
theorem zj_newi (pc' : Nat) (cn' sn' : Nat) (ws' : Nat → va_W) (C : zC p l s m args meth c cc own Ts D tys A nL) {n : Int} {N' : Nat} {cI : ClassId} (ht : tys[0]? = some (cI, .int)) (harr : Cond.arrayClass .int ∈ Ts) (hn : n = (N' : Int)) (hN : N' ≤ 1000000) (hcn : cn + 1 = cn') (hsn : sn + N' = sn') (hR : cn' ≤ R.cells ∧ sn' ≤ R.slots) (hws : ∀ q, ws ++ [(q, .inl (cI, N', .inl (zA fun _ => 0)))] = ws' q) (hd : decode cc pc = .ok (.newarray .int, 2)) (hp : pc + 2 = pc') (k : ∀ q : Nat, zJ p l e R s m args below meth c Q D A nL (ws' q) cn' sn' lv pc' (.ref q :: st)) : zJ p l e R s m args below meth c Q D A nL ws cn sn lv pc (.int (zI n) :: st) := by
  subst hp; subst hcn; subst hsn; subst hn
  refine fun H locs ls hP hD hS h => va_newa (atype := .int) (ty := .int) (a0 := (N', .inl (zA fun _ => 0))) C.1.1 C.1.2.1 (C.1.2.2.2.2 _ harr) rfl C.2.1 hP hD hS C.2.2.1 (fun cA => rfl) (by rw [zI_0, zI_lt (by omega) (by omega)]; omega) (by rw [zI_nat (by omega)]; rfl) (by show N' * 4 ≤ 536870912; omega) hR.1 hR.2 hd (fun q cA H1 hK1 hP1 hD1 hS1 => ?_)
  have e : cA = cI := by
    obtain ⟨-, r1⟩ := C.2.1.2 0 _ ht
    obtain ⟨-, r2⟩ := hK1.2 tys.length (cA, .int) (by simp)
    exact zRA_one r2 r1
  subst e
  rw [hws q] at hP1 hD1
  exact k q H1 locs ls hP1 hD1 hS1 h
theorem zj_newl (pc' : Nat) (cn' sn' : Nat) (ws' : Nat → va_W) (C : zC p l s m args meth c cc own Ts D tys A nL) {n : Int} {N' : Nat} {cJ : ClassId} (ht : tys[2]? = some (cJ, .long)) (harr : Cond.arrayClass .long ∈ Ts) (hn : n = (N' : Int)) (hN : N' ≤ 1000000) (hcn : cn + 1 = cn') (hsn : sn + N' = sn') (hR : cn' ≤ R.cells ∧ sn' ≤ R.slots) (hws : ∀ q, ws ++ [(q, .inl (cJ, N', .inr (.inl fun _ => 0)))] = ws' q) (hd : decode cc pc = .ok (.newarray .long, 2)) (hp : pc + 2 = pc') (k : ∀ q : Nat, zJ p l e R s m args below meth c Q D A nL (ws' q) cn' sn' lv pc' (.ref q :: st)) : zJ p l e R s m args below meth c Q D A nL ws cn sn lv pc (.int (zI n) :: st) := by
  subst hp; subst hcn; subst hsn; subst hn
  refine fun H locs ls hP hD hS h => va_newa (atype := .long) (ty := .long) (a0 := (N', .inr (.inl fun _ => 0))) C.1.1 C.1.2.1 (C.1.2.2.2.2 _ harr) rfl C.2.1 hP hD hS C.2.2.1 (fun cA => rfl) (by rw [zI_0, zI_lt (by omega) (by omega)]; omega) (by rw [zI_nat (by omega)]; rfl) (by show N' * 8 ≤ 536870912; omega) hR.1 hR.2 hd (fun q cA H1 hK1 hP1 hD1 hS1 => ?_)
  have e : cA = cJ := by
    obtain ⟨-, r1⟩ := C.2.1.2 2 _ ht
    obtain ⟨-, r2⟩ := hK1.2 tys.length (cA, .long) (by simp)
    exact zRA_one r2 r1
  subst e
  rw [hws q] at hP1 hD1
  exact k q H1 locs ls hP1 hD1 hS1 h
/-- System.arraycopy of n ints from 0 to 0 -/
theorem zj_copy (pc' q0 q1 : Nat) (ws' : va_W) (C : zC p l s m args meth c cc own Ts D tys A nL) {a a0 n0 n1 index : Nat} {cI : ClassId} {f g : Int → Int} {n : Int} {nn : Nat} (hn : n = (nn : Int)) (h4 : nn ≤ n0) (h5 : nn ≤ n1) (hs0 : nn ≤ 1000000) (ht : tys[0]? = some (cI, .int)) (ha0 : ws[q0]? = some (a0, .inl (cI, n0, .inl (zA f)))) (ha1 : ws[q1]? = some (a, .inl (cI, n1, .inl (zA g)))) (hl : Cond.methodLink own index arraycopyName ∈ Ts) (hnat : Cond.native arraycopyName ∈ Ts) (hst : Cond.static arraycopyName ∈ Ts) (hini : Cond.initialized "java/lang/System" ∈ Ts) (hfr : 1 ≤ R.frames) (hlo : (st.map fun v => v.category).sum + (nativeFrameWords "java/lang/System" "arraycopy" 5 + 11) ≤ R.locals) (hws : ws.set q1 (a, .inl (cI, n1, .inl (zA (zCp f g n)))) = ws') (hd : decode cc pc = .ok (.invokestatic index, 3)) (hp : pc + 3 = pc') (k : zJ p l e R s m args below meth c Q D A nL ws' cn sn lv pc' st) : zJ p l e R s m args below meth c Q D A nL ws cn sn lv pc (.int (zI n) :: .int (zI 0) :: .ref a :: .int (zI 0) :: .ref a0 :: st) := by
  subst hp; subst hws; subst hn
  have z0 : (zI 0).toNatClampNeg = 0 := rfl
  have zn : (zI (nn : Int)).toNatClampNeg = nn := by rw [zI_nat (by omega)]; rfl
  refine fun H locs ls hP hD hS h => va_copyi C.1.1 C.1.2.1 (C.1.2.2.1.trans h.1.symm) C.1.2.2.2.1 (C.1.2.2.2.2 _ hl) (C.1.2.2.2.2 _ hnat) (C.1.2.2.2.2 _ hst) (C.1.2.2.2.2 _ hini) C.2.1 hP hD hS q0 q1 0 0 ha0 ha1 ht ht rfl (by decide) (by decide) (by rw [zI_0, zI_lt (by omega) (by omega)]; omega) (by rw [z0, zn]; omega) (by rw [z0, zn]; omega) (fun i _ => rfl) hfr hlo hd (fun H1 locs1 hP1 hD1 hS1 => ?_)
  rw [z0, zn, zA_cpy] at hP1 hD1
  exact k H1 locs1 ls hP1 hD1 hS1 h
end ZO
section ZX
variable {p : Program} {l : Launch} {e : Env} {R : Room} {s : State} {m : MethodId} {args : Array Value} {below : List Frame} {meth : Method} {c : Code} {Q : State → Prop} {D : va_G} {A : Nat → Prop} {nL : Nat} {ws : va_W} {cn sn : Nat} {lv : List (Nat × Value)} {pc : Nat} {st : List Value} {cc : ByteArray} {own : String} {Ts : List Cond} {tys : List (ClassId × FieldType)}
theorem zcell_ext {cI : ClassId} {n : Nat} {f g : Int → Int} (h : ∀ x, 0 ≤ x → x < (n : Int) → f x = g x) : vp_cell cI (n, .inl (zA f)) = vp_cell cI (n, .inl (zA g)) := by
  rw [vp_cell_i, vp_cell_i]
  have hs : (arrV cI n (fun j => .int (zA f j))).slots = (arrV cI n (fun j => .int (zA g j))).slots := by
    apply Array.ext_getElem?
    intro j
    by_cases hj : j < n
    · rw [arrV_read cI _ hj, arrV_read cI _ hj]
      unfold zA
      rw [h (j : Int) (by omega) (by omega)]
    · rw [Array.getElem?_eq_none (by rw [arrV_size]; omega), Array.getElem?_eq_none (by rw [arrV_size]; omega)]
  unfold arrV at hs ⊢
  rw [show (Array.ofFn (n := n) fun j => Value.int (zA f j.val)) = (Array.ofFn (n := n) fun j => Value.int (zA g j.val)) from hs]
/-- another function with the same numbers in range -/
theorem zj_ext (q0 : Nat) (ws' : va_W) {a n : Nat} {cI : ClassId} {f g : Int → Int} (hfg : ∀ x, 0 ≤ x → x < (n : Int) → f x = g x) (he : ws[q0]? = some (a, .inl (cI, n, .inl (zA f)))) (hws : ws.set q0 (a, .inl (cI, n, .inl (zA g))) = ws') (k : zJ p l e R s m args below meth c Q D A nL ws' cn sn lv pc st) : zJ p l e R s m args below meth c Q D A nL ws cn sn lv pc st := by
  subst hws
  refine fun H locs ls hP hD hS h => k H locs ls (hP.set hD he ?_ (fun _ _ => rfl)) (hD.set he) hS h
  have h1 := hP q0 _ he
  show H[a]? = some (vp_cell cI (n, .inl (zA g)))
  rw [← zcell_ext hfg]
  exact h1
theorem zj_max (pc' : Nat) (C : zC p l s m args meth c cc own Ts D tys A nL) {idx : Nat} {a b : Int} (ha : -2147483648 ≤ a ∧ a < 2147483648) (hb : -2147483648 ≤ b ∧ b < 2147483648) (hl : Cond.methodLink own idx Lib.Math.max.name ∈ Ts) (hst : Cond.static Lib.Math.max.name ∈ Ts) (hi : Cond.initialized "java/lang/Math" ∈ Ts) (hco : Cond.code Lib.Math.max.name Lib.Math.max.code 2 (some .int) ∈ Ts) (hf : 1 ≤ R.frames) (hlo : (st.map fun v => v.category).sum + 13 ≤ R.locals) (hR : cn ≤ R.cells ∧ sn ≤ R.slots) (hd : decode cc pc = .ok (.invokestatic idx, 3)) (hp : pc + 3 = pc') (k : zJ p l e R s m args below meth c Q D A nL ws cn sn lv pc' (.int (zI (if a < b then b else a)) :: st)) : zJ p l e R s m args below meth c Q D A nL ws cn sn lv pc (.int (zI b) :: .int (zI a) :: st) := by
  subst hp
  have e : (if zI a < zI b then zI b else zI a) = zI (if a < b then b else a) := by
    by_cases h : a < b
    · rw [if_pos h, if_pos ((zI_lt ha hb).mpr h)]
    · rw [if_neg h, if_neg (fun q => h ((zI_lt ha hb).mp q))]
  exact fun H locs ls hP hD hS h => va_mmax C.1.1 C.1.2.1 (C.1.2.2.1.trans h.1.symm) C.1.2.2.2.1 (C.1.2.2.2.2 _ hl) (C.1.2.2.2.2 _ hst) (C.1.2.2.2.2 _ hi) (C.1.2.2.2.2 _ hco) hf hlo hR.1 hR.2 hd (by rw [e]; exact k H locs ls hP hD hS h)
theorem zj_abs (pc' : Nat) (C : zC p l s m args meth c cc own Ts D tys A nL) {idx : Nat} {a : Int} (ha : -2147483648 ≤ a ∧ a < 2147483648) (hl : Cond.methodLink own idx Lib.Math.abs.name ∈ Ts) (hst : Cond.static Lib.Math.abs.name ∈ Ts) (hi : Cond.initialized "java/lang/Math" ∈ Ts) (hco : Cond.code Lib.Math.abs.name Lib.Math.abs.code 1 (some .int) ∈ Ts) (hf : 1 ≤ R.frames) (hlo : (st.map fun v => v.category).sum + 13 ≤ R.locals) (hR : cn ≤ R.cells ∧ sn ≤ R.slots) (hd : decode cc pc = .ok (.invokestatic idx, 3)) (hp : pc + 3 = pc') (k : zJ p l e R s m args below meth c Q D A nL ws cn sn lv pc' (.int (zI (if 0 ≤ a then a else -a)) :: st)) : zJ p l e R s m args below meth c Q D A nL ws cn sn lv pc (.int (zI a) :: st) := by
  subst hp
  have e : (if 0 ≤ zI a then zI a else 0 - zI a) = zI (if 0 ≤ a then a else -a) := by
    have hz : (0 : Int32) ≤ zI a ↔ 0 ≤ a := by rw [zI_0]; exact zI_le (by omega) ha
    by_cases h : 0 ≤ a
    · rw [if_pos h, if_pos (hz.mpr h)]
    · rw [if_neg h, if_neg (fun q => h (hz.mp q)), zI_0, zI_sub]
      congr 1
      omega
  exact fun H locs ls hP hD hS h => va_mabs C.1.1 C.1.2.1 (C.1.2.2.1.trans h.1.symm) C.1.2.2.2.1 (C.1.2.2.2.2 _ hl) (C.1.2.2.2.2 _ hst) (C.1.2.2.2.2 _ hi) (C.1.2.2.2.2 _ hco) hf hlo hR.1 hR.2 hd (by rw [e]; exact k H locs ls hP hD hS h)
end ZX
end
section
/-- f with v put in at p -/
def zIns (f : Int → Int) (p v : Int) : Int → Int := fun x => if x < p then f x else if x = p then v else f (x - 1)
/-- f with the place p taken out -/
def zDel (f : Int → Int) (p : Int) : Int → Int := fun x => if x < p then f x else if x < 23 then f (x + 1) else f x

abbrev rm_X4_isWithin : Room := { frames := 0, cells := 0, slots := 0, locals := 0 }
set_option maxRecDepth 100000 in
set_option maxHeartbeats 4000000 in
theorem c_X4_isWithin (l : Launch) (D : va_G) (cI cS cJ : ClassId) (v : Int) (lo : Int) (hi : Int) (hv : -2147483648 ≤ v ∧ v < 2147483648) (hlo : -2147483648 ≤ lo ∧ lo < 2147483648) (hhi : -2147483648 ≤ hi ∧ hi < 2147483648) : zMi l yX4_isWithin wsX4_isWithin rm_X4_isWithin D (zTy cI cS cJ) [.int (zI v), .int (zI lo), .int (zI hi)] [] (fun r w => ∃ (r1 : Int), ((r1 = 1 ∧ lo ≤ v ∧ v ≤ hi) ∨ (r1 = 0 ∧ (v < lo ∨ hi < v))) ∧ r = zI r1 ∧ w = []) 0 0 := by
  intro sz
  refine zMet_of (Qc := fun A => va_Qi _ (zB D (zTy cI cS cJ) A) A) RX4 [(0, .int (zI v)), (1, .int (zI lo)), (2, .int (zI hi))] rfl (by decide +kernel) rfl (Nat.le_of_ble_eq_true rfl) rfl ?_ sz
  intro p e s m args below meth c A Q hQ C hr hini
  refine zj_iload_n 1 0 C dX4_isWithin_0 rfl rfl rfl ?_
  refine zj_iload_n 2 1 C dX4_isWithin_1 rfl rfl rfl ?_
  refine zj_icmp_lt 5 14 C (by omega) (by omega) dX4_isWithin_2 rfl (by decide) (fun h_1 => ?_) (fun h_1 => ?_)
  · skip
    refine zj_iconst 15 C dX4_isWithin_14 rfl ?_
    subst hQ
    exact zj_zret C (zI_bool (by omega)) hr ⟨0, (by omega), rfl, rfl⟩ (by decide) (by decide) dX4_isWithin_15
  · skip
    refine zj_iload_n 6 0 C dX4_isWithin_5 rfl rfl rfl ?_
    refine zj_iload_n 7 2 C dX4_isWithin_6 rfl rfl rfl ?_
    refine zj_icmp_gt 10 14 C (by omega) (by omega) dX4_isWithin_7 rfl (by decide) (fun h_2 => ?_) (fun h_2 => ?_)
    · skip
      refine zj_iconst 15 C dX4_isWithin_14 rfl ?_
      subst hQ
      exact zj_zret C (zI_bool (by omega)) hr ⟨0, (by omega), rfl, rfl⟩ (by decide) (by decide) dX4_isWithin_15
    · skip
      refine zj_iconst 11 C dX4_isWithin_10 rfl ?_
      refine zj_goto 15 C dX4_isWithin_11 (by decide) ?_
      subst hQ
      exact zj_zret C (zI_bool (by omega)) hr ⟨1, (by omega), rfl, rfl⟩ (by decide) (by decide) dX4_isWithin_15

abbrev rm_X4_isPanelSize : Room := { frames := 1, cells := 0, slots := 0, locals := 22 }
set_option maxRecDepth 100000 in
set_option maxHeartbeats 4000000 in
theorem c_X4_isPanelSize (l : Launch) (D : va_G) (cI cS cJ : ClassId) (w1 : Int) (t1 : Int) (hw1 : -2147483648 ≤ w1 ∧ w1 < 2147483648) (ht1 : -2147483648 ≤ t1 ∧ t1 < 2147483648) : zMi l yX4_isPanelSize wsX4_isPanelSize rm_X4_isPanelSize D (zTy cI cS cJ) [.int (zI w1), .int (zI t1)] [] (fun r w => ∃ (r1 : Int), ((r1 = 1 ∧ 1 ≤ w1 ∧ w1 ≤ 6 ∧ 1 ≤ t1 ∧ t1 ≤ 9) ∨ (r1 = 0 ∧ (w1 < 1 ∨ 6 < w1 ∨ t1 < 1 ∨ 9 < t1))) ∧ r = zI r1 ∧ w = []) 0 0 := by
  intro sz
  refine zMet_of (Qc := fun A => va_Qi _ (zB D (zTy cI cS cJ) A) A) RX4 [(0, .int (zI w1)), (1, .int (zI t1))] rfl (by decide +kernel) rfl (Nat.le_of_ble_eq_true rfl) rfl ?_ sz
  intro p e s m args below meth c A Q hQ C hr hini
  refine zj_iload_n 1 0 C dX4_isPanelSize_0 rfl rfl rfl ?_
  refine zj_iconst 2 C dX4_isPanelSize_1 rfl ?_
  refine zj_bipush 4 C dX4_isPanelSize_2 rfl rfl ?_
  refine zj_ci 7 [] [] C (wr := []) (zr_S [] C (As := [.int (zI w1), .int (zI 1), .int (zI 6)]) (rest := []) (c_X4_isWithin l D cI cS cJ w1 1 6 (by omega) (by omega) (by omega)) (va_cwS 3 C.1.2.2.2.2 gX4_isPanelSize_X4_isWithin rfl rfl rfl (by decide +kernel) ⟨Nat.le_of_ble_eq_true rfl, Nat.le_of_ble_eq_true rfl⟩) rfl (by decide) rfl rfl (Nat.le_of_ble_eq_true rfl) dX4_isPanelSize_4 ⟨Nat.le_of_ble_eq_true rfl, Nat.le_of_ble_eq_true rfl⟩) rfl rfl (by decide) (by decide) rfl (fun r_1 w_ hp_2 => ?_)
  obtain ⟨r1_3, f_4, rfl, rfl⟩ := hp_2
  refine zj_ws (ws' := []) rfl ?_
  refine zj_if_eq 10 24 C (by omega) dX4_isPanelSize_7 rfl (by decide) (fun h_5 => ?_) (fun h_5 => ?_)
  · skip
    refine zj_iconst 25 C dX4_isPanelSize_24 rfl ?_
    subst hQ
    exact zj_zret C (zI_bool (by omega)) hr ⟨0, (by omega), rfl, rfl⟩ (by decide) (by decide) dX4_isPanelSize_25
  · skip
    refine zj_iload_n 11 1 C dX4_isPanelSize_10 rfl rfl rfl ?_
    refine zj_iconst 12 C dX4_isPanelSize_11 rfl ?_
    refine zj_bipush 14 C dX4_isPanelSize_12 rfl rfl ?_
    refine zj_ci 17 [] [] C (wr := []) (zr_S [] C (As := [.int (zI t1), .int (zI 1), .int (zI 9)]) (rest := []) (c_X4_isWithin l D cI cS cJ t1 1 9 (by omega) (by omega) (by omega)) (va_cwS 3 C.1.2.2.2.2 gX4_isPanelSize_X4_isWithin rfl rfl rfl (by decide +kernel) ⟨Nat.le_of_ble_eq_true rfl, Nat.le_of_ble_eq_true rfl⟩) rfl (by decide) rfl rfl (Nat.le_of_ble_eq_true rfl) dX4_isPanelSize_14 ⟨Nat.le_of_ble_eq_true rfl, Nat.le_of_ble_eq_true rfl⟩) rfl rfl (by decide) (by decide) rfl (fun r_6 w_ hp_7 => ?_)
    obtain ⟨r1_8, f_9, rfl, rfl⟩ := hp_7
    refine zj_ws (ws' := []) rfl ?_
    refine zj_if_eq 20 24 C (by omega) dX4_isPanelSize_17 rfl (by decide) (fun h_10 => ?_) (fun h_10 => ?_)
    · skip
      refine zj_iconst 25 C dX4_isPanelSize_24 rfl ?_
      subst hQ
      exact zj_zret C (zI_bool (by omega)) hr ⟨0, (by omega), rfl, rfl⟩ (by decide) (by decide) dX4_isPanelSize_25
    · skip
      refine zj_iconst 21 C dX4_isPanelSize_20 rfl ?_
      refine zj_goto 25 C dX4_isPanelSize_21 (by decide) ?_
      subst hQ
      exact zj_zret C (zI_bool (by omega)) hr ⟨1, (by omega), rfl, rfl⟩ (by decide) (by decide) dX4_isPanelSize_25

abbrev rm_X4_read : Room := { frames := 0, cells := 0, slots := 0, locals := 0 }
set_option maxRecDepth 100000 in
set_option maxHeartbeats 4000000 in
theorem c_X4_read (l : Launch) (D : va_G) (cI cS cJ : ClassId) (a1 : Nat) (nn : Nat) (f1 : Int → Int) (i1 : Int) (hn : nn ≤ 1000) (hi1 : 0 ≤ i1 ∧ i1 < (nn : Int)) : zMi l yX4_read wsX4_read rm_X4_read D (zTy cI cS cJ) [.ref a1, .int (zI i1)] [(a1, .inl (cI, nn, .inl (zA f1)))] (fun r w => r = zI (f1 i1) ∧ w = [(a1, .inl (cI, nn, .inl (zA f1)))]) 0 0 := by
  intro sz
  refine zMet_of (Qc := fun A => va_Qi _ (zB D (zTy cI cS cJ) A) A) RX4 [(0, .ref a1), (1, .int (zI i1))] rfl (by decide +kernel) rfl (Nat.le_of_ble_eq_true rfl) rfl ?_ sz
  intro p e s m args below meth c A Q hQ C hr hini
  refine zj_iload_n 1 1 C dX4_read_0 rfl rfl rfl ?_
  refine zj_if_lt 4 16 C (by omega) dX4_read_1 rfl (by decide) (fun h_1 => ?_) (fun h_1 => ?_)
  · exact absurd h_1 (by omega)
  · skip
    refine zj_iload_n 5 1 C dX4_read_4 rfl rfl rfl ?_
    refine zj_aload_n 6 0 C dX4_read_5 rfl rfl rfl ?_
    refine zj_alen 7 0 0 (nn : Int) C rfl rfl rfl dX4_read_6 rfl ?_
    refine zj_icmp_ge 10 16 C (by omega) (by omega) dX4_read_7 rfl (by decide) (fun h_2 => ?_) (fun h_2 => ?_)
    · exact absurd h_2 (by omega)
    · skip
      refine zj_aload_n 11 0 C dX4_read_10 rfl rfl rfl ?_
      refine zj_iload_n 12 1 C dX4_read_11 rfl rfl rfl ?_
      refine zj_iald 13 0 C (by omega) (by omega) rfl rfl dX4_read_12 rfl ?_
      refine zj_goto 17 C dX4_read_13 (by decide) ?_
      subst hQ
      exact zj_ireturn C hr ⟨rfl, rfl⟩ (by decide) (by decide) dX4_read_17

abbrev rm_X4_write : Room := { frames := 0, cells := 0, slots := 0, locals := 0 }
set_option maxRecDepth 100000 in
set_option maxHeartbeats 4000000 in
theorem c_X4_write (l : Launch) (D : va_G) (cI cS cJ : ClassId) (a1 : Nat) (nn : Nat) (f1 : Int → Int) (i1 : Int) (v1 : Int) (hn : nn ≤ 1000) (hi1 : 0 ≤ i1 ∧ i1 < (nn : Int)) : zMv l yX4_write wsX4_write rm_X4_write D (zTy cI cS cJ) [.ref a1, .int (zI i1), .int (zI v1)] [(a1, .inl (cI, nn, .inl (zA f1)))] (fun w => w = [(a1, .inl (cI, nn, .inl (zA (zU f1 i1 v1))))]) 0 0 := by
  intro sz
  refine zMet_of (Qc := fun A => va_Qv _ (zB D (zTy cI cS cJ) A) A) RX4 [(0, .ref a1), (1, .int (zI i1)), (2, .int (zI v1))] rfl (by decide +kernel) rfl (Nat.le_of_ble_eq_true rfl) rfl ?_ sz
  intro p e s m args below meth c A Q hQ C hr hini
  refine zj_iload_n 1 1 C dX4_write_0 rfl rfl rfl ?_
  refine zj_if_lt 4 14 C (by omega) dX4_write_1 rfl (by decide) (fun h_1 => ?_) (fun h_1 => ?_)
  · exact absurd h_1 (by omega)
  · skip
    refine zj_iload_n 5 1 C dX4_write_4 rfl rfl rfl ?_
    refine zj_aload_n 6 0 C dX4_write_5 rfl rfl rfl ?_
    refine zj_alen 7 0 0 (nn : Int) C rfl rfl rfl dX4_write_6 rfl ?_
    refine zj_icmp_ge 10 14 C (by omega) (by omega) dX4_write_7 rfl (by decide) (fun h_2 => ?_) (fun h_2 => ?_)
    · exact absurd h_2 (by omega)
    · skip
      refine zj_aload_n 11 0 C dX4_write_10 rfl rfl rfl ?_
      refine zj_iload_n 12 1 C dX4_write_11 rfl rfl rfl ?_
      refine zj_iload_n 13 2 C dX4_write_12 rfl rfl rfl ?_
      refine zj_iast 14 0 [(a1, .inl (cI, nn, .inl (zA (zU f1 i1 v1))))] C (by omega) (by omega) rfl rfl rfl dX4_write_13 rfl ?_
      subst hQ
      exact zj_return C hr rfl (by decide) (by decide) dX4_write_14

theorem fl_X2_has_21 : Cond.fieldLink RX2 21 "SplashPages$Story" "size" "I" ∈ wsX2_has := by decide +kernel
theorem im_X2_has_2 : ∀ w ∈ u_ws RX2 TX2 5, w ∈ wsX2_has := by decide +kernel
abbrev rm_X2_has : Room := { frames := 0, cells := 0, slots := 0, locals := 0 }
set_option maxRecDepth 100000 in
set_option maxHeartbeats 4000000 in
theorem c_X2_has (l : Launch) (D : va_G) (cI cS cJ : ClassId) (q1 : Nat) (b1 : Nat) (b2 : Nat) (b3 : Nat) (n1 : Int) (s1 : Int) (i1 : Int) (hn1 : 0 ≤ n1 ∧ n1 ≤ 24) (hi1 : -2147483648 ≤ i1 ∧ i1 < 2147483648) : zMi l yX2_has wsX2_has rm_X2_has D (zTy cI cS cJ) [.ref q1, .int (zI i1)] [(q1, .inr (2, [.ref b1, .ref b2, .ref b3, .int (zI n1), .int (zI s1)]))] (fun r w => ∃ (r1 : Int), ((r1 = 1 ∧ 0 ≤ i1 ∧ i1 < n1) ∨ (r1 = 0 ∧ (i1 < 0 ∨ n1 ≤ i1))) ∧ r = zI r1 ∧ w = [(q1, .inr (2, [.ref b1, .ref b2, .ref b3, .int (zI n1), .int (zI s1)]))]) 0 0 := by
  intro sz
  refine zMet_of (Qc := fun A => va_Qi _ (zB D (zTy cI cS cJ) A) A) RX2 [(0, .ref q1), (1, .int (zI i1))] rfl (by decide +kernel) rfl (Nat.le_of_ble_eq_true rfl) rfl ?_ sz
  intro p e s m args below meth c A Q hQ C hr hini
  refine zj_iload_n 1 1 C dX2_has_0 rfl rfl rfl ?_
  refine zj_if_lt 4 16 C (by omega) dX2_has_1 rfl (by decide) (fun h_1 => ?_) (fun h_1 => ?_)
  · skip
    refine zj_iconst 17 C dX2_has_16 rfl ?_
    subst hQ
    exact zj_zret C (zI_bool (by omega)) hr ⟨0, (by omega), rfl, rfl⟩ (by decide) (by decide) dX2_has_17
  · skip
    refine zj_iload_n 5 1 C dX2_has_4 rfl rfl rfl ?_
    refine zj_aload_n 6 0 C dX2_has_5 rfl rfl rfl ?_
    refine zj_get 9 0 3 C (T := TX2) im_X2_has_2 fl_X2_has_21 rfl rfl (by decide) rfl rfl dX2_has_6 rfl ?_
    refine zj_icmp_ge 12 16 C (by omega) (by omega) dX2_has_9 rfl (by decide) (fun h_2 => ?_) (fun h_2 => ?_)
    · skip
      refine zj_iconst 17 C dX2_has_16 rfl ?_
      subst hQ
      exact zj_zret C (zI_bool (by omega)) hr ⟨0, (by omega), rfl, rfl⟩ (by decide) (by decide) dX2_has_17
    · skip
      refine zj_iconst 13 C dX2_has_12 rfl ?_
      refine zj_goto 17 C dX2_has_13 (by decide) ?_
      subst hQ
      exact zj_zret C (zI_bool (by omega)) hr ⟨1, (by omega), rfl, rfl⟩ (by decide) (by decide) dX2_has_17

theorem wn_X2_openGap_RX4 : Cond.initialized RX4 ∈ wsX2_openGap := by decide +kernel
theorem nm_RX2_49 : Cond.methodLinkNest RX2 49 yX4_write "SplashPages" ∈ zNW := by decide +kernel
theorem wst_X2_openGap_X4_write : Cond.static yX4_write ∈ wsX2_openGap := by decide +kernel
abbrev rm_X2_openGap : Room := { frames := 1, cells := 0, slots := 0, locals := 22 }
set_option maxRecDepth 100000 in
set_option maxHeartbeats 4000000 in
theorem c_X2_openGap (l : Launch) (D : va_G) (cI cS cJ : ClassId) (a1 : Nat) (f1 : Int → Int) (p1 : Int) (v1 : Int) (hp1 : 0 ≤ p1 ∧ p1 < 24) : zMv l yX2_openGap wsX2_openGap rm_X2_openGap D (zTy cI cS cJ) [.ref a1, .int (zI p1), .int (zI v1)] [(a1, .inl (cI, 24, .inl (zA f1)))] (fun w => w = [(a1, .inl (cI, 24, .inl (zA (zIns f1 p1 v1))))]) 0 0 := by
  intro sz
  refine zMet_of (Qc := fun A => va_Qv _ (zB D (zTy cI cS cJ) A) A) RX2 [(0, .ref a1), (1, .int (zI p1)), (2, .int (zI v1))] rfl (by decide +kernel) rfl (Nat.le_of_ble_eq_true rfl) rfl ?_ sz
  intro p e s m args below meth c A Q hQ C hr hini
  refine zj_aload_n 1 0 C dX2_openGap_0 rfl rfl rfl ?_
  refine zj_alen 2 0 0 24 C rfl rfl rfl dX2_openGap_1 rfl ?_
  refine zj_iconst 3 C dX2_openGap_2 rfl ?_
  refine zj_isub 4 C dX2_openGap_3 rfl ?_
  refine zj_istore_n 5 [(3, .int (zI (24 - 1))), (0, .ref a1), (1, .int (zI p1)), (2, .int (zI v1))] C dX2_openGap_4 rfl rfl (by decide) rfl ?_
  have hL5 : ∀ (N : Nat) (i : Int) (g : Int → Int), (p1 ≤ i ∧ i ≤ 23) → (∀ x, (x ≤ i → g x = f1 x) ∧ (i < x → x ≤ 23 → g x = f1 (x - 1))) → (i < N) → zJ p l e rm_X2_openGap s m args below meth c Q D A 4 [(a1, .inl (cI, 24, .inl (zA g)))] 0 0 [(0, .ref a1), (1, .int (zI p1)), (2, .int (zI v1)), (3, .int (zI i))] 5 [] := by
    intro N
    induction N with
    | zero => intro i g hi hg hN; exact absurd hN (by omega)
    | succ N ih =>
      intro i g hi hg hN
      refine zj_iload_n 6 3 C dX2_openGap_5 rfl rfl rfl ?_
      refine zj_iload_n 7 1 C dX2_openGap_6 rfl rfl rfl ?_
      refine zj_icmp_le 10 28 C (by omega) (by omega) dX2_openGap_7 rfl (by decide) (fun h_1 => ?_) (fun h_1 => ?_)
      · skip
        refine zj_aload_n 29 0 C dX2_openGap_28 rfl rfl rfl ?_
        refine zj_iload_n 30 1 C dX2_openGap_29 rfl rfl rfl ?_
        refine zj_iload_n 31 2 C dX2_openGap_30 rfl rfl rfl ?_
        refine zj_cv 34 [0] [] C (wr := []) (zr_SN [0] C (As := [.ref a1, .int (zI p1), .int (zI v1)]) (rest := []) (c_X4_write l D cI cS cJ a1 24 g p1 v1 (by omega) (by omega)) (⟨va_cnB 3 C.1.2.2.2.2 gX2_openGap_X4_write_n49 rfl rfl rfl (C.2.2.2.2.1 _ nm_RX2_49) (C.1.2.2.2.2 _ wn_X2_openGap_RX4) (by decide +kernel) ⟨Nat.le_of_ble_eq_true rfl, Nat.le_of_ble_eq_true rfl⟩, C.1.2.2.2.2 _ wst_X2_openGap_X4_write, trivial⟩) rfl (by decide) rfl rfl (Nat.le_of_ble_eq_true rfl) dX2_openGap_31 ⟨Nat.le_of_ble_eq_true rfl, Nat.le_of_ble_eq_true rfl⟩) rfl rfl (by decide) (by decide) rfl (fun w_ hp_3 => ?_)
        obtain rfl := hp_3
        refine zj_ws (ws' := [(a1, .inl (cI, 24, .inl (zA (zU g p1 v1))))]) rfl ?_
        refine zj_ext 0 [(a1, .inl (cI, 24, .inl (zA (zIns f1 p1 v1))))] (fun x h0 h1 => by have h := hg x; simp only [zU, zIns]; split <;> split <;> (try split) <;> omega) rfl rfl ?_
        subst hQ
        exact zj_return C hr rfl (by decide) (by decide) dX2_openGap_34
      · skip
        refine zj_iload_n 11 3 C dX2_openGap_10 rfl rfl rfl ?_
        refine zj_if_le 14 28 C (by omega) dX2_openGap_11 rfl (by decide) (fun h_4 => ?_) (fun h_4 => ?_)
        · skip
          refine zj_aload_n 29 0 C dX2_openGap_28 rfl rfl rfl ?_
          refine zj_iload_n 30 1 C dX2_openGap_29 rfl rfl rfl ?_
          refine zj_iload_n 31 2 C dX2_openGap_30 rfl rfl rfl ?_
          refine zj_cv 34 [0] [] C (wr := []) (zr_SN [0] C (As := [.ref a1, .int (zI p1), .int (zI v1)]) (rest := []) (c_X4_write l D cI cS cJ a1 24 g p1 v1 (by omega) (by omega)) (⟨va_cnB 3 C.1.2.2.2.2 gX2_openGap_X4_write_n49 rfl rfl rfl (C.2.2.2.2.1 _ nm_RX2_49) (C.1.2.2.2.2 _ wn_X2_openGap_RX4) (by decide +kernel) ⟨Nat.le_of_ble_eq_true rfl, Nat.le_of_ble_eq_true rfl⟩, C.1.2.2.2.2 _ wst_X2_openGap_X4_write, trivial⟩) rfl (by decide) rfl rfl (Nat.le_of_ble_eq_true rfl) dX2_openGap_31 ⟨Nat.le_of_ble_eq_true rfl, Nat.le_of_ble_eq_true rfl⟩) rfl rfl (by decide) (by decide) rfl (fun w_ hp_6 => ?_)
          obtain rfl := hp_6
          refine zj_ws (ws' := [(a1, .inl (cI, 24, .inl (zA (zU g p1 v1))))]) rfl ?_
          refine zj_ext 0 [(a1, .inl (cI, 24, .inl (zA (zIns f1 p1 v1))))] (fun x h0 h1 => by have h := hg x; simp only [zU, zIns]; split <;> split <;> (try split) <;> omega) rfl rfl ?_
          subst hQ
          exact zj_return C hr rfl (by decide) (by decide) dX2_openGap_34
        · skip
          refine zj_aload_n 15 0 C dX2_openGap_14 rfl rfl rfl ?_
          refine zj_iload_n 16 3 C dX2_openGap_15 rfl rfl rfl ?_
          refine zj_aload_n 17 0 C dX2_openGap_16 rfl rfl rfl ?_
          refine zj_iload_n 18 3 C dX2_openGap_17 rfl rfl rfl ?_
          refine zj_iconst 19 C dX2_openGap_18 rfl ?_
          refine zj_isub 20 C dX2_openGap_19 rfl ?_
          refine zj_iald 21 0 C (by omega) (by omega) rfl rfl dX2_openGap_20 rfl ?_
          refine zj_iast 22 0 [(a1, .inl (cI, 24, .inl (zA (zU g i (g (i - 1))))))] C (by omega) (by omega) rfl rfl rfl dX2_openGap_21 rfl ?_
          refine zj_iinc 25 3 [(3, .int (zI (i + (-1)))), (0, .ref a1), (1, .int (zI p1)), (2, .int (zI v1))] C dX2_openGap_22 rfl rfl (by decide) rfl ?_
          refine zj_goto 5 C dX2_openGap_25 (by decide) ?_
          refine zj_lv [1, 2, 3, 0] [(0, .ref a1), (1, .int (zI p1)), (2, .int (zI v1)), (3, .int (zI (i + (-1))))] rfl ?_
          exact ih (i + (-1)) (zU g i (g (i - 1))) (by omega) (by intro x; have h := hg x; have h2 := hg (i - 1); simp only [zU]; constructor <;> intros <;> split <;> (try subst x) <;> (try omega) <;> (simp_all <;> omega)) (by omega)
  refine zj_lv [1, 2, 3, 0] [(0, .ref a1), (1, .int (zI p1)), (2, .int (zI v1)), (3, .int (zI (24 - 1)))] rfl ?_
  exact hL5 (24) (24 - 1) f1 (by omega) (by intro x; exact ⟨fun _ => rfl, fun h1 h2 => absurd h1 (by omega)⟩) (by omega)

abbrev rm_X2_closeGap : Room := { frames := 0, cells := 0, slots := 0, locals := 0 }
set_option maxRecDepth 100000 in
set_option maxHeartbeats 4000000 in
theorem c_X2_closeGap (l : Launch) (D : va_G) (cI cS cJ : ClassId) (a1 : Nat) (f1 : Int → Int) (p1 : Int) (hp1 : 0 ≤ p1 ∧ p1 < 24) : zMv l yX2_closeGap wsX2_closeGap rm_X2_closeGap D (zTy cI cS cJ) [.ref a1, .int (zI p1)] [(a1, .inl (cI, 24, .inl (zA f1)))] (fun w => w = [(a1, .inl (cI, 24, .inl (zA (zDel f1 p1))))]) 0 0 := by
  intro sz
  refine zMet_of (Qc := fun A => va_Qv _ (zB D (zTy cI cS cJ) A) A) RX2 [(0, .ref a1), (1, .int (zI p1))] rfl (by decide +kernel) rfl (Nat.le_of_ble_eq_true rfl) rfl ?_ sz
  intro p e s m args below meth c A Q hQ C hr hini
  refine zj_iload_n 1 1 C dX2_closeGap_0 rfl rfl rfl ?_
  refine zj_if_ge 4 5 C (by omega) dX2_closeGap_1 rfl (by decide) (fun h_1 => ?_) (fun h_1 => ?_)
  · skip
    refine zj_iload_n 6 1 C dX2_closeGap_5 rfl rfl rfl ?_
    refine zj_istore_n 7 [(2, .int (zI p1)), (0, .ref a1), (1, .int (zI p1))] C dX2_closeGap_6 rfl rfl (by decide) rfl ?_
    have hL7 : ∀ (N : Nat) (i : Int) (g : Int → Int), (p1 ≤ i ∧ i ≤ 23) → (∀ x, (x < p1 → g x = f1 x) ∧ (p1 ≤ x → x < i → g x = f1 (x + 1)) ∧ (i ≤ x → g x = f1 x)) → (23 - i < N) → zJ p l e rm_X2_closeGap s m args below meth c Q D A 3 [(a1, .inl (cI, 24, .inl (zA g)))] 0 0 [(0, .ref a1), (1, .int (zI p1)), (2, .int (zI i))] 7 [] := by
      intro N
      induction N with
      | zero => intro i g hi hg hN; exact absurd hN (by omega)
      | succ N ih =>
        intro i g hi hg hN
        refine zj_iload_n 8 2 C dX2_closeGap_7 rfl rfl rfl ?_
        refine zj_aload_n 9 0 C dX2_closeGap_8 rfl rfl rfl ?_
        refine zj_alen 10 0 0 24 C rfl rfl rfl dX2_closeGap_9 rfl ?_
        refine zj_iconst 11 C dX2_closeGap_10 rfl ?_
        refine zj_isub 12 C dX2_closeGap_11 rfl ?_
        refine zj_icmp_ge 15 29 C (by omega) (by omega) dX2_closeGap_12 rfl (by decide) (fun h_2 => ?_) (fun h_2 => ?_)
        · skip
          refine zj_ext 0 [(a1, .inl (cI, 24, .inl (zA (zDel f1 p1))))] (fun x h0 h1 => by have h := hg x; simp only [zDel]; split <;> (try split) <;> omega) rfl rfl ?_
          subst hQ
          exact zj_return C hr rfl (by decide) (by decide) dX2_closeGap_29
        · skip
          refine zj_aload_n 16 0 C dX2_closeGap_15 rfl rfl rfl ?_
          refine zj_iload_n 17 2 C dX2_closeGap_16 rfl rfl rfl ?_
          refine zj_aload_n 18 0 C dX2_closeGap_17 rfl rfl rfl ?_
          refine zj_iload_n 19 2 C dX2_closeGap_18 rfl rfl rfl ?_
          refine zj_iconst 20 C dX2_closeGap_19 rfl ?_
          refine zj_iadd 21 C dX2_closeGap_20 rfl ?_
          refine zj_iald 22 0 C (by omega) (by omega) rfl rfl dX2_closeGap_21 rfl ?_
          refine zj_iast 23 0 [(a1, .inl (cI, 24, .inl (zA (zU g i (g (i + 1))))))] C (by omega) (by omega) rfl rfl rfl dX2_closeGap_22 rfl ?_
          refine zj_iinc 26 2 [(2, .int (zI (i + 1))), (0, .ref a1), (1, .int (zI p1))] C dX2_closeGap_23 rfl rfl (by decide) rfl ?_
          refine zj_goto 7 C dX2_closeGap_26 (by decide) ?_
          refine zj_lv [1, 2, 0] [(0, .ref a1), (1, .int (zI p1)), (2, .int (zI (i + 1)))] rfl ?_
          exact ih (i + 1) (zU g i (g (i + 1))) (by omega) (by intro x; have h := hg x; have h2 := (hg (i + 1)).2.2 (by omega); simp only [zU]; split <;> (try subst x) <;> refine ⟨fun _ => ?_, fun _ _ => ?_, fun _ => ?_⟩ <;> omega) (by omega)
    refine zj_lv [1, 2, 0] [(0, .ref a1), (1, .int (zI p1)), (2, .int (zI p1))] rfl ?_
    exact hL7 (24) p1 f1 (by omega) (by intro x; exact ⟨fun _ => rfl, fun h1 h2 => absurd h1 (by omega), fun _ => rfl⟩) (by omega)
  · exact absurd h_1 (by omega)

theorem wn_X2_exchangeInRow_RX4 : Cond.initialized RX4 ∈ wsX2_exchangeInRow := by decide +kernel
theorem nm_RX2_52 : Cond.methodLinkNest RX2 52 yX4_read "SplashPages" ∈ zNW := by decide +kernel
theorem wst_X2_exchangeInRow_X4_read : Cond.static yX4_read ∈ wsX2_exchangeInRow := by decide +kernel
theorem wst_X2_exchangeInRow_X4_write : Cond.static yX4_write ∈ wsX2_exchangeInRow := by decide +kernel
abbrev rm_X2_exchangeInRow : Room := { frames := 1, cells := 0, slots := 0, locals := 22 }
set_option maxRecDepth 100000 in
set_option maxHeartbeats 4000000 in
theorem c_X2_exchangeInRow (l : Launch) (D : va_G) (cI cS cJ : ClassId) (a1 : Nat) (f1 : Int → Int) (p1 : Int) (hp1 : 0 ≤ p1 ∧ p1 < 23) : zMv l yX2_exchangeInRow wsX2_exchangeInRow rm_X2_exchangeInRow D (zTy cI cS cJ) [.ref a1, .int (zI p1)] [(a1, .inl (cI, 24, .inl (zA f1)))] (fun w => w = [(a1, .inl (cI, 24, .inl (zA (zU (zU f1 p1 (f1 (p1 + 1))) (p1 + 1) (f1 p1)))))]) 0 0 := by
  intro sz
  refine zMet_of (Qc := fun A => va_Qv _ (zB D (zTy cI cS cJ) A) A) RX2 [(0, .ref a1), (1, .int (zI p1))] rfl (by decide +kernel) rfl (Nat.le_of_ble_eq_true rfl) rfl ?_ sz
  intro p e s m args below meth c A Q hQ C hr hini
  refine zj_aload_n 1 0 C dX2_exchangeInRow_0 rfl rfl rfl ?_
  refine zj_iload_n 2 1 C dX2_exchangeInRow_1 rfl rfl rfl ?_
  refine zj_ci 5 [0] [] C (wr := []) (zr_SN [0] C (As := [.ref a1, .int (zI p1)]) (rest := []) (c_X4_read l D cI cS cJ a1 24 f1 p1 (by omega) (by omega)) (⟨va_cnB 2 C.1.2.2.2.2 gX2_exchangeInRow_X4_read_n52 rfl rfl rfl (C.2.2.2.2.1 _ nm_RX2_52) (C.1.2.2.2.2 _ wn_X2_exchangeInRow_RX4) (by decide +kernel) ⟨Nat.le_of_ble_eq_true rfl, Nat.le_of_ble_eq_true rfl⟩, C.1.2.2.2.2 _ wst_X2_exchangeInRow_X4_read, trivial⟩) rfl (by decide) rfl rfl (Nat.le_of_ble_eq_true rfl) dX2_exchangeInRow_2 ⟨Nat.le_of_ble_eq_true rfl, Nat.le_of_ble_eq_true rfl⟩) rfl rfl (by decide) (by decide) rfl (fun r_1 w_ hp_2 => ?_)
  obtain ⟨rfl, rfl⟩ := hp_2
  refine zj_ws (ws' := [(a1, .inl (cI, 24, .inl (zA f1)))]) rfl ?_
  refine zj_istore_n 6 [(2, .int (zI (f1 p1))), (0, .ref a1), (1, .int (zI p1))] C dX2_exchangeInRow_5 rfl rfl (by decide) rfl ?_
  refine zj_aload_n 7 1 C dX2_exchangeInRow_6 rfl rfl rfl ?_
  refine zj_iload_n 8 2 C dX2_exchangeInRow_7 rfl rfl rfl ?_
  refine zj_aload_n 9 1 C dX2_exchangeInRow_8 rfl rfl rfl ?_
  refine zj_iload_n 10 2 C dX2_exchangeInRow_9 rfl rfl rfl ?_
  refine zj_iconst 11 C dX2_exchangeInRow_10 rfl ?_
  refine zj_iadd 12 C dX2_exchangeInRow_11 rfl ?_
  refine zj_ci 15 [0] [] C (wr := []) (zr_SN [0] C (As := [.ref a1, .int (zI (p1 + 1))]) (rest := [.int (zI p1), .ref a1]) (c_X4_read l D cI cS cJ a1 24 f1 (p1 + 1) (by omega) (by omega)) (⟨va_cnB 2 C.1.2.2.2.2 gX2_exchangeInRow_X4_read_n52 rfl rfl rfl (C.2.2.2.2.1 _ nm_RX2_52) (C.1.2.2.2.2 _ wn_X2_exchangeInRow_RX4) (by decide +kernel) ⟨Nat.le_of_ble_eq_true rfl, Nat.le_of_ble_eq_true rfl⟩, C.1.2.2.2.2 _ wst_X2_exchangeInRow_X4_read, trivial⟩) rfl (by decide) rfl rfl (Nat.le_of_ble_eq_true rfl) dX2_exchangeInRow_12 ⟨Nat.le_of_ble_eq_true rfl, Nat.le_of_ble_eq_true rfl⟩) rfl rfl (by decide) (by decide) rfl (fun r_3 w_ hp_4 => ?_)
  obtain ⟨rfl, rfl⟩ := hp_4
  refine zj_ws (ws' := [(a1, .inl (cI, 24, .inl (zA f1)))]) rfl ?_
  refine zj_cv 18 [0] [] C (wr := []) (zr_SN [0] C (As := [.ref a1, .int (zI p1), .int (zI (f1 (p1 + 1)))]) (rest := []) (c_X4_write l D cI cS cJ a1 24 f1 p1 (f1 (p1 + 1)) (by omega) (by omega)) (⟨va_cnB 3 C.1.2.2.2.2 gX2_exchangeInRow_X4_write_n49 rfl rfl rfl (C.2.2.2.2.1 _ nm_RX2_49) (C.1.2.2.2.2 _ wn_X2_exchangeInRow_RX4) (by decide +kernel) ⟨Nat.le_of_ble_eq_true rfl, Nat.le_of_ble_eq_true rfl⟩, C.1.2.2.2.2 _ wst_X2_exchangeInRow_X4_write, trivial⟩) rfl (by decide) rfl rfl (Nat.le_of_ble_eq_true rfl) dX2_exchangeInRow_15 ⟨Nat.le_of_ble_eq_true rfl, Nat.le_of_ble_eq_true rfl⟩) rfl rfl (by decide) (by decide) rfl (fun w_ hp_6 => ?_)
  obtain rfl := hp_6
  refine zj_ws (ws' := [(a1, .inl (cI, 24, .inl (zA (zU f1 p1 (f1 (p1 + 1))))))]) rfl ?_
  refine zj_aload_n 19 1 C dX2_exchangeInRow_18 rfl rfl rfl ?_
  refine zj_iload_n 20 2 C dX2_exchangeInRow_19 rfl rfl rfl ?_
  refine zj_iconst 21 C dX2_exchangeInRow_20 rfl ?_
  refine zj_iadd 22 C dX2_exchangeInRow_21 rfl ?_
  refine zj_iload_n 23 0 C dX2_exchangeInRow_22 rfl rfl rfl ?_
  refine zj_cv 26 [0] [] C (wr := []) (zr_SN [0] C (As := [.ref a1, .int (zI (p1 + 1)), .int (zI (f1 p1))]) (rest := []) (c_X4_write l D cI cS cJ a1 24 (zU f1 p1 (f1 (p1 + 1))) (p1 + 1) (f1 p1) (by omega) (by omega)) (⟨va_cnB 3 C.1.2.2.2.2 gX2_exchangeInRow_X4_write_n49 rfl rfl rfl (C.2.2.2.2.1 _ nm_RX2_49) (C.1.2.2.2.2 _ wn_X2_exchangeInRow_RX4) (by decide +kernel) ⟨Nat.le_of_ble_eq_true rfl, Nat.le_of_ble_eq_true rfl⟩, C.1.2.2.2.2 _ wst_X2_exchangeInRow_X4_write, trivial⟩) rfl (by decide) rfl rfl (Nat.le_of_ble_eq_true rfl) dX2_exchangeInRow_23 ⟨Nat.le_of_ble_eq_true rfl, Nat.le_of_ble_eq_true rfl⟩) rfl rfl (by decide) (by decide) rfl (fun w_ hp_8 => ?_)
  obtain rfl := hp_8
  refine zj_ws (ws' := [(a1, .inl (cI, 24, .inl (zA (zU (zU f1 p1 (f1 (p1 + 1))) (p1 + 1) (f1 p1)))))]) rfl ?_
  subst hQ
  exact zj_return C hr rfl (by decide) (by decide) dX2_exchangeInRow_26

theorem fl_X2_insert_21 : Cond.fieldLink RX2 21 "SplashPages$Story" "size" "I" ∈ wsX2_insert := by decide +kernel
theorem im_X2_insert_2 : ∀ w ∈ u_ws RX2 TX2 5, w ∈ wsX2_insert := by decide +kernel
theorem fl_X2_insert_9 : Cond.fieldLink RX2 9 "SplashPages$Story" "kinds" "[I" ∈ wsX2_insert := by decide +kernel
theorem fl_X2_insert_15 : Cond.fieldLink RX2 15 "SplashPages$Story" "widths" "[I" ∈ wsX2_insert := by decide +kernel
theorem fl_X2_insert_18 : Cond.fieldLink RX2 18 "SplashPages$Story" "beats" "[I" ∈ wsX2_insert := by decide +kernel
abbrev rm_X2_insert : Room := { frames := 2, cells := 0, slots := 0, locals := 45 }
set_option maxRecDepth 100000 in
set_option maxHeartbeats 4000000 in
theorem c_X2_insert (l : Launch) (D : va_G) (cI cS cJ : ClassId) (q1 : Nat) (b1 : Nat) (b2 : Nat) (b3 : Nat) (n1 : Int) (s1 : Int) (k1 : Int → Int) (w1 : Int → Int) (t1 : Int → Int) (p1 : Int) (x1 : Int) (x2 : Int) (x3 : Int) (hn1 : 0 ≤ n1 ∧ n1 < 24) (hp1 : 0 ≤ p1 ∧ p1 < 24) : zMv l yX2_insert wsX2_insert rm_X2_insert D (zTy cI cS cJ) [.ref q1, .int (zI p1), .int (zI x1), .int (zI x2), .int (zI x3)] [(q1, .inr (2, [.ref b1, .ref b2, .ref b3, .int (zI n1), .int (zI s1)])), (b1, .inl (cI, 24, .inl (zA k1))), (b2, .inl (cI, 24, .inl (zA w1))), (b3, .inl (cI, 24, .inl (zA t1)))] (fun w => w = [(q1, .inr (2, [.ref b1, .ref b2, .ref b3, .int (zI (n1 + 1)), .int (zI s1)])), (b1, .inl (cI, 24, .inl (zA (zIns k1 p1 x1)))), (b2, .inl (cI, 24, .inl (zA (zIns w1 p1 x2)))), (b3, .inl (cI, 24, .inl (zA (zIns t1 p1 x3))))]) 0 0 := by
  intro sz
  refine zMet_of (Qc := fun A => va_Qv _ (zB D (zTy cI cS cJ) A) A) RX2 [(0, .ref q1), (1, .int (zI p1)), (2, .int (zI x1)), (3, .int (zI x2)), (4, .int (zI x3))] rfl (by decide +kernel) rfl (Nat.le_of_ble_eq_true rfl) rfl ?_ sz
  intro p e s m args below meth c A Q hQ C hr hini
  refine zj_aload_n 1 0 C dX2_insert_0 rfl rfl rfl ?_
  refine zj_get 4 0 3 C (T := TX2) im_X2_insert_2 fl_X2_insert_21 rfl rfl (by decide) rfl rfl dX2_insert_1 rfl ?_
  refine zj_bipush 6 C dX2_insert_4 rfl rfl ?_
  refine zj_icmp_lt 9 10 C (by omega) (by omega) dX2_insert_6 rfl (by decide) (fun h_1 => ?_) (fun h_1 => ?_)
  · skip
    refine zj_aload_n 11 0 C dX2_insert_10 rfl rfl rfl ?_
    refine zj_get 14 0 0 C (T := TX2) im_X2_insert_2 fl_X2_insert_9 rfl rfl (by decide) rfl rfl dX2_insert_11 rfl ?_
    refine zj_iload_n 15 1 C dX2_insert_14 rfl rfl rfl ?_
    refine zj_iload_n 16 2 C dX2_insert_15 rfl rfl rfl ?_
    refine zj_cv 19 [1] [0, 2, 3] C (wr := [(q1, .inr (2, [.ref b1, .ref b2, .ref b3, .int (zI n1), .int (zI s1)])), (b2, .inl (cI, 24, .inl (zA w1))), (b3, .inl (cI, 24, .inl (zA t1)))]) (zr_S [1] C (As := [.ref b1, .int (zI p1), .int (zI x1)]) (rest := []) (c_X2_openGap l D cI cS cJ b1 k1 p1 x1 (by omega)) (va_cwS 3 C.1.2.2.2.2 gX2_insert_X2_openGap rfl rfl rfl (by decide +kernel) ⟨Nat.le_of_ble_eq_true rfl, Nat.le_of_ble_eq_true rfl⟩) rfl (by decide) rfl rfl (Nat.le_of_ble_eq_true rfl) dX2_insert_16 ⟨Nat.le_of_ble_eq_true rfl, Nat.le_of_ble_eq_true rfl⟩) rfl rfl (by decide) (by decide) rfl (fun w_ hp_3 => ?_)
    obtain rfl := hp_3
    refine zj_ws (ws' := [(q1, .inr (2, [.ref b1, .ref b2, .ref b3, .int (zI n1), .int (zI s1)])), (b2, .inl (cI, 24, .inl (zA w1))), (b3, .inl (cI, 24, .inl (zA t1))), (b1, .inl (cI, 24, .inl (zA (zIns k1 p1 x1))))]) rfl ?_
    refine zj_aload_n 20 0 C dX2_insert_19 rfl rfl rfl ?_
    refine zj_get 23 0 1 C (T := TX2) im_X2_insert_2 fl_X2_insert_15 rfl rfl (by decide) rfl rfl dX2_insert_20 rfl ?_
    refine zj_iload_n 24 1 C dX2_insert_23 rfl rfl rfl ?_
    refine zj_iload_n 25 3 C dX2_insert_24 rfl rfl rfl ?_
    refine zj_cv 28 [1] [0, 2, 3] C (wr := [(q1, .inr (2, [.ref b1, .ref b2, .ref b3, .int (zI n1), .int (zI s1)])), (b3, .inl (cI, 24, .inl (zA t1))), (b1, .inl (cI, 24, .inl (zA (zIns k1 p1 x1))))]) (zr_S [1] C (As := [.ref b2, .int (zI p1), .int (zI x2)]) (rest := []) (c_X2_openGap l D cI cS cJ b2 w1 p1 x2 (by omega)) (va_cwS 3 C.1.2.2.2.2 gX2_insert_X2_openGap rfl rfl rfl (by decide +kernel) ⟨Nat.le_of_ble_eq_true rfl, Nat.le_of_ble_eq_true rfl⟩) rfl (by decide) rfl rfl (Nat.le_of_ble_eq_true rfl) dX2_insert_25 ⟨Nat.le_of_ble_eq_true rfl, Nat.le_of_ble_eq_true rfl⟩) rfl rfl (by decide) (by decide) rfl (fun w_ hp_5 => ?_)
    obtain rfl := hp_5
    refine zj_ws (ws' := [(q1, .inr (2, [.ref b1, .ref b2, .ref b3, .int (zI n1), .int (zI s1)])), (b3, .inl (cI, 24, .inl (zA t1))), (b1, .inl (cI, 24, .inl (zA (zIns k1 p1 x1)))), (b2, .inl (cI, 24, .inl (zA (zIns w1 p1 x2))))]) rfl ?_
    refine zj_aload_n 29 0 C dX2_insert_28 rfl rfl rfl ?_
    refine zj_get 32 0 2 C (T := TX2) im_X2_insert_2 fl_X2_insert_18 rfl rfl (by decide) rfl rfl dX2_insert_29 rfl ?_
    refine zj_iload_n 33 1 C dX2_insert_32 rfl rfl rfl ?_
    refine zj_iload 35 4 C dX2_insert_33 rfl rfl ?_
    refine zj_cv 38 [1] [0, 2, 3] C (wr := [(q1, .inr (2, [.ref b1, .ref b2, .ref b3, .int (zI n1), .int (zI s1)])), (b1, .inl (cI, 24, .inl (zA (zIns k1 p1 x1)))), (b2, .inl (cI, 24, .inl (zA (zIns w1 p1 x2))))]) (zr_S [1] C (As := [.ref b3, .int (zI p1), .int (zI x3)]) (rest := []) (c_X2_openGap l D cI cS cJ b3 t1 p1 x3 (by omega)) (va_cwS 3 C.1.2.2.2.2 gX2_insert_X2_openGap rfl rfl rfl (by decide +kernel) ⟨Nat.le_of_ble_eq_true rfl, Nat.le_of_ble_eq_true rfl⟩) rfl (by decide) rfl rfl (Nat.le_of_ble_eq_true rfl) dX2_insert_35 ⟨Nat.le_of_ble_eq_true rfl, Nat.le_of_ble_eq_true rfl⟩) rfl rfl (by decide) (by decide) rfl (fun w_ hp_7 => ?_)
    obtain rfl := hp_7
    refine zj_ws (ws' := [(q1, .inr (2, [.ref b1, .ref b2, .ref b3, .int (zI n1), .int (zI s1)])), (b1, .inl (cI, 24, .inl (zA (zIns k1 p1 x1)))), (b2, .inl (cI, 24, .inl (zA (zIns w1 p1 x2)))), (b3, .inl (cI, 24, .inl (zA (zIns t1 p1 x3))))]) rfl ?_
    refine zj_aload_n 39 0 C dX2_insert_38 rfl rfl rfl ?_
    refine zj_dup 40 C dX2_insert_39 rfl rfl ?_
    refine zj_get 43 0 3 C (T := TX2) im_X2_insert_2 fl_X2_insert_21 rfl rfl (by decide) rfl rfl dX2_insert_40 rfl ?_
    refine zj_iconst 44 C dX2_insert_43 rfl ?_
    refine zj_iadd 45 C dX2_insert_44 rfl ?_
    refine zj_put 48 0 3 [(q1, .inr (2, [.ref b1, .ref b2, .ref b3, .int (zI (n1 + 1)), .int (zI s1)])), (b1, .inl (cI, 24, .inl (zA (zIns k1 p1 x1)))), (b2, .inl (cI, 24, .inl (zA (zIns w1 p1 x2)))), (b3, .inl (cI, 24, .inl (zA (zIns t1 p1 x3))))] C (T := TX2) tyX2 tyX2_ok nmX2 im_X2_insert_2 fl_X2_insert_21 rfl rfl (by decide) rfl rfl rfl rfl rfl (Nat.le_of_ble_eq_true rfl) rfl dX2_insert_45 rfl ?_
    subst hQ
    exact zj_return C hr rfl (by decide) (by decide) dX2_insert_48
  · exact absurd h_1 (by omega)

theorem fl_X2_remove_9 : Cond.fieldLink RX2 9 "SplashPages$Story" "kinds" "[I" ∈ wsX2_remove := by decide +kernel
theorem im_X2_remove_2 : ∀ w ∈ u_ws RX2 TX2 5, w ∈ wsX2_remove := by decide +kernel
theorem fl_X2_remove_15 : Cond.fieldLink RX2 15 "SplashPages$Story" "widths" "[I" ∈ wsX2_remove := by decide +kernel
theorem fl_X2_remove_18 : Cond.fieldLink RX2 18 "SplashPages$Story" "beats" "[I" ∈ wsX2_remove := by decide +kernel
theorem fl_X2_remove_21 : Cond.fieldLink RX2 21 "SplashPages$Story" "size" "I" ∈ wsX2_remove := by decide +kernel
abbrev rm_X2_remove : Room := { frames := 1, cells := 0, slots := 0, locals := 22 }
set_option maxRecDepth 100000 in
set_option maxHeartbeats 4000000 in
theorem c_X2_remove (l : Launch) (D : va_G) (cI cS cJ : ClassId) (q1 : Nat) (b1 : Nat) (b2 : Nat) (b3 : Nat) (n1 : Int) (s1 : Int) (k1 : Int → Int) (w1 : Int → Int) (t1 : Int → Int) (p1 : Int) (hn1 : 0 ≤ n1 ∧ n1 ≤ 24) (hp1 : 0 ≤ p1 ∧ p1 < n1) : zMv l yX2_remove wsX2_remove rm_X2_remove D (zTy cI cS cJ) [.ref q1, .int (zI p1)] [(q1, .inr (2, [.ref b1, .ref b2, .ref b3, .int (zI n1), .int (zI s1)])), (b1, .inl (cI, 24, .inl (zA k1))), (b2, .inl (cI, 24, .inl (zA w1))), (b3, .inl (cI, 24, .inl (zA t1)))] (fun w => w = [(q1, .inr (2, [.ref b1, .ref b2, .ref b3, .int (zI (n1 - 1)), .int (zI s1)])), (b1, .inl (cI, 24, .inl (zA (zDel k1 p1)))), (b2, .inl (cI, 24, .inl (zA (zDel w1 p1)))), (b3, .inl (cI, 24, .inl (zA (zDel t1 p1))))]) 0 0 := by
  intro sz
  refine zMet_of (Qc := fun A => va_Qv _ (zB D (zTy cI cS cJ) A) A) RX2 [(0, .ref q1), (1, .int (zI p1))] rfl (by decide +kernel) rfl (Nat.le_of_ble_eq_true rfl) rfl ?_ sz
  intro p e s m args below meth c A Q hQ C hr hini
  refine zj_aload_n 1 0 C dX2_remove_0 rfl rfl rfl ?_
  refine zj_iload_n 2 1 C dX2_remove_1 rfl rfl rfl ?_
  refine zj_ci 5 [0] [1, 2, 3] C (wr := [(b1, .inl (cI, 24, .inl (zA k1))), (b2, .inl (cI, 24, .inl (zA w1))), (b3, .inl (cI, 24, .inl (zA t1)))]) (zr_V [0] C (As := [.int (zI p1)]) (rest := []) (c_X2_has l D cI cS cJ q1 b1 b2 b3 n1 s1 p1 (by omega) (by omega)) (cwV 1 C.1.2.2.2.2 gX2_remove_X2_has rfl rfl rfl (by decide +kernel) ⟨Nat.le_of_ble_eq_true rfl, Nat.le_of_ble_eq_true rfl⟩) rfl (by decide) 0 rfl rfl rfl rfl (Nat.le_of_ble_eq_true rfl) dX2_remove_2 ⟨Nat.le_of_ble_eq_true rfl, Nat.le_of_ble_eq_true rfl⟩) rfl rfl (by decide) (by decide) rfl (fun r_1 w_ hp_2 => ?_)
  obtain ⟨r1_3, f_4, rfl, rfl⟩ := hp_2
  refine zj_ws (ws' := [(b1, .inl (cI, 24, .inl (zA k1))), (b2, .inl (cI, 24, .inl (zA w1))), (b3, .inl (cI, 24, .inl (zA t1))), (q1, .inr (2, [.ref b1, .ref b2, .ref b3, .int (zI n1), .int (zI s1)]))]) rfl ?_
  refine zj_if_ne 8 9 C (by omega) dX2_remove_5 rfl (by decide) (fun h_5 => ?_) (fun h_5 => ?_)
  · skip
    refine zj_aload_n 10 0 C dX2_remove_9 rfl rfl rfl ?_
    refine zj_get 13 3 0 C (T := TX2) im_X2_remove_2 fl_X2_remove_9 rfl rfl (by decide) rfl rfl dX2_remove_10 rfl ?_
    refine zj_iload_n 14 1 C dX2_remove_13 rfl rfl rfl ?_
    refine zj_cv 17 [0] [1, 2, 3] C (wr := [(b2, .inl (cI, 24, .inl (zA w1))), (b3, .inl (cI, 24, .inl (zA t1))), (q1, .inr (2, [.ref b1, .ref b2, .ref b3, .int (zI n1), .int (zI s1)]))]) (zr_S [0] C (As := [.ref b1, .int (zI p1)]) (rest := []) (c_X2_closeGap l D cI cS cJ b1 k1 p1 (by omega)) (va_cwS 2 C.1.2.2.2.2 gX2_remove_X2_closeGap rfl rfl rfl (by decide +kernel) ⟨Nat.le_of_ble_eq_true rfl, Nat.le_of_ble_eq_true rfl⟩) rfl (by decide) rfl rfl (Nat.le_of_ble_eq_true rfl) dX2_remove_14 ⟨Nat.le_of_ble_eq_true rfl, Nat.le_of_ble_eq_true rfl⟩) rfl rfl (by decide) (by decide) rfl (fun w_ hp_7 => ?_)
    obtain rfl := hp_7
    refine zj_ws (ws' := [(b2, .inl (cI, 24, .inl (zA w1))), (b3, .inl (cI, 24, .inl (zA t1))), (q1, .inr (2, [.ref b1, .ref b2, .ref b3, .int (zI n1), .int (zI s1)])), (b1, .inl (cI, 24, .inl (zA (zDel k1 p1))))]) rfl ?_
    refine zj_aload_n 18 0 C dX2_remove_17 rfl rfl rfl ?_
    refine zj_get 21 2 1 C (T := TX2) im_X2_remove_2 fl_X2_remove_15 rfl rfl (by decide) rfl rfl dX2_remove_18 rfl ?_
    refine zj_iload_n 22 1 C dX2_remove_21 rfl rfl rfl ?_
    refine zj_cv 25 [0] [1, 2, 3] C (wr := [(b3, .inl (cI, 24, .inl (zA t1))), (q1, .inr (2, [.ref b1, .ref b2, .ref b3, .int (zI n1), .int (zI s1)])), (b1, .inl (cI, 24, .inl (zA (zDel k1 p1))))]) (zr_S [0] C (As := [.ref b2, .int (zI p1)]) (rest := []) (c_X2_closeGap l D cI cS cJ b2 w1 p1 (by omega)) (va_cwS 2 C.1.2.2.2.2 gX2_remove_X2_closeGap rfl rfl rfl (by decide +kernel) ⟨Nat.le_of_ble_eq_true rfl, Nat.le_of_ble_eq_true rfl⟩) rfl (by decide) rfl rfl (Nat.le_of_ble_eq_true rfl) dX2_remove_22 ⟨Nat.le_of_ble_eq_true rfl, Nat.le_of_ble_eq_true rfl⟩) rfl rfl (by decide) (by decide) rfl (fun w_ hp_9 => ?_)
    obtain rfl := hp_9
    refine zj_ws (ws' := [(b3, .inl (cI, 24, .inl (zA t1))), (q1, .inr (2, [.ref b1, .ref b2, .ref b3, .int (zI n1), .int (zI s1)])), (b1, .inl (cI, 24, .inl (zA (zDel k1 p1)))), (b2, .inl (cI, 24, .inl (zA (zDel w1 p1))))]) rfl ?_
    refine zj_aload_n 26 0 C dX2_remove_25 rfl rfl rfl ?_
    refine zj_get 29 1 2 C (T := TX2) im_X2_remove_2 fl_X2_remove_18 rfl rfl (by decide) rfl rfl dX2_remove_26 rfl ?_
    refine zj_iload_n 30 1 C dX2_remove_29 rfl rfl rfl ?_
    refine zj_cv 33 [0] [1, 2, 3] C (wr := [(q1, .inr (2, [.ref b1, .ref b2, .ref b3, .int (zI n1), .int (zI s1)])), (b1, .inl (cI, 24, .inl (zA (zDel k1 p1)))), (b2, .inl (cI, 24, .inl (zA (zDel w1 p1))))]) (zr_S [0] C (As := [.ref b3, .int (zI p1)]) (rest := []) (c_X2_closeGap l D cI cS cJ b3 t1 p1 (by omega)) (va_cwS 2 C.1.2.2.2.2 gX2_remove_X2_closeGap rfl rfl rfl (by decide +kernel) ⟨Nat.le_of_ble_eq_true rfl, Nat.le_of_ble_eq_true rfl⟩) rfl (by decide) rfl rfl (Nat.le_of_ble_eq_true rfl) dX2_remove_30 ⟨Nat.le_of_ble_eq_true rfl, Nat.le_of_ble_eq_true rfl⟩) rfl rfl (by decide) (by decide) rfl (fun w_ hp_11 => ?_)
    obtain rfl := hp_11
    refine zj_ws (ws' := [(q1, .inr (2, [.ref b1, .ref b2, .ref b3, .int (zI n1), .int (zI s1)])), (b1, .inl (cI, 24, .inl (zA (zDel k1 p1)))), (b2, .inl (cI, 24, .inl (zA (zDel w1 p1)))), (b3, .inl (cI, 24, .inl (zA (zDel t1 p1))))]) rfl ?_
    refine zj_aload_n 34 0 C dX2_remove_33 rfl rfl rfl ?_
    refine zj_dup 35 C dX2_remove_34 rfl rfl ?_
    refine zj_get 38 0 3 C (T := TX2) im_X2_remove_2 fl_X2_remove_21 rfl rfl (by decide) rfl rfl dX2_remove_35 rfl ?_
    refine zj_iconst 39 C dX2_remove_38 rfl ?_
    refine zj_isub 40 C dX2_remove_39 rfl ?_
    refine zj_put 43 0 3 [(q1, .inr (2, [.ref b1, .ref b2, .ref b3, .int (zI (n1 - 1)), .int (zI s1)])), (b1, .inl (cI, 24, .inl (zA (zDel k1 p1)))), (b2, .inl (cI, 24, .inl (zA (zDel w1 p1)))), (b3, .inl (cI, 24, .inl (zA (zDel t1 p1))))] C (T := TX2) tyX2 tyX2_ok nmX2 im_X2_remove_2 fl_X2_remove_21 rfl rfl (by decide) rfl rfl rfl rfl rfl (Nat.le_of_ble_eq_true rfl) rfl dX2_remove_40 rfl ?_
    subst hQ
    exact zj_return C hr rfl (by decide) (by decide) dX2_remove_43
  · exact absurd h_5 (by omega)

theorem fl_X2_exchangeWithNext_9 : Cond.fieldLink RX2 9 "SplashPages$Story" "kinds" "[I" ∈ wsX2_exchangeWithNext := by decide +kernel
theorem im_X2_exchangeWithNext_2 : ∀ w ∈ u_ws RX2 TX2 5, w ∈ wsX2_exchangeWithNext := by decide +kernel
theorem fl_X2_exchangeWithNext_15 : Cond.fieldLink RX2 15 "SplashPages$Story" "widths" "[I" ∈ wsX2_exchangeWithNext := by decide +kernel
theorem fl_X2_exchangeWithNext_18 : Cond.fieldLink RX2 18 "SplashPages$Story" "beats" "[I" ∈ wsX2_exchangeWithNext := by decide +kernel
abbrev rm_X2_exchangeWithNext : Room := { frames := 2, cells := 0, slots := 0, locals := 44 }
set_option maxRecDepth 100000 in
set_option maxHeartbeats 4000000 in
theorem c_X2_exchangeWithNext (l : Launch) (D : va_G) (cI cS cJ : ClassId) (q1 : Nat) (b1 : Nat) (b2 : Nat) (b3 : Nat) (n1 : Int) (s1 : Int) (k1 : Int → Int) (w1 : Int → Int) (t1 : Int → Int) (p1 : Int) (hp1 : 0 ≤ p1 ∧ p1 < 23) : zMv l yX2_exchangeWithNext wsX2_exchangeWithNext rm_X2_exchangeWithNext D (zTy cI cS cJ) [.ref q1, .int (zI p1)] [(q1, .inr (2, [.ref b1, .ref b2, .ref b3, .int (zI n1), .int (zI s1)])), (b1, .inl (cI, 24, .inl (zA k1))), (b2, .inl (cI, 24, .inl (zA w1))), (b3, .inl (cI, 24, .inl (zA t1)))] (fun w => w = [(q1, .inr (2, [.ref b1, .ref b2, .ref b3, .int (zI n1), .int (zI s1)])), (b1, .inl (cI, 24, .inl (zA (zU (zU k1 p1 (k1 (p1 + 1))) (p1 + 1) (k1 p1))))), (b2, .inl (cI, 24, .inl (zA (zU (zU w1 p1 (w1 (p1 + 1))) (p1 + 1) (w1 p1))))), (b3, .inl (cI, 24, .inl (zA (zU (zU t1 p1 (t1 (p1 + 1))) (p1 + 1) (t1 p1)))))]) 0 0 := by
  intro sz
  refine zMet_of (Qc := fun A => va_Qv _ (zB D (zTy cI cS cJ) A) A) RX2 [(0, .ref q1), (1, .int (zI p1))] rfl (by decide +kernel) rfl (Nat.le_of_ble_eq_true rfl) rfl ?_ sz
  intro p e s m args below meth c A Q hQ C hr hini
  refine zj_aload_n 1 0 C dX2_exchangeWithNext_0 rfl rfl rfl ?_
  refine zj_get 4 0 0 C (T := TX2) im_X2_exchangeWithNext_2 fl_X2_exchangeWithNext_9 rfl rfl (by decide) rfl rfl dX2_exchangeWithNext_1 rfl ?_
  refine zj_iload_n 5 1 C dX2_exchangeWithNext_4 rfl rfl rfl ?_
  refine zj_cv 8 [1] [0, 2, 3] C (wr := [(q1, .inr (2, [.ref b1, .ref b2, .ref b3, .int (zI n1), .int (zI s1)])), (b2, .inl (cI, 24, .inl (zA w1))), (b3, .inl (cI, 24, .inl (zA t1)))]) (zr_S [1] C (As := [.ref b1, .int (zI p1)]) (rest := []) (c_X2_exchangeInRow l D cI cS cJ b1 k1 p1 (by omega)) (va_cwS 2 C.1.2.2.2.2 gX2_exchangeWithNext_X2_exchangeInRow rfl rfl rfl (by decide +kernel) ⟨Nat.le_of_ble_eq_true rfl, Nat.le_of_ble_eq_true rfl⟩) rfl (by decide) rfl rfl (Nat.le_of_ble_eq_true rfl) dX2_exchangeWithNext_5 ⟨Nat.le_of_ble_eq_true rfl, Nat.le_of_ble_eq_true rfl⟩) rfl rfl (by decide) (by decide) rfl (fun w_ hp_2 => ?_)
  obtain rfl := hp_2
  refine zj_ws (ws' := [(q1, .inr (2, [.ref b1, .ref b2, .ref b3, .int (zI n1), .int (zI s1)])), (b2, .inl (cI, 24, .inl (zA w1))), (b3, .inl (cI, 24, .inl (zA t1))), (b1, .inl (cI, 24, .inl (zA (zU (zU k1 p1 (k1 (p1 + 1))) (p1 + 1) (k1 p1)))))]) rfl ?_
  refine zj_aload_n 9 0 C dX2_exchangeWithNext_8 rfl rfl rfl ?_
  refine zj_get 12 0 1 C (T := TX2) im_X2_exchangeWithNext_2 fl_X2_exchangeWithNext_15 rfl rfl (by decide) rfl rfl dX2_exchangeWithNext_9 rfl ?_
  refine zj_iload_n 13 1 C dX2_exchangeWithNext_12 rfl rfl rfl ?_
  refine zj_cv 16 [1] [0, 2, 3] C (wr := [(q1, .inr (2, [.ref b1, .ref b2, .ref b3, .int (zI n1), .int (zI s1)])), (b3, .inl (cI, 24, .inl (zA t1))), (b1, .inl (cI, 24, .inl (zA (zU (zU k1 p1 (k1 (p1 + 1))) (p1 + 1) (k1 p1)))))]) (zr_S [1] C (As := [.ref b2, .int (zI p1)]) (rest := []) (c_X2_exchangeInRow l D cI cS cJ b2 w1 p1 (by omega)) (va_cwS 2 C.1.2.2.2.2 gX2_exchangeWithNext_X2_exchangeInRow rfl rfl rfl (by decide +kernel) ⟨Nat.le_of_ble_eq_true rfl, Nat.le_of_ble_eq_true rfl⟩) rfl (by decide) rfl rfl (Nat.le_of_ble_eq_true rfl) dX2_exchangeWithNext_13 ⟨Nat.le_of_ble_eq_true rfl, Nat.le_of_ble_eq_true rfl⟩) rfl rfl (by decide) (by decide) rfl (fun w_ hp_4 => ?_)
  obtain rfl := hp_4
  refine zj_ws (ws' := [(q1, .inr (2, [.ref b1, .ref b2, .ref b3, .int (zI n1), .int (zI s1)])), (b3, .inl (cI, 24, .inl (zA t1))), (b1, .inl (cI, 24, .inl (zA (zU (zU k1 p1 (k1 (p1 + 1))) (p1 + 1) (k1 p1))))), (b2, .inl (cI, 24, .inl (zA (zU (zU w1 p1 (w1 (p1 + 1))) (p1 + 1) (w1 p1)))))]) rfl ?_
  refine zj_aload_n 17 0 C dX2_exchangeWithNext_16 rfl rfl rfl ?_
  refine zj_get 20 0 2 C (T := TX2) im_X2_exchangeWithNext_2 fl_X2_exchangeWithNext_18 rfl rfl (by decide) rfl rfl dX2_exchangeWithNext_17 rfl ?_
  refine zj_iload_n 21 1 C dX2_exchangeWithNext_20 rfl rfl rfl ?_
  refine zj_cv 24 [1] [0, 2, 3] C (wr := [(q1, .inr (2, [.ref b1, .ref b2, .ref b3, .int (zI n1), .int (zI s1)])), (b1, .inl (cI, 24, .inl (zA (zU (zU k1 p1 (k1 (p1 + 1))) (p1 + 1) (k1 p1))))), (b2, .inl (cI, 24, .inl (zA (zU (zU w1 p1 (w1 (p1 + 1))) (p1 + 1) (w1 p1)))))]) (zr_S [1] C (As := [.ref b3, .int (zI p1)]) (rest := []) (c_X2_exchangeInRow l D cI cS cJ b3 t1 p1 (by omega)) (va_cwS 2 C.1.2.2.2.2 gX2_exchangeWithNext_X2_exchangeInRow rfl rfl rfl (by decide +kernel) ⟨Nat.le_of_ble_eq_true rfl, Nat.le_of_ble_eq_true rfl⟩) rfl (by decide) rfl rfl (Nat.le_of_ble_eq_true rfl) dX2_exchangeWithNext_21 ⟨Nat.le_of_ble_eq_true rfl, Nat.le_of_ble_eq_true rfl⟩) rfl rfl (by decide) (by decide) rfl (fun w_ hp_6 => ?_)
  obtain rfl := hp_6
  refine zj_ws (ws' := [(q1, .inr (2, [.ref b1, .ref b2, .ref b3, .int (zI n1), .int (zI s1)])), (b1, .inl (cI, 24, .inl (zA (zU (zU k1 p1 (k1 (p1 + 1))) (p1 + 1) (k1 p1))))), (b2, .inl (cI, 24, .inl (zA (zU (zU w1 p1 (w1 (p1 + 1))) (p1 + 1) (w1 p1))))), (b3, .inl (cI, 24, .inl (zA (zU (zU t1 p1 (t1 (p1 + 1))) (p1 + 1) (t1 p1)))))]) rfl ?_
  subst hQ
  exact zj_return C hr rfl (by decide) (by decide) dX2_exchangeWithNext_24

theorem fl_X2_copyFrom_9 : Cond.fieldLink RX2 9 "SplashPages$Story" "kinds" "[I" ∈ wsX2_copyFrom := by decide +kernel
theorem im_X2_copyFrom_2 : ∀ w ∈ u_ws RX2 TX2 5, w ∈ wsX2_copyFrom := by decide +kernel
theorem wl_X2_copyFrom_28 : Cond.methodLink RX2 28 arraycopyName ∈ wsX2_copyFrom := by decide +kernel
theorem wcn_X2_copyFrom : Cond.native arraycopyName ∈ wsX2_copyFrom := by decide +kernel
theorem wcs_X2_copyFrom : Cond.static arraycopyName ∈ wsX2_copyFrom := by decide +kernel
theorem wci_X2_copyFrom : Cond.initialized "java/lang/System" ∈ wsX2_copyFrom := by decide +kernel
theorem fl_X2_copyFrom_15 : Cond.fieldLink RX2 15 "SplashPages$Story" "widths" "[I" ∈ wsX2_copyFrom := by decide +kernel
theorem fl_X2_copyFrom_18 : Cond.fieldLink RX2 18 "SplashPages$Story" "beats" "[I" ∈ wsX2_copyFrom := by decide +kernel
theorem fl_X2_copyFrom_21 : Cond.fieldLink RX2 21 "SplashPages$Story" "size" "I" ∈ wsX2_copyFrom := by decide +kernel
theorem fl_X2_copyFrom_25 : Cond.fieldLink RX2 25 "SplashPages$Story" "setting" "I" ∈ wsX2_copyFrom := by decide +kernel
abbrev rm_X2_copyFrom : Room := { frames := 1, cells := 0, slots := 0, locals := 60 }
set_option maxRecDepth 100000 in
set_option maxHeartbeats 4000000 in
theorem c_X2_copyFrom (l : Launch) (D : va_G) (cI cS cJ : ClassId) (q1 : Nat) (b1 : Nat) (b2 : Nat) (b3 : Nat) (n1 : Int) (s1 : Int) (k1 : Int → Int) (w1 : Int → Int) (t1 : Int → Int) (q2 : Nat) (d1 : Nat) (d2 : Nat) (d3 : Nat) (n2 : Int) (s2 : Int) (k2 : Int → Int) (w2 : Int → Int) (t2 : Int → Int) : zMv l yX2_copyFrom wsX2_copyFrom rm_X2_copyFrom D (zTy cI cS cJ) [.ref q1, .ref q2] [(q1, .inr (2, [.ref b1, .ref b2, .ref b3, .int (zI n1), .int (zI s1)])), (b1, .inl (cI, 24, .inl (zA k1))), (b2, .inl (cI, 24, .inl (zA w1))), (b3, .inl (cI, 24, .inl (zA t1))), (q2, .inr (2, [.ref d1, .ref d2, .ref d3, .int (zI n2), .int (zI s2)])), (d1, .inl (cI, 24, .inl (zA k2))), (d2, .inl (cI, 24, .inl (zA w2))), (d3, .inl (cI, 24, .inl (zA t2)))] (fun w => w = [(q1, .inr (2, [.ref b1, .ref b2, .ref b3, .int (zI n2), .int (zI s2)])), (b1, .inl (cI, 24, .inl (zA (zCp k2 k1 24)))), (b2, .inl (cI, 24, .inl (zA (zCp w2 w1 24)))), (b3, .inl (cI, 24, .inl (zA (zCp t2 t1 24)))), (q2, .inr (2, [.ref d1, .ref d2, .ref d3, .int (zI n2), .int (zI s2)])), (d1, .inl (cI, 24, .inl (zA k2))), (d2, .inl (cI, 24, .inl (zA w2))), (d3, .inl (cI, 24, .inl (zA t2)))]) 0 0 := by
  intro sz
  refine zMet_of (Qc := fun A => va_Qv _ (zB D (zTy cI cS cJ) A) A) RX2 [(0, .ref q1), (1, .ref q2)] rfl (by decide +kernel) rfl (Nat.le_of_ble_eq_true rfl) rfl ?_ sz
  intro p e s m args below meth c A Q hQ C hr hini
  refine zj_aload_n 1 1 C dX2_copyFrom_0 rfl rfl rfl ?_
  refine zj_get 4 4 0 C (T := TX2) im_X2_copyFrom_2 fl_X2_copyFrom_9 rfl rfl (by decide) rfl rfl dX2_copyFrom_1 rfl ?_
  refine zj_iconst 5 C dX2_copyFrom_4 rfl ?_
  refine zj_aload_n 6 0 C dX2_copyFrom_5 rfl rfl rfl ?_
  refine zj_get 9 0 0 C (T := TX2) im_X2_copyFrom_2 fl_X2_copyFrom_9 rfl rfl (by decide) rfl rfl dX2_copyFrom_6 rfl ?_
  refine zj_iconst 10 C dX2_copyFrom_9 rfl ?_
  refine zj_bipush 12 C dX2_copyFrom_10 rfl rfl ?_
  refine zj_copy 15 5 1 [(q1, .inr (2, [.ref b1, .ref b2, .ref b3, .int (zI n1), .int (zI s1)])), (b1, .inl (cI, 24, .inl (zA (zCp k2 k1 24)))), (b2, .inl (cI, 24, .inl (zA w1))), (b3, .inl (cI, 24, .inl (zA t1))), (q2, .inr (2, [.ref d1, .ref d2, .ref d3, .int (zI n2), .int (zI s2)])), (d1, .inl (cI, 24, .inl (zA k2))), (d2, .inl (cI, 24, .inl (zA w2))), (d3, .inl (cI, 24, .inl (zA t2)))] C (nn := 24) rfl (by decide) (by decide) (by decide) rfl rfl rfl wl_X2_copyFrom_28 wcn_X2_copyFrom wcs_X2_copyFrom wci_X2_copyFrom (Nat.le_of_ble_eq_true rfl) (Nat.le_of_ble_eq_true rfl) rfl dX2_copyFrom_12 rfl ?_
  refine zj_aload_n 16 1 C dX2_copyFrom_15 rfl rfl rfl ?_
  refine zj_get 19 4 1 C (T := TX2) im_X2_copyFrom_2 fl_X2_copyFrom_15 rfl rfl (by decide) rfl rfl dX2_copyFrom_16 rfl ?_
  refine zj_iconst 20 C dX2_copyFrom_19 rfl ?_
  refine zj_aload_n 21 0 C dX2_copyFrom_20 rfl rfl rfl ?_
  refine zj_get 24 0 1 C (T := TX2) im_X2_copyFrom_2 fl_X2_copyFrom_15 rfl rfl (by decide) rfl rfl dX2_copyFrom_21 rfl ?_
  refine zj_iconst 25 C dX2_copyFrom_24 rfl ?_
  refine zj_bipush 27 C dX2_copyFrom_25 rfl rfl ?_
  refine zj_copy 30 6 2 [(q1, .inr (2, [.ref b1, .ref b2, .ref b3, .int (zI n1), .int (zI s1)])), (b1, .inl (cI, 24, .inl (zA (zCp k2 k1 24)))), (b2, .inl (cI, 24, .inl (zA (zCp w2 w1 24)))), (b3, .inl (cI, 24, .inl (zA t1))), (q2, .inr (2, [.ref d1, .ref d2, .ref d3, .int (zI n2), .int (zI s2)])), (d1, .inl (cI, 24, .inl (zA k2))), (d2, .inl (cI, 24, .inl (zA w2))), (d3, .inl (cI, 24, .inl (zA t2)))] C (nn := 24) rfl (by decide) (by decide) (by decide) rfl rfl rfl wl_X2_copyFrom_28 wcn_X2_copyFrom wcs_X2_copyFrom wci_X2_copyFrom (Nat.le_of_ble_eq_true rfl) (Nat.le_of_ble_eq_true rfl) rfl dX2_copyFrom_27 rfl ?_
  refine zj_aload_n 31 1 C dX2_copyFrom_30 rfl rfl rfl ?_
  refine zj_get 34 4 2 C (T := TX2) im_X2_copyFrom_2 fl_X2_copyFrom_18 rfl rfl (by decide) rfl rfl dX2_copyFrom_31 rfl ?_
  refine zj_iconst 35 C dX2_copyFrom_34 rfl ?_
  refine zj_aload_n 36 0 C dX2_copyFrom_35 rfl rfl rfl ?_
  refine zj_get 39 0 2 C (T := TX2) im_X2_copyFrom_2 fl_X2_copyFrom_18 rfl rfl (by decide) rfl rfl dX2_copyFrom_36 rfl ?_
  refine zj_iconst 40 C dX2_copyFrom_39 rfl ?_
  refine zj_bipush 42 C dX2_copyFrom_40 rfl rfl ?_
  refine zj_copy 45 7 3 [(q1, .inr (2, [.ref b1, .ref b2, .ref b3, .int (zI n1), .int (zI s1)])), (b1, .inl (cI, 24, .inl (zA (zCp k2 k1 24)))), (b2, .inl (cI, 24, .inl (zA (zCp w2 w1 24)))), (b3, .inl (cI, 24, .inl (zA (zCp t2 t1 24)))), (q2, .inr (2, [.ref d1, .ref d2, .ref d3, .int (zI n2), .int (zI s2)])), (d1, .inl (cI, 24, .inl (zA k2))), (d2, .inl (cI, 24, .inl (zA w2))), (d3, .inl (cI, 24, .inl (zA t2)))] C (nn := 24) rfl (by decide) (by decide) (by decide) rfl rfl rfl wl_X2_copyFrom_28 wcn_X2_copyFrom wcs_X2_copyFrom wci_X2_copyFrom (Nat.le_of_ble_eq_true rfl) (Nat.le_of_ble_eq_true rfl) rfl dX2_copyFrom_42 rfl ?_
  refine zj_aload_n 46 0 C dX2_copyFrom_45 rfl rfl rfl ?_
  refine zj_aload_n 47 1 C dX2_copyFrom_46 rfl rfl rfl ?_
  refine zj_get 50 4 3 C (T := TX2) im_X2_copyFrom_2 fl_X2_copyFrom_21 rfl rfl (by decide) rfl rfl dX2_copyFrom_47 rfl ?_
  refine zj_put 53 0 3 [(q1, .inr (2, [.ref b1, .ref b2, .ref b3, .int (zI n2), .int (zI s1)])), (b1, .inl (cI, 24, .inl (zA (zCp k2 k1 24)))), (b2, .inl (cI, 24, .inl (zA (zCp w2 w1 24)))), (b3, .inl (cI, 24, .inl (zA (zCp t2 t1 24)))), (q2, .inr (2, [.ref d1, .ref d2, .ref d3, .int (zI n2), .int (zI s2)])), (d1, .inl (cI, 24, .inl (zA k2))), (d2, .inl (cI, 24, .inl (zA w2))), (d3, .inl (cI, 24, .inl (zA t2)))] C (T := TX2) tyX2 tyX2_ok nmX2 im_X2_copyFrom_2 fl_X2_copyFrom_21 rfl rfl (by decide) rfl rfl rfl rfl rfl (Nat.le_of_ble_eq_true rfl) rfl dX2_copyFrom_50 rfl ?_
  refine zj_aload_n 54 0 C dX2_copyFrom_53 rfl rfl rfl ?_
  refine zj_aload_n 55 1 C dX2_copyFrom_54 rfl rfl rfl ?_
  refine zj_get 58 4 4 C (T := TX2) im_X2_copyFrom_2 fl_X2_copyFrom_25 rfl rfl (by decide) rfl rfl dX2_copyFrom_55 rfl ?_
  refine zj_put 61 0 4 [(q1, .inr (2, [.ref b1, .ref b2, .ref b3, .int (zI n2), .int (zI s2)])), (b1, .inl (cI, 24, .inl (zA (zCp k2 k1 24)))), (b2, .inl (cI, 24, .inl (zA (zCp w2 w1 24)))), (b3, .inl (cI, 24, .inl (zA (zCp t2 t1 24)))), (q2, .inr (2, [.ref d1, .ref d2, .ref d3, .int (zI n2), .int (zI s2)])), (d1, .inl (cI, 24, .inl (zA k2))), (d2, .inl (cI, 24, .inl (zA w2))), (d3, .inl (cI, 24, .inl (zA t2)))] C (T := TX2) tyX2 tyX2_ok nmX2 im_X2_copyFrom_2 fl_X2_copyFrom_25 rfl rfl (by decide) rfl rfl rfl rfl rfl (Nat.le_of_ble_eq_true rfl) rfl dX2_copyFrom_58 rfl ?_
  subst hQ
  exact zj_return C hr rfl (by decide) (by decide) dX2_copyFrom_61

theorem wl_X2_init_3 : Cond.methodLink RX2 3 objectInit ∈ wsX2_init := by decide +kernel
theorem wi_X2_init_obj : Cond.instanceMethod objectInit ∈ wsX2_init := by decide +kernel
theorem wo_X2_init_obj : Cond.code objectInit ⟨#[0xb1]⟩ 1 none ∈ wsX2_init := by decide +kernel
theorem wa_X2_init_i : Cond.arrayClass .int ∈ wsX2_init := by decide +kernel
theorem fl_X2_init_9 : Cond.fieldLink RX2 9 "SplashPages$Story" "kinds" "[I" ∈ wsX2_init := by decide +kernel
theorem im_X2_init_2 : ∀ w ∈ u_ws RX2 TX2 5, w ∈ wsX2_init := by decide +kernel
theorem fl_X2_init_15 : Cond.fieldLink RX2 15 "SplashPages$Story" "widths" "[I" ∈ wsX2_init := by decide +kernel
theorem fl_X2_init_18 : Cond.fieldLink RX2 18 "SplashPages$Story" "beats" "[I" ∈ wsX2_init := by decide +kernel
theorem fl_X2_init_21 : Cond.fieldLink RX2 21 "SplashPages$Story" "size" "I" ∈ wsX2_init := by decide +kernel
theorem fl_X2_init_25 : Cond.fieldLink RX2 25 "SplashPages$Story" "setting" "I" ∈ wsX2_init := by decide +kernel
abbrev rm_X2_init : Room := { frames := 1, cells := 3, slots := 72, locals := 12 }
set_option maxRecDepth 100000 in
set_option maxHeartbeats 4000000 in
theorem c_X2_init (l : Launch) (D : va_G) (cI cS cJ : ClassId) (q1 : Nat) : zMv l yX2_init wsX2_init rm_X2_init D (zTy cI cS cJ) [.ref q1] [(q1, .inr (2, [.null, .null, .null, .int (zI 0), .int (zI 0)]))] (fun w => ∃ (b1 : Nat), ∃ (b2 : Nat), ∃ (b3 : Nat), w = [(q1, .inr (2, [.ref b1, .ref b2, .ref b3, .int (zI 0), .int (zI 30)])), (b1, .inl (cI, 24, .inl (zA (fun _ => 0)))), (b2, .inl (cI, 24, .inl (zA (fun _ => 0)))), (b3, .inl (cI, 24, .inl (zA (fun _ => 0))))]) 3 72 := by
  intro sz
  refine zMet_of (Qc := fun A => va_Qv _ (zB D (zTy cI cS cJ) A) A) RX2 [(0, .ref q1)] rfl (by decide +kernel) rfl (Nat.le_of_ble_eq_true rfl) rfl ?_ sz
  intro p e s m args below meth c A Q hQ C hr hini
  refine zj_aload_n 1 0 C dX2_init_0 rfl rfl rfl ?_
  refine zj_objInit 4 C wl_X2_init_3 wi_X2_init_obj wo_X2_init_obj (Nat.le_of_ble_eq_true rfl) (Nat.le_of_ble_eq_true rfl) dX2_init_1 rfl ?_
  refine zj_aload_n 5 0 C dX2_init_4 rfl rfl rfl ?_
  refine zj_bipush 7 C dX2_init_5 rfl rfl ?_
  refine zj_newi 9 1 24 (fun q7 => [(q1, .inr (2, [.null, .null, .null, .int (zI 0), .int (zI 0)])), (q7, .inl (cI, 24, .inl (zA (fun _ => 0))))]) C (N' := 24) rfl wa_X2_init_i rfl (by decide) rfl rfl ⟨Nat.le_of_ble_eq_true rfl, Nat.le_of_ble_eq_true rfl⟩ (fun _ => rfl) dX2_init_7 rfl (fun q7 => ?_)
  refine zj_putF 12 0 0 [(q1, .inr (2, [.ref q7, .null, .null, .int (zI 0), .int (zI 0)])), (q7, .inl (cI, 24, .inl (zA (fun _ => 0))))] C (T := TX2) tyX2 tyX2_ok nmX2 im_X2_init_2 fl_X2_init_9 rfl rfl (by decide) rfl rfl (hini rfl) rfl rfl rfl rfl (Nat.le_of_ble_eq_true rfl) rfl dX2_init_9 rfl ?_
  refine zj_aload_n 13 0 C dX2_init_12 rfl rfl rfl ?_
  refine zj_bipush 15 C dX2_init_13 rfl rfl ?_
  refine zj_newi 17 2 48 (fun q15 => [(q1, .inr (2, [.ref q7, .null, .null, .int (zI 0), .int (zI 0)])), (q7, .inl (cI, 24, .inl (zA (fun _ => 0)))), (q15, .inl (cI, 24, .inl (zA (fun _ => 0))))]) C (N' := 24) rfl wa_X2_init_i rfl (by decide) rfl rfl ⟨Nat.le_of_ble_eq_true rfl, Nat.le_of_ble_eq_true rfl⟩ (fun _ => rfl) dX2_init_15 rfl (fun q15 => ?_)
  refine zj_putF 20 0 1 [(q1, .inr (2, [.ref q7, .ref q15, .null, .int (zI 0), .int (zI 0)])), (q7, .inl (cI, 24, .inl (zA (fun _ => 0)))), (q15, .inl (cI, 24, .inl (zA (fun _ => 0))))] C (T := TX2) tyX2 tyX2_ok nmX2 im_X2_init_2 fl_X2_init_15 rfl rfl (by decide) rfl rfl (hini rfl) rfl rfl rfl rfl (Nat.le_of_ble_eq_true rfl) rfl dX2_init_17 rfl ?_
  refine zj_aload_n 21 0 C dX2_init_20 rfl rfl rfl ?_
  refine zj_bipush 23 C dX2_init_21 rfl rfl ?_
  refine zj_newi 25 3 72 (fun q23 => [(q1, .inr (2, [.ref q7, .ref q15, .null, .int (zI 0), .int (zI 0)])), (q7, .inl (cI, 24, .inl (zA (fun _ => 0)))), (q15, .inl (cI, 24, .inl (zA (fun _ => 0)))), (q23, .inl (cI, 24, .inl (zA (fun _ => 0))))]) C (N' := 24) rfl wa_X2_init_i rfl (by decide) rfl rfl ⟨Nat.le_of_ble_eq_true rfl, Nat.le_of_ble_eq_true rfl⟩ (fun _ => rfl) dX2_init_23 rfl (fun q23 => ?_)
  refine zj_putF 28 0 2 [(q1, .inr (2, [.ref q7, .ref q15, .ref q23, .int (zI 0), .int (zI 0)])), (q7, .inl (cI, 24, .inl (zA (fun _ => 0)))), (q15, .inl (cI, 24, .inl (zA (fun _ => 0)))), (q23, .inl (cI, 24, .inl (zA (fun _ => 0))))] C (T := TX2) tyX2 tyX2_ok nmX2 im_X2_init_2 fl_X2_init_18 rfl rfl (by decide) rfl rfl (hini rfl) rfl rfl rfl rfl (Nat.le_of_ble_eq_true rfl) rfl dX2_init_25 rfl ?_
  refine zj_aload_n 29 0 C dX2_init_28 rfl rfl rfl ?_
  refine zj_iconst 30 C dX2_init_29 rfl ?_
  refine zj_put 33 0 3 [(q1, .inr (2, [.ref q7, .ref q15, .ref q23, .int (zI 0), .int (zI 0)])), (q7, .inl (cI, 24, .inl (zA (fun _ => 0)))), (q15, .inl (cI, 24, .inl (zA (fun _ => 0)))), (q23, .inl (cI, 24, .inl (zA (fun _ => 0))))] C (T := TX2) tyX2 tyX2_ok nmX2 im_X2_init_2 fl_X2_init_21 rfl rfl (by decide) rfl rfl rfl rfl rfl (Nat.le_of_ble_eq_true rfl) rfl dX2_init_30 rfl ?_
  refine zj_aload_n 34 0 C dX2_init_33 rfl rfl rfl ?_
  refine zj_bipush 36 C dX2_init_34 rfl rfl ?_
  refine zj_put 39 0 4 [(q1, .inr (2, [.ref q7, .ref q15, .ref q23, .int (zI 0), .int (zI 30)])), (q7, .inl (cI, 24, .inl (zA (fun _ => 0)))), (q15, .inl (cI, 24, .inl (zA (fun _ => 0)))), (q23, .inl (cI, 24, .inl (zA (fun _ => 0))))] C (T := TX2) tyX2 tyX2_ok nmX2 im_X2_init_2 fl_X2_init_25 rfl rfl (by decide) rfl rfl rfl rfl rfl (Nat.le_of_ble_eq_true rfl) rfl dX2_init_36 rfl ?_
  subst hQ
  exact zj_return C hr ⟨q7, q15, q23, rfl⟩ (by decide) (by decide) dX2_init_39
end
section
/-- the row behind -/
def zRp (pg rw : Int) : Int := if rw = 3 then pg + 1 else pg
def zRr (rw : Int) : Int := if rw = 3 then 0 else rw + 1
/-- too many beats for the page of now -/
abbrev zGc (c b : Int → Int) (pg t set : Int) : Prop := (pg < 16 ∧ 0 < c pg) ∧ set < b pg + t
/-- the first panel of a page, the pages that bear, behind one more panel -/
def zFs (c s : Int → Int) (p j : Int) : Int → Int := if c p = 0 then zU s p j else s
def zBe (c : Int → Int) (be p : Int) : Int := if c p = 0 then be + 1 else be

abbrev rm_X1_isOnLeft : Room := { frames := 0, cells := 0, slots := 0, locals := 0 }
set_option maxRecDepth 100000 in
set_option maxHeartbeats 4000000 in
theorem c_X1_isOnLeft (l : Launch) (D : va_G) (cI cS cJ : ClassId) (v1 : Int) (hv : 0 ≤ v1 ∧ v1 < 2147483648) : zMi l yX1_isOnLeft wsX1_isOnLeft rm_X1_isOnLeft D (zTy cI cS cJ) [.int (zI v1)] [] (fun r w => ∃ (r1 : Int), ((r1 = 1 ∧ v1 % 2 = 1) ∨ (r1 = 0 ∧ v1 % 2 = 0)) ∧ r = zI r1 ∧ w = []) 0 0 := by
  intro sz
  refine zMet_of (Qc := fun A => va_Qi _ (zB D (zTy cI cS cJ) A) A) RX1 [(0, .int (zI v1))] rfl (by decide +kernel) rfl (Nat.le_of_ble_eq_true rfl) rfl ?_ sz
  intro p e s m args below meth c A Q hQ C hr hini
  refine zj_iload_n 1 0 C dX1_isOnLeft_0 rfl rfl rfl ?_
  refine zj_iconst 2 C dX1_isOnLeft_1 rfl ?_
  refine zj_iand1 3 C dX1_isOnLeft_2 rfl (by omega) ?_
  refine zj_iconst 4 C dX1_isOnLeft_3 rfl ?_
  refine zj_icmp_ne 7 11 C (by omega) (by omega) dX1_isOnLeft_4 rfl (by decide) (fun h_1 => ?_) (fun h_1 => ?_)
  · skip
    refine zj_iconst 12 C dX1_isOnLeft_11 rfl ?_
    subst hQ
    exact zj_zret C (zI_bool (by omega)) hr ⟨0, (by omega), rfl, rfl⟩ (by decide) (by decide) dX1_isOnLeft_12
  · skip
    refine zj_iconst 8 C dX1_isOnLeft_7 rfl ?_
    refine zj_goto 12 C dX1_isOnLeft_8 (by decide) ?_
    subst hQ
    exact zj_zret C (zI_bool (by omega)) hr ⟨1, (by omega), rfl, rfl⟩ (by decide) (by decide) dX1_isOnLeft_12

theorem fl_X1_isBearing_21 : Cond.fieldLink RX1 21 "SplashPages$Layout" "pagePanels" "[I" ∈ wsX1_isBearing := by decide +kernel
theorem im_X1_isBearing_1 : ∀ w ∈ u_ws RX1 TX1 15, w ∈ wsX1_isBearing := by decide +kernel
abbrev rm_X1_isBearing : Room := { frames := 0, cells := 0, slots := 0, locals := 0 }
set_option maxRecDepth 100000 in
set_option maxHeartbeats 4000000 in
theorem c_X1_isBearing (l : Launch) (D : va_G) (cI cS cJ : ClassId) (q1 : Nat) (a0 : Nat) (a1 : Nat) (a2 : Nat) (a3 : Nat) (a4 : Nat) (a5 : Nat) (a6 : Nat) (a7 : Nat) (pg : Int) (rw : Int) (un : Int) (us : Int) (be : Int) (fi : Int) (lo : Int) (c1 : Int → Int) (v1 : Int) (hv : 0 ≤ v1 ∧ v1 < 2147483648) (hc : ∀ x, 0 ≤ c1 x ∧ c1 x ≤ 1000) : zMi l yX1_isBearing wsX1_isBearing rm_X1_isBearing D (zTy cI cS cJ) [.ref q1, .int (zI v1)] [(q1, .inr (1, [.ref a0, .ref a1, .ref a2, .ref a3, .ref a4, .ref a5, .ref a6, .ref a7, .int (zI pg), .int (zI rw), .int (zI un), .int (zI us), .int (zI be), .int (zI fi), .int (zI lo)])), (a3, .inl (cI, 16, .inl (zA c1)))] (fun r w => ∃ (r1 : Int), ((r1 = 1 ∧ v1 < 16 ∧ 0 < c1 v1) ∨ (r1 = 0 ∧ ¬ (v1 < 16 ∧ 0 < c1 v1))) ∧ r = zI r1 ∧ w = [(q1, .inr (1, [.ref a0, .ref a1, .ref a2, .ref a3, .ref a4, .ref a5, .ref a6, .ref a7, .int (zI pg), .int (zI rw), .int (zI un), .int (zI us), .int (zI be), .int (zI fi), .int (zI lo)])), (a3, .inl (cI, 16, .inl (zA c1)))]) 0 0 := by
  intro sz
  refine zMet_of (Qc := fun A => va_Qi _ (zB D (zTy cI cS cJ) A) A) RX1 [(0, .ref q1), (1, .int (zI v1))] rfl (by decide +kernel) rfl (Nat.le_of_ble_eq_true rfl) rfl ?_ sz
  intro p e s m args below meth c A Q hQ C hr hini
  have hcv := hc v1
  refine zj_iload_n 1 1 C dX1_isBearing_0 rfl rfl rfl ?_
  refine zj_if_lt 4 23 C (by omega) dX1_isBearing_1 rfl (by decide) (fun h_1 => ?_) (fun h_1 => ?_)
  · exact absurd h_1 (by omega)
  · skip
    refine zj_iload_n 5 1 C dX1_isBearing_4 rfl rfl rfl ?_
    refine zj_bipush 7 C dX1_isBearing_5 rfl rfl ?_
    refine zj_icmp_ge 10 23 C (by omega) (by omega) dX1_isBearing_7 rfl (by decide) (fun h_2 => ?_) (fun h_2 => ?_)
    · skip
      refine zj_iconst 24 C dX1_isBearing_23 rfl ?_
      subst hQ
      exact zj_zret C (zI_bool (by omega)) hr ⟨0, (by omega), rfl, rfl⟩ (by decide) (by decide) dX1_isBearing_24
    · skip
      refine zj_aload_n 11 0 C dX1_isBearing_10 rfl rfl rfl ?_
      refine zj_get 14 0 3 C (T := TX1) im_X1_isBearing_1 fl_X1_isBearing_21 rfl rfl (by decide) rfl rfl dX1_isBearing_11 rfl ?_
      refine zj_iload_n 15 1 C dX1_isBearing_14 rfl rfl rfl ?_
      refine zj_iald 16 1 C (by omega) (by omega) rfl rfl dX1_isBearing_15 rfl ?_
      refine zj_if_le 19 23 C (by omega) dX1_isBearing_16 rfl (by decide) (fun h_3 => ?_) (fun h_3 => ?_)
      · skip
        refine zj_iconst 24 C dX1_isBearing_23 rfl ?_
        subst hQ
        exact zj_zret C (zI_bool (by omega)) hr ⟨0, (by omega), rfl, rfl⟩ (by decide) (by decide) dX1_isBearing_24
      · skip
        refine zj_iconst 20 C dX1_isBearing_19 rfl ?_
        refine zj_goto 24 C dX1_isBearing_20 (by decide) ?_
        subst hQ
        exact zj_zret C (zI_bool (by omega)) hr ⟨1, (by omega), rfl, rfl⟩ (by decide) (by decide) dX1_isBearing_24

theorem fl_X1_beginPage_36 : Cond.fieldLink RX1 36 "SplashPages$Layout" "pageOfNow" "I" ∈ wsX1_beginPage := by decide +kernel
theorem im_X1_beginPage_1 : ∀ w ∈ u_ws RX1 TX1 15, w ∈ wsX1_beginPage := by decide +kernel
theorem fl_X1_beginPage_40 : Cond.fieldLink RX1 40 "SplashPages$Layout" "rowOfNow" "I" ∈ wsX1_beginPage := by decide +kernel
theorem fl_X1_beginPage_43 : Cond.fieldLink RX1 43 "SplashPages$Layout" "nextUnit" "I" ∈ wsX1_beginPage := by decide +kernel
abbrev rm_X1_beginPage : Room := { frames := 0, cells := 0, slots := 0, locals := 0 }
set_option maxRecDepth 100000 in
set_option maxHeartbeats 4000000 in
theorem c_X1_beginPage (l : Launch) (D : va_G) (cI cS cJ : ClassId) (q1 : Nat) (a0 : Nat) (a1 : Nat) (a2 : Nat) (a3 : Nat) (a4 : Nat) (a5 : Nat) (a6 : Nat) (a7 : Nat) (pg : Int) (rw : Int) (un : Int) (us : Int) (be : Int) (fi : Int) (lo : Int) (v1 : Int) : zMv l yX1_beginPage wsX1_beginPage rm_X1_beginPage D (zTy cI cS cJ) [.ref q1, .int (zI v1)] [(q1, .inr (1, [.ref a0, .ref a1, .ref a2, .ref a3, .ref a4, .ref a5, .ref a6, .ref a7, .int (zI pg), .int (zI rw), .int (zI un), .int (zI us), .int (zI be), .int (zI fi), .int (zI lo)]))] (fun w => w = [(q1, .inr (1, [.ref a0, .ref a1, .ref a2, .ref a3, .ref a4, .ref a5, .ref a6, .ref a7, .int (zI v1), .int (zI 0), .int (zI 0), .int (zI us), .int (zI be), .int (zI fi), .int (zI lo)]))]) 0 0 := by
  intro sz
  refine zMet_of (Qc := fun A => va_Qv _ (zB D (zTy cI cS cJ) A) A) RX1 [(0, .ref q1), (1, .int (zI v1))] rfl (by decide +kernel) rfl (Nat.le_of_ble_eq_true rfl) rfl ?_ sz
  intro p e s m args below meth c A Q hQ C hr hini
  refine zj_aload_n 1 0 C dX1_beginPage_0 rfl rfl rfl ?_
  refine zj_iload_n 2 1 C dX1_beginPage_1 rfl rfl rfl ?_
  refine zj_put 5 0 8 [(q1, .inr (1, [.ref a0, .ref a1, .ref a2, .ref a3, .ref a4, .ref a5, .ref a6, .ref a7, .int (zI v1), .int (zI rw), .int (zI un), .int (zI us), .int (zI be), .int (zI fi), .int (zI lo)]))] C (T := TX1) tyX1 tyX1_ok nmX1 im_X1_beginPage_1 fl_X1_beginPage_36 rfl rfl (by decide) rfl rfl rfl rfl rfl (Nat.le_of_ble_eq_true rfl) rfl dX1_beginPage_2 rfl ?_
  refine zj_aload_n 6 0 C dX1_beginPage_5 rfl rfl rfl ?_
  refine zj_iconst 7 C dX1_beginPage_6 rfl ?_
  refine zj_put 10 0 9 [(q1, .inr (1, [.ref a0, .ref a1, .ref a2, .ref a3, .ref a4, .ref a5, .ref a6, .ref a7, .int (zI v1), .int (zI 0), .int (zI un), .int (zI us), .int (zI be), .int (zI fi), .int (zI lo)]))] C (T := TX1) tyX1 tyX1_ok nmX1 im_X1_beginPage_1 fl_X1_beginPage_40 rfl rfl (by decide) rfl rfl rfl rfl rfl (Nat.le_of_ble_eq_true rfl) rfl dX1_beginPage_7 rfl ?_
  refine zj_aload_n 11 0 C dX1_beginPage_10 rfl rfl rfl ?_
  refine zj_iconst 12 C dX1_beginPage_11 rfl ?_
  refine zj_put 15 0 10 [(q1, .inr (1, [.ref a0, .ref a1, .ref a2, .ref a3, .ref a4, .ref a5, .ref a6, .ref a7, .int (zI v1), .int (zI 0), .int (zI 0), .int (zI us), .int (zI be), .int (zI fi), .int (zI lo)]))] C (T := TX1) tyX1 tyX1_ok nmX1 im_X1_beginPage_1 fl_X1_beginPage_43 rfl rfl (by decide) rfl rfl rfl rfl rfl (Nat.le_of_ble_eq_true rfl) rfl dX1_beginPage_12 rfl ?_
  subst hQ
  exact zj_return C hr rfl (by decide) (by decide) dX1_beginPage_15

theorem fl_X1_beginRow_43 : Cond.fieldLink RX1 43 "SplashPages$Layout" "nextUnit" "I" ∈ wsX1_beginRow := by decide +kernel
theorem im_X1_beginRow_1 : ∀ w ∈ u_ws RX1 TX1 15, w ∈ wsX1_beginRow := by decide +kernel
theorem fl_X1_beginRow_40 : Cond.fieldLink RX1 40 "SplashPages$Layout" "rowOfNow" "I" ∈ wsX1_beginRow := by decide +kernel
theorem fl_X1_beginRow_36 : Cond.fieldLink RX1 36 "SplashPages$Layout" "pageOfNow" "I" ∈ wsX1_beginRow := by decide +kernel
abbrev rm_X1_beginRow : Room := { frames := 0, cells := 0, slots := 0, locals := 0 }
set_option maxRecDepth 100000 in
set_option maxHeartbeats 4000000 in
theorem c_X1_beginRow (l : Launch) (D : va_G) (cI cS cJ : ClassId) (q1 : Nat) (a0 : Nat) (a1 : Nat) (a2 : Nat) (a3 : Nat) (a4 : Nat) (a5 : Nat) (a6 : Nat) (a7 : Nat) (pg : Int) (rw : Int) (un : Int) (us : Int) (be : Int) (fi : Int) (lo : Int) (hr : 0 ≤ rw ∧ rw ≤ 3) : zMv l yX1_beginRow wsX1_beginRow rm_X1_beginRow D (zTy cI cS cJ) [.ref q1] [(q1, .inr (1, [.ref a0, .ref a1, .ref a2, .ref a3, .ref a4, .ref a5, .ref a6, .ref a7, .int (zI pg), .int (zI rw), .int (zI un), .int (zI us), .int (zI be), .int (zI fi), .int (zI lo)]))] (fun w => w = [(q1, .inr (1, [.ref a0, .ref a1, .ref a2, .ref a3, .ref a4, .ref a5, .ref a6, .ref a7, .int (zI (zRp pg rw)), .int (zI (zRr rw)), .int (zI 0), .int (zI us), .int (zI be), .int (zI fi), .int (zI lo)]))]) 0 0 := by
  intro sz
  refine zMet_of (Qc := fun A => va_Qv _ (zB D (zTy cI cS cJ) A) A) RX1 [(0, .ref q1)] rfl (by decide +kernel) rfl (Nat.le_of_ble_eq_true rfl) rfl ?_ sz
  intro p e s m args below meth c A Q hQ C hr hini
  refine zj_aload_n 1 0 C dX1_beginRow_0 rfl rfl rfl ?_
  refine zj_iconst 2 C dX1_beginRow_1 rfl ?_
  refine zj_put 5 0 10 [(q1, .inr (1, [.ref a0, .ref a1, .ref a2, .ref a3, .ref a4, .ref a5, .ref a6, .ref a7, .int (zI pg), .int (zI rw), .int (zI 0), .int (zI us), .int (zI be), .int (zI fi), .int (zI lo)]))] C (T := TX1) tyX1 tyX1_ok nmX1 im_X1_beginRow_1 fl_X1_beginRow_43 rfl rfl (by decide) rfl rfl rfl rfl rfl (Nat.le_of_ble_eq_true rfl) rfl dX1_beginRow_2 rfl ?_
  refine zj_aload_n 6 0 C dX1_beginRow_5 rfl rfl rfl ?_
  refine zj_dup 7 C dX1_beginRow_6 rfl rfl ?_
  refine zj_get 10 0 9 C (T := TX1) im_X1_beginRow_1 fl_X1_beginRow_40 rfl rfl (by decide) rfl rfl dX1_beginRow_7 rfl ?_
  refine zj_iconst 11 C dX1_beginRow_10 rfl ?_
  refine zj_iadd 12 C dX1_beginRow_11 rfl ?_
  refine zj_put 15 0 9 [(q1, .inr (1, [.ref a0, .ref a1, .ref a2, .ref a3, .ref a4, .ref a5, .ref a6, .ref a7, .int (zI pg), .int (zI (rw + 1)), .int (zI 0), .int (zI us), .int (zI be), .int (zI fi), .int (zI lo)]))] C (T := TX1) tyX1 tyX1_ok nmX1 im_X1_beginRow_1 fl_X1_beginRow_40 rfl rfl (by decide) rfl rfl rfl rfl rfl (Nat.le_of_ble_eq_true rfl) rfl dX1_beginRow_12 rfl ?_
  refine zj_aload_n 16 0 C dX1_beginRow_15 rfl rfl rfl ?_
  refine zj_get 19 0 9 C (T := TX1) im_X1_beginRow_1 fl_X1_beginRow_40 rfl rfl (by decide) rfl rfl dX1_beginRow_16 rfl ?_
  refine zj_iconst 20 C dX1_beginRow_19 rfl ?_
  refine zj_icmp_ne 23 38 C (by omega) (by omega) dX1_beginRow_20 rfl (by decide) (fun h20 => ?_) (fun h20 => ?_)
  · skip
    refine zj_ws (ws' := [(q1, .inr (1, [.ref a0, .ref a1, .ref a2, .ref a3, .ref a4, .ref a5, .ref a6, .ref a7, .int (zI (zRp pg rw)), .int (zI (zRr rw)), .int (zI 0), .int (zI us), .int (zI be), .int (zI fi), .int (zI lo)]))]) (by rw [show zRp pg rw = pg from by unfold zRp; split <;> omega, show zRr rw = rw + 1 from by unfold zRr; split <;> omega]) ?_
    subst hQ
    exact zj_return C hr rfl (by decide) (by decide) dX1_beginRow_38
  · skip
    refine zj_aload_n 24 0 C dX1_beginRow_23 rfl rfl rfl ?_
    refine zj_iconst 25 C dX1_beginRow_24 rfl ?_
    refine zj_put 28 0 9 [(q1, .inr (1, [.ref a0, .ref a1, .ref a2, .ref a3, .ref a4, .ref a5, .ref a6, .ref a7, .int (zI pg), .int (zI 0), .int (zI 0), .int (zI us), .int (zI be), .int (zI fi), .int (zI lo)]))] C (T := TX1) tyX1 tyX1_ok nmX1 im_X1_beginRow_1 fl_X1_beginRow_40 rfl rfl (by decide) rfl rfl rfl rfl rfl (Nat.le_of_ble_eq_true rfl) rfl dX1_beginRow_25 rfl ?_
    refine zj_aload_n 29 0 C dX1_beginRow_28 rfl rfl rfl ?_
    refine zj_dup 30 C dX1_beginRow_29 rfl rfl ?_
    refine zj_get 33 0 8 C (T := TX1) im_X1_beginRow_1 fl_X1_beginRow_36 rfl rfl (by decide) rfl rfl dX1_beginRow_30 rfl ?_
    refine zj_iconst 34 C dX1_beginRow_33 rfl ?_
    refine zj_iadd 35 C dX1_beginRow_34 rfl ?_
    refine zj_put 38 0 8 [(q1, .inr (1, [.ref a0, .ref a1, .ref a2, .ref a3, .ref a4, .ref a5, .ref a6, .ref a7, .int (zI (pg + 1)), .int (zI 0), .int (zI 0), .int (zI us), .int (zI be), .int (zI fi), .int (zI lo)]))] C (T := TX1) tyX1 tyX1_ok nmX1 im_X1_beginRow_1 fl_X1_beginRow_36 rfl rfl (by decide) rfl rfl rfl rfl rfl (Nat.le_of_ble_eq_true rfl) rfl dX1_beginRow_35 rfl ?_
    refine zj_ws (ws' := [(q1, .inr (1, [.ref a0, .ref a1, .ref a2, .ref a3, .ref a4, .ref a5, .ref a6, .ref a7, .int (zI (zRp pg rw)), .int (zI (zRr rw)), .int (zI 0), .int (zI us), .int (zI be), .int (zI fi), .int (zI lo)]))]) (by rw [show zRp pg rw = pg + 1 from by unfold zRp; split <;> omega, show zRr rw = 0 from by unfold zRr; split <;> omega]) ?_
    subst hQ
    exact zj_return C hr rfl (by decide) (by decide) dX1_beginRow_38

theorem fl_X1_note_9 : Cond.fieldLink RX1 9 "SplashPages$Layout" "pages" "[I" ∈ wsX1_note := by decide +kernel
theorem im_X1_note_1 : ∀ w ∈ u_ws RX1 TX1 15, w ∈ wsX1_note := by decide +kernel
theorem fl_X1_note_15 : Cond.fieldLink RX1 15 "SplashPages$Layout" "rows" "[I" ∈ wsX1_note := by decide +kernel
theorem fl_X1_note_18 : Cond.fieldLink RX1 18 "SplashPages$Layout" "units" "[I" ∈ wsX1_note := by decide +kernel
abbrev rm_X1_note : Room := { frames := 0, cells := 0, slots := 0, locals := 0 }
set_option maxRecDepth 100000 in
set_option maxHeartbeats 4000000 in
theorem c_X1_note (l : Launch) (D : va_G) (cI cS cJ : ClassId) (q1 : Nat) (a0 : Nat) (a1 : Nat) (a2 : Nat) (a3 : Nat) (a4 : Nat) (a5 : Nat) (a6 : Nat) (a7 : Nat) (pg : Int) (rw : Int) (un : Int) (us : Int) (be : Int) (fi : Int) (lo : Int) (P1 : Int → Int) (R1 : Int → Int) (U1 : Int → Int) (j1 : Int) (x1 : Int) (x2 : Int) (x3 : Int) (hj : 0 ≤ j1 ∧ j1 < 24) : zMv l yX1_note wsX1_note rm_X1_note D (zTy cI cS cJ) [.ref q1, .int (zI j1), .int (zI x1), .int (zI x2), .int (zI x3)] [(q1, .inr (1, [.ref a0, .ref a1, .ref a2, .ref a3, .ref a4, .ref a5, .ref a6, .ref a7, .int (zI pg), .int (zI rw), .int (zI un), .int (zI us), .int (zI be), .int (zI fi), .int (zI lo)])), (a0, .inl (cI, 24, .inl (zA P1))), (a1, .inl (cI, 24, .inl (zA R1))), (a2, .inl (cI, 24, .inl (zA U1)))] (fun w => w = [(q1, .inr (1, [.ref a0, .ref a1, .ref a2, .ref a3, .ref a4, .ref a5, .ref a6, .ref a7, .int (zI pg), .int (zI rw), .int (zI un), .int (zI us), .int (zI be), .int (zI fi), .int (zI lo)])), (a0, .inl (cI, 24, .inl (zA (zU P1 j1 x1)))), (a1, .inl (cI, 24, .inl (zA (zU R1 j1 x2)))), (a2, .inl (cI, 24, .inl (zA (zU U1 j1 x3))))]) 0 0 := by
  intro sz
  refine zMet_of (Qc := fun A => va_Qv _ (zB D (zTy cI cS cJ) A) A) RX1 [(0, .ref q1), (1, .int (zI j1)), (2, .int (zI x1)), (3, .int (zI x2)), (4, .int (zI x3))] rfl (by decide +kernel) rfl (Nat.le_of_ble_eq_true rfl) rfl ?_ sz
  intro p e s m args below meth c A Q hQ C hr hini
  refine zj_iload_n 1 1 C dX1_note_0 rfl rfl rfl ?_
  refine zj_if_lt 4 10 C (by omega) dX1_note_1 rfl (by decide) (fun h_1 => ?_) (fun h_1 => ?_)
  · exact absurd h_1 (by omega)
  · skip
    refine zj_iload_n 5 1 C dX1_note_4 rfl rfl rfl ?_
    refine zj_bipush 7 C dX1_note_5 rfl rfl ?_
    refine zj_icmp_lt 10 11 C (by omega) (by omega) dX1_note_7 rfl (by decide) (fun h_2 => ?_) (fun h_2 => ?_)
    · skip
      refine zj_aload_n 12 0 C dX1_note_11 rfl rfl rfl ?_
      refine zj_get 15 0 0 C (T := TX1) im_X1_note_1 fl_X1_note_9 rfl rfl (by decide) rfl rfl dX1_note_12 rfl ?_
      refine zj_iload_n 16 1 C dX1_note_15 rfl rfl rfl ?_
      refine zj_iload_n 17 2 C dX1_note_16 rfl rfl rfl ?_
      refine zj_iast 18 1 [(q1, .inr (1, [.ref a0, .ref a1, .ref a2, .ref a3, .ref a4, .ref a5, .ref a6, .ref a7, .int (zI pg), .int (zI rw), .int (zI un), .int (zI us), .int (zI be), .int (zI fi), .int (zI lo)])), (a0, .inl (cI, 24, .inl (zA (zU P1 j1 x1)))), (a1, .inl (cI, 24, .inl (zA R1))), (a2, .inl (cI, 24, .inl (zA U1)))] C (by omega) (by omega) rfl rfl rfl dX1_note_17 rfl ?_
      refine zj_aload_n 19 0 C dX1_note_18 rfl rfl rfl ?_
      refine zj_get 22 0 1 C (T := TX1) im_X1_note_1 fl_X1_note_15 rfl rfl (by decide) rfl rfl dX1_note_19 rfl ?_
      refine zj_iload_n 23 1 C dX1_note_22 rfl rfl rfl ?_
      refine zj_iload_n 24 3 C dX1_note_23 rfl rfl rfl ?_
      refine zj_iast 25 2 [(q1, .inr (1, [.ref a0, .ref a1, .ref a2, .ref a3, .ref a4, .ref a5, .ref a6, .ref a7, .int (zI pg), .int (zI rw), .int (zI un), .int (zI us), .int (zI be), .int (zI fi), .int (zI lo)])), (a0, .inl (cI, 24, .inl (zA (zU P1 j1 x1)))), (a1, .inl (cI, 24, .inl (zA (zU R1 j1 x2)))), (a2, .inl (cI, 24, .inl (zA U1)))] C (by omega) (by omega) rfl rfl rfl dX1_note_24 rfl ?_
      refine zj_aload_n 26 0 C dX1_note_25 rfl rfl rfl ?_
      refine zj_get 29 0 2 C (T := TX1) im_X1_note_1 fl_X1_note_18 rfl rfl (by decide) rfl rfl dX1_note_26 rfl ?_
      refine zj_iload_n 30 1 C dX1_note_29 rfl rfl rfl ?_
      refine zj_iload 32 4 C dX1_note_30 rfl rfl ?_
      refine zj_iast 33 3 [(q1, .inr (1, [.ref a0, .ref a1, .ref a2, .ref a3, .ref a4, .ref a5, .ref a6, .ref a7, .int (zI pg), .int (zI rw), .int (zI un), .int (zI us), .int (zI be), .int (zI fi), .int (zI lo)])), (a0, .inl (cI, 24, .inl (zA (zU P1 j1 x1)))), (a1, .inl (cI, 24, .inl (zA (zU R1 j1 x2)))), (a2, .inl (cI, 24, .inl (zA (zU U1 j1 x3))))] C (by omega) (by omega) rfl rfl rfl dX1_note_32 rfl ?_
      subst hQ
      exact zj_return C hr rfl (by decide) (by decide) dX1_note_33
    · exact absurd h_2 (by omega)

theorem fl_X1_bear_21 : Cond.fieldLink RX1 21 "SplashPages$Layout" "pagePanels" "[I" ∈ wsX1_bear := by decide +kernel
theorem im_X1_bear_1 : ∀ w ∈ u_ws RX1 TX1 15, w ∈ wsX1_bear := by decide +kernel
theorem fl_X1_bear_24 : Cond.fieldLink RX1 24 "SplashPages$Layout" "pageBeats" "[I" ∈ wsX1_bear := by decide +kernel
theorem fl_X1_bear_27 : Cond.fieldLink RX1 27 "SplashPages$Layout" "pageFilled" "[I" ∈ wsX1_bear := by decide +kernel
theorem fl_X1_bear_52 : Cond.fieldLink RX1 52 "SplashPages$Layout" "filled" "I" ∈ wsX1_bear := by decide +kernel
theorem fl_X1_bear_46 : Cond.fieldLink RX1 46 "SplashPages$Layout" "used" "I" ∈ wsX1_bear := by decide +kernel
theorem fl_X1_bear_30 : Cond.fieldLink RX1 30 "SplashPages$Layout" "pageFirst" "[I" ∈ wsX1_bear := by decide +kernel
theorem fl_X1_bear_49 : Cond.fieldLink RX1 49 "SplashPages$Layout" "bearing" "I" ∈ wsX1_bear := by decide +kernel
abbrev rm_X1_bear : Room := { frames := 0, cells := 0, slots := 0, locals := 0 }
set_option maxRecDepth 100000 in
set_option maxHeartbeats 4000000 in
theorem c_X1_bear (l : Launch) (D : va_G) (cI cS cJ : ClassId) (q1 : Nat) (a0 : Nat) (a1 : Nat) (a2 : Nat) (a3 : Nat) (a4 : Nat) (a5 : Nat) (a6 : Nat) (a7 : Nat) (pg : Int) (rw : Int) (un : Int) (us : Int) (be : Int) (fi : Int) (lo : Int) (c1 : Int → Int) (b1 : Int → Int) (f1 : Int → Int) (s1 : Int → Int) (p1 : Int) (j1 : Int) (u1 : Int) (t1 : Int) (hp : 0 ≤ p1 ∧ p1 < 16) (hc : ∀ x, 0 ≤ c1 x ∧ c1 x ≤ 2000) : zMv l yX1_bear wsX1_bear rm_X1_bear D (zTy cI cS cJ) [.ref q1, .int (zI p1), .int (zI j1), .int (zI u1), .int (zI t1)] [(q1, .inr (1, [.ref a0, .ref a1, .ref a2, .ref a3, .ref a4, .ref a5, .ref a6, .ref a7, .int (zI pg), .int (zI rw), .int (zI un), .int (zI us), .int (zI be), .int (zI fi), .int (zI lo)])), (a3, .inl (cI, 16, .inl (zA c1))), (a4, .inl (cI, 16, .inl (zA b1))), (a5, .inl (cI, 16, .inl (zA f1))), (a6, .inl (cI, 16, .inl (zA s1)))] (fun w => w = [(q1, .inr (1, [.ref a0, .ref a1, .ref a2, .ref a3, .ref a4, .ref a5, .ref a6, .ref a7, .int (zI pg), .int (zI rw), .int (zI un), .int (zI (p1 + 1)), .int (zI (zBe c1 be p1)), .int (zI (fi + u1)), .int (zI lo)])), (a3, .inl (cI, 16, .inl (zA (zU c1 p1 (c1 p1 + 1))))), (a4, .inl (cI, 16, .inl (zA (zU b1 p1 (b1 p1 + t1))))), (a5, .inl (cI, 16, .inl (zA (zU f1 p1 (f1 p1 + u1))))), (a6, .inl (cI, 16, .inl (zA (zFs c1 s1 p1 j1))))]) 0 0 := by
  intro sz
  refine zMet_of (Qc := fun A => va_Qv _ (zB D (zTy cI cS cJ) A) A) RX1 [(0, .ref q1), (1, .int (zI p1)), (2, .int (zI j1)), (3, .int (zI u1)), (4, .int (zI t1))] rfl (by decide +kernel) rfl (Nat.le_of_ble_eq_true rfl) rfl ?_ sz
  intro p e s m args below meth c A Q hQ C hr hini
  have hcv := hc p1
  refine zj_iload_n 1 1 C dX1_bear_0 rfl rfl rfl ?_
  refine zj_if_lt 4 10 C (by omega) dX1_bear_1 rfl (by decide) (fun h_1 => ?_) (fun h_1 => ?_)
  · exact absurd h_1 (by omega)
  · skip
    refine zj_iload_n 5 1 C dX1_bear_4 rfl rfl rfl ?_
    refine zj_bipush 7 C dX1_bear_5 rfl rfl ?_
    refine zj_icmp_lt 10 11 C (by omega) (by omega) dX1_bear_7 rfl (by decide) (fun h_2 => ?_) (fun h_2 => ?_)
    · skip
      refine zj_aload_n 12 0 C dX1_bear_11 rfl rfl rfl ?_
      refine zj_get 15 0 3 C (T := TX1) im_X1_bear_1 fl_X1_bear_21 rfl rfl (by decide) rfl rfl dX1_bear_12 rfl ?_
      refine zj_iload_n 16 1 C dX1_bear_15 rfl rfl rfl ?_
      refine zj_iald 17 1 C (by omega) (by omega) rfl rfl dX1_bear_16 rfl ?_
      refine zj_if_ne 20 37 C (by omega) dX1_bear_17 rfl (by decide) (fun h17 => ?_) (fun h17 => ?_)
      · skip
        refine zj_aload_n 38 0 C dX1_bear_37 rfl rfl rfl ?_
        refine zj_get 41 0 3 C (T := TX1) im_X1_bear_1 fl_X1_bear_21 rfl rfl (by decide) rfl rfl dX1_bear_38 rfl ?_
        refine zj_iload_n 42 1 C dX1_bear_41 rfl rfl rfl ?_
        refine zj_dup2 43 C dX1_bear_42 rfl rfl rfl ?_
        refine zj_iald 44 1 C (by omega) (by omega) rfl rfl dX1_bear_43 rfl ?_
        refine zj_iconst 45 C dX1_bear_44 rfl ?_
        refine zj_iadd 46 C dX1_bear_45 rfl ?_
        refine zj_iast 47 1 [(q1, .inr (1, [.ref a0, .ref a1, .ref a2, .ref a3, .ref a4, .ref a5, .ref a6, .ref a7, .int (zI pg), .int (zI rw), .int (zI un), .int (zI us), .int (zI be), .int (zI fi), .int (zI lo)])), (a3, .inl (cI, 16, .inl (zA (zU c1 p1 ((c1 p1) + 1))))), (a4, .inl (cI, 16, .inl (zA b1))), (a5, .inl (cI, 16, .inl (zA f1))), (a6, .inl (cI, 16, .inl (zA s1)))] C (by omega) (by omega) rfl rfl rfl dX1_bear_46 rfl ?_
        refine zj_aload_n 48 0 C dX1_bear_47 rfl rfl rfl ?_
        refine zj_get 51 0 4 C (T := TX1) im_X1_bear_1 fl_X1_bear_24 rfl rfl (by decide) rfl rfl dX1_bear_48 rfl ?_
        refine zj_iload_n 52 1 C dX1_bear_51 rfl rfl rfl ?_
        refine zj_dup2 53 C dX1_bear_52 rfl rfl rfl ?_
        refine zj_iald 54 2 C (by omega) (by omega) rfl rfl dX1_bear_53 rfl ?_
        refine zj_iload 56 4 C dX1_bear_54 rfl rfl ?_
        refine zj_iadd 57 C dX1_bear_56 rfl ?_
        refine zj_iast 58 2 [(q1, .inr (1, [.ref a0, .ref a1, .ref a2, .ref a3, .ref a4, .ref a5, .ref a6, .ref a7, .int (zI pg), .int (zI rw), .int (zI un), .int (zI us), .int (zI be), .int (zI fi), .int (zI lo)])), (a3, .inl (cI, 16, .inl (zA (zU c1 p1 ((c1 p1) + 1))))), (a4, .inl (cI, 16, .inl (zA (zU b1 p1 ((b1 p1) + t1))))), (a5, .inl (cI, 16, .inl (zA f1))), (a6, .inl (cI, 16, .inl (zA s1)))] C (by omega) (by omega) rfl rfl rfl dX1_bear_57 rfl ?_
        refine zj_aload_n 59 0 C dX1_bear_58 rfl rfl rfl ?_
        refine zj_get 62 0 5 C (T := TX1) im_X1_bear_1 fl_X1_bear_27 rfl rfl (by decide) rfl rfl dX1_bear_59 rfl ?_
        refine zj_iload_n 63 1 C dX1_bear_62 rfl rfl rfl ?_
        refine zj_dup2 64 C dX1_bear_63 rfl rfl rfl ?_
        refine zj_iald 65 3 C (by omega) (by omega) rfl rfl dX1_bear_64 rfl ?_
        refine zj_iload_n 66 3 C dX1_bear_65 rfl rfl rfl ?_
        refine zj_iadd 67 C dX1_bear_66 rfl ?_
        refine zj_iast 68 3 [(q1, .inr (1, [.ref a0, .ref a1, .ref a2, .ref a3, .ref a4, .ref a5, .ref a6, .ref a7, .int (zI pg), .int (zI rw), .int (zI un), .int (zI us), .int (zI be), .int (zI fi), .int (zI lo)])), (a3, .inl (cI, 16, .inl (zA (zU c1 p1 ((c1 p1) + 1))))), (a4, .inl (cI, 16, .inl (zA (zU b1 p1 ((b1 p1) + t1))))), (a5, .inl (cI, 16, .inl (zA (zU f1 p1 ((f1 p1) + u1))))), (a6, .inl (cI, 16, .inl (zA s1)))] C (by omega) (by omega) rfl rfl rfl dX1_bear_67 rfl ?_
        refine zj_aload_n 69 0 C dX1_bear_68 rfl rfl rfl ?_
        refine zj_dup 70 C dX1_bear_69 rfl rfl ?_
        refine zj_get 73 0 13 C (T := TX1) im_X1_bear_1 fl_X1_bear_52 rfl rfl (by decide) rfl rfl dX1_bear_70 rfl ?_
        refine zj_iload_n 74 3 C dX1_bear_73 rfl rfl rfl ?_
        refine zj_iadd 75 C dX1_bear_74 rfl ?_
        refine zj_put 78 0 13 [(q1, .inr (1, [.ref a0, .ref a1, .ref a2, .ref a3, .ref a4, .ref a5, .ref a6, .ref a7, .int (zI pg), .int (zI rw), .int (zI un), .int (zI us), .int (zI be), .int (zI (fi + u1)), .int (zI lo)])), (a3, .inl (cI, 16, .inl (zA (zU c1 p1 ((c1 p1) + 1))))), (a4, .inl (cI, 16, .inl (zA (zU b1 p1 ((b1 p1) + t1))))), (a5, .inl (cI, 16, .inl (zA (zU f1 p1 ((f1 p1) + u1))))), (a6, .inl (cI, 16, .inl (zA s1)))] C (T := TX1) tyX1 tyX1_ok nmX1 im_X1_bear_1 fl_X1_bear_52 rfl rfl (by decide) rfl rfl rfl rfl rfl (Nat.le_of_ble_eq_true rfl) rfl dX1_bear_75 rfl ?_
        refine zj_aload_n 79 0 C dX1_bear_78 rfl rfl rfl ?_
        refine zj_iload_n 80 1 C dX1_bear_79 rfl rfl rfl ?_
        refine zj_iconst 81 C dX1_bear_80 rfl ?_
        refine zj_iadd 82 C dX1_bear_81 rfl ?_
        refine zj_put 85 0 11 [(q1, .inr (1, [.ref a0, .ref a1, .ref a2, .ref a3, .ref a4, .ref a5, .ref a6, .ref a7, .int (zI pg), .int (zI rw), .int (zI un), .int (zI (p1 + 1)), .int (zI be), .int (zI (fi + u1)), .int (zI lo)])), (a3, .inl (cI, 16, .inl (zA (zU c1 p1 ((c1 p1) + 1))))), (a4, .inl (cI, 16, .inl (zA (zU b1 p1 ((b1 p1) + t1))))), (a5, .inl (cI, 16, .inl (zA (zU f1 p1 ((f1 p1) + u1))))), (a6, .inl (cI, 16, .inl (zA s1)))] C (T := TX1) tyX1 tyX1_ok nmX1 im_X1_bear_1 fl_X1_bear_46 rfl rfl (by decide) rfl rfl rfl rfl rfl (Nat.le_of_ble_eq_true rfl) rfl dX1_bear_82 rfl ?_
        refine zj_ws (ws' := [(q1, .inr (1, [.ref a0, .ref a1, .ref a2, .ref a3, .ref a4, .ref a5, .ref a6, .ref a7, .int (zI pg), .int (zI rw), .int (zI un), .int (zI (p1 + 1)), .int (zI (zBe c1 be p1)), .int (zI (fi + u1)), .int (zI lo)])), (a3, .inl (cI, 16, .inl (zA (zU c1 p1 (c1 p1 + 1))))), (a4, .inl (cI, 16, .inl (zA (zU b1 p1 (b1 p1 + t1))))), (a5, .inl (cI, 16, .inl (zA (zU f1 p1 (f1 p1 + u1))))), (a6, .inl (cI, 16, .inl (zA (zFs c1 s1 p1 j1))))]) (by rw [show zFs c1 s1 p1 j1 = s1 from by unfold zFs; simp [h17], show zBe c1 be p1 = be from by unfold zBe; simp [h17]]) ?_
        subst hQ
        exact zj_return C hr rfl (by decide) (by decide) dX1_bear_85
      · skip
        refine zj_aload_n 21 0 C dX1_bear_20 rfl rfl rfl ?_
        refine zj_get 24 0 6 C (T := TX1) im_X1_bear_1 fl_X1_bear_30 rfl rfl (by decide) rfl rfl dX1_bear_21 rfl ?_
        refine zj_iload_n 25 1 C dX1_bear_24 rfl rfl rfl ?_
        refine zj_iload_n 26 2 C dX1_bear_25 rfl rfl rfl ?_
        refine zj_iast 27 4 [(q1, .inr (1, [.ref a0, .ref a1, .ref a2, .ref a3, .ref a4, .ref a5, .ref a6, .ref a7, .int (zI pg), .int (zI rw), .int (zI un), .int (zI us), .int (zI be), .int (zI fi), .int (zI lo)])), (a3, .inl (cI, 16, .inl (zA c1))), (a4, .inl (cI, 16, .inl (zA b1))), (a5, .inl (cI, 16, .inl (zA f1))), (a6, .inl (cI, 16, .inl (zA (zU s1 p1 j1))))] C (by omega) (by omega) rfl rfl rfl dX1_bear_26 rfl ?_
        refine zj_aload_n 28 0 C dX1_bear_27 rfl rfl rfl ?_
        refine zj_dup 29 C dX1_bear_28 rfl rfl ?_
        refine zj_get 32 0 12 C (T := TX1) im_X1_bear_1 fl_X1_bear_49 rfl rfl (by decide) rfl rfl dX1_bear_29 rfl ?_
        refine zj_iconst 33 C dX1_bear_32 rfl ?_
        refine zj_iadd 34 C dX1_bear_33 rfl ?_
        refine zj_put 37 0 12 [(q1, .inr (1, [.ref a0, .ref a1, .ref a2, .ref a3, .ref a4, .ref a5, .ref a6, .ref a7, .int (zI pg), .int (zI rw), .int (zI un), .int (zI us), .int (zI (be + 1)), .int (zI fi), .int (zI lo)])), (a3, .inl (cI, 16, .inl (zA c1))), (a4, .inl (cI, 16, .inl (zA b1))), (a5, .inl (cI, 16, .inl (zA f1))), (a6, .inl (cI, 16, .inl (zA (zU s1 p1 j1))))] C (T := TX1) tyX1 tyX1_ok nmX1 im_X1_bear_1 fl_X1_bear_49 rfl rfl (by decide) rfl rfl rfl rfl rfl (Nat.le_of_ble_eq_true rfl) rfl dX1_bear_34 rfl ?_
        refine zj_aload_n 38 0 C dX1_bear_37 rfl rfl rfl ?_
        refine zj_get 41 0 3 C (T := TX1) im_X1_bear_1 fl_X1_bear_21 rfl rfl (by decide) rfl rfl dX1_bear_38 rfl ?_
        refine zj_iload_n 42 1 C dX1_bear_41 rfl rfl rfl ?_
        refine zj_dup2 43 C dX1_bear_42 rfl rfl rfl ?_
        refine zj_iald 44 1 C (by omega) (by omega) rfl rfl dX1_bear_43 rfl ?_
        refine zj_iconst 45 C dX1_bear_44 rfl ?_
        refine zj_iadd 46 C dX1_bear_45 rfl ?_
        refine zj_iast 47 1 [(q1, .inr (1, [.ref a0, .ref a1, .ref a2, .ref a3, .ref a4, .ref a5, .ref a6, .ref a7, .int (zI pg), .int (zI rw), .int (zI un), .int (zI us), .int (zI (be + 1)), .int (zI fi), .int (zI lo)])), (a3, .inl (cI, 16, .inl (zA (zU c1 p1 ((c1 p1) + 1))))), (a4, .inl (cI, 16, .inl (zA b1))), (a5, .inl (cI, 16, .inl (zA f1))), (a6, .inl (cI, 16, .inl (zA (zU s1 p1 j1))))] C (by omega) (by omega) rfl rfl rfl dX1_bear_46 rfl ?_
        refine zj_aload_n 48 0 C dX1_bear_47 rfl rfl rfl ?_
        refine zj_get 51 0 4 C (T := TX1) im_X1_bear_1 fl_X1_bear_24 rfl rfl (by decide) rfl rfl dX1_bear_48 rfl ?_
        refine zj_iload_n 52 1 C dX1_bear_51 rfl rfl rfl ?_
        refine zj_dup2 53 C dX1_bear_52 rfl rfl rfl ?_
        refine zj_iald 54 2 C (by omega) (by omega) rfl rfl dX1_bear_53 rfl ?_
        refine zj_iload 56 4 C dX1_bear_54 rfl rfl ?_
        refine zj_iadd 57 C dX1_bear_56 rfl ?_
        refine zj_iast 58 2 [(q1, .inr (1, [.ref a0, .ref a1, .ref a2, .ref a3, .ref a4, .ref a5, .ref a6, .ref a7, .int (zI pg), .int (zI rw), .int (zI un), .int (zI us), .int (zI (be + 1)), .int (zI fi), .int (zI lo)])), (a3, .inl (cI, 16, .inl (zA (zU c1 p1 ((c1 p1) + 1))))), (a4, .inl (cI, 16, .inl (zA (zU b1 p1 ((b1 p1) + t1))))), (a5, .inl (cI, 16, .inl (zA f1))), (a6, .inl (cI, 16, .inl (zA (zU s1 p1 j1))))] C (by omega) (by omega) rfl rfl rfl dX1_bear_57 rfl ?_
        refine zj_aload_n 59 0 C dX1_bear_58 rfl rfl rfl ?_
        refine zj_get 62 0 5 C (T := TX1) im_X1_bear_1 fl_X1_bear_27 rfl rfl (by decide) rfl rfl dX1_bear_59 rfl ?_
        refine zj_iload_n 63 1 C dX1_bear_62 rfl rfl rfl ?_
        refine zj_dup2 64 C dX1_bear_63 rfl rfl rfl ?_
        refine zj_iald 65 3 C (by omega) (by omega) rfl rfl dX1_bear_64 rfl ?_
        refine zj_iload_n 66 3 C dX1_bear_65 rfl rfl rfl ?_
        refine zj_iadd 67 C dX1_bear_66 rfl ?_
        refine zj_iast 68 3 [(q1, .inr (1, [.ref a0, .ref a1, .ref a2, .ref a3, .ref a4, .ref a5, .ref a6, .ref a7, .int (zI pg), .int (zI rw), .int (zI un), .int (zI us), .int (zI (be + 1)), .int (zI fi), .int (zI lo)])), (a3, .inl (cI, 16, .inl (zA (zU c1 p1 ((c1 p1) + 1))))), (a4, .inl (cI, 16, .inl (zA (zU b1 p1 ((b1 p1) + t1))))), (a5, .inl (cI, 16, .inl (zA (zU f1 p1 ((f1 p1) + u1))))), (a6, .inl (cI, 16, .inl (zA (zU s1 p1 j1))))] C (by omega) (by omega) rfl rfl rfl dX1_bear_67 rfl ?_
        refine zj_aload_n 69 0 C dX1_bear_68 rfl rfl rfl ?_
        refine zj_dup 70 C dX1_bear_69 rfl rfl ?_
        refine zj_get 73 0 13 C (T := TX1) im_X1_bear_1 fl_X1_bear_52 rfl rfl (by decide) rfl rfl dX1_bear_70 rfl ?_
        refine zj_iload_n 74 3 C dX1_bear_73 rfl rfl rfl ?_
        refine zj_iadd 75 C dX1_bear_74 rfl ?_
        refine zj_put 78 0 13 [(q1, .inr (1, [.ref a0, .ref a1, .ref a2, .ref a3, .ref a4, .ref a5, .ref a6, .ref a7, .int (zI pg), .int (zI rw), .int (zI un), .int (zI us), .int (zI (be + 1)), .int (zI (fi + u1)), .int (zI lo)])), (a3, .inl (cI, 16, .inl (zA (zU c1 p1 ((c1 p1) + 1))))), (a4, .inl (cI, 16, .inl (zA (zU b1 p1 ((b1 p1) + t1))))), (a5, .inl (cI, 16, .inl (zA (zU f1 p1 ((f1 p1) + u1))))), (a6, .inl (cI, 16, .inl (zA (zU s1 p1 j1))))] C (T := TX1) tyX1 tyX1_ok nmX1 im_X1_bear_1 fl_X1_bear_52 rfl rfl (by decide) rfl rfl rfl rfl rfl (Nat.le_of_ble_eq_true rfl) rfl dX1_bear_75 rfl ?_
        refine zj_aload_n 79 0 C dX1_bear_78 rfl rfl rfl ?_
        refine zj_iload_n 80 1 C dX1_bear_79 rfl rfl rfl ?_
        refine zj_iconst 81 C dX1_bear_80 rfl ?_
        refine zj_iadd 82 C dX1_bear_81 rfl ?_
        refine zj_put 85 0 11 [(q1, .inr (1, [.ref a0, .ref a1, .ref a2, .ref a3, .ref a4, .ref a5, .ref a6, .ref a7, .int (zI pg), .int (zI rw), .int (zI un), .int (zI (p1 + 1)), .int (zI (be + 1)), .int (zI (fi + u1)), .int (zI lo)])), (a3, .inl (cI, 16, .inl (zA (zU c1 p1 ((c1 p1) + 1))))), (a4, .inl (cI, 16, .inl (zA (zU b1 p1 ((b1 p1) + t1))))), (a5, .inl (cI, 16, .inl (zA (zU f1 p1 ((f1 p1) + u1))))), (a6, .inl (cI, 16, .inl (zA (zU s1 p1 j1))))] C (T := TX1) tyX1 tyX1_ok nmX1 im_X1_bear_1 fl_X1_bear_46 rfl rfl (by decide) rfl rfl rfl rfl rfl (Nat.le_of_ble_eq_true rfl) rfl dX1_bear_82 rfl ?_
        refine zj_ws (ws' := [(q1, .inr (1, [.ref a0, .ref a1, .ref a2, .ref a3, .ref a4, .ref a5, .ref a6, .ref a7, .int (zI pg), .int (zI rw), .int (zI un), .int (zI (p1 + 1)), .int (zI (zBe c1 be p1)), .int (zI (fi + u1)), .int (zI lo)])), (a3, .inl (cI, 16, .inl (zA (zU c1 p1 (c1 p1 + 1))))), (a4, .inl (cI, 16, .inl (zA (zU b1 p1 (b1 p1 + t1))))), (a5, .inl (cI, 16, .inl (zA (zU f1 p1 (f1 p1 + u1))))), (a6, .inl (cI, 16, .inl (zA (zFs c1 s1 p1 j1))))]) (by rw [show zFs c1 s1 p1 j1 = zU s1 p1 j1 from by unfold zFs; simp [h17], show zBe c1 be p1 = be + 1 from by unfold zBe; simp [h17]]) ?_
        subst hQ
        exact zj_return C hr rfl (by decide) (by decide) dX1_bear_85
    · exact absurd h_2 (by omega)

theorem fl_X1_goOnIfTooManyBeats_36 : Cond.fieldLink RX1 36 "SplashPages$Layout" "pageOfNow" "I" ∈ wsX1_goOnIfTooManyBeats := by decide +kernel
theorem im_X1_goOnIfTooManyBeats_1 : ∀ w ∈ u_ws RX1 TX1 15, w ∈ wsX1_goOnIfTooManyBeats := by decide +kernel
theorem fl_X1_goOnIfTooManyBeats_24 : Cond.fieldLink RX1 24 "SplashPages$Layout" "pageBeats" "[I" ∈ wsX1_goOnIfTooManyBeats := by decide +kernel
theorem wn_X1_goOnIfTooManyBeats_RX4 : Cond.initialized RX4 ∈ wsX1_goOnIfTooManyBeats := by decide +kernel
theorem nm_RX1_81 : Cond.methodLinkNest RX1 81 yX4_read "SplashPages" ∈ zNW := by decide +kernel
theorem wst_X1_goOnIfTooManyBeats_X4_read : Cond.static yX4_read ∈ wsX1_goOnIfTooManyBeats := by decide +kernel
abbrev rm_X1_goOnIfTooManyBeats : Room := { frames := 1, cells := 0, slots := 0, locals := 21 }
set_option maxRecDepth 100000 in
set_option maxHeartbeats 4000000 in
theorem c_X1_goOnIfTooManyBeats (l : Launch) (D : va_G) (cI cS cJ : ClassId) (q1 : Nat) (a0 : Nat) (a1 : Nat) (a2 : Nat) (a3 : Nat) (a4 : Nat) (a5 : Nat) (a6 : Nat) (a7 : Nat) (pg : Int) (rw : Int) (un : Int) (us : Int) (be : Int) (fi : Int) (lo : Int) (c1 : Int → Int) (b1 : Int → Int) (t1 : Int) (s1 : Int) (hp : 0 ≤ pg ∧ pg ≤ 16) (ht : 1 ≤ t1 ∧ t1 ≤ 9) (hs : 0 ≤ s1 ∧ s1 ≤ 1000) (hc : ∀ x, 0 ≤ c1 x ∧ c1 x ≤ 1000) (hb : ∀ x, 0 ≤ b1 x ∧ b1 x ≤ 10000) : zMv l yX1_goOnIfTooManyBeats wsX1_goOnIfTooManyBeats rm_X1_goOnIfTooManyBeats D (zTy cI cS cJ) [.ref q1, .int (zI t1), .int (zI s1)] [(q1, .inr (1, [.ref a0, .ref a1, .ref a2, .ref a3, .ref a4, .ref a5, .ref a6, .ref a7, .int (zI pg), .int (zI rw), .int (zI un), .int (zI us), .int (zI be), .int (zI fi), .int (zI lo)])), (a3, .inl (cI, 16, .inl (zA c1))), (a4, .inl (cI, 16, .inl (zA b1)))] (fun w => ∃ (x1 : Int), ∃ (x2 : Int), ∃ (x3 : Int), ((zGc c1 b1 pg t1 s1 ∧ x1 = pg + 1 ∧ x2 = 0 ∧ x3 = 0) ∨ (¬ zGc c1 b1 pg t1 s1 ∧ x1 = pg ∧ x2 = rw ∧ x3 = un)) ∧ w = [(q1, .inr (1, [.ref a0, .ref a1, .ref a2, .ref a3, .ref a4, .ref a5, .ref a6, .ref a7, .int (zI x1), .int (zI x2), .int (zI x3), .int (zI us), .int (zI be), .int (zI fi), .int (zI lo)])), (a3, .inl (cI, 16, .inl (zA c1))), (a4, .inl (cI, 16, .inl (zA b1)))]) 0 0 := by
  intro sz
  refine zMet_of (Qc := fun A => va_Qv _ (zB D (zTy cI cS cJ) A) A) RX1 [(0, .ref q1), (1, .int (zI t1)), (2, .int (zI s1))] rfl (by decide +kernel) rfl (Nat.le_of_ble_eq_true rfl) rfl ?_ sz
  intro p e s m args below meth c A Q hQ C hr hini
  have hbv := hb pg
  have hcv := hc pg
  refine zj_aload_n 1 0 C dX1_goOnIfTooManyBeats_0 rfl rfl rfl ?_
  refine zj_aload_n 2 0 C dX1_goOnIfTooManyBeats_1 rfl rfl rfl ?_
  refine zj_get 5 0 8 C (T := TX1) im_X1_goOnIfTooManyBeats_1 fl_X1_goOnIfTooManyBeats_36 rfl rfl (by decide) rfl rfl dX1_goOnIfTooManyBeats_2 rfl ?_
  refine zj_ci 8 [0, 1] [2] C (wr := [(a4, .inl (cI, 16, .inl (zA b1)))]) (zr_V [0, 1] C (As := [.int (zI pg)]) (rest := []) (c_X1_isBearing l D cI cS cJ q1 a0 a1 a2 a3 a4 a5 a6 a7 pg rw un us be fi lo c1 pg (by omega) hc) (cwV 1 C.1.2.2.2.2 gX1_goOnIfTooManyBeats_X1_isBearing rfl rfl rfl (by decide +kernel) ⟨Nat.le_of_ble_eq_true rfl, Nat.le_of_ble_eq_true rfl⟩) rfl (by decide) 0 rfl rfl rfl rfl (Nat.le_of_ble_eq_true rfl) dX1_goOnIfTooManyBeats_5 ⟨Nat.le_of_ble_eq_true rfl, Nat.le_of_ble_eq_true rfl⟩) rfl rfl (by decide) (by decide) rfl (fun r_1 w_ hp_2 => ?_)
  obtain ⟨r1_3, f_4, rfl, rfl⟩ := hp_2
  refine zj_ws (ws' := [(a4, .inl (cI, 16, .inl (zA b1))), (q1, .inr (1, [.ref a0, .ref a1, .ref a2, .ref a3, .ref a4, .ref a5, .ref a6, .ref a7, .int (zI pg), .int (zI rw), .int (zI un), .int (zI us), .int (zI be), .int (zI fi), .int (zI lo)])), (a3, .inl (cI, 16, .inl (zA c1)))]) rfl ?_
  refine zj_if_eq 11 38 C (by omega) dX1_goOnIfTooManyBeats_8 rfl (by decide) (fun h_5 => ?_) (fun h_5 => ?_)
  · skip
    refine zj_re [1, 2, 0] [(q1, .inr (1, [.ref a0, .ref a1, .ref a2, .ref a3, .ref a4, .ref a5, .ref a6, .ref a7, .int (zI pg), .int (zI rw), .int (zI un), .int (zI us), .int (zI be), .int (zI fi), .int (zI lo)])), (a3, .inl (cI, 16, .inl (zA c1))), (a4, .inl (cI, 16, .inl (zA b1)))] (by decide) rfl ?_
    subst hQ
    exact zj_return C hr ⟨pg, rw, un, (by unfold zGc; omega), rfl⟩ (by decide) (by decide) dX1_goOnIfTooManyBeats_38
  · skip
    refine zj_aload_n 12 0 C dX1_goOnIfTooManyBeats_11 rfl rfl rfl ?_
    refine zj_get 15 1 4 C (T := TX1) im_X1_goOnIfTooManyBeats_1 fl_X1_goOnIfTooManyBeats_24 rfl rfl (by decide) rfl rfl dX1_goOnIfTooManyBeats_12 rfl ?_
    refine zj_aload_n 16 0 C dX1_goOnIfTooManyBeats_15 rfl rfl rfl ?_
    refine zj_get 19 1 8 C (T := TX1) im_X1_goOnIfTooManyBeats_1 fl_X1_goOnIfTooManyBeats_36 rfl rfl (by decide) rfl rfl dX1_goOnIfTooManyBeats_16 rfl ?_
    refine zj_ci 22 [0] [1, 2] C (wr := [(q1, .inr (1, [.ref a0, .ref a1, .ref a2, .ref a3, .ref a4, .ref a5, .ref a6, .ref a7, .int (zI pg), .int (zI rw), .int (zI un), .int (zI us), .int (zI be), .int (zI fi), .int (zI lo)])), (a3, .inl (cI, 16, .inl (zA c1)))]) (zr_SN [0] C (As := [.ref a4, .int (zI pg)]) (rest := []) (c_X4_read l D cI cS cJ a4 16 b1 pg (by omega) (by omega)) (⟨va_cnB 2 C.1.2.2.2.2 gX1_goOnIfTooManyBeats_X4_read_n81 rfl rfl rfl (C.2.2.2.2.1 _ nm_RX1_81) (C.1.2.2.2.2 _ wn_X1_goOnIfTooManyBeats_RX4) (by decide +kernel) ⟨Nat.le_of_ble_eq_true rfl, Nat.le_of_ble_eq_true rfl⟩, C.1.2.2.2.2 _ wst_X1_goOnIfTooManyBeats_X4_read, trivial⟩) rfl (by decide) rfl rfl (Nat.le_of_ble_eq_true rfl) dX1_goOnIfTooManyBeats_19 ⟨Nat.le_of_ble_eq_true rfl, Nat.le_of_ble_eq_true rfl⟩) rfl rfl (by decide) (by decide) rfl (fun r_6 w_ hp_7 => ?_)
    obtain ⟨rfl, rfl⟩ := hp_7
    refine zj_ws (ws' := [(q1, .inr (1, [.ref a0, .ref a1, .ref a2, .ref a3, .ref a4, .ref a5, .ref a6, .ref a7, .int (zI pg), .int (zI rw), .int (zI un), .int (zI us), .int (zI be), .int (zI fi), .int (zI lo)])), (a3, .inl (cI, 16, .inl (zA c1))), (a4, .inl (cI, 16, .inl (zA b1)))]) rfl ?_
    refine zj_iload_n 23 1 C dX1_goOnIfTooManyBeats_22 rfl rfl rfl ?_
    refine zj_iadd 24 C dX1_goOnIfTooManyBeats_23 rfl ?_
    refine zj_iload_n 25 2 C dX1_goOnIfTooManyBeats_24 rfl rfl rfl ?_
    refine zj_icmp_le 28 38 C (by omega) (by omega) dX1_goOnIfTooManyBeats_25 rfl (by decide) (fun h_8 => ?_) (fun h_8 => ?_)
    · skip
      subst hQ
      exact zj_return C hr ⟨pg, rw, un, (by unfold zGc; omega), rfl⟩ (by decide) (by decide) dX1_goOnIfTooManyBeats_38
    · skip
      refine zj_aload_n 29 0 C dX1_goOnIfTooManyBeats_28 rfl rfl rfl ?_
      refine zj_aload_n 30 0 C dX1_goOnIfTooManyBeats_29 rfl rfl rfl ?_
      refine zj_get 33 0 8 C (T := TX1) im_X1_goOnIfTooManyBeats_1 fl_X1_goOnIfTooManyBeats_36 rfl rfl (by decide) rfl rfl dX1_goOnIfTooManyBeats_30 rfl ?_
      refine zj_iconst 34 C dX1_goOnIfTooManyBeats_33 rfl ?_
      refine zj_iadd 35 C dX1_goOnIfTooManyBeats_34 rfl ?_
      refine zj_cv 38 [0] [1, 2] C (wr := [(a3, .inl (cI, 16, .inl (zA c1))), (a4, .inl (cI, 16, .inl (zA b1)))]) (zr_V [0] C (As := [.int (zI (pg + 1))]) (rest := []) (c_X1_beginPage l D cI cS cJ q1 a0 a1 a2 a3 a4 a5 a6 a7 pg rw un us be fi lo (pg + 1)) (cwV 1 C.1.2.2.2.2 gX1_goOnIfTooManyBeats_X1_beginPage rfl rfl rfl (by decide +kernel) ⟨Nat.le_of_ble_eq_true rfl, Nat.le_of_ble_eq_true rfl⟩) rfl (by decide) 0 rfl rfl rfl rfl (Nat.le_of_ble_eq_true rfl) dX1_goOnIfTooManyBeats_35 ⟨Nat.le_of_ble_eq_true rfl, Nat.le_of_ble_eq_true rfl⟩) rfl rfl (by decide) (by decide) rfl (fun w_ hp_10 => ?_)
      obtain rfl := hp_10
      refine zj_ws (ws' := [(a3, .inl (cI, 16, .inl (zA c1))), (a4, .inl (cI, 16, .inl (zA b1))), (q1, .inr (1, [.ref a0, .ref a1, .ref a2, .ref a3, .ref a4, .ref a5, .ref a6, .ref a7, .int (zI (pg + 1)), .int (zI 0), .int (zI 0), .int (zI us), .int (zI be), .int (zI fi), .int (zI lo)]))]) rfl ?_
      refine zj_re [2, 0, 1] [(q1, .inr (1, [.ref a0, .ref a1, .ref a2, .ref a3, .ref a4, .ref a5, .ref a6, .ref a7, .int (zI (pg + 1)), .int (zI 0), .int (zI 0), .int (zI us), .int (zI be), .int (zI fi), .int (zI lo)])), (a3, .inl (cI, 16, .inl (zA c1))), (a4, .inl (cI, 16, .inl (zA b1)))] (by decide) rfl ?_
      subst hQ
      exact zj_return C hr ⟨(pg + 1), 0, 0, (by unfold zGc; omega), rfl⟩ (by decide) (by decide) dX1_goOnIfTooManyBeats_38

/-! ===== pouring, in pure words ===== -/
def zF0 (c : Int → Int) (pg : Int) : Int := if pg < 16 ∧ 0 < c pg then pg + 1 else pg
/-- the first page for a panel of tk whole pages -/
def zFst (c : Int → Int) (pg tk : Int) : Int := if tk = 2 ∧ zF0 c pg % 2 = 1 then zF0 c pg + 1 else zF0 c pg
/-- pages' panels, beats, units, first panels; pages used, pages that bear, units -/
abbrev ZB : Type := (Int → Int) × (Int → Int) × (Int → Int) × (Int → Int) × Int × Int × Int
/-- one more panel on page p -/
def zBear (p j u t : Int) (B : ZB) : ZB := (zU B.1 p (B.1 p + 1), zU B.2.1 p (B.2.1 p + t), zU B.2.2.1 p (B.2.2.1 p + u), zFs B.1 B.2.2.2.1 p j, p + 1, zBe B.1 B.2.2.2.2.2.1 p, B.2.2.2.2.2.2 + u)
def zWhole (F tk j t : Int) (B : ZB) : ZB := if tk = 2 then zBear (F + 1) j 24 0 (zBear F j 24 t B) else zBear F j 24 t B
def zX2 (w : Int) (x : Int × Int × Int) : Int × Int × Int := if 6 - x.2.2 < w then (zRp x.1 x.2.1, zRr x.2.1, 0) else x
def zX3 (bd : Int) (x : Int × Int × Int) : Int × Int × Int := if bd = 1 ∧ x.1 % 2 = 0 ∧ x.2.2 ≠ 0 then (zRp x.1 x.2.1, zRr x.2.1, 0) else x
def zXu (bd w : Int) (x : Int × Int × Int) : Int := if bd = 1 ∧ x.1 % 2 = 1 then 6 - w else x.2.2
/-- where a plain or bleeding panel comes to stand -/
def zXr (sg bd w t pg rw un : Int) (c b : Int → Int) : Int × Int × Int := zX3 bd (zX2 w (if zGc c b pg t sg then (pg + 1, 0, 0) else (pg, rw, un)))
/-- page, row, unit of a panel; page -1 if there is no place -/
def zPlc (sg k w t pg rw un : Int) (c b : Int → Int) : Int × Int × Int :=
  if k < 2 then (if (zXr sg k w t pg rw un c b).1 < 16 then ((zXr sg k w t pg rw un c b).1, (zXr sg k w t pg rw un c b).2.1, zXu k w (zXr sg k w t pg rw un c b)) else (-1, -1, -1))
  else (if zFst c pg (k - 1) + (k - 1) ≤ 16 then (zFst c pg (k - 1), -1, -1) else (-1, -1, -1))
/-- page, row, unit of now; pages' bleeding panels; the rest -/
abbrev ZL : Type := Int × Int × Int × (Int → Int) × ZB
def zL0 : ZL := (0, 0, 0, fun _ => 0, fun _ => 0, fun _ => 0, fun _ => 0, fun _ => 0, 0, 0, 0)
def zPlL (sg k w t : Int) (L : ZL) : Int × Int × Int := zPlc sg k w t L.1 L.2.1 L.2.2.1 L.2.2.2.2.1 L.2.2.2.2.2.1
def zNext (sg k w t j : Int) (L : ZL) : ZL :=
  if k < 2 then ((zPlL sg k w t L).1, (zPlL sg k w t L).2.1, (zPlL sg k w t L).2.2 + w, (if k = 1 then zU L.2.2.2.1 (zPlL sg k w t L).1 (L.2.2.2.1 (zPlL sg k w t L).1 + 1) else L.2.2.2.1), zBear (zPlL sg k w t L).1 j w t L.2.2.2.2)
  else ((zPlL sg k w t L).1 + (k - 1), 0, 0, L.2.2.2.1, zWhole (zPlL sg k w t L).1 (k - 1) j t L.2.2.2.2)
/-- behind n panels: whether all of them were set, and the pages -/
def zSeq (sg : Int) (K W T : Int → Int) : Nat → Bool × ZL
  | 0 => (true, zL0)
  | j + 1 => if (zSeq sg K W T j).1 = true ∧ (zPlL sg (K j) (W j) (T j) (zSeq sg K W T j).2).1 ≠ -1 then (true, zNext sg (K j) (W j) (T j) j (zSeq sg K W T j).2) else (false, (zSeq sg K W T j).2)
/-- the place of panel j; (-1, -1, -1) if it is left out -/
def zPos (sg : Int) (K W T : Int → Int) (j : Nat) : Int × Int × Int := if (zSeq sg K W T (j + 1)).1 = true then zPlL sg (K j) (W j) (T j) (zSeq sg K W T j).2 else (-1, -1, -1)

theorem fl_X1_placeOnWholePages_36 : Cond.fieldLink RX1 36 "SplashPages$Layout" "pageOfNow" "I" ∈ wsX1_placeOnWholePages := by decide +kernel
theorem im_X1_placeOnWholePages_1 : ∀ w ∈ u_ws RX1 TX1 15, w ∈ wsX1_placeOnWholePages := by decide +kernel
abbrev rm_X1_placeOnWholePages : Room := { frames := 1, cells := 0, slots := 0, locals := 24 }
set_option maxRecDepth 100000 in
set_option maxHeartbeats 4000000 in
theorem c_X1_placeOnWholePages (l : Launch) (D : va_G) (cI cS cJ : ClassId) (q1 : Nat) (a0 : Nat) (a1 : Nat) (a2 : Nat) (a3 : Nat) (a4 : Nat) (a5 : Nat) (a6 : Nat) (a7 : Nat) (pg : Int) (rw : Int) (un : Int) (us : Int) (be : Int) (fi : Int) (lo : Int) (P1 : Int → Int) (R1 : Int → Int) (U1 : Int → Int) (c1 : Int → Int) (b1 : Int → Int) (f1 : Int → Int) (s1 : Int → Int) (j1 : Int) (t1 : Int) (k1 : Int) (hp : 0 ≤ pg ∧ pg ≤ 16) (hj : 0 ≤ j1 ∧ j1 < 24) (hk : k1 = 1 ∨ k1 = 2) (hc : ∀ x, 0 ≤ c1 x ∧ c1 x ≤ 1000) : zMi l yX1_placeOnWholePages wsX1_placeOnWholePages rm_X1_placeOnWholePages D (zTy cI cS cJ) [.ref q1, .int (zI j1), .int (zI t1), .int (zI k1)] [(q1, .inr (1, [.ref a0, .ref a1, .ref a2, .ref a3, .ref a4, .ref a5, .ref a6, .ref a7, .int (zI pg), .int (zI rw), .int (zI un), .int (zI us), .int (zI be), .int (zI fi), .int (zI lo)])), (a0, .inl (cI, 24, .inl (zA P1))), (a1, .inl (cI, 24, .inl (zA R1))), (a2, .inl (cI, 24, .inl (zA U1))), (a3, .inl (cI, 16, .inl (zA c1))), (a4, .inl (cI, 16, .inl (zA b1))), (a5, .inl (cI, 16, .inl (zA f1))), (a6, .inl (cI, 16, .inl (zA s1)))] (fun r w => ∃ (r1 : Int), ∃ (pg2 : Int), ∃ (rw2 : Int), ∃ (un2 : Int), ∃ (us2 : Int), ∃ (be2 : Int), ∃ (fi2 : Int), ∃ (P2 : Int → Int), ∃ (R2 : Int → Int), ∃ (U2 : Int → Int), ∃ (c2 : Int → Int), ∃ (b2 : Int → Int), ∃ (f2 : Int → Int), ∃ (s2 : Int → Int), ((r1 = 0 ∧ ¬ (zFst c1 pg k1 + k1 ≤ 16) ∧ P2 = P1 ∧ R2 = R1 ∧ U2 = U1 ∧ pg2 = pg ∧ rw2 = rw ∧ un2 = un ∧ (c2, b2, f2, s2, us2, be2, fi2) = (c1, b1, f1, s1, us, be, fi)) ∨ (r1 = 1 ∧ zFst c1 pg k1 + k1 ≤ 16 ∧ P2 = zU P1 j1 (zFst c1 pg k1) ∧ R2 = zU R1 j1 (-1) ∧ U2 = zU U1 j1 (-1) ∧ pg2 = zFst c1 pg k1 + k1 ∧ rw2 = 0 ∧ un2 = 0 ∧ (c2, b2, f2, s2, us2, be2, fi2) = zWhole (zFst c1 pg k1) k1 j1 t1 (c1, b1, f1, s1, us, be, fi))) ∧ r = zI r1 ∧ w = [(q1, .inr (1, [.ref a0, .ref a1, .ref a2, .ref a3, .ref a4, .ref a5, .ref a6, .ref a7, .int (zI pg2), .int (zI rw2), .int (zI un2), .int (zI us2), .int (zI be2), .int (zI fi2), .int (zI lo)])), (a0, .inl (cI, 24, .inl (zA P2))), (a1, .inl (cI, 24, .inl (zA R2))), (a2, .inl (cI, 24, .inl (zA U2))), (a3, .inl (cI, 16, .inl (zA c2))), (a4, .inl (cI, 16, .inl (zA b2))), (a5, .inl (cI, 16, .inl (zA f2))), (a6, .inl (cI, 16, .inl (zA s2)))]) 0 0 := by
  intro sz
  refine zMet_of (Qc := fun A => va_Qi _ (zB D (zTy cI cS cJ) A) A) RX1 [(0, .ref q1), (1, .int (zI j1)), (2, .int (zI t1)), (3, .int (zI k1))] rfl (by decide +kernel) rfl (Nat.le_of_ble_eq_true rfl) rfl ?_ sz
  intro p e s m args below meth c A Q hQ C hr hini
  have hL42 : ∀ (F : Int), (F = zFst c1 pg k1) → (0 ≤ F ∧ F ≤ 18) → zJ p l e rm_X1_placeOnWholePages s m args below meth c Q D A 5 [(q1, .inr (1, [.ref a0, .ref a1, .ref a2, .ref a3, .ref a4, .ref a5, .ref a6, .ref a7, .int (zI pg), .int (zI rw), .int (zI un), .int (zI us), .int (zI be), .int (zI fi), .int (zI lo)])), (a0, .inl (cI, 24, .inl (zA P1))), (a1, .inl (cI, 24, .inl (zA R1))), (a2, .inl (cI, 24, .inl (zA U1))), (a3, .inl (cI, 16, .inl (zA c1))), (a4, .inl (cI, 16, .inl (zA b1))), (a5, .inl (cI, 16, .inl (zA f1))), (a6, .inl (cI, 16, .inl (zA s1)))] 0 0 [(0, .ref q1), (1, .int (zI j1)), (2, .int (zI t1)), (3, .int (zI k1)), (4, .int (zI F))] 42 [] := by
    intro F hF hF2
    refine zj_iload 44 4 C dX1_placeOnWholePages_42 rfl rfl ?_
    refine zj_iload_n 45 3 C dX1_placeOnWholePages_44 rfl rfl rfl ?_
    refine zj_iadd 46 C dX1_placeOnWholePages_45 rfl ?_
    refine zj_bipush 48 C dX1_placeOnWholePages_46 rfl rfl ?_
    refine zj_icmp_le 51 53 C (by omega) (by omega) dX1_placeOnWholePages_48 rfl (by decide) (fun h48 => ?_) (fun h48 => ?_)
    · skip
      refine zj_aload_n 54 0 C dX1_placeOnWholePages_53 rfl rfl rfl ?_
      refine zj_iload_n 55 1 C dX1_placeOnWholePages_54 rfl rfl rfl ?_
      refine zj_iload 57 4 C dX1_placeOnWholePages_55 rfl rfl ?_
      refine zj_iconst 58 C dX1_placeOnWholePages_57 rfl ?_
      refine zj_iconst 59 C dX1_placeOnWholePages_58 rfl ?_
      refine zj_cv 62 [0, 1, 2, 3] [4, 5, 6, 7] C (wr := [(a3, .inl (cI, 16, .inl (zA c1))), (a4, .inl (cI, 16, .inl (zA b1))), (a5, .inl (cI, 16, .inl (zA f1))), (a6, .inl (cI, 16, .inl (zA s1)))]) (zr_V [0, 1, 2, 3] C (As := [.int (zI j1), .int (zI F), .int (zI (-1)), .int (zI (-1))]) (rest := []) (c_X1_note l D cI cS cJ q1 a0 a1 a2 a3 a4 a5 a6 a7 pg rw un us be fi lo P1 R1 U1 j1 F (-1) (-1) (by omega)) (cwV 4 C.1.2.2.2.2 gX1_placeOnWholePages_X1_note rfl rfl rfl (by decide +kernel) ⟨Nat.le_of_ble_eq_true rfl, Nat.le_of_ble_eq_true rfl⟩) rfl (by decide) 0 rfl rfl rfl rfl (Nat.le_of_ble_eq_true rfl) dX1_placeOnWholePages_59 ⟨Nat.le_of_ble_eq_true rfl, Nat.le_of_ble_eq_true rfl⟩) rfl rfl (by decide) (by decide) rfl (fun w_ hp_2 => ?_)
      obtain rfl := hp_2
      refine zj_ws (ws' := [(a3, .inl (cI, 16, .inl (zA c1))), (a4, .inl (cI, 16, .inl (zA b1))), (a5, .inl (cI, 16, .inl (zA f1))), (a6, .inl (cI, 16, .inl (zA s1))), (q1, .inr (1, [.ref a0, .ref a1, .ref a2, .ref a3, .ref a4, .ref a5, .ref a6, .ref a7, .int (zI pg), .int (zI rw), .int (zI un), .int (zI us), .int (zI be), .int (zI fi), .int (zI lo)])), (a0, .inl (cI, 24, .inl (zA (zU P1 j1 F)))), (a1, .inl (cI, 24, .inl (zA (zU R1 j1 (-1))))), (a2, .inl (cI, 24, .inl (zA (zU U1 j1 (-1)))))]) rfl ?_
      refine zj_aload_n 63 0 C dX1_placeOnWholePages_62 rfl rfl rfl ?_
      refine zj_iload 65 4 C dX1_placeOnWholePages_63 rfl rfl ?_
      refine zj_iload_n 66 1 C dX1_placeOnWholePages_65 rfl rfl rfl ?_
      refine zj_bipush 68 C dX1_placeOnWholePages_66 rfl rfl ?_
      refine zj_iload_n 69 2 C dX1_placeOnWholePages_68 rfl rfl rfl ?_
      refine zj_cv 72 [4, 0, 1, 2, 3] [5, 6, 7] C (wr := [(a0, .inl (cI, 24, .inl (zA (zU P1 j1 F)))), (a1, .inl (cI, 24, .inl (zA (zU R1 j1 (-1))))), (a2, .inl (cI, 24, .inl (zA (zU U1 j1 (-1)))))]) (zr_V [4, 0, 1, 2, 3] C (As := [.int (zI F), .int (zI j1), .int (zI 24), .int (zI t1)]) (rest := []) (c_X1_bear l D cI cS cJ q1 a0 a1 a2 a3 a4 a5 a6 a7 pg rw un us be fi lo c1 b1 f1 s1 F j1 24 t1 (by omega) (fun x => ⟨(hc x).1, by have := (hc x).2; omega⟩)) (cwV 4 C.1.2.2.2.2 gX1_placeOnWholePages_X1_bear rfl rfl rfl (by decide +kernel) ⟨Nat.le_of_ble_eq_true rfl, Nat.le_of_ble_eq_true rfl⟩) rfl (by decide) 0 rfl rfl rfl rfl (Nat.le_of_ble_eq_true rfl) dX1_placeOnWholePages_69 ⟨Nat.le_of_ble_eq_true rfl, Nat.le_of_ble_eq_true rfl⟩) rfl rfl (by decide) (by decide) rfl (fun w_ hp_4 => ?_)
      obtain rfl := hp_4
      refine zj_ws (ws' := [(a0, .inl (cI, 24, .inl (zA (zU P1 j1 F)))), (a1, .inl (cI, 24, .inl (zA (zU R1 j1 (-1))))), (a2, .inl (cI, 24, .inl (zA (zU U1 j1 (-1))))), (q1, .inr (1, [.ref a0, .ref a1, .ref a2, .ref a3, .ref a4, .ref a5, .ref a6, .ref a7, .int (zI pg), .int (zI rw), .int (zI un), .int (zI (F + 1)), .int (zI (zBe c1 be F)), .int (zI (fi + 24)), .int (zI lo)])), (a3, .inl (cI, 16, .inl (zA (zU c1 F (c1 F + 1))))), (a4, .inl (cI, 16, .inl (zA (zU b1 F (b1 F + t1))))), (a5, .inl (cI, 16, .inl (zA (zU f1 F (f1 F + 24))))), (a6, .inl (cI, 16, .inl (zA (zFs c1 s1 F j1))))]) rfl ?_
      refine zj_iload_n 73 3 C dX1_placeOnWholePages_72 rfl rfl rfl ?_
      refine zj_iconst 74 C dX1_placeOnWholePages_73 rfl ?_
      refine zj_icmp_ne 77 89 C (by omega) (by omega) dX1_placeOnWholePages_74 rfl (by decide) (fun h74 => ?_) (fun h74 => ?_)
      · skip
        refine zj_aload_n 90 0 C dX1_placeOnWholePages_89 rfl rfl rfl ?_
        refine zj_iload 92 4 C dX1_placeOnWholePages_90 rfl rfl ?_
        refine zj_iload_n 93 3 C dX1_placeOnWholePages_92 rfl rfl rfl ?_
        refine zj_iadd 94 C dX1_placeOnWholePages_93 rfl ?_
        refine zj_cv 97 [3] [0, 1, 2, 4, 5, 6, 7] C (wr := [(a0, .inl (cI, 24, .inl (zA (zU P1 j1 F)))), (a1, .inl (cI, 24, .inl (zA (zU R1 j1 (-1))))), (a2, .inl (cI, 24, .inl (zA (zU U1 j1 (-1))))), (a3, .inl (cI, 16, .inl (zA (zU c1 F (c1 F + 1))))), (a4, .inl (cI, 16, .inl (zA (zU b1 F (b1 F + t1))))), (a5, .inl (cI, 16, .inl (zA (zU f1 F (f1 F + 24))))), (a6, .inl (cI, 16, .inl (zA (zFs c1 s1 F j1))))]) (zr_V [3] C (As := [.int (zI (F + k1))]) (rest := []) (c_X1_beginPage l D cI cS cJ q1 a0 a1 a2 a3 a4 a5 a6 a7 pg rw un (F + 1) (zBe c1 be F) (fi + 24) lo (F + k1)) (cwV 1 C.1.2.2.2.2 gX1_placeOnWholePages_X1_beginPage rfl rfl rfl (by decide +kernel) ⟨Nat.le_of_ble_eq_true rfl, Nat.le_of_ble_eq_true rfl⟩) rfl (by decide) 0 rfl rfl rfl rfl (Nat.le_of_ble_eq_true rfl) dX1_placeOnWholePages_94 ⟨Nat.le_of_ble_eq_true rfl, Nat.le_of_ble_eq_true rfl⟩) rfl rfl (by decide) (by decide) rfl (fun w_ hp_6 => ?_)
        obtain rfl := hp_6
        refine zj_ws (ws' := [(a0, .inl (cI, 24, .inl (zA (zU P1 j1 F)))), (a1, .inl (cI, 24, .inl (zA (zU R1 j1 (-1))))), (a2, .inl (cI, 24, .inl (zA (zU U1 j1 (-1))))), (a3, .inl (cI, 16, .inl (zA (zU c1 F (c1 F + 1))))), (a4, .inl (cI, 16, .inl (zA (zU b1 F (b1 F + t1))))), (a5, .inl (cI, 16, .inl (zA (zU f1 F (f1 F + 24))))), (a6, .inl (cI, 16, .inl (zA (zFs c1 s1 F j1)))), (q1, .inr (1, [.ref a0, .ref a1, .ref a2, .ref a3, .ref a4, .ref a5, .ref a6, .ref a7, .int (zI (F + k1)), .int (zI 0), .int (zI 0), .int (zI (F + 1)), .int (zI (zBe c1 be F)), .int (zI (fi + 24)), .int (zI lo)]))]) rfl ?_
        refine zj_iconst 98 C dX1_placeOnWholePages_97 rfl ?_
        refine zj_re [7, 0, 1, 2, 3, 4, 5, 6] [(q1, .inr (1, [.ref a0, .ref a1, .ref a2, .ref a3, .ref a4, .ref a5, .ref a6, .ref a7, .int (zI (F + k1)), .int (zI 0), .int (zI 0), .int (zI (F + 1)), .int (zI (zBe c1 be F)), .int (zI (fi + 24)), .int (zI lo)])), (a0, .inl (cI, 24, .inl (zA (zU P1 j1 F)))), (a1, .inl (cI, 24, .inl (zA (zU R1 j1 (-1))))), (a2, .inl (cI, 24, .inl (zA (zU U1 j1 (-1))))), (a3, .inl (cI, 16, .inl (zA (zU c1 F (c1 F + 1))))), (a4, .inl (cI, 16, .inl (zA (zU b1 F (b1 F + t1))))), (a5, .inl (cI, 16, .inl (zA (zU f1 F (f1 F + 24))))), (a6, .inl (cI, 16, .inl (zA (zFs c1 s1 F j1))))] (by decide) rfl ?_
        subst hQ
        exact zj_zret C (zI_bool (by omega)) hr ⟨1, (F + k1), 0, 0, (F + 1), (zBe c1 be F), (fi + 24), (zU P1 j1 F), (zU R1 j1 (-1)), (zU U1 j1 (-1)), (zU c1 F (c1 F + 1)), (zU b1 F (b1 F + t1)), (zU f1 F (f1 F + 24)), (zFs c1 s1 F j1), (by rw [← hF]; exact Or.inr ⟨rfl, by omega, rfl, rfl, rfl, rfl, rfl, rfl, by unfold zWhole; rw [if_neg (by omega)]; rfl⟩), rfl, rfl⟩ (by decide) (by decide) dX1_placeOnWholePages_98
      · skip
        refine zj_aload_n 78 0 C dX1_placeOnWholePages_77 rfl rfl rfl ?_
        refine zj_iload 80 4 C dX1_placeOnWholePages_78 rfl rfl ?_
        refine zj_iconst 81 C dX1_placeOnWholePages_80 rfl ?_
        refine zj_iadd 82 C dX1_placeOnWholePages_81 rfl ?_
        refine zj_iload_n 83 1 C dX1_placeOnWholePages_82 rfl rfl rfl ?_
        refine zj_bipush 85 C dX1_placeOnWholePages_83 rfl rfl ?_
        refine zj_iconst 86 C dX1_placeOnWholePages_85 rfl ?_
        refine zj_cv 89 [3, 4, 5, 6, 7] [0, 1, 2] C (wr := [(a0, .inl (cI, 24, .inl (zA (zU P1 j1 F)))), (a1, .inl (cI, 24, .inl (zA (zU R1 j1 (-1))))), (a2, .inl (cI, 24, .inl (zA (zU U1 j1 (-1)))))]) (zr_V [3, 4, 5, 6, 7] C (As := [.int (zI (F + 1)), .int (zI j1), .int (zI 24), .int (zI 0)]) (rest := []) (c_X1_bear l D cI cS cJ q1 a0 a1 a2 a3 a4 a5 a6 a7 pg rw un (F + 1) (zBe c1 be F) (fi + 24) lo (zU c1 F (c1 F + 1)) (zU b1 F (b1 F + t1)) (zU f1 F (f1 F + 24)) (zFs c1 s1 F j1) (F + 1) j1 24 0 (by omega) (by intro x; have h := hc x; have h2 := hc F; simp only [zU]; split <;> omega)) (cwV 4 C.1.2.2.2.2 gX1_placeOnWholePages_X1_bear rfl rfl rfl (by decide +kernel) ⟨Nat.le_of_ble_eq_true rfl, Nat.le_of_ble_eq_true rfl⟩) rfl (by decide) 0 rfl rfl rfl rfl (Nat.le_of_ble_eq_true rfl) dX1_placeOnWholePages_86 ⟨Nat.le_of_ble_eq_true rfl, Nat.le_of_ble_eq_true rfl⟩) rfl rfl (by decide) (by decide) rfl (fun w_ hp_8 => ?_)
        obtain rfl := hp_8
        refine zj_ws (ws' := [(a0, .inl (cI, 24, .inl (zA (zU P1 j1 F)))), (a1, .inl (cI, 24, .inl (zA (zU R1 j1 (-1))))), (a2, .inl (cI, 24, .inl (zA (zU U1 j1 (-1))))), (q1, .inr (1, [.ref a0, .ref a1, .ref a2, .ref a3, .ref a4, .ref a5, .ref a6, .ref a7, .int (zI pg), .int (zI rw), .int (zI un), .int (zI ((F + 1) + 1)), .int (zI (zBe (zU c1 F (c1 F + 1)) (zBe c1 be F) (F + 1))), .int (zI ((fi + 24) + 24)), .int (zI lo)])), (a3, .inl (cI, 16, .inl (zA (zU (zU c1 F (c1 F + 1)) (F + 1) ((zU c1 F (c1 F + 1)) (F + 1) + 1))))), (a4, .inl (cI, 16, .inl (zA (zU (zU b1 F (b1 F + t1)) (F + 1) ((zU b1 F (b1 F + t1)) (F + 1) + 0))))), (a5, .inl (cI, 16, .inl (zA (zU (zU f1 F (f1 F + 24)) (F + 1) ((zU f1 F (f1 F + 24)) (F + 1) + 24))))), (a6, .inl (cI, 16, .inl (zA (zFs (zU c1 F (c1 F + 1)) (zFs c1 s1 F j1) (F + 1) j1))))]) rfl ?_
        refine zj_aload_n 90 0 C dX1_placeOnWholePages_89 rfl rfl rfl ?_
        refine zj_iload 92 4 C dX1_placeOnWholePages_90 rfl rfl ?_
        refine zj_iload_n 93 3 C dX1_placeOnWholePages_92 rfl rfl rfl ?_
        refine zj_iadd 94 C dX1_placeOnWholePages_93 rfl ?_
        refine zj_cv 97 [3] [0, 1, 2, 4, 5, 6, 7] C (wr := [(a0, .inl (cI, 24, .inl (zA (zU P1 j1 F)))), (a1, .inl (cI, 24, .inl (zA (zU R1 j1 (-1))))), (a2, .inl (cI, 24, .inl (zA (zU U1 j1 (-1))))), (a3, .inl (cI, 16, .inl (zA (zU (zU c1 F (c1 F + 1)) (F + 1) ((zU c1 F (c1 F + 1)) (F + 1) + 1))))), (a4, .inl (cI, 16, .inl (zA (zU (zU b1 F (b1 F + t1)) (F + 1) ((zU b1 F (b1 F + t1)) (F + 1) + 0))))), (a5, .inl (cI, 16, .inl (zA (zU (zU f1 F (f1 F + 24)) (F + 1) ((zU f1 F (f1 F + 24)) (F + 1) + 24))))), (a6, .inl (cI, 16, .inl (zA (zFs (zU c1 F (c1 F + 1)) (zFs c1 s1 F j1) (F + 1) j1))))]) (zr_V [3] C (As := [.int (zI (F + k1))]) (rest := []) (c_X1_beginPage l D cI cS cJ q1 a0 a1 a2 a3 a4 a5 a6 a7 pg rw un ((F + 1) + 1) (zBe (zU c1 F (c1 F + 1)) (zBe c1 be F) (F + 1)) ((fi + 24) + 24) lo (F + k1)) (cwV 1 C.1.2.2.2.2 gX1_placeOnWholePages_X1_beginPage rfl rfl rfl (by decide +kernel) ⟨Nat.le_of_ble_eq_true rfl, Nat.le_of_ble_eq_true rfl⟩) rfl (by decide) 0 rfl rfl rfl rfl (Nat.le_of_ble_eq_true rfl) dX1_placeOnWholePages_94 ⟨Nat.le_of_ble_eq_true rfl, Nat.le_of_ble_eq_true rfl⟩) rfl rfl (by decide) (by decide) rfl (fun w_ hp_10 => ?_)
        obtain rfl := hp_10
        refine zj_ws (ws' := [(a0, .inl (cI, 24, .inl (zA (zU P1 j1 F)))), (a1, .inl (cI, 24, .inl (zA (zU R1 j1 (-1))))), (a2, .inl (cI, 24, .inl (zA (zU U1 j1 (-1))))), (a3, .inl (cI, 16, .inl (zA (zU (zU c1 F (c1 F + 1)) (F + 1) ((zU c1 F (c1 F + 1)) (F + 1) + 1))))), (a4, .inl (cI, 16, .inl (zA (zU (zU b1 F (b1 F + t1)) (F + 1) ((zU b1 F (b1 F + t1)) (F + 1) + 0))))), (a5, .inl (cI, 16, .inl (zA (zU (zU f1 F (f1 F + 24)) (F + 1) ((zU f1 F (f1 F + 24)) (F + 1) + 24))))), (a6, .inl (cI, 16, .inl (zA (zFs (zU c1 F (c1 F + 1)) (zFs c1 s1 F j1) (F + 1) j1)))), (q1, .inr (1, [.ref a0, .ref a1, .ref a2, .ref a3, .ref a4, .ref a5, .ref a6, .ref a7, .int (zI (F + k1)), .int (zI 0), .int (zI 0), .int (zI ((F + 1) + 1)), .int (zI (zBe (zU c1 F (c1 F + 1)) (zBe c1 be F) (F + 1))), .int (zI ((fi + 24) + 24)), .int (zI lo)]))]) rfl ?_
        refine zj_iconst 98 C dX1_placeOnWholePages_97 rfl ?_
        refine zj_re [7, 0, 1, 2, 3, 4, 5, 6] [(q1, .inr (1, [.ref a0, .ref a1, .ref a2, .ref a3, .ref a4, .ref a5, .ref a6, .ref a7, .int (zI (F + k1)), .int (zI 0), .int (zI 0), .int (zI ((F + 1) + 1)), .int (zI (zBe (zU c1 F (c1 F + 1)) (zBe c1 be F) (F + 1))), .int (zI ((fi + 24) + 24)), .int (zI lo)])), (a0, .inl (cI, 24, .inl (zA (zU P1 j1 F)))), (a1, .inl (cI, 24, .inl (zA (zU R1 j1 (-1))))), (a2, .inl (cI, 24, .inl (zA (zU U1 j1 (-1))))), (a3, .inl (cI, 16, .inl (zA (zU (zU c1 F (c1 F + 1)) (F + 1) ((zU c1 F (c1 F + 1)) (F + 1) + 1))))), (a4, .inl (cI, 16, .inl (zA (zU (zU b1 F (b1 F + t1)) (F + 1) ((zU b1 F (b1 F + t1)) (F + 1) + 0))))), (a5, .inl (cI, 16, .inl (zA (zU (zU f1 F (f1 F + 24)) (F + 1) ((zU f1 F (f1 F + 24)) (F + 1) + 24))))), (a6, .inl (cI, 16, .inl (zA (zFs (zU c1 F (c1 F + 1)) (zFs c1 s1 F j1) (F + 1) j1))))] (by decide) rfl ?_
        subst hQ
        exact zj_zret C (zI_bool (by omega)) hr ⟨1, (F + k1), 0, 0, ((F + 1) + 1), (zBe (zU c1 F (c1 F + 1)) (zBe c1 be F) (F + 1)), ((fi + 24) + 24), (zU P1 j1 F), (zU R1 j1 (-1)), (zU U1 j1 (-1)), (zU (zU c1 F (c1 F + 1)) (F + 1) ((zU c1 F (c1 F + 1)) (F + 1) + 1)), (zU (zU b1 F (b1 F + t1)) (F + 1) ((zU b1 F (b1 F + t1)) (F + 1) + 0)), (zU (zU f1 F (f1 F + 24)) (F + 1) ((zU f1 F (f1 F + 24)) (F + 1) + 24)), (zFs (zU c1 F (c1 F + 1)) (zFs c1 s1 F j1) (F + 1) j1), (by rw [← hF]; exact Or.inr ⟨rfl, by omega, rfl, rfl, rfl, rfl, rfl, rfl, by unfold zWhole; rw [if_pos (by omega)]; rfl⟩), rfl, rfl⟩ (by decide) (by decide) dX1_placeOnWholePages_98
    · skip
      refine zj_iconst 52 C dX1_placeOnWholePages_51 rfl ?_
      subst hQ
      exact zj_zret C (zI_bool (by omega)) hr ⟨0, pg, rw, un, us, be, fi, P1, R1, U1, c1, b1, f1, s1, (by exact Or.inl ⟨rfl, by rw [← hF]; omega, rfl, rfl, rfl, rfl, rfl, rfl, rfl⟩), rfl, rfl⟩ (by decide) (by decide) dX1_placeOnWholePages_52
  refine zj_aload_n 1 0 C dX1_placeOnWholePages_0 rfl rfl rfl ?_
  refine zj_aload_n 2 0 C dX1_placeOnWholePages_1 rfl rfl rfl ?_
  refine zj_get 5 0 8 C (T := TX1) im_X1_placeOnWholePages_1 fl_X1_placeOnWholePages_36 rfl rfl (by decide) rfl rfl dX1_placeOnWholePages_2 rfl ?_
  refine zj_ci 8 [0, 4] [1, 2, 3, 5, 6, 7] C (wr := [(a0, .inl (cI, 24, .inl (zA P1))), (a1, .inl (cI, 24, .inl (zA R1))), (a2, .inl (cI, 24, .inl (zA U1))), (a4, .inl (cI, 16, .inl (zA b1))), (a5, .inl (cI, 16, .inl (zA f1))), (a6, .inl (cI, 16, .inl (zA s1)))]) (zr_V [0, 4] C (As := [.int (zI pg)]) (rest := []) (c_X1_isBearing l D cI cS cJ q1 a0 a1 a2 a3 a4 a5 a6 a7 pg rw un us be fi lo c1 pg (by omega) hc) (cwV 1 C.1.2.2.2.2 gX1_placeOnWholePages_X1_isBearing rfl rfl rfl (by decide +kernel) ⟨Nat.le_of_ble_eq_true rfl, Nat.le_of_ble_eq_true rfl⟩) rfl (by decide) 0 rfl rfl rfl rfl (Nat.le_of_ble_eq_true rfl) dX1_placeOnWholePages_5 ⟨Nat.le_of_ble_eq_true rfl, Nat.le_of_ble_eq_true rfl⟩) rfl rfl (by decide) (by decide) rfl (fun r_11 w_ hp_12 => ?_)
  obtain ⟨r1_13, fb, rfl, rfl⟩ := hp_12
  refine zj_ws (ws' := [(a0, .inl (cI, 24, .inl (zA P1))), (a1, .inl (cI, 24, .inl (zA R1))), (a2, .inl (cI, 24, .inl (zA U1))), (a4, .inl (cI, 16, .inl (zA b1))), (a5, .inl (cI, 16, .inl (zA f1))), (a6, .inl (cI, 16, .inl (zA s1))), (q1, .inr (1, [.ref a0, .ref a1, .ref a2, .ref a3, .ref a4, .ref a5, .ref a6, .ref a7, .int (zI pg), .int (zI rw), .int (zI un), .int (zI us), .int (zI be), .int (zI fi), .int (zI lo)])), (a3, .inl (cI, 16, .inl (zA c1)))]) rfl ?_
  refine zj_if_eq 11 20 C (by omega) dX1_placeOnWholePages_8 rfl (by decide) (fun h8 => ?_) (fun h8 => ?_)
  · skip
    refine zj_aload_n 21 0 C dX1_placeOnWholePages_20 rfl rfl rfl ?_
    refine zj_get 24 6 8 C (T := TX1) im_X1_placeOnWholePages_1 fl_X1_placeOnWholePages_36 rfl rfl (by decide) rfl rfl dX1_placeOnWholePages_21 rfl ?_
    refine zj_istore 26 [(4, .int (zI pg)), (0, .ref q1), (1, .int (zI j1)), (2, .int (zI t1)), (3, .int (zI k1))] C dX1_placeOnWholePages_24 rfl (by decide) rfl ?_
    refine zj_iload_n 27 4 C dX1_placeOnWholePages_26 rfl rfl rfl ?_
    refine zj_iconst 28 C dX1_placeOnWholePages_27 rfl ?_
    refine zj_icmp_ne 31 42 C (by omega) (by omega) dX1_placeOnWholePages_28 rfl (by decide) (fun h28 => ?_) (fun h28 => ?_)
    · skip
      refine zj_re [6, 0, 1, 2, 7, 3, 4, 5] [(q1, .inr (1, [.ref a0, .ref a1, .ref a2, .ref a3, .ref a4, .ref a5, .ref a6, .ref a7, .int (zI pg), .int (zI rw), .int (zI un), .int (zI us), .int (zI be), .int (zI fi), .int (zI lo)])), (a0, .inl (cI, 24, .inl (zA P1))), (a1, .inl (cI, 24, .inl (zA R1))), (a2, .inl (cI, 24, .inl (zA U1))), (a3, .inl (cI, 16, .inl (zA c1))), (a4, .inl (cI, 16, .inl (zA b1))), (a5, .inl (cI, 16, .inl (zA f1))), (a6, .inl (cI, 16, .inl (zA s1)))] (by decide) rfl ?_
      refine zj_lv [1, 2, 3, 4, 0] [(0, .ref q1), (1, .int (zI j1)), (2, .int (zI t1)), (3, .int (zI k1)), (4, .int (zI pg))] rfl ?_
      exact hL42 pg (by unfold zFst zF0; split <;> split <;> omega) (by omega)
    · skip
      refine zj_iload 33 0 C dX1_placeOnWholePages_31 rfl rfl ?_
      refine zj_ci 36 [] [0, 1, 2, 3, 4, 5, 6, 7] C (wr := [(a0, .inl (cI, 24, .inl (zA P1))), (a1, .inl (cI, 24, .inl (zA R1))), (a2, .inl (cI, 24, .inl (zA U1))), (a4, .inl (cI, 16, .inl (zA b1))), (a5, .inl (cI, 16, .inl (zA f1))), (a6, .inl (cI, 16, .inl (zA s1))), (q1, .inr (1, [.ref a0, .ref a1, .ref a2, .ref a3, .ref a4, .ref a5, .ref a6, .ref a7, .int (zI pg), .int (zI rw), .int (zI un), .int (zI us), .int (zI be), .int (zI fi), .int (zI lo)])), (a3, .inl (cI, 16, .inl (zA c1)))]) (zr_S [] C (As := [.int (zI pg)]) (rest := []) (c_X1_isOnLeft l D cI cS cJ pg (by omega)) (va_cwS 1 C.1.2.2.2.2 gX1_placeOnWholePages_X1_isOnLeft rfl rfl rfl (by decide +kernel) ⟨Nat.le_of_ble_eq_true rfl, Nat.le_of_ble_eq_true rfl⟩) rfl (by decide) rfl rfl (Nat.le_of_ble_eq_true rfl) dX1_placeOnWholePages_33 ⟨Nat.le_of_ble_eq_true rfl, Nat.le_of_ble_eq_true rfl⟩) rfl rfl (by decide) (by decide) rfl (fun r_14 w_ hp_15 => ?_)
      obtain ⟨r1_16, fl, rfl, rfl⟩ := hp_15
      refine zj_ws (ws' := [(a0, .inl (cI, 24, .inl (zA P1))), (a1, .inl (cI, 24, .inl (zA R1))), (a2, .inl (cI, 24, .inl (zA U1))), (a4, .inl (cI, 16, .inl (zA b1))), (a5, .inl (cI, 16, .inl (zA f1))), (a6, .inl (cI, 16, .inl (zA s1))), (q1, .inr (1, [.ref a0, .ref a1, .ref a2, .ref a3, .ref a4, .ref a5, .ref a6, .ref a7, .int (zI pg), .int (zI rw), .int (zI un), .int (zI us), .int (zI be), .int (zI fi), .int (zI lo)])), (a3, .inl (cI, 16, .inl (zA c1)))]) rfl ?_
      refine zj_if_eq 39 42 C (by omega) dX1_placeOnWholePages_36 rfl (by decide) (fun h36 => ?_) (fun h36 => ?_)
      · skip
        refine zj_re [6, 0, 1, 2, 7, 3, 4, 5] [(q1, .inr (1, [.ref a0, .ref a1, .ref a2, .ref a3, .ref a4, .ref a5, .ref a6, .ref a7, .int (zI pg), .int (zI rw), .int (zI un), .int (zI us), .int (zI be), .int (zI fi), .int (zI lo)])), (a0, .inl (cI, 24, .inl (zA P1))), (a1, .inl (cI, 24, .inl (zA R1))), (a2, .inl (cI, 24, .inl (zA U1))), (a3, .inl (cI, 16, .inl (zA c1))), (a4, .inl (cI, 16, .inl (zA b1))), (a5, .inl (cI, 16, .inl (zA f1))), (a6, .inl (cI, 16, .inl (zA s1)))] (by decide) rfl ?_
        refine zj_lv [1, 2, 3, 4, 0] [(0, .ref q1), (1, .int (zI j1)), (2, .int (zI t1)), (3, .int (zI k1)), (4, .int (zI pg))] rfl ?_
        exact hL42 pg (by unfold zFst zF0; split <;> split <;> omega) (by omega)
      · skip
        refine zj_iinc 42 0 [(4, .int (zI (pg + 1))), (0, .ref q1), (1, .int (zI j1)), (2, .int (zI t1)), (3, .int (zI k1))] C dX1_placeOnWholePages_39 rfl rfl (by decide) rfl ?_
        refine zj_re [6, 0, 1, 2, 7, 3, 4, 5] [(q1, .inr (1, [.ref a0, .ref a1, .ref a2, .ref a3, .ref a4, .ref a5, .ref a6, .ref a7, .int (zI pg), .int (zI rw), .int (zI un), .int (zI us), .int (zI be), .int (zI fi), .int (zI lo)])), (a0, .inl (cI, 24, .inl (zA P1))), (a1, .inl (cI, 24, .inl (zA R1))), (a2, .inl (cI, 24, .inl (zA U1))), (a3, .inl (cI, 16, .inl (zA c1))), (a4, .inl (cI, 16, .inl (zA b1))), (a5, .inl (cI, 16, .inl (zA f1))), (a6, .inl (cI, 16, .inl (zA s1)))] (by decide) rfl ?_
        refine zj_lv [1, 2, 3, 4, 0] [(0, .ref q1), (1, .int (zI j1)), (2, .int (zI t1)), (3, .int (zI k1)), (4, .int (zI (pg + 1)))] rfl ?_
        exact hL42 (pg + 1) (by unfold zFst zF0; split <;> split <;> omega) (by omega)
  · skip
    refine zj_aload_n 12 0 C dX1_placeOnWholePages_11 rfl rfl rfl ?_
    refine zj_get 15 6 8 C (T := TX1) im_X1_placeOnWholePages_1 fl_X1_placeOnWholePages_36 rfl rfl (by decide) rfl rfl dX1_placeOnWholePages_12 rfl ?_
    refine zj_iconst 16 C dX1_placeOnWholePages_15 rfl ?_
    refine zj_iadd 17 C dX1_placeOnWholePages_16 rfl ?_
    refine zj_goto 24 C dX1_placeOnWholePages_17 (by decide) ?_
    refine zj_istore 26 [(4, .int (zI (pg + 1))), (0, .ref q1), (1, .int (zI j1)), (2, .int (zI t1)), (3, .int (zI k1))] C dX1_placeOnWholePages_24 rfl (by decide) rfl ?_
    refine zj_iload_n 27 4 C dX1_placeOnWholePages_26 rfl rfl rfl ?_
    refine zj_iconst 28 C dX1_placeOnWholePages_27 rfl ?_
    refine zj_icmp_ne 31 42 C (by omega) (by omega) dX1_placeOnWholePages_28 rfl (by decide) (fun h28 => ?_) (fun h28 => ?_)
    · skip
      refine zj_re [6, 0, 1, 2, 7, 3, 4, 5] [(q1, .inr (1, [.ref a0, .ref a1, .ref a2, .ref a3, .ref a4, .ref a5, .ref a6, .ref a7, .int (zI pg), .int (zI rw), .int (zI un), .int (zI us), .int (zI be), .int (zI fi), .int (zI lo)])), (a0, .inl (cI, 24, .inl (zA P1))), (a1, .inl (cI, 24, .inl (zA R1))), (a2, .inl (cI, 24, .inl (zA U1))), (a3, .inl (cI, 16, .inl (zA c1))), (a4, .inl (cI, 16, .inl (zA b1))), (a5, .inl (cI, 16, .inl (zA f1))), (a6, .inl (cI, 16, .inl (zA s1)))] (by decide) rfl ?_
      refine zj_lv [1, 2, 3, 4, 0] [(0, .ref q1), (1, .int (zI j1)), (2, .int (zI t1)), (3, .int (zI k1)), (4, .int (zI (pg + 1)))] rfl ?_
      exact hL42 (pg + 1) (by unfold zFst zF0; split <;> split <;> omega) (by omega)
    · skip
      refine zj_iload 33 0 C dX1_placeOnWholePages_31 rfl rfl ?_
      refine zj_ci 36 [] [0, 1, 2, 3, 4, 5, 6, 7] C (wr := [(a0, .inl (cI, 24, .inl (zA P1))), (a1, .inl (cI, 24, .inl (zA R1))), (a2, .inl (cI, 24, .inl (zA U1))), (a4, .inl (cI, 16, .inl (zA b1))), (a5, .inl (cI, 16, .inl (zA f1))), (a6, .inl (cI, 16, .inl (zA s1))), (q1, .inr (1, [.ref a0, .ref a1, .ref a2, .ref a3, .ref a4, .ref a5, .ref a6, .ref a7, .int (zI pg), .int (zI rw), .int (zI un), .int (zI us), .int (zI be), .int (zI fi), .int (zI lo)])), (a3, .inl (cI, 16, .inl (zA c1)))]) (zr_S [] C (As := [.int (zI (pg + 1))]) (rest := []) (c_X1_isOnLeft l D cI cS cJ (pg + 1) (by omega)) (va_cwS 1 C.1.2.2.2.2 gX1_placeOnWholePages_X1_isOnLeft rfl rfl rfl (by decide +kernel) ⟨Nat.le_of_ble_eq_true rfl, Nat.le_of_ble_eq_true rfl⟩) rfl (by decide) rfl rfl (Nat.le_of_ble_eq_true rfl) dX1_placeOnWholePages_33 ⟨Nat.le_of_ble_eq_true rfl, Nat.le_of_ble_eq_true rfl⟩) rfl rfl (by decide) (by decide) rfl (fun r_17 w_ hp_18 => ?_)
      obtain ⟨r1_19, fl, rfl, rfl⟩ := hp_18
      refine zj_ws (ws' := [(a0, .inl (cI, 24, .inl (zA P1))), (a1, .inl (cI, 24, .inl (zA R1))), (a2, .inl (cI, 24, .inl (zA U1))), (a4, .inl (cI, 16, .inl (zA b1))), (a5, .inl (cI, 16, .inl (zA f1))), (a6, .inl (cI, 16, .inl (zA s1))), (q1, .inr (1, [.ref a0, .ref a1, .ref a2, .ref a3, .ref a4, .ref a5, .ref a6, .ref a7, .int (zI pg), .int (zI rw), .int (zI un), .int (zI us), .int (zI be), .int (zI fi), .int (zI lo)])), (a3, .inl (cI, 16, .inl (zA c1)))]) rfl ?_
      refine zj_if_eq 39 42 C (by omega) dX1_placeOnWholePages_36 rfl (by decide) (fun h36 => ?_) (fun h36 => ?_)
      · skip
        refine zj_re [6, 0, 1, 2, 7, 3, 4, 5] [(q1, .inr (1, [.ref a0, .ref a1, .ref a2, .ref a3, .ref a4, .ref a5, .ref a6, .ref a7, .int (zI pg), .int (zI rw), .int (zI un), .int (zI us), .int (zI be), .int (zI fi), .int (zI lo)])), (a0, .inl (cI, 24, .inl (zA P1))), (a1, .inl (cI, 24, .inl (zA R1))), (a2, .inl (cI, 24, .inl (zA U1))), (a3, .inl (cI, 16, .inl (zA c1))), (a4, .inl (cI, 16, .inl (zA b1))), (a5, .inl (cI, 16, .inl (zA f1))), (a6, .inl (cI, 16, .inl (zA s1)))] (by decide) rfl ?_
        refine zj_lv [1, 2, 3, 4, 0] [(0, .ref q1), (1, .int (zI j1)), (2, .int (zI t1)), (3, .int (zI k1)), (4, .int (zI (pg + 1)))] rfl ?_
        exact hL42 (pg + 1) (by unfold zFst zF0; split <;> split <;> omega) (by omega)
      · skip
        refine zj_iinc 42 0 [(4, .int (zI ((pg + 1) + 1))), (0, .ref q1), (1, .int (zI j1)), (2, .int (zI t1)), (3, .int (zI k1))] C dX1_placeOnWholePages_39 rfl rfl (by decide) rfl ?_
        refine zj_re [6, 0, 1, 2, 7, 3, 4, 5] [(q1, .inr (1, [.ref a0, .ref a1, .ref a2, .ref a3, .ref a4, .ref a5, .ref a6, .ref a7, .int (zI pg), .int (zI rw), .int (zI un), .int (zI us), .int (zI be), .int (zI fi), .int (zI lo)])), (a0, .inl (cI, 24, .inl (zA P1))), (a1, .inl (cI, 24, .inl (zA R1))), (a2, .inl (cI, 24, .inl (zA U1))), (a3, .inl (cI, 16, .inl (zA c1))), (a4, .inl (cI, 16, .inl (zA b1))), (a5, .inl (cI, 16, .inl (zA f1))), (a6, .inl (cI, 16, .inl (zA s1)))] (by decide) rfl ?_
        refine zj_lv [1, 2, 3, 4, 0] [(0, .ref q1), (1, .int (zI j1)), (2, .int (zI t1)), (3, .int (zI k1)), (4, .int (zI ((pg + 1) + 1)))] rfl ?_
        exact hL42 ((pg + 1) + 1) (by unfold zFst zF0; split <;> split <;> omega) (by omega)

theorem fl_X1_placeInRow_36 : Cond.fieldLink RX1 36 "SplashPages$Layout" "pageOfNow" "I" ∈ wsX1_placeInRow := by decide +kernel
theorem im_X1_placeInRow_1 : ∀ w ∈ u_ws RX1 TX1 15, w ∈ wsX1_placeInRow := by decide +kernel
theorem fl_X1_placeInRow_40 : Cond.fieldLink RX1 40 "SplashPages$Layout" "rowOfNow" "I" ∈ wsX1_placeInRow := by decide +kernel
theorem fl_X1_placeInRow_43 : Cond.fieldLink RX1 43 "SplashPages$Layout" "nextUnit" "I" ∈ wsX1_placeInRow := by decide +kernel
theorem fl_X1_placeInRow_33 : Cond.fieldLink RX1 33 "SplashPages$Layout" "pageBleeding" "[I" ∈ wsX1_placeInRow := by decide +kernel
theorem wn_X1_placeInRow_RX4 : Cond.initialized RX4 ∈ wsX1_placeInRow := by decide +kernel
theorem wst_X1_placeInRow_X4_read : Cond.static yX4_read ∈ wsX1_placeInRow := by decide +kernel
theorem nm_RX1_119 : Cond.methodLinkNest RX1 119 yX4_write "SplashPages" ∈ zNW := by decide +kernel
theorem wst_X1_placeInRow_X4_write : Cond.static yX4_write ∈ wsX1_placeInRow := by decide +kernel
abbrev rm_X1_placeInRow : Room := { frames := 1, cells := 0, slots := 0, locals := 24 }
set_option maxRecDepth 100000 in
set_option maxHeartbeats 4000000 in
theorem c_X1_placeInRow (l : Launch) (D : va_G) (cI cS cJ : ClassId) (q1 : Nat) (a0 : Nat) (a1 : Nat) (a2 : Nat) (a3 : Nat) (a4 : Nat) (a5 : Nat) (a6 : Nat) (a7 : Nat) (pg : Int) (rw : Int) (un : Int) (us : Int) (be : Int) (fi : Int) (lo : Int) (P1 : Int → Int) (R1 : Int → Int) (U1 : Int → Int) (c1 : Int → Int) (b1 : Int → Int) (f1 : Int → Int) (s1 : Int → Int) (e1 : Int → Int) (j1 : Int) (d1 : Int) (w1 : Int) (t1 : Int) (hp : 0 ≤ pg ∧ pg ≤ 16) (hr1 : 0 ≤ rw ∧ rw ≤ 3) (hu1 : 0 ≤ un ∧ un ≤ 6) (hj : 0 ≤ j1 ∧ j1 < 24) (hd1 : d1 = 0 ∨ d1 = 1) (hw1 : 1 ≤ w1 ∧ w1 ≤ 6) (hc : ∀ x, 0 ≤ c1 x ∧ c1 x ≤ 1000) : zMi l yX1_placeInRow wsX1_placeInRow rm_X1_placeInRow D (zTy cI cS cJ) [.ref q1, .int (zI j1), .int (zI d1), .int (zI w1), .int (zI t1)] [(q1, .inr (1, [.ref a0, .ref a1, .ref a2, .ref a3, .ref a4, .ref a5, .ref a6, .ref a7, .int (zI pg), .int (zI rw), .int (zI un), .int (zI us), .int (zI be), .int (zI fi), .int (zI lo)])), (a0, .inl (cI, 24, .inl (zA P1))), (a1, .inl (cI, 24, .inl (zA R1))), (a2, .inl (cI, 24, .inl (zA U1))), (a3, .inl (cI, 16, .inl (zA c1))), (a4, .inl (cI, 16, .inl (zA b1))), (a5, .inl (cI, 16, .inl (zA f1))), (a6, .inl (cI, 16, .inl (zA s1))), (a7, .inl (cI, 16, .inl (zA e1)))] (fun r w => ∃ (r1 : Int), ∃ (pg2 : Int), ∃ (rw2 : Int), ∃ (un2 : Int), ∃ (us2 : Int), ∃ (be2 : Int), ∃ (fi2 : Int), ∃ (P2 : Int → Int), ∃ (R2 : Int → Int), ∃ (U2 : Int → Int), ∃ (c2 : Int → Int), ∃ (b2 : Int → Int), ∃ (f2 : Int → Int), ∃ (s2 : Int → Int), ∃ (e2 : Int → Int), ((r1 = 0 ∧ ¬ ((zX3 d1 (zX2 w1 (pg, rw, un))).1 < 16) ∧ P2 = P1 ∧ R2 = R1 ∧ U2 = U1 ∧ e2 = e1 ∧ (c2, b2, f2, s2, us2, be2, fi2) = (c1, b1, f1, s1, us, be, fi)) ∨ (r1 = 1 ∧ (zX3 d1 (zX2 w1 (pg, rw, un))).1 < 16 ∧ P2 = zU P1 j1 ((zX3 d1 (zX2 w1 (pg, rw, un))).1) ∧ R2 = zU R1 j1 ((zX3 d1 (zX2 w1 (pg, rw, un))).2.1) ∧ U2 = zU U1 j1 (zXu d1 w1 (zX3 d1 (zX2 w1 (pg, rw, un)))) ∧ pg2 = (zX3 d1 (zX2 w1 (pg, rw, un))).1 ∧ rw2 = (zX3 d1 (zX2 w1 (pg, rw, un))).2.1 ∧ un2 = zXu d1 w1 (zX3 d1 (zX2 w1 (pg, rw, un))) + w1 ∧ e2 = (if d1 = 1 then zU e1 (zX3 d1 (zX2 w1 (pg, rw, un))).1 (e1 (zX3 d1 (zX2 w1 (pg, rw, un))).1 + 1) else e1) ∧ (c2, b2, f2, s2, us2, be2, fi2) = zBear (zX3 d1 (zX2 w1 (pg, rw, un))).1 j1 w1 t1 (c1, b1, f1, s1, us, be, fi))) ∧ r = zI r1 ∧ w = [(q1, .inr (1, [.ref a0, .ref a1, .ref a2, .ref a3, .ref a4, .ref a5, .ref a6, .ref a7, .int (zI pg2), .int (zI rw2), .int (zI un2), .int (zI us2), .int (zI be2), .int (zI fi2), .int (zI lo)])), (a0, .inl (cI, 24, .inl (zA P2))), (a1, .inl (cI, 24, .inl (zA R2))), (a2, .inl (cI, 24, .inl (zA U2))), (a3, .inl (cI, 16, .inl (zA c2))), (a4, .inl (cI, 16, .inl (zA b2))), (a5, .inl (cI, 16, .inl (zA f2))), (a6, .inl (cI, 16, .inl (zA s2))), (a7, .inl (cI, 16, .inl (zA e2)))]) 0 0 := by
  intro sz
  refine zMet_of (Qc := fun A => va_Qi _ (zB D (zTy cI cS cJ) A) A) RX1 [(0, .ref q1), (1, .int (zI j1)), (2, .int (zI d1)), (3, .int (zI w1)), (4, .int (zI t1))] rfl (by decide +kernel) rfl (Nat.le_of_ble_eq_true rfl) rfl ?_ sz
  intro p e s m args below meth c A Q hQ C hr hini
  have hL40 : ∀ (z1 : Int) (z2 : Int) (z3 : Int), ((z1, z2, z3) = zX3 d1 (zX2 w1 (pg, rw, un))) → (0 ≤ z1 ∧ z1 ≤ 18 ∧ 0 ≤ z2 ∧ z2 ≤ 3 ∧ 0 ≤ z3 ∧ z3 ≤ 6) → zJ p l e rm_X1_placeInRow s m args below meth c Q D A 6 [(q1, .inr (1, [.ref a0, .ref a1, .ref a2, .ref a3, .ref a4, .ref a5, .ref a6, .ref a7, .int (zI z1), .int (zI z2), .int (zI z3), .int (zI us), .int (zI be), .int (zI fi), .int (zI lo)])), (a0, .inl (cI, 24, .inl (zA P1))), (a1, .inl (cI, 24, .inl (zA R1))), (a2, .inl (cI, 24, .inl (zA U1))), (a3, .inl (cI, 16, .inl (zA c1))), (a4, .inl (cI, 16, .inl (zA b1))), (a5, .inl (cI, 16, .inl (zA f1))), (a6, .inl (cI, 16, .inl (zA s1))), (a7, .inl (cI, 16, .inl (zA e1)))] 0 0 [(0, .ref q1), (1, .int (zI j1)), (2, .int (zI d1)), (3, .int (zI w1)), (4, .int (zI t1))] 40 [] := by
    intro z1 z2 z3 hz hz2
    have hL78 : ∀ (u5 : Int), (z1 < 16) → (u5 = zXu d1 w1 (z1, z2, z3)) → (0 ≤ u5 ∧ u5 ≤ 6) → zJ p l e rm_X1_placeInRow s m args below meth c Q D A 6 [(q1, .inr (1, [.ref a0, .ref a1, .ref a2, .ref a3, .ref a4, .ref a5, .ref a6, .ref a7, .int (zI z1), .int (zI z2), .int (zI z3), .int (zI us), .int (zI be), .int (zI fi), .int (zI lo)])), (a0, .inl (cI, 24, .inl (zA P1))), (a1, .inl (cI, 24, .inl (zA R1))), (a2, .inl (cI, 24, .inl (zA U1))), (a3, .inl (cI, 16, .inl (zA c1))), (a4, .inl (cI, 16, .inl (zA b1))), (a5, .inl (cI, 16, .inl (zA f1))), (a6, .inl (cI, 16, .inl (zA s1))), (a7, .inl (cI, 16, .inl (zA e1)))] 0 0 [(0, .ref q1), (1, .int (zI j1)), (2, .int (zI d1)), (3, .int (zI w1)), (4, .int (zI t1)), (5, .int (zI u5))] 78 [] := by
      intro u5 hz6 hu5 hu6
      refine zj_aload_n 79 0 C dX1_placeInRow_78 rfl rfl rfl ?_
      refine zj_iload_n 80 1 C dX1_placeInRow_79 rfl rfl rfl ?_
      refine zj_aload_n 81 0 C dX1_placeInRow_80 rfl rfl rfl ?_
      refine zj_get 84 0 8 C (T := TX1) im_X1_placeInRow_1 fl_X1_placeInRow_36 rfl rfl (by decide) rfl rfl dX1_placeInRow_81 rfl ?_
      refine zj_aload_n 85 0 C dX1_placeInRow_84 rfl rfl rfl ?_
      refine zj_get 88 0 9 C (T := TX1) im_X1_placeInRow_1 fl_X1_placeInRow_40 rfl rfl (by decide) rfl rfl dX1_placeInRow_85 rfl ?_
      refine zj_iload 90 5 C dX1_placeInRow_88 rfl rfl ?_
      refine zj_cv 93 [0, 1, 2, 3] [4, 5, 6, 7, 8] C (wr := [(a3, .inl (cI, 16, .inl (zA c1))), (a4, .inl (cI, 16, .inl (zA b1))), (a5, .inl (cI, 16, .inl (zA f1))), (a6, .inl (cI, 16, .inl (zA s1))), (a7, .inl (cI, 16, .inl (zA e1)))]) (zr_V [0, 1, 2, 3] C (As := [.int (zI j1), .int (zI z1), .int (zI z2), .int (zI u5)]) (rest := []) (c_X1_note l D cI cS cJ q1 a0 a1 a2 a3 a4 a5 a6 a7 z1 z2 z3 us be fi lo P1 R1 U1 j1 z1 z2 u5 (by omega)) (cwV 4 C.1.2.2.2.2 gX1_placeInRow_X1_note rfl rfl rfl (by decide +kernel) ⟨Nat.le_of_ble_eq_true rfl, Nat.le_of_ble_eq_true rfl⟩) rfl (by decide) 0 rfl rfl rfl rfl (Nat.le_of_ble_eq_true rfl) dX1_placeInRow_90 ⟨Nat.le_of_ble_eq_true rfl, Nat.le_of_ble_eq_true rfl⟩) rfl rfl (by decide) (by decide) rfl (fun w_ hp_2 => ?_)
      obtain rfl := hp_2
      refine zj_ws (ws' := [(a3, .inl (cI, 16, .inl (zA c1))), (a4, .inl (cI, 16, .inl (zA b1))), (a5, .inl (cI, 16, .inl (zA f1))), (a6, .inl (cI, 16, .inl (zA s1))), (a7, .inl (cI, 16, .inl (zA e1))), (q1, .inr (1, [.ref a0, .ref a1, .ref a2, .ref a3, .ref a4, .ref a5, .ref a6, .ref a7, .int (zI z1), .int (zI z2), .int (zI z3), .int (zI us), .int (zI be), .int (zI fi), .int (zI lo)])), (a0, .inl (cI, 24, .inl (zA (zU P1 j1 z1)))), (a1, .inl (cI, 24, .inl (zA (zU R1 j1 z2)))), (a2, .inl (cI, 24, .inl (zA (zU U1 j1 u5))))]) rfl ?_
      refine zj_aload_n 94 0 C dX1_placeInRow_93 rfl rfl rfl ?_
      refine zj_aload_n 95 0 C dX1_placeInRow_94 rfl rfl rfl ?_
      refine zj_get 98 5 8 C (T := TX1) im_X1_placeInRow_1 fl_X1_placeInRow_36 rfl rfl (by decide) rfl rfl dX1_placeInRow_95 rfl ?_
      refine zj_iload_n 99 1 C dX1_placeInRow_98 rfl rfl rfl ?_
      refine zj_iload_n 100 3 C dX1_placeInRow_99 rfl rfl rfl ?_
      refine zj_iload 102 4 C dX1_placeInRow_100 rfl rfl ?_
      refine zj_cv 105 [5, 0, 1, 2, 3] [4, 6, 7, 8] C (wr := [(a7, .inl (cI, 16, .inl (zA e1))), (a0, .inl (cI, 24, .inl (zA (zU P1 j1 z1)))), (a1, .inl (cI, 24, .inl (zA (zU R1 j1 z2)))), (a2, .inl (cI, 24, .inl (zA (zU U1 j1 u5))))]) (zr_V [5, 0, 1, 2, 3] C (As := [.int (zI z1), .int (zI j1), .int (zI w1), .int (zI t1)]) (rest := []) (c_X1_bear l D cI cS cJ q1 a0 a1 a2 a3 a4 a5 a6 a7 z1 z2 z3 us be fi lo c1 b1 f1 s1 z1 j1 w1 t1 (by omega) (fun x => ⟨(hc x).1, by have := (hc x).2; omega⟩)) (cwV 4 C.1.2.2.2.2 gX1_placeInRow_X1_bear rfl rfl rfl (by decide +kernel) ⟨Nat.le_of_ble_eq_true rfl, Nat.le_of_ble_eq_true rfl⟩) rfl (by decide) 0 rfl rfl rfl rfl (Nat.le_of_ble_eq_true rfl) dX1_placeInRow_102 ⟨Nat.le_of_ble_eq_true rfl, Nat.le_of_ble_eq_true rfl⟩) rfl rfl (by decide) (by decide) rfl (fun w_ hp_4 => ?_)
      obtain rfl := hp_4
      refine zj_ws (ws' := [(a7, .inl (cI, 16, .inl (zA e1))), (a0, .inl (cI, 24, .inl (zA (zU P1 j1 z1)))), (a1, .inl (cI, 24, .inl (zA (zU R1 j1 z2)))), (a2, .inl (cI, 24, .inl (zA (zU U1 j1 u5)))), (q1, .inr (1, [.ref a0, .ref a1, .ref a2, .ref a3, .ref a4, .ref a5, .ref a6, .ref a7, .int (zI z1), .int (zI z2), .int (zI z3), .int (zI (z1 + 1)), .int (zI (zBe c1 be z1)), .int (zI (fi + w1)), .int (zI lo)])), (a3, .inl (cI, 16, .inl (zA (zU c1 z1 (c1 z1 + 1))))), (a4, .inl (cI, 16, .inl (zA (zU b1 z1 (b1 z1 + t1))))), (a5, .inl (cI, 16, .inl (zA (zU f1 z1 (f1 z1 + w1))))), (a6, .inl (cI, 16, .inl (zA (zFs c1 s1 z1 j1))))]) rfl ?_
      refine zj_iload_n 106 2 C dX1_placeInRow_105 rfl rfl rfl ?_
      refine zj_if_eq 109 133 C (by omega) dX1_placeInRow_106 rfl (by decide) (fun h106 => ?_) (fun h106 => ?_)
      · skip
        refine zj_aload_n 134 0 C dX1_placeInRow_133 rfl rfl rfl ?_
        refine zj_iload 136 5 C dX1_placeInRow_134 rfl rfl ?_
        refine zj_iload_n 137 3 C dX1_placeInRow_136 rfl rfl rfl ?_
        refine zj_iadd 138 C dX1_placeInRow_137 rfl ?_
        refine zj_put 141 4 10 [(a7, .inl (cI, 16, .inl (zA e1))), (a0, .inl (cI, 24, .inl (zA (zU P1 j1 z1)))), (a1, .inl (cI, 24, .inl (zA (zU R1 j1 z2)))), (a2, .inl (cI, 24, .inl (zA (zU U1 j1 u5)))), (q1, .inr (1, [.ref a0, .ref a1, .ref a2, .ref a3, .ref a4, .ref a5, .ref a6, .ref a7, .int (zI z1), .int (zI z2), .int (zI (u5 + w1)), .int (zI (z1 + 1)), .int (zI (zBe c1 be z1)), .int (zI (fi + w1)), .int (zI lo)])), (a3, .inl (cI, 16, .inl (zA (zU c1 z1 (c1 z1 + 1))))), (a4, .inl (cI, 16, .inl (zA (zU b1 z1 (b1 z1 + t1))))), (a5, .inl (cI, 16, .inl (zA (zU f1 z1 (f1 z1 + w1))))), (a6, .inl (cI, 16, .inl (zA (zFs c1 s1 z1 j1))))] C (T := TX1) tyX1 tyX1_ok nmX1 im_X1_placeInRow_1 fl_X1_placeInRow_43 rfl rfl (by decide) rfl rfl rfl rfl rfl (Nat.le_of_ble_eq_true rfl) rfl dX1_placeInRow_138 rfl ?_
        refine zj_iconst 142 C dX1_placeInRow_141 rfl ?_
        refine zj_re [4, 1, 2, 3, 5, 6, 7, 8, 0] [(q1, .inr (1, [.ref a0, .ref a1, .ref a2, .ref a3, .ref a4, .ref a5, .ref a6, .ref a7, .int (zI z1), .int (zI z2), .int (zI (u5 + w1)), .int (zI (z1 + 1)), .int (zI (zBe c1 be z1)), .int (zI (fi + w1)), .int (zI lo)])), (a0, .inl (cI, 24, .inl (zA (zU P1 j1 z1)))), (a1, .inl (cI, 24, .inl (zA (zU R1 j1 z2)))), (a2, .inl (cI, 24, .inl (zA (zU U1 j1 u5)))), (a3, .inl (cI, 16, .inl (zA (zU c1 z1 (c1 z1 + 1))))), (a4, .inl (cI, 16, .inl (zA (zU b1 z1 (b1 z1 + t1))))), (a5, .inl (cI, 16, .inl (zA (zU f1 z1 (f1 z1 + w1))))), (a6, .inl (cI, 16, .inl (zA (zFs c1 s1 z1 j1)))), (a7, .inl (cI, 16, .inl (zA e1)))] (by decide) rfl ?_
        subst hQ
        exact zj_zret C (zI_bool (by omega)) hr ⟨1, z1, z2, (u5 + w1), (z1 + 1), (zBe c1 be z1), (fi + w1), (zU P1 j1 z1), (zU R1 j1 z2), (zU U1 j1 u5), (zU c1 z1 (c1 z1 + 1)), (zU b1 z1 (b1 z1 + t1)), (zU f1 z1 (f1 z1 + w1)), (zFs c1 s1 z1 j1), e1, (by rw [← hz, ← hu5]; exact Or.inr ⟨rfl, by show z1 < 16; omega, rfl, rfl, rfl, rfl, rfl, rfl, by rw [if_neg (by omega)], rfl⟩), rfl, rfl⟩ (by decide) (by decide) dX1_placeInRow_142
      · skip
        refine zj_aload_n 110 0 C dX1_placeInRow_109 rfl rfl rfl ?_
        refine zj_get 113 4 7 C (T := TX1) im_X1_placeInRow_1 fl_X1_placeInRow_33 rfl rfl (by decide) rfl rfl dX1_placeInRow_110 rfl ?_
        refine zj_aload_n 114 0 C dX1_placeInRow_113 rfl rfl rfl ?_
        refine zj_get 117 4 8 C (T := TX1) im_X1_placeInRow_1 fl_X1_placeInRow_36 rfl rfl (by decide) rfl rfl dX1_placeInRow_114 rfl ?_
        refine zj_aload_n 118 0 C dX1_placeInRow_117 rfl rfl rfl ?_
        refine zj_get 121 4 7 C (T := TX1) im_X1_placeInRow_1 fl_X1_placeInRow_33 rfl rfl (by decide) rfl rfl dX1_placeInRow_118 rfl ?_
        refine zj_aload_n 122 0 C dX1_placeInRow_121 rfl rfl rfl ?_
        refine zj_get 125 4 8 C (T := TX1) im_X1_placeInRow_1 fl_X1_placeInRow_36 rfl rfl (by decide) rfl rfl dX1_placeInRow_122 rfl ?_
        refine zj_ci 128 [0] [1, 2, 3, 4, 5, 6, 7, 8] C (wr := [(a0, .inl (cI, 24, .inl (zA (zU P1 j1 z1)))), (a1, .inl (cI, 24, .inl (zA (zU R1 j1 z2)))), (a2, .inl (cI, 24, .inl (zA (zU U1 j1 u5)))), (q1, .inr (1, [.ref a0, .ref a1, .ref a2, .ref a3, .ref a4, .ref a5, .ref a6, .ref a7, .int (zI z1), .int (zI z2), .int (zI z3), .int (zI (z1 + 1)), .int (zI (zBe c1 be z1)), .int (zI (fi + w1)), .int (zI lo)])), (a3, .inl (cI, 16, .inl (zA (zU c1 z1 (c1 z1 + 1))))), (a4, .inl (cI, 16, .inl (zA (zU b1 z1 (b1 z1 + t1))))), (a5, .inl (cI, 16, .inl (zA (zU f1 z1 (f1 z1 + w1))))), (a6, .inl (cI, 16, .inl (zA (zFs c1 s1 z1 j1))))]) (zr_SN [0] C (As := [.ref a7, .int (zI z1)]) (rest := [.int (zI z1), .ref a7]) (c_X4_read l D cI cS cJ a7 16 e1 z1 (by omega) (by omega)) (⟨va_cnB 2 C.1.2.2.2.2 gX1_placeInRow_X4_read_n81 rfl rfl rfl (C.2.2.2.2.1 _ nm_RX1_81) (C.1.2.2.2.2 _ wn_X1_placeInRow_RX4) (by decide +kernel) ⟨Nat.le_of_ble_eq_true rfl, Nat.le_of_ble_eq_true rfl⟩, C.1.2.2.2.2 _ wst_X1_placeInRow_X4_read, trivial⟩) rfl (by decide) rfl rfl (Nat.le_of_ble_eq_true rfl) dX1_placeInRow_125 ⟨Nat.le_of_ble_eq_true rfl, Nat.le_of_ble_eq_true rfl⟩) rfl rfl (by decide) (by decide) rfl (fun r_5 w_ hp_6 => ?_)
        obtain ⟨rfl, rfl⟩ := hp_6
        refine zj_ws (ws' := [(a0, .inl (cI, 24, .inl (zA (zU P1 j1 z1)))), (a1, .inl (cI, 24, .inl (zA (zU R1 j1 z2)))), (a2, .inl (cI, 24, .inl (zA (zU U1 j1 u5)))), (q1, .inr (1, [.ref a0, .ref a1, .ref a2, .ref a3, .ref a4, .ref a5, .ref a6, .ref a7, .int (zI z1), .int (zI z2), .int (zI z3), .int (zI (z1 + 1)), .int (zI (zBe c1 be z1)), .int (zI (fi + w1)), .int (zI lo)])), (a3, .inl (cI, 16, .inl (zA (zU c1 z1 (c1 z1 + 1))))), (a4, .inl (cI, 16, .inl (zA (zU b1 z1 (b1 z1 + t1))))), (a5, .inl (cI, 16, .inl (zA (zU f1 z1 (f1 z1 + w1))))), (a6, .inl (cI, 16, .inl (zA (zFs c1 s1 z1 j1)))), (a7, .inl (cI, 16, .inl (zA e1)))]) rfl ?_
        refine zj_iconst 129 C dX1_placeInRow_128 rfl ?_
        refine zj_iadd 130 C dX1_placeInRow_129 rfl ?_
        refine zj_cv 133 [8] [0, 1, 2, 3, 4, 5, 6, 7] C (wr := [(a0, .inl (cI, 24, .inl (zA (zU P1 j1 z1)))), (a1, .inl (cI, 24, .inl (zA (zU R1 j1 z2)))), (a2, .inl (cI, 24, .inl (zA (zU U1 j1 u5)))), (q1, .inr (1, [.ref a0, .ref a1, .ref a2, .ref a3, .ref a4, .ref a5, .ref a6, .ref a7, .int (zI z1), .int (zI z2), .int (zI z3), .int (zI (z1 + 1)), .int (zI (zBe c1 be z1)), .int (zI (fi + w1)), .int (zI lo)])), (a3, .inl (cI, 16, .inl (zA (zU c1 z1 (c1 z1 + 1))))), (a4, .inl (cI, 16, .inl (zA (zU b1 z1 (b1 z1 + t1))))), (a5, .inl (cI, 16, .inl (zA (zU f1 z1 (f1 z1 + w1))))), (a6, .inl (cI, 16, .inl (zA (zFs c1 s1 z1 j1))))]) (zr_SN [8] C (As := [.ref a7, .int (zI z1), .int (zI ((e1 z1) + 1))]) (rest := []) (c_X4_write l D cI cS cJ a7 16 e1 z1 ((e1 z1) + 1) (by omega) (by omega)) (⟨va_cnB 3 C.1.2.2.2.2 gX1_placeInRow_X4_write_n119 rfl rfl rfl (C.2.2.2.2.1 _ nm_RX1_119) (C.1.2.2.2.2 _ wn_X1_placeInRow_RX4) (by decide +kernel) ⟨Nat.le_of_ble_eq_true rfl, Nat.le_of_ble_eq_true rfl⟩, C.1.2.2.2.2 _ wst_X1_placeInRow_X4_write, trivial⟩) rfl (by decide) rfl rfl (Nat.le_of_ble_eq_true rfl) dX1_placeInRow_130 ⟨Nat.le_of_ble_eq_true rfl, Nat.le_of_ble_eq_true rfl⟩) rfl rfl (by decide) (by decide) rfl (fun w_ hp_8 => ?_)
        obtain rfl := hp_8
        refine zj_ws (ws' := [(a0, .inl (cI, 24, .inl (zA (zU P1 j1 z1)))), (a1, .inl (cI, 24, .inl (zA (zU R1 j1 z2)))), (a2, .inl (cI, 24, .inl (zA (zU U1 j1 u5)))), (q1, .inr (1, [.ref a0, .ref a1, .ref a2, .ref a3, .ref a4, .ref a5, .ref a6, .ref a7, .int (zI z1), .int (zI z2), .int (zI z3), .int (zI (z1 + 1)), .int (zI (zBe c1 be z1)), .int (zI (fi + w1)), .int (zI lo)])), (a3, .inl (cI, 16, .inl (zA (zU c1 z1 (c1 z1 + 1))))), (a4, .inl (cI, 16, .inl (zA (zU b1 z1 (b1 z1 + t1))))), (a5, .inl (cI, 16, .inl (zA (zU f1 z1 (f1 z1 + w1))))), (a6, .inl (cI, 16, .inl (zA (zFs c1 s1 z1 j1)))), (a7, .inl (cI, 16, .inl (zA (zU e1 z1 ((e1 z1) + 1)))))]) rfl ?_
        refine zj_aload_n 134 0 C dX1_placeInRow_133 rfl rfl rfl ?_
        refine zj_iload 136 5 C dX1_placeInRow_134 rfl rfl ?_
        refine zj_iload_n 137 3 C dX1_placeInRow_136 rfl rfl rfl ?_
        refine zj_iadd 138 C dX1_placeInRow_137 rfl ?_
        refine zj_put 141 3 10 [(a0, .inl (cI, 24, .inl (zA (zU P1 j1 z1)))), (a1, .inl (cI, 24, .inl (zA (zU R1 j1 z2)))), (a2, .inl (cI, 24, .inl (zA (zU U1 j1 u5)))), (q1, .inr (1, [.ref a0, .ref a1, .ref a2, .ref a3, .ref a4, .ref a5, .ref a6, .ref a7, .int (zI z1), .int (zI z2), .int (zI (u5 + w1)), .int (zI (z1 + 1)), .int (zI (zBe c1 be z1)), .int (zI (fi + w1)), .int (zI lo)])), (a3, .inl (cI, 16, .inl (zA (zU c1 z1 (c1 z1 + 1))))), (a4, .inl (cI, 16, .inl (zA (zU b1 z1 (b1 z1 + t1))))), (a5, .inl (cI, 16, .inl (zA (zU f1 z1 (f1 z1 + w1))))), (a6, .inl (cI, 16, .inl (zA (zFs c1 s1 z1 j1)))), (a7, .inl (cI, 16, .inl (zA (zU e1 z1 ((e1 z1) + 1)))))] C (T := TX1) tyX1 tyX1_ok nmX1 im_X1_placeInRow_1 fl_X1_placeInRow_43 rfl rfl (by decide) rfl rfl rfl rfl rfl (Nat.le_of_ble_eq_true rfl) rfl dX1_placeInRow_138 rfl ?_
        refine zj_iconst 142 C dX1_placeInRow_141 rfl ?_
        refine zj_re [3, 0, 1, 2, 4, 5, 6, 7, 8] [(q1, .inr (1, [.ref a0, .ref a1, .ref a2, .ref a3, .ref a4, .ref a5, .ref a6, .ref a7, .int (zI z1), .int (zI z2), .int (zI (u5 + w1)), .int (zI (z1 + 1)), .int (zI (zBe c1 be z1)), .int (zI (fi + w1)), .int (zI lo)])), (a0, .inl (cI, 24, .inl (zA (zU P1 j1 z1)))), (a1, .inl (cI, 24, .inl (zA (zU R1 j1 z2)))), (a2, .inl (cI, 24, .inl (zA (zU U1 j1 u5)))), (a3, .inl (cI, 16, .inl (zA (zU c1 z1 (c1 z1 + 1))))), (a4, .inl (cI, 16, .inl (zA (zU b1 z1 (b1 z1 + t1))))), (a5, .inl (cI, 16, .inl (zA (zU f1 z1 (f1 z1 + w1))))), (a6, .inl (cI, 16, .inl (zA (zFs c1 s1 z1 j1)))), (a7, .inl (cI, 16, .inl (zA (zU e1 z1 ((e1 z1) + 1)))))] (by decide) rfl ?_
        subst hQ
        exact zj_zret C (zI_bool (by omega)) hr ⟨1, z1, z2, (u5 + w1), (z1 + 1), (zBe c1 be z1), (fi + w1), (zU P1 j1 z1), (zU R1 j1 z2), (zU U1 j1 u5), (zU c1 z1 (c1 z1 + 1)), (zU b1 z1 (b1 z1 + t1)), (zU f1 z1 (f1 z1 + w1)), (zFs c1 s1 z1 j1), (zU e1 z1 ((e1 z1) + 1)), (by rw [← hz, ← hu5]; exact Or.inr ⟨rfl, by show z1 < 16; omega, rfl, rfl, rfl, rfl, rfl, rfl, by rw [if_pos (by omega)], rfl⟩), rfl, rfl⟩ (by decide) (by decide) dX1_placeInRow_142
    refine zj_aload_n 41 0 C dX1_placeInRow_40 rfl rfl rfl ?_
    refine zj_get 44 0 8 C (T := TX1) im_X1_placeInRow_1 fl_X1_placeInRow_36 rfl rfl (by decide) rfl rfl dX1_placeInRow_41 rfl ?_
    refine zj_bipush 46 C dX1_placeInRow_44 rfl rfl ?_
    refine zj_icmp_lt 49 51 C (by omega) (by omega) dX1_placeInRow_46 rfl (by decide) (fun h46 => ?_) (fun h46 => ?_)
    · skip
      refine zj_iload_n 52 2 C dX1_placeInRow_51 rfl rfl rfl ?_
      refine zj_if_eq 55 72 C (by omega) dX1_placeInRow_52 rfl (by decide) (fun h52 => ?_) (fun h52 => ?_)
      · skip
        refine zj_aload_n 73 0 C dX1_placeInRow_72 rfl rfl rfl ?_
        refine zj_get 76 0 10 C (T := TX1) im_X1_placeInRow_1 fl_X1_placeInRow_43 rfl rfl (by decide) rfl rfl dX1_placeInRow_73 rfl ?_
        refine zj_istore 78 [(5, .int (zI z3)), (0, .ref q1), (1, .int (zI j1)), (2, .int (zI d1)), (3, .int (zI w1)), (4, .int (zI t1))] C dX1_placeInRow_76 rfl (by decide) rfl ?_
        refine zj_lv [1, 2, 3, 4, 5, 0] [(0, .ref q1), (1, .int (zI j1)), (2, .int (zI d1)), (3, .int (zI w1)), (4, .int (zI t1)), (5, .int (zI z3))] rfl ?_
        exact hL78 z3 (by omega) (by show _ = (if d1 = 1 ∧ z1 % 2 = 1 then 6 - w1 else z3); split <;> omega) (by omega)
      · skip
        refine zj_aload_n 56 0 C dX1_placeInRow_55 rfl rfl rfl ?_
        refine zj_get 59 0 8 C (T := TX1) im_X1_placeInRow_1 fl_X1_placeInRow_36 rfl rfl (by decide) rfl rfl dX1_placeInRow_56 rfl ?_
        refine zj_ci 62 [] [0, 1, 2, 3, 4, 5, 6, 7, 8] C (wr := [(q1, .inr (1, [.ref a0, .ref a1, .ref a2, .ref a3, .ref a4, .ref a5, .ref a6, .ref a7, .int (zI z1), .int (zI z2), .int (zI z3), .int (zI us), .int (zI be), .int (zI fi), .int (zI lo)])), (a0, .inl (cI, 24, .inl (zA P1))), (a1, .inl (cI, 24, .inl (zA R1))), (a2, .inl (cI, 24, .inl (zA U1))), (a3, .inl (cI, 16, .inl (zA c1))), (a4, .inl (cI, 16, .inl (zA b1))), (a5, .inl (cI, 16, .inl (zA f1))), (a6, .inl (cI, 16, .inl (zA s1))), (a7, .inl (cI, 16, .inl (zA e1)))]) (zr_S [] C (As := [.int (zI z1)]) (rest := []) (c_X1_isOnLeft l D cI cS cJ z1 (by omega)) (va_cwS 1 C.1.2.2.2.2 gX1_placeInRow_X1_isOnLeft rfl rfl rfl (by decide +kernel) ⟨Nat.le_of_ble_eq_true rfl, Nat.le_of_ble_eq_true rfl⟩) rfl (by decide) rfl rfl (Nat.le_of_ble_eq_true rfl) dX1_placeInRow_59 ⟨Nat.le_of_ble_eq_true rfl, Nat.le_of_ble_eq_true rfl⟩) rfl rfl (by decide) (by decide) rfl (fun r_9 w_ hp_10 => ?_)
        obtain ⟨r1_11, f_12, rfl, rfl⟩ := hp_10
        refine zj_ws (ws' := [(q1, .inr (1, [.ref a0, .ref a1, .ref a2, .ref a3, .ref a4, .ref a5, .ref a6, .ref a7, .int (zI z1), .int (zI z2), .int (zI z3), .int (zI us), .int (zI be), .int (zI fi), .int (zI lo)])), (a0, .inl (cI, 24, .inl (zA P1))), (a1, .inl (cI, 24, .inl (zA R1))), (a2, .inl (cI, 24, .inl (zA U1))), (a3, .inl (cI, 16, .inl (zA c1))), (a4, .inl (cI, 16, .inl (zA b1))), (a5, .inl (cI, 16, .inl (zA f1))), (a6, .inl (cI, 16, .inl (zA s1))), (a7, .inl (cI, 16, .inl (zA e1)))]) rfl ?_
        refine zj_if_eq 65 72 C (by omega) dX1_placeInRow_62 rfl (by decide) (fun h62 => ?_) (fun h62 => ?_)
        · skip
          refine zj_aload_n 73 0 C dX1_placeInRow_72 rfl rfl rfl ?_
          refine zj_get 76 0 10 C (T := TX1) im_X1_placeInRow_1 fl_X1_placeInRow_43 rfl rfl (by decide) rfl rfl dX1_placeInRow_73 rfl ?_
          refine zj_istore 78 [(5, .int (zI z3)), (0, .ref q1), (1, .int (zI j1)), (2, .int (zI d1)), (3, .int (zI w1)), (4, .int (zI t1))] C dX1_placeInRow_76 rfl (by decide) rfl ?_
          refine zj_lv [1, 2, 3, 4, 5, 0] [(0, .ref q1), (1, .int (zI j1)), (2, .int (zI d1)), (3, .int (zI w1)), (4, .int (zI t1)), (5, .int (zI z3))] rfl ?_
          exact hL78 z3 (by omega) (by show _ = (if d1 = 1 ∧ z1 % 2 = 1 then 6 - w1 else z3); split <;> omega) (by omega)
        · skip
          refine zj_bipush 67 C dX1_placeInRow_65 rfl rfl ?_
          refine zj_iload_n 68 3 C dX1_placeInRow_67 rfl rfl rfl ?_
          refine zj_isub 69 C dX1_placeInRow_68 rfl ?_
          refine zj_goto 76 C dX1_placeInRow_69 (by decide) ?_
          refine zj_istore 78 [(5, .int (zI (6 - w1))), (0, .ref q1), (1, .int (zI j1)), (2, .int (zI d1)), (3, .int (zI w1)), (4, .int (zI t1))] C dX1_placeInRow_76 rfl (by decide) rfl ?_
          refine zj_lv [1, 2, 3, 4, 5, 0] [(0, .ref q1), (1, .int (zI j1)), (2, .int (zI d1)), (3, .int (zI w1)), (4, .int (zI t1)), (5, .int (zI (6 - w1)))] rfl ?_
          exact hL78 (6 - w1) (by omega) (by show _ = (if d1 = 1 ∧ z1 % 2 = 1 then 6 - w1 else z3); split <;> omega) (by omega)
    · skip
      refine zj_iconst 50 C dX1_placeInRow_49 rfl ?_
      subst hQ
      exact zj_zret C (zI_bool (by omega)) hr ⟨0, z1, z2, z3, us, be, fi, P1, R1, U1, c1, b1, f1, s1, e1, (by rw [← hz]; exact Or.inl ⟨rfl, by show ¬ z1 < 16; omega, rfl, rfl, rfl, rfl, rfl⟩), rfl, rfl⟩ (by decide) (by decide) dX1_placeInRow_50
  have hL15 : ∀ (y1 : Int) (y2 : Int) (y3 : Int), ((y1, y2, y3) = zX2 w1 (pg, rw, un)) → (0 ≤ y1 ∧ y1 ≤ 17 ∧ 0 ≤ y2 ∧ y2 ≤ 3 ∧ 0 ≤ y3 ∧ y3 ≤ 6) → zJ p l e rm_X1_placeInRow s m args below meth c Q D A 6 [(q1, .inr (1, [.ref a0, .ref a1, .ref a2, .ref a3, .ref a4, .ref a5, .ref a6, .ref a7, .int (zI y1), .int (zI y2), .int (zI y3), .int (zI us), .int (zI be), .int (zI fi), .int (zI lo)])), (a0, .inl (cI, 24, .inl (zA P1))), (a1, .inl (cI, 24, .inl (zA R1))), (a2, .inl (cI, 24, .inl (zA U1))), (a3, .inl (cI, 16, .inl (zA c1))), (a4, .inl (cI, 16, .inl (zA b1))), (a5, .inl (cI, 16, .inl (zA f1))), (a6, .inl (cI, 16, .inl (zA s1))), (a7, .inl (cI, 16, .inl (zA e1)))] 0 0 [(0, .ref q1), (1, .int (zI j1)), (2, .int (zI d1)), (3, .int (zI w1)), (4, .int (zI t1))] 15 [] := by
    intro y1 y2 y3 hy hy2
    refine zj_iload_n 16 2 C dX1_placeInRow_15 rfl rfl rfl ?_
    refine zj_if_eq 19 40 C (by omega) dX1_placeInRow_16 rfl (by decide) (fun h16 => ?_) (fun h16 => ?_)
    · skip
      exact hL40 y1 y2 y3 (by rw [← hy]; show _ = (if d1 = 1 ∧ y1 % 2 = 0 ∧ y3 ≠ 0 then (zRp y1 y2, zRr y2, (0 : Int)) else (y1, y2, y3)); split <;> first | rfl | omega) (by first | omega | (unfold zRp zRr; split <;> omega))
    · skip
      refine zj_aload_n 20 0 C dX1_placeInRow_19 rfl rfl rfl ?_
      refine zj_get 23 0 8 C (T := TX1) im_X1_placeInRow_1 fl_X1_placeInRow_36 rfl rfl (by decide) rfl rfl dX1_placeInRow_20 rfl ?_
      refine zj_ci 26 [] [0, 1, 2, 3, 4, 5, 6, 7, 8] C (wr := [(q1, .inr (1, [.ref a0, .ref a1, .ref a2, .ref a3, .ref a4, .ref a5, .ref a6, .ref a7, .int (zI y1), .int (zI y2), .int (zI y3), .int (zI us), .int (zI be), .int (zI fi), .int (zI lo)])), (a0, .inl (cI, 24, .inl (zA P1))), (a1, .inl (cI, 24, .inl (zA R1))), (a2, .inl (cI, 24, .inl (zA U1))), (a3, .inl (cI, 16, .inl (zA c1))), (a4, .inl (cI, 16, .inl (zA b1))), (a5, .inl (cI, 16, .inl (zA f1))), (a6, .inl (cI, 16, .inl (zA s1))), (a7, .inl (cI, 16, .inl (zA e1)))]) (zr_S [] C (As := [.int (zI y1)]) (rest := []) (c_X1_isOnLeft l D cI cS cJ y1 (by omega)) (va_cwS 1 C.1.2.2.2.2 gX1_placeInRow_X1_isOnLeft rfl rfl rfl (by decide +kernel) ⟨Nat.le_of_ble_eq_true rfl, Nat.le_of_ble_eq_true rfl⟩) rfl (by decide) rfl rfl (Nat.le_of_ble_eq_true rfl) dX1_placeInRow_23 ⟨Nat.le_of_ble_eq_true rfl, Nat.le_of_ble_eq_true rfl⟩) rfl rfl (by decide) (by decide) rfl (fun r_13 w_ hp_14 => ?_)
      obtain ⟨r1_15, f_16, rfl, rfl⟩ := hp_14
      refine zj_ws (ws' := [(q1, .inr (1, [.ref a0, .ref a1, .ref a2, .ref a3, .ref a4, .ref a5, .ref a6, .ref a7, .int (zI y1), .int (zI y2), .int (zI y3), .int (zI us), .int (zI be), .int (zI fi), .int (zI lo)])), (a0, .inl (cI, 24, .inl (zA P1))), (a1, .inl (cI, 24, .inl (zA R1))), (a2, .inl (cI, 24, .inl (zA U1))), (a3, .inl (cI, 16, .inl (zA c1))), (a4, .inl (cI, 16, .inl (zA b1))), (a5, .inl (cI, 16, .inl (zA f1))), (a6, .inl (cI, 16, .inl (zA s1))), (a7, .inl (cI, 16, .inl (zA e1)))]) rfl ?_
      refine zj_if_ne 29 40 C (by omega) dX1_placeInRow_26 rfl (by decide) (fun h26 => ?_) (fun h26 => ?_)
      · skip
        exact hL40 y1 y2 y3 (by rw [← hy]; show _ = (if d1 = 1 ∧ y1 % 2 = 0 ∧ y3 ≠ 0 then (zRp y1 y2, zRr y2, (0 : Int)) else (y1, y2, y3)); split <;> first | rfl | omega) (by first | omega | (unfold zRp zRr; split <;> omega))
      · skip
        refine zj_aload_n 30 0 C dX1_placeInRow_29 rfl rfl rfl ?_
        refine zj_get 33 0 10 C (T := TX1) im_X1_placeInRow_1 fl_X1_placeInRow_43 rfl rfl (by decide) rfl rfl dX1_placeInRow_30 rfl ?_
        refine zj_if_eq 36 40 C (by omega) dX1_placeInRow_33 rfl (by decide) (fun h33 => ?_) (fun h33 => ?_)
        · skip
          exact hL40 y1 y2 y3 (by rw [← hy]; show _ = (if d1 = 1 ∧ y1 % 2 = 0 ∧ y3 ≠ 0 then (zRp y1 y2, zRr y2, (0 : Int)) else (y1, y2, y3)); split <;> first | rfl | omega) (by first | omega | (unfold zRp zRr; split <;> omega))
        · skip
          refine zj_aload_n 37 0 C dX1_placeInRow_36 rfl rfl rfl ?_
          refine zj_cv 40 [0] [1, 2, 3, 4, 5, 6, 7, 8] C (wr := [(a0, .inl (cI, 24, .inl (zA P1))), (a1, .inl (cI, 24, .inl (zA R1))), (a2, .inl (cI, 24, .inl (zA U1))), (a3, .inl (cI, 16, .inl (zA c1))), (a4, .inl (cI, 16, .inl (zA b1))), (a5, .inl (cI, 16, .inl (zA f1))), (a6, .inl (cI, 16, .inl (zA s1))), (a7, .inl (cI, 16, .inl (zA e1)))]) (zr_V [0] C (As := []) (rest := []) (c_X1_beginRow l D cI cS cJ q1 a0 a1 a2 a3 a4 a5 a6 a7 y1 y2 y3 us be fi lo (by omega)) (cwV 0 C.1.2.2.2.2 gX1_placeInRow_X1_beginRow rfl rfl rfl (by decide +kernel) ⟨Nat.le_of_ble_eq_true rfl, Nat.le_of_ble_eq_true rfl⟩) rfl (by decide) 0 rfl rfl rfl rfl (Nat.le_of_ble_eq_true rfl) dX1_placeInRow_37 ⟨Nat.le_of_ble_eq_true rfl, Nat.le_of_ble_eq_true rfl⟩) rfl rfl (by decide) (by decide) rfl (fun w_ hp_18 => ?_)
          obtain rfl := hp_18
          refine zj_ws (ws' := [(a0, .inl (cI, 24, .inl (zA P1))), (a1, .inl (cI, 24, .inl (zA R1))), (a2, .inl (cI, 24, .inl (zA U1))), (a3, .inl (cI, 16, .inl (zA c1))), (a4, .inl (cI, 16, .inl (zA b1))), (a5, .inl (cI, 16, .inl (zA f1))), (a6, .inl (cI, 16, .inl (zA s1))), (a7, .inl (cI, 16, .inl (zA e1))), (q1, .inr (1, [.ref a0, .ref a1, .ref a2, .ref a3, .ref a4, .ref a5, .ref a6, .ref a7, .int (zI (zRp y1 y2)), .int (zI (zRr y2)), .int (zI 0), .int (zI us), .int (zI be), .int (zI fi), .int (zI lo)]))]) rfl ?_
          refine zj_re [8, 0, 1, 2, 3, 4, 5, 6, 7] [(q1, .inr (1, [.ref a0, .ref a1, .ref a2, .ref a3, .ref a4, .ref a5, .ref a6, .ref a7, .int (zI (zRp y1 y2)), .int (zI (zRr y2)), .int (zI 0), .int (zI us), .int (zI be), .int (zI fi), .int (zI lo)])), (a0, .inl (cI, 24, .inl (zA P1))), (a1, .inl (cI, 24, .inl (zA R1))), (a2, .inl (cI, 24, .inl (zA U1))), (a3, .inl (cI, 16, .inl (zA c1))), (a4, .inl (cI, 16, .inl (zA b1))), (a5, .inl (cI, 16, .inl (zA f1))), (a6, .inl (cI, 16, .inl (zA s1))), (a7, .inl (cI, 16, .inl (zA e1)))] (by decide) rfl ?_
          exact hL40 (zRp y1 y2) (zRr y2) 0 (by rw [← hy]; show _ = (if d1 = 1 ∧ y1 % 2 = 0 ∧ y3 ≠ 0 then (zRp y1 y2, zRr y2, (0 : Int)) else (y1, y2, y3)); split <;> first | rfl | omega) (by first | omega | (unfold zRp zRr; split <;> omega))
  refine zj_bipush 2 C dX1_placeInRow_0 rfl rfl ?_
  refine zj_aload_n 3 0 C dX1_placeInRow_2 rfl rfl rfl ?_
  refine zj_get 6 0 10 C (T := TX1) im_X1_placeInRow_1 fl_X1_placeInRow_43 rfl rfl (by decide) rfl rfl dX1_placeInRow_3 rfl ?_
  refine zj_isub 7 C dX1_placeInRow_6 rfl ?_
  refine zj_iload_n 8 3 C dX1_placeInRow_7 rfl rfl rfl ?_
  refine zj_icmp_ge 11 15 C (by omega) (by omega) dX1_placeInRow_8 rfl (by decide) (fun h8 => ?_) (fun h8 => ?_)
  · skip
    exact hL15 pg rw un (by show _ = (if 6 - un < w1 then (zRp pg rw, zRr rw, (0 : Int)) else (pg, rw, un)); split <;> first | rfl | omega) (by first | omega | (unfold zRp zRr; split <;> omega))
  · skip
    refine zj_aload_n 12 0 C dX1_placeInRow_11 rfl rfl rfl ?_
    refine zj_cv 15 [0] [1, 2, 3, 4, 5, 6, 7, 8] C (wr := [(a0, .inl (cI, 24, .inl (zA P1))), (a1, .inl (cI, 24, .inl (zA R1))), (a2, .inl (cI, 24, .inl (zA U1))), (a3, .inl (cI, 16, .inl (zA c1))), (a4, .inl (cI, 16, .inl (zA b1))), (a5, .inl (cI, 16, .inl (zA f1))), (a6, .inl (cI, 16, .inl (zA s1))), (a7, .inl (cI, 16, .inl (zA e1)))]) (zr_V [0] C (As := []) (rest := []) (c_X1_beginRow l D cI cS cJ q1 a0 a1 a2 a3 a4 a5 a6 a7 pg rw un us be fi lo (by omega)) (cwV 0 C.1.2.2.2.2 gX1_placeInRow_X1_beginRow rfl rfl rfl (by decide +kernel) ⟨Nat.le_of_ble_eq_true rfl, Nat.le_of_ble_eq_true rfl⟩) rfl (by decide) 0 rfl rfl rfl rfl (Nat.le_of_ble_eq_true rfl) dX1_placeInRow_12 ⟨Nat.le_of_ble_eq_true rfl, Nat.le_of_ble_eq_true rfl⟩) rfl rfl (by decide) (by decide) rfl (fun w_ hp_20 => ?_)
    obtain rfl := hp_20
    refine zj_ws (ws' := [(a0, .inl (cI, 24, .inl (zA P1))), (a1, .inl (cI, 24, .inl (zA R1))), (a2, .inl (cI, 24, .inl (zA U1))), (a3, .inl (cI, 16, .inl (zA c1))), (a4, .inl (cI, 16, .inl (zA b1))), (a5, .inl (cI, 16, .inl (zA f1))), (a6, .inl (cI, 16, .inl (zA s1))), (a7, .inl (cI, 16, .inl (zA e1))), (q1, .inr (1, [.ref a0, .ref a1, .ref a2, .ref a3, .ref a4, .ref a5, .ref a6, .ref a7, .int (zI (zRp pg rw)), .int (zI (zRr rw)), .int (zI 0), .int (zI us), .int (zI be), .int (zI fi), .int (zI lo)]))]) rfl ?_
    refine zj_re [8, 0, 1, 2, 3, 4, 5, 6, 7] [(q1, .inr (1, [.ref a0, .ref a1, .ref a2, .ref a3, .ref a4, .ref a5, .ref a6, .ref a7, .int (zI (zRp pg rw)), .int (zI (zRr rw)), .int (zI 0), .int (zI us), .int (zI be), .int (zI fi), .int (zI lo)])), (a0, .inl (cI, 24, .inl (zA P1))), (a1, .inl (cI, 24, .inl (zA R1))), (a2, .inl (cI, 24, .inl (zA U1))), (a3, .inl (cI, 16, .inl (zA c1))), (a4, .inl (cI, 16, .inl (zA b1))), (a5, .inl (cI, 16, .inl (zA f1))), (a6, .inl (cI, 16, .inl (zA s1))), (a7, .inl (cI, 16, .inl (zA e1)))] (by decide) rfl ?_
    exact hL15 (zRp pg rw) (zRr rw) 0 (by show _ = (if 6 - un < w1 then (zRp pg rw, zRr rw, (0 : Int)) else (pg, rw, un)); split <;> first | rfl | omega) (by first | omega | (unfold zRp zRr; split <;> omega))
end
section
theorem fl_X1_clear_46 : Cond.fieldLink RX1 46 "SplashPages$Layout" "used" "I" ∈ wsX1_clear := by decide +kernel
theorem im_X1_clear_1 : ∀ w ∈ u_ws RX1 TX1 15, w ∈ wsX1_clear := by decide +kernel
theorem fl_X1_clear_49 : Cond.fieldLink RX1 49 "SplashPages$Layout" "bearing" "I" ∈ wsX1_clear := by decide +kernel
theorem fl_X1_clear_52 : Cond.fieldLink RX1 52 "SplashPages$Layout" "filled" "I" ∈ wsX1_clear := by decide +kernel
theorem fl_X1_clear_21 : Cond.fieldLink RX1 21 "SplashPages$Layout" "pagePanels" "[I" ∈ wsX1_clear := by decide +kernel
theorem fl_X1_clear_24 : Cond.fieldLink RX1 24 "SplashPages$Layout" "pageBeats" "[I" ∈ wsX1_clear := by decide +kernel
theorem fl_X1_clear_27 : Cond.fieldLink RX1 27 "SplashPages$Layout" "pageFilled" "[I" ∈ wsX1_clear := by decide +kernel
theorem fl_X1_clear_30 : Cond.fieldLink RX1 30 "SplashPages$Layout" "pageFirst" "[I" ∈ wsX1_clear := by decide +kernel
theorem fl_X1_clear_33 : Cond.fieldLink RX1 33 "SplashPages$Layout" "pageBleeding" "[I" ∈ wsX1_clear := by decide +kernel
abbrev rm_X1_clear : Room := { frames := 1, cells := 0, slots := 0, locals := 21 }
set_option maxRecDepth 100000 in
set_option maxHeartbeats 4000000 in
theorem c_X1_clear (l : Launch) (D : va_G) (cI cS cJ : ClassId) (q1 : Nat) (a0 : Nat) (a1 : Nat) (a2 : Nat) (a3 : Nat) (a4 : Nat) (a5 : Nat) (a6 : Nat) (a7 : Nat) (pg : Int) (rw : Int) (un : Int) (us : Int) (be : Int) (fi : Int) (lo : Int) (g3 : Int → Int) (g4 : Int → Int) (g5 : Int → Int) (g6 : Int → Int) (g7 : Int → Int) : zMv l yX1_clear wsX1_clear rm_X1_clear D (zTy cI cS cJ) [.ref q1] [(q1, .inr (1, [.ref a0, .ref a1, .ref a2, .ref a3, .ref a4, .ref a5, .ref a6, .ref a7, .int (zI pg), .int (zI rw), .int (zI un), .int (zI us), .int (zI be), .int (zI fi), .int (zI lo)])), (a3, .inl (cI, 16, .inl (zA g3))), (a4, .inl (cI, 16, .inl (zA g4))), (a5, .inl (cI, 16, .inl (zA g5))), (a6, .inl (cI, 16, .inl (zA g6))), (a7, .inl (cI, 16, .inl (zA g7)))] (fun w => w = [(q1, .inr (1, [.ref a0, .ref a1, .ref a2, .ref a3, .ref a4, .ref a5, .ref a6, .ref a7, .int (zI 0), .int (zI 0), .int (zI 0), .int (zI 0), .int (zI 0), .int (zI 0), .int (zI lo)])), (a3, .inl (cI, 16, .inl (zA (fun _ => 0)))), (a4, .inl (cI, 16, .inl (zA (fun _ => 0)))), (a5, .inl (cI, 16, .inl (zA (fun _ => 0)))), (a6, .inl (cI, 16, .inl (zA (fun _ => 0)))), (a7, .inl (cI, 16, .inl (zA (fun _ => 0))))]) 0 0 := by
  intro sz
  refine zMet_of (Qc := fun A => va_Qv _ (zB D (zTy cI cS cJ) A) A) RX1 [(0, .ref q1)] rfl (by decide +kernel) rfl (Nat.le_of_ble_eq_true rfl) rfl ?_ sz
  intro p e s m args below meth c A Q hQ C hr hini
  refine zj_iconst 1 C dX1_clear_0 rfl ?_
  refine zj_istore_n 2 [(1, .int (zI 0)), (0, .ref q1)] C dX1_clear_1 rfl rfl (by decide) rfl ?_
  have hL2 : ∀ (N : Nat) (i : Int) (h3 : Int → Int) (h4 : Int → Int) (h5 : Int → Int) (h6 : Int → Int) (h7 : Int → Int), (0 ≤ i ∧ i ≤ 16) → (∀ x, 0 ≤ x → x < i → h3 x = 0) → (∀ x, 0 ≤ x → x < i → h4 x = 0) → (∀ x, 0 ≤ x → x < i → h5 x = 0) → (∀ x, 0 ≤ x → x < i → h6 x = 0) → (∀ x, 0 ≤ x → x < i → h7 x = 0) → (16 - i < N) → zJ p l e rm_X1_clear s m args below meth c Q D A 2 [(q1, .inr (1, [.ref a0, .ref a1, .ref a2, .ref a3, .ref a4, .ref a5, .ref a6, .ref a7, .int (zI pg), .int (zI rw), .int (zI un), .int (zI us), .int (zI be), .int (zI fi), .int (zI lo)])), (a3, .inl (cI, 16, .inl (zA h3))), (a4, .inl (cI, 16, .inl (zA h4))), (a5, .inl (cI, 16, .inl (zA h5))), (a6, .inl (cI, 16, .inl (zA h6))), (a7, .inl (cI, 16, .inl (zA h7)))] 0 0 [(0, .ref q1), (1, .int (zI i))] 2 [] := by
    intro N
    induction N with
    | zero => intro i h3 h4 h5 h6 h7 hi hg3 hg4 hg5 hg6 hg7 hN; exact absurd hN (by omega)
    | succ N ih =>
      intro i h3 h4 h5 h6 h7 hi hg3 hg4 hg5 hg6 hg7 hN
      refine zj_iload_n 3 1 C dX1_clear_2 rfl rfl rfl ?_
      refine zj_bipush 5 C dX1_clear_3 rfl rfl ?_
      refine zj_icmp_ge 8 49 C (by omega) (by omega) dX1_clear_5 rfl (by decide) (fun h_1 => ?_) (fun h_1 => ?_)
      · skip
        refine zj_aload_n 50 0 C dX1_clear_49 rfl rfl rfl ?_
        refine zj_iconst 51 C dX1_clear_50 rfl ?_
        refine zj_cv 54 [0] [1, 2, 3, 4, 5] C (wr := [(a3, .inl (cI, 16, .inl (zA h3))), (a4, .inl (cI, 16, .inl (zA h4))), (a5, .inl (cI, 16, .inl (zA h5))), (a6, .inl (cI, 16, .inl (zA h6))), (a7, .inl (cI, 16, .inl (zA h7)))]) (zr_V [0] C (As := [.int (zI 0)]) (rest := []) (c_X1_beginPage l D cI cS cJ q1 a0 a1 a2 a3 a4 a5 a6 a7 pg rw un us be fi lo 0) (cwV 1 C.1.2.2.2.2 gX1_clear_X1_beginPage rfl rfl rfl (by decide +kernel) ⟨Nat.le_of_ble_eq_true rfl, Nat.le_of_ble_eq_true rfl⟩) rfl (by decide) 0 rfl rfl rfl rfl (Nat.le_of_ble_eq_true rfl) dX1_clear_51 ⟨Nat.le_of_ble_eq_true rfl, Nat.le_of_ble_eq_true rfl⟩) rfl rfl (by decide) (by decide) rfl (fun w_ hp_3 => ?_)
        obtain rfl := hp_3
        refine zj_ws (ws' := [(a3, .inl (cI, 16, .inl (zA h3))), (a4, .inl (cI, 16, .inl (zA h4))), (a5, .inl (cI, 16, .inl (zA h5))), (a6, .inl (cI, 16, .inl (zA h6))), (a7, .inl (cI, 16, .inl (zA h7))), (q1, .inr (1, [.ref a0, .ref a1, .ref a2, .ref a3, .ref a4, .ref a5, .ref a6, .ref a7, .int (zI 0), .int (zI 0), .int (zI 0), .int (zI us), .int (zI be), .int (zI fi), .int (zI lo)]))]) rfl ?_
        refine zj_aload_n 55 0 C dX1_clear_54 rfl rfl rfl ?_
        refine zj_iconst 56 C dX1_clear_55 rfl ?_
        refine zj_put 59 5 11 [(a3, .inl (cI, 16, .inl (zA h3))), (a4, .inl (cI, 16, .inl (zA h4))), (a5, .inl (cI, 16, .inl (zA h5))), (a6, .inl (cI, 16, .inl (zA h6))), (a7, .inl (cI, 16, .inl (zA h7))), (q1, .inr (1, [.ref a0, .ref a1, .ref a2, .ref a3, .ref a4, .ref a5, .ref a6, .ref a7, .int (zI 0), .int (zI 0), .int (zI 0), .int (zI 0), .int (zI be), .int (zI fi), .int (zI lo)]))] C (T := TX1) tyX1 tyX1_ok nmX1 im_X1_clear_1 fl_X1_clear_46 rfl rfl (by decide) rfl rfl rfl rfl rfl (Nat.le_of_ble_eq_true rfl) rfl dX1_clear_56 rfl ?_
        refine zj_aload_n 60 0 C dX1_clear_59 rfl rfl rfl ?_
        refine zj_iconst 61 C dX1_clear_60 rfl ?_
        refine zj_put 64 5 12 [(a3, .inl (cI, 16, .inl (zA h3))), (a4, .inl (cI, 16, .inl (zA h4))), (a5, .inl (cI, 16, .inl (zA h5))), (a6, .inl (cI, 16, .inl (zA h6))), (a7, .inl (cI, 16, .inl (zA h7))), (q1, .inr (1, [.ref a0, .ref a1, .ref a2, .ref a3, .ref a4, .ref a5, .ref a6, .ref a7, .int (zI 0), .int (zI 0), .int (zI 0), .int (zI 0), .int (zI 0), .int (zI fi), .int (zI lo)]))] C (T := TX1) tyX1 tyX1_ok nmX1 im_X1_clear_1 fl_X1_clear_49 rfl rfl (by decide) rfl rfl rfl rfl rfl (Nat.le_of_ble_eq_true rfl) rfl dX1_clear_61 rfl ?_
        refine zj_aload_n 65 0 C dX1_clear_64 rfl rfl rfl ?_
        refine zj_iconst 66 C dX1_clear_65 rfl ?_
        refine zj_put 69 5 13 [(a3, .inl (cI, 16, .inl (zA h3))), (a4, .inl (cI, 16, .inl (zA h4))), (a5, .inl (cI, 16, .inl (zA h5))), (a6, .inl (cI, 16, .inl (zA h6))), (a7, .inl (cI, 16, .inl (zA h7))), (q1, .inr (1, [.ref a0, .ref a1, .ref a2, .ref a3, .ref a4, .ref a5, .ref a6, .ref a7, .int (zI 0), .int (zI 0), .int (zI 0), .int (zI 0), .int (zI 0), .int (zI 0), .int (zI lo)]))] C (T := TX1) tyX1 tyX1_ok nmX1 im_X1_clear_1 fl_X1_clear_52 rfl rfl (by decide) rfl rfl rfl rfl rfl (Nat.le_of_ble_eq_true rfl) rfl dX1_clear_66 rfl ?_
        refine zj_ext 0 [(a3, .inl (cI, 16, .inl (zA (fun _ => 0)))), (a4, .inl (cI, 16, .inl (zA h4))), (a5, .inl (cI, 16, .inl (zA h5))), (a6, .inl (cI, 16, .inl (zA h6))), (a7, .inl (cI, 16, .inl (zA h7))), (q1, .inr (1, [.ref a0, .ref a1, .ref a2, .ref a3, .ref a4, .ref a5, .ref a6, .ref a7, .int (zI 0), .int (zI 0), .int (zI 0), .int (zI 0), .int (zI 0), .int (zI 0), .int (zI lo)]))] (fun x h1 h2 => hg3 x h1 (by omega)) rfl rfl ?_
        refine zj_ext 1 [(a3, .inl (cI, 16, .inl (zA (fun _ => 0)))), (a4, .inl (cI, 16, .inl (zA (fun _ => 0)))), (a5, .inl (cI, 16, .inl (zA h5))), (a6, .inl (cI, 16, .inl (zA h6))), (a7, .inl (cI, 16, .inl (zA h7))), (q1, .inr (1, [.ref a0, .ref a1, .ref a2, .ref a3, .ref a4, .ref a5, .ref a6, .ref a7, .int (zI 0), .int (zI 0), .int (zI 0), .int (zI 0), .int (zI 0), .int (zI 0), .int (zI lo)]))] (fun x h1 h2 => hg4 x h1 (by omega)) rfl rfl ?_
        refine zj_ext 2 [(a3, .inl (cI, 16, .inl (zA (fun _ => 0)))), (a4, .inl (cI, 16, .inl (zA (fun _ => 0)))), (a5, .inl (cI, 16, .inl (zA (fun _ => 0)))), (a6, .inl (cI, 16, .inl (zA h6))), (a7, .inl (cI, 16, .inl (zA h7))), (q1, .inr (1, [.ref a0, .ref a1, .ref a2, .ref a3, .ref a4, .ref a5, .ref a6, .ref a7, .int (zI 0), .int (zI 0), .int (zI 0), .int (zI 0), .int (zI 0), .int (zI 0), .int (zI lo)]))] (fun x h1 h2 => hg5 x h1 (by omega)) rfl rfl ?_
        refine zj_ext 3 [(a3, .inl (cI, 16, .inl (zA (fun _ => 0)))), (a4, .inl (cI, 16, .inl (zA (fun _ => 0)))), (a5, .inl (cI, 16, .inl (zA (fun _ => 0)))), (a6, .inl (cI, 16, .inl (zA (fun _ => 0)))), (a7, .inl (cI, 16, .inl (zA h7))), (q1, .inr (1, [.ref a0, .ref a1, .ref a2, .ref a3, .ref a4, .ref a5, .ref a6, .ref a7, .int (zI 0), .int (zI 0), .int (zI 0), .int (zI 0), .int (zI 0), .int (zI 0), .int (zI lo)]))] (fun x h1 h2 => hg6 x h1 (by omega)) rfl rfl ?_
        refine zj_ext 4 [(a3, .inl (cI, 16, .inl (zA (fun _ => 0)))), (a4, .inl (cI, 16, .inl (zA (fun _ => 0)))), (a5, .inl (cI, 16, .inl (zA (fun _ => 0)))), (a6, .inl (cI, 16, .inl (zA (fun _ => 0)))), (a7, .inl (cI, 16, .inl (zA (fun _ => 0)))), (q1, .inr (1, [.ref a0, .ref a1, .ref a2, .ref a3, .ref a4, .ref a5, .ref a6, .ref a7, .int (zI 0), .int (zI 0), .int (zI 0), .int (zI 0), .int (zI 0), .int (zI 0), .int (zI lo)]))] (fun x h1 h2 => hg7 x h1 (by omega)) rfl rfl ?_
        refine zj_re [5, 0, 1, 2, 3, 4] [(q1, .inr (1, [.ref a0, .ref a1, .ref a2, .ref a3, .ref a4, .ref a5, .ref a6, .ref a7, .int (zI 0), .int (zI 0), .int (zI 0), .int (zI 0), .int (zI 0), .int (zI 0), .int (zI lo)])), (a3, .inl (cI, 16, .inl (zA (fun _ => 0)))), (a4, .inl (cI, 16, .inl (zA (fun _ => 0)))), (a5, .inl (cI, 16, .inl (zA (fun _ => 0)))), (a6, .inl (cI, 16, .inl (zA (fun _ => 0)))), (a7, .inl (cI, 16, .inl (zA (fun _ => 0))))] (by decide) rfl ?_
        subst hQ
        exact zj_return C hr rfl (by decide) (by decide) dX1_clear_69
      · skip
        refine zj_aload_n 9 0 C dX1_clear_8 rfl rfl rfl ?_
        refine zj_get 12 0 3 C (T := TX1) im_X1_clear_1 fl_X1_clear_21 rfl rfl (by decide) rfl rfl dX1_clear_9 rfl ?_
        refine zj_iload_n 13 1 C dX1_clear_12 rfl rfl rfl ?_
        refine zj_iconst 14 C dX1_clear_13 rfl ?_
        refine zj_iast 15 1 [(q1, .inr (1, [.ref a0, .ref a1, .ref a2, .ref a3, .ref a4, .ref a5, .ref a6, .ref a7, .int (zI pg), .int (zI rw), .int (zI un), .int (zI us), .int (zI be), .int (zI fi), .int (zI lo)])), (a3, .inl (cI, 16, .inl (zA (zU h3 i 0)))), (a4, .inl (cI, 16, .inl (zA h4))), (a5, .inl (cI, 16, .inl (zA h5))), (a6, .inl (cI, 16, .inl (zA h6))), (a7, .inl (cI, 16, .inl (zA h7)))] C (by omega) (by omega) rfl rfl rfl dX1_clear_14 rfl ?_
        refine zj_aload_n 16 0 C dX1_clear_15 rfl rfl rfl ?_
        refine zj_get 19 0 4 C (T := TX1) im_X1_clear_1 fl_X1_clear_24 rfl rfl (by decide) rfl rfl dX1_clear_16 rfl ?_
        refine zj_iload_n 20 1 C dX1_clear_19 rfl rfl rfl ?_
        refine zj_iconst 21 C dX1_clear_20 rfl ?_
        refine zj_iast 22 2 [(q1, .inr (1, [.ref a0, .ref a1, .ref a2, .ref a3, .ref a4, .ref a5, .ref a6, .ref a7, .int (zI pg), .int (zI rw), .int (zI un), .int (zI us), .int (zI be), .int (zI fi), .int (zI lo)])), (a3, .inl (cI, 16, .inl (zA (zU h3 i 0)))), (a4, .inl (cI, 16, .inl (zA (zU h4 i 0)))), (a5, .inl (cI, 16, .inl (zA h5))), (a6, .inl (cI, 16, .inl (zA h6))), (a7, .inl (cI, 16, .inl (zA h7)))] C (by omega) (by omega) rfl rfl rfl dX1_clear_21 rfl ?_
        refine zj_aload_n 23 0 C dX1_clear_22 rfl rfl rfl ?_
        refine zj_get 26 0 5 C (T := TX1) im_X1_clear_1 fl_X1_clear_27 rfl rfl (by decide) rfl rfl dX1_clear_23 rfl ?_
        refine zj_iload_n 27 1 C dX1_clear_26 rfl rfl rfl ?_
        refine zj_iconst 28 C dX1_clear_27 rfl ?_
        refine zj_iast 29 3 [(q1, .inr (1, [.ref a0, .ref a1, .ref a2, .ref a3, .ref a4, .ref a5, .ref a6, .ref a7, .int (zI pg), .int (zI rw), .int (zI un), .int (zI us), .int (zI be), .int (zI fi), .int (zI lo)])), (a3, .inl (cI, 16, .inl (zA (zU h3 i 0)))), (a4, .inl (cI, 16, .inl (zA (zU h4 i 0)))), (a5, .inl (cI, 16, .inl (zA (zU h5 i 0)))), (a6, .inl (cI, 16, .inl (zA h6))), (a7, .inl (cI, 16, .inl (zA h7)))] C (by omega) (by omega) rfl rfl rfl dX1_clear_28 rfl ?_
        refine zj_aload_n 30 0 C dX1_clear_29 rfl rfl rfl ?_
        refine zj_get 33 0 6 C (T := TX1) im_X1_clear_1 fl_X1_clear_30 rfl rfl (by decide) rfl rfl dX1_clear_30 rfl ?_
        refine zj_iload_n 34 1 C dX1_clear_33 rfl rfl rfl ?_
        refine zj_iconst 35 C dX1_clear_34 rfl ?_
        refine zj_iast 36 4 [(q1, .inr (1, [.ref a0, .ref a1, .ref a2, .ref a3, .ref a4, .ref a5, .ref a6, .ref a7, .int (zI pg), .int (zI rw), .int (zI un), .int (zI us), .int (zI be), .int (zI fi), .int (zI lo)])), (a3, .inl (cI, 16, .inl (zA (zU h3 i 0)))), (a4, .inl (cI, 16, .inl (zA (zU h4 i 0)))), (a5, .inl (cI, 16, .inl (zA (zU h5 i 0)))), (a6, .inl (cI, 16, .inl (zA (zU h6 i 0)))), (a7, .inl (cI, 16, .inl (zA h7)))] C (by omega) (by omega) rfl rfl rfl dX1_clear_35 rfl ?_
        refine zj_aload_n 37 0 C dX1_clear_36 rfl rfl rfl ?_
        refine zj_get 40 0 7 C (T := TX1) im_X1_clear_1 fl_X1_clear_33 rfl rfl (by decide) rfl rfl dX1_clear_37 rfl ?_
        refine zj_iload_n 41 1 C dX1_clear_40 rfl rfl rfl ?_
        refine zj_iconst 42 C dX1_clear_41 rfl ?_
        refine zj_iast 43 5 [(q1, .inr (1, [.ref a0, .ref a1, .ref a2, .ref a3, .ref a4, .ref a5, .ref a6, .ref a7, .int (zI pg), .int (zI rw), .int (zI un), .int (zI us), .int (zI be), .int (zI fi), .int (zI lo)])), (a3, .inl (cI, 16, .inl (zA (zU h3 i 0)))), (a4, .inl (cI, 16, .inl (zA (zU h4 i 0)))), (a5, .inl (cI, 16, .inl (zA (zU h5 i 0)))), (a6, .inl (cI, 16, .inl (zA (zU h6 i 0)))), (a7, .inl (cI, 16, .inl (zA (zU h7 i 0))))] C (by omega) (by omega) rfl rfl rfl dX1_clear_42 rfl ?_
        refine zj_iinc 46 1 [(1, .int (zI (i + 1))), (0, .ref q1)] C dX1_clear_43 rfl rfl (by decide) rfl ?_
        refine zj_goto 2 C dX1_clear_46 (by decide) ?_
        refine zj_lv [1, 0] [(0, .ref q1), (1, .int (zI (i + 1)))] rfl ?_
        exact ih (i + 1) (zU h3 i 0) (zU h4 i 0) (zU h5 i 0) (zU h6 i 0) (zU h7 i 0) (by omega) (fun x h1 h2 => by have := hg3 x h1; simp only [zU]; split <;> omega) (fun x h1 h2 => by have := hg4 x h1; simp only [zU]; split <;> omega) (fun x h1 h2 => by have := hg5 x h1; simp only [zU]; split <;> omega) (fun x h1 h2 => by have := hg6 x h1; simp only [zU]; split <;> omega) (fun x h1 h2 => by have := hg7 x h1; simp only [zU]; split <;> omega) (by omega)
  refine zj_lv [1, 0] [(0, .ref q1), (1, .int (zI 0))] rfl ?_
  exact hL2 (17) 0 g3 g4 g5 g6 g7 (by omega) (fun x h1 h2 => absurd h2 (by omega)) (fun x h1 h2 => absurd h2 (by omega)) (fun x h1 h2 => absurd h2 (by omega)) (fun x h1 h2 => absurd h2 (by omega)) (fun x h1 h2 => absurd h2 (by omega)) (by omega)

theorem zpl_w {sg k w t pg rw un us be fi r1 pg2 rw2 un2 us2 be2 fi2 j1 : Int} {P1 R1 U1 e1 c1 b1 f1 s1 P2 R2 U2 e2 c2 b2 f2 s2 : Int → Int} (hk : ¬ k < 2) (hp : 0 ≤ pg ∧ pg ≤ 16) (he : e2 = e1) (h : (r1 = 0 ∧ ¬ (zFst c1 pg (k - 1) + (k - 1) ≤ 16) ∧ P2 = P1 ∧ R2 = R1 ∧ U2 = U1 ∧ pg2 = pg ∧ rw2 = rw ∧ un2 = un ∧ (c2, b2, f2, s2, us2, be2, fi2) = (c1, b1, f1, s1, us, be, fi)) ∨ (r1 = 1 ∧ zFst c1 pg (k - 1) + (k - 1) ≤ 16 ∧ P2 = zU P1 j1 (zFst c1 pg (k - 1)) ∧ R2 = zU R1 j1 (-1) ∧ U2 = zU U1 j1 (-1) ∧ pg2 = zFst c1 pg (k - 1) + (k - 1) ∧ rw2 = 0 ∧ un2 = 0 ∧ (c2, b2, f2, s2, us2, be2, fi2) = zWhole (zFst c1 pg (k - 1)) (k - 1) j1 t (c1, b1, f1, s1, us, be, fi))) : (r1 = 0 ∧ (zPlc sg k w t pg rw un c1 b1).1 = -1 ∧ P2 = P1 ∧ R2 = R1 ∧ U2 = U1 ∧ e2 = e1 ∧ (c2, b2, f2, s2, us2, be2, fi2) = (c1, b1, f1, s1, us, be, fi)) ∨ (r1 = 1 ∧ 0 ≤ (zPlc sg k w t pg rw un c1 b1).1 ∧ P2 = zU P1 j1 ((zPlc sg k w t pg rw un c1 b1).1) ∧ R2 = zU R1 j1 ((zPlc sg k w t pg rw un c1 b1).2.1) ∧ U2 = zU U1 j1 ((zPlc sg k w t pg rw un c1 b1).2.2) ∧ (pg2, rw2, un2, e2, c2, b2, f2, s2, us2, be2, fi2) = zNext sg k w t j1 (pg, rw, un, e1, c1, b1, f1, s1, us, be, fi)) := by
  have hF : 0 ≤ zFst c1 pg (k - 1) := by unfold zFst zF0; split <;> split <;> omega
  rcases h with ⟨h0, h1, h2, h3, h4, h5, h6, h7, h8⟩ | ⟨h0, h1, h2, h3, h4, h5, h6, h7, h8⟩
  · have e : zPlc sg k w t pg rw un c1 b1 = (-1, -1, -1) := by unfold zPlc; rw [if_neg hk, if_neg h1]
    rw [e]
    exact Or.inl ⟨h0, rfl, h2, h3, h4, he, h8⟩
  · have e : zPlc sg k w t pg rw un c1 b1 = (zFst c1 pg (k - 1), -1, -1) := by unfold zPlc; rw [if_neg hk, if_pos h1]
    have e2 : zNext sg k w t j1 (pg, rw, un, e1, c1, b1, f1, s1, us, be, fi) = (zFst c1 pg (k - 1) + (k - 1), 0, 0, e1, zWhole (zFst c1 pg (k - 1)) (k - 1) j1 t (c1, b1, f1, s1, us, be, fi)) := by
      unfold zNext
      rw [if_neg hk]
      show ((zPlc sg k w t pg rw un c1 b1).1 + (k - 1), 0, 0, e1, zWhole (zPlc sg k w t pg rw un c1 b1).1 (k - 1) j1 t (c1, b1, f1, s1, us, be, fi)) = _
      rw [e]
    rw [e2, e, ← h8, h5, h6, h7, he]
    exact Or.inr ⟨h0, hF, h2, h3, h4, rfl⟩

theorem zpl_r {sg k w t pg rw un us be fi r1 pg2 rw2 un2 us2 be2 fi2 j1 : Int} {P1 R1 U1 e1 c1 b1 f1 s1 P2 R2 U2 e2 c2 b2 f2 s2 : Int → Int} {d x1 x2 x3 : Int} (hk : k < 2) (hk0 : 0 ≤ k) (hp : 0 ≤ pg ∧ pg ≤ 16) (hd : (d = 1 ∧ k = 1) ∨ (d = 0 ∧ ¬ k = 1)) (hx1 : 0 ≤ (zX3 d (zX2 w (x1, x2, x3))).1) (hg : (zGc c1 b1 pg t sg ∧ x1 = pg + 1 ∧ x2 = 0 ∧ x3 = 0) ∨ (¬ zGc c1 b1 pg t sg ∧ x1 = pg ∧ x2 = rw ∧ x3 = un)) (h : (r1 = 0 ∧ ¬ ((zX3 d (zX2 w (x1, x2, x3))).1 < 16) ∧ P2 = P1 ∧ R2 = R1 ∧ U2 = U1 ∧ e2 = e1 ∧ (c2, b2, f2, s2, us2, be2, fi2) = (c1, b1, f1, s1, us, be, fi)) ∨ (r1 = 1 ∧ (zX3 d (zX2 w (x1, x2, x3))).1 < 16 ∧ P2 = zU P1 j1 ((zX3 d (zX2 w (x1, x2, x3))).1) ∧ R2 = zU R1 j1 ((zX3 d (zX2 w (x1, x2, x3))).2.1) ∧ U2 = zU U1 j1 (zXu d w (zX3 d (zX2 w (x1, x2, x3)))) ∧ pg2 = (zX3 d (zX2 w (x1, x2, x3))).1 ∧ rw2 = (zX3 d (zX2 w (x1, x2, x3))).2.1 ∧ un2 = zXu d w (zX3 d (zX2 w (x1, x2, x3))) + w ∧ e2 = (if d = 1 then zU e1 (zX3 d (zX2 w (x1, x2, x3))).1 (e1 (zX3 d (zX2 w (x1, x2, x3))).1 + 1) else e1) ∧ (c2, b2, f2, s2, us2, be2, fi2) = zBear (zX3 d (zX2 w (x1, x2, x3))).1 j1 w t (c1, b1, f1, s1, us, be, fi))) : (r1 = 0 ∧ (zPlc sg k w t pg rw un c1 b1).1 = -1 ∧ P2 = P1 ∧ R2 = R1 ∧ U2 = U1 ∧ e2 = e1 ∧ (c2, b2, f2, s2, us2, be2, fi2) = (c1, b1, f1, s1, us, be, fi)) ∨ (r1 = 1 ∧ 0 ≤ (zPlc sg k w t pg rw un c1 b1).1 ∧ P2 = zU P1 j1 ((zPlc sg k w t pg rw un c1 b1).1) ∧ R2 = zU R1 j1 ((zPlc sg k w t pg rw un c1 b1).2.1) ∧ U2 = zU U1 j1 ((zPlc sg k w t pg rw un c1 b1).2.2) ∧ (pg2, rw2, un2, e2, c2, b2, f2, s2, us2, be2, fi2) = zNext sg k w t j1 (pg, rw, un, e1, c1, b1, f1, s1, us, be, fi)) := by
  have ed : d = k := by omega
  subst ed
  have hX : (if zGc c1 b1 pg t sg then (pg + 1, 0, 0) else (pg, rw, un)) = (x1, x2, x3) := by
    rcases hg with ⟨h0, rfl, rfl, rfl⟩ | ⟨h0, rfl, rfl, rfl⟩
    · rw [if_pos h0]
    · rw [if_neg h0]
  have hXr : zXr sg d w t pg rw un c1 b1 = zX3 d (zX2 w (x1, x2, x3)) := by unfold zXr; rw [hX]
  rcases h with ⟨h0, h1, h2, h3, h4, h5, h6⟩ | ⟨h0, h1, h2, h3, h4, h5, h6, h7, h8, h9⟩
  · have e : zPlc sg d w t pg rw un c1 b1 = (-1, -1, -1) := by unfold zPlc; rw [if_pos hk, hXr, if_neg h1]
    rw [e]
    exact Or.inl ⟨h0, rfl, h2, h3, h4, h5, h6⟩
  · have e : zPlc sg d w t pg rw un c1 b1 = ((zX3 d (zX2 w (x1, x2, x3))).1, (zX3 d (zX2 w (x1, x2, x3))).2.1, zXu d w (zX3 d (zX2 w (x1, x2, x3)))) := by unfold zPlc; rw [if_pos hk, hXr, if_pos h1]
    have e2 : zNext sg d w t j1 (pg, rw, un, e1, c1, b1, f1, s1, us, be, fi) = ((zX3 d (zX2 w (x1, x2, x3))).1, (zX3 d (zX2 w (x1, x2, x3))).2.1, zXu d w (zX3 d (zX2 w (x1, x2, x3))) + w, (if d = 1 then zU e1 (zX3 d (zX2 w (x1, x2, x3))).1 (e1 (zX3 d (zX2 w (x1, x2, x3))).1 + 1) else e1), zBear (zX3 d (zX2 w (x1, x2, x3))).1 j1 w t (c1, b1, f1, s1, us, be, fi)) := by
      unfold zNext
      rw [if_pos hk]
      show ((zPlc sg d w t pg rw un c1 b1).1, (zPlc sg d w t pg rw un c1 b1).2.1, (zPlc sg d w t pg rw un c1 b1).2.2 + w, (if d = 1 then zU e1 (zPlc sg d w t pg rw un c1 b1).1 (e1 (zPlc sg d w t pg rw un c1 b1).1 + 1) else e1), zBear (zPlc sg d w t pg rw un c1 b1).1 j1 w t (c1, b1, f1, s1, us, be, fi)) = _
      rw [e]
    rw [e2, e, ← h9, h5, h6, h7, h8]
    exact Or.inr ⟨h0, hx1, h2, h3, h4, rfl⟩
theorem zX3_nn {d w x1 x2 x3 : Int} (h : 0 ≤ x1) : 0 ≤ (zX3 d (zX2 w (x1, x2, x3))).1 := by
  unfold zX3 zX2 zRp
  split <;> split <;> (try split) <;> (try split) <;> simp only [] <;> omega

theorem nf_RX1_78 : Cond.fieldLinkNest RX1 78 "SplashPages$Story" "kinds" "[I" "SplashPages" ∈ zNW := by decide +kernel
theorem im_X1_place_2 : ∀ w ∈ u_ws RX2 TX2 5, w ∈ wsX1_place := by decide +kernel
theorem wn_X1_place_RX4 : Cond.initialized RX4 ∈ wsX1_place := by decide +kernel
theorem wst_X1_place_X4_read : Cond.static yX4_read ∈ wsX1_place := by decide +kernel
theorem nf_RX1_85 : Cond.fieldLinkNest RX1 85 "SplashPages$Story" "beats" "[I" "SplashPages" ∈ zNW := by decide +kernel
theorem nf_RX1_92 : Cond.fieldLinkNest RX1 92 "SplashPages$Story" "setting" "I" "SplashPages" ∈ zNW := by decide +kernel
theorem nf_RX1_99 : Cond.fieldLinkNest RX1 99 "SplashPages$Story" "widths" "[I" "SplashPages" ∈ zNW := by decide +kernel
abbrev rm_X1_place : Room := { frames := 2, cells := 0, slots := 0, locals := 49 }
set_option maxRecDepth 100000 in
set_option maxHeartbeats 4000000 in
theorem c_X1_place (l : Launch) (D : va_G) (cI cS cJ : ClassId) (q1 : Nat) (a0 : Nat) (a1 : Nat) (a2 : Nat) (a3 : Nat) (a4 : Nat) (a5 : Nat) (a6 : Nat) (a7 : Nat) (pg : Int) (rw : Int) (un : Int) (us : Int) (be : Int) (fi : Int) (lo : Int) (P1 : Int → Int) (R1 : Int → Int) (U1 : Int → Int) (c1 : Int → Int) (b1 : Int → Int) (f1 : Int → Int) (s1 : Int → Int) (e1 : Int → Int) (q2 : Nat) (g1 : Nat) (g2 : Nat) (g3 : Nat) (n1 : Int) (sg : Int) (K1 : Int → Int) (W1 : Int → Int) (T1 : Int → Int) (j1 : Int) (hp : 0 ≤ pg ∧ pg ≤ 16) (hr1 : 0 ≤ rw ∧ rw ≤ 3) (hu1 : 0 ≤ un ∧ un ≤ 6) (hj : 0 ≤ j1 ∧ j1 < 24) (hK : 0 ≤ K1 j1 ∧ K1 j1 ≤ 3 ∧ 1 ≤ W1 j1 ∧ W1 j1 ≤ 6 ∧ 1 ≤ T1 j1 ∧ T1 j1 ≤ 9) (hs : 0 ≤ sg ∧ sg ≤ 1000) (hc : ∀ x, 0 ≤ c1 x ∧ c1 x ≤ 1000) (hb : ∀ x, 0 ≤ b1 x ∧ b1 x ≤ 10000) : zMi l yX1_place wsX1_place rm_X1_place D (zTy cI cS cJ) [.ref q1, .ref q2, .int (zI j1)] [(q1, .inr (1, [.ref a0, .ref a1, .ref a2, .ref a3, .ref a4, .ref a5, .ref a6, .ref a7, .int (zI pg), .int (zI rw), .int (zI un), .int (zI us), .int (zI be), .int (zI fi), .int (zI lo)])), (a0, .inl (cI, 24, .inl (zA P1))), (a1, .inl (cI, 24, .inl (zA R1))), (a2, .inl (cI, 24, .inl (zA U1))), (a3, .inl (cI, 16, .inl (zA c1))), (a4, .inl (cI, 16, .inl (zA b1))), (a5, .inl (cI, 16, .inl (zA f1))), (a6, .inl (cI, 16, .inl (zA s1))), (a7, .inl (cI, 16, .inl (zA e1))), (q2, .inr (2, [.ref g1, .ref g2, .ref g3, .int (zI n1), .int (zI sg)])), (g1, .inl (cI, 24, .inl (zA K1))), (g2, .inl (cI, 24, .inl (zA W1))), (g3, .inl (cI, 24, .inl (zA T1)))] (fun r w => ∃ (r1 : Int), ∃ (pg2 : Int), ∃ (rw2 : Int), ∃ (un2 : Int), ∃ (us2 : Int), ∃ (be2 : Int), ∃ (fi2 : Int), ∃ (P2 : Int → Int), ∃ (R2 : Int → Int), ∃ (U2 : Int → Int), ∃ (c2 : Int → Int), ∃ (b2 : Int → Int), ∃ (f2 : Int → Int), ∃ (s2 : Int → Int), ∃ (e2 : Int → Int), ((r1 = 0 ∧ (zPlc sg (K1 j1) (W1 j1) (T1 j1) pg rw un c1 b1).1 = -1 ∧ P2 = P1 ∧ R2 = R1 ∧ U2 = U1 ∧ e2 = e1 ∧ (c2, b2, f2, s2, us2, be2, fi2) = (c1, b1, f1, s1, us, be, fi)) ∨ (r1 = 1 ∧ 0 ≤ (zPlc sg (K1 j1) (W1 j1) (T1 j1) pg rw un c1 b1).1 ∧ P2 = zU P1 j1 ((zPlc sg (K1 j1) (W1 j1) (T1 j1) pg rw un c1 b1).1) ∧ R2 = zU R1 j1 ((zPlc sg (K1 j1) (W1 j1) (T1 j1) pg rw un c1 b1).2.1) ∧ U2 = zU U1 j1 ((zPlc sg (K1 j1) (W1 j1) (T1 j1) pg rw un c1 b1).2.2) ∧ (pg2, rw2, un2, e2, c2, b2, f2, s2, us2, be2, fi2) = zNext sg (K1 j1) (W1 j1) (T1 j1) j1 (pg, rw, un, e1, c1, b1, f1, s1, us, be, fi))) ∧ r = zI r1 ∧ w = [(q1, .inr (1, [.ref a0, .ref a1, .ref a2, .ref a3, .ref a4, .ref a5, .ref a6, .ref a7, .int (zI pg2), .int (zI rw2), .int (zI un2), .int (zI us2), .int (zI be2), .int (zI fi2), .int (zI lo)])), (a0, .inl (cI, 24, .inl (zA P2))), (a1, .inl (cI, 24, .inl (zA R2))), (a2, .inl (cI, 24, .inl (zA U2))), (a3, .inl (cI, 16, .inl (zA c2))), (a4, .inl (cI, 16, .inl (zA b2))), (a5, .inl (cI, 16, .inl (zA f2))), (a6, .inl (cI, 16, .inl (zA s2))), (a7, .inl (cI, 16, .inl (zA e2))), (q2, .inr (2, [.ref g1, .ref g2, .ref g3, .int (zI n1), .int (zI sg)])), (g1, .inl (cI, 24, .inl (zA K1))), (g2, .inl (cI, 24, .inl (zA W1))), (g3, .inl (cI, 24, .inl (zA T1)))]) 0 0 := by
  intro sz
  refine zMet_of (Qc := fun A => va_Qi _ (zB D (zTy cI cS cJ) A) A) RX1 [(0, .ref q1), (1, .ref q2), (2, .int (zI j1))] rfl (by decide +kernel) rfl (Nat.le_of_ble_eq_true rfl) rfl ?_ sz
  intro p e s m args below meth c A Q hQ C hr hini
  refine zj_aload_n 1 1 C dX1_place_0 rfl rfl rfl ?_
  refine zj_getN 4 9 0 C (T := TX2) im_X1_place_2 nf_RX1_78 rfl rfl (by decide) rfl rfl dX1_place_1 rfl ?_
  refine zj_iload_n 5 2 C dX1_place_4 rfl rfl rfl ?_
  refine zj_ci 8 [10] [0, 1, 2, 3, 4, 5, 6, 7, 8, 9, 11, 12] C (wr := [(q1, .inr (1, [.ref a0, .ref a1, .ref a2, .ref a3, .ref a4, .ref a5, .ref a6, .ref a7, .int (zI pg), .int (zI rw), .int (zI un), .int (zI us), .int (zI be), .int (zI fi), .int (zI lo)])), (a0, .inl (cI, 24, .inl (zA P1))), (a1, .inl (cI, 24, .inl (zA R1))), (a2, .inl (cI, 24, .inl (zA U1))), (a3, .inl (cI, 16, .inl (zA c1))), (a4, .inl (cI, 16, .inl (zA b1))), (a5, .inl (cI, 16, .inl (zA f1))), (a6, .inl (cI, 16, .inl (zA s1))), (a7, .inl (cI, 16, .inl (zA e1))), (q2, .inr (2, [.ref g1, .ref g2, .ref g3, .int (zI n1), .int (zI sg)])), (g2, .inl (cI, 24, .inl (zA W1))), (g3, .inl (cI, 24, .inl (zA T1)))]) (zr_SN [10] C (As := [.ref g1, .int (zI j1)]) (rest := []) (c_X4_read l D cI cS cJ g1 24 K1 j1 (by omega) (by omega)) (⟨va_cnB 2 C.1.2.2.2.2 gX1_place_X4_read_n81 rfl rfl rfl (C.2.2.2.2.1 _ nm_RX1_81) (C.1.2.2.2.2 _ wn_X1_place_RX4) (by decide +kernel) ⟨Nat.le_of_ble_eq_true rfl, Nat.le_of_ble_eq_true rfl⟩, C.1.2.2.2.2 _ wst_X1_place_X4_read, trivial⟩) rfl (by decide) rfl rfl (Nat.le_of_ble_eq_true rfl) dX1_place_5 ⟨Nat.le_of_ble_eq_true rfl, Nat.le_of_ble_eq_true rfl⟩) rfl rfl (by decide) (by decide) rfl (fun r_1 w_ hp_2 => ?_)
  obtain ⟨rfl, rfl⟩ := hp_2
  refine zj_ws (ws' := [(q1, .inr (1, [.ref a0, .ref a1, .ref a2, .ref a3, .ref a4, .ref a5, .ref a6, .ref a7, .int (zI pg), .int (zI rw), .int (zI un), .int (zI us), .int (zI be), .int (zI fi), .int (zI lo)])), (a0, .inl (cI, 24, .inl (zA P1))), (a1, .inl (cI, 24, .inl (zA R1))), (a2, .inl (cI, 24, .inl (zA U1))), (a3, .inl (cI, 16, .inl (zA c1))), (a4, .inl (cI, 16, .inl (zA b1))), (a5, .inl (cI, 16, .inl (zA f1))), (a6, .inl (cI, 16, .inl (zA s1))), (a7, .inl (cI, 16, .inl (zA e1))), (q2, .inr (2, [.ref g1, .ref g2, .ref g3, .int (zI n1), .int (zI sg)])), (g2, .inl (cI, 24, .inl (zA W1))), (g3, .inl (cI, 24, .inl (zA T1))), (g1, .inl (cI, 24, .inl (zA K1)))]) rfl ?_
  refine zj_istore_n 9 [(3, .int (zI (K1 j1))), (0, .ref q1), (1, .ref q2), (2, .int (zI j1))] C dX1_place_8 rfl rfl (by decide) rfl ?_
  refine zj_aload_n 10 2 C dX1_place_9 rfl rfl rfl ?_
  refine zj_getN 13 9 2 C (T := TX2) im_X1_place_2 nf_RX1_85 rfl rfl (by decide) rfl rfl dX1_place_10 rfl ?_
  refine zj_iload_n 14 3 C dX1_place_13 rfl rfl rfl ?_
  refine zj_ci 17 [11] [0, 1, 2, 3, 4, 5, 6, 7, 8, 9, 10, 12] C (wr := [(q1, .inr (1, [.ref a0, .ref a1, .ref a2, .ref a3, .ref a4, .ref a5, .ref a6, .ref a7, .int (zI pg), .int (zI rw), .int (zI un), .int (zI us), .int (zI be), .int (zI fi), .int (zI lo)])), (a0, .inl (cI, 24, .inl (zA P1))), (a1, .inl (cI, 24, .inl (zA R1))), (a2, .inl (cI, 24, .inl (zA U1))), (a3, .inl (cI, 16, .inl (zA c1))), (a4, .inl (cI, 16, .inl (zA b1))), (a5, .inl (cI, 16, .inl (zA f1))), (a6, .inl (cI, 16, .inl (zA s1))), (a7, .inl (cI, 16, .inl (zA e1))), (q2, .inr (2, [.ref g1, .ref g2, .ref g3, .int (zI n1), .int (zI sg)])), (g2, .inl (cI, 24, .inl (zA W1))), (g1, .inl (cI, 24, .inl (zA K1)))]) (zr_SN [11] C (As := [.ref g3, .int (zI j1)]) (rest := []) (c_X4_read l D cI cS cJ g3 24 T1 j1 (by omega) (by omega)) (⟨va_cnB 2 C.1.2.2.2.2 gX1_place_X4_read_n81 rfl rfl rfl (C.2.2.2.2.1 _ nm_RX1_81) (C.1.2.2.2.2 _ wn_X1_place_RX4) (by decide +kernel) ⟨Nat.le_of_ble_eq_true rfl, Nat.le_of_ble_eq_true rfl⟩, C.1.2.2.2.2 _ wst_X1_place_X4_read, trivial⟩) rfl (by decide) rfl rfl (Nat.le_of_ble_eq_true rfl) dX1_place_14 ⟨Nat.le_of_ble_eq_true rfl, Nat.le_of_ble_eq_true rfl⟩) rfl rfl (by decide) (by decide) rfl (fun r_3 w_ hp_4 => ?_)
  obtain ⟨rfl, rfl⟩ := hp_4
  refine zj_ws (ws' := [(q1, .inr (1, [.ref a0, .ref a1, .ref a2, .ref a3, .ref a4, .ref a5, .ref a6, .ref a7, .int (zI pg), .int (zI rw), .int (zI un), .int (zI us), .int (zI be), .int (zI fi), .int (zI lo)])), (a0, .inl (cI, 24, .inl (zA P1))), (a1, .inl (cI, 24, .inl (zA R1))), (a2, .inl (cI, 24, .inl (zA U1))), (a3, .inl (cI, 16, .inl (zA c1))), (a4, .inl (cI, 16, .inl (zA b1))), (a5, .inl (cI, 16, .inl (zA f1))), (a6, .inl (cI, 16, .inl (zA s1))), (a7, .inl (cI, 16, .inl (zA e1))), (q2, .inr (2, [.ref g1, .ref g2, .ref g3, .int (zI n1), .int (zI sg)])), (g2, .inl (cI, 24, .inl (zA W1))), (g1, .inl (cI, 24, .inl (zA K1))), (g3, .inl (cI, 24, .inl (zA T1)))]) rfl ?_
  refine zj_istore 19 [(4, .int (zI (T1 j1))), (3, .int (zI (K1 j1))), (0, .ref q1), (1, .ref q2), (2, .int (zI j1))] C dX1_place_17 rfl (by decide) rfl ?_
  refine zj_iload_n 20 1 C dX1_place_19 rfl rfl rfl ?_
  refine zj_iconst 21 C dX1_place_20 rfl ?_
  refine zj_icmp_ne 24 33 C (by omega) (by omega) dX1_place_21 rfl (by decide) (fun h21 => ?_) (fun h21 => ?_)
  · skip
    refine zj_iload_n 34 1 C dX1_place_33 rfl rfl rfl ?_
    refine zj_iconst 35 C dX1_place_34 rfl ?_
    refine zj_icmp_ne 38 47 C (by omega) (by omega) dX1_place_35 rfl (by decide) (fun h35 => ?_) (fun h35 => ?_)
    · skip
      refine zj_aload_n 48 2 C dX1_place_47 rfl rfl rfl ?_
      refine zj_iload 50 0 C dX1_place_48 rfl rfl ?_
      refine zj_aload_n 51 3 C dX1_place_50 rfl rfl rfl ?_
      refine zj_getN 54 9 4 C (T := TX2) im_X1_place_2 nf_RX1_92 rfl rfl (by decide) rfl rfl dX1_place_51 rfl ?_
      refine zj_cv 57 [0, 4, 5] [1, 2, 3, 6, 7, 8, 9, 10, 11, 12] C (wr := [(a0, .inl (cI, 24, .inl (zA P1))), (a1, .inl (cI, 24, .inl (zA R1))), (a2, .inl (cI, 24, .inl (zA U1))), (a5, .inl (cI, 16, .inl (zA f1))), (a6, .inl (cI, 16, .inl (zA s1))), (a7, .inl (cI, 16, .inl (zA e1))), (q2, .inr (2, [.ref g1, .ref g2, .ref g3, .int (zI n1), .int (zI sg)])), (g2, .inl (cI, 24, .inl (zA W1))), (g1, .inl (cI, 24, .inl (zA K1))), (g3, .inl (cI, 24, .inl (zA T1)))]) (zr_V [0, 4, 5] C (As := [.int (zI (T1 j1)), .int (zI sg)]) (rest := []) (c_X1_goOnIfTooManyBeats l D cI cS cJ q1 a0 a1 a2 a3 a4 a5 a6 a7 pg rw un us be fi lo c1 b1 (T1 j1) sg (by omega) (by omega) (by omega) hc hb) (cwV 2 C.1.2.2.2.2 gX1_place_X1_goOnIfTooManyBeats rfl rfl rfl (by decide +kernel) ⟨Nat.le_of_ble_eq_true rfl, Nat.le_of_ble_eq_true rfl⟩) rfl (by decide) 0 rfl rfl rfl rfl (Nat.le_of_ble_eq_true rfl) dX1_place_54 ⟨Nat.le_of_ble_eq_true rfl, Nat.le_of_ble_eq_true rfl⟩) rfl rfl (by decide) (by decide) rfl (fun w_ hp_6 => ?_)
      obtain ⟨x1_7, x2_8, x3_9, fg, rfl⟩ := hp_6
      refine zj_ws (ws' := [(a0, .inl (cI, 24, .inl (zA P1))), (a1, .inl (cI, 24, .inl (zA R1))), (a2, .inl (cI, 24, .inl (zA U1))), (a5, .inl (cI, 16, .inl (zA f1))), (a6, .inl (cI, 16, .inl (zA s1))), (a7, .inl (cI, 16, .inl (zA e1))), (q2, .inr (2, [.ref g1, .ref g2, .ref g3, .int (zI n1), .int (zI sg)])), (g2, .inl (cI, 24, .inl (zA W1))), (g1, .inl (cI, 24, .inl (zA K1))), (g3, .inl (cI, 24, .inl (zA T1))), (q1, .inr (1, [.ref a0, .ref a1, .ref a2, .ref a3, .ref a4, .ref a5, .ref a6, .ref a7, .int (zI x1_7), .int (zI x2_8), .int (zI x3_9), .int (zI us), .int (zI be), .int (zI fi), .int (zI lo)])), (a3, .inl (cI, 16, .inl (zA c1))), (a4, .inl (cI, 16, .inl (zA b1)))]) rfl ?_
      refine zj_aload_n 58 2 C dX1_place_57 rfl rfl rfl ?_
      refine zj_iload_n 59 4 C dX1_place_58 rfl rfl rfl ?_
      refine zj_iload_n 60 1 C dX1_place_59 rfl rfl rfl ?_
      refine zj_iconst 61 C dX1_place_60 rfl ?_
      refine zj_icmp_ne 64 68 C (by omega) (by omega) dX1_place_61 rfl (by decide) (fun h61 => ?_) (fun h61 => ?_)
      · skip
        refine zj_iconst 69 C dX1_place_68 rfl ?_
        refine zj_aload_n 70 3 C dX1_place_69 rfl rfl rfl ?_
        refine zj_getN 73 6 1 C (T := TX2) im_X1_place_2 nf_RX1_99 rfl rfl (by decide) rfl rfl dX1_place_70 rfl ?_
        refine zj_iload_n 74 4 C dX1_place_73 rfl rfl rfl ?_
        refine zj_ci 77 [7] [0, 1, 2, 3, 4, 5, 6, 8, 9, 10, 11, 12] C (wr := [(a0, .inl (cI, 24, .inl (zA P1))), (a1, .inl (cI, 24, .inl (zA R1))), (a2, .inl (cI, 24, .inl (zA U1))), (a5, .inl (cI, 16, .inl (zA f1))), (a6, .inl (cI, 16, .inl (zA s1))), (a7, .inl (cI, 16, .inl (zA e1))), (q2, .inr (2, [.ref g1, .ref g2, .ref g3, .int (zI n1), .int (zI sg)])), (g1, .inl (cI, 24, .inl (zA K1))), (g3, .inl (cI, 24, .inl (zA T1))), (q1, .inr (1, [.ref a0, .ref a1, .ref a2, .ref a3, .ref a4, .ref a5, .ref a6, .ref a7, .int (zI x1_7), .int (zI x2_8), .int (zI x3_9), .int (zI us), .int (zI be), .int (zI fi), .int (zI lo)])), (a3, .inl (cI, 16, .inl (zA c1))), (a4, .inl (cI, 16, .inl (zA b1)))]) (zr_SN [7] C (As := [.ref g2, .int (zI j1)]) (rest := [.int (zI 0), .int (zI j1), .ref q1]) (c_X4_read l D cI cS cJ g2 24 W1 j1 (by omega) (by omega)) (⟨va_cnB 2 C.1.2.2.2.2 gX1_place_X4_read_n81 rfl rfl rfl (C.2.2.2.2.1 _ nm_RX1_81) (C.1.2.2.2.2 _ wn_X1_place_RX4) (by decide +kernel) ⟨Nat.le_of_ble_eq_true rfl, Nat.le_of_ble_eq_true rfl⟩, C.1.2.2.2.2 _ wst_X1_place_X4_read, trivial⟩) rfl (by decide) rfl rfl (Nat.le_of_ble_eq_true rfl) dX1_place_74 ⟨Nat.le_of_ble_eq_true rfl, Nat.le_of_ble_eq_true rfl⟩) rfl rfl (by decide) (by decide) rfl (fun r_10 w_ hp_11 => ?_)
        obtain ⟨rfl, rfl⟩ := hp_11
        refine zj_ws (ws' := [(a0, .inl (cI, 24, .inl (zA P1))), (a1, .inl (cI, 24, .inl (zA R1))), (a2, .inl (cI, 24, .inl (zA U1))), (a5, .inl (cI, 16, .inl (zA f1))), (a6, .inl (cI, 16, .inl (zA s1))), (a7, .inl (cI, 16, .inl (zA e1))), (q2, .inr (2, [.ref g1, .ref g2, .ref g3, .int (zI n1), .int (zI sg)])), (g1, .inl (cI, 24, .inl (zA K1))), (g3, .inl (cI, 24, .inl (zA T1))), (q1, .inr (1, [.ref a0, .ref a1, .ref a2, .ref a3, .ref a4, .ref a5, .ref a6, .ref a7, .int (zI x1_7), .int (zI x2_8), .int (zI x3_9), .int (zI us), .int (zI be), .int (zI fi), .int (zI lo)])), (a3, .inl (cI, 16, .inl (zA c1))), (a4, .inl (cI, 16, .inl (zA b1))), (g2, .inl (cI, 24, .inl (zA W1)))]) rfl ?_
        refine zj_iload 79 0 C dX1_place_77 rfl rfl ?_
        refine zj_ci 82 [9, 0, 1, 2, 10, 11, 3, 4, 5] [6, 7, 8, 12] C (wr := [(q2, .inr (2, [.ref g1, .ref g2, .ref g3, .int (zI n1), .int (zI sg)])), (g1, .inl (cI, 24, .inl (zA K1))), (g3, .inl (cI, 24, .inl (zA T1))), (g2, .inl (cI, 24, .inl (zA W1)))]) (zr_V [9, 0, 1, 2, 10, 11, 3, 4, 5] C (As := [.int (zI j1), .int (zI 0), .int (zI (W1 j1)), .int (zI (T1 j1))]) (rest := []) (c_X1_placeInRow l D cI cS cJ q1 a0 a1 a2 a3 a4 a5 a6 a7 x1_7 x2_8 x3_9 us be fi lo P1 R1 U1 c1 b1 f1 s1 e1 j1 0 (W1 j1) (T1 j1) (by (unfold zGc at fg); omega) (by (unfold zGc at fg); omega) (by (unfold zGc at fg); omega) (by omega) (by omega) (by omega) hc) (cwV 4 C.1.2.2.2.2 gX1_place_X1_placeInRow rfl rfl rfl (by decide +kernel) ⟨Nat.le_of_ble_eq_true rfl, Nat.le_of_ble_eq_true rfl⟩) rfl (by decide) 0 rfl rfl rfl rfl (Nat.le_of_ble_eq_true rfl) dX1_place_79 ⟨Nat.le_of_ble_eq_true rfl, Nat.le_of_ble_eq_true rfl⟩) rfl rfl (by decide) (by decide) rfl (fun r_12 w_ hp_13 => ?_)
        obtain ⟨r1_14, pg2_15, rw2_16, un2_17, us2_18, be2_19, fi2_20, P2_21, R2_22, U2_23, c2_24, b2_25, f2_26, s2_27, e2_28, fr, rfl, rfl⟩ := hp_13
        refine zj_ws (ws' := [(q2, .inr (2, [.ref g1, .ref g2, .ref g3, .int (zI n1), .int (zI sg)])), (g1, .inl (cI, 24, .inl (zA K1))), (g3, .inl (cI, 24, .inl (zA T1))), (g2, .inl (cI, 24, .inl (zA W1))), (q1, .inr (1, [.ref a0, .ref a1, .ref a2, .ref a3, .ref a4, .ref a5, .ref a6, .ref a7, .int (zI pg2_15), .int (zI rw2_16), .int (zI un2_17), .int (zI us2_18), .int (zI be2_19), .int (zI fi2_20), .int (zI lo)])), (a0, .inl (cI, 24, .inl (zA P2_21))), (a1, .inl (cI, 24, .inl (zA R2_22))), (a2, .inl (cI, 24, .inl (zA U2_23))), (a3, .inl (cI, 16, .inl (zA c2_24))), (a4, .inl (cI, 16, .inl (zA b2_25))), (a5, .inl (cI, 16, .inl (zA f2_26))), (a6, .inl (cI, 16, .inl (zA s2_27))), (a7, .inl (cI, 16, .inl (zA e2_28)))]) rfl ?_
        refine zj_re [4, 5, 6, 7, 8, 9, 10, 11, 12, 0, 1, 3, 2] [(q1, .inr (1, [.ref a0, .ref a1, .ref a2, .ref a3, .ref a4, .ref a5, .ref a6, .ref a7, .int (zI pg2_15), .int (zI rw2_16), .int (zI un2_17), .int (zI us2_18), .int (zI be2_19), .int (zI fi2_20), .int (zI lo)])), (a0, .inl (cI, 24, .inl (zA P2_21))), (a1, .inl (cI, 24, .inl (zA R2_22))), (a2, .inl (cI, 24, .inl (zA U2_23))), (a3, .inl (cI, 16, .inl (zA c2_24))), (a4, .inl (cI, 16, .inl (zA b2_25))), (a5, .inl (cI, 16, .inl (zA f2_26))), (a6, .inl (cI, 16, .inl (zA s2_27))), (a7, .inl (cI, 16, .inl (zA e2_28))), (q2, .inr (2, [.ref g1, .ref g2, .ref g3, .int (zI n1), .int (zI sg)])), (g1, .inl (cI, 24, .inl (zA K1))), (g2, .inl (cI, 24, .inl (zA W1))), (g3, .inl (cI, 24, .inl (zA T1)))] (by decide) rfl ?_
        subst hQ
        exact zj_zret C (zI_bool (by omega)) hr ⟨r1_14, pg2_15, rw2_16, un2_17, us2_18, be2_19, fi2_20, P2_21, R2_22, U2_23, c2_24, b2_25, f2_26, s2_27, e2_28, (by exact zpl_r (k := K1 j1) (w := W1 j1) (by omega) (by omega) hp (by omega) (zX3_nn (by (unfold zGc at fg); omega)) fg fr), rfl, rfl⟩ (by decide) (by decide) dX1_place_82
      · skip
        refine zj_iconst 65 C dX1_place_64 rfl ?_
        refine zj_goto 69 C dX1_place_65 (by decide) ?_
        refine zj_aload_n 70 3 C dX1_place_69 rfl rfl rfl ?_
        refine zj_getN 73 6 1 C (T := TX2) im_X1_place_2 nf_RX1_99 rfl rfl (by decide) rfl rfl dX1_place_70 rfl ?_
        refine zj_iload_n 74 4 C dX1_place_73 rfl rfl rfl ?_
        refine zj_ci 77 [7] [0, 1, 2, 3, 4, 5, 6, 8, 9, 10, 11, 12] C (wr := [(a0, .inl (cI, 24, .inl (zA P1))), (a1, .inl (cI, 24, .inl (zA R1))), (a2, .inl (cI, 24, .inl (zA U1))), (a5, .inl (cI, 16, .inl (zA f1))), (a6, .inl (cI, 16, .inl (zA s1))), (a7, .inl (cI, 16, .inl (zA e1))), (q2, .inr (2, [.ref g1, .ref g2, .ref g3, .int (zI n1), .int (zI sg)])), (g1, .inl (cI, 24, .inl (zA K1))), (g3, .inl (cI, 24, .inl (zA T1))), (q1, .inr (1, [.ref a0, .ref a1, .ref a2, .ref a3, .ref a4, .ref a5, .ref a6, .ref a7, .int (zI x1_7), .int (zI x2_8), .int (zI x3_9), .int (zI us), .int (zI be), .int (zI fi), .int (zI lo)])), (a3, .inl (cI, 16, .inl (zA c1))), (a4, .inl (cI, 16, .inl (zA b1)))]) (zr_SN [7] C (As := [.ref g2, .int (zI j1)]) (rest := [.int (zI 1), .int (zI j1), .ref q1]) (c_X4_read l D cI cS cJ g2 24 W1 j1 (by omega) (by omega)) (⟨va_cnB 2 C.1.2.2.2.2 gX1_place_X4_read_n81 rfl rfl rfl (C.2.2.2.2.1 _ nm_RX1_81) (C.1.2.2.2.2 _ wn_X1_place_RX4) (by decide +kernel) ⟨Nat.le_of_ble_eq_true rfl, Nat.le_of_ble_eq_true rfl⟩, C.1.2.2.2.2 _ wst_X1_place_X4_read, trivial⟩) rfl (by decide) rfl rfl (Nat.le_of_ble_eq_true rfl) dX1_place_74 ⟨Nat.le_of_ble_eq_true rfl, Nat.le_of_ble_eq_true rfl⟩) rfl rfl (by decide) (by decide) rfl (fun r_29 w_ hp_30 => ?_)
        obtain ⟨rfl, rfl⟩ := hp_30
        refine zj_ws (ws' := [(a0, .inl (cI, 24, .inl (zA P1))), (a1, .inl (cI, 24, .inl (zA R1))), (a2, .inl (cI, 24, .inl (zA U1))), (a5, .inl (cI, 16, .inl (zA f1))), (a6, .inl (cI, 16, .inl (zA s1))), (a7, .inl (cI, 16, .inl (zA e1))), (q2, .inr (2, [.ref g1, .ref g2, .ref g3, .int (zI n1), .int (zI sg)])), (g1, .inl (cI, 24, .inl (zA K1))), (g3, .inl (cI, 24, .inl (zA T1))), (q1, .inr (1, [.ref a0, .ref a1, .ref a2, .ref a3, .ref a4, .ref a5, .ref a6, .ref a7, .int (zI x1_7), .int (zI x2_8), .int (zI x3_9), .int (zI us), .int (zI be), .int (zI fi), .int (zI lo)])), (a3, .inl (cI, 16, .inl (zA c1))), (a4, .inl (cI, 16, .inl (zA b1))), (g2, .inl (cI, 24, .inl (zA W1)))]) rfl ?_
        refine zj_iload 79 0 C dX1_place_77 rfl rfl ?_
        refine zj_ci 82 [9, 0, 1, 2, 10, 11, 3, 4, 5] [6, 7, 8, 12] C (wr := [(q2, .inr (2, [.ref g1, .ref g2, .ref g3, .int (zI n1), .int (zI sg)])), (g1, .inl (cI, 24, .inl (zA K1))), (g3, .inl (cI, 24, .inl (zA T1))), (g2, .inl (cI, 24, .inl (zA W1)))]) (zr_V [9, 0, 1, 2, 10, 11, 3, 4, 5] C (As := [.int (zI j1), .int (zI 1), .int (zI (W1 j1)), .int (zI (T1 j1))]) (rest := []) (c_X1_placeInRow l D cI cS cJ q1 a0 a1 a2 a3 a4 a5 a6 a7 x1_7 x2_8 x3_9 us be fi lo P1 R1 U1 c1 b1 f1 s1 e1 j1 1 (W1 j1) (T1 j1) (by (unfold zGc at fg); omega) (by (unfold zGc at fg); omega) (by (unfold zGc at fg); omega) (by omega) (by omega) (by omega) hc) (cwV 4 C.1.2.2.2.2 gX1_place_X1_placeInRow rfl rfl rfl (by decide +kernel) ⟨Nat.le_of_ble_eq_true rfl, Nat.le_of_ble_eq_true rfl⟩) rfl (by decide) 0 rfl rfl rfl rfl (Nat.le_of_ble_eq_true rfl) dX1_place_79 ⟨Nat.le_of_ble_eq_true rfl, Nat.le_of_ble_eq_true rfl⟩) rfl rfl (by decide) (by decide) rfl (fun r_31 w_ hp_32 => ?_)
        obtain ⟨r1_33, pg2_34, rw2_35, un2_36, us2_37, be2_38, fi2_39, P2_40, R2_41, U2_42, c2_43, b2_44, f2_45, s2_46, e2_47, fr, rfl, rfl⟩ := hp_32
        refine zj_ws (ws' := [(q2, .inr (2, [.ref g1, .ref g2, .ref g3, .int (zI n1), .int (zI sg)])), (g1, .inl (cI, 24, .inl (zA K1))), (g3, .inl (cI, 24, .inl (zA T1))), (g2, .inl (cI, 24, .inl (zA W1))), (q1, .inr (1, [.ref a0, .ref a1, .ref a2, .ref a3, .ref a4, .ref a5, .ref a6, .ref a7, .int (zI pg2_34), .int (zI rw2_35), .int (zI un2_36), .int (zI us2_37), .int (zI be2_38), .int (zI fi2_39), .int (zI lo)])), (a0, .inl (cI, 24, .inl (zA P2_40))), (a1, .inl (cI, 24, .inl (zA R2_41))), (a2, .inl (cI, 24, .inl (zA U2_42))), (a3, .inl (cI, 16, .inl (zA c2_43))), (a4, .inl (cI, 16, .inl (zA b2_44))), (a5, .inl (cI, 16, .inl (zA f2_45))), (a6, .inl (cI, 16, .inl (zA s2_46))), (a7, .inl (cI, 16, .inl (zA e2_47)))]) rfl ?_
        refine zj_re [4, 5, 6, 7, 8, 9, 10, 11, 12, 0, 1, 3, 2] [(q1, .inr (1, [.ref a0, .ref a1, .ref a2, .ref a3, .ref a4, .ref a5, .ref a6, .ref a7, .int (zI pg2_34), .int (zI rw2_35), .int (zI un2_36), .int (zI us2_37), .int (zI be2_38), .int (zI fi2_39), .int (zI lo)])), (a0, .inl (cI, 24, .inl (zA P2_40))), (a1, .inl (cI, 24, .inl (zA R2_41))), (a2, .inl (cI, 24, .inl (zA U2_42))), (a3, .inl (cI, 16, .inl (zA c2_43))), (a4, .inl (cI, 16, .inl (zA b2_44))), (a5, .inl (cI, 16, .inl (zA f2_45))), (a6, .inl (cI, 16, .inl (zA s2_46))), (a7, .inl (cI, 16, .inl (zA e2_47))), (q2, .inr (2, [.ref g1, .ref g2, .ref g3, .int (zI n1), .int (zI sg)])), (g1, .inl (cI, 24, .inl (zA K1))), (g2, .inl (cI, 24, .inl (zA W1))), (g3, .inl (cI, 24, .inl (zA T1)))] (by decide) rfl ?_
        subst hQ
        exact zj_zret C (zI_bool (by omega)) hr ⟨r1_33, pg2_34, rw2_35, un2_36, us2_37, be2_38, fi2_39, P2_40, R2_41, U2_42, c2_43, b2_44, f2_45, s2_46, e2_47, (by exact zpl_r (k := K1 j1) (w := W1 j1) (by omega) (by omega) hp (by omega) (zX3_nn (by (unfold zGc at fg); omega)) fg fr), rfl, rfl⟩ (by decide) (by decide) dX1_place_82
    · skip
      refine zj_aload_n 39 2 C dX1_place_38 rfl rfl rfl ?_
      refine zj_iload_n 40 4 C dX1_place_39 rfl rfl rfl ?_
      refine zj_iload 42 0 C dX1_place_40 rfl rfl ?_
      refine zj_iconst 43 C dX1_place_42 rfl ?_
      refine zj_ci 46 [0, 1, 2, 3, 4, 5, 6, 7] [8, 9, 10, 11, 12] C (wr := [(a7, .inl (cI, 16, .inl (zA e1))), (q2, .inr (2, [.ref g1, .ref g2, .ref g3, .int (zI n1), .int (zI sg)])), (g2, .inl (cI, 24, .inl (zA W1))), (g1, .inl (cI, 24, .inl (zA K1))), (g3, .inl (cI, 24, .inl (zA T1)))]) (zr_V [0, 1, 2, 3, 4, 5, 6, 7] C (As := [.int (zI j1), .int (zI (T1 j1)), .int (zI 2)]) (rest := []) (c_X1_placeOnWholePages l D cI cS cJ q1 a0 a1 a2 a3 a4 a5 a6 a7 pg rw un us be fi lo P1 R1 U1 c1 b1 f1 s1 j1 (T1 j1) 2 (by omega) (by omega) (by omega) hc) (cwV 3 C.1.2.2.2.2 gX1_place_X1_placeOnWholePages rfl rfl rfl (by decide +kernel) ⟨Nat.le_of_ble_eq_true rfl, Nat.le_of_ble_eq_true rfl⟩) rfl (by decide) 0 rfl rfl rfl rfl (Nat.le_of_ble_eq_true rfl) dX1_place_43 ⟨Nat.le_of_ble_eq_true rfl, Nat.le_of_ble_eq_true rfl⟩) rfl rfl (by decide) (by decide) rfl (fun r_48 w_ hp_49 => ?_)
      obtain ⟨r1_50, pg2_51, rw2_52, un2_53, us2_54, be2_55, fi2_56, P2_57, R2_58, U2_59, c2_60, b2_61, f2_62, s2_63, fw, rfl, rfl⟩ := hp_49
      refine zj_ws (ws' := [(a7, .inl (cI, 16, .inl (zA e1))), (q2, .inr (2, [.ref g1, .ref g2, .ref g3, .int (zI n1), .int (zI sg)])), (g2, .inl (cI, 24, .inl (zA W1))), (g1, .inl (cI, 24, .inl (zA K1))), (g3, .inl (cI, 24, .inl (zA T1))), (q1, .inr (1, [.ref a0, .ref a1, .ref a2, .ref a3, .ref a4, .ref a5, .ref a6, .ref a7, .int (zI pg2_51), .int (zI rw2_52), .int (zI un2_53), .int (zI us2_54), .int (zI be2_55), .int (zI fi2_56), .int (zI lo)])), (a0, .inl (cI, 24, .inl (zA P2_57))), (a1, .inl (cI, 24, .inl (zA R2_58))), (a2, .inl (cI, 24, .inl (zA U2_59))), (a3, .inl (cI, 16, .inl (zA c2_60))), (a4, .inl (cI, 16, .inl (zA b2_61))), (a5, .inl (cI, 16, .inl (zA f2_62))), (a6, .inl (cI, 16, .inl (zA s2_63)))]) rfl ?_
      refine zj_re [5, 6, 7, 8, 9, 10, 11, 12, 0, 1, 3, 2, 4] [(q1, .inr (1, [.ref a0, .ref a1, .ref a2, .ref a3, .ref a4, .ref a5, .ref a6, .ref a7, .int (zI pg2_51), .int (zI rw2_52), .int (zI un2_53), .int (zI us2_54), .int (zI be2_55), .int (zI fi2_56), .int (zI lo)])), (a0, .inl (cI, 24, .inl (zA P2_57))), (a1, .inl (cI, 24, .inl (zA R2_58))), (a2, .inl (cI, 24, .inl (zA U2_59))), (a3, .inl (cI, 16, .inl (zA c2_60))), (a4, .inl (cI, 16, .inl (zA b2_61))), (a5, .inl (cI, 16, .inl (zA f2_62))), (a6, .inl (cI, 16, .inl (zA s2_63))), (a7, .inl (cI, 16, .inl (zA e1))), (q2, .inr (2, [.ref g1, .ref g2, .ref g3, .int (zI n1), .int (zI sg)])), (g1, .inl (cI, 24, .inl (zA K1))), (g2, .inl (cI, 24, .inl (zA W1))), (g3, .inl (cI, 24, .inl (zA T1)))] (by decide) rfl ?_
      subst hQ
      exact zj_zret C (zI_bool (by omega)) hr ⟨r1_50, pg2_51, rw2_52, un2_53, us2_54, be2_55, fi2_56, P2_57, R2_58, U2_59, c2_60, b2_61, f2_62, s2_63, e1, (by have hk3 : K1 j1 = 3 := h35; exact zpl_w (k := K1 j1) (w := W1 j1) (by omega) hp rfl (by rw [hk3]; exact fw)), rfl, rfl⟩ (by decide) (by decide) dX1_place_46
  · skip
    refine zj_aload_n 25 2 C dX1_place_24 rfl rfl rfl ?_
    refine zj_iload_n 26 4 C dX1_place_25 rfl rfl rfl ?_
    refine zj_iload 28 0 C dX1_place_26 rfl rfl ?_
    refine zj_iconst 29 C dX1_place_28 rfl ?_
    refine zj_ci 32 [0, 1, 2, 3, 4, 5, 6, 7] [8, 9, 10, 11, 12] C (wr := [(a7, .inl (cI, 16, .inl (zA e1))), (q2, .inr (2, [.ref g1, .ref g2, .ref g3, .int (zI n1), .int (zI sg)])), (g2, .inl (cI, 24, .inl (zA W1))), (g1, .inl (cI, 24, .inl (zA K1))), (g3, .inl (cI, 24, .inl (zA T1)))]) (zr_V [0, 1, 2, 3, 4, 5, 6, 7] C (As := [.int (zI j1), .int (zI (T1 j1)), .int (zI 1)]) (rest := []) (c_X1_placeOnWholePages l D cI cS cJ q1 a0 a1 a2 a3 a4 a5 a6 a7 pg rw un us be fi lo P1 R1 U1 c1 b1 f1 s1 j1 (T1 j1) 1 (by omega) (by omega) (by omega) hc) (cwV 3 C.1.2.2.2.2 gX1_place_X1_placeOnWholePages rfl rfl rfl (by decide +kernel) ⟨Nat.le_of_ble_eq_true rfl, Nat.le_of_ble_eq_true rfl⟩) rfl (by decide) 0 rfl rfl rfl rfl (Nat.le_of_ble_eq_true rfl) dX1_place_29 ⟨Nat.le_of_ble_eq_true rfl, Nat.le_of_ble_eq_true rfl⟩) rfl rfl (by decide) (by decide) rfl (fun r_64 w_ hp_65 => ?_)
    obtain ⟨r1_66, pg2_67, rw2_68, un2_69, us2_70, be2_71, fi2_72, P2_73, R2_74, U2_75, c2_76, b2_77, f2_78, s2_79, fw, rfl, rfl⟩ := hp_65
    refine zj_ws (ws' := [(a7, .inl (cI, 16, .inl (zA e1))), (q2, .inr (2, [.ref g1, .ref g2, .ref g3, .int (zI n1), .int (zI sg)])), (g2, .inl (cI, 24, .inl (zA W1))), (g1, .inl (cI, 24, .inl (zA K1))), (g3, .inl (cI, 24, .inl (zA T1))), (q1, .inr (1, [.ref a0, .ref a1, .ref a2, .ref a3, .ref a4, .ref a5, .ref a6, .ref a7, .int (zI pg2_67), .int (zI rw2_68), .int (zI un2_69), .int (zI us2_70), .int (zI be2_71), .int (zI fi2_72), .int (zI lo)])), (a0, .inl (cI, 24, .inl (zA P2_73))), (a1, .inl (cI, 24, .inl (zA R2_74))), (a2, .inl (cI, 24, .inl (zA U2_75))), (a3, .inl (cI, 16, .inl (zA c2_76))), (a4, .inl (cI, 16, .inl (zA b2_77))), (a5, .inl (cI, 16, .inl (zA f2_78))), (a6, .inl (cI, 16, .inl (zA s2_79)))]) rfl ?_
    refine zj_re [5, 6, 7, 8, 9, 10, 11, 12, 0, 1, 3, 2, 4] [(q1, .inr (1, [.ref a0, .ref a1, .ref a2, .ref a3, .ref a4, .ref a5, .ref a6, .ref a7, .int (zI pg2_67), .int (zI rw2_68), .int (zI un2_69), .int (zI us2_70), .int (zI be2_71), .int (zI fi2_72), .int (zI lo)])), (a0, .inl (cI, 24, .inl (zA P2_73))), (a1, .inl (cI, 24, .inl (zA R2_74))), (a2, .inl (cI, 24, .inl (zA U2_75))), (a3, .inl (cI, 16, .inl (zA c2_76))), (a4, .inl (cI, 16, .inl (zA b2_77))), (a5, .inl (cI, 16, .inl (zA f2_78))), (a6, .inl (cI, 16, .inl (zA s2_79))), (a7, .inl (cI, 16, .inl (zA e1))), (q2, .inr (2, [.ref g1, .ref g2, .ref g3, .int (zI n1), .int (zI sg)])), (g1, .inl (cI, 24, .inl (zA K1))), (g2, .inl (cI, 24, .inl (zA W1))), (g3, .inl (cI, 24, .inl (zA T1)))] (by decide) rfl ?_
    subst hQ
    exact zj_zret C (zI_bool (by omega)) hr ⟨r1_66, pg2_67, rw2_68, un2_69, us2_70, be2_71, fi2_72, P2_73, R2_74, U2_75, c2_76, b2_77, f2_78, s2_79, e1, (by have hk2 : K1 j1 = 2 := h21; exact zpl_w (k := K1 j1) (w := W1 j1) (by omega) hp rfl (by rw [hk2]; exact fw)), rfl, rfl⟩ (by decide) (by decide) dX1_place_32
end
section
/-- how many panels are set among the first n -/
def zMany (sg : Int) (K W T : Int → Int) : Nat → Int
  | 0 => 0
  | j + 1 => if (zSeq sg K W T (j + 1)).1 = true then (j : Int) + 1 else zMany sg K W T j
def zFin (sg : Int) (K W T : Int → Int) (n : Int) : ZL := (zSeq sg K W T n.toNat).2
/-- a story's numbers -/
def zOk (n sg : Int) (K W T : Int → Int) : Prop := (0 ≤ n ∧ n ≤ 24) ∧ (9 ≤ sg ∧ sg ≤ 60) ∧ ∀ x, 0 ≤ x → x < n → (0 ≤ K x ∧ K x ≤ 3) ∧ (1 ≤ W x ∧ W x ≤ 6) ∧ (1 ≤ T x ∧ T x ≤ 9)
theorem zX2_b {w : Int} {x : Int × Int × Int} (hw : 1 ≤ w ∧ w ≤ 6) (h1 : 0 ≤ x.1 ∧ x.1 ≤ 16) (h2 : 0 ≤ x.2.1 ∧ x.2.1 ≤ 3) (h3 : 0 ≤ x.2.2 ∧ x.2.2 ≤ 6) : (0 ≤ (zX2 w x).1 ∧ (zX2 w x).1 ≤ 17) ∧ (0 ≤ (zX2 w x).2.1 ∧ (zX2 w x).2.1 ≤ 3) ∧ (0 ≤ (zX2 w x).2.2 ∧ (zX2 w x).2.2 + w ≤ 6) := by
  unfold zX2
  by_cases h : 6 - x.2.2 < w
  · rw [if_pos h]
    dsimp only
    unfold zRp zRr
    by_cases h4 : x.2.1 = 3
    · rw [if_pos h4, if_pos h4]; omega
    · rw [if_neg h4, if_neg h4]; omega
  · rw [if_neg h]; omega
theorem zX3_b {d w : Int} {x : Int × Int × Int} (hw : 1 ≤ w ∧ w ≤ 6) (h1 : 0 ≤ x.1 ∧ x.1 ≤ 17) (h2 : 0 ≤ x.2.1 ∧ x.2.1 ≤ 3) (h3 : 0 ≤ x.2.2 ∧ x.2.2 + w ≤ 6) : (0 ≤ (zX3 d x).1 ∧ (zX3 d x).1 ≤ 18) ∧ (0 ≤ (zX3 d x).2.1 ∧ (zX3 d x).2.1 ≤ 3) ∧ (0 ≤ (zX3 d x).2.2 ∧ (zX3 d x).2.2 + w ≤ 6) := by
  unfold zX3
  by_cases h : d = 1 ∧ x.1 % 2 = 0 ∧ x.2.2 ≠ 0
  · rw [if_pos h]
    dsimp only
    unfold zRp zRr
    by_cases h4 : x.2.1 = 3
    · rw [if_pos h4, if_pos h4]; omega
    · rw [if_neg h4, if_neg h4]; omega
  · rw [if_neg h]; omega
theorem zXr_b {sg k w t pg rw un : Int} {c b : Int → Int} (hw : 1 ≤ w ∧ w ≤ 6) (h1 : 0 ≤ pg ∧ pg ≤ 16) (h2 : 0 ≤ rw ∧ rw ≤ 3) (h3 : 0 ≤ un ∧ un ≤ 6) : (0 ≤ (zXr sg k w t pg rw un c b).1 ∧ (zXr sg k w t pg rw un c b).1 ≤ 18) ∧ (0 ≤ (zXr sg k w t pg rw un c b).2.1 ∧ (zXr sg k w t pg rw un c b).2.1 ≤ 3) ∧ (0 ≤ (zXr sg k w t pg rw un c b).2.2 ∧ (zXr sg k w t pg rw un c b).2.2 + w ≤ 6) := by
  unfold zXr
  by_cases h : zGc c b pg t sg
  · rw [if_pos h]
    obtain ⟨a1, a2, a3⟩ := zX2_b (x := (pg + 1, 0, 0)) hw (by dsimp only; unfold zGc at h; omega) (by dsimp only; omega) (by dsimp only; omega)
    exact zX3_b hw a1 a2 a3
  · rw [if_neg h]
    obtain ⟨a1, a2, a3⟩ := zX2_b (x := (pg, rw, un)) hw h1 h2 h3
    exact zX3_b hw a1 a2 a3
theorem zXu_b {d w : Int} {x : Int × Int × Int} (hw : 1 ≤ w ∧ w ≤ 6) (h3 : 0 ≤ x.2.2 ∧ x.2.2 + w ≤ 6) : 0 ≤ zXu d w x ∧ zXu d w x + w ≤ 6 := by
  unfold zXu
  split <;> omega
theorem zFst_b {c : Int → Int} {pg tk : Int} (h1 : 0 ≤ pg ∧ pg ≤ 16) : 0 ≤ zFst c pg tk ∧ zFst c pg tk ≤ 18 := by
  unfold zFst zF0
  split <;> split <;> omega
/-- what a place says -/
theorem zPlc_r {sg k w t pg rw un : Int} {c b : Int → Int} (hk : k < 2) (hw : 1 ≤ w ∧ w ≤ 6) (h1 : 0 ≤ pg ∧ pg ≤ 16) (h2 : 0 ≤ rw ∧ rw ≤ 3) (h3 : 0 ≤ un ∧ un ≤ 6) (h : (zPlc sg k w t pg rw un c b).1 ≠ -1) :
    zPlc sg k w t pg rw un c b = ((zXr sg k w t pg rw un c b).1, (zXr sg k w t pg rw un c b).2.1, zXu k w (zXr sg k w t pg rw un c b)) ∧ (0 ≤ (zPlc sg k w t pg rw un c b).1 ∧ (zPlc sg k w t pg rw un c b).1 < 16) ∧ (0 ≤ (zPlc sg k w t pg rw un c b).2.1 ∧ (zPlc sg k w t pg rw un c b).2.1 ≤ 3) ∧ (0 ≤ (zPlc sg k w t pg rw un c b).2.2 ∧ (zPlc sg k w t pg rw un c b).2.2 + w ≤ 6) := by
  obtain ⟨a1, a2, a3⟩ := zXr_b (sg := sg) (k := k) (t := t) (c := c) (b := b) hw h1 h2 h3
  have a4 := zXu_b (d := k) (x := zXr sg k w t pg rw un c b) hw a3
  by_cases hx : (zXr sg k w t pg rw un c b).1 < 16
  · have e : zPlc sg k w t pg rw un c b = ((zXr sg k w t pg rw un c b).1, (zXr sg k w t pg rw un c b).2.1, zXu k w (zXr sg k w t pg rw un c b)) := by unfold zPlc; rw [if_pos hk, if_pos hx]
    rw [e]
    exact ⟨rfl, ⟨a1.1, hx⟩, a2, a4⟩
  · exfalso
    apply h
    unfold zPlc
    rw [if_pos hk, if_neg hx]
theorem zPlc_w {sg k w t pg rw un : Int} {c b : Int → Int} (hk : ¬ k < 2) (h1 : 0 ≤ pg ∧ pg ≤ 16) (h : (zPlc sg k w t pg rw un c b).1 ≠ -1) :
    zPlc sg k w t pg rw un c b = (zFst c pg (k - 1), -1, -1) ∧ 0 ≤ zFst c pg (k - 1) ∧ zFst c pg (k - 1) + (k - 1) ≤ 16 := by
  have a1 := zFst_b (c := c) (tk := k - 1) h1
  by_cases hx : zFst c pg (k - 1) + (k - 1) ≤ 16
  · refine ⟨?_, a1.1, hx⟩
    unfold zPlc
    rw [if_neg hk, if_pos hx]
  · exfalso
    apply h
    unfold zPlc
    rw [if_neg hk, if_neg hx]
/-- the numbers of the pages, behind j panels -/
def zLb (j : Int) (L : ZL) : Prop := (0 ≤ L.1 ∧ L.1 ≤ 16) ∧ (0 ≤ L.2.1 ∧ L.2.1 ≤ 3) ∧ (0 ≤ L.2.2.1 ∧ L.2.2.1 ≤ 6) ∧ (∀ x, 0 ≤ L.2.2.2.2.1 x ∧ L.2.2.2.2.1 x ≤ j) ∧ (∀ x, 0 ≤ L.2.2.2.2.2.1 x ∧ L.2.2.2.2.2.1 x ≤ 9 * j)
theorem zNext_b {sg k w t j : Int} {L : ZL} (hk : 0 ≤ k ∧ k ≤ 3) (hw : 1 ≤ w ∧ w ≤ 6) (ht : 1 ≤ t ∧ t ≤ 9) (hL : zLb j L) (h : (zPlL sg k w t L).1 ≠ -1) : zLb (j + 1) (zNext sg k w t j L) := by
  obtain ⟨h1, h2, h3, h4, h5⟩ := hL
  unfold zPlL at h
  unfold zNext zPlL
  by_cases hk2 : k < 2
  · obtain ⟨e, a1, a2, a3⟩ := zPlc_r hk2 hw h1 h2 h3 h
    rw [if_pos hk2]
    generalize zPlc sg k w t L.1 L.2.1 L.2.2.1 L.2.2.2.2.1 L.2.2.2.2.2.1 = P at a1 a2 a3
    refine ⟨⟨a1.1, by dsimp only; omega⟩, a2, ⟨by dsimp only; omega, a3.2⟩, fun x => ?_, fun x => ?_⟩
    · show 0 ≤ zU L.2.2.2.2.1 P.1 (L.2.2.2.2.1 P.1 + 1) x ∧ zU L.2.2.2.2.1 P.1 (L.2.2.2.2.1 P.1 + 1) x ≤ j + 1
      have := h4 x; have := h4 P.1
      unfold zU; split <;> omega
    · show 0 ≤ zU L.2.2.2.2.2.1 P.1 (L.2.2.2.2.2.1 P.1 + t) x ∧ zU L.2.2.2.2.2.1 P.1 (L.2.2.2.2.2.1 P.1 + t) x ≤ 9 * (j + 1)
      have := h5 x; have := h5 P.1
      unfold zU; split <;> omega
  · obtain ⟨e, a1, a2⟩ := zPlc_w hk2 h1 h
    rw [if_neg hk2, e]
    dsimp only
    generalize zFst L.2.2.2.2.1 L.1 (k - 1) = F at a1 a2
    refine ⟨⟨by dsimp only; omega, a2⟩, ⟨by dsimp only; omega, by dsimp only; omega⟩, ⟨by dsimp only; omega, by dsimp only; omega⟩, fun x => ?_, fun x => ?_⟩
    · dsimp only
      unfold zWhole
      have := h4 x; have := h4 F; have := h4 (F + 1)
      split
      · show 0 ≤ zU (zU L.2.2.2.2.1 F (L.2.2.2.2.1 F + 1)) (F + 1) (zU L.2.2.2.2.1 F (L.2.2.2.2.1 F + 1) (F + 1) + 1) x ∧ zU (zU L.2.2.2.2.1 F (L.2.2.2.2.1 F + 1)) (F + 1) (zU L.2.2.2.2.1 F (L.2.2.2.2.1 F + 1) (F + 1) + 1) x ≤ j + 1
        rw [zU_ne _ _ (show F + 1 ≠ F by omega)]
        unfold zU
        split
        · omega
        · split <;> omega
      · show 0 ≤ zU L.2.2.2.2.1 F (L.2.2.2.2.1 F + 1) x ∧ zU L.2.2.2.2.1 F (L.2.2.2.2.1 F + 1) x ≤ j + 1
        unfold zU; split <;> omega
    · dsimp only
      unfold zWhole
      have := h5 x; have := h5 F; have := h5 (F + 1)
      split
      · show 0 ≤ zU (zU L.2.2.2.2.2.1 F (L.2.2.2.2.2.1 F + t)) (F + 1) (zU L.2.2.2.2.2.1 F (L.2.2.2.2.2.1 F + t) (F + 1) + 0) x ∧ zU (zU L.2.2.2.2.2.1 F (L.2.2.2.2.2.1 F + t)) (F + 1) (zU L.2.2.2.2.2.1 F (L.2.2.2.2.2.1 F + t) (F + 1) + 0) x ≤ 9 * (j + 1)
        rw [zU_ne _ _ (show F + 1 ≠ F by omega)]
        unfold zU
        split
        · omega
        · split <;> omega
      · show 0 ≤ zU L.2.2.2.2.2.1 F (L.2.2.2.2.2.1 F + t) x ∧ zU L.2.2.2.2.2.1 F (L.2.2.2.2.2.1 F + t) x ≤ 9 * (j + 1)
        unfold zU; split <;> omega
section ZSQ
variable {n sg : Int} {K W T : Int → Int}
theorem zSeq_s {j : Nat} (h : (zSeq sg K W T (j + 1)).1 = true) : (zSeq sg K W T j).1 = true ∧ (zPlL sg (K j) (W j) (T j) (zSeq sg K W T j).2).1 ≠ -1 ∧ (zSeq sg K W T (j + 1)).2 = zNext sg (K j) (W j) (T j) j (zSeq sg K W T j).2 := by
  unfold zSeq at h
  by_cases hc : (zSeq sg K W T j).1 = true ∧ (zPlL sg (K j) (W j) (T j) (zSeq sg K W T j).2).1 ≠ -1
  · refine ⟨hc.1, hc.2, ?_⟩
    rw [zSeq, if_pos hc]
  · rw [if_neg hc] at h
    exact absurd h (by simp)
theorem zSeq_n {j : Nat} (h1 : (zSeq sg K W T j).1 = true) (h2 : (zPlL sg (K j) (W j) (T j) (zSeq sg K W T j).2).1 ≠ -1) : zSeq sg K W T (j + 1) = (true, zNext sg (K j) (W j) (T j) j (zSeq sg K W T j).2) := by
  rw [zSeq, if_pos ⟨h1, h2⟩]
theorem zSeq_no {j : Nat} (h : ¬ ((zSeq sg K W T j).1 = true ∧ (zPlL sg (K j) (W j) (T j) (zSeq sg K W T j).2).1 ≠ -1)) : zSeq sg K W T (j + 1) = (false, (zSeq sg K W T j).2) := by
  rw [zSeq, if_neg h]
theorem zSeq_b (hok : zOk n sg K W T) : ∀ j : Nat, (j : Int) ≤ n → zLb j (zSeq sg K W T j).2
  | 0, _ => ⟨by simp [zSeq, zL0], by simp [zSeq, zL0], by simp [zSeq, zL0], fun x => by simp [zSeq, zL0], fun x => by simp [zSeq, zL0]⟩
  | j + 1, h => by
    have ih := zSeq_b hok j (by omega)
    by_cases hc : (zSeq sg K W T j).1 = true ∧ (zPlL sg (K j) (W j) (T j) (zSeq sg K W T j).2).1 ≠ -1
    · rw [zSeq_n hc.1 hc.2]
      obtain ⟨b1, b2, b3⟩ := hok.2.2 j (by omega) (by omega)
      have := zNext_b b1 b2 b3 ih hc.2
      exact this
    · rw [zSeq_no hc]
      obtain ⟨h1, h2, h3, h4, h5⟩ := ih
      show zLb ((j + 1 : Nat) : Int) (zSeq sg K W T j).2
      exact ⟨h1, h2, h3, fun x => ⟨(h4 x).1, Int.le_trans (h4 x).2 (by omega)⟩, fun x => ⟨(h5 x).1, Int.le_trans (h5 x).2 (by omega)⟩⟩
theorem zMany_t {m : Nat} (h1 : (zSeq sg K W T m).1 = true) : zMany sg K W T m = m := by
  cases m with
  | zero => rfl
  | succ m => rw [zMany, if_pos h1]; rfl
theorem zStop {m : Nat} (h1 : (zSeq sg K W T m).1 = true) : ∀ k : Nat, (k = 0 ∨ (zPlL sg (K m) (W m) (T m) (zSeq sg K W T m).2).1 = -1) → (zSeq sg K W T (m + k)).2 = (zSeq sg K W T m).2 ∧ zMany sg K W T (m + k) = m ∧ (0 < k → (zSeq sg K W T (m + k)).1 = false)
  | 0, _ => ⟨rfl, zMany_t h1, fun h => absurd h (by omega)⟩
  | k + 1, h2 => by
    have h3 : (zPlL sg (K m) (W m) (T m) (zSeq sg K W T m).2).1 = -1 := h2.resolve_left (by omega)
    obtain ⟨i1, i2, i3⟩ := zStop h1 k (Or.inr h3)
    have hf : zSeq sg K W T (m + k + 1) = (false, (zSeq sg K W T (m + k)).2) := by
      apply zSeq_no
      rintro ⟨c1, c2⟩
      cases k with
      | zero => exact c2 h3
      | succ k => rw [i3 (by omega)] at c1; exact absurd c1 (by simp)
    refine ⟨by rw [← Nat.add_assoc, hf]; exact i1, ?_, fun _ => by rw [← Nat.add_assoc, hf]⟩
    rw [← Nat.add_assoc, zMany, if_neg (by rw [hf]; simp)]
    exact i2
theorem zPos_no {m : Nat} (h1 : (zSeq sg K W T m).1 = true) (h2 : (zPlL sg (K m) (W m) (T m) (zSeq sg K W T m).2).1 = -1) (i : Nat) (hi : m ≤ i) : zPos sg K W T i = (-1, -1, -1) := by
  obtain ⟨k, rfl⟩ : ∃ k, i = m + k := ⟨i - m, by omega⟩
  obtain ⟨-, -, h⟩ := zStop h1 (k + 1) (Or.inr h2)
  unfold zPos
  rw [if_neg (by rw [Nat.add_assoc, h (by omega)]; simp)]
theorem zPos_yes {j : Nat} (h1 : (zSeq sg K W T j).1 = true) (h2 : (zPlL sg (K j) (W j) (T j) (zSeq sg K W T j).2).1 ≠ -1) : zPos sg K W T j = zPlL sg (K j) (W j) (T j) (zSeq sg K W T j).2 := by
  unfold zPos
  rw [zSeq_n h1 h2, if_pos rfl]
end ZSQ
theorem zPut3 {P R U : Int → Int} {po : Nat → Int × Int × Int} {j : Nat} {x y z : Int} (h : ∀ i : Nat, i < j → P i = (po i).1 ∧ R i = (po i).2.1 ∧ U i = (po i).2.2) (hj : po j = (x, y, z)) :
    ∀ i : Nat, i < j + 1 → zU P (j : Int) x i = (po i).1 ∧ zU R (j : Int) y i = (po i).2.1 ∧ zU U (j : Int) z i = (po i).2.2 := by
  intro i hi
  by_cases q : i = j
  · subst q
    rw [zU_eq, zU_eq, zU_eq, hj]
    exact ⟨rfl, rfl, rfl⟩
  · have q2 : (i : Int) ≠ (j : Int) := by omega
    rw [zU_ne _ _ q2, zU_ne _ _ q2, zU_ne _ _ q2]
    exact h i (by omega)
end
section
theorem nf_RX1_61 : Cond.fieldLinkNest RX1 61 "SplashPages$Story" "size" "I" "SplashPages" ∈ zNW := by decide +kernel
theorem im_X1_pour_2 : ∀ w ∈ u_ws RX2 TX2 5, w ∈ wsX1_pour := by decide +kernel
theorem fl_X1_pour_55 : Cond.fieldLink RX1 55 "SplashPages$Layout" "leftOut" "I" ∈ wsX1_pour := by decide +kernel
theorem im_X1_pour_1 : ∀ w ∈ u_ws RX1 TX1 15, w ∈ wsX1_pour := by decide +kernel
abbrev rm_X1_pour : Room := { frames := 3, cells := 0, slots := 0, locals := 73 }
set_option maxRecDepth 100000 in
set_option maxHeartbeats 4000000 in
theorem c_X1_pour (l : Launch) (D : va_G) (cI cS cJ : ClassId) (q1 : Nat) (a0 : Nat) (a1 : Nat) (a2 : Nat) (a3 : Nat) (a4 : Nat) (a5 : Nat) (a6 : Nat) (a7 : Nat) (pg : Int) (rw : Int) (un : Int) (us : Int) (be : Int) (fi : Int) (lo : Int) (P1 : Int → Int) (R1 : Int → Int) (U1 : Int → Int) (c1 : Int → Int) (b1 : Int → Int) (f1 : Int → Int) (s1 : Int → Int) (e1 : Int → Int) (q2 : Nat) (g1 : Nat) (g2 : Nat) (g3 : Nat) (n1 : Int) (sg : Int) (K1 : Int → Int) (W1 : Int → Int) (T1 : Int → Int) (hst : zOk n1 sg K1 W1 T1) : zMv l yX1_pour wsX1_pour rm_X1_pour D (zTy cI cS cJ) [.ref q1, .ref q2] [(q1, .inr (1, [.ref a0, .ref a1, .ref a2, .ref a3, .ref a4, .ref a5, .ref a6, .ref a7, .int (zI pg), .int (zI rw), .int (zI un), .int (zI us), .int (zI be), .int (zI fi), .int (zI lo)])), (a0, .inl (cI, 24, .inl (zA P1))), (a1, .inl (cI, 24, .inl (zA R1))), (a2, .inl (cI, 24, .inl (zA U1))), (a3, .inl (cI, 16, .inl (zA c1))), (a4, .inl (cI, 16, .inl (zA b1))), (a5, .inl (cI, 16, .inl (zA f1))), (a6, .inl (cI, 16, .inl (zA s1))), (a7, .inl (cI, 16, .inl (zA e1))), (q2, .inr (2, [.ref g1, .ref g2, .ref g3, .int (zI n1), .int (zI sg)])), (g1, .inl (cI, 24, .inl (zA K1))), (g2, .inl (cI, 24, .inl (zA W1))), (g3, .inl (cI, 24, .inl (zA T1)))] (fun w => ∃ (pg2 : Int), ∃ (rw2 : Int), ∃ (un2 : Int), ∃ (P2 : Int → Int), ∃ (R2 : Int → Int), ∃ (U2 : Int → Int), (∀ i : Nat, (i : Int) < n1 → P2 i = (zPos sg K1 W1 T1 i).1 ∧ R2 i = (zPos sg K1 W1 T1 i).2.1 ∧ U2 i = (zPos sg K1 W1 T1 i).2.2) ∧ w = [(q1, .inr (1, [.ref a0, .ref a1, .ref a2, .ref a3, .ref a4, .ref a5, .ref a6, .ref a7, .int (zI pg2), .int (zI rw2), .int (zI un2), .int (zI ((zFin sg K1 W1 T1 n1).2.2.2.2.2.2.2.2.1)), .int (zI ((zFin sg K1 W1 T1 n1).2.2.2.2.2.2.2.2.2.1)), .int (zI ((zFin sg K1 W1 T1 n1).2.2.2.2.2.2.2.2.2.2)), .int (zI (n1 - zMany sg K1 W1 T1 n1.toNat))])), (a0, .inl (cI, 24, .inl (zA P2))), (a1, .inl (cI, 24, .inl (zA R2))), (a2, .inl (cI, 24, .inl (zA U2))), (a3, .inl (cI, 16, .inl (zA ((zFin sg K1 W1 T1 n1).2.2.2.2.1)))), (a4, .inl (cI, 16, .inl (zA ((zFin sg K1 W1 T1 n1).2.2.2.2.2.1)))), (a5, .inl (cI, 16, .inl (zA ((zFin sg K1 W1 T1 n1).2.2.2.2.2.2.1)))), (a6, .inl (cI, 16, .inl (zA ((zFin sg K1 W1 T1 n1).2.2.2.2.2.2.2.1)))), (a7, .inl (cI, 16, .inl (zA ((zFin sg K1 W1 T1 n1).2.2.2.1)))), (q2, .inr (2, [.ref g1, .ref g2, .ref g3, .int (zI n1), .int (zI sg)])), (g1, .inl (cI, 24, .inl (zA K1))), (g2, .inl (cI, 24, .inl (zA W1))), (g3, .inl (cI, 24, .inl (zA T1)))]) 0 0 := by
  intro sz
  refine zMet_of (Qc := fun A => va_Qv _ (zB D (zTy cI cS cJ) A) A) RX1 [(0, .ref q1), (1, .ref q2)] rfl (by decide +kernel) rfl (Nat.le_of_ble_eq_true rfl) rfl ?_ sz
  intro p e s m args below meth c A Q hQ C hr hini
  have hn1 := hst.1
  have hsg := hst.2.1
  have hL29 : ∀ (m1 : Nat) (pg3 : Int) (rw3 : Int) (un3 : Int) (us3 : Int) (be3 : Int) (fi3 : Int) (P3 : Int → Int) (R3 : Int → Int) (U3 : Int → Int) (c3 : Int → Int) (b3 : Int → Int) (f3 : Int → Int) (s3 : Int → Int) (e3 : Int → Int), ((m1 : Int) ≤ n1) → ((zSeq sg K1 W1 T1 m1).1 = true) → ((zSeq sg K1 W1 T1 m1).2.2.2.2 = (e3, (c3, b3, f3, s3, us3, be3, fi3))) → ((m1 : Int) = n1 ∨ (zPlL sg (K1 m1) (W1 m1) (T1 m1) (zSeq sg K1 W1 T1 m1).2).1 = -1) → (∀ i : Nat, i < m1 → P3 i = (zPos sg K1 W1 T1 i).1 ∧ R3 i = (zPos sg K1 W1 T1 i).2.1 ∧ U3 i = (zPos sg K1 W1 T1 i).2.2) → zJ p l e rm_X1_pour s m args below meth c Q D A 3 [(q1, .inr (1, [.ref a0, .ref a1, .ref a2, .ref a3, .ref a4, .ref a5, .ref a6, .ref a7, .int (zI pg3), .int (zI rw3), .int (zI un3), .int (zI us3), .int (zI be3), .int (zI fi3), .int (zI lo)])), (a0, .inl (cI, 24, .inl (zA P3))), (a1, .inl (cI, 24, .inl (zA R3))), (a2, .inl (cI, 24, .inl (zA U3))), (a3, .inl (cI, 16, .inl (zA c3))), (a4, .inl (cI, 16, .inl (zA b3))), (a5, .inl (cI, 16, .inl (zA f3))), (a6, .inl (cI, 16, .inl (zA s3))), (a7, .inl (cI, 16, .inl (zA e3))), (q2, .inr (2, [.ref g1, .ref g2, .ref g3, .int (zI n1), .int (zI sg)])), (g1, .inl (cI, 24, .inl (zA K1))), (g2, .inl (cI, 24, .inl (zA W1))), (g3, .inl (cI, 24, .inl (zA T1)))] 0 0 [(0, .ref q1), (1, .ref q2), (2, .int (zI (m1 : Int)))] 29 [] := by
    intro m1 pg3 rw3 un3 us3 be3 fi3 P3 R3 U3 c3 b3 f3 s3 e3 hm ht3 hs3 hstop hi3
    have hfin : (zSeq sg K1 W1 T1 n1.toNat).2 = (zSeq sg K1 W1 T1 m1).2 ∧ zMany sg K1 W1 T1 n1.toNat = m1 := by
      obtain ⟨k, hk⟩ : ∃ k, n1.toNat = m1 + k := ⟨n1.toNat - m1, by omega⟩
      rw [hk]
      obtain ⟨z1, z2, -⟩ := zStop ht3 k (by rcases hstop with q | q <;> first | exact Or.inl (by omega) | exact Or.inr q)
      exact ⟨z1, z2⟩
    have hno : ∀ i : Nat, m1 ≤ i → (i : Int) < n1 → zPos sg K1 W1 T1 i = (-1, -1, -1) := fun i h1 h2 => by
      rcases hstop with q | q
      · omega
      · exact zPos_no ht3 q i h1
    refine zj_aload_n 30 0 C dX1_pour_29 rfl rfl rfl ?_
    refine zj_aload_n 31 1 C dX1_pour_30 rfl rfl rfl ?_
    refine zj_getN 34 9 3 C (T := TX2) im_X1_pour_2 nf_RX1_61 rfl rfl (by decide) rfl rfl dX1_pour_31 rfl ?_
    refine zj_iload_n 35 2 C dX1_pour_34 rfl rfl rfl ?_
    refine zj_isub 36 C dX1_pour_35 rfl ?_
    refine zj_put 39 0 14 [(q1, .inr (1, [.ref a0, .ref a1, .ref a2, .ref a3, .ref a4, .ref a5, .ref a6, .ref a7, .int (zI pg3), .int (zI rw3), .int (zI un3), .int (zI us3), .int (zI be3), .int (zI fi3), .int (zI (n1 - (m1 : Int)))])), (a0, .inl (cI, 24, .inl (zA P3))), (a1, .inl (cI, 24, .inl (zA R3))), (a2, .inl (cI, 24, .inl (zA U3))), (a3, .inl (cI, 16, .inl (zA c3))), (a4, .inl (cI, 16, .inl (zA b3))), (a5, .inl (cI, 16, .inl (zA f3))), (a6, .inl (cI, 16, .inl (zA s3))), (a7, .inl (cI, 16, .inl (zA e3))), (q2, .inr (2, [.ref g1, .ref g2, .ref g3, .int (zI n1), .int (zI sg)])), (g1, .inl (cI, 24, .inl (zA K1))), (g2, .inl (cI, 24, .inl (zA W1))), (g3, .inl (cI, 24, .inl (zA T1)))] C (T := TX1) tyX1 tyX1_ok nmX1 im_X1_pour_1 fl_X1_pour_55 rfl rfl (by decide) rfl rfl rfl rfl rfl (Nat.le_of_ble_eq_true rfl) rfl dX1_pour_36 rfl ?_
    have hL39 : ∀ (N : Nat) (j : Nat) (P4 : Int → Int) (R4 : Int → Int) (U4 : Int → Int), (m1 ≤ j ∧ (j : Int) ≤ n1) → (∀ i : Nat, i < j → P4 i = (zPos sg K1 W1 T1 i).1 ∧ R4 i = (zPos sg K1 W1 T1 i).2.1 ∧ U4 i = (zPos sg K1 W1 T1 i).2.2) → (n1 - j < N) → zJ p l e rm_X1_pour s m args below meth c Q D A 3 [(q1, .inr (1, [.ref a0, .ref a1, .ref a2, .ref a3, .ref a4, .ref a5, .ref a6, .ref a7, .int (zI pg3), .int (zI rw3), .int (zI un3), .int (zI us3), .int (zI be3), .int (zI fi3), .int (zI (n1 - m1))])), (a0, .inl (cI, 24, .inl (zA P4))), (a1, .inl (cI, 24, .inl (zA R4))), (a2, .inl (cI, 24, .inl (zA U4))), (a3, .inl (cI, 16, .inl (zA c3))), (a4, .inl (cI, 16, .inl (zA b3))), (a5, .inl (cI, 16, .inl (zA f3))), (a6, .inl (cI, 16, .inl (zA s3))), (a7, .inl (cI, 16, .inl (zA e3))), (q2, .inr (2, [.ref g1, .ref g2, .ref g3, .int (zI n1), .int (zI sg)])), (g1, .inl (cI, 24, .inl (zA K1))), (g2, .inl (cI, 24, .inl (zA W1))), (g3, .inl (cI, 24, .inl (zA T1)))] 0 0 [(0, .ref q1), (1, .ref q2), (2, .int (zI (j : Int)))] 39 [] := by
      intro N
      induction N with
      | zero => intro j P4 R4 U4 hj hi4 hN; exact absurd hN (by omega)
      | succ N ih =>
        intro j P4 R4 U4 hj hi4 hN
        refine zj_iload_n 40 2 C dX1_pour_39 rfl rfl rfl ?_
        refine zj_aload_n 41 1 C dX1_pour_40 rfl rfl rfl ?_
        refine zj_getN 44 9 3 C (T := TX2) im_X1_pour_2 nf_RX1_61 rfl rfl (by decide) rfl rfl dX1_pour_41 rfl ?_
        refine zj_icmp_ge 47 61 C (by omega) (by omega) dX1_pour_44 rfl (by decide) (fun h44 => ?_) (fun h44 => ?_)
        · skip
          refine zj_ws (ws' := [(q1, .inr (1, [.ref a0, .ref a1, .ref a2, .ref a3, .ref a4, .ref a5, .ref a6, .ref a7, .int (zI pg3), .int (zI rw3), .int (zI un3), .int (zI ((zFin sg K1 W1 T1 n1).2.2.2.2.2.2.2.2.1)), .int (zI ((zFin sg K1 W1 T1 n1).2.2.2.2.2.2.2.2.2.1)), .int (zI ((zFin sg K1 W1 T1 n1).2.2.2.2.2.2.2.2.2.2)), .int (zI (n1 - zMany sg K1 W1 T1 n1.toNat))])), (a0, .inl (cI, 24, .inl (zA P4))), (a1, .inl (cI, 24, .inl (zA R4))), (a2, .inl (cI, 24, .inl (zA U4))), (a3, .inl (cI, 16, .inl (zA ((zFin sg K1 W1 T1 n1).2.2.2.2.1)))), (a4, .inl (cI, 16, .inl (zA ((zFin sg K1 W1 T1 n1).2.2.2.2.2.1)))), (a5, .inl (cI, 16, .inl (zA ((zFin sg K1 W1 T1 n1).2.2.2.2.2.2.1)))), (a6, .inl (cI, 16, .inl (zA ((zFin sg K1 W1 T1 n1).2.2.2.2.2.2.2.1)))), (a7, .inl (cI, 16, .inl (zA ((zFin sg K1 W1 T1 n1).2.2.2.1)))), (q2, .inr (2, [.ref g1, .ref g2, .ref g3, .int (zI n1), .int (zI sg)])), (g1, .inl (cI, 24, .inl (zA K1))), (g2, .inl (cI, 24, .inl (zA W1))), (g3, .inl (cI, 24, .inl (zA T1)))]) (by unfold zFin; rw [hfin.1, hfin.2]; show _ = (_ : va_W); rw [show (zSeq sg K1 W1 T1 m1).2.2.2.2.1 = e3 from by rw [hs3], show (zSeq sg K1 W1 T1 m1).2.2.2.2.2 = (c3, b3, f3, s3, us3, be3, fi3) from by rw [hs3]]) ?_
          subst hQ
          exact zj_return C hr ⟨pg3, rw3, un3, P4, R4, U4, (fun i hi => hi4 i (by omega)), rfl⟩ (by decide) (by decide) dX1_pour_61
        · skip
          refine zj_aload_n 48 0 C dX1_pour_47 rfl rfl rfl ?_
          refine zj_iload_n 49 2 C dX1_pour_48 rfl rfl rfl ?_
          refine zj_iconst 50 C dX1_pour_49 rfl ?_
          refine zj_iconst 51 C dX1_pour_50 rfl ?_
          refine zj_iconst 52 C dX1_pour_51 rfl ?_
          refine zj_cv 55 [0, 1, 2, 3] [4, 5, 6, 7, 8, 9, 10, 11, 12] C (wr := [(a3, .inl (cI, 16, .inl (zA c3))), (a4, .inl (cI, 16, .inl (zA b3))), (a5, .inl (cI, 16, .inl (zA f3))), (a6, .inl (cI, 16, .inl (zA s3))), (a7, .inl (cI, 16, .inl (zA e3))), (q2, .inr (2, [.ref g1, .ref g2, .ref g3, .int (zI n1), .int (zI sg)])), (g1, .inl (cI, 24, .inl (zA K1))), (g2, .inl (cI, 24, .inl (zA W1))), (g3, .inl (cI, 24, .inl (zA T1)))]) (zr_V [0, 1, 2, 3] C (As := [.int (zI (j : Int)), .int (zI (-1)), .int (zI (-1)), .int (zI (-1))]) (rest := []) (c_X1_note l D cI cS cJ q1 a0 a1 a2 a3 a4 a5 a6 a7 pg3 rw3 un3 us3 be3 fi3 (n1 - m1) P4 R4 U4 (j : Int) (-1) (-1) (-1) (by omega)) (cwV 4 C.1.2.2.2.2 gX1_pour_X1_note rfl rfl rfl (by decide +kernel) ⟨Nat.le_of_ble_eq_true rfl, Nat.le_of_ble_eq_true rfl⟩) rfl (by decide) 0 rfl rfl rfl rfl (Nat.le_of_ble_eq_true rfl) dX1_pour_52 ⟨Nat.le_of_ble_eq_true rfl, Nat.le_of_ble_eq_true rfl⟩) rfl rfl (by decide) (by decide) rfl (fun w_ hp_2 => ?_)
          obtain rfl := hp_2
          refine zj_ws (ws' := [(a3, .inl (cI, 16, .inl (zA c3))), (a4, .inl (cI, 16, .inl (zA b3))), (a5, .inl (cI, 16, .inl (zA f3))), (a6, .inl (cI, 16, .inl (zA s3))), (a7, .inl (cI, 16, .inl (zA e3))), (q2, .inr (2, [.ref g1, .ref g2, .ref g3, .int (zI n1), .int (zI sg)])), (g1, .inl (cI, 24, .inl (zA K1))), (g2, .inl (cI, 24, .inl (zA W1))), (g3, .inl (cI, 24, .inl (zA T1))), (q1, .inr (1, [.ref a0, .ref a1, .ref a2, .ref a3, .ref a4, .ref a5, .ref a6, .ref a7, .int (zI pg3), .int (zI rw3), .int (zI un3), .int (zI us3), .int (zI be3), .int (zI fi3), .int (zI (n1 - m1))])), (a0, .inl (cI, 24, .inl (zA (zU P4 (j : Int) (-1))))), (a1, .inl (cI, 24, .inl (zA (zU R4 (j : Int) (-1))))), (a2, .inl (cI, 24, .inl (zA (zU U4 (j : Int) (-1)))))]) rfl ?_
          refine zj_iinc 58 2 [(2, .int (zI ((j : Int) + 1))), (0, .ref q1), (1, .ref q2)] C dX1_pour_55 rfl rfl (by decide) rfl ?_
          refine zj_goto 39 C dX1_pour_58 (by decide) ?_
          refine zj_re [9, 10, 11, 12, 0, 1, 2, 3, 4, 5, 6, 7, 8] [(q1, .inr (1, [.ref a0, .ref a1, .ref a2, .ref a3, .ref a4, .ref a5, .ref a6, .ref a7, .int (zI pg3), .int (zI rw3), .int (zI un3), .int (zI us3), .int (zI be3), .int (zI fi3), .int (zI (n1 - m1))])), (a0, .inl (cI, 24, .inl (zA (zU P4 (j : Int) (-1))))), (a1, .inl (cI, 24, .inl (zA (zU R4 (j : Int) (-1))))), (a2, .inl (cI, 24, .inl (zA (zU U4 (j : Int) (-1))))), (a3, .inl (cI, 16, .inl (zA c3))), (a4, .inl (cI, 16, .inl (zA b3))), (a5, .inl (cI, 16, .inl (zA f3))), (a6, .inl (cI, 16, .inl (zA s3))), (a7, .inl (cI, 16, .inl (zA e3))), (q2, .inr (2, [.ref g1, .ref g2, .ref g3, .int (zI n1), .int (zI sg)])), (g1, .inl (cI, 24, .inl (zA K1))), (g2, .inl (cI, 24, .inl (zA W1))), (g3, .inl (cI, 24, .inl (zA T1)))] (by decide) rfl ?_
          refine zj_lv [1, 2, 0] [(0, .ref q1), (1, .ref q2), (2, .int (zI ((j : Int) + 1)))] rfl ?_
          refine zj_eqlv (lv' := [(0, .ref q1), (1, .ref q2), (2, .int (zI ((j + 1) : Int)))]) (by rfl) ?_
          exact ih (j + 1) (zU P4 (j : Int) (-1)) (zU R4 (j : Int) (-1)) (zU U4 (j : Int) (-1)) (by omega) ((zPut3 hi4 (hno j (by omega) (by omega)))) (by omega)
    refine zj_ws (ws' := [(q1, .inr (1, [.ref a0, .ref a1, .ref a2, .ref a3, .ref a4, .ref a5, .ref a6, .ref a7, .int (zI pg3), .int (zI rw3), .int (zI un3), .int (zI us3), .int (zI be3), .int (zI fi3), .int (zI (n1 - m1))])), (a0, .inl (cI, 24, .inl (zA P3))), (a1, .inl (cI, 24, .inl (zA R3))), (a2, .inl (cI, 24, .inl (zA U3))), (a3, .inl (cI, 16, .inl (zA c3))), (a4, .inl (cI, 16, .inl (zA b3))), (a5, .inl (cI, 16, .inl (zA f3))), (a6, .inl (cI, 16, .inl (zA s3))), (a7, .inl (cI, 16, .inl (zA e3))), (q2, .inr (2, [.ref g1, .ref g2, .ref g3, .int (zI n1), .int (zI sg)])), (g1, .inl (cI, 24, .inl (zA K1))), (g2, .inl (cI, 24, .inl (zA W1))), (g3, .inl (cI, 24, .inl (zA T1)))]) (by rfl) ?_
    exact hL39 (25) m1 P3 R3 U3 (by omega) (hi3) (by omega)
  refine zj_aload_n 1 0 C dX1_pour_0 rfl rfl rfl ?_
  refine zj_cv 4 [0, 4, 5, 6, 7, 8] [1, 2, 3, 9, 10, 11, 12] C (wr := [(a0, .inl (cI, 24, .inl (zA P1))), (a1, .inl (cI, 24, .inl (zA R1))), (a2, .inl (cI, 24, .inl (zA U1))), (q2, .inr (2, [.ref g1, .ref g2, .ref g3, .int (zI n1), .int (zI sg)])), (g1, .inl (cI, 24, .inl (zA K1))), (g2, .inl (cI, 24, .inl (zA W1))), (g3, .inl (cI, 24, .inl (zA T1)))]) (zr_V [0, 4, 5, 6, 7, 8] C (As := []) (rest := []) (c_X1_clear l D cI cS cJ q1 a0 a1 a2 a3 a4 a5 a6 a7 pg rw un us be fi lo c1 b1 f1 s1 e1) (cwV 0 C.1.2.2.2.2 gX1_pour_X1_clear rfl rfl rfl (by decide +kernel) ⟨Nat.le_of_ble_eq_true rfl, Nat.le_of_ble_eq_true rfl⟩) rfl (by decide) 0 rfl rfl rfl rfl (Nat.le_of_ble_eq_true rfl) dX1_pour_1 ⟨Nat.le_of_ble_eq_true rfl, Nat.le_of_ble_eq_true rfl⟩) rfl rfl (by decide) (by decide) rfl (fun w_ hp_4 => ?_)
  obtain rfl := hp_4
  refine zj_ws (ws' := [(a0, .inl (cI, 24, .inl (zA P1))), (a1, .inl (cI, 24, .inl (zA R1))), (a2, .inl (cI, 24, .inl (zA U1))), (q2, .inr (2, [.ref g1, .ref g2, .ref g3, .int (zI n1), .int (zI sg)])), (g1, .inl (cI, 24, .inl (zA K1))), (g2, .inl (cI, 24, .inl (zA W1))), (g3, .inl (cI, 24, .inl (zA T1))), (q1, .inr (1, [.ref a0, .ref a1, .ref a2, .ref a3, .ref a4, .ref a5, .ref a6, .ref a7, .int (zI 0), .int (zI 0), .int (zI 0), .int (zI 0), .int (zI 0), .int (zI 0), .int (zI lo)])), (a3, .inl (cI, 16, .inl (zA (fun _ => 0)))), (a4, .inl (cI, 16, .inl (zA (fun _ => 0)))), (a5, .inl (cI, 16, .inl (zA (fun _ => 0)))), (a6, .inl (cI, 16, .inl (zA (fun _ => 0)))), (a7, .inl (cI, 16, .inl (zA (fun _ => 0))))]) rfl ?_
  refine zj_iconst 5 C dX1_pour_4 rfl ?_
  refine zj_istore_n 6 [(2, .int (zI 0)), (0, .ref q1), (1, .ref q2)] C dX1_pour_5 rfl rfl (by decide) rfl ?_
  have hL6 : ∀ (N : Nat) (j : Nat) (pg3 : Int) (rw3 : Int) (un3 : Int) (us3 : Int) (be3 : Int) (fi3 : Int) (P3 : Int → Int) (R3 : Int → Int) (U3 : Int → Int) (c3 : Int → Int) (b3 : Int → Int) (f3 : Int → Int) (s3 : Int → Int) (e3 : Int → Int), ((j : Int) ≤ n1) → (zSeq sg K1 W1 T1 j = (true, (pg3, rw3, un3, e3, c3, b3, f3, s3, us3, be3, fi3))) → (∀ i : Nat, i < j → P3 i = (zPos sg K1 W1 T1 i).1 ∧ R3 i = (zPos sg K1 W1 T1 i).2.1 ∧ U3 i = (zPos sg K1 W1 T1 i).2.2) → (n1 - j < N) → zJ p l e rm_X1_pour s m args below meth c Q D A 3 [(q1, .inr (1, [.ref a0, .ref a1, .ref a2, .ref a3, .ref a4, .ref a5, .ref a6, .ref a7, .int (zI pg3), .int (zI rw3), .int (zI un3), .int (zI us3), .int (zI be3), .int (zI fi3), .int (zI lo)])), (a0, .inl (cI, 24, .inl (zA P3))), (a1, .inl (cI, 24, .inl (zA R3))), (a2, .inl (cI, 24, .inl (zA U3))), (a3, .inl (cI, 16, .inl (zA c3))), (a4, .inl (cI, 16, .inl (zA b3))), (a5, .inl (cI, 16, .inl (zA f3))), (a6, .inl (cI, 16, .inl (zA s3))), (a7, .inl (cI, 16, .inl (zA e3))), (q2, .inr (2, [.ref g1, .ref g2, .ref g3, .int (zI n1), .int (zI sg)])), (g1, .inl (cI, 24, .inl (zA K1))), (g2, .inl (cI, 24, .inl (zA W1))), (g3, .inl (cI, 24, .inl (zA T1)))] 0 0 [(0, .ref q1), (1, .ref q2), (2, .int (zI (j : Int)))] 6 [] := by
    intro N
    induction N with
    | zero => intro j pg3 rw3 un3 us3 be3 fi3 P3 R3 U3 c3 b3 f3 s3 e3 hj hs3 hi3 hN; exact absurd hN (by omega)
    | succ N ih =>
      intro j pg3 rw3 un3 us3 be3 fi3 P3 R3 U3 c3 b3 f3 s3 e3 hj hs3 hi3 hN
      have hb3 : zLb j (pg3, rw3, un3, e3, c3, b3, f3, s3, us3, be3, fi3) := by have := zSeq_b hst j hj; rw [hs3] at this; exact this
      refine zj_iload_n 7 2 C dX1_pour_6 rfl rfl rfl ?_
      refine zj_aload_n 8 1 C dX1_pour_7 rfl rfl rfl ?_
      refine zj_getN 11 9 3 C (T := TX2) im_X1_pour_2 nf_RX1_61 rfl rfl (by decide) rfl rfl dX1_pour_8 rfl ?_
      refine zj_icmp_ge 14 29 C (by omega) (by omega) dX1_pour_11 rfl (by decide) (fun h11 => ?_) (fun h11 => ?_)
      · skip
        exact hL29 j pg3 rw3 un3 us3 be3 fi3 P3 R3 U3 c3 b3 f3 s3 e3 (by omega) (by rw [hs3]) (by rw [hs3]) (Or.inl (by omega)) (hi3)
      · skip
        refine zj_aload_n 15 0 C dX1_pour_14 rfl rfl rfl ?_
        refine zj_aload_n 16 1 C dX1_pour_15 rfl rfl rfl ?_
        refine zj_iload_n 17 2 C dX1_pour_16 rfl rfl rfl ?_
        refine zj_ci 20 [0, 1, 2, 3, 4, 5, 6, 7, 8, 9, 10, 11, 12] [] C (wr := []) (zr_V [0, 1, 2, 3, 4, 5, 6, 7, 8, 9, 10, 11, 12] C (As := [.ref q2, .int (zI (j : Int))]) (rest := []) (c_X1_place l D cI cS cJ q1 a0 a1 a2 a3 a4 a5 a6 a7 pg3 rw3 un3 us3 be3 fi3 lo P3 R3 U3 c3 b3 f3 s3 e3 q2 g1 g2 g3 n1 sg K1 W1 T1 (j : Int) hb3.1 hb3.2.1 hb3.2.2.1 (by omega) (by have := hst.2.2 j (by omega) (by omega); omega) (by omega) (fun x => ⟨(hb3.2.2.2.1 x).1, by have := (hb3.2.2.2.1 x).2; dsimp only at this; omega⟩) (fun x => ⟨(hb3.2.2.2.2 x).1, by have := (hb3.2.2.2.2 x).2; dsimp only at this; omega⟩)) (cwV 2 C.1.2.2.2.2 gX1_pour_X1_place rfl rfl rfl (by decide +kernel) ⟨Nat.le_of_ble_eq_true rfl, Nat.le_of_ble_eq_true rfl⟩) rfl (by decide) 0 rfl rfl rfl rfl (Nat.le_of_ble_eq_true rfl) dX1_pour_17 ⟨Nat.le_of_ble_eq_true rfl, Nat.le_of_ble_eq_true rfl⟩) rfl rfl (by decide) (by decide) rfl (fun r_5 w_ hp_6 => ?_)
        obtain ⟨r1n, pg2n, rw2n, un2n, us2n, be2n, fi2n, P2n, R2n, U2n, c2n, b2n, f2n, s2n, e2n, fp, rfl, rfl⟩ := hp_6
        refine zj_ws (ws' := [(q1, .inr (1, [.ref a0, .ref a1, .ref a2, .ref a3, .ref a4, .ref a5, .ref a6, .ref a7, .int (zI pg2n), .int (zI rw2n), .int (zI un2n), .int (zI us2n), .int (zI be2n), .int (zI fi2n), .int (zI lo)])), (a0, .inl (cI, 24, .inl (zA P2n))), (a1, .inl (cI, 24, .inl (zA R2n))), (a2, .inl (cI, 24, .inl (zA U2n))), (a3, .inl (cI, 16, .inl (zA c2n))), (a4, .inl (cI, 16, .inl (zA b2n))), (a5, .inl (cI, 16, .inl (zA f2n))), (a6, .inl (cI, 16, .inl (zA s2n))), (a7, .inl (cI, 16, .inl (zA e2n))), (q2, .inr (2, [.ref g1, .ref g2, .ref g3, .int (zI n1), .int (zI sg)])), (g1, .inl (cI, 24, .inl (zA K1))), (g2, .inl (cI, 24, .inl (zA W1))), (g3, .inl (cI, 24, .inl (zA T1)))]) rfl ?_
        refine zj_if_eq 23 29 C (by omega) dX1_pour_20 rfl (by decide) (fun h20 => ?_) (fun h20 => ?_)
        · skip
          obtain ⟨-, hp1, hp2, hp3, hp4, hp5, hp6⟩ := fp.resolve_right (fun q => absurd q.1 (by omega))
          have hpl : (zPlL sg (K1 j) (W1 j) (T1 j) (zSeq sg K1 W1 T1 j).2).1 = -1 := by rw [hs3]; exact hp1
          exact hL29 j pg2n rw2n un2n us2n be2n fi2n P2n R2n U2n c2n b2n f2n s2n e2n (by omega) (by rw [hs3]) (by rw [hs3, hp6, hp5]) (Or.inr hpl) (by rw [hp2, hp3, hp4]; exact hi3)
        · skip
          refine zj_iinc 26 2 [(2, .int (zI ((j : Int) + 1))), (0, .ref q1), (1, .ref q2)] C dX1_pour_23 rfl rfl (by decide) rfl ?_
          refine zj_goto 6 C dX1_pour_26 (by decide) ?_
          obtain ⟨-, hp1, hp2, hp3, hp4, hp5⟩ := fp.resolve_left (fun q => absurd q.1 (by omega))
          have hne : (zPlL sg (K1 j) (W1 j) (T1 j) (pg3, rw3, un3, e3, c3, b3, f3, s3, us3, be3, fi3)).1 ≠ -1 := by unfold zPlL; intro q; have q2 : (zPlc sg (K1 j) (W1 j) (T1 j) pg3 rw3 un3 c3 b3).1 = -1 := q; omega
          have hn3 : zSeq sg K1 W1 T1 (j + 1) = (true, (pg2n, rw2n, un2n, e2n, c2n, b2n, f2n, s2n, us2n, be2n, fi2n)) := by rw [zSeq_n (by rw [hs3]) (by rw [hs3]; exact hne), hs3, hp5]
          have hpo : zPos sg K1 W1 T1 j = zPlc sg (K1 j) (W1 j) (T1 j) pg3 rw3 un3 c3 b3 := by rw [zPos_yes (by rw [hs3]) (by rw [hs3]; exact hne), hs3]; rfl
          refine zj_lv [1, 2, 0] [(0, .ref q1), (1, .ref q2), (2, .int (zI ((j : Int) + 1)))] rfl ?_
          refine zj_eqlv (lv' := [(0, .ref q1), (1, .ref q2), (2, .int (zI ((j + 1) : Int)))]) (by rfl) ?_
          exact ih (j + 1) pg2n rw2n un2n us2n be2n fi2n P2n R2n U2n c2n b2n f2n s2n e2n (by omega) (hn3) (by rw [hp2, hp3, hp4]; exact zPut3 hi3 hpo) (by omega)
  refine zj_re [7, 0, 1, 2, 8, 9, 10, 11, 12, 3, 4, 5, 6] [(q1, .inr (1, [.ref a0, .ref a1, .ref a2, .ref a3, .ref a4, .ref a5, .ref a6, .ref a7, .int (zI 0), .int (zI 0), .int (zI 0), .int (zI 0), .int (zI 0), .int (zI 0), .int (zI lo)])), (a0, .inl (cI, 24, .inl (zA P1))), (a1, .inl (cI, 24, .inl (zA R1))), (a2, .inl (cI, 24, .inl (zA U1))), (a3, .inl (cI, 16, .inl (zA (fun _ => 0)))), (a4, .inl (cI, 16, .inl (zA (fun _ => 0)))), (a5, .inl (cI, 16, .inl (zA (fun _ => 0)))), (a6, .inl (cI, 16, .inl (zA (fun _ => 0)))), (a7, .inl (cI, 16, .inl (zA (fun _ => 0)))), (q2, .inr (2, [.ref g1, .ref g2, .ref g3, .int (zI n1), .int (zI sg)])), (g1, .inl (cI, 24, .inl (zA K1))), (g2, .inl (cI, 24, .inl (zA W1))), (g3, .inl (cI, 24, .inl (zA T1)))] (by decide) rfl ?_
  refine zj_lv [1, 2, 0] [(0, .ref q1), (1, .ref q2), (2, .int (zI 0))] rfl ?_
  refine zj_eqlv (lv' := [(0, .ref q1), (1, .ref q2), (2, .int (zI (0 : Int)))]) (by rfl) ?_
  exact hL6 (25) 0 0 0 0 0 0 0 P1 R1 U1 (fun _ => 0) (fun _ => 0) (fun _ => 0) (fun _ => 0) (fun _ => 0) (by omega) (rfl) (fun i h => absurd h (by omega)) (by omega)
end
