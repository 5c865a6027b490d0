section
/-- names a row of the library's rest, so that every round is read over the whole of it from the first part on -/
theorem wide_first (s : State) (c comp : ClassId) (N M : Nat) (dv : Value) {a : Addr} (ha : a < s.heap.size) (i : Nat) : (Jvm.Free.Multi.fill s c comp N M dv i).heap[a]? = s.heap[a]? := Jvm.Free.Multi.fill_old s c comp N M dv ha i
-- ===== PART A: goes FIRST, ahead of the names: the tables' words, and 'selects' of the private methods out of them =====
/-- a private method of a class that the tables say can be made, by its rows of tables_1 -/
def lw_okq (q : MethodName × Nat) : Prop := (q.1.cls ≠ "java/lang/invoke/MethodHandle" ∧ q.1.cls ≠ "java/lang/invoke/VarHandle") ∧ Cond.instantiable q.1.cls q.2 ∈ tables_1 ∧ Cond.privateMethod q.1 ∈ tables_1 ∧ Cond.instanceMethod q.1 ∈ tables_1
theorem lw_p0 : lw_okq (⟨"GlidingContest", "knownPilot", "(I)LGlidingContest$Glider;"⟩, 9) := ⟨⟨by decide +kernel, by decide +kernel⟩, List.mem_of_getElem? (i := 41) (by decide +kernel), List.mem_of_getElem? (i := 39) (by decide +kernel), List.mem_of_getElem? (i := 40) (by decide +kernel)⟩
theorem lw_p1 : lw_okq (⟨"java/lang/Throwable", "fillInStackTrace", "(I)Ljava/lang/Throwable;"⟩, 6) := ⟨⟨by decide +kernel, by decide +kernel⟩, List.mem_of_getElem? (i := 92) (by decide +kernel), List.mem_of_getElem? (i := 90) (by decide +kernel), List.mem_of_getElem? (i := 91) (by decide +kernel)⟩
theorem lw_p2 : lw_okq (⟨"GlidingContest", "writeFlight", "(LGlidingContest$Glider;)V"⟩, 9) := ⟨⟨by decide +kernel, by decide +kernel⟩, List.mem_of_getElem? (i := 41) (by decide +kernel), List.mem_of_getElem? (i := 465) (by decide +kernel), List.mem_of_getElem? (i := 466) (by decide +kernel)⟩
theorem lw_p3 : lw_okq (⟨"GlidingContest$History", "dropOldest", "()V"⟩, 2) := ⟨⟨by decide +kernel, by decide +kernel⟩, List.mem_of_getElem? (i := 529) (by decide +kernel), List.mem_of_getElem? (i := 527) (by decide +kernel), List.mem_of_getElem? (i := 528) (by decide +kernel)⟩
theorem lw_p4 : lw_okq (⟨"GlidingContest$State", "glideKilometre", "(LGlidingContest$Glider;I)V"⟩, 8) := ⟨⟨by decide +kernel, by decide +kernel⟩, List.mem_of_getElem? (i := 676) (by decide +kernel), List.mem_of_getElem? (i := 674) (by decide +kernel), List.mem_of_getElem? (i := 675) (by decide +kernel)⟩
theorem lw_p5 : lw_okq (⟨"GlidingContest$State", "leastMinutes", "(I)I"⟩, 8) := ⟨⟨by decide +kernel, by decide +kernel⟩, List.mem_of_getElem? (i := 676) (by decide +kernel), List.mem_of_getElem? (i := 755) (by decide +kernel), List.mem_of_getElem? (i := 756) (by decide +kernel)⟩
theorem lw_p6 : lw_okq (⟨"GlidingContest", "pilotInPhase", "(ILGlidingContest$Phase;)LGlidingContest$Glider;"⟩, 9) := ⟨⟨by decide +kernel, by decide +kernel⟩, List.mem_of_getElem? (i := 41) (by decide +kernel), List.mem_of_getElem? (i := 803) (by decide +kernel), List.mem_of_getElem? (i := 804) (by decide +kernel)⟩
theorem lw_p7 : lw_okq (⟨"GlidingContest$State", "countAhead", "(I)I"⟩, 8) := ⟨⟨by decide +kernel, by decide +kernel⟩, List.mem_of_getElem? (i := 676) (by decide +kernel), List.mem_of_getElem? (i := 824) (by decide +kernel), List.mem_of_getElem? (i := 825) (by decide +kernel)⟩
theorem lw_p8 : lw_okq (⟨"GlidingContest$State", "isAhead", "(II)Z"⟩, 8) := ⟨⟨by decide +kernel, by decide +kernel⟩, List.mem_of_getElem? (i := 676) (by decide +kernel), List.mem_of_getElem? (i := 828) (by decide +kernel), List.mem_of_getElem? (i := 829) (by decide +kernel)⟩
theorem lw_p9 : lw_okq (⟨"GlidingContest$Script", "readCommand", "(I)Z"⟩, 6) := ⟨⟨by decide +kernel, by decide +kernel⟩, List.mem_of_getElem? (i := 1062) (by decide +kernel), List.mem_of_getElem? (i := 1302) (by decide +kernel), List.mem_of_getElem? (i := 1303) (by decide +kernel)⟩
theorem lw_p10 : lw_okq (⟨"GlidingContest$Script", "fits", "(Ljava/lang/String;I)Z"⟩, 6) := ⟨⟨by decide +kernel, by decide +kernel⟩, List.mem_of_getElem? (i := 1062) (by decide +kernel), List.mem_of_getElem? (i := 1318) (by decide +kernel), List.mem_of_getElem? (i := 1319) (by decide +kernel)⟩
theorem lw_p11 : lw_okq (⟨"GlidingContest$Script", "widthOf", "(CI)I"⟩, 6) := ⟨⟨by decide +kernel, by decide +kernel⟩, List.mem_of_getElem? (i := 1062) (by decide +kernel), List.mem_of_getElem? (i := 1324) (by decide +kernel), List.mem_of_getElem? (i := 1325) (by decide +kernel)⟩
theorem lw_p12 : lw_okq (⟨"GlidingContest$Script", "isDigitAt", "(I)Z"⟩, 6) := ⟨⟨by decide +kernel, by decide +kernel⟩, List.mem_of_getElem? (i := 1062) (by decide +kernel), List.mem_of_getElem? (i := 1328) (by decide +kernel), List.mem_of_getElem? (i := 1329) (by decide +kernel)⟩
theorem lw_p13 : lw_okq (⟨"GlidingContest$Script", "digitAt", "(I)I"⟩, 6) := ⟨⟨by decide +kernel, by decide +kernel⟩, List.mem_of_getElem? (i := 1062) (by decide +kernel), List.mem_of_getElem? (i := 1332) (by decide +kernel), List.mem_of_getElem? (i := 1333) (by decide +kernel)⟩
theorem lw_p14 : lw_okq (⟨"GlidingContest$Script", "wayAt", "(I)I"⟩, 6) := ⟨⟨by decide +kernel, by decide +kernel⟩, List.mem_of_getElem? (i := 1062) (by decide +kernel), List.mem_of_getElem? (i := 1336) (by decide +kernel), List.mem_of_getElem? (i := 1337) (by decide +kernel)⟩
theorem lw_p15 : lw_okq (⟨"GlidingContest$Script", "valueOf", "(CII)I"⟩, 6) := ⟨⟨by decide +kernel, by decide +kernel⟩, List.mem_of_getElem? (i := 1062) (by decide +kernel), List.mem_of_getElem? (i := 1344) (by decide +kernel), List.mem_of_getElem? (i := 1345) (by decide +kernel)⟩
def lw_privs_1 : List (MethodName × Nat) := [(⟨"GlidingContest", "knownPilot", "(I)LGlidingContest$Glider;"⟩, 9), (⟨"java/lang/Throwable", "fillInStackTrace", "(I)Ljava/lang/Throwable;"⟩, 6), (⟨"GlidingContest", "writeFlight", "(LGlidingContest$Glider;)V"⟩, 9), (⟨"GlidingContest$History", "dropOldest", "()V"⟩, 2), (⟨"GlidingContest$State", "glideKilometre", "(LGlidingContest$Glider;I)V"⟩, 8), (⟨"GlidingContest$State", "leastMinutes", "(I)I"⟩, 8), (⟨"GlidingContest", "pilotInPhase", "(ILGlidingContest$Phase;)LGlidingContest$Glider;"⟩, 9), (⟨"GlidingContest$State", "countAhead", "(I)I"⟩, 8), (⟨"GlidingContest$State", "isAhead", "(II)Z"⟩, 8), (⟨"GlidingContest$Script", "readCommand", "(I)Z"⟩, 6), (⟨"GlidingContest$Script", "fits", "(Ljava/lang/String;I)Z"⟩, 6), (⟨"GlidingContest$Script", "widthOf", "(CI)I"⟩, 6), (⟨"GlidingContest$Script", "isDigitAt", "(I)Z"⟩, 6), (⟨"GlidingContest$Script", "digitAt", "(I)I"⟩, 6), (⟨"GlidingContest$Script", "wayAt", "(I)I"⟩, 6), (⟨"GlidingContest$Script", "valueOf", "(CII)I"⟩, 6)]
theorem lw_r1 : ∀ q ∈ lw_privs_1, lw_okq q := List.forall_mem_cons.mpr ⟨lw_p0, List.forall_mem_cons.mpr ⟨lw_p1, List.forall_mem_cons.mpr ⟨lw_p2, List.forall_mem_cons.mpr ⟨lw_p3, List.forall_mem_cons.mpr ⟨lw_p4, List.forall_mem_cons.mpr ⟨lw_p5, List.forall_mem_cons.mpr ⟨lw_p6, List.forall_mem_cons.mpr ⟨lw_p7, List.forall_mem_cons.mpr ⟨lw_p8, List.forall_mem_cons.mpr ⟨lw_p9, List.forall_mem_cons.mpr ⟨lw_p10, List.forall_mem_cons.mpr ⟨lw_p11, List.forall_mem_cons.mpr ⟨lw_p12, List.forall_mem_cons.mpr ⟨lw_p13, List.forall_mem_cons.mpr ⟨lw_p14, List.forall_mem_cons.mpr ⟨lw_p15, fun _ h => absurd h List.not_mem_nil⟩⟩⟩⟩⟩⟩⟩⟩⟩⟩⟩⟩⟩⟩⟩⟩
theorem lw_p16 : lw_okq (⟨"GlidingContest$Script", "putNumber", "(II)V"⟩, 6) := ⟨⟨by decide +kernel, by decide +kernel⟩, List.mem_of_getElem? (i := 1062) (by decide +kernel), List.mem_of_getElem? (i := 1348) (by decide +kernel), List.mem_of_getElem? (i := 1349) (by decide +kernel)⟩
theorem lw_p17 : lw_okq (⟨"GlidingContest", "refusalOf", "(I)LGlidingContest$Refusal;"⟩, 9) := ⟨⟨by decide +kernel, by decide +kernel⟩, List.mem_of_getElem? (i := 41) (by decide +kernel), List.mem_of_getElem? (i := 1354) (by decide +kernel), List.mem_of_getElem? (i := 1355) (by decide +kernel)⟩
theorem lw_p18 : lw_okq (⟨"GlidingContest", "carryOut", "(I)V"⟩, 9) := ⟨⟨by decide +kernel, by decide +kernel⟩, List.mem_of_getElem? (i := 41) (by decide +kernel), List.mem_of_getElem? (i := 1360) (by decide +kernel), List.mem_of_getElem? (i := 1361) (by decide +kernel)⟩
theorem lw_p19 : lw_okq (⟨"GlidingContest", "launchedPilot", "(I)LGlidingContest$Glider;"⟩, 9) := ⟨⟨by decide +kernel, by decide +kernel⟩, List.mem_of_getElem? (i := 41) (by decide +kernel), List.mem_of_getElem? (i := 1421) (by decide +kernel), List.mem_of_getElem? (i := 1422) (by decide +kernel)⟩
theorem lw_p20 : lw_okq (⟨"GlidingContest$Areas", "sortRanges", "(I)I"⟩, 7) := ⟨⟨by decide +kernel, by decide +kernel⟩, List.mem_of_getElem? (i := 934) (by decide +kernel), List.mem_of_getElem? (i := 1512) (by decide +kernel), List.mem_of_getElem? (i := 1513) (by decide +kernel)⟩
theorem lw_p21 : lw_okq (⟨"GlidingContest$Areas", "insertRange", "(III)V"⟩, 7) := ⟨⟨by decide +kernel, by decide +kernel⟩, List.mem_of_getElem? (i := 934) (by decide +kernel), List.mem_of_getElem? (i := 1516) (by decide +kernel), List.mem_of_getElem? (i := 1517) (by decide +kernel)⟩
def lw_privs_2 : List (MethodName × Nat) := [(⟨"GlidingContest$Script", "putNumber", "(II)V"⟩, 6), (⟨"GlidingContest", "refusalOf", "(I)LGlidingContest$Refusal;"⟩, 9), (⟨"GlidingContest", "carryOut", "(I)V"⟩, 9), (⟨"GlidingContest", "launchedPilot", "(I)LGlidingContest$Glider;"⟩, 9), (⟨"GlidingContest$Areas", "sortRanges", "(I)I"⟩, 7), (⟨"GlidingContest$Areas", "insertRange", "(III)V"⟩, 7)]
theorem lw_r2 : ∀ q ∈ lw_privs_2, lw_okq q := List.forall_mem_cons.mpr ⟨lw_p16, List.forall_mem_cons.mpr ⟨lw_p17, List.forall_mem_cons.mpr ⟨lw_p18, List.forall_mem_cons.mpr ⟨lw_p19, List.forall_mem_cons.mpr ⟨lw_p20, List.forall_mem_cons.mpr ⟨lw_p21, fun _ h => absurd h List.not_mem_nil⟩⟩⟩⟩⟩⟩
def lw_privs : List (MethodName × Nat) := lw_privs_1 ++ (lw_privs_2)
def lw_tbl : List Cond := k2_sels lw_privs ++ tables_1
theorem lw_privs_ok : ∀ q ∈ lw_privs, lw_okq q := by
  show ∀ q ∈ lw_privs_1 ++ (lw_privs_2), lw_okq q
  exact List.forall_mem_append.mpr ⟨lw_r1, lw_r2⟩
end
section
/-! ===== BEGIN words of one list among another's, by their places ===== -/
theorem goodIn_r {big : List Cond} (ws : List Cond) (ps : List Nat) (hp : ws = ps.filterMap (fun i => big[i]?)) (h : ws.all goodWord = true) : GoodIn big ws := by
  intro w hw
  have h1 := List.all_eq_true.mp h w hw
  rw [hp] at hw
  obtain ⟨i, -, hi⟩ := List.mem_filterMap.mp hw
  have hm : w ∈ big := by first | exact List.mem_of_getElem? hi | exact List.getElem?_mem hi
  exact ⟨hm, good_of_word h1⟩
theorem goodIn_app {big a b : List Cond} (ha : GoodIn big a) (hb : GoodIn big b) : GoodIn big (a ++ b) := fun w h => (List.mem_append.mp h).elim (ha w) (hb w)
theorem goodIn_ca {big a b : List Cond} {c : Cond} (ha : GoodIn big (c :: a)) (hb : GoodIn big b) : GoodIn big (c :: (a ++ b)) := fun w h => (List.mem_cons.mp h).elim (fun e => ha w (List.mem_cons.mpr (Or.inl e))) (fun h => (List.mem_append.mp h).elim (fun h => ha w (List.mem_cons.mpr (Or.inr h))) (hb w))
theorem goodIn_sub {big ws : List Cond} (hm : ∀ w ∈ ws, w ∈ big) (h : ws.all goodWord = true) : GoodIn big ws := fun w hw => ⟨hm w hw, good_of_word (List.all_eq_true.mp h w hw)⟩
/-! ===== END ===== -/


/-! ===== BEGIN exceptions that leave a method, and their catching by the caller (launches without stack traces) ===== -/
section VXA
/-! The laws vx_back, vx_callV, vx_callS, vx_callSW, vx_throw0, vx_throwS follow proofs of the library, with one case more: JvmDerived/Free/Laws.lean (Back.of_free), Shelf42/LK1.lean (callV, callS), Shelf/KitTraced.lean (throwNew0V, throwNewS). -/
/-- where a method has thrown q: the class by its name, the cell, what was written, the world -/
def vx_T (XC : String → State → State → Prop) (st : State) (q : Addr) (t : State) (mc ms : Nat) (free : Addr → Prop) : Prop :=
  ∃ (E : String) (ce : Cell) (L : List Loc), XC E st t ∧ t.heap[q]? = some ce ∧ ce.vm = .none ∧ st.vm.findClass E = some ce.cls ∧ st.WarmedH t.vm ∧ st.sameButNew ({ t with vm := st.vm } : State) L mc ms ∧ ∀ z ∈ L, free z.base
def vx_Q (Qc : Array Value → State → Outcome → State → Prop) (XC : String → State → State → Prop) (mc ms : Nat) (free : Addr → Prop) : Array Value → State → Outcome → State → Prop := fun a st o t =>
  (Qc a st o t ∧ ∃ L, FrameEnd st o t L mc ms ∧ ∀ q ∈ L, free q.base) ∨ ∃ q, o = .threw q ∧ vx_T XC st q t mc ms free
/-- a callee that returns or throws -/
def vx_Met (l : Launch) (y : MethodName) (ws : List Cond) (rm : Room) (Pc : Array Value → State → Prop) (Qc : Array Value → State → Outcome → State → Prop) (XC : String → State → State → Prop) (mc ms : Nat) (free : Addr → Prop) : Prop :=
  MetFree l y (headSpec ws rm) Pc (fun _ _ _ _ _ => True) (vx_Q Qc XC mc ms free)
def vx_Post (XC : String → State → State → Prop) (mc ms : Nat) (free : Addr → Prop) : Pt → Array Value → Addr → Pt → Prop := fun A a q B =>
  ∃ (g : JFrame) (mk : MethodId) (t : State) (L : List Loc) (E : String) (ce : Cell), B.U.heap = t.heap ∧ B.U.vm = t.vm ∧ XC E (A.U.calling g mk a) t ∧ t.heap[q]? = some ce ∧ ce.vm = .none ∧ A.U.vm.findClass E = some ce.cls ∧ B.locs = A.locs ++ L ∧ (∀ z ∈ L, free z.base) ∧ B.cells = A.cells + mc ∧ B.slots = A.slots + ms
def vx_Back (l : Launch) (R : Room) (p : Program) (e : Env) (below : List Frame) (s : State) (sargs : Array Value) (y : MethodName) (len W9 : Nat)
    (Pre : Pt → Array Value → Prop) (Post : Pt → Array Value → Option Value → Pt → Prop) (PostX : Pt → Array Value → Addr → Pt → Prop) : Prop :=
  ∀ (m : MethodId) (meth : Method) (c : Code) (A : Pt) (g : JFrame) (ig : Instr) (mk : MethodId) (a : Array Value),
    Stand p l e R s m sargs below meth c A.U A.locs A.cells A.slots → g.method = m → g.locals.size = c.maxLocals → decode c.code g.pc = .ok (ig, len) →
    2 * g.monitorRoom + (g.stack.map fun v => v.category).sum ≤ W9 → A.U.methodNamed? y = some mk → Pre A a →
    (∃ (v : Option Value) (B : Pt), Stand p l e R s m sargs below meth c B.U B.locs B.cells B.slots ∧ Post A a v B ∧
      Steps p.tables e below (doInvoke e (A.U.setTop g) [] mk a).1 (B.U.setTop { g with pc := g.pc + len, stack := v.toList ++ g.stack })) ∨
    (∃ (q : Addr) (B : Pt), Stand p l e R s m sargs below meth c B.U B.locs B.cells B.slots ∧ PostX A a q B ∧
      Steps p.tables e below (doInvoke e (A.U.setTop g) [] mk a).1 ((B.U.setTop g).pushFrame (.throwing q)))
section Payer
variable {l : Launch} {R : Room} {p : Program} {e : Env} {below : List Frame} {s : State} {sargs : Array Value} {y : MethodName} {len W9 : Nat}
theorem vx_back {ws : List Cond} {rm : Room} {Pc : Array Value → State → Prop} {Qc : Array Value → State → Outcome → State → Prop} {XC : String → State → State → Prop} {mc ms : Nat} {free : Addr → Prop} {bytes : ByteArray} {maxL : Nat} {ret : Option FieldType}
    (hM : vx_Met l y ws rm Pc Qc XC mc ms free) (hblind : FrameBlind Pc) (hrc : rm.cells = mc) (hrs : rm.slots = ms)
    (hframes : rm.frames + 1 ≤ R.frames) (hlocals : W9 + (maxL + 11) + rm.locals ≤ R.locals)
    (hws : ∀ w ∈ ws, ∀ a' U, s.WarmedH U.vm → w.before a' U = true) (hcode : Cond.code y bytes maxL ret ∈ ws) (hinit : ∀ a' U, s.WarmedH U.vm → (Cond.initialized y.cls).before a' U = true) :
    vx_Back l R p e below s sargs y len W9 (PreOf R mc ms Pc) (PostOf Qc mc ms free) (vx_Post XC mc ms free) := by
  intro m meth c A g ig mk a X hg hsize hdg hW hn hp
  have h1 : (headSpec ws rm).pre.before a A.U = true := atoms_intro fun w hw => hws w hw _ _ X.warmed
  have h2 : (Cond.code y bytes maxL ret).before a A.U = true := hws _ hcode _ _ X.warmed
  have h3 : (Cond.initialized y.cls).before a A.U = true := hinit _ _ X.warmed
  have h4 : A.cells + (headSpec ws rm).room.cells ≤ R.cells := by rw [show (headSpec ws rm).room.cells = mc from hrc]; exact hp.1
  have h5 : A.slots + (headSpec ws rm).room.slots ≤ R.slots := by rw [show (headSpec ws rm).room.slots = ms from hrs]; exact hp.2.1
  have hPc : Pc a (A.U.calling g mk a) := hblind _ _ _ _ hp.2.2
  obtain ⟨U, Ls, c0, s0⟩ := A
  dsimp only [Pt.U, Pt.locs, Pt.cells, Pt.slots] at h1 h2 h3 h4 h5 X hn hPc ⊢
  obtain ⟨methY, cY, hmY, hcY, -, hlY, -, -, -, -⟩ := Cond.code_spec hn h2
  obtain ⟨kY, hkY, -⟩ := className_of_methodNamed hn
  have hinitY : kY.init = .initialized := Cond.initialized_spec (findClass_of_methodNamed hn) hkY h3
  have h : At U g.method c below := by rw [hg]; exact X.here
  have hlocals9 : W9 + (maxL + 11) + (headSpec ws rm).room.locals ≤ R.locals := hlocals
  have happ : (headSpec ws rm).appliesLoose y e.platform (U.calling g mk a) = true :=
    Spec.appliesLoose_calling (g := g) h hdg hn hkY hinitY
      (X.room_calling (g := g) (R' := (headSpec ws rm).room) hsize hmY hcY hframes (by rw [hlY]; omega) h4 h5) h1
  obtain ⟨mid, hmid⟩ := h.above
  have hfr : (U.setTop g).frames = (.java g :: mid) ++ below := by rw [State.frames_setTop' g h.top, hmid]; rfl
  obtain ⟨o, s₂, hsteps, -, hend, hq⟩ := Steps.callFree hM p X.admits X.cas X.clock (acts := []) hfr happ hPc trivial
  have hq' : vx_Q Qc XC mc ms free a (U.calling g mk a) o s₂ := hq
  rw [State.frames_setTop' g h.top] at hend
  obtain ⟨g₀, hg0⟩ := Option.isSome_iff_exists.mp h.top
  obtain ⟨r, hr⟩ := State.topJava?_eq_some.mp hg0
  have hr' : (({ U with heap := s₂.heap, slotsUsed := s₂.slotsUsed } : State).setVm s₂.vm).frames = .java g₀ :: r := hr
  rcases hq' with ⟨hqc, L, hfe, hL⟩ | ⟨q, rfl, E, ce, L, hx, hce, hcv, hcl, hW₂, hsm, hL⟩
  · obtain ⟨⟨v, rfl⟩, hW₂, e2, q2, q3, q4, q5, q6⟩ := id hfe
    have e3 : s₂ = ({ (U.calling g mk a).setFrames s₂.frames with heap := s₂.heap, slotsUsed := s₂.slotsUsed } : State).setVm s₂.vm := by
      have : s₂ = ({ s₂ with vm := (U.calling g mk a).vm } : State).setVm s₂.vm := rfl
      rw [e2] at this
      exact this
    obtain ⟨c₂, i₂, len₂, hc₂, hd₂, hf₂⟩ := hend
    have hW' : U.WarmedH s₂.vm := hW₂
    have hcc : c₂ = c := by
      have h1 : s₂.code? g.method = U.code? g.method := by
        rw [State.code?_eq, State.code?_eq, hW'.alike.method?]
      exact Option.some.inj (hc₂.symm.trans (h1.trans h.code))
    subst hcc
    have hlen : len₂ = len := by rw [hdg] at hd₂; cases hd₂; rfl
    subst hlen
    have hs₂ : s₂ = (({ U with heap := s₂.heap, slotsUsed := s₂.slotsUsed } : State).setVm s₂.vm).setTop { g with pc := g.pc + len₂, stack := v.toList ++ g.stack } := by
      refine e3.trans ?_
      rw [hf₂, State.calling_eq h.top, State.setFrames_setFrames, State.setTop_of_frames _ hr', hr]
      rfl
    have hsame : U.sameButNew ({ U with heap := s₂.heap, slotsUsed := s₂.slotsUsed } : State) L mc ms := by
      refine ⟨?_, q2, q3, q4, q5, q6⟩
      obtain ⟨t, ht, -⟩ := State.frames_cons hr
      show ({ U with heap := s₂.heap, slotsUsed := s₂.slotsUsed } : State) = { U.setFrames U.frames with heap := s₂.heap, slotsUsed := s₂.slotsUsed }
      rw [State.setFrames_self ht]
    subst hg
    refine Or.inl ⟨v, ⟨(({ U with heap := s₂.heap, slotsUsed := s₂.slotsUsed } : State).setVm s₂.vm), Ls ++ L, c0 + mc, s0 + ms⟩,
      ⟨X.admits, X.cas, X.clock, X.frames, X.room, X.hears, X.method, X.code, (X.here.setHeapUsed s₂.heap s₂.slotsUsed).setVm hW'.alike, X.tail, State.WarmedH.trans X.warmed hW', X.limits, X.bytes, X.same.trans (hsame.setVm s.vm)⟩,
      ⟨g, mk, s₂, L, rfl, rfl, hqc, rfl, hL, rfl, rfl⟩, ?_⟩
    show Steps p.tables e below _ ((({ U with heap := s₂.heap, slotsUsed := s₂.slotsUsed } : State).setVm s₂.vm).setTop { g with pc := g.pc + len₂, stack := v.toList ++ g.stack })
    rw [← hs₂]
    exact hsteps
  · obtain ⟨e2, q2, q3, q4, q5, q6⟩ := id hsm
    have e3 : s₂ = ({ (U.calling g mk a).setFrames s₂.frames with heap := s₂.heap, slotsUsed := s₂.slotsUsed } : State).setVm s₂.vm := by
      have : s₂ = ({ s₂ with vm := (U.calling g mk a).vm } : State).setVm s₂.vm := rfl
      rw [e2] at this
      exact this
    have hf₂ : s₂.frames = .throwing q :: .java g :: U.frames.tail := hend
    have hW' : U.WarmedH s₂.vm := hW₂
    have hs₂ : s₂ = ((({ U with heap := s₂.heap, slotsUsed := s₂.slotsUsed } : State).setVm s₂.vm).setTop g).pushFrame (.throwing q) := by
      refine e3.trans ?_
      rw [hf₂, State.calling_eq h.top, State.setFrames_setFrames, State.pushFrame, State.frames_setTop _ hr', State.setTop_of_frames _ hr', State.setFrames_setFrames, hr]
      rfl
    have hsame : U.sameButNew ({ U with heap := s₂.heap, slotsUsed := s₂.slotsUsed } : State) L mc ms := by
      refine ⟨?_, q2, q3, q4, q5, q6⟩
      obtain ⟨t, ht, -⟩ := State.frames_cons hr
      show ({ U with heap := s₂.heap, slotsUsed := s₂.slotsUsed } : State) = { U.setFrames U.frames with heap := s₂.heap, slotsUsed := s₂.slotsUsed }
      rw [State.setFrames_self ht]
    subst hg
    refine Or.inr ⟨q, ⟨(({ U with heap := s₂.heap, slotsUsed := s₂.slotsUsed } : State).setVm s₂.vm), Ls ++ L, c0 + mc, s0 + ms⟩,
      ⟨X.admits, X.cas, X.clock, X.frames, X.room, X.hears, X.method, X.code, (X.here.setHeapUsed s₂.heap s₂.slotsUsed).setVm hW'.alike, X.tail, State.WarmedH.trans X.warmed hW', X.limits, X.bytes, X.same.trans (hsame.setVm s.vm)⟩,
      ⟨g, mk, s₂, L, E, ce, rfl, rfl, hx, hce, hcv, hcl, rfl, hL, rfl, rfl⟩, ?_⟩
    show Steps p.tables e below _ (((({ U with heap := s₂.heap, slotsUsed := s₂.slotsUsed } : State).setVm s₂.vm).setTop g).pushFrame (.throwing q))
    rw [← hs₂]
    exact hsteps
end Payer
section Calls
variable {p : Program} {l : Launch} {e : Env} {R : Room} {s : State} {m : MethodId} {args : Array Value} {below : List Frame} {meth : Method} {c : Code} {T : State} {locs : List Loc} {cells slots : Nat}
theorem vx_callV (X : Stand p l e R s m args below meth c T locs cells slots) (hexec : p.tables.exec = Jvm.exec) {own C : String} {index : Nat} {y : MethodName} {bytes : ByteArray} {maxL : Nat} {ret : Option FieldType}
    (hown : s.vm.findClass own = some m.cls) (hlink : (Cond.methodLink own index y).before args s = true) (hinst : (Cond.instanceMethod y).before args s = true) (hsel : (Cond.selects C y y).before args s = true)
    (hcode : (Cond.code y bytes maxL ret).before args s = true) (hy : y.cls ≠ "java/lang/invoke/MethodHandle" ∧ y.cls ≠ "java/lang/invoke/VarHandle")
    {W9 : Nat} {Pre : Pt → Array Value → Prop} {Post : Pt → Array Value → Option Value → Pt → Prop} {PostX : Pt → Array Value → Addr → Pt → Prop} (hK : vx_Back l R p e below s args y 3 W9 Pre Post PostX)
    {b : Addr} {cellB : Cell} (hcell : T.heap[b]? = some cellB) (hobj : cellB.vm.isStatics = false) (hcls : s.vm.findClass C = some cellB.cls)
    {g : JFrame} (hg : g.method = m) (hsize : g.locals.size = c.maxLocals) {argsL rest : List Value} (hlen : ∀ sig, parseMethodDescriptor y.desc = some sig → argsL.length = sig.parameters.length)
    (hstack : g.stack = argsL.reverse ++ .ref b :: rest) (hW : 2 * g.monitorRoom + (rest.map fun v => v.category).sum ≤ W9) (hdg : decode c.code g.pc = .ok (.invokevirtual index, 3))
    (hpre : ∀ vm₁, s.WarmedH vm₁ → Pre ⟨T.setVm vm₁, locs, cells, slots⟩ (Value.ref b :: argsL).toArray) :
    (∃ (v : Option Value) (vm₁ : Vm) (B : Pt), s.WarmedH vm₁ ∧ Stand p l e R s m args below meth c B.U B.locs B.cells B.slots ∧ Post ⟨T.setVm vm₁, locs, cells, slots⟩ (Value.ref b :: argsL).toArray v B ∧
      ∀ target, Steps p.tables e below (B.U.setTop { g with pc := g.pc + 3, stack := v.toList ++ rest }) target → Steps p.tables e below (T.setTop g) target) ∨
    (∃ (q : Addr) (vm₁ : Vm) (B : Pt), s.WarmedH vm₁ ∧ Stand p l e R s m args below meth c B.U B.locs B.cells B.slots ∧ PostX ⟨T.setVm vm₁, locs, cells, slots⟩ (Value.ref b :: argsL).toArray q B ∧
      Steps p.tables e below (T.setTop g) ((B.U.setTop { g with stack := rest }).pushFrame (.throwing q))) := by
  obtain ⟨mk, methM, hnamed, hmethM, hstM, habM⟩ := Cond.instanceMethod_spec hinst
  obtain ⟨methM', cM, hmethM', -, -, -, -, -, -, hsigM⟩ := Cond.code_spec hnamed hcode
  cases hmethM.symm.trans hmethM'
  obtain ⟨c2, r2, m2, q1, q2, q3, q4, kP, hkP, hkPi⟩ := Cond.selects_spec hsel
  cases hcls.symm.trans q1
  cases (State.methodFound?_of_named hnamed hy).symm.trans q2
  cases hnamed.symm.trans q3
  have hselP : selectMethod e.platform s.vm cellB.cls mk = .method mk := by rw [Launch.admits_selectMethod X.admits]; exact q4
  obtain ⟨vm₁, X₁, hstep₁⟩ := X.invokevirtual hexec hown hlink hnamed hmethM hstM hkP hkPi hy (a := b) (cell := cellB) hcell
    (fun z h => by rw [h] at hobj; cases hobj) hselP hmethM habM hkP hkPi (g := g) hg (argsL := argsL) (rest := rest) (hlen _ hsigM) hstack hdg
  rcases hK m meth c ⟨T.setVm vm₁, locs, cells, slots⟩ { g with stack := rest } (.invokevirtual index) mk (Value.ref b :: argsL).toArray X₁ hg hsize hdg hW (X₁.named hnamed) (hpre vm₁ X₁.warmed) with ⟨v, B, X', hpost, hsteps⟩ | ⟨q, B, X', hpost, hsteps⟩
  · exact Or.inl ⟨v, vm₁, B, X₁.warmed, X', hpost, fun target h => hstep₁ _ fun acts => by rw [doInvoke_state]; exact hsteps.trans h⟩
  · exact Or.inr ⟨q, vm₁, B, X₁.warmed, X', hpost, hstep₁ _ fun acts => by rw [doInvoke_state]; exact hsteps⟩
theorem vx_callS (X : Stand p l e R s m args below meth c T locs cells slots) (hexec : p.tables.exec = Jvm.exec) {own : String} {index : Nat} {y : MethodName} {bytes : ByteArray} {maxL : Nat} {ret : Option FieldType}
    (hown : s.vm.findClass own = some m.cls) (hlink : (Cond.methodLink own index y).before args s = true) (hstat : (Cond.static y).before args s = true) (hinit : (Cond.initialized y.cls).before args s = true)
    (hcode : (Cond.code y bytes maxL ret).before args s = true) (hy : y.cls ≠ "java/lang/invoke/MethodHandle" ∧ y.cls ≠ "java/lang/invoke/VarHandle")
    {W9 : Nat} {Pre : Pt → Array Value → Prop} {Post : Pt → Array Value → Option Value → Pt → Prop} {PostX : Pt → Array Value → Addr → Pt → Prop} (hK : vx_Back l R p e below s args y 3 W9 Pre Post PostX)
    {g : JFrame} (hg : g.method = m) (hsize : g.locals.size = c.maxLocals) {argsL rest : List Value} (hlen : ∀ sig, parseMethodDescriptor y.desc = some sig → argsL.length = sig.parameters.length)
    (hstack : g.stack = argsL.reverse ++ rest) (hW : 2 * g.monitorRoom + (rest.map fun v => v.category).sum ≤ W9) (hdg : decode c.code g.pc = .ok (.invokestatic index, 3))
    (hpre : ∀ vm₁, s.WarmedH vm₁ → Pre ⟨T.setVm vm₁, locs, cells, slots⟩ argsL.toArray) :
    (∃ (v : Option Value) (vm₁ : Vm) (B : Pt), s.WarmedH vm₁ ∧ Stand p l e R s m args below meth c B.U B.locs B.cells B.slots ∧ Post ⟨T.setVm vm₁, locs, cells, slots⟩ argsL.toArray v B ∧
      ∀ target, Steps p.tables e below (B.U.setTop { g with pc := g.pc + 3, stack := v.toList ++ rest }) target → Steps p.tables e below (T.setTop g) target) ∨
    (∃ (q : Addr) (vm₁ : Vm) (B : Pt), s.WarmedH vm₁ ∧ Stand p l e R s m args below meth c B.U B.locs B.cells B.slots ∧ PostX ⟨T.setVm vm₁, locs, cells, slots⟩ argsL.toArray q B ∧
      Steps p.tables e below (T.setTop g) ((B.U.setTop { g with stack := rest }).pushFrame (.throwing q))) := by
  obtain ⟨mk, hnamed⟩ := Cond.code_named hcode
  obtain ⟨methM, cM, hmethM, -, -, -, -, -, -, hsigM⟩ := Cond.code_spec hnamed hcode
  have hstatic : methM.isStatic = true := Cond.static_spec hnamed hmethM hstat
  obtain ⟨kP, hkP, -⟩ := className_of_methodNamed hnamed
  have hinitP : kP.init = .initialized := Cond.initialized_spec (findClass_of_methodNamed hnamed) hkP hinit
  obtain ⟨vm₁, X₁, hstep₁⟩ := X.invokestatic hexec hown hlink hnamed hmethM hstatic hkP hinitP hy (g := g) hg (argsL := argsL) (rest := rest) (hlen _ hsigM) hstack hdg
  rcases hK m meth c ⟨T.setVm vm₁, locs, cells, slots⟩ { g with stack := rest } (.invokestatic index) mk argsL.toArray X₁ hg hsize hdg hW (X₁.named hnamed) (hpre vm₁ X₁.warmed) with ⟨v, B, X', hpost, hsteps⟩ | ⟨q, B, X', hpost, hsteps⟩
  · exact Or.inl ⟨v, vm₁, B, X₁.warmed, X', hpost, fun target h => hstep₁ _ fun acts => by rw [doInvoke_state]; exact hsteps.trans h⟩
  · exact Or.inr ⟨q, vm₁, B, X₁.warmed, X', hpost, hstep₁ _ fun acts => by rw [doInvoke_state]; exact hsteps⟩
end Calls
theorem vx_cls {s : State} {T : State} {vm₁ : Vm} {E : String} {k : ClassId} (hW : s.WarmedH vm₁) (h : (T.setVm vm₁).vm.findClass E = some k) : s.vm.findClass E = some k := by
  have h1 : vm₁.findClass E = some k := h
  rw [hW.alike.findClass] at h1
  exact h1
/-- the method's frame g, with q thrown over it -/
def vx_W (p : Program) (l : Launch) (e : Env) (R : Room) (s : State) (m : MethodId) (args : Array Value) (below : List Frame) (meth : Method) (c : Code) (H : Heap) (locs : List Loc) (cells slots : Nat) (Q : State → Prop) (g : JFrame) (q : Addr) : Prop :=
  ∀ T : State, T.heap = H → Stand p l e R s m args below meth c T locs cells slots → ∃ t, Steps p.tables e below ((T.setTop g).pushFrame (.throwing q)) t ∧ Q t
def vx_Run (p : Program) (l : Launch) (e : Env) (R : Room) (s : State) (m : MethodId) (args : Array Value) (below : List Frame) (meth : Method) (c : Code) (H : Heap) (locs : List Loc) (cells slots mc ms : Nat) (g : JFrame) (rest : List Value) (Qa : State → Outcome → State → Prop) (XC : String → State → State → Prop) (free : Addr → Prop) : Prop :=
  ∀ T : State, T.heap = H → Stand p l e R s m args below meth c T locs cells slots →
    (∃ (v : Option Value) (st₀ t T' : State) (L : List Loc), st₀.heap = H ∧ Stand p l e R s m args below meth c T' (locs ++ L) (cells + mc) (slots + ms) ∧ (∀ q ∈ L, free q.base) ∧ T'.heap = t.heap ∧ T'.vm = t.vm ∧ Qa st₀ (.returned v) t ∧
      Goes p e below T g T' { g with pc := g.pc + 3, stack := v.toList ++ rest }) ∨
    (∃ (q : Addr) (st₀ t T' : State) (L : List Loc) (E : String) (ce : Cell), st₀.heap = H ∧ Stand p l e R s m args below meth c T' (locs ++ L) (cells + mc) (slots + ms) ∧ (∀ z ∈ L, free z.base) ∧ T'.heap = t.heap ∧ T'.vm = t.vm ∧ XC E st₀ t ∧ t.heap[q]? = some ce ∧ ce.vm = .none ∧ s.vm.findClass E = some ce.cls ∧
      Steps p.tables e below (T.setTop g) ((T'.setTop { g with stack := rest }).pushFrame (.throwing q)))
def vx_X {S : Type} (px : S → Prop) (B : String → S → State → Prop) (A : Nat → Prop) : String → State → State → Prop := fun E st t => ∃ u : S, px u ∧ B E u t ∧ va_F A st t
section Runs
variable {p : Program} {l : Launch} {e : Env} {R : Room} {s : State} {m : MethodId} {args : Array Value} {below : List Frame} {meth : Method} {c : Code} {H : Heap} {locs : List Loc} {cells slots : Nat}
variable {y : MethodName} {bytes cc : ByteArray} {maxL nL mc ms n index : Nat} {ret : Option FieldType} {ws : List Cond} {rm : Room} {Pc : Array Value → State → Prop} {Qc : Array Value → State → Outcome → State → Prop} {XC : String → State → State → Prop} {free : Addr → Prop} {Ts : List Cond} {own C : String} {b : Addr} {As rest : List Value} {g : JFrame}
theorem vx_callBack (cb : CallB R s args own index y bytes maxL ret ws rm mc ms n) (hM : vx_Met l y ws rm Pc Qc XC mc ms free) (hbl : FrameBlind Pc) : vx_Back l R p e below s args y 3 8 (PreOf R mc ms Pc) (PostOf Qc mc ms free) (vx_Post XC mc ms free) := by
  obtain ⟨hrc, hrs, hfr, hlo, hws, hcw, -, hini, -⟩ := cb
  exact vx_back (bytes := bytes) (maxL := maxL) (ret := ret) hM hbl hrc hrs hfr hlo hws hcw (fun a' U hW => word_at hW (Or.inl (by first | rfl | simp [Cond.onTables, Cond.keeps, Cond.steady])) hini)
theorem vx_runV (S : CallFix p m c cc nL s args Ts own) (hM : vx_Met l y ws rm Pc Qc XC mc ms free) (cw : CallW R s args own C index y bytes maxL ret ws rm mc ms n) (hp : PreV s H C b Pc As)
    (hg : g.method = m) (hn : As.length = n) (hsize : g.locals.size = nL) (hstack : g.stack = As.reverse ++ .ref b :: rest) (hW : 2 * g.monitorRoom + (rest.map fun v => v.category).sum ≤ 8) (hdg : decode cc g.pc = .ok (.invokevirtual index, 3)) (hf : cells + mc ≤ R.cells ∧ slots + ms ≤ R.slots) :
    vx_Run p l e R s m args below meth c H locs cells slots mc ms g rest (Qc (Value.ref b :: As).toArray) XC free := by
  have hK : vx_Back l R p e below s args y 3 8 (PreOf R mc ms Pc) (PostOf Qc mc ms free) (vx_Post XC mc ms free) := vx_callBack cw.1 hM hp.1
  obtain ⟨⟨-, -, -, -, -, -, hcode, -, hy, hlen, hl⟩, hin, hse⟩ := cw
  obtain ⟨hx, hb, hml, ho, -⟩ := S
  obtain ⟨-, ⟨cellB, hcB, hoB, hclB⟩, hPc⟩ := hp
  intro T hT X
  rcases vx_callV X hx (C := C) (bytes := bytes) (maxL := maxL) (ret := ret) ho hl hin hse hcode hy hK (by rw [hT]; exact hcB) hoB hclB hg (hsize.trans hml.symm) (argsL := As) (rest := rest) (fun sig h => hn.trans (hlen sig h)) hstack hW (by rw [hb]; exact hdg)
    (fun vm₁ hW₁ => ⟨hf.1, hf.2, hPc (T.setVm vm₁) hT hW₁⟩) with ⟨v, vm₁, ⟨U', l2, c2, s2⟩, hW₁, X', ⟨g', mk, t, L, e1, e2, hq, h1, hL, h2, h3⟩, st⟩ | ⟨q, vm₁, ⟨U', l2, c2, s2⟩, hW₁, X', ⟨g', mk, t, L, E, ce, e1, e2, hq, hce, hcv, hcl, h1, hL, h2, h3⟩, st⟩
  · dsimp only [Pt.U, Pt.locs, Pt.cells, Pt.slots] at X' e1 e2 h1 h2 h3 st
    subst h1; subst h2; subst h3
    exact Or.inl ⟨v, (T.setVm vm₁).calling g' mk (Value.ref b :: As).toArray, t, U', L, hT, X', hL, e1, e2, hq, st⟩
  · dsimp only [Pt.U, Pt.locs, Pt.cells, Pt.slots] at X' e1 e2 h1 h2 h3 st hcl
    subst h1; subst h2; subst h3
    exact Or.inr ⟨q, (T.setVm vm₁).calling g' mk (Value.ref b :: As).toArray, t, U', L, E, ce, hT, X', hL, e1, e2, hq, hce, hcv, vx_cls hW₁ hcl, st⟩
theorem vx_runS (S : CallFix p m c cc nL s args Ts own) (hM : vx_Met l y ws rm Pc Qc XC mc ms free) (cw : CallB R s args own index y bytes maxL ret ws rm mc ms n ∧ (Cond.static y).before args s = true) (hp : PreS s H Pc As)
    (hg : g.method = m) (hn : As.length = n) (hsize : g.locals.size = nL) (hstack : g.stack = As.reverse ++ rest) (hW : 2 * g.monitorRoom + (rest.map fun v => v.category).sum ≤ 8) (hdg : decode cc g.pc = .ok (.invokestatic index, 3)) (hf : cells + mc ≤ R.cells ∧ slots + ms ≤ R.slots) :
    vx_Run p l e R s m args below meth c H locs cells slots mc ms g rest (Qc As.toArray) XC free := by
  have hK : vx_Back l R p e below s args y 3 8 (PreOf R mc ms Pc) (PostOf Qc mc ms free) (vx_Post XC mc ms free) := vx_callBack cw.1 hM hp.1
  obtain ⟨⟨-, -, -, -, -, -, hcode, hini, hy, hlen, hl⟩, hstt⟩ := cw
  obtain ⟨hx, hb, hml, ho, -⟩ := S
  intro T hT X
  rcases vx_callS X hx (bytes := bytes) (maxL := maxL) (ret := ret) ho hl hstt hini hcode hy hK hg (hsize.trans hml.symm) (argsL := As) (rest := rest) (fun sig h => hn.trans (hlen sig h)) hstack hW (by rw [hb]; exact hdg)
    (fun vm₁ hW₁ => ⟨hf.1, hf.2, hp.2 (T.setVm vm₁) hT hW₁⟩) with ⟨v, vm₁, ⟨U', l2, c2, s2⟩, hW₁, X', ⟨g', mk, t, L, e1, e2, hq, h1, hL, h2, h3⟩, st⟩ | ⟨q, vm₁, ⟨U', l2, c2, s2⟩, hW₁, X', ⟨g', mk, t, L, E, ce, e1, e2, hq, hce, hcv, hcl, h1, hL, h2, h3⟩, st⟩
  · dsimp only [Pt.U, Pt.locs, Pt.cells, Pt.slots] at X' e1 e2 h1 h2 h3 st
    subst h1; subst h2; subst h3
    exact Or.inl ⟨v, (T.setVm vm₁).calling g' mk As.toArray, t, U', L, hT, X', hL, e1, e2, hq, st⟩
  · dsimp only [Pt.U, Pt.locs, Pt.cells, Pt.slots] at X' e1 e2 h1 h2 h3 st hcl
    subst h1; subst h2; subst h3
    exact Or.inr ⟨q, (T.setVm vm₁).calling g' mk As.toArray, t, U', L, E, ce, hT, X', hL, e1, e2, hq, hce, hcv, vx_cls hW₁ hcl, st⟩
end Runs
section Rows
variable {p : Program} {l : Launch} {e : Env} {R : Room} {s : State} {m : MethodId} {args : Array Value} {below : List Frame} {meth : Method} {c : Code} {H : Heap} {locs : List Loc} {cells slots : Nat} {Q : State → Prop}
variable {mc ms : Nat} {free : Addr → Prop} {A0 A1 : Nat → Prop} {H0 : Heap} {a : Array Value} {pc : Nat} {ls : Array Slot} {st0 rest : List Value}
theorem vx_keep {st₀ t T' : State} {L : List Loc} (h0 : st₀.heap = H) (e1 : T'.heap = t.heap) (hS : va_S A0 H0 H locs) (hA : ∀ q, q < H.size → A1 q → A0 q) (hf : ∀ q, free q → A0 q) (hL : ∀ q ∈ L, free q.base) (hF : va_F A1 st₀ t) :
    H.size ≤ T'.heap.size ∧ (∀ q : Nat, q < H.size → ¬ A1 q → T'.heap[q]? = H[q]?) ∧ va_S A0 H0 T'.heap (locs ++ L) := by
  obtain ⟨hz, hk⟩ := hF
  rw [h0] at hz hk
  exact ⟨by rw [e1]; exact hz, fun q h1 h2 => by rw [e1]; exact hk q h1 h2,
    ⟨Nat.le_trans hS.1 (by rw [e1]; exact hz), fun q h1 h2 => by rw [e1, hk q (Nat.lt_of_lt_of_le h1 hS.1) (fun z => h2 (hA q (Nat.lt_of_lt_of_le h1 hS.1) z))]; exact hS.2.1 q h1 h2, fun q hq => by
      rcases List.mem_append.mp hq with h | h
      · exact hS.2.2 q h
      · exact hf _ (hL q h)⟩⟩
theorem vx_calli {S SX : Type} {post : Int32 → S → Prop} {px : SX → Prop} {B : S → State → Prop} {BX : String → SX → State → Prop} {AX : Nat → Prop} (hr : vx_Run p l e R s m args below meth c H locs cells slots mc ms (F0 m pc ls st0) rest (va_Qi post B A1 a) (vx_X px BX AX) free) (hS : va_S A0 H0 H locs) (hA : ∀ q, q < H.size → A1 q → A0 q) (hf : ∀ q, free q → A0 q) (hAX : ∀ q, q < H.size → AX q → A0 q)
    (kx : ∀ (E : String) (ce : Cell) (q9 : Addr) (u : SX) (t : State) (H1 : Heap) (locs1 : List Loc), t.heap = H1 → s.vm.Alike t.vm → px u → BX E u t → H.size ≤ H1.size → (∀ q : Nat, q < H.size → ¬ AX q → H1[q]? = H[q]?) → va_S A0 H0 H1 locs1 → H1[q9]? = some ce → ce.vm = .none → s.vm.findClass E = some ce.cls → vx_W p l e R s m args below meth c H1 locs1 (cells + mc) (slots + ms) Q (F0 m pc ls rest) q9)
    (kk : ∀ (r : Int32) (u : S) (t : State) (H1 : Heap) (locs1 : List Loc), t.heap = H1 → s.vm.Alike t.vm → post r u → B u t → H.size ≤ H1.size → (∀ q : Nat, q < H.size → ¬ A1 q → H1[q]? = H[q]?) → va_S A0 H0 H1 locs1 → W p l e R s m args below meth c H1 locs1 (cells + mc) (slots + ms) Q (F0 m (pc + 3) ls (.int r :: rest))) : W p l e R s m args below meth c H locs cells slots Q (F0 m pc ls st0) := by
  intro T hT X
  rcases hr T hT X with ⟨v, st₀, t, T', L, h0, X', hL, e1, e2, ⟨⟨r, u, hv, hp, hb⟩, hF⟩, st⟩ | ⟨q, st₀, t, T', L, E, ce, h0, X', hL, e1, e2, ⟨u, hp, hb, hF⟩, hce, hcv, hcl, st⟩
  · cases hv
    obtain ⟨k1, k2, k3⟩ := vx_keep h0 e1 hS hA hf hL hF
    obtain ⟨t2, a1, b1⟩ := kk r u t T'.heap (locs ++ L) e1.symm (by rw [← e2]; exact X'.warmed.alike) hp hb k1 k2 k3 T' rfl X'
    exact ⟨t2, st t2 a1, b1⟩
  · obtain ⟨k1, k2, k3⟩ := vx_keep h0 e1 hS hAX hf hL hF
    obtain ⟨t2, a1, b1⟩ := kx E ce q u t T'.heap (locs ++ L) e1.symm (by rw [← e2]; exact X'.warmed.alike) hp hb k1 k2 k3 (by rw [e1]; exact hce) hcv hcl T' rfl X'
    exact ⟨t2, st.trans a1, b1⟩
theorem vx_calll {S SX : Type} {post : Int64 → S → Prop} {px : SX → Prop} {B : S → State → Prop} {BX : String → SX → State → Prop} {AX : Nat → Prop} (hr : vx_Run p l e R s m args below meth c H locs cells slots mc ms (F0 m pc ls st0) rest (va_Ql post B A1 a) (vx_X px BX AX) free) (hS : va_S A0 H0 H locs) (hA : ∀ q, q < H.size → A1 q → A0 q) (hf : ∀ q, free q → A0 q) (hAX : ∀ q, q < H.size → AX q → A0 q)
    (kx : ∀ (E : String) (ce : Cell) (q9 : Addr) (u : SX) (t : State) (H1 : Heap) (locs1 : List Loc), t.heap = H1 → s.vm.Alike t.vm → px u → BX E u t → H.size ≤ H1.size → (∀ q : Nat, q < H.size → ¬ AX q → H1[q]? = H[q]?) → va_S A0 H0 H1 locs1 → H1[q9]? = some ce → ce.vm = .none → s.vm.findClass E = some ce.cls → vx_W p l e R s m args below meth c H1 locs1 (cells + mc) (slots + ms) Q (F0 m pc ls rest) q9)
    (kk : ∀ (r : Int64) (u : S) (t : State) (H1 : Heap) (locs1 : List Loc), t.heap = H1 → s.vm.Alike t.vm → post r u → B u t → H.size ≤ H1.size → (∀ q : Nat, q < H.size → ¬ A1 q → H1[q]? = H[q]?) → va_S A0 H0 H1 locs1 → W p l e R s m args below meth c H1 locs1 (cells + mc) (slots + ms) Q (F0 m (pc + 3) ls (.long r :: rest))) : W p l e R s m args below meth c H locs cells slots Q (F0 m pc ls st0) := by
  intro T hT X
  rcases hr T hT X with ⟨v, st₀, t, T', L, h0, X', hL, e1, e2, ⟨⟨r, u, hv, hp, hb⟩, hF⟩, st⟩ | ⟨q, st₀, t, T', L, E, ce, h0, X', hL, e1, e2, ⟨u, hp, hb, hF⟩, hce, hcv, hcl, st⟩
  · cases hv
    obtain ⟨k1, k2, k3⟩ := vx_keep h0 e1 hS hA hf hL hF
    obtain ⟨t2, a1, b1⟩ := kk r u t T'.heap (locs ++ L) e1.symm (by rw [← e2]; exact X'.warmed.alike) hp hb k1 k2 k3 T' rfl X'
    exact ⟨t2, st t2 a1, b1⟩
  · obtain ⟨k1, k2, k3⟩ := vx_keep h0 e1 hS hAX hf hL hF
    obtain ⟨t2, a1, b1⟩ := kx E ce q u t T'.heap (locs ++ L) e1.symm (by rw [← e2]; exact X'.warmed.alike) hp hb k1 k2 k3 (by rw [e1]; exact hce) hcv hcl T' rfl X'
    exact ⟨t2, st.trans a1, b1⟩
theorem vx_callf {S SX : Type} {post : UInt32 → S → Prop} {px : SX → Prop} {B : S → State → Prop} {BX : String → SX → State → Prop} {AX : Nat → Prop} (hr : vx_Run p l e R s m args below meth c H locs cells slots mc ms (F0 m pc ls st0) rest (va_Qf post B A1 a) (vx_X px BX AX) free) (hS : va_S A0 H0 H locs) (hA : ∀ q, q < H.size → A1 q → A0 q) (hf : ∀ q, free q → A0 q) (hAX : ∀ q, q < H.size → AX q → A0 q)
    (kx : ∀ (E : String) (ce : Cell) (q9 : Addr) (u : SX) (t : State) (H1 : Heap) (locs1 : List Loc), t.heap = H1 → s.vm.Alike t.vm → px u → BX E u t → H.size ≤ H1.size → (∀ q : Nat, q < H.size → ¬ AX q → H1[q]? = H[q]?) → va_S A0 H0 H1 locs1 → H1[q9]? = some ce → ce.vm = .none → s.vm.findClass E = some ce.cls → vx_W p l e R s m args below meth c H1 locs1 (cells + mc) (slots + ms) Q (F0 m pc ls rest) q9)
    (kk : ∀ (r : UInt32) (u : S) (t : State) (H1 : Heap) (locs1 : List Loc), t.heap = H1 → s.vm.Alike t.vm → post r u → B u t → H.size ≤ H1.size → (∀ q : Nat, q < H.size → ¬ A1 q → H1[q]? = H[q]?) → va_S A0 H0 H1 locs1 → W p l e R s m args below meth c H1 locs1 (cells + mc) (slots + ms) Q (F0 m (pc + 3) ls (.float r :: rest))) : W p l e R s m args below meth c H locs cells slots Q (F0 m pc ls st0) := by
  intro T hT X
  rcases hr T hT X with ⟨v, st₀, t, T', L, h0, X', hL, e1, e2, ⟨⟨r, u, hv, hp, hb⟩, hF⟩, st⟩ | ⟨q, st₀, t, T', L, E, ce, h0, X', hL, e1, e2, ⟨u, hp, hb, hF⟩, hce, hcv, hcl, st⟩
  · cases hv
    obtain ⟨k1, k2, k3⟩ := vx_keep h0 e1 hS hA hf hL hF
    obtain ⟨t2, a1, b1⟩ := kk r u t T'.heap (locs ++ L) e1.symm (by rw [← e2]; exact X'.warmed.alike) hp hb k1 k2 k3 T' rfl X'
    exact ⟨t2, st t2 a1, b1⟩
  · obtain ⟨k1, k2, k3⟩ := vx_keep h0 e1 hS hAX hf hL hF
    obtain ⟨t2, a1, b1⟩ := kx E ce q u t T'.heap (locs ++ L) e1.symm (by rw [← e2]; exact X'.warmed.alike) hp hb k1 k2 k3 (by rw [e1]; exact hce) hcv hcl T' rfl X'
    exact ⟨t2, st.trans a1, b1⟩
theorem vx_calld {S SX : Type} {post : UInt64 → S → Prop} {px : SX → Prop} {B : S → State → Prop} {BX : String → SX → State → Prop} {AX : Nat → Prop} (hr : vx_Run p l e R s m args below meth c H locs cells slots mc ms (F0 m pc ls st0) rest (va_Qd post B A1 a) (vx_X px BX AX) free) (hS : va_S A0 H0 H locs) (hA : ∀ q, q < H.size → A1 q → A0 q) (hf : ∀ q, free q → A0 q) (hAX : ∀ q, q < H.size → AX q → A0 q)
    (kx : ∀ (E : String) (ce : Cell) (q9 : Addr) (u : SX) (t : State) (H1 : Heap) (locs1 : List Loc), t.heap = H1 → s.vm.Alike t.vm → px u → BX E u t → H.size ≤ H1.size → (∀ q : Nat, q < H.size → ¬ AX q → H1[q]? = H[q]?) → va_S A0 H0 H1 locs1 → H1[q9]? = some ce → ce.vm = .none → s.vm.findClass E = some ce.cls → vx_W p l e R s m args below meth c H1 locs1 (cells + mc) (slots + ms) Q (F0 m pc ls rest) q9)
    (kk : ∀ (r : UInt64) (u : S) (t : State) (H1 : Heap) (locs1 : List Loc), t.heap = H1 → s.vm.Alike t.vm → post r u → B u t → H.size ≤ H1.size → (∀ q : Nat, q < H.size → ¬ A1 q → H1[q]? = H[q]?) → va_S A0 H0 H1 locs1 → W p l e R s m args below meth c H1 locs1 (cells + mc) (slots + ms) Q (F0 m (pc + 3) ls (.double r :: rest))) : W p l e R s m args below meth c H locs cells slots Q (F0 m pc ls st0) := by
  intro T hT X
  rcases hr T hT X with ⟨v, st₀, t, T', L, h0, X', hL, e1, e2, ⟨⟨r, u, hv, hp, hb⟩, hF⟩, st⟩ | ⟨q, st₀, t, T', L, E, ce, h0, X', hL, e1, e2, ⟨u, hp, hb, hF⟩, hce, hcv, hcl, st⟩
  · cases hv
    obtain ⟨k1, k2, k3⟩ := vx_keep h0 e1 hS hA hf hL hF
    obtain ⟨t2, a1, b1⟩ := kk r u t T'.heap (locs ++ L) e1.symm (by rw [← e2]; exact X'.warmed.alike) hp hb k1 k2 k3 T' rfl X'
    exact ⟨t2, st t2 a1, b1⟩
  · obtain ⟨k1, k2, k3⟩ := vx_keep h0 e1 hS hAX hf hL hF
    obtain ⟨t2, a1, b1⟩ := kx E ce q u t T'.heap (locs ++ L) e1.symm (by rw [← e2]; exact X'.warmed.alike) hp hb k1 k2 k3 (by rw [e1]; exact hce) hcv hcl T' rfl X'
    exact ⟨t2, st.trans a1, b1⟩
theorem vx_callv {S SX : Type} {post : S → Prop} {px : SX → Prop} {B : S → State → Prop} {BX : String → SX → State → Prop} {AX : Nat → Prop} (hr : vx_Run p l e R s m args below meth c H locs cells slots mc ms (F0 m pc ls st0) rest (va_Qv post B A1 a) (vx_X px BX AX) free) (hS : va_S A0 H0 H locs) (hA : ∀ q, q < H.size → A1 q → A0 q) (hf : ∀ q, free q → A0 q) (hAX : ∀ q, q < H.size → AX q → A0 q)
    (kx : ∀ (E : String) (ce : Cell) (q9 : Addr) (u : SX) (t : State) (H1 : Heap) (locs1 : List Loc), t.heap = H1 → s.vm.Alike t.vm → px u → BX E u t → H.size ≤ H1.size → (∀ q : Nat, q < H.size → ¬ AX q → H1[q]? = H[q]?) → va_S A0 H0 H1 locs1 → H1[q9]? = some ce → ce.vm = .none → s.vm.findClass E = some ce.cls → vx_W p l e R s m args below meth c H1 locs1 (cells + mc) (slots + ms) Q (F0 m pc ls rest) q9)
    (kk : ∀ (u : S) (t : State) (H1 : Heap) (locs1 : List Loc), t.heap = H1 → s.vm.Alike t.vm → post u → B u t → H.size ≤ H1.size → (∀ q : Nat, q < H.size → ¬ A1 q → H1[q]? = H[q]?) → va_S A0 H0 H1 locs1 → W p l e R s m args below meth c H1 locs1 (cells + mc) (slots + ms) Q (F0 m (pc + 3) ls (rest))) : W p l e R s m args below meth c H locs cells slots Q (F0 m pc ls st0) := by
  intro T hT X
  rcases hr T hT X with ⟨v, st₀, t, T', L, h0, X', hL, e1, e2, ⟨⟨u, hv, hp, hb⟩, hF⟩, st⟩ | ⟨q, st₀, t, T', L, E, ce, h0, X', hL, e1, e2, ⟨u, hp, hb, hF⟩, hce, hcv, hcl, st⟩
  · cases hv
    obtain ⟨k1, k2, k3⟩ := vx_keep h0 e1 hS hA hf hL hF
    obtain ⟨t2, a1, b1⟩ := kk u t T'.heap (locs ++ L) e1.symm (by rw [← e2]; exact X'.warmed.alike) hp hb k1 k2 k3 T' rfl X'
    exact ⟨t2, st t2 a1, b1⟩
  · obtain ⟨k1, k2, k3⟩ := vx_keep h0 e1 hS hAX hf hL hF
    obtain ⟨t2, a1, b1⟩ := kx E ce q u t T'.heap (locs ++ L) e1.symm (by rw [← e2]; exact X'.warmed.alike) hp hb k1 k2 k3 (by rw [e1]; exact hce) hcv hcl T' rfl X'
    exact ⟨t2, st.trans a1, b1⟩
/-- caught by the row x of this method's table; the rows ahead don't take it -/
theorem vx_catch {own name : String} {E : String} {ce : Cell} {q : Addr} (hown : s.vm.findClass own = some m.cls) (pre : List ExceptionTableEntry) (x : ExceptionTableEntry) (suf : List ExceptionTableEntry) (hsplit : c.exceptionTable.toList = pre ++ x :: suf)
    (hpass : ∀ z ∈ pre, covers z pc = false ∨ (z.catchType ≠ 0 ∧ ∃ nm : String, (Cond.classLink own z.catchType nm).before args s = true ∧ va_Nc E nm s)) (hx : covers x pc = true) (h0 : x.catchType ≠ 0)
    (hlink : (Cond.classLink own x.catchType name).before args s = true) (hcast : (Cond.castable E name).before args s = true) (hcell : H[q]? = some ce) (hv : ce.vm = .none) (hcl : s.vm.findClass E = some ce.cls)
    (kk : W p l e R s m args below meth c H locs cells slots Q (F0 m x.handlerPc ls [.ref q])) : vx_W p l e R s m args below meth c H locs cells slots Q (F0 m pc ls rest) q := by
  intro T hT X
  have hpl : e.platform.magicAccessors = ({} : Platform).magicAccessors := by rw [X.admits.platform]
  obtain ⟨c3, c4, hc3, hc4, hasg⟩ := Cond.castable_spec hcast
  cases Option.some.inj (hc3.symm.trans hcl)
  obtain ⟨c5, hc5, hcl5⟩ := Cond.classLink_spec hown hlink e.platform hpl
  cases Option.some.inj (hc4.symm.trans hc5)
  obtain ⟨vm', X', st⟩ := X.thenCaughtThrough q (g := F0 m pc ls rest) rfl (Steps.refl _) (by rw [hT]; exact hcell) (by rw [hv]; rfl) (by obtain ⟨k9, h9, -⟩ := Vm.findClass_spec hcl; exact ⟨k9, h9⟩) pre x suf hsplit
    (fun z hz => by
      rcases hpass z hz with h | ⟨hz0, nm, hl1, hn1⟩
      · exact Or.inl h
      · obtain ⟨c6, hc6, hcl6⟩ := Cond.classLink_spec hown hl1 e.platform hpl
        obtain ⟨a8, b8, h1, h2, h3⟩ := hn1
        cases Option.some.inj (h1.symm.trans hcl)
        cases Option.some.inj (h2.symm.trans hc6)
        exact Or.inr ⟨hz0, _, hcl6, h3⟩) hx (Or.inr ⟨h0, c4, hcl5, hasg⟩)
  obtain ⟨t, a1, b1⟩ := kk (T.setVm vm') hT X'
  exact ⟨t, st.trans a1, b1⟩
end Rows
section Ends
variable {p : Program} {l : Launch} {e : Env} {R : Room} {s : State} {m : MethodId} {args : Array Value} {below : List Frame} {meth : Method} {c : Code} {H : Heap} {locs : List Loc} {cells slots : Nat} {Q : State → Prop}
variable {mc ms : Nat} {free : Addr → Prop} {A0 A1 : Nat → Prop} {H0 : Heap} {a : Array Value} {ls : Array Slot} {st0 rest : List Value}
variable {Qc : Array Value → State → Outcome → State → Prop} {XC : String → State → State → Prop}
/-- what a body that may throw owes at its end -/
def vx_MQ (below : List Frame) (Qc : Array Value → State → Outcome → State → Prop) (XC : String → State → State → Prop) (a : Array Value) (s : State) (mc ms : Nat) (free : Addr → Prop) : State → Prop := fun t =>
  ∃ o, t.status = .running ∧ Ended t below o ∧ vx_Q Qc XC mc ms free a s o t
theorem vx_ret {g : JFrame} {mc ms : Nat} (k : W p l e R s m args below meth c H locs cells slots (MQ below Qc args s mc ms free) g) : W p l e R s m args below meth c H locs cells slots (vx_MQ below Qc XC args s mc ms free) g := by
  intro T hT X
  obtain ⟨t, a1, o, b1, b2, b3, b4⟩ := k T hT X
  exact ⟨t, a1, o, b1, b2, Or.inl ⟨b3, b4⟩⟩
/-- not caught here: it goes on to the caller -/
theorem vx_widen {g : JFrame} {q : Addr} {k n : Nat} (h1 : cells ≤ k) (h2 : slots ≤ n) (kk : vx_W p l e R s m args below meth c H locs k n Q g q) : vx_W p l e R s m args below meth c H locs cells slots Q g q := fun T hT X => kk T hT (stand_widen X h1 h2)
theorem vx_out {pc : Nat} {E : String} {ce : Cell} {q : Addr} {mc ms : Nat} (hout : ∀ x ∈ c.exceptionTable.toList, covers x pc = false) (hlocks : meth.locks = false) (hcell : H[q]? = some ce) (hv : ce.vm = .none) (hcl : s.vm.findClass E = some ce.cls)
    (hx : ∀ t : State, t.heap = H → s.vm.Alike t.vm → XC E s t) (hf : ∀ z ∈ locs, free z.base) (hc : cells ≤ mc) (hs : slots ≤ ms) :
    vx_W p l e R s m args below meth c H locs cells slots (vx_MQ below Qc XC args s mc ms free) (F0 m pc ls rest) q := by
  intro T hT X
  obtain ⟨st1, hrun, hend, hW, hsm⟩ := X.leaveThrown q (g := F0 m pc ls rest) rfl rfl rfl hout hlocks
  have hcell9 : (T.setFrames (.throwing q :: below)).heap[q]? = some ce := by
    show T.heap[q]? = some ce
    rw [hT]; exact hcell
  exact ⟨_, st1, .threw q, hrun, hend, Or.inr ⟨q, rfl, E, ce, locs, hx _ hT hW.alike, hcell9, hv, hcl, hW, hsm.mono hc hs, hf⟩⟩
theorem vx_frame {U : State} {k n : Nat} (h : s.sameButNew ({ U with vm := s.vm } : State) locs k n) : s.heap.size ≤ U.heap.size ∧ ∀ q : Nat, q < s.heap.size → (∀ z ∈ locs, z.base ≠ q) → U.heap[q]? = s.heap[q]? := by
  obtain ⟨-, h2, -, -, -, h6⟩ := h
  refine ⟨h2, fun q hq hz => ?_⟩
  obtain ⟨c9, e1, e2, e3, e4⟩ := h6 q _ (Array.getElem?_eq_getElem hq)
  have hs : c9.slots = (s.heap[q]).slots := Array.ext_getElem? fun i => e4 i fun hm => hz _ hm rfl
  have h9 : c9 = s.heap[q] := by
    rw [hs] at e2
    exact e2
  have e5 : U.heap[q]? = some c9 := e1
  rw [e5, h9, Array.getElem?_eq_getElem hq]
/-- the words of a throw but the four that speak of the heap -/
def vx_no (w : Cond) : Bool := decide (w ≠ .isRef (.static Bundle.tN "UNASSIGNED_STACK" Bundle.steD)) && decide (w ≠ .isRef (.static Bundle.tN "SUPPRESSED_SENTINEL" Bundle.listD)) && decide (w ≠ .laysStatic Bundle.tN "UNASSIGNED_STACK" Bundle.steD) && decide (w ≠ .laysStatic Bundle.tN "SUPPRESSED_SENTINEL" Bundle.listD)
def vx_at0 (own : String) (ic : Nat) (X : String) (names : List String) : List Cond := (Bundle.ownAtoms0 own ic X names).filter vx_no
def vx_atS (own : String) (ic : Nat) (X : String) (names : List String) : List Cond := (Bundle.ownAtoms own ic X names).filter vx_no
/-- a word that the tables alone decide, or a good one -/
def vx_ot (w : Cond) : Bool := w.onTables || goodWord w
theorem vx_ot_at {args a' : Array Value} {s U : State} {w : Cond} (hW : s.WarmedH U.vm) (hvm : s.vm = U.vm) (hg : vx_ot w = true) (h : w.before args s = true) : w.before a' U = true := by
  simp only [vx_ot, Bool.or_eq_true] at hg
  rcases hg with hg | hg
  · exact va_tabs hg hvm h
  · exact word_at hW (good_of_word hg) h
/-- a list's words: the good ones out of the method's own list, the others by premises of their own -/
theorem vx_hat {args : Array Value} {s : State} {L B : List Cond} (h1 : ∀ w ∈ L.filter goodWord, w.before args s = true) (h2 : ∀ w ∈ L.filter (fun w => !goodWord w), w ∈ B) (h3 : ∀ w ∈ B, w.before args s = true) : ∀ w ∈ L, w.before args s = true := by
  intro w hw
  by_cases g : goodWord w = true
  · exact h1 w (List.mem_filter.mpr ⟨hw, g⟩)
  · refine h3 w (h2 w (List.mem_filter.mpr ⟨hw, ?_⟩))
    show (!goodWord w) = true
    cases hgw : goodWord w
    · rfl
    · exact absurd hgw g
theorem vx_c {args : Array Value} {s : State} {w : Cond} {B : List Cond} (h : w.before args s = true) (t : ∀ w ∈ B, w.before args s = true) : ∀ w' ∈ w :: B, w'.before args s = true := fun w' h' => (List.mem_cons.mp h').elim (fun e => by rw [e]; exact h) (t w')
theorem vx_n {args : Array Value} {s : State} : ∀ w ∈ ([] : List Cond), w.before args s = true := fun _ h => nomatch h
theorem vx_own {args : Array Value} {s : State} {L : List Cond} (h1 : ∀ w ∈ L.filter vx_no, w.before args s = true)
    (hU : (Cond.isRef (.static Bundle.tN "UNASSIGNED_STACK" Bundle.steD)).before args s = true) (hN : (Cond.isRef (.static Bundle.tN "SUPPRESSED_SENTINEL" Bundle.listD)).before args s = true)
    (lU : (Cond.laysStatic Bundle.tN "UNASSIGNED_STACK" Bundle.steD).before args s = true) (lN : (Cond.laysStatic Bundle.tN "SUPPRESSED_SENTINEL" Bundle.listD).before args s = true) : ∀ w ∈ L, w.before args s = true := by
  intro w hw
  by_cases e1 : w = .isRef (.static Bundle.tN "UNASSIGNED_STACK" Bundle.steD)
  · rw [e1]; exact hU
  · by_cases e2 : w = .isRef (.static Bundle.tN "SUPPRESSED_SENTINEL" Bundle.listD)
    · rw [e2]; exact hN
    · by_cases e3 : w = .laysStatic Bundle.tN "UNASSIGNED_STACK" Bundle.steD
      · rw [e3]; exact lU
      · by_cases e4 : w = .laysStatic Bundle.tN "SUPPRESSED_SENTINEL" Bundle.listD
        · rw [e4]; exact lN
        · exact h1 w (List.mem_filter.mpr ⟨hw, by unfold vx_no; rw [decide_eq_true e1, decide_eq_true e2, decide_eq_true e3, decide_eq_true e4]; rfl⟩)
/-- where a static field lies, its class's statics cell in H -/
def vx_L (C n d : String) (A : Nat → Prop) (U : State) (H : Heap) : Prop := ∃ (c : ClassId) (k : Class) (i : Nat) (f : Field) (a : Nat) (cell : Cell), U.vm.findClass C = some c ∧ U.fieldFound? C n d = some (c, k, i, f) ∧ f.isStatic = true ∧ k.statics = some a ∧ H[a]? = some cell ∧ cell.vm.isStatics = true ∧ cell.cls = c ∧ f.slot < cell.slots.size ∧ k.staticTypes[f.slot]? = some f.type ∧ ¬ A a
theorem vx_L.moved {C n d : String} {A : Nat → Prop} {u U : State} {H : Heap} (hvm : u.vm.Alike U.vm) (h : vx_L C n d A u H) : vx_L C n d A U H := by
  obtain ⟨c, k, i, f, a, cell, h1, h2, h3, h4, h5, h6, h7, h8, h9, h10⟩ := h
  obtain ⟨k', hi', he⟩ := State.fieldFound?_setVm hvm h2
  exact ⟨c, k', i, f, a, cell, by rw [hvm.findClass]; exact h1, hi', h3, by rw [he]; exact h4, h5, h6, h7, h8, by rw [he]; exact h9, h10⟩
theorem vx_L.kept {C n d : String} {A : Nat → Prop} {U : State} {H H1 : Heap} (h : vx_L C n d A U H) (hq : ∀ a : Nat, a < H.size → ¬ A a → H1[a]? = H[a]?) : vx_L C n d A U H1 := by
  obtain ⟨c, k, i, f, a, cell, h1, h2, h3, h4, h5, h6, h7, h8, h9, h10⟩ := h
  exact ⟨c, k, i, f, a, cell, h1, h2, h3, h4, by rw [hq a (Array.getElem?_eq_some_iff.mp h5).1 h10]; exact h5, h6, h7, h8, h9, h10⟩
theorem vx_L.narrow {C n d : String} {A B : Nat → Prop} {U : State} {H : Heap} (h : vx_L C n d A U H) (hAB : ∀ q, B q → A q) : vx_L C n d B U H := by
  obtain ⟨c, k, i, f, a, cell, h1, h2, h3, h4, h5, h6, h7, h8, h9, h10⟩ := h
  exact ⟨c, k, i, f, a, cell, h1, h2, h3, h4, h5, h6, h7, h8, h9, fun z => h10 (hAB _ z)⟩
theorem vx_L.word {C n d : String} {A : Nat → Prop} {s : State} {args : Array Value} (h : vx_L C n d A s s.heap) : (Cond.laysStatic C n d).before args s = true := by
  obtain ⟨c, k, i, f, a, cell, h1, h2, h3, h4, h5, h6, h7, h8, h9, -⟩ := h
  show (Cond.laysStatic C n d).holds args s none s [] = true
  exact Cond.laysStatic_of h1 h2 h3 h4 h5 h6 h7 h8 h9
/-- .. and what it holds: null or some reference -/
def vx_Zq (C n d : String) (A : Nat → Prop) (U : State) (H : Heap) : Prop := va_Zq C n d A U H ∧ vx_L C n d A U H
theorem vx_Zq.moved {C n d : String} {A : Nat → Prop} {u U : State} {H : Heap} (hvm : u.vm.Alike U.vm) (h : vx_Zq C n d A u H) : vx_Zq C n d A U H := ⟨va_Zq.moved hvm h.1, vx_L.moved hvm h.2⟩
theorem vx_Zq.kept {C n d : String} {A : Nat → Prop} {U : State} {H H1 : Heap} (h : vx_Zq C n d A U H) (hq : ∀ a : Nat, a < H.size → ¬ A a → H1[a]? = H[a]?) : vx_Zq C n d A U H1 := ⟨va_Zq.kept h.1 hq, vx_L.kept h.2 hq⟩
theorem vx_Zq.narrow {C n d : String} {A B : Nat → Prop} {U : State} {H : Heap} (h : vx_Zq C n d A U H) (hAB : ∀ q, B q → A q) : vx_Zq C n d B U H := ⟨va_Zq.narrow h.1 hAB, vx_L.narrow h.2 hAB⟩
theorem vx_Zqof {args : Array Value} {s : State} {C n d : String} {A : Nat → Prop} (hl : (Cond.laysStatic C n d).before args s = true) (hini : (Cond.initialized C).before args s = true) (h : (Cond.isRef (.static C n d)).before args s = true) (hA : ∀ a : Nat, a < s.heap.size → ¬ A a) : vx_Zq C n d A s s.heap := by
  refine ⟨va_Zqof hl hini h hA, ?_⟩
  obtain ⟨c, k, i, f, a, cell, h1, h2, h3, h4, h5, h6, h7, h8, h9⟩ := Cond.laysStatic_spec hl
  exact ⟨c, k, i, f, a, cell, h1, h2, h3, h4, h5, h6, h7, h8, h9, hA a (Array.getElem?_eq_some_iff.mp h5).1⟩
theorem vx_isRef {C n d : String} {v : Value} {A : Nat → Prop} {s : State} {args : Array Value} (h : va_Z C n d v A s s.heap) (hv : v.isRef = true) : (Cond.isRef (.static C n d)).before args s = true := by
  obtain ⟨cf, kf, fi, f, a, cell, h1, h2, h3, h4, h5, h6, h7, -⟩ := h
  have he : (Term.static C n d).eval args s none [] s = some v := by
    simp [Term.eval, State.fieldNamed?, h1, h2, h4, h5, h6, h7]
  simp only [Cond.before, Cond.holds, Cond.value, he]
  cases v <;> simp_all [Value.isRef]
theorem vx_isRefq {C n d : String} {A : Nat → Prop} {s : State} {args : Array Value} (h : va_Zq C n d A s s.heap) : (Cond.isRef (.static C n d)).before args s = true := by
  rcases h with h | ⟨t, h⟩
  · exact vx_isRef h rfl
  · exact vx_isRef h rfl
/-- the same frame, seen from here: as if the method were called anew in this heap -/
theorem vx_rebase {T : State} (X : Stand p l e R s m args below meth c T locs cells slots) {R' : Room} (hf : R'.frames ≤ R.frames) (hl : R'.locals ≤ R.locals) (hc : cells + R'.cells ≤ R.cells) (hs : slots + R'.slots ≤ R.slots) :
    Stand p l e R' ((T.setVm s.vm).setFrames (.invoking m args :: below)) m args below meth c T [] 0 0 := by
  have htop : (T.setVm s.vm).topJava?.isSome := X.here.top
  have hF : ((T.setVm s.vm).setFrames (.invoking m args :: below)).frames = .invoking m args :: below := State.frames_setFrames _ (State.cur_lt_of_top htop)
  obtain ⟨g₀, hg0⟩ := Option.isSome_iff_exists.mp htop
  obtain ⟨r, hr⟩ := State.topJava?_eq_some.mp hg0
  have hl9 : e.platform.stackLimits (T.setVm s.vm).me = e.platform.stackLimits s.me := X.limits
  have hb9 : (T.setVm s.vm).me.stackBytes = s.me.stackBytes := X.bytes
  refine ⟨X.admits, X.cas, X.clock, hF, ?_, X.hears, X.method, X.code, X.here, X.tail, X.warmed, ?_, ?_, ?_⟩
  · have h := X.room
    have hU : ((T.setVm s.vm).setFrames (.invoking m args :: below)).localsInUse = s.localsInUse := by
      rw [State.localsInUse_invoking hF (meth := meth) (c := c) X.method X.code, State.localsInUse_invoking X.frames X.method X.code]
    simp only [State.hasRoom, Bool.and_eq_true, decide_eq_true_eq] at h ⊢
    obtain ⟨⟨⟨⟨h1, h2, h3, h4, h5, h6⟩, h7⟩, h8⟩, h9⟩ := h
    rw [X.frames, List.length_cons] at h2 h3
    have q1 := X.heapSize
    have q2 := X.used
    simp only [hF, hU, List.length_cons, State.stackLimits_setFrames, State.stackBytes_setFrames, hl9, hb9]
    refine ⟨⟨⟨⟨by omega, by omega, by omega, by omega, by omega, h6⟩, ?_⟩, ?_⟩, X.book⟩
    · show T.heap.size + R'.cells ≤ e.platform.maxCells
      omega
    · show T.slotsUsed + R'.slots ≤ e.platform.maxSlots
      omega
  · rw [State.stackLimits_setFrames]; rfl
  · rw [State.stackBytes_setFrames]; rfl
  · refine ⟨?_, Nat.le_refl _, Nat.le_refl _, ?_, ?_, fun a c9 h9 => ⟨c9, h9, rfl, rfl, fun _ _ => rfl⟩⟩
    · obtain ⟨t, ht, -⟩ := State.frames_cons hr
      show T.setVm s.vm = { ((T.setVm s.vm).setFrames (.invoking m args :: below)).setFrames (T.setVm s.vm).frames with heap := T.heap, slotsUsed := T.slotsUsed }
      rw [State.setFrames_setFrames, State.setFrames_self ht]
      rfl
    · show T.slotsUsed = T.slotsUsed + ((T.heap.toList.drop T.heap.size).map (·.slots.size)).sum
      rw [List.drop_eq_nil_of_le (Nat.le_of_eq Array.length_toList)]
      rfl
    · show ((T.heap.toList.drop T.heap.size).map (·.slots.size)).sum ≤ 0
      rw [List.drop_eq_nil_of_le (Nat.le_of_eq Array.length_toList)]
      exact Nat.le_refl _
/-- 'throw new E()': new; dup; invokespecial; athrow -/
theorem vx_throw0 {cc : ByteArray} {pc : Nat} (hexec : p.tables.exec = Jvm.exec) (hb : c.code = cc) (hl : l.stackTraces = false) {own cls : String} {names : List String} {ik ic mc ms : Nat} {A : Nat → Prop}
    (hown : s.vm.findClass own = some m.cls) (hcls : Bundle.fit cls = true) (hnames : ∀ n ∈ names, Bundle.fit n = true)
    (hk : (Cond.classLink own ik cls).before args s = true) (hini : (Cond.initialized cls).before args s = true) (hat : ∀ w ∈ vx_at0 own ic cls names, w.before args s = true)
    (hgood : ∀ w ∈ Cond.classLink own ik cls :: Cond.initialized cls :: vx_at0 own ic cls names, vx_ot w = true)
    (hU : vx_Zq Bundle.tN "UNASSIGNED_STACK" Bundle.steD A s s.heap) (hN : vx_Zq Bundle.tN "SUPPRESSED_SENTINEL" Bundle.listD A s s.heap) (hS : va_S A s.heap H locs) (hsize : ls.size = c.maxLocals)
    (d0 : decode cc pc = .ok (.new ik, 3)) (d3 : decode cc (pc + 3) = .ok (.dup, 1)) (d4 : decode cc (pc + 4) = .ok (.invokespecial ic, 3)) (d7 : decode cc (pc + 7) = .ok (.athrow, 1))
    (hout : ∀ x ∈ c.exceptionTable.toList, covers x (pc + 7) = false)
    (hRframes : names.length + 3 < R.frames) (hRlocals : (rest.map fun v => v.category).sum + (13 * (names.length + 1) + 42) ≤ R.locals) (hRcells : cells + 1 ≤ R.cells) (hRslots : slots + 6 ≤ R.slots) (hlocks : meth.locks = false)
    (hx : ∀ t : State, s.vm.Alike t.vm → H.size ≤ t.heap.size → (∀ q : Nat, q < H.size → t.heap[q]? = H[q]?) → XC cls s t)
    (hf : ∀ z ∈ locs, free z.base) (hc : cells + 1 ≤ mc) (hs : slots + 6 ≤ ms) :
    W p l e R s m args below meth c H locs cells slots (vx_MQ below Qc XC args s mc ms free) (F0 m pc ls rest) := by
  intro T hT X
  have htr : e.platform.stackTraces = false := (show e.platform.stackTraces = l.stackTraces by rw [X.admits.platform]).trans hl
  have Y := vx_rebase X (R' := { frames := R.frames, locals := R.locals, cells := 1, slots := 6 }) (Nat.le_refl _) (Nat.le_refl _) hRcells hRslots
  obtain ⟨s', hA⟩ : ∃ z, z = (T.setVm s.vm).setFrames (.invoking m args :: below) := ⟨_, rfl⟩
  rw [← hA] at Y
  have hvm : s'.vm = s.vm := by rw [hA]; rfl
  have hhp : s'.heap = H := by rw [hA]; exact hT
  have hW0 : s.WarmedH s'.vm := by rw [hvm]; exact State.WarmedH.refl s
  have hat' : ∀ w ∈ vx_at0 own ic cls names, w.before args s' = true := fun w hw => vx_ot_at hW0 hvm.symm (hgood w (List.mem_cons_of_mem _ (List.mem_cons_of_mem _ hw))) (hat w hw)
  have hk' : (Cond.classLink own ik cls).before args s' = true := vx_ot_at hW0 hvm.symm (hgood _ List.mem_cons_self) hk
  have hini' : (Cond.initialized cls).before args s' = true := vx_ot_at hW0 hvm.symm (hgood _ (List.mem_cons_of_mem _ List.mem_cons_self)) hini
  have hU' : vx_Zq Bundle.tN "UNASSIGNED_STACK" Bundle.steD A s' s'.heap := by rw [hhp]; exact vx_Zq.moved hW0.alike (hU.kept hS.2.1)
  have hN' : vx_Zq Bundle.tN "SUPPRESSED_SENTINEL" Bundle.listD A s' s'.heap := by rw [hhp]; exact vx_Zq.moved hW0.alike (hN.kept hS.2.1)
  have h : ∀ w ∈ Bundle.ownAtoms0 own ic cls names, w.before args s' = true := vx_own hat' (vx_isRefq hU'.1) (vx_isRefq hN'.1) hU'.2.word hN'.2.word
  have hown' : s'.vm.findClass own = some m.cls := by rw [hvm]; exact hown
  have hins : (Cond.instantiable cls 6).before args s' = true := h _ (by simp [Bundle.ownAtoms0])
  obtain ⟨vm₁, cX, kX, hfX, hkX, -, -, X₁, st1⟩ := Y.newCold hexec (own := own) (C := cls) (index := ik) (n := 6) hown' hk' hins hini'
    (g := F0 m pc ls rest) rfl (by rw [hb]; exact d0) (Nat.le_refl _) (Nat.le_refl _)
  generalize hT1 : (T.setVm vm₁).pushCell { cls := cX, slots := kX.instanceTypes.map defaultValue, vm := .none } = T1 at X₁ st1
  have hcat : (Value.ref T.heap.size).category = 1 := rfl
  have hcellA : T1.heap[T.heap.size]? = some (freshCell cX kX) := by rw [← hT1]; exact State.heap_pushCell_size _ _
  have d3' : decode c.code (pc + 3) = .ok (.dup, 1) := by rw [hb]; exact d3
  obtain ⟨U, hsteps, hrun, hend, hW, hsame, ce, hce, hO⟩ := X₁.ctorThrow0 hexec htr (own := own) (cls := cls) (names := names) (ic := ic) hown' hcls hnames h (fun x hx => nomatch hx) hfX hkX hcellA (by rw [hhp, hT]; exact Nat.le_refl _)
    (g := { method := m, pc := pc + 4, locals := ls, stack := .ref T.heap.size :: .ref T.heap.size :: rest, locked := none }) rfl hsize rfl rfl (rest := rest) rfl
    (by rw [hb]; exact d4) (by rw [hb]; exact d7) hout hRframes (by simp only [List.map_cons, List.sum_cons, hcat]; omega) hlocks
  obtain ⟨f1, f2⟩ := vx_frame hsame
  rw [hhp] at f1 f2
  have hWs : s.WarmedH U.vm := State.WarmedH.trans hW0 hW
  have hcl : s.vm.findClass cls = some ce.cls := by
    have h9 := hO.cls
    rw [hvm] at h9
    exact h9
  have hall : s.sameButNew ({ U with vm := s.vm } : State) locs mc ms := by
    subst hA
    obtain ⟨e1, e2⟩ := hsame
    rw [State.setFrames_setFrames] at e1
    have h2 : (T.setVm s.vm).sameButNew ({ U with vm := s.vm } : State) [] (0 + 1) (0 + 6) := ⟨e1, e2⟩
    have h3 := X.same.trans h2
    rw [List.append_nil] at h3
    exact h3.mono hc hs
  refine ⟨U, ?_, .threw T.heap.size, hrun, hend, Or.inr ⟨T.heap.size, rfl, cls, ce, locs, hx U hWs.alike f1 (fun q hq => f2 q hq (fun z hz => nomatch hz)), hce, hO.vm, hcl, hWs, hall, hf⟩⟩
  refine st1 _ ?_
  show Steps p.tables e below (T1.setTop { method := m, pc := pc + 3, locals := ls, stack := .ref T.heap.size :: rest, locked := none }) _
  jvm_step X₁.here [X₁.here.top, hexec, d3', Value.category]
  exact hsteps
/-- 'throw new E("text")': new; dup; ldc; invokespecial; athrow -/
theorem vx_throwS {cc : ByteArray} {pc : Nat} (hexec : p.tables.exec = Jvm.exec) (hb : c.code = cc) (hl : l.stackTraces = false) {own cls text : String} {names : List String} {ik is ic mc ms sa : Nat} {A : Nat → Prop}
    (hown : s.vm.findClass own = some m.cls) (hcls : Bundle.fit cls = true) (hnames : ∀ n ∈ names, Bundle.fit n = true)
    (hk : (Cond.classLink own ik cls).before args s = true) (hini : (Cond.initialized cls).before args s = true) (hstr : vk_R own is text sa s) (hat : ∀ w ∈ vx_atS own ic cls names, w.before args s = true)
    (hgood : ∀ w ∈ Cond.classLink own ik cls :: Cond.initialized cls :: vx_atS own ic cls names, vx_ot w = true)
    (hU : vx_Zq Bundle.tN "UNASSIGNED_STACK" Bundle.steD A s s.heap) (hN : vx_Zq Bundle.tN "SUPPRESSED_SENTINEL" Bundle.listD A s s.heap) (hS : va_S A s.heap H locs) (hsize : ls.size = c.maxLocals)
    (d0 : decode cc pc = .ok (.new ik, 3)) (d3 : decode cc (pc + 3) = .ok (.dup, 1)) (d4 : decode cc (pc + 4) = .ok (.ldc is, 2)) (d6 : decode cc (pc + 6) = .ok (.invokespecial ic, 3)) (d9 : decode cc (pc + 9) = .ok (.athrow, 1))
    (hout : ∀ x ∈ c.exceptionTable.toList, covers x (pc + 9) = false)
    (hRframes : names.length + 3 < R.frames) (hRlocals : (rest.map fun v => v.category).sum + (13 * (names.length + 1) + 43) ≤ R.locals) (hRcells : cells + 1 ≤ R.cells) (hRslots : slots + 6 ≤ R.slots) (hlocks : meth.locks = false)
    (hx : ∀ t : State, s.vm.Alike t.vm → H.size ≤ t.heap.size → (∀ q : Nat, q < H.size → t.heap[q]? = H[q]?) → XC cls s t)
    (hf : ∀ z ∈ locs, free z.base) (hc : cells + 1 ≤ mc) (hs : slots + 6 ≤ ms) :
    W p l e R s m args below meth c H locs cells slots (vx_MQ below Qc XC args s mc ms free) (F0 m pc ls rest) := by
  intro T hT X
  have htr : e.platform.stackTraces = false := (show e.platform.stackTraces = l.stackTraces by rw [X.admits.platform]).trans hl
  have Y := vx_rebase X (R' := { frames := R.frames, locals := R.locals, cells := 1, slots := 6 }) (Nat.le_refl _) (Nat.le_refl _) hRcells hRslots
  obtain ⟨s', hA⟩ : ∃ z, z = (T.setVm s.vm).setFrames (.invoking m args :: below) := ⟨_, rfl⟩
  rw [← hA] at Y
  have hvm : s'.vm = s.vm := by rw [hA]; rfl
  have hhp : s'.heap = H := by rw [hA]; exact hT
  have hW0 : s.WarmedH s'.vm := by rw [hvm]; exact State.WarmedH.refl s
  have hat' : ∀ w ∈ vx_atS own ic cls names, w.before args s' = true := fun w hw => vx_ot_at hW0 hvm.symm (hgood w (List.mem_cons_of_mem _ (List.mem_cons_of_mem _ hw))) (hat w hw)
  have hk' : (Cond.classLink own ik cls).before args s' = true := vx_ot_at hW0 hvm.symm (hgood _ List.mem_cons_self) hk
  have hini' : (Cond.initialized cls).before args s' = true := vx_ot_at hW0 hvm.symm (hgood _ (List.mem_cons_of_mem _ List.mem_cons_self)) hini
  have hU' : vx_Zq Bundle.tN "UNASSIGNED_STACK" Bundle.steD A s' s'.heap := by rw [hhp]; exact vx_Zq.moved hW0.alike (hU.kept hS.2.1)
  have hN' : vx_Zq Bundle.tN "SUPPRESSED_SENTINEL" Bundle.listD A s' s'.heap := by rw [hhp]; exact vx_Zq.moved hW0.alike (hN.kept hS.2.1)
  have h : ∀ w ∈ Bundle.ownAtoms own ic cls names, w.before args s' = true := vx_own hat' (vx_isRefq hU'.1) (vx_isRefq hN'.1) hU'.2.word hN'.2.word
  have hown' : s'.vm.findClass own = some m.cls := by rw [hvm]; exact hown
  have hins : (Cond.instantiable cls 6).before args s' = true := h _ (by simp [Bundle.ownAtoms])
  obtain ⟨vm₁, cX, kX, hfX, hkX, -, -, X₁, st1⟩ := Y.newCold hexec (own := own) (C := cls) (index := ik) (n := 6) hown' hk' hins hini'
    (g := F0 m pc ls rest) rfl (by rw [hb]; exact d0) (Nat.le_refl _) (Nat.le_refl _)
  generalize hT1 : (T.setVm vm₁).pushCell { cls := cX, slots := kX.instanceTypes.map defaultValue, vm := .none } = T1 at X₁ st1
  have hcat : (Value.ref T.heap.size).category = 1 := rfl
  have hcellA : T1.heap[T.heap.size]? = some (freshCell cX kX) := by rw [← hT1]; exact State.heap_pushCell_size _ _
  have d3' : decode c.code (pc + 3) = .ok (.dup, 1) := by rw [hb]; exact d3
  have d4' : decode c.code (pc + 4) = .ok (.ldc is, 2) := by rw [hb]; exact d4
  have hstr' : vk_R own is text sa s' := vk_R.warm hW0 hstr
  obtain ⟨U, hsteps, hrun, hend, hW, hsame, ce, hce, hO⟩ := X₁.ctorThrowS hexec htr (own := own) (cls := cls) (names := names) (ic := ic) hown' hcls hnames h (fun x hx => nomatch hx) hfX hkX hcellA (by rw [hhp, hT]; exact Nat.le_refl _) (msg := .ref sa) rfl
    (g := { method := m, pc := pc + 6, locals := ls, stack := .ref sa :: .ref T.heap.size :: .ref T.heap.size :: rest, locked := none }) rfl hsize rfl rfl (rest := rest) rfl
    (by rw [hb]; exact d6) (by rw [hb]; exact d9) hout hRframes (by simp only [List.map_cons, List.sum_cons, hcat]; omega) hlocks
  obtain ⟨f1, f2⟩ := vx_frame hsame
  rw [hhp] at f1 f2
  have hWs : s.WarmedH U.vm := State.WarmedH.trans hW0 hW
  have hcl : s.vm.findClass cls = some ce.cls := by
    have h9 := hO.cls
    rw [hvm] at h9
    exact h9
  have hall : s.sameButNew ({ U with vm := s.vm } : State) locs mc ms := by
    subst hA
    obtain ⟨e1, e2⟩ := hsame
    rw [State.setFrames_setFrames] at e1
    have h2 : (T.setVm s.vm).sameButNew ({ U with vm := s.vm } : State) [] (0 + 1) (0 + 6) := ⟨e1, e2⟩
    have h3 := X.same.trans h2
    rw [List.append_nil] at h3
    exact h3.mono hc hs
  refine ⟨U, ?_, .threw T.heap.size, hrun, hend, Or.inr ⟨T.heap.size, rfl, cls, ce, locs, hx U hWs.alike f1 (fun q hq => f2 q hq (fun z hz => nomatch hz)), hce, hO.vm, hcl, hWs, hall, hf⟩⟩
  refine st1 _ ?_
  show Steps p.tables e below (T1.setTop { method := m, pc := pc + 3, locals := ls, stack := .ref T.heap.size :: rest, locked := none }) _
  jvm_step X₁.here [X₁.here.top, hexec, d3', Value.category]
  exact X₁.ldcString hexec (own := own) (text := text) (index := is) (a := sa) hown' hstr'.1 hstr'.2
    (g := { method := m, pc := pc + 4, locals := ls, stack := .ref T.heap.size :: .ref T.heap.size :: rest, locked := none }) rfl d4' _ hsteps
/-- 'throw new E("text")', the text by a wide index -/
theorem vx_throwSW {cc : ByteArray} {pc : Nat} (hexec : p.tables.exec = Jvm.exec) (hb : c.code = cc) (hl : l.stackTraces = false) {own cls text : String} {names : List String} {ik is ic mc ms sa : Nat} {A : Nat → Prop}
    (hown : s.vm.findClass own = some m.cls) (hcls : Bundle.fit cls = true) (hnames : ∀ n ∈ names, Bundle.fit n = true)
    (hk : (Cond.classLink own ik cls).before args s = true) (hini : (Cond.initialized cls).before args s = true) (hstr : vk_R own is text sa s) (hat : ∀ w ∈ vx_atS own ic cls names, w.before args s = true)
    (hgood : ∀ w ∈ Cond.classLink own ik cls :: Cond.initialized cls :: vx_atS own ic cls names, vx_ot w = true)
    (hU : vx_Zq Bundle.tN "UNASSIGNED_STACK" Bundle.steD A s s.heap) (hN : vx_Zq Bundle.tN "SUPPRESSED_SENTINEL" Bundle.listD A s s.heap) (hS : va_S A s.heap H locs) (hsize : ls.size = c.maxLocals)
    (d0 : decode cc pc = .ok (.new ik, 3)) (d3 : decode cc (pc + 3) = .ok (.dup, 1)) (d4 : decode cc (pc + 4) = .ok (.ldc_w is, 3)) (d7 : decode cc (pc + 7) = .ok (.invokespecial ic, 3)) (d10 : decode cc (pc + 10) = .ok (.athrow, 1))
    (hout : ∀ x ∈ c.exceptionTable.toList, covers x (pc + 10) = false)
    (hRframes : names.length + 3 < R.frames) (hRlocals : (rest.map fun v => v.category).sum + (13 * (names.length + 1) + 43) ≤ R.locals) (hRcells : cells + 1 ≤ R.cells) (hRslots : slots + 6 ≤ R.slots) (hlocks : meth.locks = false)
    (hx : ∀ t : State, s.vm.Alike t.vm → H.size ≤ t.heap.size → (∀ q : Nat, q < H.size → t.heap[q]? = H[q]?) → XC cls s t)
    (hf : ∀ z ∈ locs, free z.base) (hc : cells + 1 ≤ mc) (hs : slots + 6 ≤ ms) :
    W p l e R s m args below meth c H locs cells slots (vx_MQ below Qc XC args s mc ms free) (F0 m pc ls rest) := by
  intro T hT X
  have htr : e.platform.stackTraces = false := (show e.platform.stackTraces = l.stackTraces by rw [X.admits.platform]).trans hl
  have Y := vx_rebase X (R' := { frames := R.frames, locals := R.locals, cells := 1, slots := 6 }) (Nat.le_refl _) (Nat.le_refl _) hRcells hRslots
  obtain ⟨s', hA⟩ : ∃ z, z = (T.setVm s.vm).setFrames (.invoking m args :: below) := ⟨_, rfl⟩
  rw [← hA] at Y
  have hvm : s'.vm = s.vm := by rw [hA]; rfl
  have hhp : s'.heap = H := by rw [hA]; exact hT
  have hW0 : s.WarmedH s'.vm := by rw [hvm]; exact State.WarmedH.refl s
  have hat' : ∀ w ∈ vx_atS own ic cls names, w.before args s' = true := fun w hw => vx_ot_at hW0 hvm.symm (hgood w (List.mem_cons_of_mem _ (List.mem_cons_of_mem _ hw))) (hat w hw)
  have hk' : (Cond.classLink own ik cls).before args s' = true := vx_ot_at hW0 hvm.symm (hgood _ List.mem_cons_self) hk
  have hini' : (Cond.initialized cls).before args s' = true := vx_ot_at hW0 hvm.symm (hgood _ (List.mem_cons_of_mem _ List.mem_cons_self)) hini
  have hU' : vx_Zq Bundle.tN "UNASSIGNED_STACK" Bundle.steD A s' s'.heap := by rw [hhp]; exact vx_Zq.moved hW0.alike (hU.kept hS.2.1)
  have hN' : vx_Zq Bundle.tN "SUPPRESSED_SENTINEL" Bundle.listD A s' s'.heap := by rw [hhp]; exact vx_Zq.moved hW0.alike (hN.kept hS.2.1)
  have h : ∀ w ∈ Bundle.ownAtoms own ic cls names, w.before args s' = true := vx_own hat' (vx_isRefq hU'.1) (vx_isRefq hN'.1) hU'.2.word hN'.2.word
  have hown' : s'.vm.findClass own = some m.cls := by rw [hvm]; exact hown
  have hins : (Cond.instantiable cls 6).before args s' = true := h _ (by simp [Bundle.ownAtoms])
  obtain ⟨vm₁, cX, kX, hfX, hkX, -, -, X₁, st1⟩ := Y.newCold hexec (own := own) (C := cls) (index := ik) (n := 6) hown' hk' hins hini'
    (g := F0 m pc ls rest) rfl (by rw [hb]; exact d0) (Nat.le_refl _) (Nat.le_refl _)
  generalize hT1 : (T.setVm vm₁).pushCell { cls := cX, slots := kX.instanceTypes.map defaultValue, vm := .none } = T1 at X₁ st1
  have hcat : (Value.ref T.heap.size).category = 1 := rfl
  have hcellA : T1.heap[T.heap.size]? = some (freshCell cX kX) := by rw [← hT1]; exact State.heap_pushCell_size _ _
  have d3' : decode c.code (pc + 3) = .ok (.dup, 1) := by rw [hb]; exact d3
  have d4' : decode c.code (pc + 4) = .ok (.ldc_w is, 3) := by rw [hb]; exact d4
  have hstr' : vk_R own is text sa s' := vk_R.warm hW0 hstr
  obtain ⟨U, hsteps, hrun, hend, hW, hsame, ce, hce, hO⟩ := X₁.ctorThrowS hexec htr (own := own) (cls := cls) (names := names) (ic := ic) hown' hcls hnames h (fun x hx => nomatch hx) hfX hkX hcellA (by rw [hhp, hT]; exact Nat.le_refl _) (msg := .ref sa) rfl
    (g := { method := m, pc := pc + 7, locals := ls, stack := .ref sa :: .ref T.heap.size :: .ref T.heap.size :: rest, locked := none }) rfl hsize rfl rfl (rest := rest) rfl
    (by rw [hb]; exact d7) (by rw [hb]; exact d10) hout hRframes (by simp only [List.map_cons, List.sum_cons, hcat]; omega) hlocks
  obtain ⟨f1, f2⟩ := vx_frame hsame
  rw [hhp] at f1 f2
  have hWs : s.WarmedH U.vm := State.WarmedH.trans hW0 hW
  have hcl : s.vm.findClass cls = some ce.cls := by
    have h9 := hO.cls
    rw [hvm] at h9
    exact h9
  have hall : s.sameButNew ({ U with vm := s.vm } : State) locs mc ms := by
    subst hA
    obtain ⟨e1, e2⟩ := hsame
    rw [State.setFrames_setFrames] at e1
    have h2 : (T.setVm s.vm).sameButNew ({ U with vm := s.vm } : State) [] (0 + 1) (0 + 6) := ⟨e1, e2⟩
    have h3 := X.same.trans h2
    rw [List.append_nil] at h3
    exact h3.mono hc hs
  refine ⟨U, ?_, .threw T.heap.size, hrun, hend, Or.inr ⟨T.heap.size, rfl, cls, ce, locs, hx U hWs.alike f1 (fun q hq => f2 q hq (fun z hz => nomatch hz)), hce, hO.vm, hcl, hWs, hall, hf⟩⟩
  refine st1 _ ?_
  show Steps p.tables e below (T1.setTop { method := m, pc := pc + 3, locals := ls, stack := .ref T.heap.size :: rest, locked := none }) _
  jvm_step X₁.here [X₁.here.top, hexec, d3', Value.category]
  exact X₁.ldcStringW hexec (own := own) (text := text) (index := is) (a := sa) hown' hstr'.1 hstr'.2
    (g := { method := m, pc := pc + 4, locals := ls, stack := .ref T.heap.size :: .ref T.heap.size :: rest, locked := none }) rfl d4' _ hsteps
end Ends
section Bodies
variable {l : Launch}
theorem vx_ofW {y : MethodName} {ws ws' : List Cond} {rm : Room} {Pc : Array Value → State → Prop} {Qc : Array Value → State → Outcome → State → Prop} {XC : String → State → State → Prop} {mc ms : Nat} {free : Addr → Prop} {cc : ByteArray} {maxL : Nat} {ret : Option FieldType}
    (hy : plainName y.cls = true) (hw : ws = Cond.code y cc maxL ret :: ws')
    (body : ∀ p e s m args below meth c s₁, BodyLoose p l y (headSpec ws rm) cc maxL ret e s m args below meth c s₁ → c.maxLocals = maxL → (∀ x ∈ c.exceptionTable.toList, False) → Pc args s →
      W p l e (headSpec ws rm).room s m args below meth c s.heap [] 0 0 (vx_MQ below Qc XC args s mc ms free) (entryFrame m args maxL)) : vx_Met l y ws rm Pc Qc XC mc ms free := by
  refine MetFree.of_bodyS (code := cc) (maxLocals := maxL) (ret := ret) hy ?_ ?_
  · intro args s m h hn
    obtain ⟨meth, c, h1, h2, h3, h4, h5, h6, -, -⟩ := Cond.code_spec hn (atoms_spec (ws := ws) h _ (by rw [hw]; exact List.mem_cons_self))
    exact ⟨meth, c, h1, h2, h3, h4, h5, h6⟩
  · intro p e s m args below meth c s₁ B hml hP _
    have hh0 : s₁.heap = s.heap := by rw [B.state]; rfl
    have ht : ∀ x ∈ c.exceptionTable.toList, False := by
      obtain ⟨meth9, c9, h1, h2, -, -, -, -, h7, -⟩ := Cond.code_spec B.named (atoms_spec (ws := ws) B.pre _ (by rw [hw]; exact List.mem_cons_self))
      cases Option.some.inj (h1.symm.trans B.method)
      cases Option.some.inj (h2.symm.trans (Stand.of_body B).code)
      intro x hx
      rw [Array.isEmpty_iff.mp h7] at hx
      cases hx
    obtain ⟨t, a1, o, b1, b2, b3⟩ := body p e s m args below meth c s₁ B hml ht hP s₁ hh0 (Stand.of_body B)
    exact ⟨t, o, a1, b1, b2, b3⟩
/-- the table of a body with handlers -/
theorem vx_table {p : Program} {x y : MethodName} {S : Spec} {cc bytes : ByteArray} {maxL maxL' : Nat} {ret ret' : Option FieldType} {e : Env} {s s₁ : State} {m : MethodId} {args : Array Value} {below : List Frame} {meth : Method} {c : Code} {hh : List (Nat × Nat × Nat × Nat)}
    (B : BodyLoose p l y S cc maxL ret e s m args below meth c s₁) (h : (Cond.codeWith y bytes maxL' ret' hh).before args s = true) : c.exceptionTable.toList = tableOf hh := by
  obtain ⟨m9, meth9, c9, hn9, h1, h2, -, -, h6, -⟩ := Cond.codeWith_spec h
  cases Option.some.inj (hn9.symm.trans B.named)
  cases Option.some.inj (h1.symm.trans B.method)
  cases Option.some.inj (h2.symm.trans (Stand.of_body B).code)
  rw [← h6, table_eq]
end Bodies
end VXA
/-! ===== END ===== -/
/-! ===== BEGIN a static call of a method with an exception table ===== -/
section VXS
variable {p : Program} {l : Launch} {e : Env} {R : Room} {s : State} {m : MethodId} {args : Array Value} {below : List Frame} {meth : Method} {c : Code} {T : State} {H : Heap} {locs : List Loc} {cells slots : Nat}
abbrev vx_CSW (R : Room) (s : State) (args : Array Value) (own : String) (index : Nat) (y : MethodName) (bytes : ByteArray) (maxL : Nat) (ret : Option FieldType) (hh : List (Nat × Nat × Nat × Nat)) (ws : List Cond) (rm : Room) (mc ms n : Nat) : Prop :=
  (rm.cells = mc ∧ rm.slots = ms ∧ rm.frames + 1 ≤ R.frames ∧ 8 + (maxL + 11) + rm.locals ≤ R.locals ∧ (∀ w ∈ ws, ∀ (a' : Array Value) (U : State), s.WarmedH U.vm → w.before a' U = true) ∧ Cond.codeWith y bytes maxL ret hh ∈ ws) ∧
  (Cond.codeWith y bytes maxL ret hh).before args s = true ∧ (Cond.initialized y.cls).before args s = true ∧ (y.cls ≠ "java/lang/invoke/MethodHandle" ∧ y.cls ≠ "java/lang/invoke/VarHandle") ∧
  (∀ sig, parseMethodDescriptor y.desc = some sig → n = sig.parameters.length) ∧ (Cond.methodLink own index y).before args s = true ∧ (Cond.static y).before args s = true
theorem vx_cwSW {own : String} {index maxL mc ms : Nat} {y : MethodName} {bytes : ByteArray} {ret : Option FieldType} {hh : List (Nat × Nat × Nat × Nat)} {Ts ws ws' : List Cond} {rm : Room} (n : Nat) (ht : ∀ w ∈ Ts, w.before args s = true) (hT : GoodIn Ts (va_wsS own index y ws)) (hw : ws = Cond.codeWith y bytes maxL ret hh :: ws') (hrc : rm.cells = mc) (hrs : rm.slots = ms)
    (hd : y.cls ≠ "java/lang/invoke/MethodHandle" ∧ y.cls ≠ "java/lang/invoke/VarHandle" ∧ (parseMethodDescriptor y.desc).map (fun d => d.parameters.length) = some n) (hR : rm.frames + 1 ≤ R.frames ∧ 8 + (maxL + 11) + rm.locals ≤ R.locals) :
    vx_CSW R s args own index y bytes maxL ret hh ws rm mc ms n := by
  have ok : ∀ w ∈ va_wsS own index y ws, w.before args s = true := fun w h => ht w (hT w h).1
  have hG : GoodIn Ts ws := fun w h => hT w (by unfold va_wsS; exact List.mem_append_right _ h)
  have hc : Cond.codeWith y bytes maxL ret hh ∈ ws := by rw [hw]; exact List.mem_cons_self
  refine ⟨⟨hrc, hrs, hR.1, hR.2, pay_in ht hG, hc⟩, ht _ (hG _ hc).1, ok _ (by simp [va_wsS]), ⟨hd.1, hd.2.1⟩, fun sig h => ?_, ok _ (by simp [va_wsS]), ok _ (by simp [va_wsS])⟩
  have h2 := hd.2.2
  rw [h] at h2
  exact (Option.some.inj h2).symm
theorem vx_callSW (X : Stand p l e R s m args below meth c T locs cells slots) (hexec : p.tables.exec = Jvm.exec) {own : String} {index : Nat} {y : MethodName} {bytes : ByteArray} {maxL : Nat} {ret : Option FieldType} {hh : List (Nat × Nat × Nat × Nat)}
    (hown : s.vm.findClass own = some m.cls) (hlink : (Cond.methodLink own index y).before args s = true) (hstat : (Cond.static y).before args s = true) (hinit : (Cond.initialized y.cls).before args s = true)
    (hcode : (Cond.codeWith y bytes maxL ret hh).before args s = true) (hy : y.cls ≠ "java/lang/invoke/MethodHandle" ∧ y.cls ≠ "java/lang/invoke/VarHandle")
    {W9 : Nat} {Pre : Pt → Array Value → Prop} {Post : Pt → Array Value → Option Value → Pt → Prop} (hK : Back l R p e below s args y 3 W9 Pre Post)
    {g : JFrame} (hg : g.method = m) (hsize : g.locals.size = c.maxLocals) {argsL rest : List Value} (hlen : ∀ sig, parseMethodDescriptor y.desc = some sig → argsL.length = sig.parameters.length)
    (hstack : g.stack = argsL.reverse ++ rest) (hW : 2 * g.monitorRoom + (rest.map fun v => v.category).sum ≤ W9) (hdg : decode c.code g.pc = .ok (.invokestatic index, 3))
    (hpre : ∀ vm₁, s.WarmedH vm₁ → Pre ⟨T.setVm vm₁, locs, cells, slots⟩ argsL.toArray) :
    ∃ (v : Option Value) (vm₁ : Vm) (B : Pt), s.WarmedH vm₁ ∧ Stand p l e R s m args below meth c B.U B.locs B.cells B.slots ∧ Post ⟨T.setVm vm₁, locs, cells, slots⟩ argsL.toArray v B ∧
      ∀ target, Steps p.tables e below (B.U.setTop { g with pc := g.pc + 3, stack := v.toList ++ rest }) target → Steps p.tables e below (T.setTop g) target := by
  obtain ⟨mk, methM, cM, hnamed, hmethM, -, -, -, -, -, -, hsigM⟩ := Cond.codeWith_spec hcode
  have hstatic : methM.isStatic = true := Cond.static_spec hnamed hmethM hstat
  obtain ⟨kP, hkP, -⟩ := className_of_methodNamed hnamed
  have hinitP : kP.init = .initialized := Cond.initialized_spec (findClass_of_methodNamed hnamed) hkP hinit
  obtain ⟨vm₁, X₁, hstep₁⟩ := X.invokestatic hexec hown hlink hnamed hmethM hstatic hkP hinitP hy (g := g) hg (argsL := argsL) (rest := rest) (hlen _ hsigM) hstack hdg
  obtain ⟨v, B, X', hpost, hsteps⟩ := hK m meth c ⟨T.setVm vm₁, locs, cells, slots⟩ { g with stack := rest } (.invokestatic index) mk argsL.toArray X₁ hg hsize hdg hW (X₁.named hnamed) (hpre vm₁ X₁.warmed)
  exact ⟨v, vm₁, B, X₁.warmed, X', hpost, fun target h => hstep₁ _ fun acts => by rw [doInvoke_state]; exact hsteps.trans h⟩
theorem vx_runSW {y : MethodName} {bytes cc : ByteArray} {maxL nL mc ms n index : Nat} {ret : Option FieldType} {hh : List (Nat × Nat × Nat × Nat)} {ws : List Cond} {rm : Room} {Pc : Array Value → State → Prop} {Qc : Array Value → State → Outcome → State → Prop} {free : Addr → Prop} {Ts : List Cond} {own : String} {As rest : List Value} {g : JFrame}
    (S : CallFix p m c cc nL s args Ts own) (hM : Met l y ws rm Pc Qc mc ms free) (cw : vx_CSW R s args own index y bytes maxL ret hh ws rm mc ms n) (hp : PreS s H Pc As)
    (hg : g.method = m) (hn : As.length = n) (hsize : g.locals.size = nL) (hstack : g.stack = As.reverse ++ rest) (hW : 2 * g.monitorRoom + (rest.map fun v => v.category).sum ≤ 8) (hdg : decode cc g.pc = .ok (.invokestatic index, 3)) (hf : cells + mc ≤ R.cells ∧ slots + ms ≤ R.slots) :
    va_Run p l e R s m args below meth c H locs cells slots mc ms g rest (Qc As.toArray) (free) := by
  obtain ⟨⟨hrc, hrs, hfr, hlo, hws, hcw⟩, hcode, hini, hy, hlen, hl, hstt⟩ := cw
  have hK : Back l R p e below s args y 3 8 (PreOf R mc ms Pc) (PostOf Qc mc ms free) := va_backW (hh := hh) (bytes := bytes) (maxL := maxL) (ret := ret) hM hp.1 hrc hrs hfr hlo hws hcw (fun a' U hW => word_at hW (Or.inl (by first | rfl | simp [Cond.onTables, Cond.keeps, Cond.steady])) hini)
  obtain ⟨hx, hb, hml, ho, -⟩ := S
  intro T hT X
  obtain ⟨v, vm₁, ⟨U', l2, c2, s2⟩, hW₁, X', ⟨g', mk, t, L, e1, e2, hq, h1, hL, h2, h3⟩, st⟩ := vx_callSW X hx (hh := hh) (bytes := bytes) (maxL := maxL) (ret := ret) ho hl hstt hini hcode hy hK hg (hsize.trans hml.symm) (argsL := As) (rest := rest) (fun sig h => hn.trans (hlen sig h)) hstack hW (by rw [hb]; exact hdg)
    (fun vm₁ hW₁ => ⟨hf.1, hf.2, hp.2 (T.setVm vm₁) hT hW₁⟩)
  dsimp only [Pt.U, Pt.locs, Pt.cells, Pt.slots] at X' e1 e2 h1 h2 h3 st
  subst h1; subst h2; subst h3
  exact ⟨v, (T.setVm vm₁).calling g' mk As.toArray, t, U', L, hT, X', hL, e1, e2, hq, st⟩
/-- not caught here, past rows that name other classes: it goes on to the caller -/
theorem vx_outP {p : Program} {l : Launch} {e : Env} {R : Room} {s : State} {m : MethodId} {args : Array Value} {below : List Frame} {meth : Method} {c : Code} {H : Heap} {locs : List Loc} {cells slots : Nat} {free : Addr → Prop} {ls : Array Slot} {rest : List Value} {Qc : Array Value → State → Outcome → State → Prop} {XC : String → State → State → Prop}
    {pc : Nat} {own E : String} {ce : Cell} {q : Addr} {mc ms : Nat} (hown : s.vm.findClass own = some m.cls) (hlocks : meth.locks = false)
    (hpass : ∀ z ∈ c.exceptionTable.toList, covers z pc = false ∨ (z.catchType ≠ 0 ∧ ∃ nm : String, (Cond.classLink own z.catchType nm).before args s = true ∧ va_Nc E nm s)) (hcell : H[q]? = some ce) (hv : ce.vm = .none) (hcl : s.vm.findClass E = some ce.cls)
    (hx : ∀ t : State, t.heap = H → s.vm.Alike t.vm → XC E s t) (hf : ∀ z ∈ locs, free z.base) (hc : cells ≤ mc) (hs : slots ≤ ms) :
    vx_W p l e R s m args below meth c H locs cells slots (vx_MQ below Qc XC args s mc ms free) (F0 m pc ls rest) q := by
  intro T hT X
  have hpl : e.platform.magicAccessors = ({} : Platform).magicAccessors := by rw [X.admits.platform]
  obtain ⟨vm', hW', X', st⟩ := X.outThrough hlocks q (g := F0 m pc ls rest) rfl rfl rfl (cell := ce) (by rw [hT]; exact hcell) (by rw [hv]; rfl)
    (by obtain ⟨k9, h9, -⟩ := Vm.findClass_spec hcl; exact ⟨k9, h9⟩) (fun z hz => by
      rcases hpass z hz with h | ⟨hz0, nm, hl1, hn1⟩
      · exact Or.inl h
      · obtain ⟨c6, hc6, hcl6⟩ := Cond.classLink_spec hown hl1 e.platform hpl
        obtain ⟨a8, b8, h1, h2, h3⟩ := hn1
        cases Option.some.inj (h1.symm.trans hcl)
        cases Option.some.inj (h2.symm.trans hc6)
        exact Or.inr ⟨hz0, _, hcl6, h3⟩)
  obtain ⟨g₀, hfr⟩ := X'.frames_eq
  have hcell9 : ((T.setVm vm').setFrames (.throwing q :: below)).heap[q]? = some ce := by
    show T.heap[q]? = some ce
    rw [hT]; exact hcell
  have hend : Ended ((T.setVm vm').setFrames (.throwing q :: below)) below (.threw q) := State.frames_setFrames _ (State.cur_lt_of_frames hfr)
  refine ⟨(T.setVm vm').setFrames (.throwing q :: below), ?_, .threw q, X'.here.running, hend, Or.inr ⟨q, rfl, E, ce, locs, hx _ hT (X'.ends _).1.alike, hcell9, hv, hcl, (X'.ends _).1, (X'.ends _).2.mono hc hs, hf⟩⟩
  rw [X.pushThrowing_eq]
  exact st
/-- a thing of a world lies in the heap -/
theorem vx_lt {D : va_G} {cl : List vw_C} {ws : va_W} {H1 : Heap} (h : va_P D cl ws H1) {k : Nat} {q : Nat × va_E} (hk : ws[k]? = some q) : q.1 < H1.size := (h k q hk).lt
end VXS
/-! ===== END ===== -/
/-! ===== BEGIN methods with a table of their own: called by a name, returning or throwing ===== -/
section VXH
/-! vx_backW, vx_callVX, vx_callSX, vx_callVW, vx_runVW, vx_runVX, vx_runSX, vx_ofWH follow the same proofs as their sisters above (Free/Laws.lean, Shelf42/LK1.lean); vx_outP calls Shelf42/NT130.lean (outThrough). -/
section
variable {l : Launch} {R : Room} {p : Program} {e : Env} {below : List Frame} {s : State} {sargs : Array Value} {y : MethodName} {len W9 : Nat}
theorem vx_backW {ws : List Cond} {rm : Room} {Pc : Array Value → State → Prop} {Qc : Array Value → State → Outcome → State → Prop} {XC : String → State → State → Prop} {mc ms : Nat} {free : Addr → Prop} {bytes : ByteArray} {maxL : Nat} {ret : Option FieldType} {hh : List (Nat × Nat × Nat × Nat)}
    (hM : vx_Met l y ws rm Pc Qc XC mc ms free) (hblind : FrameBlind Pc) (hrc : rm.cells = mc) (hrs : rm.slots = ms)
    (hframes : rm.frames + 1 ≤ R.frames) (hlocals : W9 + (maxL + 11) + rm.locals ≤ R.locals)
    (hws : ∀ w ∈ ws, ∀ a' U, s.WarmedH U.vm → w.before a' U = true) (hcode : Cond.codeWith y bytes maxL ret hh ∈ ws) (hinit : ∀ a' U, s.WarmedH U.vm → (Cond.initialized y.cls).before a' U = true) :
    vx_Back l R p e below s sargs y len W9 (PreOf R mc ms Pc) (PostOf Qc mc ms free) (vx_Post XC mc ms free) := by
  intro m meth c A g ig mk a X hg hsize hdg hW hn hp
  have h1 : (headSpec ws rm).pre.before a A.U = true := atoms_intro fun w hw => hws w hw _ _ X.warmed
  have h2 : (Cond.codeWith y bytes maxL ret hh).before a A.U = true := hws _ hcode _ _ X.warmed
  have h3 : (Cond.initialized y.cls).before a A.U = true := hinit _ _ X.warmed
  have h4 : A.cells + (headSpec ws rm).room.cells ≤ R.cells := by rw [show (headSpec ws rm).room.cells = mc from hrc]; exact hp.1
  have h5 : A.slots + (headSpec ws rm).room.slots ≤ R.slots := by rw [show (headSpec ws rm).room.slots = ms from hrs]; exact hp.2.1
  have hPc : Pc a (A.U.calling g mk a) := hblind _ _ _ _ hp.2.2
  obtain ⟨U, Ls, c0, s0⟩ := A
  dsimp only [Pt.U, Pt.locs, Pt.cells, Pt.slots] at h1 h2 h3 h4 h5 X hn hPc ⊢
  obtain ⟨m9, methY, cY, hn9, hmY, hcY, -, hlY, -⟩ := Cond.codeWith_spec h2
  cases Option.some.inj (hn9.symm.trans hn)
  obtain ⟨kY, hkY, -⟩ := className_of_methodNamed hn
  have hinitY : kY.init = .initialized := Cond.initialized_spec (findClass_of_methodNamed hn) hkY h3
  have h : At U g.method c below := by rw [hg]; exact X.here
  have hlocals9 : W9 + (maxL + 11) + (headSpec ws rm).room.locals ≤ R.locals := hlocals
  have happ : (headSpec ws rm).appliesLoose y e.platform (U.calling g mk a) = true :=
    Spec.appliesLoose_calling (g := g) h hdg hn hkY hinitY
      (X.room_calling (g := g) (R' := (headSpec ws rm).room) hsize hmY hcY hframes (by rw [hlY]; omega) h4 h5) h1
  obtain ⟨mid, hmid⟩ := h.above
  have hfr : (U.setTop g).frames = (.java g :: mid) ++ below := by rw [State.frames_setTop' g h.top, hmid]; rfl
  obtain ⟨o, s₂, hsteps, -, hend, hq⟩ := Steps.callFree hM p X.admits X.cas X.clock (acts := []) hfr happ hPc trivial
  have hq' : vx_Q Qc XC mc ms free a (U.calling g mk a) o s₂ := hq
  rw [State.frames_setTop' g h.top] at hend
  obtain ⟨g₀, hg0⟩ := Option.isSome_iff_exists.mp h.top
  obtain ⟨r, hr⟩ := State.topJava?_eq_some.mp hg0
  have hr' : (({ U with heap := s₂.heap, slotsUsed := s₂.slotsUsed } : State).setVm s₂.vm).frames = .java g₀ :: r := hr
  rcases hq' with ⟨hqc, L, hfe, hL⟩ | ⟨q, rfl, E, ce, L, hx, hce, hcv, hcl, hW₂, hsm, hL⟩
  · obtain ⟨⟨v, rfl⟩, hW₂, e2, q2, q3, q4, q5, q6⟩ := id hfe
    have e3 : s₂ = ({ (U.calling g mk a).setFrames s₂.frames with heap := s₂.heap, slotsUsed := s₂.slotsUsed } : State).setVm s₂.vm := by
      have : s₂ = ({ s₂ with vm := (U.calling g mk a).vm } : State).setVm s₂.vm := rfl
      rw [e2] at this
      exact this
    obtain ⟨c₂, i₂, len₂, hc₂, hd₂, hf₂⟩ := hend
    have hW' : U.WarmedH s₂.vm := hW₂
    have hcc : c₂ = c := by
      have h1 : s₂.code? g.method = U.code? g.method := by
        rw [State.code?_eq, State.code?_eq, hW'.alike.method?]
      exact Option.some.inj (hc₂.symm.trans (h1.trans h.code))
    subst hcc
    have hlen : len₂ = len := by rw [hdg] at hd₂; cases hd₂; rfl
    subst hlen
    have hs₂ : s₂ = (({ U with heap := s₂.heap, slotsUsed := s₂.slotsUsed } : State).setVm s₂.vm).setTop { g with pc := g.pc + len₂, stack := v.toList ++ g.stack } := by
      refine e3.trans ?_
      rw [hf₂, State.calling_eq h.top, State.setFrames_setFrames, State.setTop_of_frames _ hr', hr]
      rfl
    have hsame : U.sameButNew ({ U with heap := s₂.heap, slotsUsed := s₂.slotsUsed } : State) L mc ms := by
      refine ⟨?_, q2, q3, q4, q5, q6⟩
      obtain ⟨t, ht, -⟩ := State.frames_cons hr
      show ({ U with heap := s₂.heap, slotsUsed := s₂.slotsUsed } : State) = { U.setFrames U.frames with heap := s₂.heap, slotsUsed := s₂.slotsUsed }
      rw [State.setFrames_self ht]
    subst hg
    refine Or.inl ⟨v, ⟨(({ U with heap := s₂.heap, slotsUsed := s₂.slotsUsed } : State).setVm s₂.vm), Ls ++ L, c0 + mc, s0 + ms⟩,
      ⟨X.admits, X.cas, X.clock, X.frames, X.room, X.hears, X.method, X.code, (X.here.setHeapUsed s₂.heap s₂.slotsUsed).setVm hW'.alike, X.tail, State.WarmedH.trans X.warmed hW', X.limits, X.bytes, X.same.trans (hsame.setVm s.vm)⟩,
      ⟨g, mk, s₂, L, rfl, rfl, hqc, rfl, hL, rfl, rfl⟩, ?_⟩
    show Steps p.tables e below _ ((({ U with heap := s₂.heap, slotsUsed := s₂.slotsUsed } : State).setVm s₂.vm).setTop { g with pc := g.pc + len₂, stack := v.toList ++ g.stack })
    rw [← hs₂]
    exact hsteps
  · obtain ⟨e2, q2, q3, q4, q5, q6⟩ := id hsm
    have e3 : s₂ = ({ (U.calling g mk a).setFrames s₂.frames with heap := s₂.heap, slotsUsed := s₂.slotsUsed } : State).setVm s₂.vm := by
      have : s₂ = ({ s₂ with vm := (U.calling g mk a).vm } : State).setVm s₂.vm := rfl
      rw [e2] at this
      exact this
    have hf₂ : s₂.frames = .throwing q :: .java g :: U.frames.tail := hend
    have hW' : U.WarmedH s₂.vm := hW₂
    have hs₂ : s₂ = ((({ U with heap := s₂.heap, slotsUsed := s₂.slotsUsed } : State).setVm s₂.vm).setTop g).pushFrame (.throwing q) := by
      refine e3.trans ?_
      rw [hf₂, State.calling_eq h.top, State.setFrames_setFrames, State.pushFrame, State.frames_setTop _ hr', State.setTop_of_frames _ hr', State.setFrames_setFrames, hr]
      rfl
    have hsame : U.sameButNew ({ U with heap := s₂.heap, slotsUsed := s₂.slotsUsed } : State) L mc ms := by
      refine ⟨?_, q2, q3, q4, q5, q6⟩
      obtain ⟨t, ht, -⟩ := State.frames_cons hr
      show ({ U with heap := s₂.heap, slotsUsed := s₂.slotsUsed } : State) = { U.setFrames U.frames with heap := s₂.heap, slotsUsed := s₂.slotsUsed }
      rw [State.setFrames_self ht]
    subst hg
    refine Or.inr ⟨q, ⟨(({ U with heap := s₂.heap, slotsUsed := s₂.slotsUsed } : State).setVm s₂.vm), Ls ++ L, c0 + mc, s0 + ms⟩,
      ⟨X.admits, X.cas, X.clock, X.frames, X.room, X.hears, X.method, X.code, (X.here.setHeapUsed s₂.heap s₂.slotsUsed).setVm hW'.alike, X.tail, State.WarmedH.trans X.warmed hW', X.limits, X.bytes, X.same.trans (hsame.setVm s.vm)⟩,
      ⟨g, mk, s₂, L, E, ce, rfl, rfl, hx, hce, hcv, hcl, rfl, hL, rfl, rfl⟩, ?_⟩
    show Steps p.tables e below _ (((({ U with heap := s₂.heap, slotsUsed := s₂.slotsUsed } : State).setVm s₂.vm).setTop g).pushFrame (.throwing q))
    rw [← hs₂]
    exact hsteps
end
variable {p : Program} {l : Launch} {e : Env} {R : Room} {s : State} {m : MethodId} {args : Array Value} {below : List Frame} {meth : Method} {c : Code} {T : State} {H : Heap} {locs : List Loc} {cells slots : Nat}
theorem vx_callVX (X : Stand p l e R s m args below meth c T locs cells slots) (hexec : p.tables.exec = Jvm.exec) {own C : String} {index : Nat} {y : MethodName} {bytes : ByteArray} {maxL : Nat} {ret : Option FieldType} {hh : List (Nat × Nat × Nat × Nat)}
    (hown : s.vm.findClass own = some m.cls) (hlink : (Cond.methodLink own index y).before args s = true) (hinst : (Cond.instanceMethod y).before args s = true) (hsel : (Cond.selects C y y).before args s = true)
    (hcode : (Cond.codeWith y bytes maxL ret hh).before args s = true) (hy : y.cls ≠ "java/lang/invoke/MethodHandle" ∧ y.cls ≠ "java/lang/invoke/VarHandle")
    {W9 : Nat} {Pre : Pt → Array Value → Prop} {Post : Pt → Array Value → Option Value → Pt → Prop} {PostX : Pt → Array Value → Addr → Pt → Prop} (hK : vx_Back l R p e below s args y 3 W9 Pre Post PostX)
    {b : Addr} {cellB : Cell} (hcell : T.heap[b]? = some cellB) (hobj : cellB.vm.isStatics = false) (hcls : s.vm.findClass C = some cellB.cls)
    {g : JFrame} (hg : g.method = m) (hsize : g.locals.size = c.maxLocals) {argsL rest : List Value} (hlen : ∀ sig, parseMethodDescriptor y.desc = some sig → argsL.length = sig.parameters.length)
    (hstack : g.stack = argsL.reverse ++ .ref b :: rest) (hW : 2 * g.monitorRoom + (rest.map fun v => v.category).sum ≤ W9) (hdg : decode c.code g.pc = .ok (.invokevirtual index, 3))
    (hpre : ∀ vm₁, s.WarmedH vm₁ → Pre ⟨T.setVm vm₁, locs, cells, slots⟩ (Value.ref b :: argsL).toArray) :
    (∃ (v : Option Value) (vm₁ : Vm) (B : Pt), s.WarmedH vm₁ ∧ Stand p l e R s m args below meth c B.U B.locs B.cells B.slots ∧ Post ⟨T.setVm vm₁, locs, cells, slots⟩ (Value.ref b :: argsL).toArray v B ∧
      ∀ target, Steps p.tables e below (B.U.setTop { g with pc := g.pc + 3, stack := v.toList ++ rest }) target → Steps p.tables e below (T.setTop g) target) ∨
    (∃ (q : Addr) (vm₁ : Vm) (B : Pt), s.WarmedH vm₁ ∧ Stand p l e R s m args below meth c B.U B.locs B.cells B.slots ∧ PostX ⟨T.setVm vm₁, locs, cells, slots⟩ (Value.ref b :: argsL).toArray q B ∧
      Steps p.tables e below (T.setTop g) ((B.U.setTop { g with stack := rest }).pushFrame (.throwing q))) := by
  obtain ⟨mk, methM, hnamed, hmethM, hstM, habM⟩ := Cond.instanceMethod_spec hinst
  obtain ⟨m8, methM', cM, hn8, hmethM', -, -, -, -, -, -, hsigM⟩ := Cond.codeWith_spec hcode
  cases Option.some.inj (hn8.symm.trans hnamed)
  cases hmethM.symm.trans hmethM'
  obtain ⟨c2, r2, m2, q1, q2, q3, q4, kP, hkP, hkPi⟩ := Cond.selects_spec hsel
  cases hcls.symm.trans q1
  cases (State.methodFound?_of_named hnamed hy).symm.trans q2
  cases hnamed.symm.trans q3
  have hselP : selectMethod e.platform s.vm cellB.cls mk = .method mk := by rw [Launch.admits_selectMethod X.admits]; exact q4
  obtain ⟨vm₁, X₁, hstep₁⟩ := X.invokevirtual hexec hown hlink hnamed hmethM hstM hkP hkPi hy (a := b) (cell := cellB) hcell
    (fun z h => by rw [h] at hobj; cases hobj) hselP hmethM habM hkP hkPi (g := g) hg (argsL := argsL) (rest := rest) (hlen _ hsigM) hstack hdg
  rcases hK m meth c ⟨T.setVm vm₁, locs, cells, slots⟩ { g with stack := rest } (.invokevirtual index) mk (Value.ref b :: argsL).toArray X₁ hg hsize hdg hW (X₁.named hnamed) (hpre vm₁ X₁.warmed) with ⟨v, B, X', hpost, hsteps⟩ | ⟨q, B, X', hpost, hsteps⟩
  · exact Or.inl ⟨v, vm₁, B, X₁.warmed, X', hpost, fun target h => hstep₁ _ fun acts => by rw [doInvoke_state]; exact hsteps.trans h⟩
  · exact Or.inr ⟨q, vm₁, B, X₁.warmed, X', hpost, hstep₁ _ fun acts => by rw [doInvoke_state]; exact hsteps⟩
theorem vx_callSX (X : Stand p l e R s m args below meth c T locs cells slots) (hexec : p.tables.exec = Jvm.exec) {own : String} {index : Nat} {y : MethodName} {bytes : ByteArray} {maxL : Nat} {ret : Option FieldType} {hh : List (Nat × Nat × Nat × Nat)}
    (hown : s.vm.findClass own = some m.cls) (hlink : (Cond.methodLink own index y).before args s = true) (hstat : (Cond.static y).before args s = true) (hinit : (Cond.initialized y.cls).before args s = true)
    (hcode : (Cond.codeWith y bytes maxL ret hh).before args s = true) (hy : y.cls ≠ "java/lang/invoke/MethodHandle" ∧ y.cls ≠ "java/lang/invoke/VarHandle")
    {W9 : Nat} {Pre : Pt → Array Value → Prop} {Post : Pt → Array Value → Option Value → Pt → Prop} {PostX : Pt → Array Value → Addr → Pt → Prop} (hK : vx_Back l R p e below s args y 3 W9 Pre Post PostX)
    {g : JFrame} (hg : g.method = m) (hsize : g.locals.size = c.maxLocals) {argsL rest : List Value} (hlen : ∀ sig, parseMethodDescriptor y.desc = some sig → argsL.length = sig.parameters.length)
    (hstack : g.stack = argsL.reverse ++ rest) (hW : 2 * g.monitorRoom + (rest.map fun v => v.category).sum ≤ W9) (hdg : decode c.code g.pc = .ok (.invokestatic index, 3))
    (hpre : ∀ vm₁, s.WarmedH vm₁ → Pre ⟨T.setVm vm₁, locs, cells, slots⟩ argsL.toArray) :
    (∃ (v : Option Value) (vm₁ : Vm) (B : Pt), s.WarmedH vm₁ ∧ Stand p l e R s m args below meth c B.U B.locs B.cells B.slots ∧ Post ⟨T.setVm vm₁, locs, cells, slots⟩ argsL.toArray v B ∧
      ∀ target, Steps p.tables e below (B.U.setTop { g with pc := g.pc + 3, stack := v.toList ++ rest }) target → Steps p.tables e below (T.setTop g) target) ∨
    (∃ (q : Addr) (vm₁ : Vm) (B : Pt), s.WarmedH vm₁ ∧ Stand p l e R s m args below meth c B.U B.locs B.cells B.slots ∧ PostX ⟨T.setVm vm₁, locs, cells, slots⟩ argsL.toArray q B ∧
      Steps p.tables e below (T.setTop g) ((B.U.setTop { g with stack := rest }).pushFrame (.throwing q))) := by
  obtain ⟨mk, methM, cM, hnamed, hmethM, -, -, -, -, -, -, hsigM⟩ := Cond.codeWith_spec hcode
  have hstatic : methM.isStatic = true := Cond.static_spec hnamed hmethM hstat
  obtain ⟨kP, hkP, -⟩ := className_of_methodNamed hnamed
  have hinitP : kP.init = .initialized := Cond.initialized_spec (findClass_of_methodNamed hnamed) hkP hinit
  obtain ⟨vm₁, X₁, hstep₁⟩ := X.invokestatic hexec hown hlink hnamed hmethM hstatic hkP hinitP hy (g := g) hg (argsL := argsL) (rest := rest) (hlen _ hsigM) hstack hdg
  rcases hK m meth c ⟨T.setVm vm₁, locs, cells, slots⟩ { g with stack := rest } (.invokestatic index) mk argsL.toArray X₁ hg hsize hdg hW (X₁.named hnamed) (hpre vm₁ X₁.warmed) with ⟨v, B, X', hpost, hsteps⟩ | ⟨q, B, X', hpost, hsteps⟩
  · exact Or.inl ⟨v, vm₁, B, X₁.warmed, X', hpost, fun target h => hstep₁ _ fun acts => by rw [doInvoke_state]; exact hsteps.trans h⟩
  · exact Or.inr ⟨q, vm₁, B, X₁.warmed, X', hpost, hstep₁ _ fun acts => by rw [doInvoke_state]; exact hsteps⟩
theorem vx_callVW (X : Stand p l e R s m args below meth c T locs cells slots) (hexec : p.tables.exec = Jvm.exec) {own C : String} {index : Nat} {y : MethodName} {bytes : ByteArray} {maxL : Nat} {ret : Option FieldType} {hh : List (Nat × Nat × Nat × Nat)}
    (hown : s.vm.findClass own = some m.cls) (hlink : (Cond.methodLink own index y).before args s = true) (hinst : (Cond.instanceMethod y).before args s = true) (hsel : (Cond.selects C y y).before args s = true)
    (hcode : (Cond.codeWith y bytes maxL ret hh).before args s = true) (hy : y.cls ≠ "java/lang/invoke/MethodHandle" ∧ y.cls ≠ "java/lang/invoke/VarHandle")
    {W9 : Nat} {Pre : Pt → Array Value → Prop} {Post : Pt → Array Value → Option Value → Pt → Prop} (hK : Back l R p e below s args y 3 W9 Pre Post)
    {b : Addr} {cellB : Cell} (hcell : T.heap[b]? = some cellB) (hobj : cellB.vm.isStatics = false) (hcls : s.vm.findClass C = some cellB.cls)
    {g : JFrame} (hg : g.method = m) (hsize : g.locals.size = c.maxLocals) {argsL rest : List Value} (hlen : ∀ sig, parseMethodDescriptor y.desc = some sig → argsL.length = sig.parameters.length)
    (hstack : g.stack = argsL.reverse ++ .ref b :: rest) (hW : 2 * g.monitorRoom + (rest.map fun v => v.category).sum ≤ W9) (hdg : decode c.code g.pc = .ok (.invokevirtual index, 3))
    (hpre : ∀ vm₁, s.WarmedH vm₁ → Pre ⟨T.setVm vm₁, locs, cells, slots⟩ (Value.ref b :: argsL).toArray) :
    ∃ (v : Option Value) (vm₁ : Vm) (B : Pt), s.WarmedH vm₁ ∧ Stand p l e R s m args below meth c B.U B.locs B.cells B.slots ∧ Post ⟨T.setVm vm₁, locs, cells, slots⟩ (Value.ref b :: argsL).toArray v B ∧
      ∀ target, Steps p.tables e below (B.U.setTop { g with pc := g.pc + 3, stack := v.toList ++ rest }) target → Steps p.tables e below (T.setTop g) target := by
  obtain ⟨mk, methM, hnamed, hmethM, hstM, habM⟩ := Cond.instanceMethod_spec hinst
  obtain ⟨m8, methM', cM, hn8, hmethM', -, -, -, -, -, -, hsigM⟩ := Cond.codeWith_spec hcode
  cases Option.some.inj (hn8.symm.trans hnamed)
  cases hmethM.symm.trans hmethM'
  obtain ⟨c2, r2, m2, q1, q2, q3, q4, kP, hkP, hkPi⟩ := Cond.selects_spec hsel
  cases hcls.symm.trans q1
  cases (State.methodFound?_of_named hnamed hy).symm.trans q2
  cases hnamed.symm.trans q3
  have hselP : selectMethod e.platform s.vm cellB.cls mk = .method mk := by rw [Launch.admits_selectMethod X.admits]; exact q4
  obtain ⟨vm₁, X₁, hstep₁⟩ := X.invokevirtual hexec hown hlink hnamed hmethM hstM hkP hkPi hy (a := b) (cell := cellB) hcell
    (fun z h => by rw [h] at hobj; cases hobj) hselP hmethM habM hkP hkPi (g := g) hg (argsL := argsL) (rest := rest) (hlen _ hsigM) hstack hdg
  obtain ⟨v, B, X', hpost, hsteps⟩ := hK m meth c ⟨T.setVm vm₁, locs, cells, slots⟩ { g with stack := rest } (.invokevirtual index) mk (Value.ref b :: argsL).toArray X₁ hg hsize hdg hW (X₁.named hnamed) (hpre vm₁ X₁.warmed)
  exact ⟨v, vm₁, B, X₁.warmed, X', hpost, fun target h => hstep₁ _ fun acts => by rw [doInvoke_state]; exact hsteps.trans h⟩
abbrev vx_CVW (R : Room) (s : State) (args : Array Value) (own C : String) (index : Nat) (y : MethodName) (bytes : ByteArray) (maxL : Nat) (ret : Option FieldType) (hh : List (Nat × Nat × Nat × Nat)) (ws : List Cond) (rm : Room) (mc ms n : Nat) : Prop :=
  (rm.cells = mc ∧ rm.slots = ms ∧ rm.frames + 1 ≤ R.frames ∧ 8 + (maxL + 11) + rm.locals ≤ R.locals ∧ (∀ w ∈ ws, ∀ (a' : Array Value) (U : State), s.WarmedH U.vm → w.before a' U = true) ∧ Cond.codeWith y bytes maxL ret hh ∈ ws) ∧
  (Cond.codeWith y bytes maxL ret hh).before args s = true ∧ (Cond.initialized y.cls).before args s = true ∧ (y.cls ≠ "java/lang/invoke/MethodHandle" ∧ y.cls ≠ "java/lang/invoke/VarHandle") ∧
  (∀ sig, parseMethodDescriptor y.desc = some sig → n = sig.parameters.length) ∧ (Cond.methodLink own index y).before args s = true ∧ (Cond.instanceMethod y).before args s = true ∧ (Cond.selects C y y).before args s = true
theorem vx_cwVW {own C : String} {index maxL mc ms : Nat} {y : MethodName} {bytes : ByteArray} {ret : Option FieldType} {hh : List (Nat × Nat × Nat × Nat)} {Ts ws ws' : List Cond} {rm : Room} (n : Nat) (ht : ∀ w ∈ Ts, w.before args s = true) (hT : GoodIn Ts (wsV own index C y ws)) (hw : ws = Cond.codeWith y bytes maxL ret hh :: ws') (hrc : rm.cells = mc) (hrs : rm.slots = ms)
    (hd : y.cls = C ∧ y.cls ≠ "java/lang/invoke/MethodHandle" ∧ y.cls ≠ "java/lang/invoke/VarHandle" ∧ (parseMethodDescriptor y.desc).map (fun d => d.parameters.length) = some n) (hR : rm.frames + 1 ≤ R.frames ∧ 8 + (maxL + 11) + rm.locals ≤ R.locals) :
    vx_CVW R s args own C index y bytes maxL ret hh ws rm mc ms n := by
  obtain ⟨hC, hd⟩ := hd
  subst hC
  have ok : ∀ w ∈ wsV own index y.cls y ws, w.before args s = true := fun w h => ht w (hT w h).1
  have hG : GoodIn Ts ws := fun w h => hT w (by unfold wsV; exact List.mem_append_right _ h)
  have hc : Cond.codeWith y bytes maxL ret hh ∈ ws := by rw [hw]; exact List.mem_cons_self
  refine ⟨⟨hrc, hrs, hR.1, hR.2, pay_in ht hG, hc⟩, ht _ (hG _ hc).1, ok _ (by simp [wsV]), ⟨hd.1, hd.2.1⟩, fun sig h => ?_, ok _ (by simp [wsV]), ok _ (by simp [wsV]), ok _ (by simp [wsV])⟩
  have h2 := hd.2.2
  rw [h] at h2
  exact (Option.some.inj h2).symm
theorem vx_runVW {y : MethodName} {bytes cc : ByteArray} {maxL nL mc ms n index : Nat} {ret : Option FieldType} {hh : List (Nat × Nat × Nat × Nat)} {ws : List Cond} {rm : Room} {Pc : Array Value → State → Prop} {Qc : Array Value → State → Outcome → State → Prop} {free : Addr → Prop} {Ts : List Cond} {own C : String} {b : Addr} {As rest : List Value} {g : JFrame}
    (S : CallFix p m c cc nL s args Ts own) (hM : Met l y ws rm Pc Qc mc ms free) (cw : vx_CVW R s args own C index y bytes maxL ret hh ws rm mc ms n) (hp : PreV s H C b Pc As)
    (hg : g.method = m) (hn : As.length = n) (hsize : g.locals.size = nL) (hstack : g.stack = As.reverse ++ .ref b :: rest) (hW : 2 * g.monitorRoom + (rest.map fun v => v.category).sum ≤ 8) (hdg : decode cc g.pc = .ok (.invokevirtual index, 3)) (hf : cells + mc ≤ R.cells ∧ slots + ms ≤ R.slots) :
    va_Run p l e R s m args below meth c H locs cells slots mc ms g rest (Qc (Value.ref b :: As).toArray) free := by
  obtain ⟨⟨hrc, hrs, hfr, hlo, hws, hcw⟩, hcode, hini, hy, hlen, hl, hin, hse⟩ := cw
  have hK : Back l R p e below s args y 3 8 (PreOf R mc ms Pc) (PostOf Qc mc ms free) := va_backW (hh := hh) (bytes := bytes) (maxL := maxL) (ret := ret) hM hp.1 hrc hrs hfr hlo hws hcw (fun a' U hW => word_at hW (Or.inl (by first | rfl | simp [Cond.onTables, Cond.keeps, Cond.steady])) hini)
  obtain ⟨hx, hb, hml, ho, -⟩ := S
  obtain ⟨-, ⟨cellB, hcB, hoB, hclB⟩, hPc⟩ := hp
  intro T hT X
  obtain ⟨v, vm₁, ⟨U', l2, c2, s2⟩, hW₁, X', ⟨g', mk, t, L, e1, e2, hq, h1, hL, h2, h3⟩, st⟩ := vx_callVW X hx (C := C) (hh := hh) (bytes := bytes) (maxL := maxL) (ret := ret) ho hl hin hse hcode hy hK (by rw [hT]; exact hcB) hoB hclB hg (hsize.trans hml.symm) (argsL := As) (rest := rest) (fun sig h => hn.trans (hlen sig h)) hstack hW (by rw [hb]; exact hdg)
    (fun vm₁ hW₁ => ⟨hf.1, hf.2, hPc (T.setVm vm₁) hT hW₁⟩)
  dsimp only [Pt.U, Pt.locs, Pt.cells, Pt.slots] at X' e1 e2 h1 h2 h3 st
  subst h1; subst h2; subst h3
  exact ⟨v, (T.setVm vm₁).calling g' mk (Value.ref b :: As).toArray, t, U', L, hT, X', hL, e1, e2, hq, st⟩
section
variable {y : MethodName} {bytes cc : ByteArray} {maxL nL mc ms n index : Nat} {ret : Option FieldType} {ws : List Cond} {rm : Room} {Pc : Array Value → State → Prop} {Qc : Array Value → State → Outcome → State → Prop} {XC : String → State → State → Prop} {free : Addr → Prop} {Ts : List Cond} {own C : String} {b : Addr} {As rest : List Value} {g : JFrame}
theorem vx_runVX {hh : List (Nat × Nat × Nat × Nat)} (S : CallFix p m c cc nL s args Ts own) (hM : vx_Met l y ws rm Pc Qc XC mc ms free) (cw : vx_CVW R s args own C index y bytes maxL ret hh ws rm mc ms n) (hp : PreV s H C b Pc As)
    (hg : g.method = m) (hn : As.length = n) (hsize : g.locals.size = nL) (hstack : g.stack = As.reverse ++ .ref b :: rest) (hW : 2 * g.monitorRoom + (rest.map fun v => v.category).sum ≤ 8) (hdg : decode cc g.pc = .ok (.invokevirtual index, 3)) (hf : cells + mc ≤ R.cells ∧ slots + ms ≤ R.slots) :
    vx_Run p l e R s m args below meth c H locs cells slots mc ms g rest (Qc (Value.ref b :: As).toArray) XC free := by
  obtain ⟨⟨hrc, hrs, hfr, hlo, hws, hcw⟩, hcode, hini, hy, hlen, hl, hin, hse⟩ := cw
  have hK : vx_Back l R p e below s args y 3 8 (PreOf R mc ms Pc) (PostOf Qc mc ms free) (vx_Post XC mc ms free) := vx_backW (hh := hh) (bytes := bytes) (maxL := maxL) (ret := ret) hM hp.1 hrc hrs hfr hlo hws hcw (fun a' U hW => word_at hW (Or.inl (by first | rfl | simp [Cond.onTables, Cond.keeps, Cond.steady])) hini)
  obtain ⟨hx, hb, hml, ho, -⟩ := S
  obtain ⟨-, ⟨cellB, hcB, hoB, hclB⟩, hPc⟩ := hp
  intro T hT X
  rcases vx_callVX X hx (C := C) (hh := hh) (bytes := bytes) (maxL := maxL) (ret := ret) ho hl hin hse hcode hy hK (by rw [hT]; exact hcB) hoB hclB hg (hsize.trans hml.symm) (argsL := As) (rest := rest) (fun sig h => hn.trans (hlen sig h)) hstack hW (by rw [hb]; exact hdg)
    (fun vm₁ hW₁ => ⟨hf.1, hf.2, hPc (T.setVm vm₁) hT hW₁⟩) with ⟨v, vm₁, ⟨U', l2, c2, s2⟩, hW₁, X', ⟨g', mk, t, L, e1, e2, hq, h1, hL, h2, h3⟩, st⟩ | ⟨q, vm₁, ⟨U', l2, c2, s2⟩, hW₁, X', ⟨g', mk, t, L, E, ce, e1, e2, hq, hce, hcv, hcl, h1, hL, h2, h3⟩, st⟩
  · dsimp only [Pt.U, Pt.locs, Pt.cells, Pt.slots] at X' e1 e2 h1 h2 h3 st
    subst h1; subst h2; subst h3
    exact Or.inl ⟨v, (T.setVm vm₁).calling g' mk (Value.ref b :: As).toArray, t, U', L, hT, X', hL, e1, e2, hq, st⟩
  · dsimp only [Pt.U, Pt.locs, Pt.cells, Pt.slots] at X' e1 e2 h1 h2 h3 st hcl
    subst h1; subst h2; subst h3
    exact Or.inr ⟨q, (T.setVm vm₁).calling g' mk (Value.ref b :: As).toArray, t, U', L, E, ce, hT, X', hL, e1, e2, hq, hce, hcv, vx_cls hW₁ hcl, st⟩
theorem vx_runSX {hh : List (Nat × Nat × Nat × Nat)} (S : CallFix p m c cc nL s args Ts own) (hM : vx_Met l y ws rm Pc Qc XC mc ms free) (cw : vx_CSW R s args own index y bytes maxL ret hh ws rm mc ms n) (hp : PreS s H Pc As)
    (hg : g.method = m) (hn : As.length = n) (hsize : g.locals.size = nL) (hstack : g.stack = As.reverse ++ rest) (hW : 2 * g.monitorRoom + (rest.map fun v => v.category).sum ≤ 8) (hdg : decode cc g.pc = .ok (.invokestatic index, 3)) (hf : cells + mc ≤ R.cells ∧ slots + ms ≤ R.slots) :
    vx_Run p l e R s m args below meth c H locs cells slots mc ms g rest (Qc As.toArray) XC free := by
  obtain ⟨⟨hrc, hrs, hfr, hlo, hws, hcw⟩, hcode, hini, hy, hlen, hl, hstt⟩ := cw
  have hK : vx_Back l R p e below s args y 3 8 (PreOf R mc ms Pc) (PostOf Qc mc ms free) (vx_Post XC mc ms free) := vx_backW (hh := hh) (bytes := bytes) (maxL := maxL) (ret := ret) hM hp.1 hrc hrs hfr hlo hws hcw (fun a' U hW => word_at hW (Or.inl (by first | rfl | simp [Cond.onTables, Cond.keeps, Cond.steady])) hini)
  obtain ⟨hx, hb, hml, ho, -⟩ := S
  intro T hT X
  rcases vx_callSX X hx (hh := hh) (bytes := bytes) (maxL := maxL) (ret := ret) ho hl hstt hini hcode hy hK hg (hsize.trans hml.symm) (argsL := As) (rest := rest) (fun sig h => hn.trans (hlen sig h)) hstack hW (by rw [hb]; exact hdg)
    (fun vm₁ hW₁ => ⟨hf.1, hf.2, hp.2 (T.setVm vm₁) hT hW₁⟩) with ⟨v, vm₁, ⟨U', l2, c2, s2⟩, hW₁, X', ⟨g', mk, t, L, e1, e2, hq, h1, hL, h2, h3⟩, st⟩ | ⟨q, vm₁, ⟨U', l2, c2, s2⟩, hW₁, X', ⟨g', mk, t, L, E, ce, e1, e2, hq, hce, hcv, hcl, h1, hL, h2, h3⟩, st⟩
  · dsimp only [Pt.U, Pt.locs, Pt.cells, Pt.slots] at X' e1 e2 h1 h2 h3 st
    subst h1; subst h2; subst h3
    exact Or.inl ⟨v, (T.setVm vm₁).calling g' mk As.toArray, t, U', L, hT, X', hL, e1, e2, hq, st⟩
  · dsimp only [Pt.U, Pt.locs, Pt.cells, Pt.slots] at X' e1 e2 h1 h2 h3 st hcl
    subst h1; subst h2; subst h3
    exact Or.inr ⟨q, (T.setVm vm₁).calling g' mk As.toArray, t, U', L, E, ce, hT, X', hL, e1, e2, hq, hce, hcv, vx_cls hW₁ hcl, st⟩
end
end VXH
theorem vx_ofWH {l : Launch} {y : MethodName} {ws ws' : List Cond} {rm : Room} {Pc : Array Value → State → Prop} {Qc : Array Value → State → Outcome → State → Prop} {XC : String → State → State → Prop} {mc ms : Nat} {free : Addr → Prop} {cc : ByteArray} {maxL : Nat} {ret : Option FieldType} {hh : List (Nat × Nat × Nat × Nat)}
    (hy : plainName y.cls = true) (hw : ws = Cond.codeWith y cc maxL ret hh :: ws')
    (body : ∀ p e s m args below meth c s₁, BodyLoose p l y (headSpec ws rm) cc maxL ret e s m args below meth c s₁ → c.maxLocals = maxL → Pc args s →
      W p l e (headSpec ws rm).room s m args below meth c s.heap [] 0 0 (vx_MQ below Qc XC args s mc ms free) (entryFrame m args maxL)) : vx_Met l y ws rm Pc Qc XC mc ms free := by
  refine MetFree.of_bodyS (code := cc) (maxLocals := maxL) (ret := ret) hy ?_ ?_
  · intro args s m h hn
    obtain ⟨m9, meth, c, hn9, h1, h2, h3, h4, -, h5, h6, -⟩ := Cond.codeWith_spec (atoms_spec (ws := ws) h _ (by rw [hw]; exact List.mem_cons_self))
    cases hn.symm.trans hn9
    exact ⟨meth, c, h1, h2, h3, h4, h5, h6⟩
  · intro p e s m args below meth c s₁ B hml hP _
    have hh0 : s₁.heap = s.heap := by rw [B.state]; rfl
    obtain ⟨t, a1, o, b1, b2, b3⟩ := body p e s m args below meth c s₁ B hml hP s₁ hh0 (Stand.of_body B)
    exact ⟨t, o, a1, b1, b2, b3⟩
/-! ===== END ===== -/

/-! ===== BEGIN what the machine throws by itself, no traces kept ===== -/
section VXM
set_option maxHeartbeats 1000000 in
/-- the machine throws cls with the message text, no traces kept: from its note over the frame g to 'throwing' over the same frame (follows the proofs of Stand.vmThrowsMessage, Shelf/KitTracedVmS.lean, and Stand.throwsMessageColdBareV, StandMessageColdV.lean, without the step out of the frame) -/
theorem vx_vmAt {p : Program} {l : Launch} {e : Env} {R : Room} {s : State} {m₀ : MethodId} {args : Array Value} {below : List Frame} {meth : Method} {c : Code} {W : State} {locs : List Loc} {cells slots : Nat}
    (X : Stand p l e R s m₀ args below meth c W locs cells slots) (hexec : p.tables.exec = Jvm.exec) (htr : e.platform.stackTraces = false) {cls : String} {names : List String} {text : String}
    (hcls : Bundle.fit cls = true) (hnames : ∀ n ∈ names, Bundle.fit n = true) (hsoe : (cls == "java/lang/StackOverflowError") = false) (hoom : (cls == "java/lang/OutOfMemoryError") = false)
    (h : ∀ a ∈ Bundle.messageArmAtoms cls names, a.before args s = true)
    (hlocs : ∀ x ∈ locs, ∀ cell, s.heap[x.base]? = some cell → cell.vm.isStatics = false)
    (htext : (text == notModelled) = false) (hlimit : ¬ (stringBytes (stringToUtf16 text)).size > e.platform.arrayLengthLimit) (hheap : ¬ (stringBytes (stringToUtf16 text)).size * componentBytes .byte > e.platform.maxHeapBytes)
    {g : JFrame} (hg : g.method = m₀) (hsize : g.locals.size = c.maxLocals)
    (hRframes : names.length + 4 < R.frames) (hRlocals : 2 * g.monitorRoom + (g.stack.map fun v => v.category).sum + 10240 ≤ R.locals) (hshort : 13 * names.length + 55 ≤ 10240)
    (hRcells : cells + 3 ≤ R.cells) (hRslots : slots + ((stringBytes (stringToUtf16 text)).size + 4 + 6) ≤ R.slots) (hlocks : meth.locks = false) :
    ∃ (S : State) (q : Addr) (ce : Cell), (∀ target, Steps p.tables e below ((S.setTop g).pushFrame (.throwing q)) target → Steps p.tables e below ((W.setTop g).pushFrame (.throwNew cls (some text) none)) target) ∧
      Stand p l e R s m₀ args below meth c S locs (cells + 3) (slots + ((stringBytes (stringToUtf16 text)).size + 4 + 6)) ∧ S.heap[q]? = some ce ∧ s.vm.findClass cls = some ce.cls ∧ ce.vm = .none := by
  have howns : e.platform.frameOwnsMonitors = true := by rw [X.admits.platform]
  have hfin : e.platform.finalization = false := by rw [X.admits.platform]
  have hpl : e.platform.magicAccessors = ({} : Platform).magicAccessors := by rw [X.admits.platform]
  have a : ∀ x, x ∈ Bundle.messageArmAtoms cls names → x.holds args s none s [] = true := fun x hx => h x hx
  obtain ⟨T, Z0, L, -, Y⟩ := ThrowableC.of_atoms (args := args) howns hfin hpl (fun x hx => h x (by simp [Bundle.messageArmAtoms, hx]))
  obtain ⟨Z, M, LZ, LM, hnZ⟩ := Init0T.ofS_atoms (args := args) hpl L Y (fun x hx => h x (by simp [Bundle.messageArmAtoms, hx]))
  obtain ⟨P1, Ps, hlen, L1, hL, hP1m, hlink1, hlink⟩ := Bundle.chainS (args := args) hpl hnZ names cls hcls hnames (fun x hx => h x (by simp [Bundle.messageArmAtoms, hx]))
  obtain ⟨Zs, LZs, hn4, hfitv, hfitc⟩ := StringT.of_atoms (args := args) (fun x hx => h x (by simp [Bundle.messageArmAtoms, hx]))
  have hfound : s.vm.findClass cls = some P1.m.cls := findClass_of_methodNamed hP1m
  obtain ⟨c1, kX, hc1, hk, hord, -, -, hn6⟩ := Cond.instantiable_spec (a (.instantiable cls 6) (by simp [Bundle.messageArmAtoms]))
  cases Option.some.inj (hc1.symm.trans hfound)
  have hinit := Cond.initialized_spec hfound hk (a (.initialized cls) (by simp [Bundle.messageArmAtoms]))
  have hctor : kX.findMethod "<init>" "(Ljava/lang/String;)V" = some P1.m.idx := findMethod_of_methodNamed hP1m hk
  have hsel0 : selectMethod e.platform s.vm P1.m.cls T.fill0 = .method T.fill0 := by
    obtain ⟨c2, r2, m2, q1, q2, q3, q4, -⟩ := Cond.selects_spec (a (.selects cls Bundle.tFill0 Bundle.tFill0) (by simp [Bundle.messageArmAtoms]))
    cases Option.some.inj (q1.symm.trans hfound)
    cases Option.some.inj (q2.symm.trans (State.methodFound?_of_named Y.fill0 (by decide)))
    cases Option.some.inj (q3.symm.trans Y.fill0)
    rw [Launch.admits_selectMethod X.admits]; exact q4
  have hselF : selectMethod e.platform s.vm P1.m.cls T.fill = .method T.fill := by
    obtain ⟨c2, r2, m2, q1, q2, q3, q4, -⟩ := Cond.selects_spec (a (.selects cls Bundle.tFill Bundle.tFill) (by simp [Bundle.messageArmAtoms]))
    cases Option.some.inj (q1.symm.trans hfound)
    cases Option.some.inj (q2.symm.trans (State.methodFound?_of_named Y.fill (by decide)))
    cases Option.some.inj (q3.symm.trans Y.fill)
    rw [Launch.admits_selectMethod X.admits]; exact q4
  obtain ⟨cellS0, hcS0, hiss⟩ := Y.statics
  obtain ⟨u0, hu0⟩ := Cond.staticRefV Y.unassigned L.unassignedStatic L.statics hcS0 hiss (a (.isRef (.static Bundle.tN "UNASSIGNED_STACK" Bundle.steD)) (by simp [Bundle.messageArmAtoms]))
  obtain ⟨sen, hsen⟩ := Cond.staticRefV Y.sentinel L.sentinelStatic L.statics hcS0 hiss (a (.isRef (.static Bundle.tN "SUPPRESSED_SENTINEL" Bundle.listD)) (by simp [Bundle.messageArmAtoms]))
  obtain ⟨ci198, i198, fB, hk198, hg198, ha198, hsB, -, hnB, htB, hffB⟩ := Cond.ownField (t := .object "java/lang/Object") Y.found L.cls (by decide +kernel) (a (.fieldLink Bundle.tN 198 Bundle.tN "backtrace" "Ljava/lang/Object;") (by simp [Bundle.messageArmAtoms])) (a (.lays Bundle.tN Bundle.tN "backtrace" "Ljava/lang/Object;") (by simp [Bundle.messageArmAtoms])) e.platform hpl
  obtain ⟨cellS, hcS', heS, -, hkeep⟩ := X.same.2.2.2.2.2 T.aS cellS0 hcS0
  have hcellS : W.heap[T.aS]? = some cellS := hcS'
  have hout' : ∀ i, (⟨T.aS, i⟩ : Loc) ∉ locs := fun i hmem => by
    have := hlocs _ hmem cellS0 hcS0
    rw [hiss] at this; cases this
  have hknownS : cellS.vm ≠ .unknown := by
    rw [heS]; intro hu
    rw [show cellS0.vm = .unknown from hu] at hiss
    cases hiss
  have hvU : cellS.slots[T.fUnassigned.slot]? = some u0.v := by rw [hkeep _ (hout' _)]; exact hu0
  have hvSen : cellS.slots[T.fSentinel.slot]? = some sen.v := by rw [hkeep _ (hout' _)]; exact hsen
  obtain ⟨iM, hffM⟩ := Y.msg
  obtain ⟨tyC, dC, hdC, hdnC⟩ := Cond.laysAt hfound hk Y.cause (a (.lays cls Bundle.tN "cause" "Ljava/lang/Throwable;") (by simp [Bundle.messageArmAtoms]))
  obtain ⟨tyS, dS, hdS, hdnS⟩ := Cond.laysAt hfound hk Y.stack (a (.lays cls Bundle.tN "stackTrace" Bundle.steD) (by simp [Bundle.messageArmAtoms]))
  obtain ⟨tyP, dP, hdP, hdnP⟩ := Cond.laysAt hfound hk Y.supp (a (.lays cls Bundle.tN "suppressedExceptions" Bundle.listD) (by simp [Bundle.messageArmAtoms]))
  obtain ⟨tyM, dM, hdM, hdnM⟩ := Cond.laysAt hfound hk hffM (a (.lays cls Bundle.tN "detailMessage" "Ljava/lang/String;") (by simp [Bundle.messageArmAtoms]))
  obtain ⟨tyB, dB, hdB, hdnB⟩ := Cond.laysAt hfound hk hffB (a (.lays cls Bundle.tN "backtrace" "Ljava/lang/Object;") (by simp [Bundle.messageArmAtoms]))
  have bC := Cond.laysApart hdB hdC hdnB hdnC (by rw [hnB, Y.causeName]; decide)
  have bS := Cond.laysApart hdB hdS hdnB hdnS (by rw [hnB, Y.stackName]; decide)
  have bP := Cond.laysApart hdB hdP hdnB hdnP (by rw [hnB, Y.suppName]; decide)
  have hbk : ((preparedCellV T.toThrowableT (freshCell P1.m.cls kX) (W.heap.size + 2) u0 sen).withEntry W.cur).slots[fB.slot]? = some .null := by
    have := fresh_default (c := P1.m.cls) tyB
    rw [htB] at this
    simpa [preparedCellV, Cell.setSlot, Cell.withEntry, Array.getElem?_setIfInBounds, bC, bS, bP, bC.symm, bS.symm, bP.symm, defaultValue] using this
  have tkC := Takes.of_laid (v := .ref (W.heap.size + 2)) hk hord tyC (by rw [Y.causeType]; rfl)
  have tkS := Takes.of_laid (v := u0.v) hk hord tyS (by rw [Y.stackType]; exact fits_refV_array _ u0)
  have tkP := Takes.of_laid (v := sen.v) hk hord tyP (by rw [Y.suppType]; exact fits_refV_object _ sen)
  have tkM := Takes.of_laid (v := .ref (W.heap.size + 1)) hk hord tyM (by rw [Y.msgType]; rfl)
  have hskip : SkipFacts T e.platform s (fun u => u) u0 ((preparedCellV T.toThrowableT (freshCell P1.m.cls kX) (W.heap.size + 2) u0 sen).withEntry W.cur) := ⟨{ ci198 := ci198, i198 := i198, fBack := fB }, ⟨hk198, hg198, ha198, hsB⟩, hbk, fun _ _ => rfl⟩
  have h0 : At W g.method c below := by rw [hg]; exact X.here
  obtain ⟨hbeyond, hfreeW⟩ := X.vmMayThrow hsize (.throwNew cls (some text) none) (fun f hf => by cases hf) rfl hRlocals
  have hfr' : W.frames.length + Ps.length + 4 < (e.platform.stackLimits W.me).1 := by have := X.framesAbove hRframes; omega
  have hwd' : (stackUse (.java g :: W.frames.tail)).2 + 13 * Ps.length + 55 ≤ (e.platform.stackLimits W.me).2 := by have := X.stackAbove hsize (K := 13 * Ps.length + 55) (by omega); omega
  have hslots : W.slotsUsed + (stringBytes (stringToUtf16 text)).size + Zs.kS.instanceTypes.size + kX.instanceTypes.size ≤ e.platform.maxSlots := by
    have := X.slotsAbove hRslots
    rw [hn4, hn6]
    omega
  obtain ⟨vm', hW', st⟩ := Steps.vmThrowsMessageColdByV p (s₀ := s) (S := W) (g := g) h0 hexec T L Z LZ M LM X.warmed (t := W.cur) rfl Zs LZs P1 L1 Ps hL hlink1 hlink hsoe hoom hfound hk hinit hord hctor
    (Launch.admits_hotImplicitExceptions X.admits) hbeyond hfreeW htext hlimit hheap (X.cellsAbove hRcells) hslots (hfitv _) (hfitc _)
    (Nn := fun u => u) heapOnly_id (fun _ _ => rfl) (fun _ => rfl) (fun u x y => setCell_twice _ _ _ _) (fun _ => Nat.le_refl _) (cN := ((preparedCellV T.toThrowableT (freshCell P1.m.cls kX) (W.heap.size + 2) u0 sen).withEntry W.cur))
    hsel0 hcellS hknownS hvU tkS (fun _ hu => hu) (fun _ hu => hu) rfl rfl rfl (by simp [preparedCellV, Cell.setSlot, Cell.withEntry]) hskip (fun _ _ hA hW _ hroom _ hrest => L.nativeOff p htr hA hW hroom hrest) hselF hvSen tkC tkP tkM Y.objLocals rfl hfr' hwd'
  rw [plainBareV_eq T.toThrowableT (W.heap.size + 2) u0 sen (.ref (W.heap.size + 1)) W.cur rfl rfl] at st
  obtain ⟨-, -, w3, w4, -, -, -⟩ := withThrown_facts e.platform W Zs text P1.m.cls kX
  have X3 := ((X.pushed (bytesOf Zs.cB (stringToUtf16 text))).pushed (stringAt Zs.cS Zs.kS Zs.fv Zs.fc (stringToUtf16 text) W.heap.size)).pushed (freshCell P1.m.cls kX)
  rw [← withString_eq] at X3
  have X4 := X3.noted hW'
  have ha : (W.heap.size + 2) < ((withThrown W Zs text P1.m.cls kX).setVm vm').heap.size := by show _ < (withThrown W Zs text P1.m.cls kX).heap.size; rw [w3]; omega
  have hcell : ((withThrown W Zs text P1.m.cls kX).setVm vm').heap[(W.heap.size + 2)]? = some (freshCell P1.m.cls kX) := w4
  have X5 := ((((X4.stored hcell T.fCause.slot (.ref (W.heap.size + 2))).storedAgain ha T.fStack.slot u0.v).storedAgain ha T.fSupp.slot sen.v).storedAgain ha T.fStack.slot u0.v).storedAgain ha T.fMsg.slot (.ref (W.heap.size + 1))
  obtain ⟨g₁, hfrM⟩ := X5.frames_eq
  have hU : ((((withThrown W Zs text P1.m.cls kX).setVm vm').setCell (W.heap.size + 2) (plainBareV T.toThrowableT (freshCell P1.m.cls kX) (W.heap.size + 2) u0 sen (.ref (W.heap.size + 1)))).setTop g).pushFrame (.throwing (W.heap.size + 2)) = (((withThrown W Zs text P1.m.cls kX).setVm vm').setCell (W.heap.size + 2) (plainBareV T.toThrowableT (freshCell P1.m.cls kX) (W.heap.size + 2) u0 sen (.ref (W.heap.size + 1)))).setFrames (.throwing (W.heap.size + 2) :: .java g :: below) := by
    rw [State.pushFrame, State.frames_setTop _ hfrM, State.setTop_of_frames _ hfrM, State.setFrames_setFrames]
  have b1 : (bytesOf Zs.cB (stringToUtf16 text)).slots.size = (stringBytes (stringToUtf16 text)).size := by
    rw [(Cell.writeAll_facts _ _).2.2]; simp [bytes0]
  have b2 : (stringAt Zs.cS Zs.kS Zs.fv Zs.fc (stringToUtf16 text) W.heap.size).slots.size = 4 := by simp [string0, Cell.setSlot, hn4]
  have b3 : (freshCell P1.m.cls kX).slots.size = 6 := by simp [hn6]
  rw [b1, b2, b3] at X5
  have e9 : slots + (stringBytes (stringToUtf16 text)).size + 4 + 6 = slots + ((stringBytes (stringToUtf16 text)).size + 4 + 6) := by omega
  rw [e9] at X5
  simp only [List.append_assoc, List.cons_append, List.nil_append] at X5
  refine ⟨((withThrown W Zs text P1.m.cls kX).setVm vm').setCell (W.heap.size + 2) (plainBareV T.toThrowableT (freshCell P1.m.cls kX) (W.heap.size + 2) u0 sen (.ref (W.heap.size + 1))), W.heap.size + 2, _, fun target ht => st _ (by rw [X.tail, ← hU]; exact ht),
    X5.forget (fun y hy => ?_), heapAt_setCell_self _ ha, hfound, rfl⟩
  simp only [List.mem_cons, List.not_mem_nil, or_false] at hy
  have hge : s.heap.size ≤ W.heap.size := X.same.2.1
  rcases hy with rfl | rfl | rfl | rfl | rfl <;> exact Nat.le_trans hge (Nat.le_add_right _ 2)
set_option maxHeartbeats 1000000 in
/-- the machine throws NullPointerException, no traces kept: from its note over the frame g to 'throwing' over the same frame (follows the proof of Stand.vmThrowsNpe, Shelf42/KT2.lean; throwsNpeColdBareVAt, Shelf42/NT91.lean, called) -/
theorem vx_npeAt {p : Program} {l : Launch} {e : Env} {R : Room} {s : State} {m₀ : MethodId} {args : Array Value} {below : List Frame} {meth : Method} {c : Code} {W : State} {locs : List Loc} {cells slots : Nat}
    (X : Stand p l e R s m₀ args below meth c W locs cells slots) (hexec : p.tables.exec = Jvm.exec) (htr : e.platform.stackTraces = false) {n : Nat}
    (h : ∀ a ∈ Bundle.npeArmAtoms n, a.before args s = true)
    (hlocs : ∀ x ∈ locs, ∀ cell, s.heap[x.base]? = some cell → cell.vm.isStatics = false)
    {g : JFrame} (hg : g.method = m₀) (hsize : g.locals.size = c.maxLocals)
    (hRframes : 7 < R.frames) (hRlocals : 2 * g.monitorRoom + (g.stack.map fun v => v.category).sum + 10240 ≤ R.locals)
    (hRcells : cells + 1 ≤ R.cells) (hRslots : slots + n ≤ R.slots) (hlocks : meth.locks = false) :
    ∃ (S : State) (q : Addr) (ce : Cell), (∀ target, Steps p.tables e below ((S.setTop g).pushFrame (.throwing q)) target → Steps p.tables e below ((W.setTop g).pushFrame (.throwNew "java/lang/NullPointerException" none none)) target) ∧
      Stand p l e R s m₀ args below meth c S locs (cells + 1) (slots + n) ∧ S.heap[q]? = some ce ∧ s.vm.findClass "java/lang/NullPointerException" = some ce.cls ∧ ce.vm = .none := by
  have howns : e.platform.frameOwnsMonitors = true := by rw [X.admits.platform]
  have hfin : e.platform.finalization = false := by rw [X.admits.platform]
  have hpl : e.platform.magicAccessors = ({} : Platform).magicAccessors := by rw [X.admits.platform]
  have hpl2 : e.platform.arrayCloneIsPublic = true := by rw [X.admits.platform]
  have a' : ∀ x, x ∈ Bundle.npeArmAtoms n → x.holds args s none s [] = true := fun x hx => h x hx
  obtain ⟨T, Z, L, LZ, Y⟩ := ThrowableC.of_atoms (args := args) howns hfin hpl (fun x hx => h x (by simp [Bundle.npeArmAtoms, hx]))
  obtain ⟨N, LN, hcN, hnNF, hordN, hffS⟩ := NpeC.of_atoms (args := args) hpl hpl2 L Y (fun x hx => h x (by simp [Bundle.npeArmAtoms, hx]))
  obtain ⟨P1, L1, hP1m, hP1s⟩ := PassC.of_atoms (args := args) (s := s) hpl (X := Bundle.nN) (Y := Bundle.rN) (by decide) (by decide) LibCode.NullPointerException.Init0.at_0 LibCode.NullPointerException.Init0.at_1 LibCode.NullPointerException.Init0.at_4 (fun x hx => h x (by simp [Bundle.npeArmAtoms, hx]))
  obtain ⟨PR, LR, hPRm, hPRs⟩ := PassC.of_atoms (args := args) (s := s) hpl (X := Bundle.rN) (Y := Bundle.eN) (by decide) (by decide) LibCode.RuntimeException.Init0.at_0 LibCode.RuntimeException.Init0.at_1 LibCode.RuntimeException.Init0.at_4 (fun x hx => h x (by simp [Bundle.npeArmAtoms, hx]))
  obtain ⟨PE, LEx, hPEm, hPEs⟩ := PassC.of_atoms (args := args) (s := s) hpl (X := Bundle.eN) (Y := Bundle.tN) (by decide) (by decide) LibCode.Exception.Init0.at_0 LibCode.Exception.Init0.at_1 LibCode.Exception.Init0.at_4 (fun x hx => h x (by simp [Bundle.npeArmAtoms, hx]))
  have hfound : s.vm.findClass Bundle.nN = some P1.m.cls := findClass_of_methodNamed hP1m
  have ecls : N.cN = P1.m.cls := Option.some.inj (hcN.symm.trans hfound)
  have hk : s.vm.classes[P1.m.cls]? = some N.kN := by rw [← ecls]; exact LN.cls
  have hinit := Cond.initialized_spec hfound hk (a' (.initialized Bundle.nN) (by simp [Bundle.npeArmAtoms]))
  have hctor : N.kN.findMethod "<init>" "()V" = some P1.m.idx := findMethod_of_methodNamed hP1m hk
  obtain ⟨c1, k1, hc1, hk1, -, -, -, hn⟩ := Cond.instantiable_spec (a' (.instantiable Bundle.nN n) (by simp [Bundle.npeArmAtoms]))
  cases Option.some.inj (hc1.symm.trans hfound)
  cases Option.some.inj (hk1.symm.trans hk)
  have hfsz : (freshCell P1.m.cls N.kN).slots.size = n := by simp [hn]
  have hlink1 : P1.sup = PR.m := Option.some.inj (hP1s.symm.trans hPRm)
  have hlinkR : PR.sup = PE.m := Option.some.inj (hPRs.symm.trans hPEm)
  have hlinkE : PE.sup = Z.m T.toThrowableT := Option.some.inj (hPEs.symm.trans Y.init0)
  have hLs : ∀ P, P ∈ [PR, PE] → P.Links0 e.platform s := fun P hP => by
    simp only [List.mem_cons, List.not_mem_nil, or_false] at hP
    rcases hP with rfl | rfl
    · exact LR
    · exact LEx
  have hsel0 : selectMethod e.platform s.vm P1.m.cls T.fill0 = .method T.fill0 := by
    obtain ⟨c2, r2, m2, q1, q2, q3, q4, -⟩ := Cond.selects_spec (a' (.selects Bundle.nN Bundle.tFill0 Bundle.tFill0) (by simp [Bundle.npeArmAtoms]))
    cases Option.some.inj (q1.symm.trans hfound)
    cases Option.some.inj (q2.symm.trans (State.methodFound?_of_named Y.fill0 (by decide)))
    cases Option.some.inj (q3.symm.trans Y.fill0)
    rw [Launch.admits_selectMethod X.admits]; exact q4
  have hselF : selectMethod e.platform s.vm P1.m.cls T.fill = .method N.fill := by
    obtain ⟨c2, r2, m2, q1, q2, q3, q4, -⟩ := Cond.selects_spec (a' (.selects Bundle.nN Bundle.tFill Bundle.nFill) (by simp [Bundle.npeArmAtoms]))
    cases Option.some.inj (q1.symm.trans hfound)
    cases Option.some.inj (q2.symm.trans (State.methodFound?_of_named Y.fill (by decide)))
    cases Option.some.inj (q3.symm.trans hnNF)
    rw [Launch.admits_selectMethod X.admits]; exact q4
  obtain ⟨cellS0, hcS0, hiss⟩ := Y.statics
  obtain ⟨u0, hu0⟩ := Cond.staticRefV Y.unassigned L.unassignedStatic L.statics hcS0 hiss (a' (.isRef (.static Bundle.tN "UNASSIGNED_STACK" Bundle.steD)) (by simp [Bundle.npeArmAtoms]))
  obtain ⟨sen, hsen⟩ := Cond.staticRefV Y.sentinel L.sentinelStatic L.statics hcS0 hiss (a' (.isRef (.static Bundle.tN "SUPPRESSED_SENTINEL" Bundle.listD)) (by simp [Bundle.npeArmAtoms]))
  obtain ⟨ci198, i198, fB, hk198, hg198, ha198, hsB, -, hnB, htB, hffB⟩ := Cond.ownField (t := .object "java/lang/Object") Y.found L.cls (by decide +kernel) (a' (.fieldLink Bundle.tN 198 Bundle.tN "backtrace" Bundle.objD) (by simp [Bundle.npeArmAtoms])) (a' (.lays Bundle.tN Bundle.tN "backtrace" Bundle.objD) (by simp [Bundle.npeArmAtoms])) e.platform hpl
  obtain ⟨cellS, hcS', heS, -, hkeep⟩ := X.same.2.2.2.2.2 T.aS cellS0 hcS0
  have hcellS : W.heap[T.aS]? = some cellS := hcS'
  have hout' : ∀ i, (⟨T.aS, i⟩ : Loc) ∉ locs := fun i hmem => by
    have := hlocs _ hmem cellS0 hcS0
    rw [hiss] at this; cases this
  have hknownS : cellS.vm ≠ .unknown := by
    rw [heS]; intro hu
    rw [show cellS0.vm = .unknown from hu] at hiss
    cases hiss
  have hvU : cellS.slots[T.fUnassigned.slot]? = some u0.v := by rw [hkeep _ (hout' _)]; exact hu0
  have hvSen : cellS.slots[T.fSentinel.slot]? = some sen.v := by rw [hkeep _ (hout' _)]; exact hsen
  obtain ⟨tyC, dC, hdC, hdnC⟩ := Cond.laysAt hfound hk Y.cause (a' (.lays Bundle.nN Bundle.tN "cause" "Ljava/lang/Throwable;") (by simp [Bundle.npeArmAtoms]))
  obtain ⟨tyS, dS, hdS, hdnS⟩ := Cond.laysAt hfound hk Y.stack (a' (.lays Bundle.nN Bundle.tN "stackTrace" Bundle.steD) (by simp [Bundle.npeArmAtoms]))
  obtain ⟨tyP, dP, hdP, hdnP⟩ := Cond.laysAt hfound hk Y.supp (a' (.lays Bundle.nN Bundle.tN "suppressedExceptions" Bundle.listD) (by simp [Bundle.npeArmAtoms]))
  obtain ⟨tyX, dX, hdX, hdnX⟩ := Cond.laysAt hfound hk hffS (a' (.lays Bundle.nN Bundle.nN "extendedMessageState" "I") (by simp [Bundle.npeArmAtoms, Bundle.npeAtoms]))
  obtain ⟨hnX, htX⟩ := State.fieldFound?_type hffS (t := .int) (by decide +kernel)
  have xC := Cond.laysApart hdC hdX hdnC hdnX (by rw [hnX, Y.causeName]; decide)
  have xS := Cond.laysApart hdS hdX hdnS hdnX (by rw [hnX, Y.stackName]; decide)
  have xP := Cond.laysApart hdP hdX hdnP hdnX (by rw [hnX, Y.suppName]; decide)
  have hv0 : (freshCell P1.m.cls N.kN).slots[N.fState.slot]? = some (.int 0) := by
    have := fresh_default (c := P1.m.cls) tyX
    rw [htX] at this; exact this
  obtain ⟨tyB, dB, hdB, hdnB⟩ := Cond.laysAt hfound hk hffB (a' (.lays Bundle.nN Bundle.tN "backtrace" Bundle.objD) (by simp [Bundle.npeArmAtoms]))
  have bC := Cond.laysApart hdB hdC hdnB hdnC (by rw [hnB, Y.causeName]; decide)
  have bS := Cond.laysApart hdB hdS hdnB hdnS (by rw [hnB, Y.stackName]; decide)
  have bP := Cond.laysApart hdB hdP hdnB hdnP (by rw [hnB, Y.suppName]; decide)
  have bX := Cond.laysApart hdB hdX hdnB hdnX (by rw [hnB, hnX]; decide)
  have hbk : ((npeCell N.toNpeT (preparedCellV T.toThrowableT (freshCell P1.m.cls N.kN) W.heap.size u0 sen) W.cur).withEntry W.cur).slots[fB.slot]? = some .null := by
    have := fresh_default (c := P1.m.cls) tyB
    rw [htB] at this
    simpa [npeCell, preparedCellV, Cell.setSlot, Cell.withEntry, Array.getElem?_setIfInBounds, bC, bS, bP, bX, bC.symm, bS.symm, bP.symm, bX.symm, defaultValue] using this
  have tkC := Takes.of_laid (v := .ref W.heap.size) hk hordN tyC (by rw [Y.causeType]; rfl)
  have tkS := Takes.of_laid (v := u0.v) hk hordN tyS (by rw [Y.stackType]; exact fits_refV_array _ u0)
  have tkP := Takes.of_laid (v := sen.v) hk hordN tyP (by rw [Y.suppType]; exact fits_refV_object _ sen)
  have tkX := Takes.of_laid (v := .int 1) hk hordN tyX (by rw [htX]; rfl)
  have hskip : SkipFacts T e.platform s (fun u => u) u0 ((npeCell N.toNpeT (preparedCellV T.toThrowableT (freshCell P1.m.cls N.kN) W.heap.size u0 sen) W.cur).withEntry W.cur) := ⟨{ ci198 := ci198, i198 := i198, fBack := fB }, ⟨hk198, hg198, ha198, hsB⟩, hbk, fun _ _ => rfl⟩
  obtain ⟨vm', X3, st, -⟩ := X.throwsNpeColdBareVAt hexec hg hsize T L Z LZ N LN P1 L1 [PR, PE] hLs hlink1 ⟨hlinkR, hlinkE, trivial⟩ hfound hk hinit hordN hctor hsel0 hselF hcellS hknownS hvU hvSen
    hv0 xC xS xP tkC tkS tkP tkX Y.objLocals hskip (fun _ _ hA hW _ hroom _ hrest => L.nativeOff p htr hA hW hroom hrest) (by simpa using hRframes) hRlocals (by simp) hRcells (by rw [hn]; exact hRslots)
  have hlt : W.heap.size < ((W.pushCell (freshCell P1.m.cls N.kN)).setVm vm').heap.size := by
    show W.heap.size < (W.pushCell (freshCell P1.m.cls N.kN)).heap.size
    rw [State.heap_size_pushCell]; omega
  rw [hfsz] at X3
  obtain ⟨g₁, hfrM⟩ := X3.frames_eq
  have hU : ((((W.pushCell (freshCell P1.m.cls N.kN)).setVm vm').setCell W.heap.size (npeBareV T.toThrowableT N.toNpeT (freshCell P1.m.cls N.kN) W.heap.size u0 sen)).setTop g).pushFrame (.throwing W.heap.size) = (((W.pushCell (freshCell P1.m.cls N.kN)).setVm vm').setCell W.heap.size (npeBareV T.toThrowableT N.toNpeT (freshCell P1.m.cls N.kN) W.heap.size u0 sen)).setFrames (.throwing W.heap.size :: .java g :: below) := by
    rw [State.pushFrame, State.frames_setTop _ hfrM, State.setTop_of_frames _ hfrM, State.setFrames_setFrames]
  refine ⟨_, W.heap.size, _, fun target ht => st.trans (by rw [← hU]; exact ht), X3.forget (fun y hy => ?_), heapAt_setCell_self _ hlt, hfound, rfl⟩
  simp only [List.mem_cons, List.not_mem_nil, or_false] at hy
  have hge : s.heap.size ≤ W.heap.size := X.same.2.1
  rcases hy with rfl | rfl | rfl | rfl | rfl <;> exact hge
/-- the words of a machine's NullPointerException, but the four that speak of the heap -/
def vx_atN (n : Nat) : List Cond := (Bundle.npeArmAtoms n).filter vx_no
/-- the words of a machine's throw with a message, but the four that speak of the heap -/
def vx_atM (X : String) (names : List String) : List Cond := (Bundle.messageArmAtoms X names).filter vx_no
section
variable {p : Program} {l : Launch} {e : Env} {R : Room} {s : State} {m : MethodId} {args : Array Value} {below : List Frame} {meth : Method} {c : Code} {H : Heap} {locs : List Loc} {cells slots : Nat}
/-- a frame seen from a rebased start, seen from the first start again -/
theorem vx_back9 {T S : State} {R' : Room} {k n : Nat} (X : Stand p l e R s m args below meth c T locs cells slots) (Y : Stand p l e R' ((T.setVm s.vm).setFrames (.invoking m args :: below)) m args below meth c T [] 0 0) (Z : Stand p l e R' ((T.setVm s.vm).setFrames (.invoking m args :: below)) m args below meth c S [] k n) :
    Stand p l e R s m args below meth c S locs (cells + k) (slots + n) := by
  have hW0 : s.WarmedH ((T.setVm s.vm).setFrames (.invoking m args :: below)).vm := State.WarmedH.refl s
  refine { admits := X.admits, cas := X.cas, clock := X.clock, frames := X.frames, room := X.room, hears := X.hears, method := X.method, code := X.code, here := Z.here, tail := Z.tail, warmed := State.WarmedH.trans hW0 Z.warmed, limits := Z.limits.trans (Y.limits.symm.trans X.limits), bytes := Z.bytes.trans (Y.bytes.symm.trans X.bytes), same := ?_ }
  obtain ⟨e1, e2⟩ := Z.same
  rw [State.setFrames_setFrames] at e1
  have h2 : (T.setVm s.vm).sameButNew (S.setVm s.vm) [] k n := ⟨e1, e2⟩
  have h3 := X.same.trans h2
  rw [List.append_nil] at h3
  exact h3
/-- from the machine's note that E is thrown here with this text -/
def vx_Note (p : Program) (l : Launch) (e : Env) (R : Room) (s : State) (m : MethodId) (args : Array Value) (below : List Frame) (meth : Method) (c : Code) (H : Heap) (locs : List Loc) (cells slots : Nat) (Q : State → Prop) (g : JFrame) (E text : String) : Prop :=
  ∀ T : State, T.heap = H → Stand p l e R s m args below meth c T locs cells slots → ∃ t, Steps p.tables e below ((T.setTop g).pushFrame (.throwNew E (some text) none)) t ∧ Q t
theorem vx_vm {pc : Nat} {ls : Array Slot} {rest : List Value} {Q : State → Prop} (hexec : p.tables.exec = Jvm.exec) (hl : l.stackTraces = false) {cls text : String} {names : List String} {nb : Nat} {A : Nat → Prop}
    (hcls : Bundle.fit cls = true) (hnames : ∀ n ∈ names, Bundle.fit n = true) (hsoe : (cls == "java/lang/StackOverflowError") = false) (hoom : (cls == "java/lang/OutOfMemoryError") = false)
    (hat : ∀ w ∈ vx_atM cls names, w.before args s = true) (hgood : ∀ w ∈ vx_atM cls names, vx_ot w = true)
    (hU : vx_Zq Bundle.tN "UNASSIGNED_STACK" Bundle.steD A s s.heap) (hN : vx_Zq Bundle.tN "SUPPRESSED_SENTINEL" Bundle.listD A s s.heap) (hS : va_S A s.heap H locs) (hsize : ls.size = c.maxLocals)
    (htext : (text == notModelled) = false) (hnb : (stringBytes (stringToUtf16 text)).size ≤ nb) (hnb1 : nb ≤ 1000)
    (hRframes : names.length + 4 < R.frames) (hRlocals : (rest.map fun v => v.category).sum + 10240 ≤ R.locals) (hshort : 13 * names.length + 55 ≤ 10240) (hRcells : cells + 3 ≤ R.cells) (hRslots : slots + (nb + 10) ≤ R.slots) (hlocks : meth.locks = false)
    (k : ∀ (H1 : Heap) (q9 : Addr) (ce : Cell), H.size ≤ H1.size → (∀ q : Nat, q < H.size → H1[q]? = H[q]?) → va_S A s.heap H1 locs → H1[q9]? = some ce → ce.vm = .none → s.vm.findClass cls = some ce.cls → vx_W p l e R s m args below meth c H1 locs (cells + 3) (slots + (nb + 10)) Q (F0 m pc ls rest) q9) :
    vx_Note p l e R s m args below meth c H locs cells slots Q (F0 m pc ls rest) cls text := by
  intro T hT X
  have htr : e.platform.stackTraces = false := (show e.platform.stackTraces = l.stackTraces by rw [X.admits.platform]).trans hl
  have Y := vx_rebase X (R' := { frames := R.frames, locals := R.locals, cells := 3, slots := nb + 10 }) (Nat.le_refl _) (Nat.le_refl _) hRcells hRslots
  have hhp : ((T.setVm s.vm).setFrames (.invoking m args :: below)).heap = H := hT
  have hW0 : s.WarmedH ((T.setVm s.vm).setFrames (.invoking m args :: below)).vm := State.WarmedH.refl s
  have hat' : ∀ w ∈ vx_atM cls names, w.before args ((T.setVm s.vm).setFrames (.invoking m args :: below)) = true := fun w hw => vx_ot_at hW0 rfl (hgood w hw) (hat w hw)
  have hU' : vx_Zq Bundle.tN "UNASSIGNED_STACK" Bundle.steD A ((T.setVm s.vm).setFrames (.invoking m args :: below)) ((T.setVm s.vm).setFrames (.invoking m args :: below)).heap := by rw [hhp]; exact vx_Zq.moved hW0.alike (hU.kept hS.2.1)
  have hN' : vx_Zq Bundle.tN "SUPPRESSED_SENTINEL" Bundle.listD A ((T.setVm s.vm).setFrames (.invoking m args :: below)) ((T.setVm s.vm).setFrames (.invoking m args :: below)).heap := by rw [hhp]; exact vx_Zq.moved hW0.alike (hN.kept hS.2.1)
  obtain ⟨S, q, ce, st, Z, hce, hcl', hv⟩ := vx_vmAt Y hexec htr (cls := cls) (names := names) (text := text) hcls hnames hsoe hoom (vx_own hat' (vx_isRefq hU'.1) (vx_isRefq hN'.1) hU'.2.word hN'.2.word) (fun x hx => nomatch hx) htext
    (by rw [Launch.admits_arrayLengthLimit X.admits]; omega) (by rw [Launch.admits_maxHeapBytes X.admits]; simp only [componentBytes]; omega)
    (g := F0 m pc ls rest) rfl hsize hRframes (by show 2 * 0 + (rest.map fun v => v.category).sum + 10240 ≤ R.locals; omega) hshort (by show 0 + 3 ≤ 3; omega) (by show 0 + (_ + 4 + 6) ≤ nb + 10; omega) hlocks
  obtain ⟨f1, f2⟩ := vx_frame Z.same
  have f1' : H.size ≤ S.heap.size := by rw [← hT]; exact f1
  have f2' : ∀ q : Nat, q < H.size → S.heap[q]? = H[q]? := fun q hq => by
    rw [← hT]
    exact f2 q (by rw [← hT] at hq; exact hq) (fun z hz => nomatch hz)
  have X5 := vx_back9 X Y Z
  have X6 : Stand p l e R s m args below meth c S locs (cells + 3) (slots + (nb + 10)) := { X5 with same := X5.same.mono (by omega) (by omega) }
  obtain ⟨t, a1, b1⟩ := k S.heap q ce f1' f2' ⟨Nat.le_trans hS.1 f1', fun q h1 h2 => (f2' q (Nat.lt_of_lt_of_le h1 hS.1)).trans (hS.2.1 q h1 h2), hS.2.2⟩ hce hv hcl' S rfl X6
  exact ⟨t, st t a1, b1⟩
/-- from the machine's note that NullPointerException is thrown here -/
def vx_NoteN (p : Program) (l : Launch) (e : Env) (R : Room) (s : State) (m : MethodId) (args : Array Value) (below : List Frame) (meth : Method) (c : Code) (H : Heap) (locs : List Loc) (cells slots : Nat) (Q : State → Prop) (g : JFrame) : Prop :=
  ∀ T : State, T.heap = H → Stand p l e R s m args below meth c T locs cells slots → ∃ t, Steps p.tables e below ((T.setTop g).pushFrame (.throwNew "java/lang/NullPointerException" none none)) t ∧ Q t
theorem vx_npe {pc : Nat} {ls : Array Slot} {rest : List Value} {Q : State → Prop} (hexec : p.tables.exec = Jvm.exec) (hl : l.stackTraces = false) {nb : Nat} {A : Nat → Prop}
    (hat : ∀ w ∈ vx_atN nb, w.before args s = true) (hgood : ∀ w ∈ vx_atN nb, vx_ot w = true)
    (hU : vx_Zq Bundle.tN "UNASSIGNED_STACK" Bundle.steD A s s.heap) (hN : vx_Zq Bundle.tN "SUPPRESSED_SENTINEL" Bundle.listD A s s.heap) (hS : va_S A s.heap H locs) (hsize : ls.size = c.maxLocals)
    (hRframes : 7 < R.frames) (hRlocals : (rest.map fun v => v.category).sum + 10240 ≤ R.locals) (hRcells : cells + 1 ≤ R.cells) (hRslots : slots + nb ≤ R.slots) (hlocks : meth.locks = false)
    (k : ∀ (H1 : Heap) (q9 : Addr) (ce : Cell), H.size ≤ H1.size → (∀ q : Nat, q < H.size → H1[q]? = H[q]?) → va_S A s.heap H1 locs → H1[q9]? = some ce → ce.vm = .none → s.vm.findClass "java/lang/NullPointerException" = some ce.cls → vx_W p l e R s m args below meth c H1 locs (cells + 1) (slots + nb) Q (F0 m pc ls rest) q9) :
    vx_NoteN p l e R s m args below meth c H locs cells slots Q (F0 m pc ls rest) := by
  intro T hT X
  have htr : e.platform.stackTraces = false := (show e.platform.stackTraces = l.stackTraces by rw [X.admits.platform]).trans hl
  have Y := vx_rebase X (R' := { frames := R.frames, locals := R.locals, cells := 1, slots := nb }) (Nat.le_refl _) (Nat.le_refl _) hRcells hRslots
  have hhp : ((T.setVm s.vm).setFrames (.invoking m args :: below)).heap = H := hT
  have hW0 : s.WarmedH ((T.setVm s.vm).setFrames (.invoking m args :: below)).vm := State.WarmedH.refl s
  have hat' : ∀ w ∈ vx_atN nb, w.before args ((T.setVm s.vm).setFrames (.invoking m args :: below)) = true := fun w hw => vx_ot_at hW0 rfl (hgood w hw) (hat w hw)
  have hU' : vx_Zq Bundle.tN "UNASSIGNED_STACK" Bundle.steD A ((T.setVm s.vm).setFrames (.invoking m args :: below)) ((T.setVm s.vm).setFrames (.invoking m args :: below)).heap := by rw [hhp]; exact vx_Zq.moved hW0.alike (hU.kept hS.2.1)
  have hN' : vx_Zq Bundle.tN "SUPPRESSED_SENTINEL" Bundle.listD A ((T.setVm s.vm).setFrames (.invoking m args :: below)) ((T.setVm s.vm).setFrames (.invoking m args :: below)).heap := by rw [hhp]; exact vx_Zq.moved hW0.alike (hN.kept hS.2.1)
  obtain ⟨S, q, ce, st, Z, hce, hcl', hv⟩ := vx_npeAt Y hexec htr (n := nb) (vx_own hat' (vx_isRefq hU'.1) (vx_isRefq hN'.1) hU'.2.word hN'.2.word) (fun x hx => nomatch hx)
    (g := F0 m pc ls rest) rfl hsize hRframes (by show 2 * 0 + (rest.map fun v => v.category).sum + 10240 ≤ R.locals; omega) (by show 0 + 1 ≤ 1; omega) (by show 0 + nb ≤ nb; omega) hlocks
  obtain ⟨f1, f2⟩ := vx_frame Z.same
  have f1' : H.size ≤ S.heap.size := by rw [← hT]; exact f1
  have f2' : ∀ q : Nat, q < H.size → S.heap[q]? = H[q]? := fun q hq => by
    rw [← hT]
    exact f2 q (by rw [← hT] at hq; exact hq) (fun z hz => nomatch hz)
  have X5 := vx_back9 X Y Z
  have X6 : Stand p l e R s m args below meth c S locs (cells + 1) (slots + nb) := { X5 with same := X5.same.mono (by omega) (by omega) }
  obtain ⟨t, a1, b1⟩ := k S.heap q ce f1' f2' ⟨Nat.le_trans hS.1 f1', fun q h1 h2 => (f2' q (Nat.lt_of_lt_of_le h1 hS.1)).trans (hS.2.1 q h1 h2), hS.2.2⟩ hce hv hcl' S rfl X6
  exact ⟨t, st t a1, b1⟩
variable {Q : State → Prop} {cc : ByteArray} {pc : Nat} {ls : Array Slot} {rest : List Value}
theorem vx_idivZ (hexec : p.tables.exec = Jvm.exec) (hb : c.code = cc) {a b : Int32} (h0 : b = 0) (d : decode cc pc = .ok (.idiv, 1)) (k : vx_Note p l e R s m args below meth c H locs cells slots Q (F0 m pc ls rest) "java/lang/ArithmeticException" "/ by zero") :
    W p l e R s m args below meth c H locs cells slots Q (F0 m pc ls (.int b :: .int a :: rest)) := by
  intro T hT X
  obtain ⟨t, st, q⟩ := k T hT X
  exact ⟨t, X.idivZero hexec (g := F0 m pc ls (.int b :: .int a :: rest)) rfl (a := a) (rest := rest) (by rw [h0]) (by rw [hb]; exact d) t st, q⟩
theorem vx_iremZ (hexec : p.tables.exec = Jvm.exec) (hb : c.code = cc) {a b : Int32} (h0 : b = 0) (d : decode cc pc = .ok (.irem, 1)) (k : vx_Note p l e R s m args below meth c H locs cells slots Q (F0 m pc ls rest) "java/lang/ArithmeticException" "/ by zero") :
    W p l e R s m args below meth c H locs cells slots Q (F0 m pc ls (.int b :: .int a :: rest)) := by
  intro T hT X
  obtain ⟨t, st, q⟩ := k T hT X
  exact ⟨t, X.iremZero hexec (g := F0 m pc ls (.int b :: .int a :: rest)) rfl (a := a) (rest := rest) (by rw [h0]) (by rw [hb]; exact d) t st, q⟩
theorem vx_ldivZ (hexec : p.tables.exec = Jvm.exec) (hb : c.code = cc) {a b : Int64} (h0 : b = 0) (d : decode cc pc = .ok (.ldiv, 1)) (k : vx_Note p l e R s m args below meth c H locs cells slots Q (F0 m pc ls rest) "java/lang/ArithmeticException" "/ by zero") :
    W p l e R s m args below meth c H locs cells slots Q (F0 m pc ls (.long b :: .long a :: rest)) := by
  intro T hT X
  obtain ⟨t, st, q⟩ := k T hT X
  exact ⟨t, X.ldivZero hexec (g := F0 m pc ls (.long b :: .long a :: rest)) rfl (a := a) (rest := rest) (by rw [h0]) (by rw [hb]; exact d) t st, q⟩
theorem vx_lremZ (hexec : p.tables.exec = Jvm.exec) (hb : c.code = cc) {a b : Int64} (h0 : b = 0) (d : decode cc pc = .ok (.lrem, 1)) (k : vx_Note p l e R s m args below meth c H locs cells slots Q (F0 m pc ls rest) "java/lang/ArithmeticException" "/ by zero") :
    W p l e R s m args below meth c H locs cells slots Q (F0 m pc ls (.long b :: .long a :: rest)) := by
  intro T hT X
  obtain ⟨t, st, q⟩ := k T hT X
  exact ⟨t, X.lremZero hexec (g := F0 m pc ls (.long b :: .long a :: rest)) rfl (a := a) (rest := rest) (by rw [h0]) (by rw [hb]; exact d) t st, q⟩
theorem vx_ialdZ {D : va_G} {cl : List vw_C} {ws : va_W} {tys : List (ClassId × FieldType)} {a : Nat} (hexec : p.tables.exec = Jvm.exec) (hb : c.code = cc) (hK : va_K D cl tys s) (hP : va_P D cl ws H) (q0 t0 : Nat) {cA : ClassId} {n : Nat} {f : Nat → Int32} (ha : ws[q0]? = some (a, .inl (cA, n, .inl f))) (ht : tys[t0]? = some (cA, .int)) {i : Int32} (hout : ¬ vp_in i n) (hdg : decode cc pc = .ok (.iaload, 1))
    (k : ∀ tx : String, tx = (toString "Index " ++ toString i ++ toString " out of bounds for length " ++ toString n : String) → vx_Note p l e R s m args below meth c H locs cells slots Q (F0 m pc ls rest) "java/lang/ArrayIndexOutOfBoundsException" tx) : W p l e R s m args below meth c H locs cells slots Q (F0 m pc ls (.int i :: .ref a :: rest)) := by
  intro T hT X
  obtain ⟨t, st, q⟩ := k _ rfl T hT X
  refine ⟨t, ?_, q⟩
  have h1 := X.ialoadOut hexec (by rw [hT]; exact hP q0 _ ha) ((hK.2 t0 _ ht).1 n (fun j => .int (f j))) (j := i) (by show (i < 0 ∨ (arrV _ _ _).slots.size ≤ _); rw [arrV_size]; exact Classical.byContradiction hout) (g := F0 m pc ls (.int i :: .ref a :: rest)) rfl (rest := rest) rfl (by rw [hb]; exact hdg) t
  simp only [arrV_size] at h1
  exact h1 st
theorem vx_iastZ {D : va_G} {cl : List vw_C} {ws : va_W} {tys : List (ClassId × FieldType)} {a : Nat} (hexec : p.tables.exec = Jvm.exec) (hb : c.code = cc) (hK : va_K D cl tys s) (hP : va_P D cl ws H) (q0 t0 : Nat) {cA : ClassId} {n : Nat} {f : Nat → Int32} (ha : ws[q0]? = some (a, .inl (cA, n, .inl f))) (ht : tys[t0]? = some (cA, .int)) {i : Int32} {x : Int32} (hout : ¬ vp_in i n) (hdg : decode cc pc = .ok (.iastore, 1))
    (k : ∀ tx : String, tx = (toString "Index " ++ toString i ++ toString " out of bounds for length " ++ toString n : String) → vx_Note p l e R s m args below meth c H locs cells slots Q (F0 m pc ls rest) "java/lang/ArrayIndexOutOfBoundsException" tx) : W p l e R s m args below meth c H locs cells slots Q (F0 m pc ls (.int x :: .int i :: .ref a :: rest)) := by
  intro T hT X
  obtain ⟨t, st, q⟩ := k _ rfl T hT X
  refine ⟨t, ?_, q⟩
  have h1 := X.iastoreOut hexec (by rw [hT]; exact hP q0 _ ha) ((hK.2 t0 _ ht).1 n (fun j => .int (f j))) (j := i) (by show (i < 0 ∨ (arrV _ _ _).slots.size ≤ _); rw [arrV_size]; exact Classical.byContradiction hout) (g := F0 m pc ls (.int x :: .int i :: .ref a :: rest)) rfl (rest := rest) rfl (by rw [hb]; exact hdg) t
  simp only [arrV_size] at h1
  exact h1 st
theorem vx_baldZ {D : va_G} {cl : List vw_C} {ws : va_W} {tys : List (ClassId × FieldType)} {a : Nat} (hexec : p.tables.exec = Jvm.exec) (hb : c.code = cc) (hK : va_K D cl tys s) (hP : va_P D cl ws H) (q0 t0 : Nat) {cA : ClassId} {n : Nat} {f : Nat → Int32} (ha : ws[q0]? = some (a, .inl (cA, n, .inl f))) (ht : tys[t0]? = some (cA, .byte)) {i : Int32} (hout : ¬ vp_in i n) (hdg : decode cc pc = .ok (.baload, 1))
    (k : ∀ tx : String, tx = (toString "Index " ++ toString i ++ toString " out of bounds for length " ++ toString n : String) → vx_Note p l e R s m args below meth c H locs cells slots Q (F0 m pc ls rest) "java/lang/ArrayIndexOutOfBoundsException" tx) : W p l e R s m args below meth c H locs cells slots Q (F0 m pc ls (.int i :: .ref a :: rest)) := by
  intro T hT X
  obtain ⟨t, st, q⟩ := k _ rfl T hT X
  refine ⟨t, ?_, q⟩
  have h1 := X.baloadOut hexec (by rw [hT]; exact hP q0 _ ha) ((hK.2 t0 _ ht).1 n (fun j => .int (f j))) (j := i) (by show (i < 0 ∨ (arrV _ _ _).slots.size ≤ _); rw [arrV_size]; exact Classical.byContradiction hout) (g := F0 m pc ls (.int i :: .ref a :: rest)) rfl (rest := rest) rfl (by rw [hb]; exact hdg) t
  simp only [arrV_size] at h1
  exact h1 st
theorem vx_bastZ {D : va_G} {cl : List vw_C} {ws : va_W} {tys : List (ClassId × FieldType)} {a : Nat} (hexec : p.tables.exec = Jvm.exec) (hb : c.code = cc) (hK : va_K D cl tys s) (hP : va_P D cl ws H) (q0 t0 : Nat) {cA : ClassId} {n : Nat} {f : Nat → Int32} (ha : ws[q0]? = some (a, .inl (cA, n, .inl f))) (ht : tys[t0]? = some (cA, .byte)) {i : Int32} {x : Int32} (hout : ¬ vp_in i n) (hdg : decode cc pc = .ok (.bastore, 1))
    (k : ∀ tx : String, tx = (toString "Index " ++ toString i ++ toString " out of bounds for length " ++ toString n : String) → vx_Note p l e R s m args below meth c H locs cells slots Q (F0 m pc ls rest) "java/lang/ArrayIndexOutOfBoundsException" tx) : W p l e R s m args below meth c H locs cells slots Q (F0 m pc ls (.int x :: .int i :: .ref a :: rest)) := by
  intro T hT X
  obtain ⟨t, st, q⟩ := k _ rfl T hT X
  refine ⟨t, ?_, q⟩
  have h1 := X.bastoreOut hexec (by rw [hT]; exact hP q0 _ ha) ((hK.2 t0 _ ht).1 n (fun j => .int (f j))) (j := i) (by show (i < 0 ∨ (arrV _ _ _).slots.size ≤ _); rw [arrV_size]; exact Classical.byContradiction hout) (g := F0 m pc ls (.int x :: .int i :: .ref a :: rest)) rfl (rest := rest) rfl (by rw [hb]; exact hdg) t
  simp only [arrV_size] at h1
  exact h1 st
theorem vx_zaldZ {D : va_G} {cl : List vw_C} {ws : va_W} {tys : List (ClassId × FieldType)} {a : Nat} (hexec : p.tables.exec = Jvm.exec) (hb : c.code = cc) (hK : va_K D cl tys s) (hP : va_P D cl ws H) (q0 t0 : Nat) {cA : ClassId} {n : Nat} {f : Nat → Int32} (ha : ws[q0]? = some (a, .inl (cA, n, .inl f))) (ht : tys[t0]? = some (cA, .boolean)) {i : Int32} (hout : ¬ vp_in i n) (hdg : decode cc pc = .ok (.baload, 1))
    (k : ∀ tx : String, tx = (toString "Index " ++ toString i ++ toString " out of bounds for length " ++ toString n : String) → vx_Note p l e R s m args below meth c H locs cells slots Q (F0 m pc ls rest) "java/lang/ArrayIndexOutOfBoundsException" tx) : W p l e R s m args below meth c H locs cells slots Q (F0 m pc ls (.int i :: .ref a :: rest)) := by
  intro T hT X
  obtain ⟨t, st, q⟩ := k _ rfl T hT X
  refine ⟨t, ?_, q⟩
  have h1 := X.baloadOut hexec (by rw [hT]; exact hP q0 _ ha) ((hK.2 t0 _ ht).1 n (fun j => .int (f j))) (j := i) (by show (i < 0 ∨ (arrV _ _ _).slots.size ≤ _); rw [arrV_size]; exact Classical.byContradiction hout) (g := F0 m pc ls (.int i :: .ref a :: rest)) rfl (rest := rest) rfl (by rw [hb]; exact hdg) t
  simp only [arrV_size] at h1
  exact h1 st
theorem vx_zastZ {D : va_G} {cl : List vw_C} {ws : va_W} {tys : List (ClassId × FieldType)} {a : Nat} (hexec : p.tables.exec = Jvm.exec) (hb : c.code = cc) (hK : va_K D cl tys s) (hP : va_P D cl ws H) (q0 t0 : Nat) {cA : ClassId} {n : Nat} {f : Nat → Int32} (ha : ws[q0]? = some (a, .inl (cA, n, .inl f))) (ht : tys[t0]? = some (cA, .boolean)) {i : Int32} {x : Int32} (hout : ¬ vp_in i n) (hdg : decode cc pc = .ok (.bastore, 1))
    (k : ∀ tx : String, tx = (toString "Index " ++ toString i ++ toString " out of bounds for length " ++ toString n : String) → vx_Note p l e R s m args below meth c H locs cells slots Q (F0 m pc ls rest) "java/lang/ArrayIndexOutOfBoundsException" tx) : W p l e R s m args below meth c H locs cells slots Q (F0 m pc ls (.int x :: .int i :: .ref a :: rest)) := by
  intro T hT X
  obtain ⟨t, st, q⟩ := k _ rfl T hT X
  refine ⟨t, ?_, q⟩
  have h1 := X.bastoreOut hexec (by rw [hT]; exact hP q0 _ ha) ((hK.2 t0 _ ht).1 n (fun j => .int (f j))) (j := i) (by show (i < 0 ∨ (arrV _ _ _).slots.size ≤ _); rw [arrV_size]; exact Classical.byContradiction hout) (g := F0 m pc ls (.int x :: .int i :: .ref a :: rest)) rfl (rest := rest) rfl (by rw [hb]; exact hdg) t
  simp only [arrV_size] at h1
  exact h1 st
theorem vx_caldZ {D : va_G} {cl : List vw_C} {ws : va_W} {tys : List (ClassId × FieldType)} {a : Nat} (hexec : p.tables.exec = Jvm.exec) (hb : c.code = cc) (hK : va_K D cl tys s) (hP : va_P D cl ws H) (q0 t0 : Nat) {cA : ClassId} {n : Nat} {f : Nat → Int32} (ha : ws[q0]? = some (a, .inl (cA, n, .inl f))) (ht : tys[t0]? = some (cA, .char)) {i : Int32} (hout : ¬ vp_in i n) (hdg : decode cc pc = .ok (.caload, 1))
    (k : ∀ tx : String, tx = (toString "Index " ++ toString i ++ toString " out of bounds for length " ++ toString n : String) → vx_Note p l e R s m args below meth c H locs cells slots Q (F0 m pc ls rest) "java/lang/ArrayIndexOutOfBoundsException" tx) : W p l e R s m args below meth c H locs cells slots Q (F0 m pc ls (.int i :: .ref a :: rest)) := by
  intro T hT X
  obtain ⟨t, st, q⟩ := k _ rfl T hT X
  refine ⟨t, ?_, q⟩
  have h1 := X.caloadOut hexec (by rw [hT]; exact hP q0 _ ha) ((hK.2 t0 _ ht).1 n (fun j => .int (f j))) (j := i) (by show (i < 0 ∨ (arrV _ _ _).slots.size ≤ _); rw [arrV_size]; exact Classical.byContradiction hout) (g := F0 m pc ls (.int i :: .ref a :: rest)) rfl (rest := rest) rfl (by rw [hb]; exact hdg) t
  simp only [arrV_size] at h1
  exact h1 st
theorem vx_castZ {D : va_G} {cl : List vw_C} {ws : va_W} {tys : List (ClassId × FieldType)} {a : Nat} (hexec : p.tables.exec = Jvm.exec) (hb : c.code = cc) (hK : va_K D cl tys s) (hP : va_P D cl ws H) (q0 t0 : Nat) {cA : ClassId} {n : Nat} {f : Nat → Int32} (ha : ws[q0]? = some (a, .inl (cA, n, .inl f))) (ht : tys[t0]? = some (cA, .char)) {i : Int32} {x : Int32} (hout : ¬ vp_in i n) (hdg : decode cc pc = .ok (.castore, 1))
    (k : ∀ tx : String, tx = (toString "Index " ++ toString i ++ toString " out of bounds for length " ++ toString n : String) → vx_Note p l e R s m args below meth c H locs cells slots Q (F0 m pc ls rest) "java/lang/ArrayIndexOutOfBoundsException" tx) : W p l e R s m args below meth c H locs cells slots Q (F0 m pc ls (.int x :: .int i :: .ref a :: rest)) := by
  intro T hT X
  obtain ⟨t, st, q⟩ := k _ rfl T hT X
  refine ⟨t, ?_, q⟩
  have h1 := X.castoreOut hexec (by rw [hT]; exact hP q0 _ ha) ((hK.2 t0 _ ht).1 n (fun j => .int (f j))) (j := i) (by show (i < 0 ∨ (arrV _ _ _).slots.size ≤ _); rw [arrV_size]; exact Classical.byContradiction hout) (g := F0 m pc ls (.int x :: .int i :: .ref a :: rest)) rfl (rest := rest) rfl (by rw [hb]; exact hdg) t
  simp only [arrV_size] at h1
  exact h1 st
theorem vx_saldZ {D : va_G} {cl : List vw_C} {ws : va_W} {tys : List (ClassId × FieldType)} {a : Nat} (hexec : p.tables.exec = Jvm.exec) (hb : c.code = cc) (hK : va_K D cl tys s) (hP : va_P D cl ws H) (q0 t0 : Nat) {cA : ClassId} {n : Nat} {f : Nat → Int32} (ha : ws[q0]? = some (a, .inl (cA, n, .inl f))) (ht : tys[t0]? = some (cA, .short)) {i : Int32} (hout : ¬ vp_in i n) (hdg : decode cc pc = .ok (.saload, 1))
    (k : ∀ tx : String, tx = (toString "Index " ++ toString i ++ toString " out of bounds for length " ++ toString n : String) → vx_Note p l e R s m args below meth c H locs cells slots Q (F0 m pc ls rest) "java/lang/ArrayIndexOutOfBoundsException" tx) : W p l e R s m args below meth c H locs cells slots Q (F0 m pc ls (.int i :: .ref a :: rest)) := by
  intro T hT X
  obtain ⟨t, st, q⟩ := k _ rfl T hT X
  refine ⟨t, ?_, q⟩
  have h1 := X.saloadOut hexec (by rw [hT]; exact hP q0 _ ha) ((hK.2 t0 _ ht).1 n (fun j => .int (f j))) (j := i) (by show (i < 0 ∨ (arrV _ _ _).slots.size ≤ _); rw [arrV_size]; exact Classical.byContradiction hout) (g := F0 m pc ls (.int i :: .ref a :: rest)) rfl (rest := rest) rfl (by rw [hb]; exact hdg) t
  simp only [arrV_size] at h1
  exact h1 st
theorem vx_sastZ {D : va_G} {cl : List vw_C} {ws : va_W} {tys : List (ClassId × FieldType)} {a : Nat} (hexec : p.tables.exec = Jvm.exec) (hb : c.code = cc) (hK : va_K D cl tys s) (hP : va_P D cl ws H) (q0 t0 : Nat) {cA : ClassId} {n : Nat} {f : Nat → Int32} (ha : ws[q0]? = some (a, .inl (cA, n, .inl f))) (ht : tys[t0]? = some (cA, .short)) {i : Int32} {x : Int32} (hout : ¬ vp_in i n) (hdg : decode cc pc = .ok (.sastore, 1))
    (k : ∀ tx : String, tx = (toString "Index " ++ toString i ++ toString " out of bounds for length " ++ toString n : String) → vx_Note p l e R s m args below meth c H locs cells slots Q (F0 m pc ls rest) "java/lang/ArrayIndexOutOfBoundsException" tx) : W p l e R s m args below meth c H locs cells slots Q (F0 m pc ls (.int x :: .int i :: .ref a :: rest)) := by
  intro T hT X
  obtain ⟨t, st, q⟩ := k _ rfl T hT X
  refine ⟨t, ?_, q⟩
  have h1 := X.sastoreOut hexec (by rw [hT]; exact hP q0 _ ha) ((hK.2 t0 _ ht).1 n (fun j => .int (f j))) (j := i) (by show (i < 0 ∨ (arrV _ _ _).slots.size ≤ _); rw [arrV_size]; exact Classical.byContradiction hout) (g := F0 m pc ls (.int x :: .int i :: .ref a :: rest)) rfl (rest := rest) rfl (by rw [hb]; exact hdg) t
  simp only [arrV_size] at h1
  exact h1 st
theorem vx_laldZ {D : va_G} {cl : List vw_C} {ws : va_W} {tys : List (ClassId × FieldType)} {a : Nat} (hexec : p.tables.exec = Jvm.exec) (hb : c.code = cc) (hK : va_K D cl tys s) (hP : va_P D cl ws H) (q0 t0 : Nat) {cA : ClassId} {n : Nat} {f : Nat → Int64} (ha : ws[q0]? = some (a, .inl (cA, n, .inr (.inl f)))) (ht : tys[t0]? = some (cA, .long)) {i : Int32} (hout : ¬ vp_in i n) (hdg : decode cc pc = .ok (.laload, 1))
    (k : ∀ tx : String, tx = (toString "Index " ++ toString i ++ toString " out of bounds for length " ++ toString n : String) → vx_Note p l e R s m args below meth c H locs cells slots Q (F0 m pc ls rest) "java/lang/ArrayIndexOutOfBoundsException" tx) : W p l e R s m args below meth c H locs cells slots Q (F0 m pc ls (.int i :: .ref a :: rest)) := by
  intro T hT X
  obtain ⟨t, st, q⟩ := k _ rfl T hT X
  refine ⟨t, ?_, q⟩
  have h1 := X.laloadOut hexec (by rw [hT]; exact hP q0 _ ha) ((hK.2 t0 _ ht).1 n (fun j => .long (f j))) (j := i) (by show (i < 0 ∨ (arrV _ _ _).slots.size ≤ _); rw [arrV_size]; exact Classical.byContradiction hout) (g := F0 m pc ls (.int i :: .ref a :: rest)) rfl (rest := rest) rfl (by rw [hb]; exact hdg) t
  simp only [arrV_size] at h1
  exact h1 st
theorem vx_lastZ {D : va_G} {cl : List vw_C} {ws : va_W} {tys : List (ClassId × FieldType)} {a : Nat} (hexec : p.tables.exec = Jvm.exec) (hb : c.code = cc) (hK : va_K D cl tys s) (hP : va_P D cl ws H) (q0 t0 : Nat) {cA : ClassId} {n : Nat} {f : Nat → Int64} (ha : ws[q0]? = some (a, .inl (cA, n, .inr (.inl f)))) (ht : tys[t0]? = some (cA, .long)) {i : Int32} {x : Int64} (hout : ¬ vp_in i n) (hdg : decode cc pc = .ok (.lastore, 1))
    (k : ∀ tx : String, tx = (toString "Index " ++ toString i ++ toString " out of bounds for length " ++ toString n : String) → vx_Note p l e R s m args below meth c H locs cells slots Q (F0 m pc ls rest) "java/lang/ArrayIndexOutOfBoundsException" tx) : W p l e R s m args below meth c H locs cells slots Q (F0 m pc ls (.long x :: .int i :: .ref a :: rest)) := by
  intro T hT X
  obtain ⟨t, st, q⟩ := k _ rfl T hT X
  refine ⟨t, ?_, q⟩
  have h1 := X.lastoreOut hexec (by rw [hT]; exact hP q0 _ ha) ((hK.2 t0 _ ht).1 n (fun j => .long (f j))) (j := i) (by show (i < 0 ∨ (arrV _ _ _).slots.size ≤ _); rw [arrV_size]; exact Classical.byContradiction hout) (g := F0 m pc ls (.long x :: .int i :: .ref a :: rest)) rfl (rest := rest) rfl (by rw [hb]; exact hdg) t
  simp only [arrV_size] at h1
  exact h1 st
theorem vx_faldZ {D : va_G} {cl : List vw_C} {ws : va_W} {tys : List (ClassId × FieldType)} {a : Nat} (hexec : p.tables.exec = Jvm.exec) (hb : c.code = cc) (hK : va_K D cl tys s) (hP : va_P D cl ws H) (q0 t0 : Nat) {cA : ClassId} {n : Nat} {f : Nat → UInt32} (ha : ws[q0]? = some (a, .inl (cA, n, .inr (.inr (.inl f))))) (ht : tys[t0]? = some (cA, .float)) {i : Int32} (hout : ¬ vp_in i n) (hdg : decode cc pc = .ok (.faload, 1))
    (k : ∀ tx : String, tx = (toString "Index " ++ toString i ++ toString " out of bounds for length " ++ toString n : String) → vx_Note p l e R s m args below meth c H locs cells slots Q (F0 m pc ls rest) "java/lang/ArrayIndexOutOfBoundsException" tx) : W p l e R s m args below meth c H locs cells slots Q (F0 m pc ls (.int i :: .ref a :: rest)) := by
  intro T hT X
  obtain ⟨t, st, q⟩ := k _ rfl T hT X
  refine ⟨t, ?_, q⟩
  have h1 := X.faloadOut hexec (by rw [hT]; exact hP q0 _ ha) ((hK.2 t0 _ ht).1 n (fun j => .float (f j))) (j := i) (by show (i < 0 ∨ (arrV _ _ _).slots.size ≤ _); rw [arrV_size]; exact Classical.byContradiction hout) (g := F0 m pc ls (.int i :: .ref a :: rest)) rfl (rest := rest) rfl (by rw [hb]; exact hdg) t
  simp only [arrV_size] at h1
  exact h1 st
theorem vx_fastZ {D : va_G} {cl : List vw_C} {ws : va_W} {tys : List (ClassId × FieldType)} {a : Nat} (hexec : p.tables.exec = Jvm.exec) (hb : c.code = cc) (hK : va_K D cl tys s) (hP : va_P D cl ws H) (q0 t0 : Nat) {cA : ClassId} {n : Nat} {f : Nat → UInt32} (ha : ws[q0]? = some (a, .inl (cA, n, .inr (.inr (.inl f))))) (ht : tys[t0]? = some (cA, .float)) {i : Int32} {x : UInt32} (hout : ¬ vp_in i n) (hdg : decode cc pc = .ok (.fastore, 1))
    (k : ∀ tx : String, tx = (toString "Index " ++ toString i ++ toString " out of bounds for length " ++ toString n : String) → vx_Note p l e R s m args below meth c H locs cells slots Q (F0 m pc ls rest) "java/lang/ArrayIndexOutOfBoundsException" tx) : W p l e R s m args below meth c H locs cells slots Q (F0 m pc ls (.float x :: .int i :: .ref a :: rest)) := by
  intro T hT X
  obtain ⟨t, st, q⟩ := k _ rfl T hT X
  refine ⟨t, ?_, q⟩
  have h1 := X.fastoreOut hexec (by rw [hT]; exact hP q0 _ ha) ((hK.2 t0 _ ht).1 n (fun j => .float (f j))) (j := i) (by show (i < 0 ∨ (arrV _ _ _).slots.size ≤ _); rw [arrV_size]; exact Classical.byContradiction hout) (g := F0 m pc ls (.float x :: .int i :: .ref a :: rest)) rfl (rest := rest) rfl (by rw [hb]; exact hdg) t
  simp only [arrV_size] at h1
  exact h1 st
theorem vx_daldZ {D : va_G} {cl : List vw_C} {ws : va_W} {tys : List (ClassId × FieldType)} {a : Nat} (hexec : p.tables.exec = Jvm.exec) (hb : c.code = cc) (hK : va_K D cl tys s) (hP : va_P D cl ws H) (q0 t0 : Nat) {cA : ClassId} {n : Nat} {f : Nat → UInt64} (ha : ws[q0]? = some (a, .inl (cA, n, .inr (.inr (.inr (.inl f)))))) (ht : tys[t0]? = some (cA, .double)) {i : Int32} (hout : ¬ vp_in i n) (hdg : decode cc pc = .ok (.daload, 1))
    (k : ∀ tx : String, tx = (toString "Index " ++ toString i ++ toString " out of bounds for length " ++ toString n : String) → vx_Note p l e R s m args below meth c H locs cells slots Q (F0 m pc ls rest) "java/lang/ArrayIndexOutOfBoundsException" tx) : W p l e R s m args below meth c H locs cells slots Q (F0 m pc ls (.int i :: .ref a :: rest)) := by
  intro T hT X
  obtain ⟨t, st, q⟩ := k _ rfl T hT X
  refine ⟨t, ?_, q⟩
  have h1 := X.daloadOut hexec (by rw [hT]; exact hP q0 _ ha) ((hK.2 t0 _ ht).1 n (fun j => .double (f j))) (j := i) (by show (i < 0 ∨ (arrV _ _ _).slots.size ≤ _); rw [arrV_size]; exact Classical.byContradiction hout) (g := F0 m pc ls (.int i :: .ref a :: rest)) rfl (rest := rest) rfl (by rw [hb]; exact hdg) t
  simp only [arrV_size] at h1
  exact h1 st
theorem vx_dastZ {D : va_G} {cl : List vw_C} {ws : va_W} {tys : List (ClassId × FieldType)} {a : Nat} (hexec : p.tables.exec = Jvm.exec) (hb : c.code = cc) (hK : va_K D cl tys s) (hP : va_P D cl ws H) (q0 t0 : Nat) {cA : ClassId} {n : Nat} {f : Nat → UInt64} (ha : ws[q0]? = some (a, .inl (cA, n, .inr (.inr (.inr (.inl f)))))) (ht : tys[t0]? = some (cA, .double)) {i : Int32} {x : UInt64} (hout : ¬ vp_in i n) (hdg : decode cc pc = .ok (.dastore, 1))
    (k : ∀ tx : String, tx = (toString "Index " ++ toString i ++ toString " out of bounds for length " ++ toString n : String) → vx_Note p l e R s m args below meth c H locs cells slots Q (F0 m pc ls rest) "java/lang/ArrayIndexOutOfBoundsException" tx) : W p l e R s m args below meth c H locs cells slots Q (F0 m pc ls (.double x :: .int i :: .ref a :: rest)) := by
  intro T hT X
  obtain ⟨t, st, q⟩ := k _ rfl T hT X
  refine ⟨t, ?_, q⟩
  have h1 := X.dastoreOut hexec (by rw [hT]; exact hP q0 _ ha) ((hK.2 t0 _ ht).1 n (fun j => .double (f j))) (j := i) (by show (i < 0 ∨ (arrV _ _ _).slots.size ≤ _); rw [arrV_size]; exact Classical.byContradiction hout) (g := F0 m pc ls (.double x :: .int i :: .ref a :: rest)) rfl (rest := rest) rfl (by rw [hb]; exact hdg) t
  simp only [arrV_size] at h1
  exact h1 st
theorem vx_arraylengthN (hexec : p.tables.exec = Jvm.exec) (hb : c.code = cc) (hdg : decode cc pc = .ok (.arraylength, 1)) (k : vx_NoteN p l e R s m args below meth c H locs cells slots Q (F0 m pc ls rest)) : W p l e R s m args below meth c H locs cells slots Q (F0 m pc ls (.null :: rest)) := by
  intro T hT X
  obtain ⟨t, st, q⟩ := k T hT X
  exact ⟨t, X.arraylengthNull hexec (g := F0 m pc ls (.null :: rest)) rfl (rest := rest) rfl (by rw [hb]; exact hdg) t st, q⟩
theorem vx_ialoadN (hexec : p.tables.exec = Jvm.exec) (hb : c.code = cc) {i : Int32} (hdg : decode cc pc = .ok (.iaload, 1)) (k : vx_NoteN p l e R s m args below meth c H locs cells slots Q (F0 m pc ls rest)) : W p l e R s m args below meth c H locs cells slots Q (F0 m pc ls (.int i :: .null :: rest)) := by
  intro T hT X
  obtain ⟨t, st, q⟩ := k T hT X
  exact ⟨t, X.ialoadNull hexec (g := F0 m pc ls (.int i :: .null :: rest)) rfl (rest := rest) rfl (by rw [hb]; exact hdg) t st, q⟩
theorem vx_laloadN (hexec : p.tables.exec = Jvm.exec) (hb : c.code = cc) {i : Int32} (hdg : decode cc pc = .ok (.laload, 1)) (k : vx_NoteN p l e R s m args below meth c H locs cells slots Q (F0 m pc ls rest)) : W p l e R s m args below meth c H locs cells slots Q (F0 m pc ls (.int i :: .null :: rest)) := by
  intro T hT X
  obtain ⟨t, st, q⟩ := k T hT X
  exact ⟨t, X.laloadNull hexec (g := F0 m pc ls (.int i :: .null :: rest)) rfl (rest := rest) rfl (by rw [hb]; exact hdg) t st, q⟩
theorem vx_faloadN (hexec : p.tables.exec = Jvm.exec) (hb : c.code = cc) {i : Int32} (hdg : decode cc pc = .ok (.faload, 1)) (k : vx_NoteN p l e R s m args below meth c H locs cells slots Q (F0 m pc ls rest)) : W p l e R s m args below meth c H locs cells slots Q (F0 m pc ls (.int i :: .null :: rest)) := by
  intro T hT X
  obtain ⟨t, st, q⟩ := k T hT X
  exact ⟨t, X.faloadNull hexec (g := F0 m pc ls (.int i :: .null :: rest)) rfl (rest := rest) rfl (by rw [hb]; exact hdg) t st, q⟩
theorem vx_daloadN (hexec : p.tables.exec = Jvm.exec) (hb : c.code = cc) {i : Int32} (hdg : decode cc pc = .ok (.daload, 1)) (k : vx_NoteN p l e R s m args below meth c H locs cells slots Q (F0 m pc ls rest)) : W p l e R s m args below meth c H locs cells slots Q (F0 m pc ls (.int i :: .null :: rest)) := by
  intro T hT X
  obtain ⟨t, st, q⟩ := k T hT X
  exact ⟨t, X.daloadNull hexec (g := F0 m pc ls (.int i :: .null :: rest)) rfl (rest := rest) rfl (by rw [hb]; exact hdg) t st, q⟩
theorem vx_aaloadN (hexec : p.tables.exec = Jvm.exec) (hb : c.code = cc) {i : Int32} (hdg : decode cc pc = .ok (.aaload, 1)) (k : vx_NoteN p l e R s m args below meth c H locs cells slots Q (F0 m pc ls rest)) : W p l e R s m args below meth c H locs cells slots Q (F0 m pc ls (.int i :: .null :: rest)) := by
  intro T hT X
  obtain ⟨t, st, q⟩ := k T hT X
  exact ⟨t, X.aaloadNull hexec (g := F0 m pc ls (.int i :: .null :: rest)) rfl (rest := rest) rfl (by rw [hb]; exact hdg) t st, q⟩
theorem vx_baloadN (hexec : p.tables.exec = Jvm.exec) (hb : c.code = cc) {i : Int32} (hdg : decode cc pc = .ok (.baload, 1)) (k : vx_NoteN p l e R s m args below meth c H locs cells slots Q (F0 m pc ls rest)) : W p l e R s m args below meth c H locs cells slots Q (F0 m pc ls (.int i :: .null :: rest)) := by
  intro T hT X
  obtain ⟨t, st, q⟩ := k T hT X
  exact ⟨t, X.baloadNull hexec (g := F0 m pc ls (.int i :: .null :: rest)) rfl (rest := rest) rfl (by rw [hb]; exact hdg) t st, q⟩
theorem vx_caloadN (hexec : p.tables.exec = Jvm.exec) (hb : c.code = cc) {i : Int32} (hdg : decode cc pc = .ok (.caload, 1)) (k : vx_NoteN p l e R s m args below meth c H locs cells slots Q (F0 m pc ls rest)) : W p l e R s m args below meth c H locs cells slots Q (F0 m pc ls (.int i :: .null :: rest)) := by
  intro T hT X
  obtain ⟨t, st, q⟩ := k T hT X
  exact ⟨t, X.caloadNull hexec (g := F0 m pc ls (.int i :: .null :: rest)) rfl (rest := rest) rfl (by rw [hb]; exact hdg) t st, q⟩
theorem vx_saloadN (hexec : p.tables.exec = Jvm.exec) (hb : c.code = cc) {i : Int32} (hdg : decode cc pc = .ok (.saload, 1)) (k : vx_NoteN p l e R s m args below meth c H locs cells slots Q (F0 m pc ls rest)) : W p l e R s m args below meth c H locs cells slots Q (F0 m pc ls (.int i :: .null :: rest)) := by
  intro T hT X
  obtain ⟨t, st, q⟩ := k T hT X
  exact ⟨t, X.saloadNull hexec (g := F0 m pc ls (.int i :: .null :: rest)) rfl (rest := rest) rfl (by rw [hb]; exact hdg) t st, q⟩
theorem vx_iastoreN (hexec : p.tables.exec = Jvm.exec) (hb : c.code = cc) {x : Int32} {i : Int32} (hdg : decode cc pc = .ok (.iastore, 1)) (k : vx_NoteN p l e R s m args below meth c H locs cells slots Q (F0 m pc ls rest)) : W p l e R s m args below meth c H locs cells slots Q (F0 m pc ls (.int x :: .int i :: .null :: rest)) := by
  intro T hT X
  obtain ⟨t, st, q⟩ := k T hT X
  exact ⟨t, X.iastoreNull hexec (g := F0 m pc ls (.int x :: .int i :: .null :: rest)) rfl (rest := rest) rfl (by rw [hb]; exact hdg) t st, q⟩
theorem vx_lastoreN (hexec : p.tables.exec = Jvm.exec) (hb : c.code = cc) {x : Int64} {i : Int32} (hdg : decode cc pc = .ok (.lastore, 1)) (k : vx_NoteN p l e R s m args below meth c H locs cells slots Q (F0 m pc ls rest)) : W p l e R s m args below meth c H locs cells slots Q (F0 m pc ls (.long x :: .int i :: .null :: rest)) := by
  intro T hT X
  obtain ⟨t, st, q⟩ := k T hT X
  exact ⟨t, X.lastoreNull hexec (g := F0 m pc ls (.long x :: .int i :: .null :: rest)) rfl (rest := rest) rfl (by rw [hb]; exact hdg) t st, q⟩
theorem vx_fastoreN (hexec : p.tables.exec = Jvm.exec) (hb : c.code = cc) {x : UInt32} {i : Int32} (hdg : decode cc pc = .ok (.fastore, 1)) (k : vx_NoteN p l e R s m args below meth c H locs cells slots Q (F0 m pc ls rest)) : W p l e R s m args below meth c H locs cells slots Q (F0 m pc ls (.float x :: .int i :: .null :: rest)) := by
  intro T hT X
  obtain ⟨t, st, q⟩ := k T hT X
  exact ⟨t, X.fastoreNull hexec (g := F0 m pc ls (.float x :: .int i :: .null :: rest)) rfl (rest := rest) rfl (by rw [hb]; exact hdg) t st, q⟩
theorem vx_dastoreN (hexec : p.tables.exec = Jvm.exec) (hb : c.code = cc) {x : UInt64} {i : Int32} (hdg : decode cc pc = .ok (.dastore, 1)) (k : vx_NoteN p l e R s m args below meth c H locs cells slots Q (F0 m pc ls rest)) : W p l e R s m args below meth c H locs cells slots Q (F0 m pc ls (.double x :: .int i :: .null :: rest)) := by
  intro T hT X
  obtain ⟨t, st, q⟩ := k T hT X
  exact ⟨t, X.dastoreNull hexec (g := F0 m pc ls (.double x :: .int i :: .null :: rest)) rfl (rest := rest) rfl (by rw [hb]; exact hdg) t st, q⟩
theorem vx_bastoreN (hexec : p.tables.exec = Jvm.exec) (hb : c.code = cc) {x : Int32} {i : Int32} (hdg : decode cc pc = .ok (.bastore, 1)) (k : vx_NoteN p l e R s m args below meth c H locs cells slots Q (F0 m pc ls rest)) : W p l e R s m args below meth c H locs cells slots Q (F0 m pc ls (.int x :: .int i :: .null :: rest)) := by
  intro T hT X
  obtain ⟨t, st, q⟩ := k T hT X
  exact ⟨t, X.bastoreNull hexec (g := F0 m pc ls (.int x :: .int i :: .null :: rest)) rfl (rest := rest) rfl (by rw [hb]; exact hdg) t st, q⟩
theorem vx_castoreN (hexec : p.tables.exec = Jvm.exec) (hb : c.code = cc) {x : Int32} {i : Int32} (hdg : decode cc pc = .ok (.castore, 1)) (k : vx_NoteN p l e R s m args below meth c H locs cells slots Q (F0 m pc ls rest)) : W p l e R s m args below meth c H locs cells slots Q (F0 m pc ls (.int x :: .int i :: .null :: rest)) := by
  intro T hT X
  obtain ⟨t, st, q⟩ := k T hT X
  exact ⟨t, X.castoreNull hexec (g := F0 m pc ls (.int x :: .int i :: .null :: rest)) rfl (rest := rest) rfl (by rw [hb]; exact hdg) t st, q⟩
theorem vx_sastoreN (hexec : p.tables.exec = Jvm.exec) (hb : c.code = cc) {x : Int32} {i : Int32} (hdg : decode cc pc = .ok (.sastore, 1)) (k : vx_NoteN p l e R s m args below meth c H locs cells slots Q (F0 m pc ls rest)) : W p l e R s m args below meth c H locs cells slots Q (F0 m pc ls (.int x :: .int i :: .null :: rest)) := by
  intro T hT X
  obtain ⟨t, st, q⟩ := k T hT X
  exact ⟨t, X.sastoreNull hexec (g := F0 m pc ls (.int x :: .int i :: .null :: rest)) rfl (rest := rest) rfl (by rw [hb]; exact hdg) t st, q⟩
theorem vx_invokeN {own C : String} {index maxL : Nat} {y : MethodName} {bytes : ByteArray} {ret : Option FieldType} (hexec : p.tables.exec = Jvm.exec) (hb : c.code = cc) (hown : s.vm.findClass own = some m.cls) (hlink : (Cond.methodLink own index y).before args s = true) (hinst : (Cond.instanceMethod y).before args s = true) (hcode : (Cond.code y bytes maxL ret).before args s = true) (hsel : (Cond.selects C y y).before args s = true)
    (hx : y.cls ≠ "java/lang/invoke/MethodHandle" ∧ y.cls ≠ "java/lang/invoke/VarHandle") {As : List Value} (hlen : (parseMethodDescriptor y.desc).map (fun d => d.parameters.length) = some As.length) (hdg : decode cc pc = .ok (.invokevirtual index, 3))
    (k : vx_NoteN p l e R s m args below meth c H locs cells slots Q (F0 m pc ls rest)) {st0 : List Value} (hst : st0 = As.reverse ++ .null :: rest) : W p l e R s m args below meth c H locs cells slots Q (F0 m pc ls st0) := by
  intro T hT X
  obtain ⟨r0, r, hn, hrm, hstR, hsigR⟩ := va_Decl.of hinst hcode
  obtain ⟨c2, r2, m2, q1, q2, q3, q4, kP, hkP, hkPi⟩ := Cond.selects_spec hsel
  cases hn.symm.trans q3
  have hl9 : As.length = r.sig.parameters.length := by
    rw [hsigR] at hlen
    exact (Option.some.inj hlen).symm
  obtain ⟨vm', X1, st1⟩ := X.invokevirtualNull hexec hown hlink hn hrm hstR hkP hkPi hx (g := F0 m pc ls st0) rfl (argsL := As) (rest := rest) hl9 hst (by rw [hb]; exact hdg)
  obtain ⟨t, st, q⟩ := k (T.setVm vm') hT X1
  exact ⟨t, st1 t st, q⟩
theorem vx_newarrayZ {atype : ArrayType} (hexec : p.tables.exec = Jvm.exec) (hb : c.code = cc) {n : Int32} (h0 : n < 0) (hdg : decode cc pc = .ok (.newarray atype, 2)) (k : ∀ tx : String, tx = toString n → vx_Note p l e R s m args below meth c H locs cells slots Q (F0 m pc ls rest) "java/lang/NegativeArraySizeException" tx) : W p l e R s m args below meth c H locs cells slots Q (F0 m pc ls (.int n :: rest)) := by
  intro T hT X
  obtain ⟨t, st, q⟩ := k _ rfl T hT X
  exact ⟨t, X.newarrayNegative hexec (g := F0 m pc ls (.int n :: rest)) rfl h0 (rest := rest) rfl (by rw [hb]; exact hdg) t st, q⟩
end
end VXM
/-! ===== END ===== -/
end
section

/-! ===== BEGIN printed: names, fields, word lists, decode rows ===== -/
def RX0 : String := "GlidingContest$Air"
def TX0 : u_T := fun k => match k with
  | 0 => ("GlidingContest$Air", "thermalX", "[I", true)
  | 1 => ("GlidingContest$Air", "thermalY", "[I", true)
  | 2 => ("GlidingContest$Air", "strengths", "[I", true)
  | 3 => ("GlidingContest$Air", "thermals", "I", false)
  | _ => ("GlidingContest$Air", "base", "I", false)
def tyX0 : Nat → FieldType := fun k => match k with
  | 0 => .array .int
  | 1 => .array .int
  | 2 => .array .int
  | 3 => .int
  | _ => .int
abbrev wsX00 : List Cond := u_ws RX0 TX0 5
theorem nmX0 : ∀ a, a < 5 → ∀ b, b < 5 → a ≠ b → (TX0 a).2.1 ≠ (TX0 b).2.1 := by decide +kernel
theorem tyX0_ok : ∀ k, k < 5 → parseFieldDescriptor (TX0 k).2.2.1 = some (tyX0 k) := by decide +kernel
abbrev cX0_init : ByteArray := prog_2_method_1_code
def yX0_init : MethodName := ⟨RX0, "<init>", "()V"⟩
abbrev cX0_copyFrom : ByteArray := prog_2_method_2_code
def yX0_copyFrom : MethodName := ⟨RX0, "copyFrom", "(LGlidingContest$Air;)V"⟩
abbrev cX0_putThermal : ByteArray := prog_2_method_3_code
def yX0_putThermal : MethodName := ⟨RX0, "putThermal", "(III)I"⟩
abbrev cX0_strongestAt : ByteArray := prog_2_method_4_code
def yX0_strongestAt : MethodName := ⟨RX0, "strongestAt", "(II)I"⟩
def RX1 : String := "GlidingContest$Areas"
def TX1 : u_T := fun k => match k with
  | 0 => ("GlidingContest$Areas", "west", "[I", true)
  | 1 => ("GlidingContest$Areas", "south", "[I", true)
  | 2 => ("GlidingContest$Areas", "east", "[I", true)
  | 3 => ("GlidingContest$Areas", "north", "[I", true)
  | 4 => ("GlidingContest$Areas", "count", "I", false)
  | 5 => ("GlidingContest$Areas", "rangeWest", "[I", true)
  | _ => ("GlidingContest$Areas", "rangeEast", "[I", true)
def tyX1 : Nat → FieldType := fun k => match k with
  | 0 => .array .int
  | 1 => .array .int
  | 2 => .array .int
  | 3 => .array .int
  | 4 => .int
  | 5 => .array .int
  | _ => .array .int
abbrev wsX10 : List Cond := u_ws RX1 TX1 7
theorem nmX1 : ∀ a, a < 7 → ∀ b, b < 7 → a ≠ b → (TX1 a).2.1 ≠ (TX1 b).2.1 := by decide +kernel
theorem tyX1_ok : ∀ k, k < 7 → parseFieldDescriptor (TX1 k).2.2.1 = some (tyX1 k) := by decide +kernel
abbrev cX1_init : ByteArray := prog_3_method_1_code
def yX1_init : MethodName := ⟨RX1, "<init>", "()V"⟩
abbrev cX1_copyFrom : ByteArray := prog_3_method_2_code
def yX1_copyFrom : MethodName := ⟨RX1, "copyFrom", "(LGlidingContest$Areas;)V"⟩
abbrev cX1_putArea : ByteArray := prog_3_method_3_code
def yX1_putArea : MethodName := ⟨RX1, "putArea", "(IIII)I"⟩
abbrev cX1_covers : ByteArray := prog_3_method_4_code
def yX1_covers : MethodName := ⟨RX1, "covers", "(II)Z"⟩
abbrev cX1_countByPositions : ByteArray := prog_3_method_5_code
def yX1_countByPositions : MethodName := ⟨RX1, "countByPositions", "(I)I"⟩
abbrev cX1_countByRanges : ByteArray := prog_3_method_6_code
def yX1_countByRanges : MethodName := ⟨RX1, "countByRanges", "(I)I"⟩
abbrev cX1_sortRanges : ByteArray := prog_3_method_7_code
def yX1_sortRanges : MethodName := ⟨RX1, "sortRanges", "(I)I"⟩
abbrev cX1_insertRange : ByteArray := prog_3_method_8_code
def yX1_insertRange : MethodName := ⟨RX1, "insertRange", "(III)V"⟩
def RX2 : String := "GlidingContest$Course"
def TX2 : u_T := fun k => match k with
  | 0 => ("GlidingContest$Course", "pointX", "[I", true)
  | 1 => ("GlidingContest$Course", "pointY", "[I", true)
  | 2 => ("GlidingContest$Course", "points", "I", false)
  | 3 => ("GlidingContest$Course", "stops", "[I", true)
  | 4 => ("GlidingContest$Course", "legs", "[I", true)
  | _ => ("GlidingContest$Course", "length", "I", false)
def tyX2 : Nat → FieldType := fun k => match k with
  | 0 => .array .int
  | 1 => .array .int
  | 2 => .int
  | 3 => .array .int
  | 4 => .array .int
  | _ => .int
abbrev wsX20 : List Cond := u_ws RX2 TX2 6
theorem nmX2 : ∀ a, a < 6 → ∀ b, b < 6 → a ≠ b → (TX2 a).2.1 ≠ (TX2 b).2.1 := by decide +kernel
theorem tyX2_ok : ∀ k, k < 6 → parseFieldDescriptor (TX2 k).2.2.1 = some (tyX2 k) := by decide +kernel
abbrev cX2_init : ByteArray := prog_4_method_1_code
def yX2_init : MethodName := ⟨RX2, "<init>", "()V"⟩
abbrev cX2_copyFrom : ByteArray := prog_4_method_2_code
def yX2_copyFrom : MethodName := ⟨RX2, "copyFrom", "(LGlidingContest$Course;)V"⟩
abbrev cX2_hasPoint : ByteArray := prog_4_method_3_code
def yX2_hasPoint : MethodName := ⟨RX2, "hasPoint", "(I)Z"⟩
abbrev cX2_hasStop : ByteArray := prog_4_method_4_code
def yX2_hasStop : MethodName := ⟨RX2, "hasStop", "(I)Z"⟩
abbrev cX2_putPoint : ByteArray := prog_4_method_5_code
def yX2_putPoint : MethodName := ⟨RX2, "putPoint", "(II)I"⟩
abbrev cX2_putStop : ByteArray := prog_4_method_6_code
def yX2_putStop : MethodName := ⟨RX2, "putStop", "(I)I"⟩
abbrev cX2_dropStops : ByteArray := prog_4_method_7_code
def yX2_dropStops : MethodName := ⟨RX2, "dropStops", "()I"⟩
abbrev cX2_span : ByteArray := prog_4_method_8_code
def yX2_span : MethodName := ⟨RX2, "span", "(II)I"⟩
abbrev cX2_spanTo : ByteArray := prog_4_method_9_code
def yX2_spanTo : MethodName := ⟨RX2, "spanTo", "(III)I"⟩
abbrev cX2_spanToStop : ByteArray := prog_4_method_10_code
def yX2_spanToStop : MethodName := ⟨RX2, "spanToStop", "(III)I"⟩
abbrev cX2_endsAtPositionOf : ByteArray := prog_4_method_11_code
def yX2_endsAtPositionOf : MethodName := ⟨RX2, "endsAtPositionOf", "(I)Z"⟩
abbrev cX2_isStopAt : ByteArray := prog_4_method_12_code
def yX2_isStopAt : MethodName := ⟨RX2, "isStopAt", "(III)Z"⟩
abbrev cX2_sumOfLegs : ByteArray := prog_4_method_13_code
def yX2_sumOfLegs : MethodName := ⟨RX2, "sumOfLegs", "(II)I"⟩
abbrev cX2_wholeDistance : ByteArray := prog_4_method_14_code
def yX2_wholeDistance : MethodName := ⟨RX2, "wholeDistance", "()I"⟩
abbrev cX2_directionTo : ByteArray := prog_4_method_15_code
def yX2_directionTo : MethodName := ⟨RX2, "directionTo", "(III)I"⟩
def RX3 : String := "GlidingContest$Glider"
def TX3 : u_T := fun k => match k with
  | 0 => ("GlidingContest$Glider", "ratio", "I", false)
  | 1 => ("GlidingContest$Glider", "phase", "LGlidingContest$Phase;", false)
  | 2 => ("GlidingContest$Glider", "x", "I", false)
  | 3 => ("GlidingContest$Glider", "y", "I", false)
  | 4 => ("GlidingContest$Glider", "height", "I", false)
  | 5 => ("GlidingContest$Glider", "minutes", "I", false)
  | 6 => ("GlidingContest$Glider", "penalty", "I", false)
  | 7 => ("GlidingContest$Glider", "reached", "I", false)
  | _ => ("GlidingContest$Glider", "total", "J", false)
def tyX3 : Nat → FieldType := fun k => match k with
  | 0 => .int
  | 1 => .object "GlidingContest$Phase"
  | 2 => .int
  | 3 => .int
  | 4 => .int
  | 5 => .int
  | 6 => .int
  | 7 => .int
  | _ => .long
abbrev wsX30 : List Cond := u_ws RX3 TX3 9
theorem nmX3 : ∀ a, a < 9 → ∀ b, b < 9 → a ≠ b → (TX3 a).2.1 ≠ (TX3 b).2.1 := by decide +kernel
theorem tyX3_ok : ∀ k, k < 9 → parseFieldDescriptor (TX3 k).2.2.1 = some (tyX3 k) := by decide +kernel
abbrev cX3_init : ByteArray := prog_5_method_1_code
def yX3_init : MethodName := ⟨RX3, "<init>", "()V"⟩
abbrev cX3_copyFrom : ByteArray := prog_5_method_2_code
def yX3_copyFrom : MethodName := ⟨RX3, "copyFrom", "(LGlidingContest$Glider;)V"⟩
abbrev cX3_enter : ByteArray := prog_5_method_3_code
def yX3_enter : MethodName := ⟨RX3, "enter", "(I)V"⟩
abbrev cX3_rest : ByteArray := prog_5_method_4_code
def yX3_rest : MethodName := ⟨RX3, "rest", "()V"⟩
abbrev cX3_takeOff : ByteArray := prog_5_method_5_code
def yX3_takeOff : MethodName := ⟨RX3, "takeOff", "(II)V"⟩
abbrev cX3_sinkRate : ByteArray := prog_5_method_6_code
def yX3_sinkRate : MethodName := ⟨RX3, "sinkRate", "()I"⟩
abbrev cX3_move : ByteArray := prog_5_method_7_code
def yX3_move : MethodName := ⟨RX3, "move", "(I)V"⟩
abbrev cX3_rise : ByteArray := prog_5_method_8_code
def yX3_rise : MethodName := ⟨RX3, "rise", "(III)V"⟩
abbrev cX3_phaseSign : ByteArray := prog_5_method_9_code
def yX3_phaseSign : MethodName := ⟨RX3, "phaseSign", "()C"⟩
def RX4 : String := "GlidingContest$History"
def TX4 : u_T := fun k => match k with
  | 0 => ("GlidingContest$History", "rows", "[LGlidingContest$State;", true)
  | _ => ("GlidingContest$History", "count", "I", false)
def tyX4 : Nat → FieldType := fun k => match k with
  | 0 => .array (.object "GlidingContest$State")
  | _ => .int
abbrev wsX40 : List Cond := u_ws RX4 TX4 2
theorem nmX4 : ∀ a, a < 2 → ∀ b, b < 2 → a ≠ b → (TX4 a).2.1 ≠ (TX4 b).2.1 := by decide +kernel
theorem tyX4_ok : ∀ k, k < 2 → parseFieldDescriptor (TX4 k).2.2.1 = some (tyX4 k) := by decide +kernel
abbrev cX4_init : ByteArray := prog_6_method_1_code
def yX4_init : MethodName := ⟨RX4, "<init>", "()V"⟩
abbrev cX4_keep : ByteArray := prog_6_method_2_code
def yX4_keep : MethodName := ⟨RX4, "keep", "(LGlidingContest$State;)V"⟩
abbrev cX4_dropOldest : ByteArray := prog_6_method_3_code
def yX4_dropOldest : MethodName := ⟨RX4, "dropOldest", "()V"⟩
abbrev cX4_takeBack : ByteArray := prog_6_method_4_code
def yX4_takeBack : MethodName := ⟨RX4, "takeBack", "(LGlidingContest$State;)V"⟩
def RX5 : String := "GlidingContest$Phase"
def TX5 : u_T := fun k => match k with
  | _ => ("", "", "", false)
def tyX5 : Nat → FieldType := fun k => match k with
  | _ => .int
abbrev wsX50 : List Cond := u_ws RX5 TX5 0
theorem nmX5 : ∀ a, a < 0 → ∀ b, b < 0 → a ≠ b → (TX5 a).2.1 ≠ (TX5 b).2.1 := by decide +kernel
theorem tyX5_ok : ∀ k, k < 0 → parseFieldDescriptor (TX5 k).2.2.1 = some (tyX5 k) := by decide +kernel
def RX6 : String := "GlidingContest$Refusal"
def TX6 : u_T := fun k => match k with
  | _ => ("", "", "", false)
def tyX6 : Nat → FieldType := fun k => match k with
  | _ => .int
abbrev wsX60 : List Cond := u_ws RX6 TX6 0
theorem nmX6 : ∀ a, a < 0 → ∀ b, b < 0 → a ≠ b → (TX6 a).2.1 ≠ (TX6 b).2.1 := by decide +kernel
theorem tyX6_ok : ∀ k, k < 0 → parseFieldDescriptor (TX6 k).2.2.1 = some (tyX6 k) := by decide +kernel
def RX7 : String := "GlidingContest$Script"
def TX7 : u_T := fun k => match k with
  | 0 => ("GlidingContest$Script", "text", "[C", true)
  | 1 => ("GlidingContest$Script", "length", "I", false)
  | 2 => ("GlidingContest$Script", "kinds", "[I", true)
  | 3 => ("GlidingContest$Script", "numbers", "[[I", true)
  | 4 => ("GlidingContest$Script", "commands", "I", false)
  | _ => ("GlidingContest$Script", "stop", "I", false)
def tyX7 : Nat → FieldType := fun k => match k with
  | 0 => .array .char
  | 1 => .int
  | 2 => .array .int
  | 3 => .array (.array .int)
  | 4 => .int
  | _ => .int
abbrev wsX70 : List Cond := u_ws RX7 TX7 6
theorem nmX7 : ∀ a, a < 6 → ∀ b, b < 6 → a ≠ b → (TX7 a).2.1 ≠ (TX7 b).2.1 := by decide +kernel
theorem tyX7_ok : ∀ k, k < 6 → parseFieldDescriptor (TX7 k).2.2.1 = some (tyX7 k) := by decide +kernel
abbrev cX7_init : ByteArray := prog_9_method_1_code
def yX7_init : MethodName := ⟨RX7, "<init>", "()V"⟩
abbrev cX7_hasRoom : ByteArray := prog_9_method_2_code
def yX7_hasRoom : MethodName := ⟨RX7, "hasRoom", "()Z"⟩
abbrev cX7_add : ByteArray := prog_9_method_3_code
def yX7_add : MethodName := ⟨RX7, "add", "(C)I"⟩
abbrev cX7_findError : ByteArray := prog_9_method_4_code
def yX7_findError : MethodName := ⟨RX7, "findError", "()I"⟩
abbrev cX7_readCommand : ByteArray := prog_9_method_5_code
def yX7_readCommand : MethodName := ⟨RX7, "readCommand", "(I)Z"⟩
abbrev cX7_formOf : ByteArray := prog_9_method_6_code
def yX7_formOf : MethodName := ⟨RX7, "formOf", "(I)Ljava/lang/String;"⟩
abbrev cX7_fits : ByteArray := prog_9_method_7_code
def yX7_fits : MethodName := ⟨RX7, "fits", "(Ljava/lang/String;I)Z"⟩
abbrev cX7_isSlot : ByteArray := prog_9_method_8_code
def yX7_isSlot : MethodName := ⟨RX7, "isSlot", "(C)Z"⟩
abbrev cX7_widthOf : ByteArray := prog_9_method_9_code
def yX7_widthOf : MethodName := ⟨RX7, "widthOf", "(CI)I"⟩
abbrev cX7_valueOf : ByteArray := prog_9_method_10_code
def yX7_valueOf : MethodName := ⟨RX7, "valueOf", "(CII)I"⟩
abbrev cX7_isDigitAt : ByteArray := prog_9_method_11_code
def yX7_isDigitAt : MethodName := ⟨RX7, "isDigitAt", "(I)Z"⟩
abbrev cX7_digitAt : ByteArray := prog_9_method_12_code
def yX7_digitAt : MethodName := ⟨RX7, "digitAt", "(I)I"⟩
abbrev cX7_wayAt : ByteArray := prog_9_method_13_code
def yX7_wayAt : MethodName := ⟨RX7, "wayAt", "(I)I"⟩
abbrev cX7_putNumber : ByteArray := prog_9_method_14_code
def yX7_putNumber : MethodName := ⟨RX7, "putNumber", "(II)V"⟩
def RX8 : String := "GlidingContest$State"
def TX8 : u_T := fun k => match k with
  | 0 => ("GlidingContest$State", "course", "LGlidingContest$Course;", true)
  | 1 => ("GlidingContest$State", "air", "LGlidingContest$Air;", true)
  | 2 => ("GlidingContest$State", "areas", "LGlidingContest$Areas;", true)
  | 3 => ("GlidingContest$State", "gliders", "[LGlidingContest$Glider;", true)
  | 4 => ("GlidingContest$State", "pilots", "I", false)
  | 5 => ("GlidingContest$State", "endedDays", "I", false)
  | 6 => ("GlidingContest$State", "standings", "[J", true)
  | _ => ("GlidingContest$State", "scout", "LGlidingContest$Glider;", true)
def tyX8 : Nat → FieldType := fun k => match k with
  | 0 => .object "GlidingContest$Course"
  | 1 => .object "GlidingContest$Air"
  | 2 => .object "GlidingContest$Areas"
  | 3 => .array (.object "GlidingContest$Glider")
  | 4 => .int
  | 5 => .int
  | 6 => .array .long
  | _ => .object "GlidingContest$Glider"
abbrev wsX80 : List Cond := u_ws RX8 TX8 8
theorem nmX8 : ∀ a, a < 8 → ∀ b, b < 8 → a ≠ b → (TX8 a).2.1 ≠ (TX8 b).2.1 := by decide +kernel
theorem tyX8_ok : ∀ k, k < 8 → parseFieldDescriptor (TX8 k).2.2.1 = some (tyX8 k) := by decide +kernel
abbrev cX8_init : ByteArray := prog_10_method_1_code
def yX8_init : MethodName := ⟨RX8, "<init>", "()V"⟩
abbrev cX8_copyFrom : ByteArray := prog_10_method_2_code
def yX8_copyFrom : MethodName := ⟨RX8, "copyFrom", "(LGlidingContest$State;)V"⟩
abbrev cX8_hasPilot : ByteArray := prog_10_method_3_code
def yX8_hasPilot : MethodName := ⟨RX8, "hasPilot", "(I)Z"⟩
abbrev cX8_countInPhase : ByteArray := prog_10_method_4_code
def yX8_countInPhase : MethodName := ⟨RX8, "countInPhase", "(LGlidingContest$Phase;)I"⟩
abbrev cX8_allWaiting : ByteArray := prog_10_method_5_code
def yX8_allWaiting : MethodName := ⟨RX8, "allWaiting", "()Z"⟩
abbrev cX8_refusalOfPoint : ByteArray := prog_10_method_6_code
def yX8_refusalOfPoint : MethodName := ⟨RX8, "refusalOfPoint", "(II)LGlidingContest$Refusal;"⟩
abbrev cX8_refusalOfStop : ByteArray := prog_10_method_7_code
def yX8_refusalOfStop : MethodName := ⟨RX8, "refusalOfStop", "(I)LGlidingContest$Refusal;"⟩
abbrev cX8_refusalOfThermal : ByteArray := prog_10_method_8_code
def yX8_refusalOfThermal : MethodName := ⟨RX8, "refusalOfThermal", "(III)LGlidingContest$Refusal;"⟩
abbrev cX8_refusalOfArea : ByteArray := prog_10_method_9_code
def yX8_refusalOfArea : MethodName := ⟨RX8, "refusalOfArea", "(IIII)LGlidingContest$Refusal;"⟩
abbrev cX8_refusalOfPilot : ByteArray := prog_10_method_10_code
def yX8_refusalOfPilot : MethodName := ⟨RX8, "refusalOfPilot", "(I)LGlidingContest$Refusal;"⟩
abbrev cX8_refusalOfLaunch : ByteArray := prog_10_method_11_code
def yX8_refusalOfLaunch : MethodName := ⟨RX8, "refusalOfLaunch", "(I)LGlidingContest$Refusal;"⟩
abbrev cX8_refusalOfFlight : ByteArray := prog_10_method_12_code
def yX8_refusalOfFlight : MethodName := ⟨RX8, "refusalOfFlight", "(III)LGlidingContest$Refusal;"⟩
abbrev cX8_refusalOfClimb : ByteArray := prog_10_method_13_code
def yX8_refusalOfClimb : MethodName := ⟨RX8, "refusalOfClimb", "(II)LGlidingContest$Refusal;"⟩
abbrev cX8_refusalOfEnd : ByteArray := prog_10_method_14_code
def yX8_refusalOfEnd : MethodName := ⟨RX8, "refusalOfEnd", "()LGlidingContest$Refusal;"⟩
abbrev cX8_putPilot : ByteArray := prog_10_method_15_code
def yX8_putPilot : MethodName := ⟨RX8, "putPilot", "(I)I"⟩
abbrev cX8_start : ByteArray := prog_10_method_16_code
def yX8_start : MethodName := ⟨RX8, "start", "(I)I"⟩
abbrev cX8_glide : ByteArray := prog_10_method_17_code
def yX8_glide : MethodName := ⟨RX8, "glide", "(III)I"⟩
abbrev cX8_glideKilometre : ByteArray := prog_10_method_18_code
def yX8_glideKilometre : MethodName := ⟨RX8, "glideKilometre", "(LGlidingContest$Glider;I)V"⟩
abbrev cX8_soar : ByteArray := prog_10_method_19_code
def yX8_soar : MethodName := ⟨RX8, "soar", "(II)I"⟩
abbrev cX8_closeDay : ByteArray := prog_10_method_20_code
def yX8_closeDay : MethodName := ⟨RX8, "closeDay", "()I"⟩
abbrev cX8_distanceLeft : ByteArray := prog_10_method_21_code
def yX8_distanceLeft : MethodName := ⟨RX8, "distanceLeft", "(LGlidingContest$Glider;)I"⟩
abbrev cX8_finishesByHeight : ByteArray := prog_10_method_22_code
def yX8_finishesByHeight : MethodName := ⟨RX8, "finishesByHeight", "(LGlidingContest$Glider;)Z"⟩
abbrev cX8_finishesInFlight : ByteArray := prog_10_method_23_code
def yX8_finishesInFlight : MethodName := ⟨RX8, "finishesInFlight", "(LGlidingContest$Glider;)Z"⟩
abbrev cX8_distanceDone : ByteArray := prog_10_method_24_code
def yX8_distanceDone : MethodName := ⟨RX8, "distanceDone", "(LGlidingContest$Glider;)I"⟩
abbrev cX8_scoreOf : ByteArray := prog_10_method_25_code
def yX8_scoreOf : MethodName := ⟨RX8, "scoreOf", "(LGlidingContest$Glider;)I"⟩
abbrev cX8_leastMinutes : ByteArray := prog_10_method_26_code
def yX8_leastMinutes : MethodName := ⟨RX8, "leastMinutes", "(I)I"⟩
abbrev cX8_rankedAt : ByteArray := prog_10_method_28_code
def yX8_rankedAt : MethodName := ⟨RX8, "rankedAt", "(I)I"⟩
abbrev cX8_countAhead : ByteArray := prog_10_method_29_code
def yX8_countAhead : MethodName := ⟨RX8, "countAhead", "(I)I"⟩
abbrev cX8_isAhead : ByteArray := prog_10_method_30_code
def yX8_isAhead : MethodName := ⟨RX8, "isAhead", "(II)Z"⟩
abbrev cX8_rowCountsAgree : ByteArray := prog_10_method_31_code
def yX8_rowCountsAgree : MethodName := ⟨RX8, "rowCountsAgree", "()Z"⟩
abbrev cX8_finishForecastsAgree : ByteArray := prog_10_method_32_code
def yX8_finishForecastsAgree : MethodName := ⟨RX8, "finishForecastsAgree", "()Z"⟩
abbrev cX8_distancesAreBounded : ByteArray := prog_10_method_33_code
def yX8_distancesAreBounded : MethodName := ⟨RX8, "distancesAreBounded", "()Z"⟩
def RX9 : String := "GlidingContest"
def TX9 : u_T := fun k => match k with
  | 0 => ("GlidingContest", "now", "LGlidingContest$State;", true)
  | 1 => ("GlidingContest", "saved", "LGlidingContest$State;", true)
  | 2 => ("GlidingContest", "beforeRun", "LGlidingContest$State;", true)
  | 3 => ("GlidingContest", "history", "LGlidingContest$History;", true)
  | 4 => ("GlidingContest", "script", "LGlidingContest$Script;", true)
  | 5 => ("GlidingContest", "line", "Ljava/lang/StringBuilder;", true)
  | 6 => ("GlidingContest", "hasSaved", "Z", false)
  | 7 => ("GlidingContest", "storedError", "I", false)
  | _ => ("GlidingContest", "storedFailure", "I", false)
def tyX9 : Nat → FieldType := fun k => match k with
  | 0 => .object "GlidingContest$State"
  | 1 => .object "GlidingContest$State"
  | 2 => .object "GlidingContest$State"
  | 3 => .object "GlidingContest$History"
  | 4 => .object "GlidingContest$Script"
  | 5 => .object "java/lang/StringBuilder"
  | 6 => .boolean
  | 7 => .int
  | _ => .int
abbrev wsX90 : List Cond := u_ws RX9 TX9 9
theorem nmX9 : ∀ a, a < 9 → ∀ b, b < 9 → a ≠ b → (TX9 a).2.1 ≠ (TX9 b).2.1 := by decide +kernel
theorem tyX9_ok : ∀ k, k < 9 → parseFieldDescriptor (TX9 k).2.2.1 = some (tyX9 k) := by decide +kernel
abbrev cX9_init : ByteArray := prog_1_method_1_code
def yX9_init : MethodName := ⟨RX9, "<init>", "()V"⟩
abbrev cX9_addPoint : ByteArray := prog_1_method_2_code
def yX9_addPoint : MethodName := ⟨RX9, "addPoint", "(II)I"⟩
abbrev cX9_addTaskPoint : ByteArray := prog_1_method_3_code
def yX9_addTaskPoint : MethodName := ⟨RX9, "addTaskPoint", "(I)I"⟩
abbrev cX9_clearTask : ByteArray := prog_1_method_4_code
def yX9_clearTask : MethodName := ⟨RX9, "clearTask", "()I"⟩
abbrev cX9_addThermal : ByteArray := prog_1_method_5_code
def yX9_addThermal : MethodName := ⟨RX9, "addThermal", "(III)I"⟩
abbrev cX9_setCloudBase : ByteArray := prog_1_method_6_code
def yX9_setCloudBase : MethodName := ⟨RX9, "setCloudBase", "(I)I"⟩
abbrev cX9_addArea : ByteArray := prog_1_method_7_code
def yX9_addArea : MethodName := ⟨RX9, "addArea", "(IIII)I"⟩
abbrev cX9_addPilot : ByteArray := prog_1_method_8_code
def yX9_addPilot : MethodName := ⟨RX9, "addPilot", "(I)I"⟩
abbrev cX9_launch : ByteArray := prog_1_method_9_code
def yX9_launch : MethodName := ⟨RX9, "launch", "(I)I"⟩
abbrev cX9_fly : ByteArray := prog_1_method_10_code
def yX9_fly : MethodName := ⟨RX9, "fly", "(III)I"⟩
abbrev cX9_climb : ByteArray := prog_1_method_11_code
def yX9_climb : MethodName := ⟨RX9, "climb", "(II)I"⟩
abbrev cX9_endDay : ByteArray := prog_1_method_12_code
def yX9_endDay : MethodName := ⟨RX9, "endDay", "()I"⟩
abbrev cX9_pointCount : ByteArray := prog_1_method_13_code
def yX9_pointCount : MethodName := ⟨RX9, "pointCount", "()I"⟩
abbrev cX9_distance : ByteArray := prog_1_method_14_code
def yX9_distance : MethodName := ⟨RX9, "distance", "(II)I"⟩
abbrev cX9_taskLength : ByteArray := prog_1_method_15_code
def yX9_taskLength : MethodName := ⟨RX9, "taskLength", "()I"⟩
abbrev cX9_taskPoint : ByteArray := prog_1_method_16_code
def yX9_taskPoint : MethodName := ⟨RX9, "taskPoint", "(I)I"⟩
abbrev cX9_taskDistance : ByteArray := prog_1_method_17_code
def yX9_taskDistance : MethodName := ⟨RX9, "taskDistance", "()I"⟩
abbrev cX9_strongestThermal : ByteArray := prog_1_method_18_code
def yX9_strongestThermal : MethodName := ⟨RX9, "strongestThermal", "(II)I"⟩
abbrev cX9_cloudBase : ByteArray := prog_1_method_19_code
def yX9_cloudBase : MethodName := ⟨RX9, "cloudBase", "()I"⟩
abbrev cX9_isRestricted : ByteArray := prog_1_method_20_code
def yX9_isRestricted : MethodName := ⟨RX9, "isRestricted", "(II)Z"⟩
abbrev cX9_restrictedInRow : ByteArray := prog_1_method_21_code
def yX9_restrictedInRow : MethodName := ⟨RX9, "restrictedInRow", "(I)I"⟩
abbrev cX9_restrictedInRowByRanges : ByteArray := prog_1_method_22_code
def yX9_restrictedInRowByRanges : MethodName := ⟨RX9, "restrictedInRowByRanges", "(I)I"⟩
abbrev cX9_pilotCount : ByteArray := prog_1_method_23_code
def yX9_pilotCount : MethodName := ⟨RX9, "pilotCount", "()I"⟩
abbrev cX9_isPlanning : ByteArray := prog_1_method_24_code
def yX9_isPlanning : MethodName := ⟨RX9, "isPlanning", "()Z"⟩
abbrev cX9_isFlying : ByteArray := prog_1_method_25_code
def yX9_isFlying : MethodName := ⟨RX9, "isFlying", "(I)Z"⟩
abbrev cX9_isLanded : ByteArray := prog_1_method_26_code
def yX9_isLanded : MethodName := ⟨RX9, "isLanded", "(I)Z"⟩
abbrev cX9_isFinished : ByteArray := prog_1_method_27_code
def yX9_isFinished : MethodName := ⟨RX9, "isFinished", "(I)Z"⟩
abbrev cX9_sink : ByteArray := prog_1_method_28_code
def yX9_sink : MethodName := ⟨RX9, "sink", "(I)I"⟩
abbrev cX9_x : ByteArray := prog_1_method_29_code
def yX9_x : MethodName := ⟨RX9, "x", "(I)I"⟩
abbrev cX9_y : ByteArray := prog_1_method_30_code
def yX9_y : MethodName := ⟨RX9, "y", "(I)I"⟩
abbrev cX9_height : ByteArray := prog_1_method_31_code
def yX9_height : MethodName := ⟨RX9, "height", "(I)I"⟩
abbrev cX9_minutes : ByteArray := prog_1_method_32_code
def yX9_minutes : MethodName := ⟨RX9, "minutes", "(I)I"⟩
abbrev cX9_penalty : ByteArray := prog_1_method_33_code
def yX9_penalty : MethodName := ⟨RX9, "penalty", "(I)I"⟩
abbrev cX9_reached : ByteArray := prog_1_method_34_code
def yX9_reached : MethodName := ⟨RX9, "reached", "(I)I"⟩
abbrev cX9_remainingDistance : ByteArray := prog_1_method_35_code
def yX9_remainingDistance : MethodName := ⟨RX9, "remainingDistance", "(I)I"⟩
abbrev cX9_canFinish : ByteArray := prog_1_method_36_code
def yX9_canFinish : MethodName := ⟨RX9, "canFinish", "(I)Z"⟩
abbrev cX9_canFinishBySimulation : ByteArray := prog_1_method_37_code
def yX9_canFinishBySimulation : MethodName := ⟨RX9, "canFinishBySimulation", "(I)Z"⟩
abbrev cX9_achievedDistance : ByteArray := prog_1_method_38_code
def yX9_achievedDistance : MethodName := ⟨RX9, "achievedDistance", "(I)I"⟩
abbrev cX9_dayScore : ByteArray := prog_1_method_39_code
def yX9_dayScore : MethodName := ⟨RX9, "dayScore", "(I)I"⟩
abbrev cX9_total : ByteArray := prog_1_method_40_code
def yX9_total : MethodName := ⟨RX9, "total", "(I)J"⟩
abbrev cX9_pilotAtRank : ByteArray := prog_1_method_41_code
def yX9_pilotAtRank : MethodName := ⟨RX9, "pilotAtRank", "(I)I"⟩
abbrev cX9_days : ByteArray := prog_1_method_42_code
def yX9_days : MethodName := ⟨RX9, "days", "()I"⟩
abbrev cX9_isConsistent : ByteArray := prog_1_method_45_code
def yX9_isConsistent : MethodName := ⟨RX9, "isConsistent", "()Z"⟩
abbrev cX9_append : ByteArray := prog_1_method_46_code
def yX9_append : MethodName := ⟨RX9, "append", "(C)I"⟩
abbrev cX9_run : ByteArray := prog_1_method_47_code
def yX9_run : MethodName := ⟨RX9, "run", "()I"⟩
abbrev cX9_writePilot : ByteArray := prog_1_method_50_code
def yX9_writePilot : MethodName := ⟨RX9, "writePilot", "(I)I"⟩
abbrev cX9_writeTask : ByteArray := prog_1_method_51_code
def yX9_writeTask : MethodName := ⟨RX9, "writeTask", "()I"⟩
abbrev cX9_undo : ByteArray := prog_1_method_53_code
def yX9_undo : MethodName := ⟨RX9, "undo", "()I"⟩
abbrev cX9_save : ByteArray := prog_1_method_54_code
def yX9_save : MethodName := ⟨RX9, "save", "()V"⟩
abbrev cX9_restore : ByteArray := prog_1_method_55_code
def yX9_restore : MethodName := ⟨RX9, "restore", "()V"⟩
abbrev cX9_refuse : ByteArray := prog_1_method_56_code
def yX9_refuse : MethodName := ⟨RX9, "refuse", "(LGlidingContest$Refusal;)V"⟩
abbrev cX9_isCoordinate : ByteArray := prog_1_method_57_code
def yX9_isCoordinate : MethodName := ⟨RX9, "isCoordinate", "(I)Z"⟩
abbrev cX9_requirePosition : ByteArray := prog_1_method_58_code
def yX9_requirePosition : MethodName := ⟨RX9, "requirePosition", "(II)V"⟩
abbrev cX9_knownPilot : ByteArray := prog_1_method_59_code
def yX9_knownPilot : MethodName := ⟨RX9, "knownPilot", "(I)LGlidingContest$Glider;"⟩
abbrev cX9_launchedPilot : ByteArray := prog_1_method_60_code
def yX9_launchedPilot : MethodName := ⟨RX9, "launchedPilot", "(I)LGlidingContest$Glider;"⟩
abbrev cX9_pilotInPhase : ByteArray := prog_1_method_61_code
def yX9_pilotInPhase : MethodName := ⟨RX9, "pilotInPhase", "(ILGlidingContest$Phase;)LGlidingContest$Glider;"⟩
abbrev cX9_writeFlight : ByteArray := prog_1_method_62_code
def yX9_writeFlight : MethodName := ⟨RX9, "writeFlight", "(LGlidingContest$Glider;)V"⟩
abbrev cX9_refusalOf : ByteArray := prog_1_method_63_code
def yX9_refusalOf : MethodName := ⟨RX9, "refusalOf", "(I)LGlidingContest$Refusal;"⟩
abbrev cX9_carryOut : ByteArray := prog_1_method_64_code
def yX9_carryOut : MethodName := ⟨RX9, "carryOut", "(I)V"⟩
abbrev cX9_quotient : ByteArray := prog_1_method_65_code
def yX9_quotient : MethodName := ⟨RX9, "quotient", "(II)I"⟩
abbrev cX9_eastward : ByteArray := prog_1_method_66_code
def yX9_eastward : MethodName := ⟨RX9, "eastward", "(I)I"⟩
abbrev cX9_northward : ByteArray := prog_1_method_67_code
def yX9_northward : MethodName := ⟨RX9, "northward", "(I)I"⟩
def RX10 : String := "GlidingContestModel"
def TX10 : u_T := fun k => match k with
  | _ => ("", "", "", false)
def tyX10 : Nat → FieldType := fun k => match k with
  | _ => .int
abbrev wsX100 : List Cond := u_ws RX10 TX10 0
theorem nmX10 : ∀ a, a < 0 → ∀ b, b < 0 → a ≠ b → (TX10 a).2.1 ≠ (TX10 b).2.1 := by decide +kernel
theorem tyX10_ok : ∀ k, k < 0 → parseFieldDescriptor (TX10 k).2.2.1 = some (tyX10 k) := by decide +kernel
def RJx145de : String := "java/io/Serializable"
def TJx145de : u_T := fun k => match k with
  | _ => ("", "", "", false)
def tyJx145de : Nat → FieldType := fun k => match k with
  | _ => .int
abbrev wsJx145de0 : List Cond := u_ws RJx145de TJx145de 0
theorem nmJx145de : ∀ a, a < 0 → ∀ b, b < 0 → a ≠ b → (TJx145de a).2.1 ≠ (TJx145de b).2.1 := by decide +kernel
theorem tyJx145de_ok : ∀ k, k < 0 → parseFieldDescriptor (TJx145de k).2.2.1 = some (tyJx145de k) := by decide +kernel
def RJ5 : String := "java/lang/AbstractStringBuilder"
def TJ5 : u_T := fun k => match k with
  | _ => ("", "", "", false)
def tyJ5 : Nat → FieldType := fun k => match k with
  | _ => .int
abbrev wsJ50 : List Cond := u_ws RJ5 TJ5 0
theorem nmJ5 : ∀ a, a < 0 → ∀ b, b < 0 → a ≠ b → (TJ5 a).2.1 ≠ (TJ5 b).2.1 := by decide +kernel
theorem tyJ5_ok : ∀ k, k < 0 → parseFieldDescriptor (TJ5 k).2.2.1 = some (tyJ5 k) := by decide +kernel
abbrev cJ5_init_d00df : ByteArray := prog_14_method_2_code
def yJ5_init_d00df : MethodName := ⟨RJ5, "<init>", "(I)V"⟩
abbrev cJ5_length_8abf5 : ByteArray := prog_14_method_6_code
def yJ5_length_8abf5 : MethodName := ⟨RJ5, "length", "()I"⟩
abbrev cJ5_ensureCapacityInternal_d00df : ByteArray := prog_14_method_9_code
def yJ5_ensureCapacityInternal_d00df : MethodName := ⟨RJ5, "ensureCapacityInternal", "(I)V"⟩
abbrev cJ5_newCapacity_0f7a4 : ByteArray := prog_14_method_10_code
def yJ5_newCapacity_0f7a4 : MethodName := ⟨RJ5, "newCapacity", "(I)I"⟩
abbrev cJ5_inflate_da8c8 : ByteArray := prog_14_method_11_code
def yJ5_inflate_da8c8 : MethodName := ⟨RJ5, "inflate", "()V"⟩
abbrev cJ5_setLength_d00df : ByteArray := prog_14_method_13_code
def yJ5_setLength_d00df : MethodName := ⟨RJ5, "setLength", "(I)V"⟩
abbrev cJ5_append_cf1ce : ByteArray := prog_14_method_22_code
def yJ5_append_cf1ce : MethodName := ⟨RJ5, "append", "(Ljava/lang/String;)Ljava/lang/AbstractStringBuilder;"⟩
abbrev cJ5_appendNull_278bc : ByteArray := prog_14_method_26_code
def yJ5_appendNull_278bc : MethodName := ⟨RJ5, "appendNull", "()Ljava/lang/AbstractStringBuilder;"⟩
abbrev cJ5_append_3fe6f : ByteArray := prog_14_method_31_code
def yJ5_append_3fe6f : MethodName := ⟨RJ5, "append", "(C)Ljava/lang/AbstractStringBuilder;"⟩
abbrev cJ5_append_c97b9 : ByteArray := prog_14_method_32_code
def yJ5_append_c97b9 : MethodName := ⟨RJ5, "append", "(I)Ljava/lang/AbstractStringBuilder;"⟩
abbrev cJ5_getValue_6d5f1 : ByteArray := prog_14_method_64_code
def yJ5_getValue_6d5f1 : MethodName := ⟨RJ5, "getValue", "()[B"⟩
abbrev cJ5_isLatin1_aae02 : ByteArray := prog_14_method_68_code
def yJ5_isLatin1_aae02 : MethodName := ⟨RJ5, "isLatin1", "()Z"⟩
abbrev cJ5_inflateIfNeededFor_a7421 : ByteArray := prog_14_method_71_code
def yJ5_inflateIfNeededFor_a7421 : MethodName := ⟨RJ5, "inflateIfNeededFor", "(Ljava/lang/String;)V"⟩
abbrev cJ5_putStringAt_47b60 : ByteArray := prog_14_method_73_code
def yJ5_putStringAt_47b60 : MethodName := ⟨RJ5, "putStringAt", "(ILjava/lang/String;)V"⟩
def RJx2cfe8 : String := "java/lang/Appendable"
def TJx2cfe8 : u_T := fun k => match k with
  | _ => ("", "", "", false)
def tyJx2cfe8 : Nat → FieldType := fun k => match k with
  | _ => .int
abbrev wsJx2cfe80 : List Cond := u_ws RJx2cfe8 TJx2cfe8 0
theorem nmJx2cfe8 : ∀ a, a < 0 → ∀ b, b < 0 → a ≠ b → (TJx2cfe8 a).2.1 ≠ (TJx2cfe8 b).2.1 := by decide +kernel
theorem tyJx2cfe8_ok : ∀ k, k < 0 → parseFieldDescriptor (TJx2cfe8 k).2.2.1 = some (tyJx2cfe8 k) := by decide +kernel
def RJx00060 : String := "java/lang/ArrayIndexOutOfBoundsException"
def TJx00060 : u_T := fun k => match k with
  | 0 => ("java/lang/Throwable", "cause", "Ljava/lang/Throwable;", false)
  | 1 => ("java/lang/Throwable", "stackTrace", "[Ljava/lang/StackTraceElement;", false)
  | 2 => ("java/lang/Throwable", "suppressedExceptions", "Ljava/util/List;", false)
  | 3 => ("java/lang/Throwable", "detailMessage", "Ljava/lang/String;", false)
  | 4 => ("java/lang/Throwable", "backtrace", "Ljava/lang/Object;", false)
  | _ => ("java/lang/Throwable", "depth", "I", false)
def tyJx00060 : Nat → FieldType := fun k => match k with
  | 0 => .object "java/lang/Throwable"
  | 1 => .array (.object "java/lang/StackTraceElement")
  | 2 => .object "java/util/List"
  | 3 => .object "java/lang/String"
  | 4 => .object "java/lang/Object"
  | _ => .int
abbrev wsJx000600 : List Cond := u_ws RJx00060 TJx00060 6
theorem nmJx00060 : ∀ a, a < 6 → ∀ b, b < 6 → a ≠ b → (TJx00060 a).2.1 ≠ (TJx00060 b).2.1 := by decide +kernel
theorem tyJx00060_ok : ∀ k, k < 6 → parseFieldDescriptor (TJx00060 k).2.2.1 = some (tyJx00060 k) := by decide +kernel
abbrev cJx00060_init_a7421 : ByteArray := prog_16_method_2_code
def yJx00060_init_a7421 : MethodName := ⟨RJx00060, "<init>", "(Ljava/lang/String;)V"⟩
abbrev cJx00060_init_d00df : ByteArray := prog_16_method_3_code
def yJx00060_init_d00df : MethodName := ⟨RJx00060, "<init>", "(I)V"⟩
def RJx9f9b0 : String := "java/lang/CharSequence"
def TJx9f9b0 : u_T := fun k => match k with
  | _ => ("", "", "", false)
def tyJx9f9b0 : Nat → FieldType := fun k => match k with
  | _ => .int
abbrev wsJx9f9b00 : List Cond := u_ws RJx9f9b0 TJx9f9b0 0
theorem nmJx9f9b0 : ∀ a, a < 0 → ∀ b, b < 0 → a ≠ b → (TJx9f9b0 a).2.1 ≠ (TJx9f9b0 b).2.1 := by decide +kernel
theorem tyJx9f9b0_ok : ∀ k, k < 0 → parseFieldDescriptor (TJx9f9b0 k).2.2.1 = some (tyJx9f9b0 k) := by decide +kernel
def RJx8e188 : String := "java/lang/Cloneable"
def TJx8e188 : u_T := fun k => match k with
  | _ => ("", "", "", false)
def tyJx8e188 : Nat → FieldType := fun k => match k with
  | _ => .int
abbrev wsJx8e1880 : List Cond := u_ws RJx8e188 TJx8e188 0
theorem nmJx8e188 : ∀ a, a < 0 → ∀ b, b < 0 → a ≠ b → (TJx8e188 a).2.1 ≠ (TJx8e188 b).2.1 := by decide +kernel
theorem tyJx8e188_ok : ∀ k, k < 0 → parseFieldDescriptor (TJx8e188 k).2.2.1 = some (tyJx8e188 k) := by decide +kernel
def RJxb160c : String := "java/lang/Comparable"
def TJxb160c : u_T := fun k => match k with
  | _ => ("", "", "", false)
def tyJxb160c : Nat → FieldType := fun k => match k with
  | _ => .int
abbrev wsJxb160c0 : List Cond := u_ws RJxb160c TJxb160c 0
theorem nmJxb160c : ∀ a, a < 0 → ∀ b, b < 0 → a ≠ b → (TJxb160c a).2.1 ≠ (TJxb160c b).2.1 := by decide +kernel
theorem tyJxb160c_ok : ∀ k, k < 0 → parseFieldDescriptor (TJxb160c k).2.2.1 = some (tyJxb160c k) := by decide +kernel
def RJx29ce0 : String := "java/lang/Enum"
def TJx29ce0 : u_T := fun k => match k with
  | _ => ("", "", "", false)
def tyJx29ce0 : Nat → FieldType := fun k => match k with
  | _ => .int
abbrev wsJx29ce00 : List Cond := u_ws RJx29ce0 TJx29ce0 0
theorem nmJx29ce0 : ∀ a, a < 0 → ∀ b, b < 0 → a ≠ b → (TJx29ce0 a).2.1 ≠ (TJx29ce0 b).2.1 := by decide +kernel
theorem tyJx29ce0_ok : ∀ k, k < 0 → parseFieldDescriptor (TJx29ce0 k).2.2.1 = some (tyJx29ce0 k) := by decide +kernel
def RJ6 : String := "java/lang/Integer"
def TJ6 : u_T := fun k => match k with
  | _ => ("", "", "", false)
def tyJ6 : Nat → FieldType := fun k => match k with
  | _ => .int
abbrev wsJ60 : List Cond := u_ws RJ6 TJ6 0
theorem nmJ6 : ∀ a, a < 0 → ∀ b, b < 0 → a ≠ b → (TJ6 a).2.1 ≠ (TJ6 b).2.1 := by decide +kernel
theorem tyJ6_ok : ∀ k, k < 0 → parseFieldDescriptor (TJ6 k).2.2.1 = some (tyJ6 k) := by decide +kernel
abbrev cJ6_getChars_ba4f3 : ByteArray := prog_25_method_12_code
def yJ6_getChars_ba4f3 : MethodName := ⟨RJ6, "getChars", "(II[B)I"⟩
abbrev cJ6_stringSize_0f7a4 : ByteArray := prog_25_method_13_code
def yJ6_stringSize_0f7a4 : MethodName := ⟨RJ6, "stringSize", "(I)I"⟩
def RJ9 : String := "java/lang/Math"
def TJ9 : u_T := fun k => match k with
  | _ => ("", "", "", false)
def tyJ9 : Nat → FieldType := fun k => match k with
  | _ => .int
abbrev wsJ90 : List Cond := u_ws RJ9 TJ9 0
theorem nmJ9 : ∀ a, a < 0 → ∀ b, b < 0 → a ≠ b → (TJ9 a).2.1 ≠ (TJ9 b).2.1 := by decide +kernel
theorem tyJ9_ok : ∀ k, k < 0 → parseFieldDescriptor (TJ9 k).2.2.1 = some (tyJ9 k) := by decide +kernel
abbrev cJ9_abs_0f7a4 : ByteArray := prog_26_method_59_code
def yJ9_abs_0f7a4 : MethodName := ⟨RJ9, "abs", "(I)I"⟩
abbrev cJ9_max_7cf53 : ByteArray := prog_26_method_65_code
def yJ9_max_7cf53 : MethodName := ⟨RJ9, "max", "(II)I"⟩
abbrev cJ9_min_7cf53 : ByteArray := prog_26_method_69_code
def yJ9_min_7cf53 : MethodName := ⟨RJ9, "min", "(II)I"⟩
def RJxd2413 : String := "java/lang/Number"
def TJxd2413 : u_T := fun k => match k with
  | _ => ("", "", "", false)
def tyJxd2413 : Nat → FieldType := fun k => match k with
  | _ => .int
abbrev wsJxd24130 : List Cond := u_ws RJxd2413 TJxd2413 0
theorem nmJxd2413 : ∀ a, a < 0 → ∀ b, b < 0 → a ≠ b → (TJxd2413 a).2.1 ≠ (TJxd2413 b).2.1 := by decide +kernel
theorem tyJxd2413_ok : ∀ k, k < 0 → parseFieldDescriptor (TJxd2413 k).2.2.1 = some (tyJxd2413 k) := by decide +kernel
def RJ0 : String := "java/lang/String"
def TJ0 : u_T := fun k => match k with
  | 0 => ("java/lang/String", "value", "[B", true)
  | 1 => ("java/lang/String", "coder", "B", true)
  | 2 => ("java/lang/String", "hash", "I", false)
  | _ => ("java/lang/String", "hashIsZero", "Z", false)
def tyJ0 : Nat → FieldType := fun k => match k with
  | 0 => .array .byte
  | 1 => .byte
  | 2 => .int
  | _ => .boolean
abbrev wsJ00 : List Cond := u_ws RJ0 TJ0 4
theorem nmJ0 : ∀ a, a < 4 → ∀ b, b < 4 → a ≠ b → (TJ0 a).2.1 ≠ (TJ0 b).2.1 := by decide +kernel
theorem tyJ0_ok : ∀ k, k < 4 → parseFieldDescriptor (TJ0 k).2.2.1 = some (tyJ0 k) := by decide +kernel
abbrev cJ0_init_81219 : ByteArray := prog_29_method_53_code
def yJ0_init_81219 : MethodName := ⟨RJ0, "<init>", "(Ljava/lang/StringBuilder;)V"⟩
abbrev cJ0_length_8abf5 : ByteArray := prog_29_method_54_code
def yJ0_length_8abf5 : MethodName := ⟨RJ0, "length", "()I"⟩
abbrev cJ0_charAt_5068e : ByteArray := prog_29_method_56_code
def yJ0_charAt_5068e : MethodName := ⟨RJ0, "charAt", "(I)C"⟩
abbrev cJ0_getBytes_840e7 : ByteArray := prog_29_method_147_code
def yJ0_getBytes_840e7 : MethodName := ⟨RJ0, "getBytes", "([BIB)V"⟩
abbrev cJ0_init_db425 : ByteArray := prog_29_method_150_code
def yJ0_init_db425 : MethodName := ⟨RJ0, "<init>", "(Ljava/lang/AbstractStringBuilder;Ljava/lang/Void;)V"⟩
abbrev cJ0_coder_7d493 : ByteArray := prog_29_method_152_code
def yJ0_coder_7d493 : MethodName := ⟨RJ0, "coder", "()B"⟩
abbrev cJ0_isLatin1_aae02 : ByteArray := prog_29_method_154_code
def yJ0_isLatin1_aae02 : MethodName := ⟨RJ0, "isLatin1", "()Z"⟩
abbrev cJ0_checkIndex_df160 : ByteArray := prog_29_method_155_code
def yJ0_checkIndex_df160 : MethodName := ⟨RJ0, "checkIndex", "(II)V"⟩
abbrev cJ0_checkBoundsOffCount_cabcc : ByteArray := prog_29_method_157_code
def yJ0_checkBoundsOffCount_cabcc : MethodName := ⟨RJ0, "checkBoundsOffCount", "(III)I"⟩
abbrev cJ0_checkBoundsBeginEnd_23922 : ByteArray := prog_29_method_158_code
def yJ0_checkBoundsBeginEnd_23922 : MethodName := ⟨RJ0, "checkBoundsBeginEnd", "(III)V"⟩
def RJ4 : String := "java/lang/StringBuilder"
def TJ4 : u_T := fun k => match k with
  | 0 => ("java/lang/AbstractStringBuilder", "value", "[B", false)
  | 1 => ("java/lang/AbstractStringBuilder", "coder", "B", false)
  | 2 => ("java/lang/AbstractStringBuilder", "maybeLatin1", "Z", false)
  | _ => ("java/lang/AbstractStringBuilder", "count", "I", false)
def tyJ4 : Nat → FieldType := fun k => match k with
  | 0 => .array .byte
  | 1 => .byte
  | 2 => .boolean
  | _ => .int
abbrev wsJ40 : List Cond := u_ws RJ4 TJ4 4
theorem nmJ4 : ∀ a, a < 4 → ∀ b, b < 4 → a ≠ b → (TJ4 a).2.1 ≠ (TJ4 b).2.1 := by decide +kernel
theorem tyJ4_ok : ∀ k, k < 4 → parseFieldDescriptor (TJ4 k).2.2.1 = some (tyJ4 k) := by decide +kernel
abbrev cJ4_init_da8c8 : ByteArray := prog_30_method_1_code
def yJ4_init_da8c8 : MethodName := ⟨RJ4, "<init>", "()V"⟩
abbrev cJ4_append_15ec4 : ByteArray := prog_30_method_7_code
def yJ4_append_15ec4 : MethodName := ⟨RJ4, "append", "(Ljava/lang/String;)Ljava/lang/StringBuilder;"⟩
abbrev cJ4_append_cf468 : ByteArray := prog_30_method_14_code
def yJ4_append_cf468 : MethodName := ⟨RJ4, "append", "(C)Ljava/lang/StringBuilder;"⟩
abbrev cJ4_append_bf812 : ByteArray := prog_30_method_15_code
def yJ4_append_bf812 : MethodName := ⟨RJ4, "append", "(I)Ljava/lang/StringBuilder;"⟩
abbrev cJ4_toString_0e30d : ByteArray := prog_30_method_42_code
def yJ4_toString_0e30d : MethodName := ⟨RJ4, "toString", "()Ljava/lang/String;"⟩
abbrev cJ4_setLength_d00df : ByteArray := prog_30_method_89_code
def yJ4_setLength_d00df : MethodName := ⟨RJ4, "setLength", "(I)V"⟩
abbrev cJ4_length_8abf5 : ByteArray := prog_30_method_93_code
def yJ4_length_8abf5 : MethodName := ⟨RJ4, "length", "()I"⟩
def RJx7c733 : String := "java/lang/StringIndexOutOfBoundsException"
def TJx7c733 : u_T := fun k => match k with
  | 0 => ("java/lang/Throwable", "backtrace", "Ljava/lang/Object;", false)
  | 1 => ("java/lang/Throwable", "detailMessage", "Ljava/lang/String;", false)
  | 2 => ("java/lang/Throwable", "cause", "Ljava/lang/Throwable;", false)
  | 3 => ("java/lang/Throwable", "stackTrace", "[Ljava/lang/StackTraceElement;", false)
  | 4 => ("java/lang/Throwable", "depth", "I", false)
  | _ => ("java/lang/Throwable", "suppressedExceptions", "Ljava/util/List;", false)
def tyJx7c733 : Nat → FieldType := fun k => match k with
  | 0 => .object "java/lang/Object"
  | 1 => .object "java/lang/String"
  | 2 => .object "java/lang/Throwable"
  | 3 => .array (.object "java/lang/StackTraceElement")
  | 4 => .int
  | _ => .object "java/util/List"
abbrev wsJx7c7330 : List Cond := u_ws RJx7c733 TJx7c733 6
theorem nmJx7c733 : ∀ a, a < 6 → ∀ b, b < 6 → a ≠ b → (TJx7c733 a).2.1 ≠ (TJx7c733 b).2.1 := by decide +kernel
theorem tyJx7c733_ok : ∀ k, k < 6 → parseFieldDescriptor (TJx7c733 k).2.2.1 = some (tyJx7c733 k) := by decide +kernel
abbrev cJx7c733_init_d00df : ByteArray := prog_31_method_3_code
def yJx7c733_init_d00df : MethodName := ⟨RJx7c733, "<init>", "(I)V"⟩
def RJ1 : String := "java/lang/StringLatin1"
def TJ1 : u_T := fun k => match k with
  | _ => ("", "", "", false)
def tyJ1 : Nat → FieldType := fun k => match k with
  | _ => .int
abbrev wsJ10 : List Cond := u_ws RJ1 TJ1 0
theorem nmJ1 : ∀ a, a < 0 → ∀ b, b < 0 → a ≠ b → (TJ1 a).2.1 ≠ (TJ1 b).2.1 := by decide +kernel
theorem tyJ1_ok : ∀ k, k < 0 → parseFieldDescriptor (TJ1 k).2.2.1 = some (tyJ1 k) := by decide +kernel
abbrev cJ1_charAt_3b067 : ByteArray := prog_32_method_2_code
def yJ1_charAt_3b067 : MethodName := ⟨RJ1, "charAt", "([BI)C"⟩
abbrev cJ1_canEncode_fc78d : ByteArray := prog_32_method_3_code
def yJ1_canEncode_fc78d : MethodName := ⟨RJ1, "canEncode", "(C)Z"⟩
abbrev cJ1_fillNull_b72d1 : ByteArray := prog_32_method_48_code
def yJ1_fillNull_b72d1 : MethodName := ⟨RJ1, "fillNull", "([BII)V"⟩
abbrev cJ1_inflate_0e8fd : ByteArray := prog_32_method_50_code
def yJ1_inflate_0e8fd : MethodName := ⟨RJ1, "inflate", "([BI[BII)V"⟩
def RJ2 : String := "java/lang/StringUTF16"
def TJ2 : u_T := fun k => match k with
  | _ => ("", "", "", false)
def tyJ2 : Nat → FieldType := fun k => match k with
  | _ => .int
abbrev wsJ20 : List Cond := u_ws RJ2 TJ2 0
theorem nmJ2 : ∀ a, a < 0 → ∀ b, b < 0 → a ≠ b → (TJ2 a).2.1 ≠ (TJ2 b).2.1 := by decide +kernel
theorem tyJ2_ok : ∀ k, k < 0 → parseFieldDescriptor (TJ2 k).2.2.1 = some (tyJ2 k) := by decide +kernel
abbrev cJ2_newBytesFor_77867 : ByteArray := prog_33_method_2_code
def yJ2_newBytesFor_77867 : MethodName := ⟨RJ2, "newBytesFor", "(I)[B"⟩
abbrev cJ2_newBytesLength_0f7a4 : ByteArray := prog_33_method_3_code
def yJ2_newBytesLength_0f7a4 : MethodName := ⟨RJ2, "newBytesLength", "(I)I"⟩
abbrev cJ2_putChar_b72d1 : ByteArray := prog_33_method_4_code
def yJ2_putChar_b72d1 : MethodName := ⟨RJ2, "putChar", "([BII)V"⟩
abbrev cJ2_getChar_3b067 : ByteArray := prog_33_method_5_code
def yJ2_getChar_3b067 : MethodName := ⟨RJ2, "getChar", "([BI)C"⟩
abbrev cJ2_length_9d52b : ByteArray := prog_33_method_6_code
def yJ2_length_9d52b : MethodName := ⟨RJ2, "length", "([B)I"⟩
abbrev cJ2_coderFromArrayLen_85cad : ByteArray := prog_33_method_15_code
def yJ2_coderFromArrayLen_85cad : MethodName := ⟨RJ2, "coderFromArrayLen", "([BI)B"⟩
abbrev cJ2_compress_39247 : ByteArray := prog_33_method_17_code
def yJ2_compress_39247 : MethodName := ⟨RJ2, "compress", "([BII)[B"⟩
abbrev cJ2_compress_5af95 : ByteArray := prog_33_method_22_code
def yJ2_compress_5af95 : MethodName := ⟨RJ2, "compress", "([BI[BII)I"⟩
abbrev cJ2_fillNull_b72d1 : ByteArray := prog_33_method_70_code
def yJ2_fillNull_b72d1 : MethodName := ⟨RJ2, "fillNull", "([BII)V"⟩
abbrev cJ2_putCharSB_b72d1 : ByteArray := prog_33_method_71_code
def yJ2_putCharSB_b72d1 : MethodName := ⟨RJ2, "putCharSB", "([BII)V"⟩
abbrev cJ2_getChars_46870 : ByteArray := prog_33_method_77_code
def yJ2_getChars_46870 : MethodName := ⟨RJ2, "getChars", "(III[B)I"⟩
abbrev cJ2_putCharsAt_cd4e5 : ByteArray := prog_33_method_81_code
def yJ2_putCharsAt_cd4e5 : MethodName := ⟨RJ2, "putCharsAt", "([BICCCC)I"⟩
abbrev cJ2_charAt_3b067 : ByteArray := prog_33_method_83_code
def yJ2_charAt_3b067 : MethodName := ⟨RJ2, "charAt", "([BI)C"⟩
abbrev cJ2_inflate_0e8fd : ByteArray := prog_33_method_86_code
def yJ2_inflate_0e8fd : MethodName := ⟨RJ2, "inflate", "([BI[BII)V"⟩
abbrev cJ2_getChars_ba4f3 : ByteArray := prog_33_method_89_code
def yJ2_getChars_ba4f3 : MethodName := ⟨RJ2, "getChars", "(II[B)I"⟩
abbrev cJ2_checkIndex_2214a : ByteArray := prog_33_method_91_code
def yJ2_checkIndex_2214a : MethodName := ⟨RJ2, "checkIndex", "(I[B)V"⟩
abbrev cJ2_checkBoundsBeginEnd_d044e : ByteArray := prog_33_method_93_code
def yJ2_checkBoundsBeginEnd_d044e : MethodName := ⟨RJ2, "checkBoundsBeginEnd", "(II[B)V"⟩
abbrev cJ2_checkBoundsOffCount_d044e : ByteArray := prog_33_method_94_code
def yJ2_checkBoundsOffCount_d044e : MethodName := ⟨RJ2, "checkBoundsOffCount", "(II[B)V"⟩
def RJ10 : String := "java/lang/System"
def TJ10 : u_T := fun k => match k with
  | _ => ("", "", "", false)
def tyJ10 : Nat → FieldType := fun k => match k with
  | _ => .int
abbrev wsJ100 : List Cond := u_ws RJ10 TJ10 0
theorem nmJ10 : ∀ a, a < 0 → ∀ b, b < 0 → a ≠ b → (TJ10 a).2.1 ≠ (TJ10 b).2.1 := by decide +kernel
theorem tyJ10_ok : ∀ k, k < 0 → parseFieldDescriptor (TJ10 k).2.2.1 = some (tyJ10 k) := by decide +kernel
def RJxfd54e : String := "java/lang/constant/Constable"
def TJxfd54e : u_T := fun k => match k with
  | _ => ("", "", "", false)
def tyJxfd54e : Nat → FieldType := fun k => match k with
  | _ => .int
abbrev wsJxfd54e0 : List Cond := u_ws RJxfd54e TJxfd54e 0
theorem nmJxfd54e : ∀ a, a < 0 → ∀ b, b < 0 → a ≠ b → (TJxfd54e a).2.1 ≠ (TJxfd54e b).2.1 := by decide +kernel
theorem tyJxfd54e_ok : ∀ k, k < 0 → parseFieldDescriptor (TJxfd54e k).2.2.1 = some (tyJxfd54e k) := by decide +kernel
def RJx3cf43 : String := "java/lang/constant/ConstantDesc"
def TJx3cf43 : u_T := fun k => match k with
  | _ => ("", "", "", false)
def tyJx3cf43 : Nat → FieldType := fun k => match k with
  | _ => .int
abbrev wsJx3cf430 : List Cond := u_ws RJx3cf43 TJx3cf43 0
theorem nmJx3cf43 : ∀ a, a < 0 → ∀ b, b < 0 → a ≠ b → (TJx3cf43 a).2.1 ≠ (TJx3cf43 b).2.1 := by decide +kernel
theorem tyJx3cf43_ok : ∀ k, k < 0 → parseFieldDescriptor (TJx3cf43 k).2.2.1 = some (tyJx3cf43 k) := by decide +kernel
def RJ7 : String := "java/util/Arrays"
def TJ7 : u_T := fun k => match k with
  | _ => ("", "", "", false)
def tyJ7 : Nat → FieldType := fun k => match k with
  | _ => .int
abbrev wsJ70 : List Cond := u_ws RJ7 TJ7 0
theorem nmJ7 : ∀ a, a < 0 → ∀ b, b < 0 → a ≠ b → (TJ7 a).2.1 ≠ (TJ7 b).2.1 := by decide +kernel
theorem tyJ7_ok : ∀ k, k < 0 → parseFieldDescriptor (TJ7 k).2.2.1 = some (tyJ7 k) := by decide +kernel
abbrev cJ7_rangeCheck_23922 : ByteArray := prog_39_method_30_code
def yJ7_rangeCheck_23922 : MethodName := ⟨RJ7, "rangeCheck", "(III)V"⟩
abbrev cJ7_fill_eb02e : ByteArray := prog_39_method_110_code
def yJ7_fill_eb02e : MethodName := ⟨RJ7, "fill", "([BIIB)V"⟩
abbrev cJ7_copyOf_9075b : ByteArray := prog_39_method_121_code
def yJ7_copyOf_9075b : MethodName := ⟨RJ7, "copyOf", "([BI)[B"⟩
abbrev cJ7_checkLength_df160 : ByteArray := prog_39_method_131_code
def yJ7_checkLength_df160 : MethodName := ⟨RJ7, "checkLength", "(II)V"⟩
abbrev cJ7_copyOfRange_39247 : ByteArray := prog_39_method_132_code
def yJ7_copyOfRange_39247 : MethodName := ⟨RJ7, "copyOfRange", "([BII)[B"⟩
abbrev cJ7_copyOfRangeByte_39247 : ByteArray := prog_39_method_133_code
def yJ7_copyOfRangeByte_39247 : MethodName := ⟨RJ7, "copyOfRangeByte", "([BII)[B"⟩
def RJ8 : String := "jdk/internal/util/ArraysSupport"
def TJ8 : u_T := fun k => match k with
  | _ => ("", "", "", false)
def tyJ8 : Nat → FieldType := fun k => match k with
  | _ => .int
abbrev wsJ80 : List Cond := u_ws RJ8 TJ8 0
theorem nmJ8 : ∀ a, a < 0 → ∀ b, b < 0 → a ≠ b → (TJ8 a).2.1 ≠ (TJ8 b).2.1 := by decide +kernel
theorem tyJ8_ok : ∀ k, k < 0 → parseFieldDescriptor (TJ8 k).2.2.1 = some (tyJ8 k) := by decide +kernel
abbrev cJ8_newLength_cabcc : ByteArray := prog_41_method_27_code
def yJ8_newLength_cabcc : MethodName := ⟨RJ8, "newLength", "(III)I"⟩
abbrev cJ8_hugeLength_7cf53 : ByteArray := prog_41_method_28_code
def yJ8_hugeLength_7cf53 : MethodName := ⟨RJ8, "hugeLength", "(II)I"⟩
def RJ3 : String := "jdk/internal/util/Preconditions"
def TJ3 : u_T := fun k => match k with
  | _ => ("", "", "", false)
def tyJ3 : Nat → FieldType := fun k => match k with
  | _ => .int
abbrev wsJ30 : List Cond := u_ws RJ3 TJ3 0
theorem nmJ3 : ∀ a, a < 0 → ∀ b, b < 0 → a ≠ b → (TJ3 a).2.1 ≠ (TJ3 b).2.1 := by decide +kernel
theorem tyJ3_ok : ∀ k, k < 0 → parseFieldDescriptor (TJ3 k).2.2.1 = some (tyJ3 k) := by decide +kernel
abbrev cJ3_checkIndex_8e157 : ByteArray := prog_42_method_11_code
def yJ3_checkIndex_8e157 : MethodName := ⟨RJ3, "checkIndex", "(IILjava/util/function/BiFunction;)I"⟩
abbrev cJ3_checkFromToIndex_8c36e : ByteArray := prog_42_method_12_code
def yJ3_checkFromToIndex_8c36e : MethodName := ⟨RJ3, "checkFromToIndex", "(IIILjava/util/function/BiFunction;)I"⟩
abbrev cJ3_checkFromIndexSize_8c36e : ByteArray := prog_42_method_13_code
def yJ3_checkFromIndexSize_8c36e : MethodName := ⟨RJ3, "checkFromIndexSize", "(IIILjava/util/function/BiFunction;)I"⟩
def RL : String := "GlidingContestLaw"
abbrev cL_cell : ByteArray := method_2_code
def yL_cell : MethodName := ⟨RL, "cell", "([II)I"⟩
abbrev cL_addPoint : ByteArray := method_3_code
def yL_addPoint : MethodName := ⟨RL, "addPoint", "(LGlidingContest;II)I"⟩
abbrev cL_addTaskPoint : ByteArray := method_4_code
def yL_addTaskPoint : MethodName := ⟨RL, "addTaskPoint", "(LGlidingContest;I)I"⟩
abbrev cL_clearTask : ByteArray := method_5_code
def yL_clearTask : MethodName := ⟨RL, "clearTask", "(LGlidingContest;)I"⟩
abbrev cL_addThermal : ByteArray := method_6_code
def yL_addThermal : MethodName := ⟨RL, "addThermal", "(LGlidingContest;III)I"⟩
abbrev cL_setCloudBase : ByteArray := method_7_code
def yL_setCloudBase : MethodName := ⟨RL, "setCloudBase", "(LGlidingContest;I)I"⟩
abbrev cL_addArea : ByteArray := method_8_code
def yL_addArea : MethodName := ⟨RL, "addArea", "(LGlidingContest;IIII)I"⟩
abbrev cL_addPilot : ByteArray := method_9_code
def yL_addPilot : MethodName := ⟨RL, "addPilot", "(LGlidingContest;I)I"⟩
abbrev cL_launch : ByteArray := method_10_code
def yL_launch : MethodName := ⟨RL, "launch", "(LGlidingContest;I)I"⟩
abbrev cL_fly : ByteArray := method_11_code
def yL_fly : MethodName := ⟨RL, "fly", "(LGlidingContest;III)I"⟩
abbrev cL_climb : ByteArray := method_12_code
def yL_climb : MethodName := ⟨RL, "climb", "(LGlidingContest;II)I"⟩
abbrev cL_endDay : ByteArray := method_13_code
def yL_endDay : MethodName := ⟨RL, "endDay", "(LGlidingContest;)I"⟩
abbrev cL_strongestThermal : ByteArray := method_14_code
def yL_strongestThermal : MethodName := ⟨RL, "strongestThermal", "(LGlidingContest;II)I"⟩
abbrev cL_remainingDistance : ByteArray := method_15_code
def yL_remainingDistance : MethodName := ⟨RL, "remainingDistance", "(LGlidingContest;I)I"⟩
abbrev cL_pilotAtRank : ByteArray := method_16_code
def yL_pilotAtRank : MethodName := ⟨RL, "pilotAtRank", "(LGlidingContest;I)I"⟩
abbrev cL_run : ByteArray := method_17_code
def yL_run : MethodName := ⟨RL, "run", "(LGlidingContest;)I"⟩
abbrev cL_undo : ByteArray := method_18_code
def yL_undo : MethodName := ⟨RL, "undo", "(LGlidingContest;)I"⟩
abbrev cL_restore : ByteArray := method_19_code
def yL_restore : MethodName := ⟨RL, "restore", "(LGlidingContest;)I"⟩
abbrev cL_in : ByteArray := method_20_code
def yL_in : MethodName := ⟨RL, "in", "([III)I"⟩
abbrev cL_does : ByteArray := method_21_code
def yL_does : MethodName := ⟨RL, "does", "(LGlidingContest;Ljava/lang/String;)I"⟩
abbrev cL_begun : ByteArray := method_22_code
def yL_begun : MethodName := ⟨RL, "begun", "([I)LGlidingContest;"⟩
abbrev cL_heads : ByteArray := method_23_code
def yL_heads : MethodName := ⟨RL, "heads", "(LGlidingContest;II)I"⟩
abbrev cL_acts : ByteArray := method_24_code
def yL_acts : MethodName := ⟨RL, "acts", "(LGlidingContest;[II)I"⟩
abbrev cL_seen : ByteArray := method_25_code
def yL_seen : MethodName := ⟨RL, "seen", "(LGlidingContest;)[I"⟩
abbrev cL_areAlike : ByteArray := method_26_code
def yL_areAlike : MethodName := ⟨RL, "areAlike", "([I[I)Z"⟩
abbrev cL_legs : ByteArray := method_27_code
def yL_legs : MethodName := ⟨RL, "legs", "(LGlidingContest;I)I"⟩
abbrev cL_isWell : ByteArray := method_28_code
def yL_isWell : MethodName := ⟨RL, "isWell", "(LGlidingContest;)Z"⟩
abbrev cL_law : ByteArray := code
def yL_law : MethodName := ⟨RL, "law", "([I)Z"⟩
abbrev vwCl : List vw_C := [(RJ0, TJ0, 2), (RJ4, TJ4, 4), (RJx00060, TJx00060, 6), (RJx7c733, TJx7c733, 6), (RX0, TX0, 5), (RX1, TX1, 7), (RX2, TX2, 6), (RX3, TX3, 9), (RX4, TX4, 2), (RX7, TX7, 6), (RX8, TX8, 8), (RX9, TX9, 9), (RJ0, TJ0, 4)]
end
section
/-! THE LAYER: memory of whole numbers and references over the heap; a judgement JJ over W with that memory in place of the heap -/
def iI (z : Int) : Int32 := Int32.ofInt z
def lI (z : Int) : Int64 := Int64.ofInt z
theorem iI_toInt {z : Int} (h : (-2147483648 ≤ z ∧ z < 2147483648)) : (iI z).toInt = z := by
  unfold iI; rw [Int32.toInt_ofInt]; have h8 : Int32.size = 4294967296 := rfl; exact Int.bmod_eq_of_le (by omega) (by omega)
theorem iI_self (x : Int32) : iI x.toInt = x := Int32.ofInt_toInt x
theorem iI_rng (x : Int32) : (-2147483648 ≤ x.toInt ∧ x.toInt < 2147483648) := ⟨Int32.le_toInt x, Int32.toInt_lt x⟩
theorem iI_add (x y : Int) : iI x + iI y = iI (x + y) := (Int32.ofInt_add x y).symm
theorem iI_sub (x y : Int) : iI x - iI y = iI (x - y) := (Int32.ofInt_sub x y).symm
theorem iI_mul (x y : Int) : iI x * iI y = iI (x * y) := (Int32.ofInt_mul x y).symm
theorem iI_neg (x : Int) : - iI x = iI (- x) := (Int32.ofInt_neg x).symm
theorem iI_eq {x y : Int} (hx : (-2147483648 ≤ x ∧ x < 2147483648)) (hy : (-2147483648 ≤ y ∧ y < 2147483648)) : iI x = iI y ↔ x = y := by
  rw [← Int32.toInt_inj, iI_toInt hx, iI_toInt hy]
theorem iI_lt {x y : Int} (hx : (-2147483648 ≤ x ∧ x < 2147483648)) (hy : (-2147483648 ≤ y ∧ y < 2147483648)) : iI x < iI y ↔ x < y := by
  rw [Int32.lt_iff_toInt_lt, iI_toInt hx, iI_toInt hy]
theorem iI_le {x y : Int} (hx : (-2147483648 ≤ x ∧ x < 2147483648)) (hy : (-2147483648 ≤ y ∧ y < 2147483648)) : iI x ≤ iI y ↔ x ≤ y := by
  rw [Int32.le_iff_toInt_le, iI_toInt hx, iI_toInt hy]
theorem iI_div {x y : Int} (hx : (-2147483648 ≤ x ∧ x < 2147483648)) (hy : (-2147483648 ≤ y ∧ y < 2147483648)) (h0 : 0 < y) : iI x / iI y = iI (Int.tdiv x y) := by
  rw [← Int32.toInt_inj, Int32.toInt_div, iI_toInt hx, iI_toInt hy]
  have h1 : Int.natAbs (Int.tdiv x y) ≤ Int.natAbs x := Int.natAbs_tdiv_le_natAbs x y
  have h3 : -2147483648 ≤ Int.tdiv x y ∧ Int.tdiv x y < 2147483648 := by
    rcases Int.le_total 0 x with h5 | h5
    · omega
    · have h6 : 0 ≤ Int.tdiv (-x) y := Int.tdiv_nonneg (by omega) (by omega)
      rw [Int.neg_tdiv] at h6
      omega
  rw [Int.bmod_eq_of_le (by omega) (by omega), iI_toInt h3]
theorem iI_rem {x y : Int} (hx : (-2147483648 ≤ x ∧ x < 2147483648)) (hy : (-2147483648 ≤ y ∧ y < 2147483648)) (h0 : 0 < y) : iI x - iI x / iI y * iI y = iI (Int.tmod x y) := by
  rw [iI_div hx hy h0, iI_mul, iI_sub]
  have h := Int.mul_tdiv_add_tmod x y
  have e : x - Int.tdiv x y * y = Int.tmod x y := by rw [Int.mul_comm]; omega
  rw [e]
theorem iI_clamp {z : Int} (h0 : 0 ≤ z) (h1 : z < 2147483648) : (iI z).toNatClampNeg = z.toNat := by
  show (iI z).toInt.toNat = z.toNat
  rw [iI_toInt ⟨by omega, h1⟩]
theorem iI_in {z : Int} {n : Nat} (h0 : 0 ≤ z) (h1 : z < n) (h2 : n < 2147483648) : vp_in (iI z) n := by
  rw [vp_in_iff, iI_toInt ⟨by omega, by omega⟩]; exact ⟨h0, h1⟩
theorem lI_toInt {z : Int} (h : (-9223372036854775808 ≤ z ∧ z < 9223372036854775808)) : (lI z).toInt = z := by
  unfold lI; rw [Int64.toInt_ofInt]; have h8 : Int64.size = 18446744073709551616 := rfl; exact Int.bmod_eq_of_le (by omega) (by omega)
theorem lI_add (x y : Int) : lI x + lI y = lI (x + y) := (Int64.ofInt_add x y).symm
theorem lI_eq {x y : Int} (hx : (-9223372036854775808 ≤ x ∧ x < 9223372036854775808)) (hy : (-9223372036854775808 ≤ y ∧ y < 9223372036854775808)) : lI x = lI y ↔ x = y := by
  rw [← Int64.toInt_inj, lI_toInt hx, lI_toInt hy]
theorem lI_lt {x y : Int} (hx : (-9223372036854775808 ≤ x ∧ x < 9223372036854775808)) (hy : (-9223372036854775808 ≤ y ∧ y < 9223372036854775808)) : lI x < lI y ↔ x < y := by
  rw [Int64.lt_iff_toInt_lt, lI_toInt hx, lI_toInt hy]
theorem iI_l {x : Int} (hx : (-2147483648 ≤ x ∧ x < 2147483648)) : (iI x).toInt64 = lI x := by
  rw [← Int64.toInt_inj, Int32.toInt_toInt64, iI_toInt hx, lI_toInt (by omega)]
theorem iI_lit (n : Nat) : (OfNat.ofNat n : Int32) = iI n := rfl
theorem iI_0 : (0 : Int32) = iI 0 := rfl
theorem jj_r0 : (-2147483648 ≤ (0 : Int) ∧ (0 : Int) < 2147483648) := ⟨by decide, by decide⟩
theorem jj_ne0 {y : Int} (hy : (-2147483648 ≤ y ∧ y < 2147483648)) (h0 : 0 < y) : ¬ iI y = 0 := by
  rw [iI_0, iI_eq hy jj_r0]; omega
theorem jj_i8 {z : Int} (h : -128 ≤ z ∧ z < 128) : (Int8.ofInt z).toInt32 = iI z := by
  rw [← Int32.toInt_inj, Int8.toInt_toInt32, iI_toInt (by omega), Int8.toInt_ofInt]
  have h8 : Int8.size = 256 := rfl
  exact Int.bmod_eq_of_le (by omega) (by omega)
theorem jj_i16 {z : Int} (h : -32768 ≤ z ∧ z < 32768) : (Int16.ofInt z).toInt32 = iI z := by
  rw [← Int32.toInt_inj, Int16.toInt_toInt32, iI_toInt (by omega), Int16.toInt_ofInt]
  have h8 : Int16.size = 65536 := rfl
  exact Int.bmod_eq_of_le (by omega) (by omega)
theorem jj_nI {z : Int} (h0 : 0 ≤ z) : iI z = nI z.toNat := by
  unfold iI nI
  rw [← Int32.toInt_inj, Int32.toInt_ofInt, show Int32.ofNat z.toNat = Int32.ofInt (z.toNat : Int) from rfl, Int32.toInt_ofInt, Int.toNat_of_nonneg h0]
/-! memory -/
abbrev gE : Type := (Nat → ClassId) × (Nat → Nat → Nat) × (Nat → ClassId) × Nat × (Nat → Nat)
abbrev gM : Type := Nat → Int → Int
abbrev gR : Type := Nat → Int → Option Nat
abbrev gP : Type := Option Value → Nat → (Nat → Nat) → (Nat → Nat) → gM → gR → Prop
abbrev gX : Type := String → Nat → (Nat → Nat) → (Nat → Nat) → gM → gR → Prop
/-- how a place holds: 0 int, 1 reference, 2 long, 3 an enum's constant by its number, 4 double, 5 char, 6 byte, 7 boolean -/
def gm_fty (kd k : Nat) : Nat := match kd with
  | 1 => if k = 0 then 1 else if k = 1 then 6 else if k = 3 then 7 else 0
  | 2 => if k = 0 then 1 else if k = 1 then 6 else if k = 2 then 7 else 0
  | 5 => if k < 3 then 1 else 0
  | 6 => if k = 4 then 0 else 1
  | 7 => if k = 2 then 0 else if k = 5 then 0 else 1
  | 8 => if k = 1 then 3 else if k = 8 then 2 else 0
  | 9 => if k = 0 then 1 else 0
  | 10 => if k = 0 then 1 else if k = 2 then 1 else if k = 3 then 1 else 0
  | 11 => if k = 4 then 0 else if k = 5 then 0 else 1
  | 12 => if k < 6 then 1 else if k = 6 then 7 else 0
  | 13 => if k = 0 then 1 else if k = 1 then 6 else if k = 3 then 7 else 0
  | 21 => 2
  | 22 => 4
  | 23 => 6
  | 24 => 5
  | 25 => 1
  | 26 => 1
  | 27 => 1
  | 28 => 6
  | _ => 0
def gm_val (ad : Nat → Nat) (c : Nat) (z : Int) (r : Option Nat) : Value := match c with
  | 1 => va_rf r
  | 2 => .long (lI z)
  | 3 => if z < 0 then .null else .ref (ad z.toNat)
  | 4 => .double (lI z).toUInt64
  | _ => .int (iI z)
def gm_rng (c : Nat) (z : Int) : Prop := match c with
  | 0 => (-2147483648 ≤ z ∧ z < 2147483648)
  | 1 => True
  | 2 => (-9223372036854775808 ≤ z ∧ z < 9223372036854775808)
  | 3 => -1 ≤ z ∧ z < 9
  | 4 => (-9223372036854775808 ≤ z ∧ z < 9223372036854775808)
  | 5 => 0 ≤ z ∧ z < 65536
  | 6 => -128 ≤ z ∧ z < 128
  | _ => 0 ≤ z ∧ z ≤ 1
def gm_ty (kd : Nat) : FieldType := match kd with
  | 21 => .long
  | 22 => .double
  | 23 => .byte
  | 24 => .char
  | 25 => .array .int
  | 26 => .object "GlidingContest$Glider"
  | 27 => .object "GlidingContest$State"
  | 28 => .byte
  | _ => .int
def gm_ro (kd : Nat) : Bool := kd == 1 || kd == 28 || kd == 29
/-- an object; of one that is read alone nothing is said that the start doesn't tell -/
def gm_ob (ro : Bool) (o : Nat) (cC : ClassId) (N : Nat) (iS : Nat → Nat) (H : Heap) (V : Nat → Value) : Prop :=
  ∃ cell : Cell, H[o]? = some cell ∧ cell.cls = cC ∧ (cell.vm ≠ .unknown ∧ cell.vm.isStatics = false ∧ (ro = false → cell.vm = .none)) ∧ ∀ k, k < N → cell.slots[iS k]? = some (V k)
theorem gm_ob.of {ro : Bool} {o : Nat} {cC : ClassId} {N : Nat} {iS : Nat → Nat} {H : Heap} {V : Nat → Value} (h : t_OB o cC N iS H V) : gm_ob ro o cC N iS H V := by
  obtain ⟨cell, q1, q2, q3, q4⟩ := h
  exact ⟨cell, q1, q2, ⟨(by rw [q3]; exact fun h => nomatch h), (by rw [q3]; rfl), fun _ => q3⟩, q4⟩
/-- a row that is read alone -/
def gm_ar (cA : ClassId) (ln : Nat) (f : Nat → Value) (a : Nat) (H : Heap) : Prop := ∃ cell : Cell, H[a]? = some cell ∧ cell.cls = cA ∧ (ln ≤ cell.slots.size ∧ cell.slots.size.toInt32 = Int32.ofNat ln ∧ ∀ j : Nat, j < ln → cell.slots[j]? = some (f j)) ∧ cell.vm ≠ .unknown ∧ cell.vm.isStatics = false
def gm_cell (G : gE) (kd ln : Nat) (f : Nat → Value) (a : Nat) (H : Heap) : Prop :=
  if kd < 20 then ∃ r : vw_C, vwCl[kd - 1]? = some r ∧ gm_ob (gm_ro kd) a (G.1 (kd - 1)) r.2.2 (G.2.1 (kd - 1)) H f else H[a]? = some (arrV (G.2.2.1 kd) ln f) ∨ (gm_ro kd = true ∧ gm_ar (G.2.2.1 kd) ln f a H)
def gm_f (G : gE) (S : Nat → Nat) (M : gM) (R : gR) (a : Nat) : Nat → Value := fun k => gm_val G.2.2.2.2 (gm_fty (S a) k) (M a (k : Int)) (R a (k : Int))
def Rep (G : gE) (sz : Nat) (S Ln : Nat → Nat) (M : gM) (R : gR) (H : Heap) : Prop :=
  H.size = sz ∧ ∀ a : Nat, S a ≠ 0 → a < sz ∧ (gm_ro (S a) = false → G.2.2.2.1 ≤ a) ∧ (∀ k : Nat, gm_rng (gm_fty (S a) k) (M a (k : Int))) ∧ Ln a < 2147483648 ∧ gm_cell G (S a) (Ln a) (gm_f G S M R a) a H
def us {α : Type} (f : Int → α) (k : Int) (z : α) : Int → α := fun j => if j = k then z else f j
def ua {α : Type} (M : Nat → α) (a : Nat) (f : α) : Nat → α := fun b => if b = a then f else M b
theorem us_s {α : Type} {f : Int → α} {k : Int} {z : α} : us f k z k = z := if_pos rfl
theorem us_n {α : Type} {f : Int → α} {k j : Int} {z : α} (h : j ≠ k) : us f k z j = f j := if_neg h
theorem ua_s {α : Type} {M : Nat → α} {a : Nat} {f : α} : ua M a f a = f := if_pos rfl
theorem ua_n {α : Type} {M : Nat → α} {a b : Nat} {f : α} (h : b ≠ a) : ua M a f b = M b := if_neg h
theorem ua_ua {α : Type} {M : Nat → α} {a : Nat} {f g : α} : ua (ua M a f) a g = ua M a g := by
  funext b; unfold ua; split <;> rfl
theorem us_us {α : Type} {f : Int → α} {k : Int} {y z : α} : us (us f k y) k z = us f k z := by
  funext b; unfold us; split <;> rfl
theorem us_self {α : Type} {f : Int → α} {k : Int} : us f k (f k) = f := by
  funext b; unfold us; split
  · rename_i h; rw [h]
  · rfl
theorem ua_self {α : Type} {M : Nat → α} {a : Nat} : ua M a (M a) = M := by
  funext b; unfold ua; split
  · rename_i h; rw [h]
  · rfl
theorem ua_selfs {α : Type} {M : Nat → Int → α} {a : Nat} {k : Int} : ua M a (us (M a) k (M a k)) = M := by
  rw [us_self, ua_self]
theorem gm_cell.kept {G : gE} {kd ln : Nat} {f : Nat → Value} {a : Nat} {H H1 : Heap} (h : gm_cell G kd ln f a H) (e : H1[a]? = H[a]?) : gm_cell G kd ln f a H1 := by
  unfold gm_cell at h ⊢
  split at h
  · rename_i hk
    rw [if_pos hk]
    obtain ⟨r, h1, cell, q, q2⟩ := h
    exact ⟨r, h1, cell, by rw [e]; exact q, q2⟩
  · rename_i hk
    rw [if_neg hk]
    rcases h with h | ⟨h0, cell, q, q2⟩
    · exact Or.inl (by rw [e]; exact h)
    · exact Or.inr ⟨h0, cell, by rw [e]; exact q, q2⟩
theorem Rep.lt {G : gE} {sz : Nat} {S Ln : Nat → Nat} {M : gM} {R : gR} {H : Heap} (h : Rep G sz S Ln M R H) {a : Nat} (ha : S a ≠ 0) : a < sz := (h.2 a ha).1
/-- a written place -/
theorem Rep.put {G : gE} {sz : Nat} {S Ln : Nat → Nat} {M : gM} {R : gR} {H H1 : Heap} (h : Rep G sz S Ln M R H) {a k : Nat} {z : Int} {r : Option Nat} (ha : S a ≠ 0) (e : H1.size = H.size) (o : ∀ q : Nat, q ≠ a → H1[q]? = H[q]?) (hz : gm_rng (gm_fty (S a) k) z)
    (hc : gm_cell G (S a) (Ln a) (updV (gm_f G S M R a) k (gm_val G.2.2.2.2 (gm_fty (S a) k) z r)) a H1) : Rep G sz S Ln (ua M a (us (M a) k z)) (ua R a (us (R a) k r)) H1 := by
  refine ⟨e.trans h.1, fun b hb => ?_⟩
  obtain ⟨h1, h2, h3, h5, h4⟩ := h.2 b hb
  by_cases hba : b = a
  · subst hba
    refine ⟨h1, h2, fun j => ?_, h5, ?_⟩
    · rw [ua_s]
      by_cases hj : j = k
      · subst hj; rw [us_s]; exact hz
      · rw [us_n (by omega)]; exact h3 j
    · have hf : gm_f G S (ua M b (us (M b) k z)) (ua R b (us (R b) k r)) b = updV (gm_f G S M R b) k (gm_val G.2.2.2.2 (gm_fty (S b) k) z r) := by
        funext j
        unfold gm_f updV
        rw [ua_s, ua_s]
        by_cases hj : j = k
        · subst hj; rw [us_s, us_s, if_pos rfl]
        · rw [us_n (by omega), us_n (by omega), if_neg hj]
      rw [hf]; exact hc
  · refine ⟨h1, h2, fun j => by rw [ua_n hba]; exact h3 j, h5, ?_⟩
    have hf : gm_f G S (ua M a (us (M a) k z)) (ua R a (us (R a) k r)) b = gm_f G S M R b := by
      funext j
      unfold gm_f
      rw [ua_n hba, ua_n hba]
    rw [hf]
    exact gm_cell.kept h4 (o b hba)
/-- a new cell -/
theorem Rep.new {G : gE} {sz : Nat} {S Ln : Nat → Nat} {M : gM} {R : gR} {H H1 : Heap} (h : Rep G sz S Ln M R H) {kd ln : Nat} {z : Int → Int} {r : Int → Option Nat} (hn : G.2.2.2.1 ≤ sz) (e : H1.size = sz + 1) (o : ∀ q : Nat, q < sz → H1[q]? = H[q]?) (hz : ∀ k : Nat, gm_rng (gm_fty kd k) (z k)) (hln : ln < 2147483648)
    (hc : gm_cell G kd ln (fun k => gm_val G.2.2.2.2 (gm_fty kd k) (z k) (r k)) sz H1) : Rep G (sz + 1) (ua S sz kd) (ua Ln sz ln) (ua M sz z) (ua R sz r) H1 := by
  refine ⟨e, fun b hb => ?_⟩
  by_cases hba : b = sz
  · subst hba
    refine ⟨Nat.lt_succ_self _, fun _ => hn, fun j => ?_, by rw [ua_s]; exact hln, ?_⟩
    · rw [ua_s, ua_s]; exact hz j
    · have hf : gm_f G (ua S b kd) (ua M b z) (ua R b r) b = (fun k : Nat => gm_val G.2.2.2.2 (gm_fty kd k) (z k) (r k)) := by
        funext j
        unfold gm_f
        rw [ua_s, ua_s, ua_s]
      rw [hf, ua_s, ua_s]; exact hc
  · rw [ua_n hba] at hb
    obtain ⟨h1, h2, h3, h5, h4⟩ := h.2 b hb
    rw [ua_n hba, ua_n hba, ua_n hba]
    refine ⟨by omega, h2, h3, h5, ?_⟩
    have hf : gm_f G (ua S sz kd) (ua M sz z) (ua R sz r) b = gm_f G S M R b := by
      funext j
      unfold gm_f
      rw [ua_n hba, ua_n hba, ua_n hba]
    rw [hf]
    exact gm_cell.kept h4 (o b h1)
/-! words and tables -/
def gW : List Cond := lw_tbl.filter goodWord
theorem gW_in {w : Cond} (i : Nat) (h : lw_tbl[i]? = some w) (hg : goodWord w = true) : w ∈ gW := List.mem_filter.mpr ⟨List.mem_of_getElem? h, hg⟩
theorem gW_all {ws : List Cond} (h : ws.all (fun w => decide (w ∈ lw_tbl) && goodWord w) = true) : ∀ w ∈ ws, w ∈ gW := by
  intro w hw
  have h1 := List.all_eq_true.mp h w hw
  simp only [Bool.and_eq_true, decide_eq_true_eq] at h1
  exact List.mem_filter.mpr h1
theorem gW_good : GoodIn gW gW := fun w hw => ⟨hw, good_of_word (List.mem_filter.mp hw).2⟩
theorem gW_cons {w : Cond} {ws : List Cond} (h : w ∈ gW) (h2 : GoodIn gW ws) : GoodIn gW (w :: ws) := by
  intro x hx
  rcases List.mem_cons.mp hx with rfl | hx
  · exact ⟨h, good_of_word (List.mem_filter.mp h).2⟩
  · exact h2 x hx
def gNk : Cond → Bool
  | .methodLinkNest .. => true
  | .castable .. => true
  | .declares _ => true
  | .privateMethod _ => true
  | _ => false
def gNW : List Cond := lw_tbl.filter gNk
theorem gNW_in {w : Cond} (i : Nat) (h : lw_tbl[i]? = some w) (hg : gNk w = true) : w ∈ gNW := List.mem_filter.mpr ⟨List.mem_of_getElem? h, hg⟩
theorem gNW_warm {w : Cond} (h : w ∈ gNW) {s U : State} (hW : s.WarmedH U.vm) (hZ : va_Nw w s) : va_Nw w U := by
  have h2 := (List.mem_filter.mp h).2
  cases w with
  | methodLinkNest a b c d => exact va_Nw.warmM hW hZ
  | castable a b => exact va_Nw.warmC hW hZ
  | declares a => exact va_Nw.warmD hW hZ
  | privateMethod a => exact va_tabs rfl (rfl : (s.setVm U.vm).vm = U.vm) (by rw [Cond.privateMethod_setVm hW.alike]; exact hZ)
  | _ => simp [gNk] at h2
theorem gNW_tab {w : Cond} (h : w ∈ gNW) : w.onTables = true := by
  have h2 := (List.mem_filter.mp h).2
  cases w <;> first | rfl | simp [gNk] at h2
def gTys (aC : Nat → ClassId) : List (ClassId × FieldType) := [(aC 20, .int), (aC 21, .long), (aC 22, .double), (aC 23, .byte), (aC 24, .char), (aC 25, .array .int), (aC 26, .object "GlidingContest$Glider"), (aC 27, .object "GlidingContest$State"), (aC 28, .byte)]
/-- the enums' constants: class, name, descriptor, number -/
def gEn : List (String × String × String × Nat) := [("GlidingContest$Phase", "WAITING", "LGlidingContest$Phase;", 0), ("GlidingContest$Phase", "FLYING", "LGlidingContest$Phase;", 1), ("GlidingContest$Phase", "LANDED", "LGlidingContest$Phase;", 2), ("GlidingContest$Phase", "FINISHED", "LGlidingContest$Phase;", 3), ("GlidingContest$Refusal", "NONE", "LGlidingContest$Refusal;", 4), ("GlidingContest$Refusal", "INDEX", "LGlidingContest$Refusal;", 5), ("GlidingContest$Refusal", "ARGUMENT", "LGlidingContest$Refusal;", 6), ("GlidingContest$Refusal", "STATE", "LGlidingContest$Refusal;", 7), ("GlidingContest$Refusal", "UNSUPPORTED", "LGlidingContest$Refusal;", 8)]
/-- the JDK's statics that are numbers (class, name, number); the two rows of digits lie at ad 10, ad 11 -/
def gSv : List (String × String × String × Value) := [("java/lang/String", "COMPACT_STRINGS", "Z", .int 1), ("java/lang/StringUTF16", "$assertionsDisabled", "Z", .int 1), ("java/lang/StringUTF16", "HI_BYTE_SHIFT", "I", .int 0), ("java/lang/StringUTF16", "LO_BYTE_SHIFT", "I", .int 8)]
/-- the String constants that are read: class, entry, text, number; the String lies at ad (16 + number), its bytes at ad (48 + number) -/
def gSt : List (String × Nat × String × Nat) := [("GlidingContest$Script", 50, "point N N", 0), ("GlidingContest$Script", 52, "task D", 1), ("GlidingContest$Script", 54, "thermal N N D", 2), ("GlidingContest$Script", 56, "area N N N N", 3), ("GlidingContest$Script", 58, "pilot N", 4), ("GlidingContest$Script", 60, "launch D", 5), ("GlidingContest$Script", 62, "fly D WN", 6), ("GlidingContest$Script", 64, "climb D N", 7), ("GlidingContest$Script", 66, "end", 8), ("GlidingContest$Script", 109, "nesw", 9), ("GlidingContest", 439, "m ", 10), ("GlidingContest", 444, " -", 11), ("GlidingContestLaw", 159, "launch ", 12), ("GlidingContestLaw", 167, ";", 13), ("GlidingContestLaw", 173, "climb ", 14), ("GlidingContestLaw", 175, " ", 15), ("GlidingContestLaw", 177, "fly ", 16), ("GlidingContestLaw", 179, " e", 17), ("GlidingContestLaw", 181, " s", 18), ("GlidingContestLaw", 183, ";end", 19), ("GlidingContestLaw", 185, "pilot ", 20)]
/-- the texts of the exceptions -/
def gTx : List (String × Nat × String) := [("GlidingContest", 403, "there is no such index"), ("GlidingContest", 408, "an argument is out of range"), ("GlidingContest", 413, "the present state does not allow the call"), ("GlidingContest", 418, "the call is not possible here"), ("GlidingContest", 90, "the day is not in its planning phase"), ("GlidingContest", 115, "the cloud base is out of range"), ("GlidingContest", 175, "there is no such turn point"), ("GlidingContest", 189, "the task has no such position"), ("GlidingContest", 423, "a coordinate is out of range"), ("GlidingContest", 206, "no thermal covers the position"), ("GlidingContest", 425, "there is no such pilot"), ("GlidingContest", 431, "the pilot is waiting"), ("GlidingContest", 433, "the pilot is in another phase"), ("GlidingContest", 294, "there is no such rank"), ("GlidingContest", 322, "the text buffer is full"), ("GlidingContest", 332, "the text is not a program"), ("GlidingContest", 351, "a command fails"), ("GlidingContest", 393, "no call can be undone"), ("GlidingContest", 398, "no state was saved")]
/-- the statics and constants of the start -/
def gZ (G : gE) (U : State) (H : Heap) : Prop :=
  (∀ q ∈ gEn, va_Z q.1 q.2.1 q.2.2.1 (.ref (G.2.2.2.2 q.2.2.2)) (fun q => G.2.2.2.1 ≤ q) U H) ∧ (∀ i j : Nat, i < 9 → j < 9 → G.2.2.2.2 i = G.2.2.2.2 j → i = j) ∧
  (∀ q ∈ gSv, va_Z q.1 q.2.1 q.2.2.1 q.2.2.2 (fun q => G.2.2.2.1 ≤ q) U H) ∧
  (va_Z "java/lang/Integer" "DigitOnes" "[B" (.ref (G.2.2.2.2 10)) (fun q => G.2.2.2.1 ≤ q) U H ∧ va_Z "java/lang/Integer" "DigitTens" "[B" (.ref (G.2.2.2.2 11)) (fun q => G.2.2.2.1 ≤ q) U H) ∧
  (∀ q ∈ gSt, vk_R q.1 q.2.1 q.2.2.1 (G.2.2.2.2 (16 + q.2.2.2)) U) ∧ (∀ q ∈ gTx, ∃ sa : Nat, vk_R q.1 q.2.1 q.2.2 sa U) ∧
  vx_Zq Bundle.tN "UNASSIGNED_STACK" Bundle.steD (fun q => G.2.2.2.1 ≤ q) U H ∧ vx_Zq Bundle.tN "SUPPRESSED_SENTINEL" Bundle.listD (fun q => G.2.2.2.1 ≤ q) U H ∧ va_Zq "jdk/internal/util/Preconditions" "SIOOBE_FORMATTER" "Ljava/util/function/BiFunction;" (fun q => G.2.2.2.1 ≤ q) U H
/-- exceptions: the first is none of the second -/
def gNc : List (String × String) := [("java/lang/IllegalArgumentException", "java/lang/IndexOutOfBoundsException"), ("java/lang/IllegalStateException", "java/lang/IllegalArgumentException"), ("java/lang/IllegalStateException", "java/lang/IndexOutOfBoundsException"), ("java/lang/UnsupportedOperationException", "java/lang/IllegalArgumentException"), ("java/lang/UnsupportedOperationException", "java/lang/IndexOutOfBoundsException"), ("java/lang/UnsupportedOperationException", "java/lang/IllegalStateException"), ("java/util/NoSuchElementException", "java/lang/IllegalArgumentException")]
/-- the class of the rows of rows of ints -/
def gAI (U : State) : Prop := ∃ (comp c : ClassId) (k : Class), U.vm.findClass (FieldType.array .int).toString = some comp ∧ (U.vm.classes.findIdx? fun (x : Class) => match x.kind with | .array component _ => component == comp | _ => false) = some c ∧ U.vm.classes[c]? = some k ∧ k.kind = .array comp (.array .int) ∧ U.vm.findClass ("[" ++ (FieldType.array .int).toString) = some c
theorem gAI.moved {u U : State} (hvm : u.vm.Alike U.vm) (h : gAI u) : gAI U := by
  obtain ⟨comp, c, k, h1, h2, h3, h4, h5⟩ := h
  obtain ⟨k', hk', he⟩ := hvm.2.2 _ _ h3
  have hi := (hvm.findIdx?_eq (fun (x : Class) => match x.kind with | .array component _ => component == comp | _ => false) (fun _ => rfl)).trans h2
  exact ⟨comp, c, k', by rw [hvm.findClass]; exact h1, hi, hk', by rw [he]; exact h4, by rw [hvm.findClass]; exact h5⟩
def gX2 (U : State) : Prop := (∀ q ∈ gNc, va_Nc q.1 q.2 U) ∧ va_AO "GlidingContest$Glider" U ∧ va_AO "GlidingContest$State" U ∧ gAI U
theorem gX2.moved {u U : State} (hvm : u.vm.Alike U.vm) (h : gX2 u) : gX2 U := ⟨fun q hq => va_Nc.moved hvm (h.1 q hq), va_AO.moved hvm h.2.1, va_AO.moved hvm h.2.2.1, gAI.moved hvm h.2.2.2⟩
/-- what every method of the claim may take of its start: the classes and arrays as the tables have them; the words that are no good words -/
def EV (G : gE) (U : State) : Prop := va_K (G.1, G.2.1) vwCl (gTys G.2.2.1) U ∧ ((∀ w ∈ gNW, va_Nw w U) ∧ gX2 U ∧ ArrOfT U (G.2.2.1 29) .int) ∧ gZ G U U.heap
theorem EV.call {G : gE} {U : State} (h : EV G U) (g : JFrame) (mk : MethodId) (a : Array Value) : EV G (U.calling g mk a) := by
  obtain ⟨h1, ⟨h2, h2n, h2a⟩, z1, z2, z3, ⟨z4, z5⟩, z6, z7, z8, z9, z10⟩ := h
  have hv : (U.calling g mk a).vm = U.vm := rfl
  have hal : U.vm.Alike (U.calling g mk a).vm := Vm.Alike.refl U.vm
  exact ⟨va_K.moved (u := U) hal h1, ⟨fun w hw => va_Nw.same (gNW_tab hw) hv.symm (h2 w hw), h2n.moved hal, arrOfT_moved hal h2a⟩, fun q hq => va_Z.moved hal (z1 q hq), z2, fun q hq => va_Z.moved hal (z3 q hq), ⟨va_Z.moved hal z4, va_Z.moved hal z5⟩, fun q hq => vk_R.same hv (z6 q hq),
    fun q hq => by obtain ⟨sa, hs⟩ := z7 q hq; exact ⟨sa, vk_R.same hv hs⟩, vx_Zq.moved hal z8, vx_Zq.moved hal z9, va_Zq.moved hal z10⟩
theorem EV.to {G : gE} {s U : State} {H : Heap} {locs : List Loc} (h : EV G s) (hS : va_S (fun q => G.2.2.2.1 ≤ q) s.heap H locs) (hU : U.heap = H) (hW : s.WarmedH U.vm) : EV G U := by
  obtain ⟨h1, ⟨h2, h2n, h2a⟩, z1, z2, z3, ⟨z4, z5⟩, z6, z7, z8, z9, z10⟩ := h
  have hal : s.vm.Alike U.vm := hW.alike
  have hk : ∀ a : Nat, a < s.heap.size → ¬ (G.2.2.2.1 ≤ a) → U.heap[a]? = s.heap[a]? := by rw [hU]; exact hS.2.1
  exact ⟨va_K.moved hal h1, ⟨fun w hw => gNW_warm hw hW (h2 w hw), h2n.moved hal, arrOfT_moved hal h2a⟩, fun q hq => (va_Z.moved hal (z1 q hq)).kept hk, z2, fun q hq => (va_Z.moved hal (z3 q hq)).kept hk, ⟨(va_Z.moved hal z4).kept hk, (va_Z.moved hal z5).kept hk⟩, fun q hq => vk_R.warm hW (z6 q hq),
    fun q hq => by obtain ⟨sa, hs⟩ := z7 q hq; exact ⟨sa, vk_R.warm hW hs⟩, (vx_Zq.moved hal z8).kept hk, (vx_Zq.moved hal z9).kept hk, (va_Zq.moved hal z10).kept hk⟩
abbrev gC : Type := Program × Launch × Env × Room × State × MethodId × Array Value × List Frame × Method × Code × (State → Prop)
def gQc (G : gE) (P : gP) : Array Value → State → Outcome → State → Prop := fun _ st o t =>
  (∃ (v : Option Value) (sz : Nat) (S Ln : Nat → Nat) (M : gM) (R : gR), o = .returned v ∧ P v sz S Ln M R ∧ Rep G sz S Ln M R t.heap) ∧ va_F (fun q => G.2.2.2.1 ≤ q) st t
def gXc (G : gE) (X : gX) : String → State → State → Prop := fun E st t =>
  (∃ (sz : Nat) (S Ln : Nat → Nat) (M : gM) (R : gR), X E sz S Ln M R ∧ Rep G sz S Ln M R t.heap) ∧ va_F (fun q => G.2.2.2.1 ≤ q) st t
def gPc (G : gE) (av : List Value) (sz : Nat) (S Ln : Nat → Nat) (M : gM) (R : gR) : Array Value → State → Prop := fun a U => a = av.toArray ∧ Rep G sz S Ln M R U.heap ∧ EV G U ∧ G.2.2.2.1 ≤ U.heap.size
theorem gPc_blind {G : gE} {av : List Value} {sz : Nat} {S Ln : Nat → Nat} {M : gM} {R : gR} : FrameBlind (gPc G av sz S Ln M R) := fun a U g mk h => ⟨h.1, h.2.1, h.2.2.1.call g mk a, h.2.2.2⟩
def gRm (fr mc ms : Nat) : Room := { frames := fr, cells := mc, slots := ms, locals := 64 * fr }
/-- the contract of a method: from this memory it returns so that P, or throws so that X; at most fr calls deep, mc cells of ms slots new -/
def Ct (l : Launch) (G : gE) (y : MethodName) (cc : ByteArray) (nL : Nat) (ret : Option FieldType) (fr mc ms : Nat) (av : List Value) (sz : Nat) (S Ln : Nat → Nat) (M : gM) (R : gR) (P : gP) (X : gX) : Prop :=
  vx_Met l y (.code y cc nL ret :: gW) (gRm fr mc ms) (gPc G av sz S Ln M R) (gQc G P) (gXc G X) mc ms (fun q => G.2.2.2.1 ≤ q)
def noX : gX := fun _ _ _ _ _ _ => False
theorem Ct.met {l : Launch} {G : gE} {y : MethodName} {cc : ByteArray} {nL : Nat} {ret : Option FieldType} {fr mc ms : Nat} {av : List Value} {sz : Nat} {S Ln : Nat → Nat} {M : gM} {R : gR} {P : gP} (h : Ct l G y cc nL ret fr mc ms av sz S Ln M R P noX) :
    Met l y (.code y cc nL ret :: gW) (gRm fr mc ms) (gPc G av sz S Ln M R) (gQc G P) mc ms (fun q => G.2.2.2.1 ≤ q) := by
  intro p e ha hc hk s m args below hf happ hP hK
  obtain ⟨n, o, h1, h2, h3, h4⟩ := h p e ha hc hk s m args below hf happ hP hK
  refine ⟨n, o, h1, h2, h3, ?_⟩
  rcases h4 with h4 | ⟨q, -, E, ce, L, ⟨⟨sz', S', Ln', M', R', hx, -⟩, -⟩, -⟩
  · exact h4
  · exact hx.elim
/-- a room that holds so much -/
def RmOK (Rm : Room) (fr mc ms : Nat) : Prop := fr ≤ Rm.frames ∧ mc ≤ Rm.cells ∧ ms ≤ Rm.slots ∧ 64 * fr ≤ Rm.locals
def OKC (G : gE) (C : gC) (own : String) (cc : ByteArray) (nL : Nat) (ret : Option FieldType) (fr mc ms : Nat) (P : gP) (X : gX) : Prop := match C with
  | (p, l, e, Rm, s, m, args, below, meth, c, Q) => p.tables.exec = Jvm.exec ∧ c.code = cc ∧ c.maxLocals = nL ∧ s.vm.findClass own = some m.cls ∧ (∀ w ∈ gW, w.before args s = true) ∧ EV G s ∧ meth.locks = false ∧ meth.sig.returnType = ret ∧ l.stackTraces = false ∧ RmOK Rm fr mc ms ∧ Q = vx_MQ below (gQc G P) (gXc G X) args s mc ms (fun q => G.2.2.2.1 ≤ q) ∧ (own ≠ "GlidingContestLaw" → ∀ x ∈ c.exceptionTable.toList, False) ∧ G.2.2.2.1 ≤ s.heap.size
def LV (C : gC) : Launch := C.2.1
def JJ (G : gE) (C : gC) (k n : Nat) (sz : Nat) (S Ln : Nat → Nat) (M : gM) (R : gR) (pc : Nat) (lv : List (Nat × Value)) (st : List Value) : Prop := match C with
  | (p, l, e, Rm, s, m, args, below, meth, c, Q) => ∀ (H : Heap) (locs : List Loc) (ls : Array Slot), Rep G sz S Ln M R H → va_S (fun q => G.2.2.2.1 ≤ q) s.heap H locs → lv_has ls c.maxLocals lv → W p l e Rm s m args below meth c H locs k n Q (F0 m pc ls st)
/-- on the way up: an exception of class E is thrown at pc -/
def JX (G : gE) (C : gC) (k n : Nat) (E : String) (sz : Nat) (S Ln : Nat → Nat) (M : gM) (R : gR) (pc : Nat) (lv : List (Nat × Value)) (st : List Value) : Prop := match C with
  | (p, l, e, Rm, s, m, args, below, meth, c, Q) => ∀ (H : Heap) (locs : List Loc) (ls : Array Slot) (q : Addr) (ce : Cell), Rep G sz S Ln M R H → va_S (fun q => G.2.2.2.1 ≤ q) s.heap H locs → lv_has ls c.maxLocals lv → H[q]? = some ce → ce.vm = .none → s.vm.findClass E = some ce.cls → vx_W p l e Rm s m args below meth c H locs k n Q (F0 m pc ls st) q
end
section
section JJR
variable {G : gE} {C : gC} {own : String} {cc : ByteArray} {nL : Nat} {ret : Option FieldType} {fr mc ms : Nat} {P : gP} {X : gX} {k n sz : Nat} {S Ln : Nat → Nat} {M : gM} {R : gR} {pc : Nat} {lv lv' : List (Nat × Value)} {st : List Value}
/-- a method's start -/
theorem jj_start {l : Launch} {y : MethodName} {av : List Value} {lv0 : List (Nat × Value)} (hfl : l.stackTraces = false) (hy : plainName own = true) (hyo : y.cls = own) (hlv : lv_args 0 av = lv0) (hn : (lg_sl av).length ≤ nL)
    (body : ∀ C : gC, LV C = l → OKC G C own cc nL ret fr mc ms P X → JJ G C 0 0 sz S Ln M R 0 lv0 []) : Ct l G y cc nL ret fr mc ms av sz S Ln M R P X := by
  subst hyo
  refine vx_ofW (cc := cc) (maxL := nL) (ret := ret) hy rfl ?_
  intro p e s m args below meth c s₁ B hml htab hv
  obtain ⟨rfl, hR, hE, hz⟩ := hv
  have hok : OKC G (p, l, e, gRm fr mc ms, s, m, av.toArray, below, meth, c, vx_MQ below (gQc G P) (gXc G X) av.toArray s mc ms (fun q => G.2.2.2.1 ≤ q)) y.cls cc nL ret fr mc ms P X :=
    ⟨B.exec, B.bytes, hml, findClass_of_methodNamed B.named, fun w hw => atoms_spec (ws := .code y cc nL ret :: gW) B.pre w (List.mem_cons_of_mem _ hw), hE, B.notSynchronized, B.returns, hfl, ⟨Nat.le_refl _, Nat.le_refl _, Nat.le_refl _, Nat.le_refl _⟩, rfl, fun _ => htab, hz⟩
  have h := body _ rfl hok s.heap [] _ hR va_S.rf (by rw [hml, ← hlv]; exact lv_entry av (n := nL) hn)
  rw [lg_entry_eq]
  exact h
theorem jj_widen {k' n' : Nat} (h1 : k ≤ k') (h2 : n ≤ n') (kk : JJ G C k' n' sz S Ln M R pc lv st) : JJ G C k n sz S Ln M R pc lv st := by
  obtain ⟨p, l, e, Rm, s, m, args, below, meth, c, Q⟩ := C
  intro H locs ls hR hS hl
  exact W.widen h1 h2 (kk H locs ls hR hS hl)
theorem jj_lv (ks : List Nat) (h : lv_pick lv ks = lv') (kk : JJ G C k n sz S Ln M R pc lv' st) : JJ G C k n sz S Ln M R pc lv st := by
  obtain ⟨p, l, e, Rm, s, m, args, below, meth, c, Q⟩ := C
  intro H locs ls hR hS hl
  exact kk H locs ls hR hS (lv_sub hl ks h)
/-- what the ranges of the memory are: at hand -/
theorem jj_rng (kk : (∀ a, S a ≠ 0 → (∀ j : Nat, gm_rng (gm_fty (S a) j) (M a (j : Int))) ∧ a < sz ∧ Ln a < 2147483648) → JJ G C k n sz S Ln M R pc lv st) : JJ G C k n sz S Ln M R pc lv st := by
  obtain ⟨p, l, e, Rm, s, m, args, below, meth, c, Q⟩ := C
  intro H locs ls hR hS hl
  exact kk (fun a h => ⟨(hR.2 a h).2.2.1, (hR.2 a h).1, (hR.2 a h).2.2.2.1⟩) H locs ls hR hS hl
/-! fields -/
/-- the facts of a class that its objects' rows need, by its kind -/
def KF (kd : Nat) (CN : String) (T : u_T) (N : Nat) (ty0 : Nat → FieldType) : Prop := 1 ≤ kd ∧ kd < 20 ∧ vwCl[kd - 1]? = some (CN, T, N) ∧ (∀ w ∈ u_ws CN T N, w ∈ gW) ∧ (∀ k, k < N → parseFieldDescriptor (T k).2.2.1 = some (ty0 k)) ∧ (∀ a, a < N → ∀ b, b < N → a ≠ b → (T a).2.1 ≠ (T b).2.1)
theorem jj_get (hC : OKC G C own cc nL ret fr mc ms P X) {kd N index a : Nat} {CN : String} {T : u_T} {ty0 : Nat → FieldType} (hk : KF kd CN T N ty0) (i : Nat) {v : Value} (hs : S a = kd) (hi : i < N) (hlk : Cond.fieldLink own index (T i).1 (T i).2.1 (T i).2.2.1 ∈ gW) (hv : gm_val G.2.2.2.2 (gm_fty kd i) (M a (i : Int)) (R a (i : Int)) = v) (hdg : decode cc pc = .ok (.getfield index, 3))
    (kk : gm_rng (gm_fty kd i) (M a (i : Int)) → JJ G C k n sz S Ln M R (pc + 3) lv (v :: st)) : JJ G C k n sz S Ln M R pc lv (.ref a :: st) := by
  obtain ⟨p, l, e, Rm, s, m, args, below, meth, c, Q⟩ := C
  obtain ⟨hx, hb, hml, hown, hts, hE, hlk2, hrt, hst, hRm, hQ, htab, hz⟩ := hC
  intro H locs ls hR hS hl
  obtain ⟨k1, k2, k3, k4, k5, k6⟩ := hk
  obtain ⟨g1, g2, g3, g5, g4⟩ := hR.2 a (by omega)
  unfold gm_cell at g4
  rw [hs, if_pos k2] at g4
  rw [hs] at g3
  obtain ⟨r, h1, cell, q1, q2, q3, q4⟩ := g4
  have hr : r = (CN, T, N) := Option.some.inj (h1.symm.trans k3)
  subst hr
  obtain ⟨hSl, hfc, kC, hkC, hkind⟩ := hE.1.1 (kd - 1) _ k3
  obtain ⟨cf, kf, fi, f, hfi, hsl⟩ := hSl i hi
  refine W.getf (v := v) hx hb hown (hts _ hlk) hfi (u_facts hfc hkC (u_lays hts k4 hi) hfi).1 q1 q3.1 ?_ rfl rfl hdg (kk (g3 i) H locs ls hR hS hl)
  rw [hsl, q4 i hi]
  show some (gm_f G S M R a i) = some v
  unfold gm_f
  rw [hs, hv]
theorem jj_put (hC : OKC G C own cc nL ret fr mc ms P X) {kd N index a : Nat} {CN : String} {T : u_T} {ty0 : Nat → FieldType} (hk : KF kd CN T N ty0) (i : Nat) {v : Value} {ty : FieldType} (z : Int) (r : Option Nat) (hs : S a = kd) (hro : gm_ro kd = false) (hi : i < N) (hlk : Cond.fieldLink own index (T i).1 (T i).2.1 (T i).2.2.1 ∈ gW) (hfin : (T i).2.2.2 = false) (hd : ty0 i = ty) (hn : narrow ty v = v) (hfit : fits ty v = true)
    (hv : gm_val G.2.2.2.2 (gm_fty kd i) z r = v) (hrz : gm_rng (gm_fty kd i) z) (hdg : decode cc pc = .ok (.putfield index, 3))
    (kk : JJ G C k n sz S Ln (ua M a (us (M a) i z)) (ua R a (us (R a) i r)) (pc + 3) lv st) : JJ G C k n sz S Ln M R pc lv (v :: .ref a :: st) := by
  obtain ⟨p, l, e, Rm, s, m, args, below, meth, c, Q⟩ := C
  obtain ⟨hx, hb, hml, hown, hts, hE, hlk2, hrt, hst, hRm, hQ, htab, hz⟩ := hC
  intro H locs ls hR hS hl
  obtain ⟨k1, k2, k3, k4, k5, k6⟩ := hk
  have ha : S a ≠ 0 := by omega
  obtain ⟨g1, g2, g3, g5, g4⟩ := hR.2 a ha
  unfold gm_cell at g4
  rw [hs, if_pos k2] at g4
  have hA : G.2.2.2.1 ≤ a := g2 (by rw [hs]; exact hro)
  have hap := va_apart (own := own) hts k4 ty0 k5 k6 hE.1 k3
  obtain ⟨r1, h1, cell, q1, q2, q3, q4⟩ := g4
  replace q3 := q3.2.2 hro
  have hr : r1 = (CN, T, N) := Option.some.inj (h1.symm.trans k3)
  subst hr
  obtain ⟨hSl, hfc, kC, hkC, hkind⟩ := hE.1.1 (kd - 1) _ k3
  obtain ⟨cf, kf, fi, f, hfi, hsl⟩ := hSl i hi
  have hlay := hts _ (k4 _ (u_in_lay hi))
  unfold u_lay at hlay
  rw [if_neg (by rw [hfin]; decide)] at hlay
  have hst2 := (u_facts hfc hkC (u_lays hts k4 hi) hfi).1
  have h6 := u_store hfc hkC hkind hlay hfi (by rw [k5 i hi, hd]) hn hfit
  refine W.putK hx hb (f := f) ⟨hown, hts _ hlk, ⟨_, _, _, hfi⟩, hst2⟩ (by rw [q2]; exact h6) q1 q3 (by rw [hsl]; exact k2_hasslot (q4 i hi)) rfl rfl hdg fun H' e1 e2 e3 => ?_
  rw [hsl] at e1 ⊢
  refine kk H' _ ls (hR.put ha e2 e3 (by rw [hs]; exact hrz) ?_) (hS.put e2 e3 hA) hl
  unfold gm_cell
  rw [hs, if_pos k2]
  exact ⟨_, k3, gm_ob.of (t_OB.to (V := updV (gm_f G S M R a) i v) ⟨_, e1, q2, q3, t_set q4 hap hi v⟩ (fun j _ => by rw [← hv]))⟩
theorem jj_putF (hC : OKC G C own cc nL ret fr mc ms P X) {kd N index a : Nat} {CN : String} {T : u_T} {ty0 : Nat → FieldType} (hk : KF kd CN T N ty0) (i : Nat) {v : Value} {ty : FieldType} (z : Int) (r : Option Nat) (hs : S a = kd) (hro : gm_ro kd = false) (hi : i < N) (hlk : Cond.fieldLink own index (T i).1 (T i).2.1 (T i).2.2.1 ∈ gW) (hfin : (T i).2.2.2 = true) (hinm : C.2.2.2.2.2.2.2.2.1.name = "<init>") (hdecl : (T i).1 = own) (hd : ty0 i = ty) (hn : narrow ty v = v) (hfit : fits ty v = true)
    (hv : gm_val G.2.2.2.2 (gm_fty kd i) z r = v) (hrz : gm_rng (gm_fty kd i) z) (hdg : decode cc pc = .ok (.putfield index, 3))
    (kk : JJ G C k n sz S Ln (ua M a (us (M a) i z)) (ua R a (us (R a) i r)) (pc + 3) lv st) : JJ G C k n sz S Ln M R pc lv (v :: .ref a :: st) := by
  obtain ⟨p, l, e, Rm, s, m, args, below, meth, c, Q⟩ := C
  obtain ⟨hx, hb, hml, hown, hts, hE, hlk2, hrt, hst, hRm, hQ, htab, hz⟩ := hC
  intro H locs ls hR hS hl
  obtain ⟨k1, k2, k3, k4, k5, k6⟩ := hk
  have ha : S a ≠ 0 := by omega
  obtain ⟨g1, g2, g3, g5, g4⟩ := hR.2 a ha
  unfold gm_cell at g4
  rw [hs, if_pos k2] at g4
  have hA : G.2.2.2.1 ≤ a := g2 (by rw [hs]; exact hro)
  have hap := va_apart (own := own) hts k4 ty0 k5 k6 hE.1 k3
  obtain ⟨r1, h1, cell, q1, q2, q3, q4⟩ := g4
  replace q3 := q3.2.2 hro
  have hr : r1 = (CN, T, N) := Option.some.inj (h1.symm.trans k3)
  subst hr
  obtain ⟨hSl, hfc, kC, hkC, hkind⟩ := hE.1.1 (kd - 1) _ k3
  obtain ⟨cf, kf, fi, f, hfi, hsl⟩ := hSl i hi
  have hlay := hts _ (k4 _ (u_in_lay hi))
  unfold u_lay at hlay
  rw [if_pos hfin] at hlay
  have hst2 := (u_facts hfc hkC (u_lays hts k4 hi) hfi).1
  have hcf : m.cls = cf := by
    obtain ⟨_, _, c', _, _, _, -, -, hf', -, -, -, hown2, -⟩ := Cond.laysFinal_spec hlay
    have e1 : c' = cf := by have := hfi.symm.trans hf'; simp at this; exact this.1.symm
    rw [hdecl] at hown2
    rw [← e1]; exact Option.some.inj (hown.symm.trans hown2)
  have h6 := u_fits hfc hkC hkind (Or.inr hlay) hfi (by rw [k5 i hi, hd]) hn hfit
  refine W.putFinK hx hb hown (hts _ hlk) hfi hst2 hcf hinm (by rw [q2]; exact h6) q1 q3 (by rw [hsl]; exact k2_hasslot (q4 i hi)) rfl rfl hdg fun H' e1 e2 e3 => ?_
  rw [hsl] at e1 ⊢
  refine kk H' _ ls (hR.put ha e2 e3 (by rw [hs]; exact hrz) ?_) (hS.put e2 e3 hA) hl
  unfold gm_cell
  rw [hs, if_pos k2]
  exact ⟨_, k3, gm_ob.of (t_OB.to (V := updV (gm_f G S M R a) i v) ⟨_, e1, q2, q3, t_set q4 hap hi v⟩ (fun j _ => by rw [← hv]))⟩
/-- a field of a number: written -/
theorem jj_putI (hC : OKC G C own cc nL ret fr mc ms P X) {kd N index a : Nat} {CN : String} {T : u_T} {ty0 : Nat → FieldType} (hk : KF kd CN T N ty0) (i : Nat) {z : Int} (hs : S a = kd) (hro : gm_ro kd = false) (hi : i < N) (hlk : Cond.fieldLink own index (T i).1 (T i).2.1 (T i).2.2.1 ∈ gW) (hfin : (T i).2.2.2 = false) (hd : ty0 i = .int) (hf0 : gm_fty kd i = 0) (hrz : (-2147483648 ≤ z ∧ z < 2147483648)) (hdg : decode cc pc = .ok (.putfield index, 3))
    (kk : JJ G C k n sz S Ln (ua M a (us (M a) i z)) R (pc + 3) lv st) : JJ G C k n sz S Ln M R pc lv (.int (iI z) :: .ref a :: st) := by
  refine jj_put hC hk i z (R a (i : Int)) hs hro hi hlk hfin hd rfl rfl (by rw [hf0]; rfl) (by rw [hf0]; exact hrz) hdg ?_
  rw [ua_selfs]; exact kk
theorem jj_putZ (hC : OKC G C own cc nL ret fr mc ms P X) {kd N index a : Nat} {CN : String} {T : u_T} {ty0 : Nat → FieldType} (hk : KF kd CN T N ty0) (i : Nat) {z : Int} (hs : S a = kd) (hro : gm_ro kd = false) (hi : i < N) (hlk : Cond.fieldLink own index (T i).1 (T i).2.1 (T i).2.2.1 ∈ gW) (hfin : (T i).2.2.2 = false) (hd : ty0 i = .boolean) (hf0 : gm_fty kd i = 7) (hrz : 0 ≤ z ∧ z ≤ 1) (hdg : decode cc pc = .ok (.putfield index, 3))
    (kk : JJ G C k n sz S Ln (ua M a (us (M a) i z)) R (pc + 3) lv st) : JJ G C k n sz S Ln M R pc lv (.int (iI z) :: .ref a :: st) := by
  have h01 : z = 0 ∨ z = 1 := by omega
  refine jj_put hC hk i z (R a (i : Int)) hs hro hi hlk hfin hd (by rcases h01 with rfl | rfl <;> rfl) (by rcases h01 with rfl | rfl <;> rfl) (by rw [hf0]; rfl) (by rw [hf0]; exact hrz) hdg ?_
  rw [ua_selfs]; exact kk
theorem jj_putL (hC : OKC G C own cc nL ret fr mc ms P X) {kd N index a : Nat} {CN : String} {T : u_T} {ty0 : Nat → FieldType} (hk : KF kd CN T N ty0) (i : Nat) {z : Int} (hs : S a = kd) (hro : gm_ro kd = false) (hi : i < N) (hlk : Cond.fieldLink own index (T i).1 (T i).2.1 (T i).2.2.1 ∈ gW) (hfin : (T i).2.2.2 = false) (hd : ty0 i = .long) (hf0 : gm_fty kd i = 2) (hrz : (-9223372036854775808 ≤ z ∧ z < 9223372036854775808)) (hdg : decode cc pc = .ok (.putfield index, 3))
    (kk : JJ G C k n sz S Ln (ua M a (us (M a) i z)) R (pc + 3) lv st) : JJ G C k n sz S Ln M R pc lv (.long (lI z) :: .ref a :: st) := by
  refine jj_put hC hk i z (R a (i : Int)) hs hro hi hlk hfin hd rfl rfl (by rw [hf0]; rfl) (by rw [hf0]; exact hrz) hdg ?_
  rw [ua_selfs]; exact kk
/-- a field of a reference that isn't final -/
theorem jj_putR (hC : OKC G C own cc nL ret fr mc ms P X) {kd N index a b : Nat} {CN : String} {T : u_T} {ty0 : Nat → FieldType} (hk : KF kd CN T N ty0) (i : Nat) (hs : S a = kd) (hro : gm_ro kd = false) (hi : i < N) (hlk : Cond.fieldLink own index (T i).1 (T i).2.1 (T i).2.2.1 ∈ gW) (hfin : (T i).2.2.2 = false) {ty : FieldType} (hd : ty0 i = ty) (hn : narrow ty (.ref b) = .ref b) (hfit : fits ty (.ref b) = true) (hf0 : gm_fty kd i = 1) (hdg : decode cc pc = .ok (.putfield index, 3))
    (kk : JJ G C k n sz S Ln M (ua R a (us (R a) i (some b))) (pc + 3) lv st) : JJ G C k n sz S Ln M R pc lv (.ref b :: .ref a :: st) := by
  refine jj_put hC hk i (M a (i : Int)) (some b) hs hro hi hlk hfin hd hn hfit (by rw [hf0]; rfl) (by rw [hf0]; exact trivial) hdg ?_
  rw [ua_selfs]; exact kk
/-- a final field of a reference, in the constructor -/
theorem jj_putFR (hC : OKC G C own cc nL ret fr mc ms P X) {kd N index a b : Nat} {CN : String} {T : u_T} {ty0 : Nat → FieldType} (hk : KF kd CN T N ty0) (i : Nat) (hs : S a = kd) (hro : gm_ro kd = false) (hi : i < N) (hlk : Cond.fieldLink own index (T i).1 (T i).2.1 (T i).2.2.1 ∈ gW) (hfin : (T i).2.2.2 = true) (hinm : C.2.2.2.2.2.2.2.2.1.name = "<init>") (hdecl : (T i).1 = own) {ty : FieldType} (hd : ty0 i = ty) (hn : narrow ty (.ref b) = .ref b) (hfit : fits ty (.ref b) = true) (hf0 : gm_fty kd i = 1) (hdg : decode cc pc = .ok (.putfield index, 3))
    (kk : JJ G C k n sz S Ln M (ua R a (us (R a) i (some b))) (pc + 3) lv st) : JJ G C k n sz S Ln M R pc lv (.ref b :: .ref a :: st) := by
  refine jj_putF hC hk i (M a (i : Int)) (some b) hs hro hi hlk hfin hinm hdecl hd hn hfit (by rw [hf0]; rfl) (by rw [hf0]; exact trivial) hdg ?_
  rw [ua_selfs]; exact kk
/-- a field of an enum's constant -/
theorem jj_putE (hC : OKC G C own cc nL ret fr mc ms P X) {kd N index a b : Nat} {CN : String} {T : u_T} {ty0 : Nat → FieldType} (hk : KF kd CN T N ty0) (i : Nat) (z : Nat) (hz9 : z < 9) (hs : S a = kd) (hro : gm_ro kd = false) (hi : i < N) (hlk : Cond.fieldLink own index (T i).1 (T i).2.1 (T i).2.2.1 ∈ gW) (hfin : (T i).2.2.2 = false) {ty : FieldType} (hd : ty0 i = ty) (hn : narrow ty (.ref b) = .ref b) (hfit : fits ty (.ref b) = true) (hf0 : gm_fty kd i = 3) (hb9 : G.2.2.2.2 z = b) (hdg : decode cc pc = .ok (.putfield index, 3))
    (kk : JJ G C k n sz S Ln (ua M a (us (M a) i z)) R (pc + 3) lv st) : JJ G C k n sz S Ln M R pc lv (.ref b :: .ref a :: st) := by
  refine jj_put hC hk i (z : Int) (R a (i : Int)) hs hro hi hlk hfin hd hn hfit (by rw [hf0]; show (if (z : Int) < 0 then Value.null else Value.ref (G.2.2.2.2 (z : Int).toNat)) = _; rw [if_neg (by omega), Int.toNat_natCast, hb9]) (by rw [hf0]; exact ⟨by omega, by omega⟩) hdg ?_
  rw [ua_selfs]; exact kk
theorem jj_getI (hC : OKC G C own cc nL ret fr mc ms P X) {kd N index a : Nat} {CN : String} {T : u_T} {ty0 : Nat → FieldType} (hk : KF kd CN T N ty0) (i : Nat) (hs : S a = kd) (hi : i < N) (hlk : Cond.fieldLink own index (T i).1 (T i).2.1 (T i).2.2.1 ∈ gW) (hf0 : gm_fty kd i = 0) (hdg : decode cc pc = .ok (.getfield index, 3))
    (kk : (-2147483648 ≤ M a (i : Int) ∧ M a (i : Int) < 2147483648) → JJ G C k n sz S Ln M R (pc + 3) lv (.int (iI (M a (i : Int))) :: st)) : JJ G C k n sz S Ln M R pc lv (.ref a :: st) :=
  jj_get hC hk i hs hi hlk (by rw [hf0]; rfl) hdg (fun h => kk (by rw [hf0] at h; exact h))
theorem jj_getZ (hC : OKC G C own cc nL ret fr mc ms P X) {kd N index a : Nat} {CN : String} {T : u_T} {ty0 : Nat → FieldType} (hk : KF kd CN T N ty0) (i : Nat) (hs : S a = kd) (hi : i < N) (hlk : Cond.fieldLink own index (T i).1 (T i).2.1 (T i).2.2.1 ∈ gW) (hf0 : gm_fty kd i = 7) (hdg : decode cc pc = .ok (.getfield index, 3))
    (kk : 0 ≤ M a (i : Int) ∧ M a (i : Int) ≤ 1 → JJ G C k n sz S Ln M R (pc + 3) lv (.int (iI (M a (i : Int))) :: st)) : JJ G C k n sz S Ln M R pc lv (.ref a :: st) :=
  jj_get hC hk i hs hi hlk (by rw [hf0]; rfl) hdg (fun h => kk (by rw [hf0] at h; exact h))
theorem jj_getB (hC : OKC G C own cc nL ret fr mc ms P X) {kd N index a : Nat} {CN : String} {T : u_T} {ty0 : Nat → FieldType} (hk : KF kd CN T N ty0) (i : Nat) (hs : S a = kd) (hi : i < N) (hlk : Cond.fieldLink own index (T i).1 (T i).2.1 (T i).2.2.1 ∈ gW) (hf0 : gm_fty kd i = 6) (hdg : decode cc pc = .ok (.getfield index, 3))
    (kk : -128 ≤ M a (i : Int) ∧ M a (i : Int) < 128 → JJ G C k n sz S Ln M R (pc + 3) lv (.int (iI (M a (i : Int))) :: st)) : JJ G C k n sz S Ln M R pc lv (.ref a :: st) :=
  jj_get hC hk i hs hi hlk (by rw [hf0]; rfl) hdg (fun h => kk (by rw [hf0] at h; exact h))
theorem jj_getL (hC : OKC G C own cc nL ret fr mc ms P X) {kd N index a : Nat} {CN : String} {T : u_T} {ty0 : Nat → FieldType} (hk : KF kd CN T N ty0) (i : Nat) (hs : S a = kd) (hi : i < N) (hlk : Cond.fieldLink own index (T i).1 (T i).2.1 (T i).2.2.1 ∈ gW) (hf0 : gm_fty kd i = 2) (hdg : decode cc pc = .ok (.getfield index, 3))
    (kk : (-9223372036854775808 ≤ M a (i : Int) ∧ M a (i : Int) < 9223372036854775808) → JJ G C k n sz S Ln M R (pc + 3) lv (.long (lI (M a (i : Int))) :: st)) : JJ G C k n sz S Ln M R pc lv (.ref a :: st) :=
  jj_get hC hk i hs hi hlk (by rw [hf0]; rfl) hdg (fun h => kk (by rw [hf0] at h; exact h))
theorem jj_getR (hC : OKC G C own cc nL ret fr mc ms P X) {kd N index a b : Nat} {CN : String} {T : u_T} {ty0 : Nat → FieldType} (hk : KF kd CN T N ty0) (i : Nat) (hs : S a = kd) (hi : i < N) (hlk : Cond.fieldLink own index (T i).1 (T i).2.1 (T i).2.2.1 ∈ gW) (hf0 : gm_fty kd i = 1) (hr : R a (i : Int) = some b) (hdg : decode cc pc = .ok (.getfield index, 3))
    (kk : JJ G C k n sz S Ln M R (pc + 3) lv (.ref b :: st)) : JJ G C k n sz S Ln M R pc lv (.ref a :: st) :=
  jj_get hC hk i hs hi hlk (by rw [hf0, hr]; rfl) hdg (fun _ => kk)
theorem jj_getE (hC : OKC G C own cc nL ret fr mc ms P X) {kd N index a : Nat} {CN : String} {T : u_T} {ty0 : Nat → FieldType} (hk : KF kd CN T N ty0) (i : Nat) (hs : S a = kd) (hi : i < N) (hlk : Cond.fieldLink own index (T i).1 (T i).2.1 (T i).2.2.1 ∈ gW) (hf0 : gm_fty kd i = 3) (h0 : 0 ≤ M a (i : Int)) (hdg : decode cc pc = .ok (.getfield index, 3))
    (kk : M a (i : Int) < 9 → JJ G C k n sz S Ln M R (pc + 3) lv (.ref (G.2.2.2.2 (M a (i : Int)).toNat) :: st)) : JJ G C k n sz S Ln M R pc lv (.ref a :: st) :=
  jj_get hC hk i hs hi hlk (by rw [hf0]; show (if M a (i : Int) < 0 then Value.null else _) = _; rw [if_neg (by omega)]) hdg (fun h => kk (by rw [hf0] at h; exact h.2))
/-- an enum's constant -/
theorem jj_gets (hC : OKC G C own cc nL ret fr mc ms P X) {index : Nat} (i : Nat) {E nm d : String} {z : Nat} (hi : gEn[i]? = some (E, nm, d, z)) (hlk : Cond.fieldLink own index E nm d ∈ gW) (hdg : decode cc pc = .ok (.getstatic index, 3))
    (kk : JJ G C k n sz S Ln M R (pc + 3) lv (.ref (G.2.2.2.2 z) :: st)) : JJ G C k n sz S Ln M R pc lv st := by
  obtain ⟨p, l, e, Rm, s, m, args, below, meth, c, Q⟩ := C
  obtain ⟨hx, hb, hml, hown, hts, hE, hlk2, hrt, hst, hRm, hQ, htab, hz⟩ := hC
  intro H locs ls hR hS hl
  exact va_gets hx hb (hE.2.2.1 _ (List.mem_of_getElem? hi)) hS hown (hts _ hlk) (fun _ h => h) hdg (kk H locs ls hR hS hl)
theorem jj_getsV (hC : OKC G C own cc nL ret fr mc ms P X) {index : Nat} (i : Nat) {E nm d : String} {v : Value} (hi : gSv[i]? = some (E, nm, d, v)) (hlk : Cond.fieldLink own index E nm d ∈ gW) (hdg : decode cc pc = .ok (.getstatic index, 3))
    (kk : JJ G C k n sz S Ln M R (pc + 3) lv (v :: st)) : JJ G C k n sz S Ln M R pc lv st := by
  obtain ⟨p, l, e, Rm, s, m, args, below, meth, c, Q⟩ := C
  obtain ⟨hx, hb, hml, hown, hts, hE, hlk2, hrt, hst, hRm, hQ, htab, hz⟩ := hC
  intro H locs ls hR hS hl
  exact va_gets hx hb (hE.2.2.2.2.1 _ (List.mem_of_getElem? hi)) hS hown (hts _ hlk) (fun _ h => h) hdg (kk H locs ls hR hS hl)
/-- a String constant -/
theorem jj_ldcS (hC : OKC G C own cc nL ret fr mc ms P X) {index : Nat} (i : Nat) {tx : String} {z : Nat} (hi : gSt[i]? = some (own, index, tx, z)) (hdg : decode cc pc = .ok (.ldc index, 2))
    (kk : JJ G C k n sz S Ln M R (pc + 2) lv (.ref (G.2.2.2.2 (16 + z)) :: st)) : JJ G C k n sz S Ln M R pc lv st := by
  obtain ⟨p, l, e, Rm, s, m, args, below, meth, c, Q⟩ := C
  obtain ⟨hx, hb, hml, hown, hts, hE, hlk2, hrt, hst, hRm, hQ, htab, hz⟩ := hC
  intro H locs ls hR hS hl
  exact va_ldcS hx hb hown (hE.2.2.2.2.2.2.1 _ (List.mem_of_getElem? hi)) hdg (kk H locs ls hR hS hl)
theorem jj_ad {i j : Nat} (hC : OKC G C own cc nL ret fr mc ms P X) (hi : i < 9) (hj : j < 9) (h : G.2.2.2.2 i = G.2.2.2.2 j) : i = j := by
  obtain ⟨p, l, e, Rm, s, m, args, below, meth, c, Q⟩ := C
  obtain ⟨hx, hb, hml, hown, hts, hE, hlk2, hrt, hst, hRm, hQ, htab, hz⟩ := hC
  exact hE.2.2.2.1 i j hi hj h
/-! returns -/
theorem jj_iret (hC : OKC G C own cc nL (some .int) fr mc ms P X) {v : Int32} (h1 : k ≤ mc) (h2 : n ≤ ms) (hdg : decode cc pc = .ok (.ireturn, 1)) (hP : P (some (.int v)) sz S Ln M R) : JJ G C k n sz S Ln M R pc lv [.int v] := by
  obtain ⟨p, l, e, Rm, s, m, args, below, meth, c, Q⟩ := C
  obtain ⟨hx, hb, hml, hown, hts, hE, hlk, hrt, hst, hRm, hQ, htab, hz⟩ := hC
  intro H locs ls hR hS hl
  subst hQ
  refine W.widen h1 h2 (vx_ret (W.iret hx hb hrt (fun t ht _ => ⟨⟨_, sz, S, Ln, M, R, rfl, hP, by rw [ht]; exact hR⟩, ⟨by rw [ht]; exact hS.1, fun q a b => by rw [ht]; exact hS.2.1 q a b⟩⟩) hS.2.2 hdg hlk))
theorem jj_zret (hC : OKC G C own cc nL (some .boolean) fr mc ms P X) {z : Int} (h01 : 0 ≤ z ∧ z ≤ 1) (h1 : k ≤ mc) (h2 : n ≤ ms) (hdg : decode cc pc = .ok (.ireturn, 1)) (hP : P (some (.int (iI z))) sz S Ln M R) : JJ G C k n sz S Ln M R pc lv [.int (iI z)] := by
  obtain ⟨p, l, e, Rm, s, m, args, below, meth, c, Q⟩ := C
  obtain ⟨hx, hb, hml, hown, hts, hE, hlk, hrt, hst, hRm, hQ, htab, hz⟩ := hC
  intro H locs ls hR hS hl
  subst hQ
  have h3 : z = 0 ∨ z = 1 := by omega
  refine W.widen h1 h2 (vx_ret (W.zret hx hb hrt (by rcases h3 with rfl | rfl <;> rfl) (fun t ht _ => ⟨⟨_, sz, S, Ln, M, R, rfl, hP, by rw [ht]; exact hR⟩, ⟨by rw [ht]; exact hS.1, fun q a b => by rw [ht]; exact hS.2.1 q a b⟩⟩) hS.2.2 hdg hlk))
theorem jj_cret (hC : OKC G C own cc nL (some .char) fr mc ms P X) {z : Int} (h01 : 0 ≤ z ∧ z < 65536) (h1 : k ≤ mc) (h2 : n ≤ ms) (hdg : decode cc pc = .ok (.ireturn, 1)) (hP : P (some (.int (iI z))) sz S Ln M R) : JJ G C k n sz S Ln M R pc lv [.int (iI z)] := by
  obtain ⟨p, l, e, Rm, s, m, args, below, meth, c, Q⟩ := C
  obtain ⟨hx, hb, hml, hown, hts, hE, hlk, hrt, hst, hRm, hQ, htab, hz⟩ := hC
  intro H locs ls hR hS hl
  subst hQ
  refine W.widen h1 h2 (vx_ret (W.zret hx hb hrt (by rw [jj_nI h01.1]; exact (pk_charN (by omega)).1) (fun t ht _ => ⟨⟨_, sz, S, Ln, M, R, rfl, hP, by rw [ht]; exact hR⟩, ⟨by rw [ht]; exact hS.1, fun q a b => by rw [ht]; exact hS.2.1 q a b⟩⟩) hS.2.2 hdg hlk))
theorem jj_lret (hC : OKC G C own cc nL (some .long) fr mc ms P X) {v : Int64} (h1 : k ≤ mc) (h2 : n ≤ ms) (hdg : decode cc pc = .ok (.lreturn, 1)) (hP : P (some (.long v)) sz S Ln M R) : JJ G C k n sz S Ln M R pc lv [.long v] := by
  obtain ⟨p, l, e, Rm, s, m, args, below, meth, c, Q⟩ := C
  obtain ⟨hx, hb, hml, hown, hts, hE, hlk, hrt, hst, hRm, hQ, htab, hz⟩ := hC
  intro H locs ls hR hS hl
  subst hQ
  refine W.widen h1 h2 (vx_ret (W.lret hx hb hrt (fun t ht _ => ⟨⟨_, sz, S, Ln, M, R, rfl, hP, by rw [ht]; exact hR⟩, ⟨by rw [ht]; exact hS.1, fun q a b => by rw [ht]; exact hS.2.1 q a b⟩⟩) hS.2.2 hdg hlk))
theorem jj_fret (hC : OKC G C own cc nL (some .float) fr mc ms P X) {v : UInt32} (h1 : k ≤ mc) (h2 : n ≤ ms) (hdg : decode cc pc = .ok (.freturn, 1)) (hP : P (some (.float v)) sz S Ln M R) : JJ G C k n sz S Ln M R pc lv [.float v] := by
  obtain ⟨p, l, e, Rm, s, m, args, below, meth, c, Q⟩ := C
  obtain ⟨hx, hb, hml, hown, hts, hE, hlk, hrt, hst, hRm, hQ, htab, hz⟩ := hC
  intro H locs ls hR hS hl
  subst hQ
  refine W.widen h1 h2 (vx_ret (W.fret hx hb hrt (fun t ht _ => ⟨⟨_, sz, S, Ln, M, R, rfl, hP, by rw [ht]; exact hR⟩, ⟨by rw [ht]; exact hS.1, fun q a b => by rw [ht]; exact hS.2.1 q a b⟩⟩) hS.2.2 hdg hlk))
theorem jj_dret (hC : OKC G C own cc nL (some .double) fr mc ms P X) {v : UInt64} (h1 : k ≤ mc) (h2 : n ≤ ms) (hdg : decode cc pc = .ok (.dreturn, 1)) (hP : P (some (.double v)) sz S Ln M R) : JJ G C k n sz S Ln M R pc lv [.double v] := by
  obtain ⟨p, l, e, Rm, s, m, args, below, meth, c, Q⟩ := C
  obtain ⟨hx, hb, hml, hown, hts, hE, hlk, hrt, hst, hRm, hQ, htab, hz⟩ := hC
  intro H locs ls hR hS hl
  subst hQ
  refine W.widen h1 h2 (vx_ret (W.dret hx hb hrt (fun t ht _ => ⟨⟨_, sz, S, Ln, M, R, rfl, hP, by rw [ht]; exact hR⟩, ⟨by rw [ht]; exact hS.1, fun q a b => by rw [ht]; exact hS.2.1 q a b⟩⟩) hS.2.2 hdg hlk))
theorem jj_aret (hC : OKC G C own cc nL ret fr mc ms P X) {a : Nat} {rt : FieldType} (hrt0 : ret = some rt) (hrf : (∃ n, rt = .object n) ∨ ∃ t, rt = .array t) (h1 : k ≤ mc) (h2 : n ≤ ms) (hdg : decode cc pc = .ok (.areturn, 1)) (hP : P (some (.ref a)) sz S Ln M R) : JJ G C k n sz S Ln M R pc lv [.ref a] := by
  obtain ⟨p, l, e, Rm, s, m, args, below, meth, c, Q⟩ := C
  obtain ⟨hx, hb, hml, hown, hts, hE, hlk, hrt, hst, hRm, hQ, htab, hz⟩ := hC
  intro H locs ls hR hS hl
  subst hQ
  refine W.widen h1 h2 (vx_ret (W.aret hx hb (hrt.trans hrt0) hrf (Or.inr ⟨a, rfl⟩) (fun t ht _ => ⟨⟨_, sz, S, Ln, M, R, rfl, hP, by rw [ht]; exact hR⟩, ⟨by rw [ht]; exact hS.1, fun q a b => by rw [ht]; exact hS.2.1 q a b⟩⟩) hS.2.2 hdg hlk))
theorem jj_vret (hC : OKC G C own cc nL none fr mc ms P X) (h1 : k ≤ mc) (h2 : n ≤ ms) (hdg : decode cc pc = .ok (.return_, 1)) (hP : P none sz S Ln M R) : JJ G C k n sz S Ln M R pc lv [] := by
  obtain ⟨p, l, e, Rm, s, m, args, below, meth, c, Q⟩ := C
  obtain ⟨hx, hb, hml, hown, hts, hE, hlk, hrt, hst, hRm, hQ, htab, hz⟩ := hC
  intro H locs ls hR hS hl
  subst hQ
  refine W.widen h1 h2 (vx_ret (W.vret hx hb hrt (fun t ht _ => ⟨⟨_, sz, S, Ln, M, R, rfl, hP, by rw [ht]; exact hR⟩, ⟨by rw [ht]; exact hS.1, fun q a b => by rw [ht]; exact hS.2.1 q a b⟩⟩) hS.2.2 hdg hlk))
end JJR
end
section
theorem j8_i2c {x : Int} (h : 0 ≤ x ∧ x < 65536) : ((iI x).toUInt32 % 65536).toInt32 = iI x := by
  rw [jj_nI h.1]
  have e := pk_char (nI x.toNat)
  rw [e]
  have e2 : (nI x.toNat).toBitVec.toNat = x.toNat := pk_tn (by omega)
  rw [e2, Nat.mod_eq_of_lt (by omega)]
theorem j8_i2b {x : Int} (h : -128 ≤ x ∧ x < 128) : (iI x).toInt8.toInt32 = iI x := by
  rw [← Int32.toInt_inj, Int8.toInt_toInt32, Int32.toInt_toInt8, iI_toInt (by omega)]
  have h8 : Int8.size = 256 := rfl
  exact Int.bmod_eq_of_le (by omega) (by omega)
theorem j8_lcmp {x y : Int} (hx : (-9223372036854775808 ≤ x ∧ x < 9223372036854775808)) (hy : (-9223372036854775808 ≤ y ∧ y < 9223372036854775808)) : lg_cmp (lI x) (lI y) = iI (if x < y then -1 else if x = y then 0 else 1) := by
  unfold lg_cmp
  simp only [gt_iff_lt, lI_lt hy hx, lI_eq hx hy]
  rcases Int.lt_trichotomy x y with h | h | h
  · rw [if_neg (by omega), if_neg (by omega), if_pos h]; rfl
  · rw [if_neg (by omega), if_pos h, if_neg (by omega), if_pos h]; rfl
  · rw [if_pos h, if_neg (by omega), if_neg (by omega)]; rfl

section JJI
variable {G : gE} {C : gC} {own : String} {cc : ByteArray} {nL : Nat} {ret : Option FieldType} {fr mc ms : Nat} {P : gP} {X : gX} {k n sz : Nat} {S Ln : Nat → Nat} {M : gM} {R : gR} {pc : Nat} {lv lv' : List (Nat × Value)} {st : List Value}
theorem jj_iconst (hC : OKC G C own cc nL ret fr mc ms P X) {z : Int} (hd : decode cc pc = .ok (.iconst z, 1))  (kk : JJ G C k n sz S Ln M R (pc + 1) lv (.int (iI z) :: st)) : JJ G C k n sz S Ln M R pc lv (st) := by
  obtain ⟨p, l, e, Rm, s, m, args, below, meth, c, Q⟩ := C
  obtain ⟨hx, hb, hml, hown, hts, hE, hlk, hrt, hst, hRm, hQ, htab, hz⟩ := hC
  intro H locs ls hR hS hl
  exact lv_iconst hx hb hd rfl (kk H locs ls hR hS hl)

theorem jj_bipush (hC : OKC G C own cc nL ret fr mc ms P X) {z : Int} (hd : decode cc pc = .ok (.bipush z, 2)) (hz8 : -128 ≤ z ∧ z < 128) (kk : JJ G C k n sz S Ln M R (pc + 2) lv (.int (iI z) :: st)) : JJ G C k n sz S Ln M R pc lv (st) := by
  obtain ⟨p, l, e, Rm, s, m, args, below, meth, c, Q⟩ := C
  obtain ⟨hx, hb, hml, hown, hts, hE, hlk, hrt, hst, hRm, hQ, htab, hz⟩ := hC
  intro H locs ls hR hS hl
  exact lv_bipush hx hb hd (jj_i8 hz8) (kk H locs ls hR hS hl)

theorem jj_sipush (hC : OKC G C own cc nL ret fr mc ms P X) {z : Int} (hd : decode cc pc = .ok (.sipush z, 3)) (hz16 : -32768 ≤ z ∧ z < 32768) (kk : JJ G C k n sz S Ln M R (pc + 3) lv (.int (iI z) :: st)) : JJ G C k n sz S Ln M R pc lv (st) := by
  obtain ⟨p, l, e, Rm, s, m, args, below, meth, c, Q⟩ := C
  obtain ⟨hx, hb, hml, hown, hts, hE, hlk, hrt, hst, hRm, hQ, htab, hz⟩ := hC
  intro H locs ls hR hS hl
  exact lv_sipush hx hb hd (jj_i16 hz16) (kk H locs ls hR hS hl)

theorem jj_lconst (hC : OKC G C own cc nL ret fr mc ms P X) {j : Fin 2} {z : Int} (hd : decode cc pc = .ok (.lconst j, 1)) (hj : ((j : Nat) : Int) = z) (kk : JJ G C k n sz S Ln M R (pc + 1) lv (.long (lI z) :: st)) : JJ G C k n sz S Ln M R pc lv (st) := by
  obtain ⟨p, l, e, Rm, s, m, args, below, meth, c, Q⟩ := C
  obtain ⟨hx, hb, hml, hown, hts, hE, hlk, hrt, hst, hRm, hQ, htab, hz⟩ := hC
  intro H locs ls hR hS hl
  subst hj; exact lv_lconst hx hb hd rfl (kk H locs ls hR hS hl)

theorem jj_iload_n (hC : OKC G C own cc nL ret fr mc ms P X) {j : Fin 4} {i : Nat} {x : Int32} (hd : decode cc pc = .ok (.iload_n j, 1)) (hi : (j : Nat) = i) (q : Nat) (hq : lv[q]? = some (i, .int x)) (kk : JJ G C k n sz S Ln M R (pc + 1) lv (.int x :: st)) : JJ G C k n sz S Ln M R pc lv (st) := by
  obtain ⟨p, l, e, Rm, s, m, args, below, meth, c, Q⟩ := C
  obtain ⟨hx, hb, hml, hown, hts, hE, hlk, hrt, hst, hRm, hQ, htab, hz⟩ := hC
  intro H locs ls hR hS hl
  exact lv_iload_n hx hb hd hi (lv_at hl q hq) (kk H locs ls hR hS hl)

theorem jj_iload (hC : OKC G C own cc nL ret fr mc ms P X) {i : Nat} {x : Int32} (hd : decode cc pc = .ok (.iload i, 2)) (q : Nat) (hq : lv[q]? = some (i, .int x)) (kk : JJ G C k n sz S Ln M R (pc + 2) lv (.int x :: st)) : JJ G C k n sz S Ln M R pc lv (st) := by
  obtain ⟨p, l, e, Rm, s, m, args, below, meth, c, Q⟩ := C
  obtain ⟨hx, hb, hml, hown, hts, hE, hlk, hrt, hst, hRm, hQ, htab, hz⟩ := hC
  intro H locs ls hR hS hl
  exact lv_iload hx hb hd (lv_at hl q hq) (kk H locs ls hR hS hl)

theorem jj_lload_n (hC : OKC G C own cc nL ret fr mc ms P X) {j : Fin 4} {i : Nat} {x : Int64} (hd : decode cc pc = .ok (.lload_n j, 1)) (hi : (j : Nat) = i) (q : Nat) (hq : lv[q]? = some (i, .long x)) (kk : JJ G C k n sz S Ln M R (pc + 1) lv (.long x :: st)) : JJ G C k n sz S Ln M R pc lv (st) := by
  obtain ⟨p, l, e, Rm, s, m, args, below, meth, c, Q⟩ := C
  obtain ⟨hx, hb, hml, hown, hts, hE, hlk, hrt, hst, hRm, hQ, htab, hz⟩ := hC
  intro H locs ls hR hS hl
  exact lv_lload_n hx hb hd hi (lv_at hl q hq) (kk H locs ls hR hS hl)

theorem jj_lload (hC : OKC G C own cc nL ret fr mc ms P X) {i : Nat} {x : Int64} (hd : decode cc pc = .ok (.lload i, 2)) (q : Nat) (hq : lv[q]? = some (i, .long x)) (kk : JJ G C k n sz S Ln M R (pc + 2) lv (.long x :: st)) : JJ G C k n sz S Ln M R pc lv (st) := by
  obtain ⟨p, l, e, Rm, s, m, args, below, meth, c, Q⟩ := C
  obtain ⟨hx, hb, hml, hown, hts, hE, hlk, hrt, hst, hRm, hQ, htab, hz⟩ := hC
  intro H locs ls hR hS hl
  exact lv_lload hx hb hd (lv_at hl q hq) (kk H locs ls hR hS hl)

theorem jj_fload_n (hC : OKC G C own cc nL ret fr mc ms P X) {j : Fin 4} {i : Nat} {x : UInt32} (hd : decode cc pc = .ok (.fload_n j, 1)) (hi : (j : Nat) = i) (q : Nat) (hq : lv[q]? = some (i, .float x)) (kk : JJ G C k n sz S Ln M R (pc + 1) lv (.float x :: st)) : JJ G C k n sz S Ln M R pc lv (st) := by
  obtain ⟨p, l, e, Rm, s, m, args, below, meth, c, Q⟩ := C
  obtain ⟨hx, hb, hml, hown, hts, hE, hlk, hrt, hst, hRm, hQ, htab, hz⟩ := hC
  intro H locs ls hR hS hl
  exact lv_fload_n hx hb hd hi (lv_at hl q hq) (kk H locs ls hR hS hl)

theorem jj_fload (hC : OKC G C own cc nL ret fr mc ms P X) {i : Nat} {x : UInt32} (hd : decode cc pc = .ok (.fload i, 2)) (q : Nat) (hq : lv[q]? = some (i, .float x)) (kk : JJ G C k n sz S Ln M R (pc + 2) lv (.float x :: st)) : JJ G C k n sz S Ln M R pc lv (st) := by
  obtain ⟨p, l, e, Rm, s, m, args, below, meth, c, Q⟩ := C
  obtain ⟨hx, hb, hml, hown, hts, hE, hlk, hrt, hst, hRm, hQ, htab, hz⟩ := hC
  intro H locs ls hR hS hl
  exact lv_fload hx hb hd (lv_at hl q hq) (kk H locs ls hR hS hl)

theorem jj_dload_n (hC : OKC G C own cc nL ret fr mc ms P X) {j : Fin 4} {i : Nat} {x : UInt64} (hd : decode cc pc = .ok (.dload_n j, 1)) (hi : (j : Nat) = i) (q : Nat) (hq : lv[q]? = some (i, .double x)) (kk : JJ G C k n sz S Ln M R (pc + 1) lv (.double x :: st)) : JJ G C k n sz S Ln M R pc lv (st) := by
  obtain ⟨p, l, e, Rm, s, m, args, below, meth, c, Q⟩ := C
  obtain ⟨hx, hb, hml, hown, hts, hE, hlk, hrt, hst, hRm, hQ, htab, hz⟩ := hC
  intro H locs ls hR hS hl
  exact lv_dload_n hx hb hd hi (lv_at hl q hq) (kk H locs ls hR hS hl)

theorem jj_dload (hC : OKC G C own cc nL ret fr mc ms P X) {i : Nat} {x : UInt64} (hd : decode cc pc = .ok (.dload i, 2)) (q : Nat) (hq : lv[q]? = some (i, .double x)) (kk : JJ G C k n sz S Ln M R (pc + 2) lv (.double x :: st)) : JJ G C k n sz S Ln M R pc lv (st) := by
  obtain ⟨p, l, e, Rm, s, m, args, below, meth, c, Q⟩ := C
  obtain ⟨hx, hb, hml, hown, hts, hE, hlk, hrt, hst, hRm, hQ, htab, hz⟩ := hC
  intro H locs ls hR hS hl
  exact lv_dload hx hb hd (lv_at hl q hq) (kk H locs ls hR hS hl)

theorem jj_aload_n (hC : OKC G C own cc nL ret fr mc ms P X) {j : Fin 4} {i : Nat} {x : Nat} (hd : decode cc pc = .ok (.aload_n j, 1)) (hi : (j : Nat) = i) (q : Nat) (hq : lv[q]? = some (i, .ref x)) (kk : JJ G C k n sz S Ln M R (pc + 1) lv (.ref x :: st)) : JJ G C k n sz S Ln M R pc lv (st) := by
  obtain ⟨p, l, e, Rm, s, m, args, below, meth, c, Q⟩ := C
  obtain ⟨hx, hb, hml, hown, hts, hE, hlk, hrt, hst, hRm, hQ, htab, hz⟩ := hC
  intro H locs ls hR hS hl
  exact lv_aload_n hx hb hd hi (lv_at hl q hq) (kk H locs ls hR hS hl)

theorem jj_aload (hC : OKC G C own cc nL ret fr mc ms P X) {i : Nat} {x : Nat} (hd : decode cc pc = .ok (.aload i, 2)) (q : Nat) (hq : lv[q]? = some (i, .ref x)) (kk : JJ G C k n sz S Ln M R (pc + 2) lv (.ref x :: st)) : JJ G C k n sz S Ln M R pc lv (st) := by
  obtain ⟨p, l, e, Rm, s, m, args, below, meth, c, Q⟩ := C
  obtain ⟨hx, hb, hml, hown, hts, hE, hlk, hrt, hst, hRm, hQ, htab, hz⟩ := hC
  intro H locs ls hR hS hl
  exact lv_aload hx hb hd (lv_at hl q hq) (kk H locs ls hR hS hl)

theorem jj_istore_n (hC : OKC G C own cc nL ret fr mc ms P X) {j : Fin 4} {i : Nat} {x : Int32} {lv' : List (Nat × Value)} (hd : decode cc pc = .ok (.istore_n j, 1)) (hi : (j : Nat) = i) (hn : i < nL) (hl2 : (i, Value.int x) :: lv.filter (fun q => !(q.1 == i) && !(q.1 + 1 == i && q.2.category == 2)) = lv') (kk : JJ G C k n sz S Ln M R (pc + 1) lv' (st)) : JJ G C k n sz S Ln M R pc lv (.int x :: st) := by
  obtain ⟨p, l, e, Rm, s, m, args, below, meth, c, Q⟩ := C
  obtain ⟨hx, hb, hml, hown, hts, hE, hlk, hrt, hst, hRm, hQ, htab, hz⟩ := hC
  intro H locs ls hR hS hl
  exact lv_istore_n hx hb hd hi hl (by rw [hml]; exact hn) hl2 (fun ls' hl' => kk H locs ls' hR hS hl')

theorem jj_istore (hC : OKC G C own cc nL ret fr mc ms P X) {i : Nat} {x : Int32} {lv' : List (Nat × Value)} (hd : decode cc pc = .ok (.istore i, 2)) (hn : i < nL) (hl2 : (i, Value.int x) :: lv.filter (fun q => !(q.1 == i) && !(q.1 + 1 == i && q.2.category == 2)) = lv') (kk : JJ G C k n sz S Ln M R (pc + 2) lv' (st)) : JJ G C k n sz S Ln M R pc lv (.int x :: st) := by
  obtain ⟨p, l, e, Rm, s, m, args, below, meth, c, Q⟩ := C
  obtain ⟨hx, hb, hml, hown, hts, hE, hlk, hrt, hst, hRm, hQ, htab, hz⟩ := hC
  intro H locs ls hR hS hl
  exact lv_istore hx hb hd hl (by rw [hml]; exact hn) hl2 (fun ls' hl' => kk H locs ls' hR hS hl')

theorem jj_lstore_n (hC : OKC G C own cc nL ret fr mc ms P X) {j : Fin 4} {i : Nat} {x : Int64} {lv' : List (Nat × Value)} (hd : decode cc pc = .ok (.lstore_n j, 1)) (hi : (j : Nat) = i) (hn : i + 1 < nL) (hl2 : (i, Value.long x) :: lv.filter (fun q => !(q.1 == i) && (!(q.1 == i + 1) && !(q.1 + 1 == i && q.2.category == 2))) = lv') (kk : JJ G C k n sz S Ln M R (pc + 1) lv' (st)) : JJ G C k n sz S Ln M R pc lv (.long x :: st) := by
  obtain ⟨p, l, e, Rm, s, m, args, below, meth, c, Q⟩ := C
  obtain ⟨hx, hb, hml, hown, hts, hE, hlk, hrt, hst, hRm, hQ, htab, hz⟩ := hC
  intro H locs ls hR hS hl
  exact lv_lstore_n hx hb hd hi hl (by rw [hml]; exact hn) hl2 (fun ls' hl' => kk H locs ls' hR hS hl')

theorem jj_lstore (hC : OKC G C own cc nL ret fr mc ms P X) {i : Nat} {x : Int64} {lv' : List (Nat × Value)} (hd : decode cc pc = .ok (.lstore i, 2)) (hn : i + 1 < nL) (hl2 : (i, Value.long x) :: lv.filter (fun q => !(q.1 == i) && (!(q.1 == i + 1) && !(q.1 + 1 == i && q.2.category == 2))) = lv') (kk : JJ G C k n sz S Ln M R (pc + 2) lv' (st)) : JJ G C k n sz S Ln M R pc lv (.long x :: st) := by
  obtain ⟨p, l, e, Rm, s, m, args, below, meth, c, Q⟩ := C
  obtain ⟨hx, hb, hml, hown, hts, hE, hlk, hrt, hst, hRm, hQ, htab, hz⟩ := hC
  intro H locs ls hR hS hl
  exact lv_lstore hx hb hd hl (by rw [hml]; exact hn) hl2 (fun ls' hl' => kk H locs ls' hR hS hl')

theorem jj_fstore_n (hC : OKC G C own cc nL ret fr mc ms P X) {j : Fin 4} {i : Nat} {x : UInt32} {lv' : List (Nat × Value)} (hd : decode cc pc = .ok (.fstore_n j, 1)) (hi : (j : Nat) = i) (hn : i < nL) (hl2 : (i, Value.float x) :: lv.filter (fun q => !(q.1 == i) && !(q.1 + 1 == i && q.2.category == 2)) = lv') (kk : JJ G C k n sz S Ln M R (pc + 1) lv' (st)) : JJ G C k n sz S Ln M R pc lv (.float x :: st) := by
  obtain ⟨p, l, e, Rm, s, m, args, below, meth, c, Q⟩ := C
  obtain ⟨hx, hb, hml, hown, hts, hE, hlk, hrt, hst, hRm, hQ, htab, hz⟩ := hC
  intro H locs ls hR hS hl
  exact lv_fstore_n hx hb hd hi hl (by rw [hml]; exact hn) hl2 (fun ls' hl' => kk H locs ls' hR hS hl')

theorem jj_fstore (hC : OKC G C own cc nL ret fr mc ms P X) {i : Nat} {x : UInt32} {lv' : List (Nat × Value)} (hd : decode cc pc = .ok (.fstore i, 2)) (hn : i < nL) (hl2 : (i, Value.float x) :: lv.filter (fun q => !(q.1 == i) && !(q.1 + 1 == i && q.2.category == 2)) = lv') (kk : JJ G C k n sz S Ln M R (pc + 2) lv' (st)) : JJ G C k n sz S Ln M R pc lv (.float x :: st) := by
  obtain ⟨p, l, e, Rm, s, m, args, below, meth, c, Q⟩ := C
  obtain ⟨hx, hb, hml, hown, hts, hE, hlk, hrt, hst, hRm, hQ, htab, hz⟩ := hC
  intro H locs ls hR hS hl
  exact lv_fstore hx hb hd hl (by rw [hml]; exact hn) hl2 (fun ls' hl' => kk H locs ls' hR hS hl')

theorem jj_dstore_n (hC : OKC G C own cc nL ret fr mc ms P X) {j : Fin 4} {i : Nat} {x : UInt64} {lv' : List (Nat × Value)} (hd : decode cc pc = .ok (.dstore_n j, 1)) (hi : (j : Nat) = i) (hn : i + 1 < nL) (hl2 : (i, Value.double x) :: lv.filter (fun q => !(q.1 == i) && (!(q.1 == i + 1) && !(q.1 + 1 == i && q.2.category == 2))) = lv') (kk : JJ G C k n sz S Ln M R (pc + 1) lv' (st)) : JJ G C k n sz S Ln M R pc lv (.double x :: st) := by
  obtain ⟨p, l, e, Rm, s, m, args, below, meth, c, Q⟩ := C
  obtain ⟨hx, hb, hml, hown, hts, hE, hlk, hrt, hst, hRm, hQ, htab, hz⟩ := hC
  intro H locs ls hR hS hl
  exact lv_dstore_n hx hb hd hi hl (by rw [hml]; exact hn) hl2 (fun ls' hl' => kk H locs ls' hR hS hl')

theorem jj_dstore (hC : OKC G C own cc nL ret fr mc ms P X) {i : Nat} {x : UInt64} {lv' : List (Nat × Value)} (hd : decode cc pc = .ok (.dstore i, 2)) (hn : i + 1 < nL) (hl2 : (i, Value.double x) :: lv.filter (fun q => !(q.1 == i) && (!(q.1 == i + 1) && !(q.1 + 1 == i && q.2.category == 2))) = lv') (kk : JJ G C k n sz S Ln M R (pc + 2) lv' (st)) : JJ G C k n sz S Ln M R pc lv (.double x :: st) := by
  obtain ⟨p, l, e, Rm, s, m, args, below, meth, c, Q⟩ := C
  obtain ⟨hx, hb, hml, hown, hts, hE, hlk, hrt, hst, hRm, hQ, htab, hz⟩ := hC
  intro H locs ls hR hS hl
  exact lv_dstore hx hb hd hl (by rw [hml]; exact hn) hl2 (fun ls' hl' => kk H locs ls' hR hS hl')

theorem jj_astore_n (hC : OKC G C own cc nL ret fr mc ms P X) {j : Fin 4} {i : Nat} {x : Nat} {lv' : List (Nat × Value)} (hd : decode cc pc = .ok (.astore_n j, 1)) (hi : (j : Nat) = i) (hn : i < nL) (hl2 : (i, Value.ref x) :: lv.filter (fun q => !(q.1 == i) && !(q.1 + 1 == i && q.2.category == 2)) = lv') (kk : JJ G C k n sz S Ln M R (pc + 1) lv' (st)) : JJ G C k n sz S Ln M R pc lv (.ref x :: st) := by
  obtain ⟨p, l, e, Rm, s, m, args, below, meth, c, Q⟩ := C
  obtain ⟨hx, hb, hml, hown, hts, hE, hlk, hrt, hst, hRm, hQ, htab, hz⟩ := hC
  intro H locs ls hR hS hl
  exact lv_astore_n hx hb hd hi hl (by rw [hml]; exact hn) hl2 (fun ls' hl' => kk H locs ls' hR hS hl')

theorem jj_astore (hC : OKC G C own cc nL ret fr mc ms P X) {i : Nat} {x : Nat} {lv' : List (Nat × Value)} (hd : decode cc pc = .ok (.astore i, 2)) (hn : i < nL) (hl2 : (i, Value.ref x) :: lv.filter (fun q => !(q.1 == i) && !(q.1 + 1 == i && q.2.category == 2)) = lv') (kk : JJ G C k n sz S Ln M R (pc + 2) lv' (st)) : JJ G C k n sz S Ln M R pc lv (.ref x :: st) := by
  obtain ⟨p, l, e, Rm, s, m, args, below, meth, c, Q⟩ := C
  obtain ⟨hx, hb, hml, hown, hts, hE, hlk, hrt, hst, hRm, hQ, htab, hz⟩ := hC
  intro H locs ls hR hS hl
  exact lv_astore hx hb hd hl (by rw [hml]; exact hn) hl2 (fun ls' hl' => kk H locs ls' hR hS hl')

theorem jj_iinc (hC : OKC G C own cc nL ret fr mc ms P X) {i q : Nat} {z x : Int} {lv' : List (Nat × Value)} (hd : decode cc pc = .ok (.iinc i z, 3)) (hq : lv[q]? = some (i, .int (iI x))) (hn : i < nL) (hl2 : (i, Value.int (iI (x + z))) :: lv.filter (fun q => !(q.1 == i) && !(q.1 + 1 == i && q.2.category == 2)) = lv') (kk : JJ G C k n sz S Ln M R (pc + 3) lv' (st)) : JJ G C k n sz S Ln M R pc lv (st) := by
  obtain ⟨p, l, e, Rm, s, m, args, below, meth, c, Q⟩ := C
  obtain ⟨hx, hb, hml, hown, hts, hE, hlk, hrt, hst, hRm, hQ, htab, hz⟩ := hC
  intro H locs ls hR hS hl
  exact lv_iinc hx hb hd hl hq (iI_add x z) (by rw [hml]; exact hn) hl2 (fun ls' hl' => kk H locs ls' hR hS hl')

theorem jj_iadd (hC : OKC G C own cc nL ret fr mc ms P X) {x y : Int} (hd : decode cc pc = .ok (.iadd, 1))  (kk : JJ G C k n sz S Ln M R (pc + 1) lv (.int (iI (x + y)) :: st)) : JJ G C k n sz S Ln M R pc lv (.int (iI y) :: .int (iI x) :: st) := by
  obtain ⟨p, l, e, Rm, s, m, args, below, meth, c, Q⟩ := C
  obtain ⟨hx, hb, hml, hown, hts, hE, hlk, hrt, hst, hRm, hQ, htab, hz⟩ := hC
  intro H locs ls hR hS hl
  exact lv_iadd hx hb hd (by rw [iI_add]; exact (kk H locs ls hR hS hl))

theorem jj_isub (hC : OKC G C own cc nL ret fr mc ms P X) {x y : Int} (hd : decode cc pc = .ok (.isub, 1))  (kk : JJ G C k n sz S Ln M R (pc + 1) lv (.int (iI (x - y)) :: st)) : JJ G C k n sz S Ln M R pc lv (.int (iI y) :: .int (iI x) :: st) := by
  obtain ⟨p, l, e, Rm, s, m, args, below, meth, c, Q⟩ := C
  obtain ⟨hx, hb, hml, hown, hts, hE, hlk, hrt, hst, hRm, hQ, htab, hz⟩ := hC
  intro H locs ls hR hS hl
  exact lv_isub hx hb hd (by rw [iI_sub]; exact (kk H locs ls hR hS hl))

theorem jj_imul (hC : OKC G C own cc nL ret fr mc ms P X) {x y : Int} (hd : decode cc pc = .ok (.imul, 1))  (kk : JJ G C k n sz S Ln M R (pc + 1) lv (.int (iI (x * y)) :: st)) : JJ G C k n sz S Ln M R pc lv (.int (iI y) :: .int (iI x) :: st) := by
  obtain ⟨p, l, e, Rm, s, m, args, below, meth, c, Q⟩ := C
  obtain ⟨hx, hb, hml, hown, hts, hE, hlk, hrt, hst, hRm, hQ, htab, hz⟩ := hC
  intro H locs ls hR hS hl
  exact lv_imul hx hb hd (by rw [iI_mul]; exact (kk H locs ls hR hS hl))

theorem jj_ineg (hC : OKC G C own cc nL ret fr mc ms P X) {x : Int} (hd : decode cc pc = .ok (.ineg, 1))  (kk : JJ G C k n sz S Ln M R (pc + 1) lv (.int (iI (-x)) :: st)) : JJ G C k n sz S Ln M R pc lv (.int (iI x) :: st) := by
  obtain ⟨p, l, e, Rm, s, m, args, below, meth, c, Q⟩ := C
  obtain ⟨hx, hb, hml, hown, hts, hE, hlk, hrt, hst, hRm, hQ, htab, hz⟩ := hC
  intro H locs ls hR hS hl
  exact lv_ineg hx hb hd (by rw [iI_neg]; exact (kk H locs ls hR hS hl))

theorem jj_idiv (hC : OKC G C own cc nL ret fr mc ms P X) {x y : Int} (hd : decode cc pc = .ok (.idiv, 1)) (hrx : (-2147483648 ≤ x ∧ x < 2147483648)) (hry : (-2147483648 ≤ y ∧ y < 2147483648)) (h0 : 0 < y) (kk : JJ G C k n sz S Ln M R (pc + 1) lv (.int (iI (Int.tdiv x y)) :: st)) : JJ G C k n sz S Ln M R pc lv (.int (iI y) :: .int (iI x) :: st) := by
  obtain ⟨p, l, e, Rm, s, m, args, below, meth, c, Q⟩ := C
  obtain ⟨hx, hb, hml, hown, hts, hE, hlk, hrt, hst, hRm, hQ, htab, hz⟩ := hC
  intro H locs ls hR hS hl
  exact lv_idiv hx hb hd (jj_ne0 hry h0) (by rw [iI_div hrx hry h0]; exact (kk H locs ls hR hS hl))

theorem jj_irem (hC : OKC G C own cc nL ret fr mc ms P X) {x y : Int} (hd : decode cc pc = .ok (.irem, 1)) (hrx : (-2147483648 ≤ x ∧ x < 2147483648)) (hry : (-2147483648 ≤ y ∧ y < 2147483648)) (h0 : 0 < y) (kk : JJ G C k n sz S Ln M R (pc + 1) lv (.int (iI (Int.tmod x y)) :: st)) : JJ G C k n sz S Ln M R pc lv (.int (iI y) :: .int (iI x) :: st) := by
  obtain ⟨p, l, e, Rm, s, m, args, below, meth, c, Q⟩ := C
  obtain ⟨hx, hb, hml, hown, hts, hE, hlk, hrt, hst, hRm, hQ, htab, hz⟩ := hC
  intro H locs ls hR hS hl
  exact lv_irem hx hb hd (jj_ne0 hry h0) (by rw [iI_rem hrx hry h0]; exact (kk H locs ls hR hS hl))

theorem jj_iand (hC : OKC G C own cc nL ret fr mc ms P X) {x y v : Int32} (hd : decode cc pc = .ok (.iand, 1)) (hv : x &&& y = v) (kk : JJ G C k n sz S Ln M R (pc + 1) lv (.int v :: st)) : JJ G C k n sz S Ln M R pc lv (.int y :: .int x :: st) := by
  obtain ⟨p, l, e, Rm, s, m, args, below, meth, c, Q⟩ := C
  obtain ⟨hx, hb, hml, hown, hts, hE, hlk, hrt, hst, hRm, hQ, htab, hz⟩ := hC
  intro H locs ls hR hS hl
  subst hv; exact lv_iand hx hb hd (kk H locs ls hR hS hl)

theorem jj_ior (hC : OKC G C own cc nL ret fr mc ms P X) {x y v : Int32} (hd : decode cc pc = .ok (.ior, 1)) (hv : x ||| y = v) (kk : JJ G C k n sz S Ln M R (pc + 1) lv (.int v :: st)) : JJ G C k n sz S Ln M R pc lv (.int y :: .int x :: st) := by
  obtain ⟨p, l, e, Rm, s, m, args, below, meth, c, Q⟩ := C
  obtain ⟨hx, hb, hml, hown, hts, hE, hlk, hrt, hst, hRm, hQ, htab, hz⟩ := hC
  intro H locs ls hR hS hl
  subst hv; exact lv_ior hx hb hd (kk H locs ls hR hS hl)

theorem jj_ishl (hC : OKC G C own cc nL ret fr mc ms P X) {x y v : Int32} (hd : decode cc pc = .ok (.ishl, 1)) (hv : x <<< (y &&& 31) = v) (kk : JJ G C k n sz S Ln M R (pc + 1) lv (.int v :: st)) : JJ G C k n sz S Ln M R pc lv (.int y :: .int x :: st) := by
  obtain ⟨p, l, e, Rm, s, m, args, below, meth, c, Q⟩ := C
  obtain ⟨hx, hb, hml, hown, hts, hE, hlk, hrt, hst, hRm, hQ, htab, hz⟩ := hC
  intro H locs ls hR hS hl
  subst hv; exact lv_ishl hx hb hd (kk H locs ls hR hS hl)

theorem jj_ishr (hC : OKC G C own cc nL ret fr mc ms P X) {x y v : Int32} (hd : decode cc pc = .ok (.ishr, 1)) (hv : x >>> (y &&& 31) = v) (kk : JJ G C k n sz S Ln M R (pc + 1) lv (.int v :: st)) : JJ G C k n sz S Ln M R pc lv (.int y :: .int x :: st) := by
  obtain ⟨p, l, e, Rm, s, m, args, below, meth, c, Q⟩ := C
  obtain ⟨hx, hb, hml, hown, hts, hE, hlk, hrt, hst, hRm, hQ, htab, hz⟩ := hC
  intro H locs ls hR hS hl
  subst hv; exact lv_ishr hx hb hd (kk H locs ls hR hS hl)

theorem jj_iushr (hC : OKC G C own cc nL ret fr mc ms P X) {x y v : Int32} (hd : decode cc pc = .ok (.iushr, 1)) (hv : (x.toUInt32 >>> (y.toUInt32 &&& Int32.toUInt32 31)).toInt32 = v) (kk : JJ G C k n sz S Ln M R (pc + 1) lv (.int v :: st)) : JJ G C k n sz S Ln M R pc lv (.int y :: .int x :: st) := by
  obtain ⟨p, l, e, Rm, s, m, args, below, meth, c, Q⟩ := C
  obtain ⟨hx, hb, hml, hown, hts, hE, hlk, hrt, hst, hRm, hQ, htab, hz⟩ := hC
  intro H locs ls hR hS hl
  exact lv_iushr hx hb hd hv (kk H locs ls hR hS hl)

theorem jj_i2l (hC : OKC G C own cc nL ret fr mc ms P X) {x : Int} (hd : decode cc pc = .ok (.i2l, 1)) (hrx : (-2147483648 ≤ x ∧ x < 2147483648)) (kk : JJ G C k n sz S Ln M R (pc + 1) lv (.long (lI x) :: st)) : JJ G C k n sz S Ln M R pc lv (.int (iI x) :: st) := by
  obtain ⟨p, l, e, Rm, s, m, args, below, meth, c, Q⟩ := C
  obtain ⟨hx, hb, hml, hown, hts, hE, hlk, hrt, hst, hRm, hQ, htab, hz⟩ := hC
  intro H locs ls hR hS hl
  exact lv_i2l hx hb hd (iI_l hrx) (kk H locs ls hR hS hl)

theorem jj_i2cS (hC : OKC G C own cc nL ret fr mc ms P X) {x : Int32} {v : Int} (hd : decode cc pc = .ok (.i2c, 1)) (hv : (x.toUInt32 % 65536).toInt32 = iI v) (kk : JJ G C k n sz S Ln M R (pc + 1) lv (.int (iI v) :: st)) : JJ G C k n sz S Ln M R pc lv (.int x :: st) := by
  obtain ⟨p, l, e, Rm, s, m, args, below, meth, c, Q⟩ := C
  obtain ⟨hx, hb, hml, hown, hts, hE, hlk, hrt, hst, hRm, hQ, htab, hz⟩ := hC
  intro H locs ls hR hS hl
  exact lv_i2c hx hb hd hv (kk H locs ls hR hS hl)

theorem jj_i2c (hC : OKC G C own cc nL ret fr mc ms P X) {x : Int} (hd : decode cc pc = .ok (.i2c, 1)) (hrx : 0 ≤ x ∧ x < 65536) (kk : JJ G C k n sz S Ln M R (pc + 1) lv (.int (iI x) :: st)) : JJ G C k n sz S Ln M R pc lv (.int (iI x) :: st) := by
  obtain ⟨p, l, e, Rm, s, m, args, below, meth, c, Q⟩ := C
  obtain ⟨hx, hb, hml, hown, hts, hE, hlk, hrt, hst, hRm, hQ, htab, hz⟩ := hC
  intro H locs ls hR hS hl
  exact lv_i2c hx hb hd (j8_i2c hrx) (kk H locs ls hR hS hl)

theorem jj_i2b (hC : OKC G C own cc nL ret fr mc ms P X) {x : Int} (hd : decode cc pc = .ok (.i2b, 1)) (hrx : -128 ≤ x ∧ x < 128) (kk : JJ G C k n sz S Ln M R (pc + 1) lv (.int (iI x) :: st)) : JJ G C k n sz S Ln M R pc lv (.int (iI x) :: st) := by
  obtain ⟨p, l, e, Rm, s, m, args, below, meth, c, Q⟩ := C
  obtain ⟨hx, hb, hml, hown, hts, hE, hlk, hrt, hst, hRm, hQ, htab, hz⟩ := hC
  intro H locs ls hR hS hl
  exact lv_i2b hx hb hd (j8_i2b hrx) (kk H locs ls hR hS hl)

theorem jj_ladd (hC : OKC G C own cc nL ret fr mc ms P X) {x y : Int} (hd : decode cc pc = .ok (.ladd, 1))  (kk : JJ G C k n sz S Ln M R (pc + 1) lv (.long (lI (x + y)) :: st)) : JJ G C k n sz S Ln M R pc lv (.long (lI y) :: .long (lI x) :: st) := by
  obtain ⟨p, l, e, Rm, s, m, args, below, meth, c, Q⟩ := C
  obtain ⟨hx, hb, hml, hown, hts, hE, hlk, hrt, hst, hRm, hQ, htab, hz⟩ := hC
  intro H locs ls hR hS hl
  exact lv_ladd hx hb hd (by rw [lI_add]; exact (kk H locs ls hR hS hl))

theorem jj_lcmp (hC : OKC G C own cc nL ret fr mc ms P X) {x y : Int} (hd : decode cc pc = .ok (.lcmp, 1)) (hrx : (-9223372036854775808 ≤ x ∧ x < 9223372036854775808)) (hry : (-9223372036854775808 ≤ y ∧ y < 9223372036854775808)) (kk : JJ G C k n sz S Ln M R (pc + 1) lv (.int (iI (if x < y then -1 else if x = y then 0 else 1)) :: st)) : JJ G C k n sz S Ln M R pc lv (.long (lI y) :: .long (lI x) :: st) := by
  obtain ⟨p, l, e, Rm, s, m, args, below, meth, c, Q⟩ := C
  obtain ⟨hx, hb, hml, hown, hts, hE, hlk, hrt, hst, hRm, hQ, htab, hz⟩ := hC
  intro H locs ls hR hS hl
  exact W.lcmp hx hb hd (by rw [j8_lcmp hrx hry]; exact (kk H locs ls hR hS hl))

theorem jj_dup (hC : OKC G C own cc nL ret fr mc ms P X) {v : Value} (hd : decode cc pc = .ok (.dup, 1)) (hv : v.category = 1) (kk : JJ G C k n sz S Ln M R (pc + 1) lv (v :: v :: st)) : JJ G C k n sz S Ln M R pc lv (v :: st) := by
  obtain ⟨p, l, e, Rm, s, m, args, below, meth, c, Q⟩ := C
  obtain ⟨hx, hb, hml, hown, hts, hE, hlk, hrt, hst, hRm, hQ, htab, hz⟩ := hC
  intro H locs ls hR hS hl
  exact lv_dup hx hb hd hv (kk H locs ls hR hS hl)

theorem jj_pop (hC : OKC G C own cc nL ret fr mc ms P X) {v : Value} (hd : decode cc pc = .ok (.pop, 1)) (hv : v.category = 1) (kk : JJ G C k n sz S Ln M R (pc + 1) lv (st)) : JJ G C k n sz S Ln M R pc lv (v :: st) := by
  obtain ⟨p, l, e, Rm, s, m, args, below, meth, c, Q⟩ := C
  obtain ⟨hx, hb, hml, hown, hts, hE, hlk, hrt, hst, hRm, hQ, htab, hz⟩ := hC
  intro H locs ls hR hS hl
  exact lv_pop hx hb hd hv (kk H locs ls hR hS hl)

theorem jj_dup_x1 (hC : OKC G C own cc nL ret fr mc ms P X) {v w : Value} (hd : decode cc pc = .ok (.dup_x1, 1)) (hv : v.category = 1) (hw : w.category = 1) (kk : JJ G C k n sz S Ln M R (pc + 1) lv (v :: w :: v :: st)) : JJ G C k n sz S Ln M R pc lv (v :: w :: st) := by
  obtain ⟨p, l, e, Rm, s, m, args, below, meth, c, Q⟩ := C
  obtain ⟨hx, hb, hml, hown, hts, hE, hlk, hrt, hst, hRm, hQ, htab, hz⟩ := hC
  intro H locs ls hR hS hl
  exact lv_dup_x1 hx hb hd hv hw (kk H locs ls hR hS hl)

theorem jj_dup2 (hC : OKC G C own cc nL ret fr mc ms P X) {v w : Value} (hd : decode cc pc = .ok (.dup2, 1)) (hv : v.category = 1) (hw : w.category = 1) (kk : JJ G C k n sz S Ln M R (pc + 1) lv (v :: w :: v :: w :: st)) : JJ G C k n sz S Ln M R pc lv (v :: w :: st) := by
  obtain ⟨p, l, e, Rm, s, m, args, below, meth, c, Q⟩ := C
  obtain ⟨hx, hb, hml, hown, hts, hE, hlk, hrt, hst, hRm, hQ, htab, hz⟩ := hC
  intro H locs ls hR hS hl
  exact lv_dup2_11 hx hb hd hv hw (kk H locs ls hR hS hl)

theorem jj_goto (hC : OKC G C own cc nL ret fr mc ms P X) {off : Int} {tgt : Nat} (hd : decode cc pc = .ok (.goto off, 3)) (ht : (pc : Int) + off = (tgt : Int)) (kk : JJ G C k n sz S Ln M R tgt lv (st)) : JJ G C k n sz S Ln M R pc lv (st) := by
  obtain ⟨p, l, e, Rm, s, m, args, below, meth, c, Q⟩ := C
  obtain ⟨hx, hb, hml, hown, hts, hE, hlk, hrt, hst, hRm, hQ, htab, hz⟩ := hC
  intro H locs ls hR hS hl
  exact lv_goto hx hb hd ht (kk H locs ls hR hS hl)

theorem jj_if_eq (hC : OKC G C own cc nL ret fr mc ms P X) {x off : Int} {tgt : Nat} (hd : decode cc pc = .ok (.ifCond .eq off, 3)) (ht : (pc : Int) + off = (tgt : Int)) (hrx : (-2147483648 ≤ x ∧ x < 2147483648)) (kt : x = 0 → JJ G C k n sz S Ln M R tgt lv (st)) (kf : ¬ x = 0 → JJ G C k n sz S Ln M R (pc + 3) lv (st)) : JJ G C k n sz S Ln M R pc lv (.int (iI x) :: st) := by
  obtain ⟨p, l, e, Rm, s, m, args, below, meth, c, Q⟩ := C
  obtain ⟨hx, hb, hml, hown, hts, hE, hlk, hrt, hst, hRm, hQ, htab, hz⟩ := hC
  intro H locs ls hR hS hl
  refine lv_if_eq hx hb hd ht (fun h => kt ?_ H locs ls hR hS hl) (fun h => kf ?_ H locs ls hR hS hl)
  all_goals
    simp only [iI_0, gt_iff_lt, ge_iff_le, ne_eq, iI_lt hrx jj_r0, iI_lt jj_r0 hrx, iI_le hrx jj_r0, iI_le jj_r0 hrx, iI_eq hrx jj_r0] at h
    omega

theorem jj_icmp_eq (hC : OKC G C own cc nL ret fr mc ms P X) {x y off : Int} {tgt : Nat} (hd : decode cc pc = .ok (.if_icmp .eq off, 3)) (ht : (pc : Int) + off = (tgt : Int)) (hrx : (-2147483648 ≤ x ∧ x < 2147483648)) (hry : (-2147483648 ≤ y ∧ y < 2147483648)) (kt : x = y → JJ G C k n sz S Ln M R tgt lv (st)) (kf : ¬ x = y → JJ G C k n sz S Ln M R (pc + 3) lv (st)) : JJ G C k n sz S Ln M R pc lv (.int (iI y) :: .int (iI x) :: st) := by
  obtain ⟨p, l, e, Rm, s, m, args, below, meth, c, Q⟩ := C
  obtain ⟨hx, hb, hml, hown, hts, hE, hlk, hrt, hst, hRm, hQ, htab, hz⟩ := hC
  intro H locs ls hR hS hl
  refine lv_icmp_eq hx hb hd ht (fun h => kt ?_ H locs ls hR hS hl) (fun h => kf ?_ H locs ls hR hS hl)
  all_goals
    simp only [gt_iff_lt, ge_iff_le, ne_eq, iI_lt hrx hry, iI_lt hry hrx, iI_le hrx hry, iI_le hry hrx, iI_eq hrx hry] at h
    omega

theorem jj_if_ne (hC : OKC G C own cc nL ret fr mc ms P X) {x off : Int} {tgt : Nat} (hd : decode cc pc = .ok (.ifCond .ne off, 3)) (ht : (pc : Int) + off = (tgt : Int)) (hrx : (-2147483648 ≤ x ∧ x < 2147483648)) (kt : ¬ x = 0 → JJ G C k n sz S Ln M R tgt lv (st)) (kf : x = 0 → JJ G C k n sz S Ln M R (pc + 3) lv (st)) : JJ G C k n sz S Ln M R pc lv (.int (iI x) :: st) := by
  obtain ⟨p, l, e, Rm, s, m, args, below, meth, c, Q⟩ := C
  obtain ⟨hx, hb, hml, hown, hts, hE, hlk, hrt, hst, hRm, hQ, htab, hz⟩ := hC
  intro H locs ls hR hS hl
  refine lv_if_ne hx hb hd ht (fun h => kt ?_ H locs ls hR hS hl) (fun h => kf ?_ H locs ls hR hS hl)
  all_goals
    simp only [iI_0, gt_iff_lt, ge_iff_le, ne_eq, iI_lt hrx jj_r0, iI_lt jj_r0 hrx, iI_le hrx jj_r0, iI_le jj_r0 hrx, iI_eq hrx jj_r0] at h
    omega

theorem jj_icmp_ne (hC : OKC G C own cc nL ret fr mc ms P X) {x y off : Int} {tgt : Nat} (hd : decode cc pc = .ok (.if_icmp .ne off, 3)) (ht : (pc : Int) + off = (tgt : Int)) (hrx : (-2147483648 ≤ x ∧ x < 2147483648)) (hry : (-2147483648 ≤ y ∧ y < 2147483648)) (kt : ¬ x = y → JJ G C k n sz S Ln M R tgt lv (st)) (kf : x = y → JJ G C k n sz S Ln M R (pc + 3) lv (st)) : JJ G C k n sz S Ln M R pc lv (.int (iI y) :: .int (iI x) :: st) := by
  obtain ⟨p, l, e, Rm, s, m, args, below, meth, c, Q⟩ := C
  obtain ⟨hx, hb, hml, hown, hts, hE, hlk, hrt, hst, hRm, hQ, htab, hz⟩ := hC
  intro H locs ls hR hS hl
  refine lv_icmp_ne hx hb hd ht (fun h => kt ?_ H locs ls hR hS hl) (fun h => kf ?_ H locs ls hR hS hl)
  all_goals
    simp only [gt_iff_lt, ge_iff_le, ne_eq, iI_lt hrx hry, iI_lt hry hrx, iI_le hrx hry, iI_le hry hrx, iI_eq hrx hry] at h
    omega

theorem jj_if_lt (hC : OKC G C own cc nL ret fr mc ms P X) {x off : Int} {tgt : Nat} (hd : decode cc pc = .ok (.ifCond .lt off, 3)) (ht : (pc : Int) + off = (tgt : Int)) (hrx : (-2147483648 ≤ x ∧ x < 2147483648)) (kt : x < 0 → JJ G C k n sz S Ln M R tgt lv (st)) (kf : 0 ≤ x → JJ G C k n sz S Ln M R (pc + 3) lv (st)) : JJ G C k n sz S Ln M R pc lv (.int (iI x) :: st) := by
  obtain ⟨p, l, e, Rm, s, m, args, below, meth, c, Q⟩ := C
  obtain ⟨hx, hb, hml, hown, hts, hE, hlk, hrt, hst, hRm, hQ, htab, hz⟩ := hC
  intro H locs ls hR hS hl
  refine lv_if_lt hx hb hd ht (fun h => kt ?_ H locs ls hR hS hl) (fun h => kf ?_ H locs ls hR hS hl)
  all_goals
    simp only [iI_0, gt_iff_lt, ge_iff_le, ne_eq, iI_lt hrx jj_r0, iI_lt jj_r0 hrx, iI_le hrx jj_r0, iI_le jj_r0 hrx, iI_eq hrx jj_r0] at h
    omega

theorem jj_icmp_lt (hC : OKC G C own cc nL ret fr mc ms P X) {x y off : Int} {tgt : Nat} (hd : decode cc pc = .ok (.if_icmp .lt off, 3)) (ht : (pc : Int) + off = (tgt : Int)) (hrx : (-2147483648 ≤ x ∧ x < 2147483648)) (hry : (-2147483648 ≤ y ∧ y < 2147483648)) (kt : x < y → JJ G C k n sz S Ln M R tgt lv (st)) (kf : y ≤ x → JJ G C k n sz S Ln M R (pc + 3) lv (st)) : JJ G C k n sz S Ln M R pc lv (.int (iI y) :: .int (iI x) :: st) := by
  obtain ⟨p, l, e, Rm, s, m, args, below, meth, c, Q⟩ := C
  obtain ⟨hx, hb, hml, hown, hts, hE, hlk, hrt, hst, hRm, hQ, htab, hz⟩ := hC
  intro H locs ls hR hS hl
  refine lv_icmp_lt hx hb hd ht (fun h => kt ?_ H locs ls hR hS hl) (fun h => kf ?_ H locs ls hR hS hl)
  all_goals
    simp only [gt_iff_lt, ge_iff_le, ne_eq, iI_lt hrx hry, iI_lt hry hrx, iI_le hrx hry, iI_le hry hrx, iI_eq hrx hry] at h
    omega

theorem jj_if_ge (hC : OKC G C own cc nL ret fr mc ms P X) {x off : Int} {tgt : Nat} (hd : decode cc pc = .ok (.ifCond .ge off, 3)) (ht : (pc : Int) + off = (tgt : Int)) (hrx : (-2147483648 ≤ x ∧ x < 2147483648)) (kt : 0 ≤ x → JJ G C k n sz S Ln M R tgt lv (st)) (kf : x < 0 → JJ G C k n sz S Ln M R (pc + 3) lv (st)) : JJ G C k n sz S Ln M R pc lv (.int (iI x) :: st) := by
  obtain ⟨p, l, e, Rm, s, m, args, below, meth, c, Q⟩ := C
  obtain ⟨hx, hb, hml, hown, hts, hE, hlk, hrt, hst, hRm, hQ, htab, hz⟩ := hC
  intro H locs ls hR hS hl
  refine lv_if_ge hx hb hd ht (fun h => kt ?_ H locs ls hR hS hl) (fun h => kf ?_ H locs ls hR hS hl)
  all_goals
    simp only [iI_0, gt_iff_lt, ge_iff_le, ne_eq, iI_lt hrx jj_r0, iI_lt jj_r0 hrx, iI_le hrx jj_r0, iI_le jj_r0 hrx, iI_eq hrx jj_r0] at h
    omega

theorem jj_icmp_ge (hC : OKC G C own cc nL ret fr mc ms P X) {x y off : Int} {tgt : Nat} (hd : decode cc pc = .ok (.if_icmp .ge off, 3)) (ht : (pc : Int) + off = (tgt : Int)) (hrx : (-2147483648 ≤ x ∧ x < 2147483648)) (hry : (-2147483648 ≤ y ∧ y < 2147483648)) (kt : y ≤ x → JJ G C k n sz S Ln M R tgt lv (st)) (kf : x < y → JJ G C k n sz S Ln M R (pc + 3) lv (st)) : JJ G C k n sz S Ln M R pc lv (.int (iI y) :: .int (iI x) :: st) := by
  obtain ⟨p, l, e, Rm, s, m, args, below, meth, c, Q⟩ := C
  obtain ⟨hx, hb, hml, hown, hts, hE, hlk, hrt, hst, hRm, hQ, htab, hz⟩ := hC
  intro H locs ls hR hS hl
  refine lv_icmp_ge hx hb hd ht (fun h => kt ?_ H locs ls hR hS hl) (fun h => kf ?_ H locs ls hR hS hl)
  all_goals
    simp only [gt_iff_lt, ge_iff_le, ne_eq, iI_lt hrx hry, iI_lt hry hrx, iI_le hrx hry, iI_le hry hrx, iI_eq hrx hry] at h
    omega

theorem jj_if_gt (hC : OKC G C own cc nL ret fr mc ms P X) {x off : Int} {tgt : Nat} (hd : decode cc pc = .ok (.ifCond .gt off, 3)) (ht : (pc : Int) + off = (tgt : Int)) (hrx : (-2147483648 ≤ x ∧ x < 2147483648)) (kt : 0 < x → JJ G C k n sz S Ln M R tgt lv (st)) (kf : x ≤ 0 → JJ G C k n sz S Ln M R (pc + 3) lv (st)) : JJ G C k n sz S Ln M R pc lv (.int (iI x) :: st) := by
  obtain ⟨p, l, e, Rm, s, m, args, below, meth, c, Q⟩ := C
  obtain ⟨hx, hb, hml, hown, hts, hE, hlk, hrt, hst, hRm, hQ, htab, hz⟩ := hC
  intro H locs ls hR hS hl
  refine lv_if_gt hx hb hd ht (fun h => kt ?_ H locs ls hR hS hl) (fun h => kf ?_ H locs ls hR hS hl)
  all_goals
    simp only [iI_0, gt_iff_lt, ge_iff_le, ne_eq, iI_lt hrx jj_r0, iI_lt jj_r0 hrx, iI_le hrx jj_r0, iI_le jj_r0 hrx, iI_eq hrx jj_r0] at h
    omega

theorem jj_icmp_gt (hC : OKC G C own cc nL ret fr mc ms P X) {x y off : Int} {tgt : Nat} (hd : decode cc pc = .ok (.if_icmp .gt off, 3)) (ht : (pc : Int) + off = (tgt : Int)) (hrx : (-2147483648 ≤ x ∧ x < 2147483648)) (hry : (-2147483648 ≤ y ∧ y < 2147483648)) (kt : y < x → JJ G C k n sz S Ln M R tgt lv (st)) (kf : x ≤ y → JJ G C k n sz S Ln M R (pc + 3) lv (st)) : JJ G C k n sz S Ln M R pc lv (.int (iI y) :: .int (iI x) :: st) := by
  obtain ⟨p, l, e, Rm, s, m, args, below, meth, c, Q⟩ := C
  obtain ⟨hx, hb, hml, hown, hts, hE, hlk, hrt, hst, hRm, hQ, htab, hz⟩ := hC
  intro H locs ls hR hS hl
  refine lv_icmp_gt hx hb hd ht (fun h => kt ?_ H locs ls hR hS hl) (fun h => kf ?_ H locs ls hR hS hl)
  all_goals
    simp only [gt_iff_lt, ge_iff_le, ne_eq, iI_lt hrx hry, iI_lt hry hrx, iI_le hrx hry, iI_le hry hrx, iI_eq hrx hry] at h
    omega

theorem jj_if_le (hC : OKC G C own cc nL ret fr mc ms P X) {x off : Int} {tgt : Nat} (hd : decode cc pc = .ok (.ifCond .le off, 3)) (ht : (pc : Int) + off = (tgt : Int)) (hrx : (-2147483648 ≤ x ∧ x < 2147483648)) (kt : x ≤ 0 → JJ G C k n sz S Ln M R tgt lv (st)) (kf : 0 < x → JJ G C k n sz S Ln M R (pc + 3) lv (st)) : JJ G C k n sz S Ln M R pc lv (.int (iI x) :: st) := by
  obtain ⟨p, l, e, Rm, s, m, args, below, meth, c, Q⟩ := C
  obtain ⟨hx, hb, hml, hown, hts, hE, hlk, hrt, hst, hRm, hQ, htab, hz⟩ := hC
  intro H locs ls hR hS hl
  refine lv_if_le hx hb hd ht (fun h => kt ?_ H locs ls hR hS hl) (fun h => kf ?_ H locs ls hR hS hl)
  all_goals
    simp only [iI_0, gt_iff_lt, ge_iff_le, ne_eq, iI_lt hrx jj_r0, iI_lt jj_r0 hrx, iI_le hrx jj_r0, iI_le jj_r0 hrx, iI_eq hrx jj_r0] at h
    omega

theorem jj_icmp_le (hC : OKC G C own cc nL ret fr mc ms P X) {x y off : Int} {tgt : Nat} (hd : decode cc pc = .ok (.if_icmp .le off, 3)) (ht : (pc : Int) + off = (tgt : Int)) (hrx : (-2147483648 ≤ x ∧ x < 2147483648)) (hry : (-2147483648 ≤ y ∧ y < 2147483648)) (kt : x ≤ y → JJ G C k n sz S Ln M R tgt lv (st)) (kf : y < x → JJ G C k n sz S Ln M R (pc + 3) lv (st)) : JJ G C k n sz S Ln M R pc lv (.int (iI y) :: .int (iI x) :: st) := by
  obtain ⟨p, l, e, Rm, s, m, args, below, meth, c, Q⟩ := C
  obtain ⟨hx, hb, hml, hown, hts, hE, hlk, hrt, hst, hRm, hQ, htab, hz⟩ := hC
  intro H locs ls hR hS hl
  refine lv_icmp_le hx hb hd ht (fun h => kt ?_ H locs ls hR hS hl) (fun h => kf ?_ H locs ls hR hS hl)
  all_goals
    simp only [gt_iff_lt, ge_iff_le, ne_eq, iI_lt hrx hry, iI_lt hry hrx, iI_le hrx hry, iI_le hry hrx, iI_eq hrx hry] at h
    omega

theorem jj_acmp_eq (hC : OKC G C own cc nL ret fr mc ms P X) {rx ry : Nat} {off : Int} {tgt : Nat} (hd : decode cc pc = .ok (.if_acmp .eq off, 3)) (ht : (pc : Int) + off = (tgt : Int)) (kt : rx = ry → JJ G C k n sz S Ln M R tgt lv (st)) (kf : ¬ rx = ry → JJ G C k n sz S Ln M R (pc + 3) lv (st)) : JJ G C k n sz S Ln M R pc lv (.ref ry :: .ref rx :: st) := by
  obtain ⟨p, l, e, Rm, s, m, args, below, meth, c, Q⟩ := C
  obtain ⟨hx, hb, hml, hown, hts, hE, hlk, hrt, hst, hRm, hQ, htab, hz⟩ := hC
  intro H locs ls hR hS hl
  exact lv_acmp_eq (rx := some rx) (ry := some ry) hx hb hd ht (fun h => kt (by simpa using h) H locs ls hR hS hl) (fun h => kf (by simpa using h) H locs ls hR hS hl)

theorem jj_acmp_ne (hC : OKC G C own cc nL ret fr mc ms P X) {rx ry : Nat} {off : Int} {tgt : Nat} (hd : decode cc pc = .ok (.if_acmp .ne off, 3)) (ht : (pc : Int) + off = (tgt : Int)) (kt : ¬ rx = ry → JJ G C k n sz S Ln M R tgt lv (st)) (kf : rx = ry → JJ G C k n sz S Ln M R (pc + 3) lv (st)) : JJ G C k n sz S Ln M R pc lv (.ref ry :: .ref rx :: st) := by
  obtain ⟨p, l, e, Rm, s, m, args, below, meth, c, Q⟩ := C
  obtain ⟨hx, hb, hml, hown, hts, hE, hlk, hrt, hst, hRm, hQ, htab, hz⟩ := hC
  intro H locs ls hR hS hl
  exact lv_acmp_ne (rx := some rx) (ry := some ry) hx hb hd ht (fun h => kt (by simpa using h) H locs ls hR hS hl) (fun h => kf (by simpa using h) H locs ls hR hS hl)

theorem jj_tblIn (hC : OKC G C own cc nL ret fr mc ms P X) {dflt lo hi x off : Int} {offs : Array Int} {len tgt : Nat} (hd : decode cc pc = .ok (.tableswitch dflt lo hi offs, len)) (hrx : (-2147483648 ≤ x ∧ x < 2147483648)) (h1 : lo ≤ x) (h2 : x ≤ hi) (ho : offs[(x - lo).toNat]? = some off) (ht : (pc : Int) + off = (tgt : Int)) (kk : JJ G C k n sz S Ln M R tgt lv (st)) : JJ G C k n sz S Ln M R pc lv (.int (iI x) :: st) := by
  obtain ⟨p, l, e, Rm, s, m, args, below, meth, c, Q⟩ := C
  obtain ⟨hx, hb, hml, hown, hts, hE, hlk, hrt, hst, hRm, hQ, htab, hz⟩ := hC
  intro H locs ls hR hS hl
  exact lv_tableIn hx hb hd (by rw [iI_toInt hrx]; omega) (by rw [iI_toInt hrx]; omega) (by rw [iI_toInt hrx]; exact ho) ht (kk H locs ls hR hS hl)

theorem jj_tblOut (hC : OKC G C own cc nL ret fr mc ms P X) {dflt lo hi x : Int} {offs : Array Int} {len tgt : Nat} (hd : decode cc pc = .ok (.tableswitch dflt lo hi offs, len)) (hrx : (-2147483648 ≤ x ∧ x < 2147483648)) (h1 : x < lo ∨ hi < x) (ht : (pc : Int) + dflt = (tgt : Int)) (kk : JJ G C k n sz S Ln M R tgt lv (st)) : JJ G C k n sz S Ln M R pc lv (.int (iI x) :: st) := by
  obtain ⟨p, l, e, Rm, s, m, args, below, meth, c, Q⟩ := C
  obtain ⟨hx, hb, hml, hown, hts, hE, hlk, hrt, hst, hRm, hQ, htab, hz⟩ := hC
  intro H locs ls hR hS hl
  exact lv_tableOut hx hb hd (by rw [iI_toInt hrx]; exact h1) ht (kk H locs ls hR hS hl)

end JJI
end
section
theorem j8_fitB {z : Int} (h : -128 ≤ z ∧ z < 128) : fits .byte (.int (iI z)) = true := by
  have a : (-128 : Int32) ≤ iI z := (iI_le (x := -128) ⟨by omega, by omega⟩ ⟨by omega, by omega⟩).mpr h.1
  have b : iI z ≤ (127 : Int32) := (iI_le (y := 127) ⟨by omega, by omega⟩ ⟨by omega, by omega⟩).mpr (by omega)
  show (decide ((-128 : Int32) ≤ iI z) && decide (iI z ≤ (127 : Int32))) = true
  rw [decide_eq_true a, decide_eq_true b]; rfl
theorem Rep.arr {G : gE} {sz : Nat} {S Ln : Nat → Nat} {M : gM} {R : gR} {H : Heap} (h : Rep G sz S Ln M R H) {a kd : Nat} (hs : S a = kd) (hk : 20 ≤ kd) (hro : gm_ro kd = false := by rfl) : H[a]? = some (arrV (G.2.2.1 kd) (Ln a) (gm_f G S M R a)) ∧ (gm_ro kd = false → G.2.2.2.1 ≤ a) ∧ (∀ j : Nat, gm_rng (gm_fty kd j) (M a (j : Int))) ∧ Ln a < 2147483648 := by
  obtain ⟨g1, g2, g3, g5, g4⟩ := h.2 a (by omega)
  unfold gm_cell at g4
  rw [hs, if_neg (by omega)] at g4
  rw [hs] at g2 g3
  rcases g4 with g4 | ⟨g4, -⟩
  · exact ⟨g4, g2, g3, g5⟩
  · rw [hro] at g4; cases g4
/-- a row that may be one that is read alone -/
theorem Rep.arq {G : gE} {sz : Nat} {S Ln : Nat → Nat} {M : gM} {R : gR} {H : Heap} (h : Rep G sz S Ln M R H) {a kd : Nat} (hs : S a = kd) (hk : 20 ≤ kd) : (∃ cell : Cell, H[a]? = some cell ∧ cell.cls = G.2.2.1 kd ∧ (Ln a ≤ cell.slots.size ∧ cell.slots.size.toInt32 = Int32.ofNat (Ln a) ∧ ∀ j : Nat, j < Ln a → cell.slots[j]? = some (gm_f G S M R a j)) ∧ cell.vm ≠ .unknown ∧ cell.vm.isStatics = false) ∧ (∀ j : Nat, gm_rng (gm_fty kd j) (M a (j : Int))) ∧ Ln a < 2147483648 := by
  obtain ⟨g1, g2, g3, g5, g4⟩ := h.2 a (by omega)
  unfold gm_cell at g4
  rw [hs, if_neg (by omega)] at g4
  rw [hs] at g3
  rcases g4 with g4 | ⟨-, g4⟩
  · exact ⟨⟨_, g4, rfl, ⟨by rw [arrV_size]; exact Nat.le_refl _, congrArg Nat.toInt32 (arrV_size _ _ _), fun j hj => arrV_read _ _ hj⟩, (fun q => nomatch q), rfl⟩, g3, g5⟩
  · exact ⟨g4, g3, g5⟩
theorem arq_of {s : State} {cA : ClassId} {ty : FieldType} (h : ArrOfT s cA ty) {cell : Cell} (hc : cell.cls = cA) (hv : cell.vm.isStatics = false) : s.isArrayOf cell ty :=
  ⟨fun k q => by rw [q] at hv; exact absurd (show true = false from hv) (by decide), by rw [hc]; exact (h 0 (fun _ => .null)).2⟩
theorem Rep.over {G : gE} {sz : Nat} {S Ln : Nat → Nat} {M : gM} {R : gR} {H H1 : Heap} (h : Rep G sz S Ln M R H) {b : Nat} {z : Int → Int} {r : Int → Option Nat} (ha : S b ≠ 0) (e : H1.size = H.size) (o : ∀ q : Nat, q ≠ b → H1[q]? = H[q]?) (hz : ∀ k : Nat, gm_rng (gm_fty (S b) k) (z k))
    (hc : gm_cell G (S b) (Ln b) (fun k => gm_val G.2.2.2.2 (gm_fty (S b) k) (z k) (r k)) b H1) : Rep G sz S Ln (ua M b z) (ua R b r) H1 := by
  refine ⟨e.trans h.1, fun c hb => ?_⟩
  obtain ⟨h1, h2, h3, h5, h4⟩ := h.2 c hb
  by_cases hba : c = b
  · subst hba
    refine ⟨h1, h2, fun j => by rw [ua_s]; exact hz j, h5, ?_⟩
    have hf : gm_f G S (ua M c z) (ua R c r) c = fun k : Nat => gm_val G.2.2.2.2 (gm_fty (S c) k) (z k) (r k) := by
      funext j
      unfold gm_f
      rw [ua_s, ua_s]
    rw [hf]; exact hc
  · refine ⟨h1, h2, fun j => by rw [ua_n hba]; exact h3 j, h5, ?_⟩
    have hf : gm_f G S (ua M b z) (ua R b r) c = gm_f G S M R c := by
      funext j
      unfold gm_f
      rw [ua_n hba, ua_n hba]
    rw [hf]
    exact gm_cell.kept h4 (o c hba)
section JJA
variable {G : gE} {C : gC} {own : String} {cc : ByteArray} {nL : Nat} {ret : Option FieldType} {fr mc ms : Nat} {P : gP} {X : gX} {k n sz : Nat} {S Ln : Nat → Nat} {M : gM} {R : gR} {pc : Nat} {lv lv' : List (Nat × Value)} {st : List Value}
theorem jj_iald (hC : OKC G C own cc nL ret fr mc ms P X) {a : Nat} {i : Int} (hs : S a = 20) (h0 : 0 ≤ i) (h1 : i < Ln a) (hd : decode cc pc = .ok (.iaload, 1)) (kk : (-2147483648 ≤ M a i ∧ M a i < 2147483648) → JJ G C k n sz S Ln M R (pc + 1) lv (.int (iI (M a i)) :: st)) : JJ G C k n sz S Ln M R pc lv (.int (iI i) :: .ref a :: st) := by
  obtain ⟨p, l, e, Rm, s, m, args, below, meth, c, Q⟩ := C
  obtain ⟨hx, hb, hml, hown, hts, hE, hlk, hrt, hst, hRm, hQ, htab, hz⟩ := hC
  intro H locs ls hR hS hl
  obtain ⟨j, rfl⟩ : ∃ j : Nat, i = j := ⟨i.toNat, by omega⟩
  obtain ⟨hc, hA, hr3, hln⟩ := hR.arr hs (by omega)
  have hcl : (iI (j : Int)).toNatClampNeg = j := by rw [iI_clamp (by omega) (by omega)]; rfl
  refine W.iald hx hb (v := .int (iI (M a (j : Int)))) hc ((hE.1.2 0 _ rfl).1 _ _) (fun q => by cases q) (by rw [arrV_size]; exact iI_in h0 h1 hln) ?_ rfl rfl hd (kk (hr3 j) H locs ls hR hS hl)
  rw [hcl, arrV_read _ _ (by omega)]
  unfold gm_f
  rw [hs]
  rfl

theorem jj_lald (hC : OKC G C own cc nL ret fr mc ms P X) {a : Nat} {i : Int} (hs : S a = 21) (h0 : 0 ≤ i) (h1 : i < Ln a) (hd : decode cc pc = .ok (.laload, 1)) (kk : (-9223372036854775808 ≤ M a i ∧ M a i < 9223372036854775808) → JJ G C k n sz S Ln M R (pc + 1) lv (.long (lI (M a i)) :: st)) : JJ G C k n sz S Ln M R pc lv (.int (iI i) :: .ref a :: st) := by
  obtain ⟨p, l, e, Rm, s, m, args, below, meth, c, Q⟩ := C
  obtain ⟨hx, hb, hml, hown, hts, hE, hlk, hrt, hst, hRm, hQ, htab, hz⟩ := hC
  intro H locs ls hR hS hl
  obtain ⟨j, rfl⟩ : ∃ j : Nat, i = j := ⟨i.toNat, by omega⟩
  obtain ⟨hc, hA, hr3, hln⟩ := hR.arr hs (by omega)
  have hcl : (iI (j : Int)).toNatClampNeg = j := by rw [iI_clamp (by omega) (by omega)]; rfl
  refine W.lald hx hb (v := .long (lI (M a (j : Int)))) hc ((hE.1.2 1 _ rfl).1 _ _) (fun q => by cases q) (by rw [arrV_size]; exact iI_in h0 h1 hln) ?_ rfl rfl hd (kk (hr3 j) H locs ls hR hS hl)
  rw [hcl, arrV_read _ _ (by omega)]
  unfold gm_f
  rw [hs]
  rfl

theorem jj_dald (hC : OKC G C own cc nL ret fr mc ms P X) {a : Nat} {i : Int} (hs : S a = 22) (h0 : 0 ≤ i) (h1 : i < Ln a) (hd : decode cc pc = .ok (.daload, 1)) (kk : (-9223372036854775808 ≤ M a i ∧ M a i < 9223372036854775808) → JJ G C k n sz S Ln M R (pc + 1) lv (.double (lI (M a i)).toUInt64 :: st)) : JJ G C k n sz S Ln M R pc lv (.int (iI i) :: .ref a :: st) := by
  obtain ⟨p, l, e, Rm, s, m, args, below, meth, c, Q⟩ := C
  obtain ⟨hx, hb, hml, hown, hts, hE, hlk, hrt, hst, hRm, hQ, htab, hz⟩ := hC
  intro H locs ls hR hS hl
  obtain ⟨j, rfl⟩ : ∃ j : Nat, i = j := ⟨i.toNat, by omega⟩
  obtain ⟨hc, hA, hr3, hln⟩ := hR.arr hs (by omega)
  have hcl : (iI (j : Int)).toNatClampNeg = j := by rw [iI_clamp (by omega) (by omega)]; rfl
  refine W.dald hx hb (v := .double (lI (M a (j : Int))).toUInt64) hc ((hE.1.2 2 _ rfl).1 _ _) (fun q => by cases q) (by rw [arrV_size]; exact iI_in h0 h1 hln) ?_ rfl rfl hd (kk (hr3 j) H locs ls hR hS hl)
  rw [hcl, arrV_read _ _ (by omega)]
  unfold gm_f
  rw [hs]
  rfl

theorem jj_bald (hC : OKC G C own cc nL ret fr mc ms P X) {a : Nat} {i : Int} (hs : S a = 23) (h0 : 0 ≤ i) (h1 : i < Ln a) (hd : decode cc pc = .ok (.baload, 1)) (kk : (-128 ≤ M a i ∧ M a i < 128) → JJ G C k n sz S Ln M R (pc + 1) lv (.int (iI (M a i)) :: st)) : JJ G C k n sz S Ln M R pc lv (.int (iI i) :: .ref a :: st) := by
  obtain ⟨p, l, e, Rm, s, m, args, below, meth, c, Q⟩ := C
  obtain ⟨hx, hb, hml, hown, hts, hE, hlk, hrt, hst, hRm, hQ, htab, hz⟩ := hC
  intro H locs ls hR hS hl
  obtain ⟨j, rfl⟩ : ∃ j : Nat, i = j := ⟨i.toNat, by omega⟩
  obtain ⟨hc, hA, hr3, hln⟩ := hR.arr hs (by omega)
  have hcl : (iI (j : Int)).toNatClampNeg = j := by rw [iI_clamp (by omega) (by omega)]; rfl
  refine W.bald hx hb (v := .int (iI (M a (j : Int)))) hc ((hE.1.2 3 _ rfl).1 _ _) (fun q => by cases q) (by rw [arrV_size]; exact iI_in h0 h1 hln) ?_ rfl rfl hd (kk (hr3 j) H locs ls hR hS hl)
  rw [hcl, arrV_read _ _ (by omega)]
  unfold gm_f
  rw [hs]
  rfl

theorem jj_bald28 (hC : OKC G C own cc nL ret fr mc ms P X) {a : Nat} {i : Int} (hs : S a = 28) (h0 : 0 ≤ i) (h1 : i < Ln a) (hd : decode cc pc = .ok (.baload, 1)) (kk : (-128 ≤ M a i ∧ M a i < 128) → JJ G C k n sz S Ln M R (pc + 1) lv (.int (iI (M a i)) :: st)) : JJ G C k n sz S Ln M R pc lv (.int (iI i) :: .ref a :: st) := by
  obtain ⟨p, l, e, Rm, s, m, args, below, meth, c, Q⟩ := C
  obtain ⟨hx, hb, hml, hown, hts, hE, hlk, hrt, hst, hRm, hQ, htab, hz⟩ := hC
  intro H locs ls hR hS hl
  obtain ⟨j, rfl⟩ : ∃ j : Nat, i = j := ⟨i.toNat, by omega⟩
  obtain ⟨⟨cl, hc, hcc, ⟨hl1, hl2, hl3⟩, hv1, hv2⟩, hr3, hln⟩ := hR.arq hs (by omega)
  have hcl : (iI (j : Int)).toNatClampNeg = j := by rw [iI_clamp (by omega) (by omega)]; rfl
  refine W.bald hx hb (v := .int (iI (M a (j : Int)))) hc (arq_of (hE.1.2 8 _ rfl).1 hcc hv2) hv1 (fun q => iI_in h0 h1 hln (q.imp id (fun z => Nat.le_trans hl1 z))) ?_ rfl rfl hd (kk (hr3 j) H locs ls hR hS hl)
  rw [hcl, hl3 _ (by omega)]
  unfold gm_f
  rw [hs]
  rfl

theorem jj_cald (hC : OKC G C own cc nL ret fr mc ms P X) {a : Nat} {i : Int} (hs : S a = 24) (h0 : 0 ≤ i) (h1 : i < Ln a) (hd : decode cc pc = .ok (.caload, 1)) (kk : (0 ≤ M a i ∧ M a i < 65536) → JJ G C k n sz S Ln M R (pc + 1) lv (.int (iI (M a i)) :: st)) : JJ G C k n sz S Ln M R pc lv (.int (iI i) :: .ref a :: st) := by
  obtain ⟨p, l, e, Rm, s, m, args, below, meth, c, Q⟩ := C
  obtain ⟨hx, hb, hml, hown, hts, hE, hlk, hrt, hst, hRm, hQ, htab, hz⟩ := hC
  intro H locs ls hR hS hl
  obtain ⟨j, rfl⟩ : ∃ j : Nat, i = j := ⟨i.toNat, by omega⟩
  obtain ⟨hc, hA, hr3, hln⟩ := hR.arr hs (by omega)
  have hcl : (iI (j : Int)).toNatClampNeg = j := by rw [iI_clamp (by omega) (by omega)]; rfl
  refine W.cald hx hb (v := .int (iI (M a (j : Int)))) hc ((hE.1.2 4 _ rfl).1 _ _) (fun q => by cases q) (by rw [arrV_size]; exact iI_in h0 h1 hln) ?_ rfl rfl hd (kk (hr3 j) H locs ls hR hS hl)
  rw [hcl, arrV_read _ _ (by omega)]
  unfold gm_f
  rw [hs]
  rfl

theorem jj_iast (hC : OKC G C own cc nL ret fr mc ms P X) {a : Nat} {i z : Int} (hs : S a = 20) (h0 : 0 ≤ i) (h1 : i < Ln a) (hrz : (-2147483648 ≤ z ∧ z < 2147483648)) (hd : decode cc pc = .ok (.iastore, 1)) (kk : JJ G C k n sz S Ln (ua M a (us (M a) i z)) R (pc + 1) lv st) : JJ G C k n sz S Ln M R pc lv (.int (iI (z)) :: .int (iI i) :: .ref a :: st) := by
  obtain ⟨p, l, e, Rm, s, m, args, below, meth, c, Q⟩ := C
  obtain ⟨hx, hb, hml, hown, hts, hE, hlk, hrt, hst, hRm, hQ, htab, hz⟩ := hC
  intro H locs ls hR hS hl
  obtain ⟨j, rfl⟩ : ∃ j : Nat, i = j := ⟨i.toNat, by omega⟩
  obtain ⟨hc, hA, hr3, hln⟩ := hR.arr hs (by omega)
  have hcl : (iI (j : Int)).toNatClampNeg = j := by rw [iI_clamp (by omega) (by omega)]; rfl
  refine W.iast hx hb hc ((hE.1.2 0 _ rfl).1 _ _) (fun q => by cases q) (by rw [arrV_size]; exact iI_in h0 h1 hln) rfl rfl hd fun H' e1 e2 e3 => ?_
  rw [hcl, arrV_store] at e1
  have h9 := hR.put (k := j) (z := z) (r := R a (j : Int)) (by omega : S a ≠ 0) e2 e3 (by rw [hs]; exact hrz) (by
    unfold gm_cell
    rw [hs, if_neg (by omega), e1]; exact Or.inl rfl)
  rw [ua_selfs] at h9
  exact kk H' _ ls h9 (hS.put e2 e3 (hA rfl)) hl

theorem jj_last (hC : OKC G C own cc nL ret fr mc ms P X) {a : Nat} {i z : Int} (hs : S a = 21) (h0 : 0 ≤ i) (h1 : i < Ln a) (hrz : (-9223372036854775808 ≤ z ∧ z < 9223372036854775808)) (hd : decode cc pc = .ok (.lastore, 1)) (kk : JJ G C k n sz S Ln (ua M a (us (M a) i z)) R (pc + 1) lv st) : JJ G C k n sz S Ln M R pc lv (.long (lI (z)) :: .int (iI i) :: .ref a :: st) := by
  obtain ⟨p, l, e, Rm, s, m, args, below, meth, c, Q⟩ := C
  obtain ⟨hx, hb, hml, hown, hts, hE, hlk, hrt, hst, hRm, hQ, htab, hz⟩ := hC
  intro H locs ls hR hS hl
  obtain ⟨j, rfl⟩ : ∃ j : Nat, i = j := ⟨i.toNat, by omega⟩
  obtain ⟨hc, hA, hr3, hln⟩ := hR.arr hs (by omega)
  have hcl : (iI (j : Int)).toNatClampNeg = j := by rw [iI_clamp (by omega) (by omega)]; rfl
  refine W.last hx hb hc ((hE.1.2 1 _ rfl).1 _ _) (fun q => by cases q) (by rw [arrV_size]; exact iI_in h0 h1 hln) rfl rfl hd fun H' e1 e2 e3 => ?_
  rw [hcl, arrV_store] at e1
  have h9 := hR.put (k := j) (z := z) (r := R a (j : Int)) (by omega : S a ≠ 0) e2 e3 (by rw [hs]; exact hrz) (by
    unfold gm_cell
    rw [hs, if_neg (by omega), e1]; exact Or.inl rfl)
  rw [ua_selfs] at h9
  exact kk H' _ ls h9 (hS.put e2 e3 (hA rfl)) hl

theorem jj_dast (hC : OKC G C own cc nL ret fr mc ms P X) {a : Nat} {i z : Int} (hs : S a = 22) (h0 : 0 ≤ i) (h1 : i < Ln a) (hrz : (-9223372036854775808 ≤ z ∧ z < 9223372036854775808)) (hd : decode cc pc = .ok (.dastore, 1)) (kk : JJ G C k n sz S Ln (ua M a (us (M a) i z)) R (pc + 1) lv st) : JJ G C k n sz S Ln M R pc lv (.double (lI (z)).toUInt64 :: .int (iI i) :: .ref a :: st) := by
  obtain ⟨p, l, e, Rm, s, m, args, below, meth, c, Q⟩ := C
  obtain ⟨hx, hb, hml, hown, hts, hE, hlk, hrt, hst, hRm, hQ, htab, hz⟩ := hC
  intro H locs ls hR hS hl
  obtain ⟨j, rfl⟩ : ∃ j : Nat, i = j := ⟨i.toNat, by omega⟩
  obtain ⟨hc, hA, hr3, hln⟩ := hR.arr hs (by omega)
  have hcl : (iI (j : Int)).toNatClampNeg = j := by rw [iI_clamp (by omega) (by omega)]; rfl
  refine W.dast hx hb hc ((hE.1.2 2 _ rfl).1 _ _) (fun q => by cases q) (by rw [arrV_size]; exact iI_in h0 h1 hln) rfl rfl hd fun H' e1 e2 e3 => ?_
  rw [hcl, arrV_store] at e1
  have h9 := hR.put (k := j) (z := z) (r := R a (j : Int)) (by omega : S a ≠ 0) e2 e3 (by rw [hs]; exact hrz) (by
    unfold gm_cell
    rw [hs, if_neg (by omega), e1]; exact Or.inl rfl)
  rw [ua_selfs] at h9
  exact kk H' _ ls h9 (hS.put e2 e3 (hA rfl)) hl

theorem jj_bast (hC : OKC G C own cc nL ret fr mc ms P X) {a : Nat} {i z : Int} (hs : S a = 23) (h0 : 0 ≤ i) (h1 : i < Ln a) (hrz : (-128 ≤ z ∧ z < 128)) (hd : decode cc pc = .ok (.bastore, 1)) (kk : JJ G C k n sz S Ln (ua M a (us (M a) i z)) R (pc + 1) lv st) : JJ G C k n sz S Ln M R pc lv (.int (iI (z)) :: .int (iI i) :: .ref a :: st) := by
  obtain ⟨p, l, e, Rm, s, m, args, below, meth, c, Q⟩ := C
  obtain ⟨hx, hb, hml, hown, hts, hE, hlk, hrt, hst, hRm, hQ, htab, hz⟩ := hC
  intro H locs ls hR hS hl
  obtain ⟨j, rfl⟩ : ∃ j : Nat, i = j := ⟨i.toNat, by omega⟩
  obtain ⟨hc, hA, hr3, hln⟩ := hR.arr hs (by omega)
  have hcl : (iI (j : Int)).toNatClampNeg = j := by rw [iI_clamp (by omega) (by omega)]; rfl
  have hnz : narrow .byte (.int (iI z)) = .int (iI z) := by show Value.int ((iI z).toInt8.toInt32) = _; rw [j8_i2b hrz]
  refine W.bast hx hb hc ((hE.1.2 3 _ rfl).1 _ _) (fun q => by cases q) (by rw [arrV_size]; exact iI_in h0 h1 hln) rfl rfl hd fun H' e1 e2 e3 => ?_
  rw [hcl, arrV_store] at e1
  rw [hnz] at e1
  have h9 := hR.put (k := j) (z := z) (r := R a (j : Int)) (by omega : S a ≠ 0) e2 e3 (by rw [hs]; exact hrz) (by
    unfold gm_cell
    rw [hs, if_neg (by omega), e1]; exact Or.inl rfl)
  rw [ua_selfs] at h9
  exact kk H' _ ls h9 (hS.put e2 e3 (hA rfl)) hl

theorem jj_cast (hC : OKC G C own cc nL ret fr mc ms P X) {a : Nat} {i z : Int} (hs : S a = 24) (h0 : 0 ≤ i) (h1 : i < Ln a) (hrz : (0 ≤ z ∧ z < 65536)) (hd : decode cc pc = .ok (.castore, 1)) (kk : JJ G C k n sz S Ln (ua M a (us (M a) i z)) R (pc + 1) lv st) : JJ G C k n sz S Ln M R pc lv (.int (iI (z)) :: .int (iI i) :: .ref a :: st) := by
  obtain ⟨p, l, e, Rm, s, m, args, below, meth, c, Q⟩ := C
  obtain ⟨hx, hb, hml, hown, hts, hE, hlk, hrt, hst, hRm, hQ, htab, hz⟩ := hC
  intro H locs ls hR hS hl
  obtain ⟨j, rfl⟩ : ∃ j : Nat, i = j := ⟨i.toNat, by omega⟩
  obtain ⟨hc, hA, hr3, hln⟩ := hR.arr hs (by omega)
  have hcl : (iI (j : Int)).toNatClampNeg = j := by rw [iI_clamp (by omega) (by omega)]; rfl
  have hnz : narrow .char (.int (iI z)) = .int (iI z) := by rw [jj_nI hrz.1]; exact (pk_charN (by omega)).1
  refine W.cast hx hb hc ((hE.1.2 4 _ rfl).1 _ _) (fun q => by cases q) (by rw [arrV_size]; exact iI_in h0 h1 hln) rfl rfl hd fun H' e1 e2 e3 => ?_
  rw [hcl, arrV_store] at e1
  rw [hnz] at e1
  have h9 := hR.put (k := j) (z := z) (r := R a (j : Int)) (by omega : S a ≠ 0) e2 e3 (by rw [hs]; exact hrz) (by
    unfold gm_cell
    rw [hs, if_neg (by omega), e1]; exact Or.inl rfl)
  rw [ua_selfs] at h9
  exact kk H' _ ls h9 (hS.put e2 e3 (hA rfl)) hl
/-- a place of a row of references -/
theorem jj_aald (hC : OKC G C own cc nL ret fr mc ms P X) {a b kd : Nat} {i : Int} (hs : S a = kd) (hk : kd = 25 ∨ kd = 26 ∨ kd = 27) (h0 : 0 ≤ i) (h1 : i < Ln a) (hr : R a i = some b) (hd : decode cc pc = .ok (.aaload, 1)) (kk : JJ G C k n sz S Ln M R (pc + 1) lv (.ref b :: st)) : JJ G C k n sz S Ln M R pc lv (.int (iI i) :: .ref a :: st) := by
  obtain ⟨p, l, e, Rm, s, m, args, below, meth, c, Q⟩ := C
  obtain ⟨hx, hb, hml, hown, hts, hE, hlk, hrt, hst, hRm, hQ, htab, hz⟩ := hC
  intro H locs ls hR hS hl
  obtain ⟨j, rfl⟩ : ∃ j : Nat, i = j := ⟨i.toNat, by omega⟩
  obtain ⟨hc, hA, hr3, hln⟩ := hR.arr hs (by omega) (by rcases hk with rfl | rfl | rfl <;> rfl)
  have hcl : (iI (j : Int)).toNatClampNeg = j := by rw [iI_clamp (by omega) (by omega)]; rfl
  have harr : ∃ ty : FieldType, ty.isReference = true ∧ s.isArrayOf (arrV (G.2.2.1 kd) (Ln a) (gm_f G S M R a)) ty := by
    rcases hk with rfl | rfl | rfl
    · exact ⟨_, rfl, (hE.1.2 5 _ rfl).1 _ _⟩
    · exact ⟨_, rfl, (hE.1.2 6 _ rfl).1 _ _⟩
    · exact ⟨_, rfl, (hE.1.2 7 _ rfl).1 _ _⟩
  obtain ⟨ty, hty, har⟩ := harr
  refine W.aald hx hb (v := .ref b) hc har hty (fun q => by cases q) (by rw [arrV_size]; exact iI_in h0 h1 hln) ?_ rfl rfl hd (kk H locs ls hR hS hl)
  rw [hcl, arrV_read _ _ (by omega)]
  unfold gm_f
  rw [hs]
  have : gm_fty kd j = 1 := by rcases hk with rfl | rfl | rfl <;> rfl
  rw [this, hr]
  rfl
theorem jj_alen (hC : OKC G C own cc nL ret fr mc ms P X) {a kd : Nat} (hs : S a = kd) (t : Nat) {ty : FieldType} (hk : 20 ≤ kd) (ht : (gTys G.2.2.1)[t]? = some (G.2.2.1 kd, ty)) (hd : decode cc pc = .ok (.arraylength, 1)) (kk : (Ln a : Int) < 2147483648 → JJ G C k n sz S Ln M R (pc + 1) lv (.int (iI (Ln a : Int)) :: st)) : JJ G C k n sz S Ln M R pc lv (.ref a :: st) := by
  obtain ⟨p, l, e, Rm, s, m, args, below, meth, c, Q⟩ := C
  obtain ⟨hx, hb, hml, hown, hts, hE, hlk, hrt, hst, hRm, hQ, htab, hz⟩ := hC
  intro H locs ls hR hS hl
  obtain ⟨⟨cl, hc, hcc, ⟨hl1, hl2, hl3⟩, hv1, hv2⟩, hr3, hln⟩ := hR.arq hs hk
  refine W.alen (n := iI (Ln a : Int)) hx hb hc (arq_of (hE.1.2 t _ ht).1 hcc hv2) ?_ rfl rfl hd (kk (by omega) H locs ls hR hS hl)
  exact hl2
theorem jj_aast (hC : OKC G C own cc nL ret fr mc ms P X) {a b kd kv t : Nat} {i : Int} {r : vw_C} (hs : S a = kd) (hk : 20 ≤ kd) (hro : gm_ro kd = false) (hf1 : ∀ j, gm_fty kd j = 1) (ht : (gTys G.2.2.1)[t]? = some (G.2.2.1 kd, .object r.1)) (hsv : S b = kv) (hkv : 1 ≤ kv) (hkv2 : kv < 20) (hrv : vwCl[kv - 1]? = some r) (h0 : 0 ≤ i) (h1 : i < Ln a) (hd : decode cc pc = .ok (.aastore, 1)) (kk : JJ G C k n sz S Ln M (ua R a (us (R a) i (some b))) (pc + 1) lv st) : JJ G C k n sz S Ln M R pc lv (.ref b :: .int (iI i) :: .ref a :: st) := by
  obtain ⟨p, l, e, Rm, s, m, args, below, meth, c, Q⟩ := C
  obtain ⟨hx, hb, hml, hown, hts, hE, hlk, hrt, hst, hRm, hQ, htab, hz⟩ := hC
  intro H locs ls hR hS hl
  obtain ⟨j, rfl⟩ : ∃ j : Nat, i = j := ⟨i.toNat, by omega⟩
  obtain ⟨hc, hA, hr3, hln⟩ := hR.arr hs hk hro
  have hcl : (iI (j : Int)).toNatClampNeg = j := by rw [iI_clamp (by omega) (by omega)]; rfl
  obtain ⟨v1, v2, v3, v5, v4⟩ := hR.2 b (by omega)
  unfold gm_cell at v4
  rw [hsv, if_pos hkv2] at v4
  obtain ⟨r1, hr1, cellV, g1, g2, g3, -⟩ := v4
  have hrr : r1 = r := Option.some.inj (hr1.symm.trans hrv)
  subst hrr
  have hcls := (hE.1.1 (kv - 1) _ hrv).2
  obtain ⟨kA, comp, k1, k2, k3, -⟩ := (hE.1.2 t _ ht).2
  have hcomp : comp = G.1 (kv - 1) := Option.some.inj (k3.symm.trans hcls.1)
  subst hcomp
  obtain ⟨kC, hkC, -⟩ := hcls.2
  have hin := iI_in h0 h1 hln
  refine W.aast hx hb hc (fun q h => by cases h) (fun h => by cases h) k1 k2 rfl hkC ⟨fun q => hin (Or.inl q), by rw [arrV_size, hcl]; omega⟩ g1 (fun q h => by have h9 := g3.2.1; rw [h] at h9; exact absurd (show true = false from h9) (by decide)) (by rw [g2]; exact hkC) (by rw [g2]; exact va_assign hcls) rfl rfl hd fun H' e1 e2 e3 => ?_
  rw [hcl, arrV_store] at e1
  have h9 := hR.put (k := j) (z := M a (j : Int)) (r := some b) (by omega : S a ≠ 0) e2 e3 (by rw [hs, hf1]; trivial) (by
    unfold gm_cell
    rw [hs, if_neg (by omega), e1, hf1]; exact Or.inl rfl)
  rw [ua_selfs] at h9
  exact kk H' _ ls h9 (hS.put e2 e3 (hA hro)) hl
/-- a new object -/
theorem jj_new (hC : OKC G C own cc nL ret fr mc ms P X) {kd N index : Nat} {CN : String} {T : u_T} {ty0 : Nat → FieldType} (hk : KF kd CN T N ty0) (hdef : ∀ j, j < N → gm_val G.2.2.2.2 (gm_fty kd j) (if gm_fty kd j = 3 then -1 else 0) none = defaultValue (ty0 j)) (hcl : Cond.classLink own index CN ∈ gW) (hins : Cond.instantiable CN N ∈ gW) (hini : Cond.initialized CN ∈ gW) (hsz : G.2.2.2.1 ≤ sz) (hk1 : k + 1 ≤ mc) (hn1 : n + N ≤ ms) (hd : decode cc pc = .ok (.new index, 3))
    (kk : JJ G C (k + 1) (n + N) (sz + 1) (ua S sz kd) (ua Ln sz 0) (ua M sz (fun j => if gm_fty kd j.toNat = 3 then -1 else 0)) (ua R sz (fun _ => none)) (pc + 3) lv (.ref sz :: st)) : JJ G C k n sz S Ln M R pc lv st := by
  obtain ⟨p, l, e, Rm, s, m, args, below, meth, c, Q⟩ := C
  obtain ⟨hx, hb, hml, hown, hts, hE, hlk, hrt, hst, hRm, hQ, htab, hz⟩ := hC
  intro H locs ls hR hS hl
  obtain ⟨rm1, rm2, rm3, rm4⟩ := hRm
  obtain ⟨k1, k2, k3, k4, k5, k6⟩ := hk
  have hKn := hE.1.1 (kd - 1) _ k3
  refine W.newcK hx hb hown (hts _ hcl) (hts _ hins) (hts _ hini) (g := F0 m pc ls st) rfl hd (Nat.le_trans hk1 rm2) (Nat.le_trans hn1 rm3) hKn.2.1 hR.1 fun H' kC e1 e2 e3 e4 => ?_
  refine kk H' _ ls (hR.new hsz e3 e4 ?_ (by omega) ?_) ⟨?_, ?_, hS.2.2⟩ hl
  · intro j
    rw [Int.toNat_natCast]
    unfold gm_rng
    split <;> simp_all
  · unfold gm_cell
    rw [if_pos k2]
    exact ⟨_, k3, gm_ob.of (t_OB.to (u_born (args := args) ty0 hts k4 hKn e1 e2 k5) (fun j hj => by rw [← hdef j hj, Int.toNat_natCast]))⟩
  · rw [e3]; have := hS.1; rw [hR.1] at this; omega
  · intro q h1 h2
    have := hS.1
    rw [hR.1] at this
    rw [e4 q (by omega)]
    exact hS.2.1 q h1 h2
/-- a new row of numbers -/
theorem jj_newa (hC : OKC G C own cc nL ret fr mc ms P X) {kd t : Nat} {at' : ArrayType} {i : Int} (hk : 20 ≤ kd) (ht : (gTys G.2.2.1)[t]? = some (G.2.2.1 kd, newarray.typeOf at')) (hnob : ∀ C, newarray.typeOf at' ≠ .object C) (hdef : ∀ j, gm_val G.2.2.2.2 (gm_fty kd j) 0 none = defaultValue (newarray.typeOf at')) (hr0 : ∀ j, gm_rng (gm_fty kd j) 0) (hac : Cond.arrayClass (newarray.typeOf at') ∈ gW) (h0 : 0 ≤ i) (h1 : i ≤ 65536) (hb8 : componentBytes (newarray.typeOf at') ≤ 8) (hsz : G.2.2.2.1 ≤ sz) (hk1 : k + 1 ≤ mc) (hn1 : n + i.toNat ≤ ms) (hd : decode cc pc = .ok (.newarray at', 2))
    (kk : JJ G C (k + 1) (n + i.toNat) (sz + 1) (ua S sz kd) (ua Ln sz i.toNat) (ua M sz (fun _ => 0)) (ua R sz (fun _ => none)) (pc + 2) lv (.ref sz :: st)) : JJ G C k n sz S Ln M R pc lv (.int (iI i) :: st) := by
  obtain ⟨p, l, e, Rm, s, m, args, below, meth, c, Q⟩ := C
  obtain ⟨hx, hb, hml, hown, hts, hE, hlk, hrt, hst, hRm, hQ, htab, hz⟩ := hC
  intro H locs ls hR hS hl
  obtain ⟨rm1, rm2, rm3, rm4⟩ := hRm
  obtain ⟨j, rfl⟩ : ∃ j : Nat, i = j := ⟨i.toNat, by omega⟩
  rw [Int.toNat_natCast] at kk hn1
  have hcl : (iI (j : Int)).toNatClampNeg = j := by rw [iI_clamp (by omega) (by omega)]; rfl
  have hfA := (hE.1.2 t _ ht).2
  refine va_newaK hx hb (hts _ hac) (g := F0 m pc ls (.int (iI (j : Int)) :: st)) rfl hd rfl ?_ hcl ?_ (Nat.le_trans hk1 rm2) (Nat.le_trans hn1 rm3) hR.1 fun H' cA e1 e3 e4 e5 e6 => ?_
  · rw [iI_0, iI_lt ⟨by omega, by omega⟩ jj_r0]; omega
  · have := Nat.mul_le_mul (show j ≤ 65536 by omega) hb8
    omega
  have hcA : cA = G.2.2.1 kd := by
    have : s.vm.findClass ("[" ++ (newarray.typeOf at').toString) = some (G.2.2.1 kd) := by
      unfold va_RA at hfA
      split at hfA
      · rename_i C' heq; exact absurd heq (hnob C')
      · exact hfA
    exact Option.some.inj (e6.symm.trans this)
  subst hcA
  refine kk H' _ ls (hR.new hsz e3 e4 (fun j => hr0 j) (by omega) ?_) ⟨?_, ?_, hS.2.2⟩ hl
  · unfold gm_cell
    rw [if_neg (by omega), e1]
    refine Or.inl ?_
    congr 2
    funext q
    exact (hdef q).symm
  · rw [e3]; have := hS.1; rw [hR.1] at this; omega
  · intro q h1 h2
    have := hS.1
    rw [hR.1] at this
    rw [e4 q (by omega)]
    exact hS.2.1 q h1 h2
/-! calls -/
theorem jj_run {p : Program} {l : Launch} {e : Env} {Rm : Room} {s : State} {m : MethodId} {args : Array Value} {below : List Frame} {meth : Method} {c : Code} {Q : State → Prop} {H : Heap} {locs : List Loc} {ls : Array Slot} {mc2 ms2 : Nat} {P2 : gP} {X2 : gX} {a2 : Array Value} {st0 : List Value}
    (hr : vx_Run p l e Rm s m args below meth c H locs k n mc2 ms2 (F0 m pc ls st0) st (gQc G P2 a2) (gXc G X2) (fun q => G.2.2.2.1 ≤ q)) (hS : va_S (fun q => G.2.2.2.1 ≤ q) s.heap H locs) (hl : lv_has ls c.maxLocals lv)
    (kx : ∀ E sz S Ln M R, X2 E sz S Ln M R → JX G (p, l, e, Rm, s, m, args, below, meth, c, Q) (k + mc2) (n + ms2) E sz S Ln M R pc lv st)
    (kk : ∀ v sz S Ln M R, P2 v sz S Ln M R → JJ G (p, l, e, Rm, s, m, args, below, meth, c, Q) (k + mc2) (n + ms2) sz S Ln M R (pc + 3) lv (v.toList ++ st)) : W p l e Rm s m args below meth c H locs k n Q (F0 m pc ls st0) := by
  intro T hT X
  rcases hr T hT X with ⟨v, st₀, t, T', L, h0, X', hL, e1, e2, ⟨⟨v1, sz', S', Ln', M', R', hv, hp, hRp⟩, hF⟩, st⟩ | ⟨q, st₀, t, T', L, E, ce, h0, X', hL, e1, e2, ⟨⟨sz', S', Ln', M', R', hp, hRp⟩, hF⟩, hce, hcv, hcl, st⟩
  · cases hv
    obtain ⟨k1, k2, k3⟩ := vx_keep h0 e1 hS (fun q _ h => h) (fun q h => h) hL hF
    obtain ⟨t2, a1, b1⟩ := kk v sz' S' Ln' M' R' hp T'.heap (locs ++ L) ls (by rw [e1]; exact hRp) k3 hl T' rfl X'
    exact ⟨t2, st t2 a1, b1⟩
  · obtain ⟨k1, k2, k3⟩ := vx_keep h0 e1 hS (fun q _ h => h) (fun q h => h) hL hF
    obtain ⟨t2, a1, b1⟩ := kx E sz' S' Ln' M' R' hp T'.heap (locs ++ L) ls q ce (by rw [e1]; exact hRp) k3 hl (by rw [e1]; exact hce) hcv hcl T' rfl X'
    exact ⟨t2, st.trans a1, b1⟩
/-- what a method is, as far as a call looks -/
def MV (y : MethodName) (cc2 : ByteArray) (nL2 : Nat) (ret2 : Option FieldType) (np : Nat) : Prop := Cond.code y cc2 nL2 ret2 ∈ gW ∧ Cond.initialized y.cls ∈ gW ∧ y.cls ≠ "java/lang/invoke/MethodHandle" ∧ y.cls ≠ "java/lang/invoke/VarHandle" ∧ (parseMethodDescriptor y.desc).map (fun d => d.parameters.length) = some np ∧ nL2 ≤ 45
theorem jj_pre {s : State} {H : Heap} {av : List Value} (hE : EV G s) (hR : Rep G sz S Ln M R H) {locs : List Loc} (hS : va_S (fun q => G.2.2.2.1 ≤ q) s.heap H locs) (hz : G.2.2.2.1 ≤ s.heap.size) {U : State} (hU : U.heap = H) (hW : s.WarmedH U.vm) : gPc G av sz S Ln M R av.toArray U :=
  ⟨rfl, by rw [hU]; exact hR, hE.to hS hU hW, by rw [hU]; exact Nat.le_trans hz hS.1⟩
theorem jj_invV (hC : OKC G C own cc nL ret fr mc ms P X) {y : MethodName} {cc2 : ByteArray} {nL2 : Nat} {ret2 : Option FieldType} {np fr2 mc2 ms2 index b kd : Nat} {As st0 : List Value} {P2 : gP} {X2 : gX} {T : u_T} {N : Nat}
    (hm : MV y cc2 nL2 ret2 np) (hin : Cond.instanceMethod y ∈ gW) (hse : Cond.selects y.cls y y ∈ gW) (hlk : Cond.methodLink own index y ∈ gW) (hs : S b = kd) (hkd : 1 ≤ kd ∧ kd < 20) (hcl : vwCl[kd - 1]? = some (y.cls, T, N)) (hct : Ct (LV C) G y cc2 nL2 ret2 fr2 mc2 ms2 (.ref b :: As) sz S Ln M R P2 X2) (hn : As.length = np) (hst0 : st0 = As.reverse ++ .ref b :: st) (hW : (st.map fun v => v.category).sum ≤ 8) (hfr : fr2 + 1 ≤ fr) (hk : k + mc2 ≤ mc) (hns : n + ms2 ≤ ms) (hdg : decode cc pc = .ok (.invokevirtual index, 3))
    (kx : ∀ E sz S Ln M R, X2 E sz S Ln M R → JX G C (k + mc2) (n + ms2) E sz S Ln M R pc lv st)
    (kk : ∀ v sz S Ln M R, P2 v sz S Ln M R → JJ G C (k + mc2) (n + ms2) sz S Ln M R (pc + 3) lv (v.toList ++ st)) : JJ G C k n sz S Ln M R pc lv st0 := by
  obtain ⟨p, l, e, Rm, s, m, args, below, meth, c, Q⟩ := C
  obtain ⟨hx, hb, hml, hown, hts, hE, hlk2, hrt, hst, hRm, hQ, htab, hz⟩ := hC
  intro H locs ls hR hS hl
  obtain ⟨m1, m2, m3, m4, m5, m6⟩ := hm
  obtain ⟨rm1, rm2, rm3, rm4⟩ := hRm
  subst hst0
  obtain ⟨g1, g2, g3, g5, g4⟩ := hR.2 b (by omega)
  unfold gm_cell at g4
  rw [hs, if_pos hkd.2] at g4
  obtain ⟨r1, hr1, cellV, c1, c2, c3, -⟩ := g4
  have hrr : r1 = (y.cls, T, N) := Option.some.inj (hr1.symm.trans hcl)
  subst hrr
  have hcls := (hE.1.1 (kd - 1) _ hcl).2
  exact jj_run (vx_runV (Ts := gW) (own := own) (C := y.cls) ⟨hx, hb, hml, hown, hts⟩ hct (cwV (ws' := gW) np hts (gW_cons hlk (gW_cons hin (gW_cons hse (gW_cons m2 (gW_cons m1 gW_good))))) rfl rfl rfl ⟨rfl, m3, m4, m5⟩ ⟨Nat.le_trans hfr rm1, by show 8 + (nL2 + 11) + 64 * fr2 ≤ Rm.locals; omega⟩)
    ⟨gPc_blind, ⟨cellV, c1, c3.2.1, by rw [c2]; exact hcls.1⟩, fun U hU hW2 => jj_pre hE hR hS hz hU hW2⟩ rfl hn (by rw [← hml]; exact hl.1) rfl (lv_room hW) hdg ⟨Nat.le_trans hk rm2, Nat.le_trans hns rm3⟩) hS hl kx kk
theorem jj_invS (hC : OKC G C own cc nL ret fr mc ms P X) {y : MethodName} {cc2 : ByteArray} {nL2 : Nat} {ret2 : Option FieldType} {np fr2 mc2 ms2 index : Nat} {As st0 : List Value} {P2 : gP} {X2 : gX}
    (hm : MV y cc2 nL2 ret2 np) (hin : Cond.static y ∈ gW) (hlk : Cond.methodLink own index y ∈ gW) (hct : Ct (LV C) G y cc2 nL2 ret2 fr2 mc2 ms2 As sz S Ln M R P2 X2) (hn : As.length = np) (hst0 : st0 = As.reverse ++ st) (hW : (st.map fun v => v.category).sum ≤ 8) (hfr : fr2 + 1 ≤ fr) (hk : k + mc2 ≤ mc) (hns : n + ms2 ≤ ms) (hdg : decode cc pc = .ok (.invokestatic index, 3))
    (kx : ∀ E sz S Ln M R, X2 E sz S Ln M R → JX G C (k + mc2) (n + ms2) E sz S Ln M R pc lv st)
    (kk : ∀ v sz S Ln M R, P2 v sz S Ln M R → JJ G C (k + mc2) (n + ms2) sz S Ln M R (pc + 3) lv (v.toList ++ st)) : JJ G C k n sz S Ln M R pc lv st0 := by
  obtain ⟨p, l, e, Rm, s, m, args, below, meth, c, Q⟩ := C
  obtain ⟨hx, hb, hml, hown, hts, hE, hlk2, hrt, hst, hRm, hQ, htab, hz⟩ := hC
  intro H locs ls hR hS hl
  obtain ⟨m1, m2, m3, m4, m5, m6⟩ := hm
  obtain ⟨rm1, rm2, rm3, rm4⟩ := hRm
  subst hst0
  have hB : CallB Rm s args own index y cc2 nL2 ret2 (.code y cc2 nL2 ret2 :: gW) (gRm fr2 mc2 ms2) mc2 ms2 np := callB_of np hts (gW_cons m1 gW_good) rfl rfl rfl (hts _ m2) (hts _ hlk) ⟨m3, m4, m5⟩ ⟨Nat.le_trans hfr rm1, by show 8 + (nL2 + 11) + 64 * fr2 ≤ Rm.locals; omega⟩
  exact jj_run (vx_runS (Ts := gW) (own := own) ⟨hx, hb, hml, hown, hts⟩ hct ⟨hB, hts _ hin⟩
    ⟨gPc_blind, fun U hU hW2 => jj_pre hE hR hS hz hU hW2⟩ rfl hn (by rw [← hml]; exact hl.1) rfl (lv_room hW) hdg ⟨Nat.le_trans hk rm2, Nat.le_trans hns rm3⟩) hS hl kx kk
/-- a call that throws nothing, as such a run -/
theorem jj_va {p : Program} {l : Launch} {e : Env} {Rm : Room} {s : State} {m : MethodId} {args : Array Value} {below : List Frame} {meth : Method} {c : Code} {H : Heap} {locs : List Loc} {mc2 ms2 : Nat} {g : JFrame} {Qa : State → Outcome → State → Prop} {XC : String → State → State → Prop} {free : Addr → Prop} (h : va_Run p l e Rm s m args below meth c H locs k n mc2 ms2 g st Qa free) : vx_Run p l e Rm s m args below meth c H locs k n mc2 ms2 g st Qa XC free := fun T hT X => Or.inl (h T hT X)
theorem jj_invI (hC : OKC G C own cc nL ret fr mc ms P X) {y : MethodName} {cc2 : ByteArray} {nL2 : Nat} {np fr2 mc2 ms2 index b : Nat} {As st0 : List Value} {P2 : gP}
    (hm : MV y cc2 nL2 none np) (hy1 : y.name = "<init>") (hin : Cond.instanceMethod y ∈ gW) (hlk : Cond.methodLink own index y ∈ gW) (hct : Ct (LV C) G y cc2 nL2 none fr2 mc2 ms2 (.ref b :: As) sz S Ln M R P2 noX) (hn : As.length = np) (hst0 : st0 = As.reverse ++ .ref b :: st) (hW : (st.map fun v => v.category).sum ≤ 8) (hfr : fr2 + 1 ≤ fr) (hk : k + mc2 ≤ mc) (hns : n + ms2 ≤ ms) (hdg : decode cc pc = .ok (.invokespecial index, 3))
    (kk : ∀ v sz S Ln M R, P2 v sz S Ln M R → JJ G C (k + mc2) (n + ms2) sz S Ln M R (pc + 3) lv (v.toList ++ st)) : JJ G C k n sz S Ln M R pc lv st0 := by
  obtain ⟨p, l, e, Rm, s, m, args, below, meth, c, Q⟩ := C
  obtain ⟨hx, hb, hml, hown, hts, hE, hlk2, hrt, hst, hRm, hQ, htab, hz⟩ := hC
  intro H locs ls hR hS hl
  obtain ⟨m1, m2, m3, m4, m5, m6⟩ := hm
  obtain ⟨rm1, rm2, rm3, rm4⟩ := hRm
  subst hst0
  exact jj_run (X2 := noX) (jj_va (va_runI (Ts := gW) (own := own) ⟨hx, hb, hml, hown, hts⟩ hct.met (cwI (ws' := gW) np hts (gW_cons m1 gW_good) rfl rfl rfl (hts _ m2) (hts _ hlk) (hts _ hin) hy1 ⟨m3, m4, m5⟩ ⟨Nat.le_trans hfr rm1, by show 8 + (nL2 + 11) + 64 * fr2 ≤ Rm.locals; omega⟩)
    ⟨gPc_blind, fun U hU hW2 => jj_pre hE hR hS hz hU hW2⟩ rfl hn (by rw [← hml]; exact hl.1) rfl (lv_room hW) hdg ⟨Nat.le_trans hk rm2, Nat.le_trans hns rm3⟩)) hS hl (fun _ _ _ _ _ _ h => h.elim) kk
theorem jj_invVN (hC : OKC G C own cc nL ret fr mc ms P X) {y : MethodName} {host : String} {cc2 : ByteArray} {nL2 : Nat} {ret2 : Option FieldType} {np fr2 mc2 ms2 index b kd : Nat} {As st0 : List Value} {P2 : gP} {T : u_T} {N : Nat}
    (hm : MV y cc2 nL2 ret2 np) (hin : Cond.instanceMethod y ∈ gW) (hse : Cond.selects y.cls y y ∈ gW) (hlk : Cond.methodLinkNest own index y host ∈ gNW) (hs : S b = kd) (hkd : 1 ≤ kd ∧ kd < 20) (hcl : vwCl[kd - 1]? = some (y.cls, T, N)) (hct : Ct (LV C) G y cc2 nL2 ret2 fr2 mc2 ms2 (.ref b :: As) sz S Ln M R P2 noX) (hn : As.length = np) (hst0 : st0 = As.reverse ++ .ref b :: st) (hW : (st.map fun v => v.category).sum ≤ 8) (hfr : fr2 + 1 ≤ fr) (hk : k + mc2 ≤ mc) (hns : n + ms2 ≤ ms) (hdg : decode cc pc = .ok (.invokevirtual index, 3))
    (kk : ∀ v sz S Ln M R, P2 v sz S Ln M R → JJ G C (k + mc2) (n + ms2) sz S Ln M R (pc + 3) lv (v.toList ++ st)) : JJ G C k n sz S Ln M R pc lv st0 := by
  obtain ⟨p, l, e, Rm, s, m, args, below, meth, c, Q⟩ := C
  obtain ⟨hx, hb, hml, hown, hts, hE, hlk2, hrt, hst, hRm, hQ, htab, hz⟩ := hC
  intro H locs ls hR hS hl
  obtain ⟨m1, m2, m3, m4, m5, m6⟩ := hm
  obtain ⟨rm1, rm2, rm3, rm4⟩ := hRm
  subst hst0
  obtain ⟨g1, g2, g3, g5, g4⟩ := hR.2 b (by omega)
  unfold gm_cell at g4
  rw [hs, if_pos hkd.2] at g4
  obtain ⟨r1, hr1, cellV, c1, c2, c3, -⟩ := g4
  have hrr : r1 = (y.cls, T, N) := Option.some.inj (hr1.symm.trans hcl)
  subst hrr
  have hcls := (hE.1.1 (kd - 1) _ hcl).2
  exact jj_run (X2 := noX) (jj_va (va_runVN (Ts := gW) (own := own) (C := y.cls) ⟨hx, hb, hml, hown, hts⟩ hct.met ⟨va_cnB (ws' := gW) np hts (gW_cons m1 gW_good) rfl rfl rfl (hE.2.1.1 _ hlk) (hts _ m2) ⟨m3, m4, m5⟩ ⟨Nat.le_trans hfr rm1, by show 8 + (nL2 + 11) + 64 * fr2 ≤ Rm.locals; omega⟩, hts _ hin, hts _ hse⟩
    ⟨gPc_blind, ⟨cellV, c1, c3.2.1, by rw [c2]; exact hcls.1⟩, fun U hU hW2 => jj_pre hE hR hS hz hU hW2⟩ rfl hn (by rw [← hml]; exact hl.1) rfl (lv_room hW) hdg ⟨Nat.le_trans hk rm2, Nat.le_trans hns rm3⟩)) hS hl (fun _ _ _ _ _ _ h => h.elim) kk
theorem jj_invSN (hC : OKC G C own cc nL ret fr mc ms P X) {y : MethodName} {host : String} {cc2 : ByteArray} {nL2 : Nat} {ret2 : Option FieldType} {np fr2 mc2 ms2 index : Nat} {As st0 : List Value} {P2 : gP}
    (hm : MV y cc2 nL2 ret2 np) (hin : Cond.static y ∈ gW) (hlk : Cond.methodLinkNest own index y host ∈ gNW) (hct : Ct (LV C) G y cc2 nL2 ret2 fr2 mc2 ms2 As sz S Ln M R P2 noX) (hn : As.length = np) (hst0 : st0 = As.reverse ++ st) (hW : (st.map fun v => v.category).sum ≤ 8) (hfr : fr2 + 1 ≤ fr) (hk : k + mc2 ≤ mc) (hns : n + ms2 ≤ ms) (hdg : decode cc pc = .ok (.invokestatic index, 3))
    (kk : ∀ v sz S Ln M R, P2 v sz S Ln M R → JJ G C (k + mc2) (n + ms2) sz S Ln M R (pc + 3) lv (v.toList ++ st)) : JJ G C k n sz S Ln M R pc lv st0 := by
  obtain ⟨p, l, e, Rm, s, m, args, below, meth, c, Q⟩ := C
  obtain ⟨hx, hb, hml, hown, hts, hE, hlk2, hrt, hst, hRm, hQ, htab, hz⟩ := hC
  intro H locs ls hR hS hl
  obtain ⟨m1, m2, m3, m4, m5, m6⟩ := hm
  obtain ⟨rm1, rm2, rm3, rm4⟩ := hRm
  subst hst0
  exact jj_run (X2 := noX) (jj_va (va_runSN (Ts := gW) (own := own) ⟨hx, hb, hml, hown, hts⟩ hct.met ⟨va_cnB (ws' := gW) np hts (gW_cons m1 gW_good) rfl rfl rfl (hE.2.1.1 _ hlk) (hts _ m2) ⟨m3, m4, m5⟩ ⟨Nat.le_trans hfr rm1, by show 8 + (nL2 + 11) + 64 * fr2 ≤ Rm.locals; omega⟩, hts _ hin, trivial⟩
    ⟨gPc_blind, fun U hU hW2 => jj_pre hE hR hS hz hU hW2⟩ rfl hn (by rw [← hml]; exact hl.1) rfl (lv_room hW) hdg ⟨Nat.le_trans hk rm2, Nat.le_trans hns rm3⟩)) hS hl (fun _ _ _ _ _ _ h => h.elim) kk
theorem jj_invIN (hC : OKC G C own cc nL ret fr mc ms P X) {y : MethodName} {host : String} {cc2 : ByteArray} {nL2 : Nat} {np fr2 mc2 ms2 index b : Nat} {As st0 : List Value} {P2 : gP}
    (hm : MV y cc2 nL2 none np) (hy1 : y.name = "<init>") (hin : Cond.instanceMethod y ∈ gW) (hlk : Cond.methodLinkNest own index y host ∈ gNW) (hct : Ct (LV C) G y cc2 nL2 none fr2 mc2 ms2 (.ref b :: As) sz S Ln M R P2 noX) (hn : As.length = np) (hst0 : st0 = As.reverse ++ .ref b :: st) (hW : (st.map fun v => v.category).sum ≤ 8) (hfr : fr2 + 1 ≤ fr) (hk : k + mc2 ≤ mc) (hns : n + ms2 ≤ ms) (hdg : decode cc pc = .ok (.invokespecial index, 3))
    (kk : ∀ v sz S Ln M R, P2 v sz S Ln M R → JJ G C (k + mc2) (n + ms2) sz S Ln M R (pc + 3) lv (v.toList ++ st)) : JJ G C k n sz S Ln M R pc lv st0 := by
  obtain ⟨p, l, e, Rm, s, m, args, below, meth, c, Q⟩ := C
  obtain ⟨hx, hb, hml, hown, hts, hE, hlk2, hrt, hst, hRm, hQ, htab, hz⟩ := hC
  intro H locs ls hR hS hl
  obtain ⟨m1, m2, m3, m4, m5, m6⟩ := hm
  obtain ⟨rm1, rm2, rm3, rm4⟩ := hRm
  subst hst0
  exact jj_run (X2 := noX) (jj_va (va_runIN (Ts := gW) (own := own) ⟨hx, hb, hml, hown, hts⟩ hct.met ⟨va_cnB (ws' := gW) np hts (gW_cons m1 gW_good) rfl rfl rfl (hE.2.1.1 _ hlk) (hts _ m2) ⟨m3, m4, m5⟩ ⟨Nat.le_trans hfr rm1, by show 8 + (nL2 + 11) + 64 * fr2 ≤ Rm.locals; omega⟩, hy1, hts _ hin⟩
    ⟨gPc_blind, fun U hU hW2 => jj_pre hE hR hS hz hU hW2⟩ rfl hn (by rw [← hml]; exact hl.1) rfl (lv_room hW) hdg ⟨Nat.le_trans hk rm2, Nat.le_trans hns rm3⟩)) hS hl (fun _ _ _ _ _ _ h => h.elim) kk
theorem jj_objInit (hC : OKC G C own cc nL ret fr mc ms P X) {index a : Nat} (hlk : Cond.methodLink own index Lib.objectInit ∈ gW) (hin : Cond.instanceMethod Lib.objectInit ∈ gW) (hco : Cond.code Lib.objectInit ⟨#[0xb1]⟩ 1 none ∈ gW) (hfr : 1 ≤ fr) (hW : (st.map fun v => v.category).sum ≤ 8) (hd : decode cc pc = .ok (.invokespecial index, 3)) (kk : JJ G C k n sz S Ln M R (pc + 3) lv st) : JJ G C k n sz S Ln M R pc lv (.ref a :: st) := by
  obtain ⟨p, l, e, Rm, s, m, args, below, meth, c, Q⟩ := C
  obtain ⟨hx, hb, hml, hown, hts, hE, hlk2, hrt, hst, hRm, hQ, htab, hz⟩ := hC
  intro H locs ls hR hS hl
  obtain ⟨rm1, rm2, rm3, rm4⟩ := hRm
  exact W.objInit hx hb hown (hts _ hlk) (hts _ hin) (hts _ hco) (g := F0 m pc ls (.ref a :: st)) rfl hl.1 rfl hd (Nat.le_trans hfr rm1) (by show 2 * 0 + _ + 12 ≤ Rm.locals; omega) (kk H locs ls hR hS hl)
theorem jj_mmax (hC : OKC G C own cc nL ret fr mc ms P X) {index : Nat} {x y : Int} (hrx : (-2147483648 ≤ x ∧ x < 2147483648)) (hry : (-2147483648 ≤ y ∧ y < 2147483648)) (hlk : Cond.methodLink own index Lib.Math.max.name ∈ gW) (hstt : Cond.static Lib.Math.max.name ∈ gW) (hini : Cond.initialized "java/lang/Math" ∈ gW) (hco : Cond.code Lib.Math.max.name Lib.Math.max.code 2 (some .int) ∈ gW) (hfr : 1 ≤ fr) (hW : (st.map fun v => v.category).sum ≤ 8) (hk : k ≤ mc) (hn : n ≤ ms) (hd : decode cc pc = .ok (.invokestatic index, 3)) (kk : JJ G C k n sz S Ln M R (pc + 3) lv (.int (iI (if x < y then y else x)) :: st)) : JJ G C k n sz S Ln M R pc lv (.int (iI y) :: .int (iI x) :: st) := by
  obtain ⟨p, l, e, Rm, s, m, args, below, meth, c, Q⟩ := C
  obtain ⟨hx, hb, hml, hown, hts, hE, hlk2, hrt, hst, hRm, hQ, htab, hz⟩ := hC
  intro H locs ls hR hS hl
  obtain ⟨rm1, rm2, rm3, rm4⟩ := hRm
  refine va_mmax hx hb hl.1.symm hown (hts _ hlk) (hts _ hstt) (hts _ hini) (hts _ hco) (Nat.le_trans hfr rm1) (by show _ ≤ Rm.locals; omega) (Nat.le_trans hk rm2) (Nat.le_trans hn rm3) hd ?_
  have e9 : (if iI x < iI y then iI y else iI x) = iI (if x < y then y else x) := by
    by_cases h9 : x < y
    · rw [if_pos h9, if_pos (show iI x < iI y from (iI_lt hrx hry).mpr h9)]
    · rw [if_neg h9, if_neg (fun q : iI x < iI y => h9 ((iI_lt hrx hry).mp q))]
  rw [e9]
  exact kk H locs ls hR hS hl

theorem jj_mmin (hC : OKC G C own cc nL ret fr mc ms P X) {index : Nat} {x y : Int} (hrx : (-2147483648 ≤ x ∧ x < 2147483648)) (hry : (-2147483648 ≤ y ∧ y < 2147483648)) (hlk : Cond.methodLink own index Lib.Math.min.name ∈ gW) (hstt : Cond.static Lib.Math.min.name ∈ gW) (hini : Cond.initialized "java/lang/Math" ∈ gW) (hco : Cond.code Lib.Math.min.name Lib.Math.min.code 2 (some .int) ∈ gW) (hfr : 1 ≤ fr) (hW : (st.map fun v => v.category).sum ≤ 8) (hk : k ≤ mc) (hn : n ≤ ms) (hd : decode cc pc = .ok (.invokestatic index, 3)) (kk : JJ G C k n sz S Ln M R (pc + 3) lv (.int (iI (if y < x then y else x)) :: st)) : JJ G C k n sz S Ln M R pc lv (.int (iI y) :: .int (iI x) :: st) := by
  obtain ⟨p, l, e, Rm, s, m, args, below, meth, c, Q⟩ := C
  obtain ⟨hx, hb, hml, hown, hts, hE, hlk2, hrt, hst, hRm, hQ, htab, hz⟩ := hC
  intro H locs ls hR hS hl
  obtain ⟨rm1, rm2, rm3, rm4⟩ := hRm
  refine va_mmin hx hb hl.1.symm hown (hts _ hlk) (hts _ hstt) (hts _ hini) (hts _ hco) (Nat.le_trans hfr rm1) (by show _ ≤ Rm.locals; omega) (Nat.le_trans hk rm2) (Nat.le_trans hn rm3) hd ?_
  have e9 : (if iI y < iI x then iI y else iI x) = iI (if y < x then y else x) := by
    by_cases h9 : y < x
    · rw [if_pos h9, if_pos (show iI y < iI x from (iI_lt hry hrx).mpr h9)]
    · rw [if_neg h9, if_neg (fun q : iI y < iI x => h9 ((iI_lt hry hrx).mp q))]
  rw [e9]
  exact kk H locs ls hR hS hl

theorem jj_mabs (hC : OKC G C own cc nL ret fr mc ms P X) {index : Nat} {x : Int} (hrx : (-2147483648 ≤ x ∧ x < 2147483648)) (hlk : Cond.methodLink own index Lib.Math.abs.name ∈ gW) (hstt : Cond.static Lib.Math.abs.name ∈ gW) (hini : Cond.initialized "java/lang/Math" ∈ gW) (hco : Cond.code Lib.Math.abs.name Lib.Math.abs.code 1 (some .int) ∈ gW) (hfr : 1 ≤ fr) (hW : (st.map fun v => v.category).sum ≤ 8) (hk : k ≤ mc) (hn : n ≤ ms) (hd : decode cc pc = .ok (.invokestatic index, 3)) (kk : JJ G C k n sz S Ln M R (pc + 3) lv (.int (iI (if 0 ≤ x then x else 0 - x)) :: st)) : JJ G C k n sz S Ln M R pc lv (.int (iI x) :: st) := by
  obtain ⟨p, l, e, Rm, s, m, args, below, meth, c, Q⟩ := C
  obtain ⟨hx, hb, hml, hown, hts, hE, hlk2, hrt, hst, hRm, hQ, htab, hz⟩ := hC
  intro H locs ls hR hS hl
  obtain ⟨rm1, rm2, rm3, rm4⟩ := hRm
  refine va_mabs hx hb hl.1.symm hown (hts _ hlk) (hts _ hstt) (hts _ hini) (hts _ hco) (Nat.le_trans hfr rm1) (by show _ ≤ Rm.locals; omega) (Nat.le_trans hk rm2) (Nat.le_trans hn rm3) hd ?_
  have e9 : (if 0 ≤ iI x then iI x else 0 - iI x) = iI (if 0 ≤ x then x else 0 - x) := by
    by_cases h9 : 0 ≤ x
    · rw [if_pos h9, if_pos (show 0 ≤ iI x from (iI_le jj_r0 hrx).mpr h9)]
    · rw [if_neg h9, if_neg (fun q : 0 ≤ iI x => h9 ((iI_le jj_r0 hrx).mp q))]; exact iI_sub 0 x
  rw [e9]
  exact kk H locs ls hR hS hl

theorem jj_copyI (hC : OKC G C own cc nL ret fr mc ms P X) {index a b : Nat} {i0 i1 i2 : Int} (hs0 : S a = 20) (hs1 : S b = 20) (q0 : 0 ≤ i0) (q1 : 0 ≤ i1) (q2 : 0 ≤ i2) (q4 : i0 + i2 ≤ Ln a) (q5 : i1 + i2 ≤ Ln b) (hlk : Cond.methodLink own index arraycopyName ∈ gW) (hnat : Cond.native arraycopyName ∈ gW) (hstt : Cond.static arraycopyName ∈ gW) (hini : Cond.initialized "java/lang/System" ∈ gW) (hfr : 1 ≤ fr) (hW : (st.map fun v => v.category).sum ≤ 8) (hd : decode cc pc = .ok (.invokestatic index, 3))
    (kk : JJ G C k n sz S Ln (ua M b (fun j => if i1 ≤ j ∧ j < i1 + i2 then M a (i0 + (j - i1)) else M b j)) R (pc + 3) lv st) : JJ G C k n sz S Ln M R pc lv (.int (iI i2) :: .int (iI i1) :: .ref b :: .int (iI i0) :: .ref a :: st) := by
  obtain ⟨p, l, e, Rm, s, m, args, below, meth, c, Q⟩ := C
  obtain ⟨hx, hb, hml, hown, hts, hE, hlk2, hrt, hst, hRm, hQ, htab, hz⟩ := hC
  intro H locs ls hR hS hl
  obtain ⟨sp, rfl⟩ : ∃ j : Nat, i0 = j := ⟨i0.toNat, by omega⟩
  obtain ⟨dp, rfl⟩ : ∃ j : Nat, i1 = j := ⟨i1.toNat, by omega⟩
  obtain ⟨nn, rfl⟩ : ∃ j : Nat, i2 = j := ⟨i2.toNat, by omega⟩
  obtain ⟨rm1, rm2, rm3, rm4⟩ := hRm
  obtain ⟨hc0, hA0, hr0, hln0⟩ := hR.arr hs0 (by omega)
  obtain ⟨hc1, hA1, hr1, hln1⟩ := hR.arr hs1 (by omega)
  have cs : (iI (sp : Int)).toNatClampNeg = sp := by rw [iI_clamp (by omega) (by omega)]; rfl
  have cd : (iI (dp : Int)).toNatClampNeg = dp := by rw [iI_clamp (by omega) (by omega)]; rfl
  have cn : (iI (nn : Int)).toNatClampNeg = nn := by rw [iI_clamp (by omega) (by omega)]; rfl
  have is : (iI (sp : Int)).toInt = sp := iI_toInt ⟨by omega, by omega⟩
  have id : (iI (dp : Int)).toInt = dp := iI_toInt ⟨by omega, by omega⟩
  have inn : (iI (nn : Int)).toInt = nn := iI_toInt ⟨by omega, by omega⟩
  intro T hT X9
  obtain ⟨-, k0, hk0, cm0, hkk0⟩ := (hE.1.2 0 _ rfl).1 (Ln a) (gm_f G S M R a)
  obtain ⟨-, k1, hk1, cm1, hkk1⟩ := (hE.1.2 0 _ rfl).1 (Ln b) (gm_f G S M R b)
  have hf0 : ∀ j : Nat, gm_f G S M R a j = .int (iI (M a (j : Int))) := fun j => by unfold gm_f; rw [hs0]; rfl
  have hf1 : ∀ j : Nat, gm_f G S M R b j = .int (iI (M b (j : Int))) := fun j => by unfold gm_f; rw [hs1]; rfl
  obtain ⟨vm', X', step⟩ := X9.arraycopy hx hown (hts _ hlk) (hts _ hnat) (hts _ hstt) (hts _ hini) (src := a) (dst := b) (cs := arrV (G.2.2.1 20) (Ln a) (gm_f G S M R a)) (cd := arrV (G.2.2.1 20) (Ln b) (gm_f G S M R b)) (srcPos := iI sp) (destPos := iI dp) (n := iI nn) (by rw [hT]; exact hc0) (by rw [hT]; exact hc1)
    (fun _ h => by cases h) (fun _ h => by cases h) (fun h => by cases h) (fun h => by cases h) hk0 hk1 hkk0 hkk1 (by rfl) (by rw [iI_0, iI_lt ⟨by omega, by omega⟩ jj_r0]; omega) (by rw [iI_0, iI_lt ⟨by omega, by omega⟩ jj_r0]; omega) (by rw [iI_0, iI_lt ⟨by omega, by omega⟩ jj_r0]; omega)
    (by rw [is, inn, arrV_size]; omega)
    (by rw [id, inn, arrV_size]; omega)
    (fun vm₁ _ i hi => by
      rw [cn] at hi
      rw [cs]
      have e : (arrV (G.2.2.1 20) (Ln a) (gm_f G S M R a)).slots.getD (sp + i) .null = .int (iI (M a ((sp + i : Nat) : Int))) := by
        rw [Array.getD_eq_getD_getElem?, arrV_read _ _ (by omega), hf0]
        rfl
      refine ⟨?_, ?_⟩
      · rw [e]
        have := hr0 (sp + i)
        rfl
      · rw [e]
        exact trivial)
    (g := F0 m pc ls (.int (iI nn) :: .int (iI dp) :: .ref b :: .int (iI sp) :: .ref a :: st)) rfl (by rw [hl.1]) (rest := st) rfl (by rw [hb]; exact hd) (Nat.le_trans hfr rm1) (by
      have e9 : nativeFrameWords "java/lang/System" "arraycopy" 5 + 11 ≤ 56 := by decide
      show 2 * 0 + _ + _ ≤ Rm.locals; omega)
  have e1 : copied (arrV (G.2.2.1 20) (Ln a) (gm_f G S M R a)) (arrV (G.2.2.1 20) (Ln b) (gm_f G S M R b)) (iI sp) (iI dp) (iI nn) = arrV (G.2.2.1 20) (Ln b) (va_cpy (gm_f G S M R a) (gm_f G S M R b) sp dp nn) := by
    have := va_copied (fun z : Value => z) (G.2.2.1 20) (G.2.2.1 20) (n0 := Ln a) (n1 := Ln b) (sp := sp) (dp := dp) (n := nn) (gm_f G S M R a) (gm_f G S M R b) (by omega)
    unfold copied
    rw [cs, cd, cn]
    exact this
  rw [e1] at X' step
  have hlt : b < H.size := (Array.getElem?_eq_some_iff.mp hc1).1
  have hheap : ((T.setVm vm').setCell b (arrV (G.2.2.1 20) (Ln b) (va_cpy (gm_f G S M R a) (gm_f G S M R b) sp dp nn))).heap = H.setIfInBounds b (arrV (G.2.2.1 20) (Ln b) (va_cpy (gm_f G S M R a) (gm_f G S M R b) sp dp nn)) := by rw [← hT]; rfl
  have oq : ∀ q : Nat, q ≠ b → (H.setIfInBounds b (arrV (G.2.2.1 20) (Ln b) (va_cpy (gm_f G S M R a) (gm_f G S M R b) sp dp nn)))[q]? = H[q]? := fun q hq => by simp [Array.getElem?_setIfInBounds, Ne.symm hq]
  have hR2 : Rep G sz S Ln (ua M b (fun j => if (dp : Int) ≤ j ∧ j < dp + nn then M a (sp + (j - dp)) else M b j)) (ua R b (R b)) (H.setIfInBounds b (arrV (G.2.2.1 20) (Ln b) (va_cpy (gm_f G S M R a) (gm_f G S M R b) sp dp nn))) := by
    refine hR.over (by omega) (by simp) oq (fun k => ?_) ?_
    · rw [hs1]
      by_cases hq : (dp : Int) ≤ k ∧ (k : Int) < dp + nn
      · rw [if_pos hq]
        have := hr0 (sp + (k - dp))
        rw [show (((sp + (k - dp) : Nat)) : Int) = sp + ((k : Int) - dp) by omega] at this
        exact this
      · rw [if_neg hq]; exact hr1 k
    · unfold gm_cell
      rw [hs1, if_neg (by omega)]
      refine Or.inl ?_
      rw [show (H.setIfInBounds b (arrV (G.2.2.1 20) (Ln b) (va_cpy (gm_f G S M R a) (gm_f G S M R b) sp dp nn)))[b]? = some (arrV (G.2.2.1 20) (Ln b) (va_cpy (gm_f G S M R a) (gm_f G S M R b) sp dp nn)) by simp [Array.getElem?_setIfInBounds, hlt]]
      congr 2
      funext q
      unfold va_cpy
      by_cases hq : dp ≤ q ∧ q < dp + nn
      · rw [if_pos hq, hf0, if_pos (by omega)]
        rw [show (((sp + (q - dp) : Nat)) : Int) = sp + ((q : Int) - dp) by omega]
        rfl
      · rw [if_neg hq, hf1, if_neg (by omega)]
        rfl
  rw [ua_self] at hR2
  obtain ⟨t, a1, b1⟩ := kk _ _ ls hR2 ⟨by simp; exact hS.1, fun q g1 g2 => by
      rw [oq q (fun e => g2 (by rw [e]; exact hA1 rfl))]
      exact hS.2.1 q g1 g2, fun q hq => by
      rcases List.mem_append.mp hq with h | h
      · exact hS.2.2 q h
      · obtain ⟨z, -, hz⟩ := List.mem_map.mp h
        rw [← hz]
        exact hA1 rfl⟩ hl _ hheap X'
  exact ⟨t, step t a1, b1⟩

theorem jj_copyB (hC : OKC G C own cc nL ret fr mc ms P X) {index a b : Nat} {i0 i1 i2 : Int} (hs0 : S a = 23) (hs1 : S b = 23) (q0 : 0 ≤ i0) (q1 : 0 ≤ i1) (q2 : 0 ≤ i2) (q4 : i0 + i2 ≤ Ln a) (q5 : i1 + i2 ≤ Ln b) (hlk : Cond.methodLink own index arraycopyName ∈ gW) (hnat : Cond.native arraycopyName ∈ gW) (hstt : Cond.static arraycopyName ∈ gW) (hini : Cond.initialized "java/lang/System" ∈ gW) (hfr : 1 ≤ fr) (hW : (st.map fun v => v.category).sum ≤ 8) (hd : decode cc pc = .ok (.invokestatic index, 3))
    (kk : JJ G C k n sz S Ln (ua M b (fun j => if i1 ≤ j ∧ j < i1 + i2 then M a (i0 + (j - i1)) else M b j)) R (pc + 3) lv st) : JJ G C k n sz S Ln M R pc lv (.int (iI i2) :: .int (iI i1) :: .ref b :: .int (iI i0) :: .ref a :: st) := by
  obtain ⟨p, l, e, Rm, s, m, args, below, meth, c, Q⟩ := C
  obtain ⟨hx, hb, hml, hown, hts, hE, hlk2, hrt, hst, hRm, hQ, htab, hz⟩ := hC
  intro H locs ls hR hS hl
  obtain ⟨sp, rfl⟩ : ∃ j : Nat, i0 = j := ⟨i0.toNat, by omega⟩
  obtain ⟨dp, rfl⟩ : ∃ j : Nat, i1 = j := ⟨i1.toNat, by omega⟩
  obtain ⟨nn, rfl⟩ : ∃ j : Nat, i2 = j := ⟨i2.toNat, by omega⟩
  obtain ⟨rm1, rm2, rm3, rm4⟩ := hRm
  obtain ⟨hc0, hA0, hr0, hln0⟩ := hR.arr hs0 (by omega)
  obtain ⟨hc1, hA1, hr1, hln1⟩ := hR.arr hs1 (by omega)
  have cs : (iI (sp : Int)).toNatClampNeg = sp := by rw [iI_clamp (by omega) (by omega)]; rfl
  have cd : (iI (dp : Int)).toNatClampNeg = dp := by rw [iI_clamp (by omega) (by omega)]; rfl
  have cn : (iI (nn : Int)).toNatClampNeg = nn := by rw [iI_clamp (by omega) (by omega)]; rfl
  have is : (iI (sp : Int)).toInt = sp := iI_toInt ⟨by omega, by omega⟩
  have id : (iI (dp : Int)).toInt = dp := iI_toInt ⟨by omega, by omega⟩
  have inn : (iI (nn : Int)).toInt = nn := iI_toInt ⟨by omega, by omega⟩
  intro T hT X9
  obtain ⟨-, k0, hk0, cm0, hkk0⟩ := (hE.1.2 3 _ rfl).1 (Ln a) (gm_f G S M R a)
  obtain ⟨-, k1, hk1, cm1, hkk1⟩ := (hE.1.2 3 _ rfl).1 (Ln b) (gm_f G S M R b)
  have hf0 : ∀ j : Nat, gm_f G S M R a j = .int (iI (M a (j : Int))) := fun j => by unfold gm_f; rw [hs0]; rfl
  have hf1 : ∀ j : Nat, gm_f G S M R b j = .int (iI (M b (j : Int))) := fun j => by unfold gm_f; rw [hs1]; rfl
  obtain ⟨vm', X', step⟩ := X9.arraycopy hx hown (hts _ hlk) (hts _ hnat) (hts _ hstt) (hts _ hini) (src := a) (dst := b) (cs := arrV (G.2.2.1 23) (Ln a) (gm_f G S M R a)) (cd := arrV (G.2.2.1 23) (Ln b) (gm_f G S M R b)) (srcPos := iI sp) (destPos := iI dp) (n := iI nn) (by rw [hT]; exact hc0) (by rw [hT]; exact hc1)
    (fun _ h => by cases h) (fun _ h => by cases h) (fun h => by cases h) (fun h => by cases h) hk0 hk1 hkk0 hkk1 (by rfl) (by rw [iI_0, iI_lt ⟨by omega, by omega⟩ jj_r0]; omega) (by rw [iI_0, iI_lt ⟨by omega, by omega⟩ jj_r0]; omega) (by rw [iI_0, iI_lt ⟨by omega, by omega⟩ jj_r0]; omega)
    (by rw [is, inn, arrV_size]; omega)
    (by rw [id, inn, arrV_size]; omega)
    (fun vm₁ _ i hi => by
      rw [cn] at hi
      rw [cs]
      have e : (arrV (G.2.2.1 23) (Ln a) (gm_f G S M R a)).slots.getD (sp + i) .null = .int (iI (M a ((sp + i : Nat) : Int))) := by
        rw [Array.getD_eq_getD_getElem?, arrV_read _ _ (by omega), hf0]
        rfl
      refine ⟨?_, ?_⟩
      · rw [e]
        have := hr0 (sp + i)
        exact j8_fitB this
      · rw [e]
        exact trivial)
    (g := F0 m pc ls (.int (iI nn) :: .int (iI dp) :: .ref b :: .int (iI sp) :: .ref a :: st)) rfl (by rw [hl.1]) (rest := st) rfl (by rw [hb]; exact hd) (Nat.le_trans hfr rm1) (by
      have e9 : nativeFrameWords "java/lang/System" "arraycopy" 5 + 11 ≤ 56 := by decide
      show 2 * 0 + _ + _ ≤ Rm.locals; omega)
  have e1 : copied (arrV (G.2.2.1 23) (Ln a) (gm_f G S M R a)) (arrV (G.2.2.1 23) (Ln b) (gm_f G S M R b)) (iI sp) (iI dp) (iI nn) = arrV (G.2.2.1 23) (Ln b) (va_cpy (gm_f G S M R a) (gm_f G S M R b) sp dp nn) := by
    have := va_copied (fun z : Value => z) (G.2.2.1 23) (G.2.2.1 23) (n0 := Ln a) (n1 := Ln b) (sp := sp) (dp := dp) (n := nn) (gm_f G S M R a) (gm_f G S M R b) (by omega)
    unfold copied
    rw [cs, cd, cn]
    exact this
  rw [e1] at X' step
  have hlt : b < H.size := (Array.getElem?_eq_some_iff.mp hc1).1
  have hheap : ((T.setVm vm').setCell b (arrV (G.2.2.1 23) (Ln b) (va_cpy (gm_f G S M R a) (gm_f G S M R b) sp dp nn))).heap = H.setIfInBounds b (arrV (G.2.2.1 23) (Ln b) (va_cpy (gm_f G S M R a) (gm_f G S M R b) sp dp nn)) := by rw [← hT]; rfl
  have oq : ∀ q : Nat, q ≠ b → (H.setIfInBounds b (arrV (G.2.2.1 23) (Ln b) (va_cpy (gm_f G S M R a) (gm_f G S M R b) sp dp nn)))[q]? = H[q]? := fun q hq => by simp [Array.getElem?_setIfInBounds, Ne.symm hq]
  have hR2 : Rep G sz S Ln (ua M b (fun j => if (dp : Int) ≤ j ∧ j < dp + nn then M a (sp + (j - dp)) else M b j)) (ua R b (R b)) (H.setIfInBounds b (arrV (G.2.2.1 23) (Ln b) (va_cpy (gm_f G S M R a) (gm_f G S M R b) sp dp nn))) := by
    refine hR.over (by omega) (by simp) oq (fun k => ?_) ?_
    · rw [hs1]
      by_cases hq : (dp : Int) ≤ k ∧ (k : Int) < dp + nn
      · rw [if_pos hq]
        have := hr0 (sp + (k - dp))
        rw [show (((sp + (k - dp) : Nat)) : Int) = sp + ((k : Int) - dp) by omega] at this
        exact this
      · rw [if_neg hq]; exact hr1 k
    · unfold gm_cell
      rw [hs1, if_neg (by omega)]
      refine Or.inl ?_
      rw [show (H.setIfInBounds b (arrV (G.2.2.1 23) (Ln b) (va_cpy (gm_f G S M R a) (gm_f G S M R b) sp dp nn)))[b]? = some (arrV (G.2.2.1 23) (Ln b) (va_cpy (gm_f G S M R a) (gm_f G S M R b) sp dp nn)) by simp [Array.getElem?_setIfInBounds, hlt]]
      congr 2
      funext q
      unfold va_cpy
      by_cases hq : dp ≤ q ∧ q < dp + nn
      · rw [if_pos hq, hf0, if_pos (by omega)]
        rw [show (((sp + (q - dp) : Nat)) : Int) = sp + ((q : Int) - dp) by omega]
        rfl
      · rw [if_neg hq, hf1, if_neg (by omega)]
        rfl
  rw [ua_self] at hR2
  obtain ⟨t, a1, b1⟩ := kk _ _ ls hR2 ⟨by simp; exact hS.1, fun q g1 g2 => by
      rw [oq q (fun e => g2 (by rw [e]; exact hA1 rfl))]
      exact hS.2.1 q g1 g2, fun q hq => by
      rcases List.mem_append.mp hq with h | h
      · exact hS.2.2 q h
      · obtain ⟨z, -, hz⟩ := List.mem_map.mp h
        rw [← hz]
        exact hA1 rfl⟩ hl _ hheap X'
  exact ⟨t, step t a1, b1⟩

theorem jj_copyB28 (hC : OKC G C own cc nL ret fr mc ms P X) {index a b : Nat} {i0 i1 i2 : Int} (hs0 : S a = 28) (hs1 : S b = 23) (q0 : 0 ≤ i0) (q1 : 0 ≤ i1) (q2 : 0 ≤ i2) (q4 : i0 + i2 ≤ Ln a) (q5 : i1 + i2 ≤ Ln b) (hlk : Cond.methodLink own index arraycopyName ∈ gW) (hnat : Cond.native arraycopyName ∈ gW) (hstt : Cond.static arraycopyName ∈ gW) (hini : Cond.initialized "java/lang/System" ∈ gW) (hfr : 1 ≤ fr) (hW : (st.map fun v => v.category).sum ≤ 8) (hd : decode cc pc = .ok (.invokestatic index, 3))
    (kk : JJ G C k n sz S Ln (ua M b (fun j => if i1 ≤ j ∧ j < i1 + i2 then M a (i0 + (j - i1)) else M b j)) R (pc + 3) lv st) : JJ G C k n sz S Ln M R pc lv (.int (iI i2) :: .int (iI i1) :: .ref b :: .int (iI i0) :: .ref a :: st) := by
  obtain ⟨p, l, e, Rm, s, m, args, below, meth, c, Q⟩ := C
  obtain ⟨hx, hb, hml, hown, hts, hE, hlk2, hrt, hst, hRm, hQ, htab, hz⟩ := hC
  intro H locs ls hR hS hl
  obtain ⟨sp, rfl⟩ : ∃ j : Nat, i0 = j := ⟨i0.toNat, by omega⟩
  obtain ⟨dp, rfl⟩ : ∃ j : Nat, i1 = j := ⟨i1.toNat, by omega⟩
  obtain ⟨nn, rfl⟩ : ∃ j : Nat, i2 = j := ⟨i2.toNat, by omega⟩
  obtain ⟨rm1, rm2, rm3, rm4⟩ := hRm
  obtain ⟨⟨cl0, hc0, hcc0, ⟨hl1, hl2, hl3⟩, hv1, hv2⟩, hr0, hln0⟩ := hR.arq hs0 (by omega)
  obtain ⟨hc1, hA1, hr1, hln1⟩ := hR.arr hs1 (by omega)
  have cs : (iI (sp : Int)).toNatClampNeg = sp := by rw [iI_clamp (by omega) (by omega)]; rfl
  have cd : (iI (dp : Int)).toNatClampNeg = dp := by rw [iI_clamp (by omega) (by omega)]; rfl
  have cn : (iI (nn : Int)).toNatClampNeg = nn := by rw [iI_clamp (by omega) (by omega)]; rfl
  have is : (iI (sp : Int)).toInt = sp := iI_toInt ⟨by omega, by omega⟩
  have id : (iI (dp : Int)).toInt = dp := iI_toInt ⟨by omega, by omega⟩
  have inn : (iI (nn : Int)).toInt = nn := iI_toInt ⟨by omega, by omega⟩
  intro T hT X9
  obtain ⟨hst0, k0, hk0, cm0, hkk0⟩ := arq_of (hE.1.2 8 _ rfl).1 hcc0 hv2
  obtain ⟨-, k1, hk1, cm1, hkk1⟩ := (hE.1.2 3 _ rfl).1 (Ln b) (gm_f G S M R b)
  have hf0 : ∀ j : Nat, gm_f G S M R a j = .int (iI (M a (j : Int))) := fun j => by unfold gm_f; rw [hs0]; rfl
  have hf1 : ∀ j : Nat, gm_f G S M R b j = .int (iI (M b (j : Int))) := fun j => by unfold gm_f; rw [hs1]; rfl
  obtain ⟨vm', X', step⟩ := X9.arraycopy hx hown (hts _ hlk) (hts _ hnat) (hts _ hstt) (hts _ hini) (src := a) (dst := b) (cs := cl0) (cd := arrV (G.2.2.1 23) (Ln b) (gm_f G S M R b)) (srcPos := iI sp) (destPos := iI dp) (n := iI nn) (by rw [hT]; exact hc0) (by rw [hT]; exact hc1)
    hst0 (fun _ h => by cases h) hv1 (fun h => by cases h) hk0 hk1 hkk0 hkk1 (by rfl) (by rw [iI_0, iI_lt ⟨by omega, by omega⟩ jj_r0]; omega) (by rw [iI_0, iI_lt ⟨by omega, by omega⟩ jj_r0]; omega) (by rw [iI_0, iI_lt ⟨by omega, by omega⟩ jj_r0]; omega)
    (by rw [is, inn]; omega)
    (by rw [id, inn, arrV_size]; omega)
    (fun vm₁ _ i hi => by
      rw [cn] at hi
      rw [cs]
      have e : cl0.slots.getD (sp + i) .null = .int (iI (M a ((sp + i : Nat) : Int))) := by
        rw [Array.getD_eq_getD_getElem?, hl3 _ (by omega), hf0]
        rfl
      refine ⟨?_, ?_⟩
      · rw [e]
        have := hr0 (sp + i)
        exact j8_fitB this
      · rw [e]
        exact trivial)
    (g := F0 m pc ls (.int (iI nn) :: .int (iI dp) :: .ref b :: .int (iI sp) :: .ref a :: st)) rfl (by rw [hl.1]) (rest := st) rfl (by rw [hb]; exact hd) (Nat.le_trans hfr rm1) (by
      have e9 : nativeFrameWords "java/lang/System" "arraycopy" 5 + 11 ≤ 56 := by decide
      show 2 * 0 + _ + _ ≤ Rm.locals; omega)
  have e1 : copied cl0 (arrV (G.2.2.1 23) (Ln b) (gm_f G S M R b)) (iI sp) (iI dp) (iI nn) = arrV (G.2.2.1 23) (Ln b) (va_cpy (gm_f G S M R a) (gm_f G S M R b) sp dp nn) := by
    have := va_copied (fun z : Value => z) (G.2.2.1 28) (G.2.2.1 23) (n0 := Ln a) (n1 := Ln b) (sp := sp) (dp := dp) (n := nn) (gm_f G S M R a) (gm_f G S M R b) (by omega)
    have hstr : cl0.stretch sp nn = (arrV (G.2.2.1 28) (Ln a) (gm_f G S M R a)).stretch sp nn := by
      unfold Cell.stretch
      refine List.map_congr_left (fun i hi => ?_)
      rw [List.mem_range] at hi
      rw [Array.getD_eq_getD_getElem?, Array.getD_eq_getD_getElem?, hl3 _ (by omega), arrV_read _ _ (by omega)]
    unfold copied
    rw [cs, cd, cn, hstr]
    exact this
  rw [e1] at X' step
  have hlt : b < H.size := (Array.getElem?_eq_some_iff.mp hc1).1
  have hheap : ((T.setVm vm').setCell b (arrV (G.2.2.1 23) (Ln b) (va_cpy (gm_f G S M R a) (gm_f G S M R b) sp dp nn))).heap = H.setIfInBounds b (arrV (G.2.2.1 23) (Ln b) (va_cpy (gm_f G S M R a) (gm_f G S M R b) sp dp nn)) := by rw [← hT]; rfl
  have oq : ∀ q : Nat, q ≠ b → (H.setIfInBounds b (arrV (G.2.2.1 23) (Ln b) (va_cpy (gm_f G S M R a) (gm_f G S M R b) sp dp nn)))[q]? = H[q]? := fun q hq => by simp [Array.getElem?_setIfInBounds, Ne.symm hq]
  have hR2 : Rep G sz S Ln (ua M b (fun j => if (dp : Int) ≤ j ∧ j < dp + nn then M a (sp + (j - dp)) else M b j)) (ua R b (R b)) (H.setIfInBounds b (arrV (G.2.2.1 23) (Ln b) (va_cpy (gm_f G S M R a) (gm_f G S M R b) sp dp nn))) := by
    refine hR.over (by omega) (by simp) oq (fun k => ?_) ?_
    · rw [hs1]
      by_cases hq : (dp : Int) ≤ k ∧ (k : Int) < dp + nn
      · rw [if_pos hq]
        have := hr0 (sp + (k - dp))
        rw [show (((sp + (k - dp) : Nat)) : Int) = sp + ((k : Int) - dp) by omega] at this
        exact this
      · rw [if_neg hq]; exact hr1 k
    · unfold gm_cell
      rw [hs1, if_neg (by omega)]
      refine Or.inl ?_
      rw [show (H.setIfInBounds b (arrV (G.2.2.1 23) (Ln b) (va_cpy (gm_f G S M R a) (gm_f G S M R b) sp dp nn)))[b]? = some (arrV (G.2.2.1 23) (Ln b) (va_cpy (gm_f G S M R a) (gm_f G S M R b) sp dp nn)) by simp [Array.getElem?_setIfInBounds, hlt]]
      congr 2
      funext q
      unfold va_cpy
      by_cases hq : dp ≤ q ∧ q < dp + nn
      · rw [if_pos hq, hf0, if_pos (by omega)]
        rw [show (((sp + (q - dp) : Nat)) : Int) = sp + ((q : Int) - dp) by omega]
        rfl
      · rw [if_neg hq, hf1, if_neg (by omega)]
        rfl
  rw [ua_self] at hR2
  obtain ⟨t, a1, b1⟩ := kk _ _ ls hR2 ⟨by simp; exact hS.1, fun q g1 g2 => by
      rw [oq q (fun e => g2 (by rw [e]; exact hA1 rfl))]
      exact hS.2.1 q g1 g2, fun q hq => by
      rcases List.mem_append.mp hq with h | h
      · exact hS.2.2 q h
      · obtain ⟨z, -, hz⟩ := List.mem_map.mp h
        rw [← hz]
        exact hA1 rfl⟩ hl _ hheap X'
  exact ⟨t, step t a1, b1⟩
/-- an exception goes out -/
theorem jj_out (hC : OKC G C own cc nL ret fr mc ms P X) {E : String} (h1 : k ≤ mc) (h2 : n ≤ ms) (hX : X E sz S Ln M R) (ho : own ≠ "GlidingContestLaw" := by decide) : JX G C k n E sz S Ln M R pc lv st := by
  obtain ⟨p, l, e, Rm, s, m, args, below, meth, c, Q⟩ := C
  obtain ⟨hx, hb, hml, hown, hts, hE, hlk2, hrt, hst, hRm, hQ, htab, hz⟩ := hC
  intro H locs ls q ce hR hS hl hc hv hcl
  subst hQ
  exact vx_out (fun x hx => (htab ho x hx).elim) hlk2 hc hv hcl (fun t ht _ => ⟨⟨sz, S, Ln, M, R, hX, by rw [ht]; exact hR⟩, by unfold va_F; rw [ht]; exact ⟨hS.1, hS.2.1⟩⟩) hS.2.2 h1 h2
/-- throw new E(text) -/
theorem jj_throw (hC : OKC G C own cc nL ret fr mc ms P X) {cls text : String} {names : List String} {ik is ic : Nat} (i : Nat) (hi : gTx[i]? = some (own, is, text)) (hcls : Bundle.fit cls = true) (hnames : ∀ n ∈ names, Bundle.fit n = true) (hlen : names.length ≤ 4)
    (hk : Cond.classLink own ik cls ∈ gW) (hini : Cond.initialized cls ∈ gW) (hat : ∀ w ∈ vx_atS own ic cls names, w ∈ gW ∨ ∃ E, w = Cond.declares E ∧ w ∈ gNW) (hgood : ∀ w ∈ Cond.classLink own ik cls :: Cond.initialized cls :: vx_atS own ic cls names, vx_ot w = true)
    (d0 : decode cc pc = .ok (.new ik, 3)) (d3 : decode cc (pc + 3) = .ok (.dup, 1)) (d4 : decode cc (pc + 4) = .ok (.ldc_w is, 3)) (d7 : decode cc (pc + 7) = .ok (.invokespecial ic, 3)) (d10 : decode cc (pc + 10) = .ok (.athrow, 1))
    (hfr : 8 ≤ fr) (hW : (st.map fun v => v.category).sum ≤ 8) (h1 : k + 1 ≤ mc) (h2 : n + 6 ≤ ms) (hX : ∀ sz', sz ≤ sz' → X cls sz' S Ln M R) (ho : own ≠ "GlidingContestLaw" := by decide) : JJ G C k n sz S Ln M R pc lv st := by
  obtain ⟨p, l, e, Rm, s, m, args, below, meth, c, Q⟩ := C
  obtain ⟨hx, hb, hml, hown, hts, hE, hlk2, hrt, hst, hRm, hQ, htab, hz⟩ := hC
  intro H locs ls hR hS hl
  subst hQ
  obtain ⟨rm1, rm2, rm3, rm4⟩ := hRm
  obtain ⟨h9, ⟨h10, h10n⟩, z1, z2, z3, z45, z6, z7, z8, z9, z10⟩ := hE
  obtain ⟨sa, hsa⟩ := z7 _ (List.mem_of_getElem? hi)
  refine vx_throwSW (sa := sa) (names := names) hx hb hst hown hcls hnames (hts _ hk) (hts _ hini) hsa ?_ hgood z8 z9 hS hl.1 d0 d3 d4 d7 d10 (fun x hx => (htab ho x hx).elim) (by show names.length + 3 < Rm.frames; omega) (by show _ ≤ Rm.locals; omega) (by show k + 1 ≤ Rm.cells; omega) (by show n + 6 ≤ Rm.slots; omega) hlk2 ?_ hS.2.2 h1 h2
  · intro w hw
    rcases hat w hw with h | ⟨E, rfl, h⟩
    · exact hts _ h
    · exact va_Nw.use rfl (h10 _ h)
  · intro t _ ht1 ht2
    refine ⟨⟨t.heap.size, S, Ln, M, R, hX _ (by rw [← hR.1]; exact ht1), rfl, fun a ha => ?_⟩, ?_, ?_⟩
    · obtain ⟨r1, r2, r3, r5, r4⟩ := hR.2 a ha
      have hH := hR.1
      exact ⟨by omega, r2, r3, r5, gm_cell.kept r4 (ht2 a (by omega))⟩
    · exact Nat.le_trans hS.1 ht1
    · intro q h3 h4
      rw [ht2 q (Nat.lt_of_lt_of_le h3 hS.1)]
      exact hS.2.1 q h3 h4
end JJA
end
section
/-! THE DECOMPILER'S WORDS: methods as functions over the memory; their steps -/
def w32 (z : Int) : Int := (iI z).toInt
theorem w32_r (z : Int) : (-2147483648 ≤ w32 z ∧ w32 z < 2147483648) := iI_rng _
theorem iI_w32 (z : Int) : iI (w32 z) = iI z := iI_self _
theorem w32_id {z : Int} (h : (-2147483648 ≤ z ∧ z < 2147483648)) : w32 z = z := iI_toInt h
def w64 (z : Int) : Int := (lI z).toInt
theorem lI_self (x : Int64) : lI x.toInt = x := Int64.ofInt_toInt x
theorem w64_r (z : Int) : (-9223372036854775808 ≤ w64 z ∧ w64 z < 9223372036854775808) := ⟨Int64.le_toInt _, Int64.toInt_lt _⟩
theorem lI_w64 (z : Int) : lI (w64 z) = lI z := lI_self _
theorem w64_id {z : Int} (h : (-9223372036854775808 ≤ z ∧ z < 9223372036854775808)) : w64 z = z := lI_toInt h
def i_and (x y : Int) : Int := (iI x &&& iI y).toInt
def i_or (x y : Int) : Int := (iI x ||| iI y).toInt
def i_shl (x y : Int) : Int := (iI x <<< (iI y &&& 31)).toInt
def i_shr (x y : Int) : Int := (iI x >>> (iI y &&& 31)).toInt
def i_ushr (x y : Int) : Int := ((iI x).toUInt32 >>> ((iI y).toUInt32 &&& Int32.toUInt32 31)).toInt32.toInt
def i_i2c (x : Int) : Int := ((iI x).toUInt32 % 65536).toInt32.toInt
def i_i2b (x : Int) : Int := ((iI x).toInt8).toInt32.toInt
def i_lcmp (x y : Int) : Int := if x < y then -1 else if x = y then 0 else 1
def i_max (x y : Int) : Int := if x < y then y else x
def i_min (x y : Int) : Int := if y < x then y else x
def i_abs (x : Int) : Int := w32 (if 0 ≤ x then x else 0 - x)
def i_cpy (M : gM) (a b : Nat) (i0 i1 i2 : Int) : gM := ua M b (fun j => if i1 ≤ j ∧ j < i1 + i2 then M a (i0 + (j - i1)) else M b j)
theorem i_max_r {x y : Int} (hx : (-2147483648 ≤ x ∧ x < 2147483648)) (hy : (-2147483648 ≤ y ∧ y < 2147483648)) : (-2147483648 ≤ i_max x y ∧ i_max x y < 2147483648) := by unfold i_max; split <;> assumption
theorem i_min_r {x y : Int} (hx : (-2147483648 ≤ x ∧ x < 2147483648)) (hy : (-2147483648 ≤ y ∧ y < 2147483648)) : (-2147483648 ≤ i_min x y ∧ i_min x y < 2147483648) := by unfold i_min; split <;> assumption
theorem i_lcmp_r {x y : Int} : (-2147483648 ≤ i_lcmp x y ∧ i_lcmp x y < 2147483648) := by
  unfold i_lcmp
  split
  · decide
  · split <;> decide
theorem i_tdiv_r {x y : Int} (hx : (-2147483648 ≤ x ∧ x < 2147483648)) (h0 : 0 < y) : (-2147483648 ≤ Int.tdiv x y ∧ Int.tdiv x y < 2147483648) := by
  have h1 : Int.natAbs (Int.tdiv x y) ≤ Int.natAbs x := Int.natAbs_tdiv_le_natAbs x y
  rcases Int.le_total 0 x with h5 | h5
  · omega
  · have h6 : 0 ≤ Int.tdiv (-x) y := Int.tdiv_nonneg (by omega) (by omega)
    rw [Int.neg_tdiv] at h6
    omega
theorem i_tmod_r {x y : Int} (hx : (-2147483648 ≤ x ∧ x < 2147483648)) (hy : (-2147483648 ≤ y ∧ y < 2147483648)) (h0 : 0 < y) : (-2147483648 ≤ Int.tmod x y ∧ Int.tmod x y < 2147483648) := by
  have h1 := Int.tmod_lt_of_pos x h0
  rcases Int.le_total 0 x with h5 | h5
  · have := Int.tmod_nonneg y h5
    omega
  · have h6 : 0 ≤ Int.tmod (-x) y := Int.tmod_nonneg y (by omega)
    have h7 : Int.tmod (-x) y < y := Int.tmod_lt_of_pos (-x) h0
    rw [Int.neg_tmod] at h6 h7
    omega
theorem r_z {z : Int} (h : 0 ≤ z ∧ z ≤ 1) : (-2147483648 ≤ z ∧ z < 2147483648) := by omega
theorem r_c {z : Int} (h : 0 ≤ z ∧ z < 65536) : (-2147483648 ≤ z ∧ z < 2147483648) := by omega
theorem r_b {z : Int} (h : -128 ≤ z ∧ z < 128) : (-2147483648 ≤ z ∧ z < 2147483648) := by omega
theorem r_e {z : Int} (h : -1 ≤ z ∧ z < 9) (h0 : 0 ≤ z) : 0 ≤ z ∧ z < 9 := ⟨h0, h.2⟩
def gd {α : Type} (p : Prop) [Decidable p] (k : Option α) : Option α := if p then k else none
theorem gd_e {α : Type} {p : Prop} [Decidable p] {k : Option α} {r : α} (h : gd p k = some r) : p ∧ k = some r := by
  unfold gd at h
  split at h
  · exact ⟨by assumption, h⟩
  · cases h
theorem gd_t {α : Type} {p : Prop} [Decidable p] {k : Option α} (h : p) : gd p k = k := if_pos h
def rf {α : Type} (S : Nat → Nat) (o : Option Nat) (kd : Nat) (f : Nat → Option α) : Option α := match o with
  | none => none
  | some b => if S b = kd then f b else none
theorem rf_e {α : Type} {S : Nat → Nat} {o : Option Nat} {kd : Nat} {f : Nat → Option α} {r : α} (h : rf S o kd f = some r) : ∃ b, o = some b ∧ S b = kd ∧ f b = some r := by
  unfold rf at h
  split at h
  · cases h
  · split at h
    · exact ⟨_, rfl, by assumption, h⟩
    · cases h
theorem rf_s {α : Type} {S : Nat → Nat} {kd b : Nat} {f : Nat → Option α} (h : S b = kd) : rf S (some b) kd f = f b := if_pos h
def bd {α β : Type} (o : Option α) (f : α → Option β) : Option β := match o with
  | none => none
  | some a => f a
theorem bd_e {α β : Type} {o : Option α} {f : α → Option β} {r : β} (h : bd o f = some r) : ∃ q, o = some q ∧ f q = some r := by
  unfold bd at h
  split at h
  · cases h
  · exact ⟨_, rfl, h⟩
theorem bd_s {α β : Type} {a : α} {f : α → Option β} : bd (some a) f = f a := rfl
def lp {σ ρ : Type} (b : σ → Option (σ ⊕ ρ)) : Nat → σ → Option ρ
  | 0, _ => none
  | n + 1, s => match b s with
    | none => none
    | some (.inl t) => lp b n t
    | some (.inr r) => some r
theorem lp_inl {σ ρ : Type} {b : σ → Option (σ ⊕ ρ)} {n : Nat} {s t : σ} (h : b s = some (.inl t)) : lp b (n + 1) s = lp b n t := by
  show (match b s with | none => none | some (.inl t) => lp b n t | some (.inr r) => some r) = _
  rw [h]
theorem lp_inr {σ ρ : Type} {b : σ → Option (σ ⊕ ρ)} {n : Nat} {s : σ} {r : ρ} (h : b s = some (.inr r)) : lp b (n + 1) s = some r := by
  show (match b s with | none => none | some (.inl t) => lp b n t | some (.inr r) => some r) = _
  rw [h]
theorem lp_none {σ ρ : Type} {b : σ → Option (σ ⊕ ρ)} {n : Nat} {s : σ} (h : b s = none) : lp b (n + 1) s = none := by
  show (match b s with | none => none | some (.inl t) => lp b n t | some (.inr r) => some r) = _
  rw [h]
theorem lp_ind {σ α β : Type} {b : σ → Option (σ ⊕ (α ⊕ β))} {I J : σ → Prop} {IE KE : α → Prop} {KR : β → Prop}
    (step : ∀ s r, I s → b s = some r → (∀ t, r = .inl t → I t → J t) → (∀ a, r = .inr (.inl a) → IE a → KE a) → (∀ c, r = .inr (.inr c) → KR c) → J s) :
    ∀ (n : Nat) (s : σ) (q : α ⊕ β), lp b n s = some q → I s → (∀ a, q = .inl a → IE a → KE a) → (∀ c, q = .inr c → KR c) → J s := by
  intro n
  induction n with
  | zero => intro s q h; cases h
  | succ n ih =>
    intro s q h hI h1 h2
    cases hb : b s with
    | none => rw [lp_none hb] at h; cases h
    | some r =>
      cases r with
      | inl t =>
        rw [lp_inl hb] at h
        exact step s _ hI hb (fun t' ht hIt => by cases ht; exact ih _ q h hIt h1 h2) (fun a ha _ => by cases ha) (fun c hc => by cases hc)
      | inr w =>
        rw [lp_inr hb] at h
        cases h
        exact step s _ hI hb (fun t' ht hIt => by cases ht) (fun a ha hIa => by cases ha; exact h1 a rfl hIa) (fun c hc => by cases hc; exact h2 c rfl)
/-- a loop's run: an invariant and a measure -/
theorem lp_run {σ ρ : Type} {b : σ → Option (σ ⊕ ρ)} (I : σ → Prop) (m : σ → Nat) (Q : ρ → Prop) (step : ∀ s, I s → (∃ t, b s = some (.inl t) ∧ I t ∧ m t < m s) ∨ (∃ r, b s = some (.inr r) ∧ Q r)) :
    ∀ (n : Nat) (s : σ), I s → m s < n → ∃ r, lp b n s = some r ∧ Q r := by
  intro n
  induction n with
  | zero => intro s _ h; exact absurd h (Nat.not_lt_zero _)
  | succ n ih =>
    intro s hI hm
    rcases step s hI with ⟨t, h1, h2, h3⟩ | ⟨r, h1, h2⟩
    · obtain ⟨r, h4, h5⟩ := ih t h2 (by omega)
      exact ⟨r, by rw [lp_inl h1]; exact h4, h5⟩
    · exact ⟨r, by rw [lp_inr h1], h2⟩
def FU : Nat := 4294967296
theorem c_le {a b : Nat} (h : Nat.ble a b = true) : a ≤ b := Nat.le_of_ble_eq_true h
theorem OKC.tr {G : gE} {C : gC} {own : String} {cc : ByteArray} {nL : Nat} {ret : Option FieldType} {fr mc ms : Nat} {P : gP} {X : gX} (h : OKC G C own cc nL ret fr mc ms P X) : (LV C).stackTraces = false := by
  obtain ⟨p, l, e, Rm, s, m, args, below, meth, c, Q⟩ := C
  exact h.2.2.2.2.2.2.2.2.1
section JJG
variable {G : gE} {C : gC} {own : String} {cc : ByteArray} {nL : Nat} {ret : Option FieldType} {fr mc ms : Nat} {P : gP} {X : gX} {k n sz : Nat} {S Ln : Nat → Nat} {M : gM} {R : gR} {pc : Nat} {lv lv' : List (Nat × Value)} {st : List Value}
/-- the memory has ranges and the rest of the heap's size -/
theorem jg_hz (hC : OKC G C own cc nL ret fr mc ms P X) : True := trivial
theorem jg_I (hC : OKC G C own cc nL ret fr mc ms P X) {kd N index a : Nat} {CN : String} {T : u_T} {ty0 : Nat → FieldType} (hk : KF kd CN T N ty0) (i : Nat) {j : Int} (hj : (i : Int) = j) (hs : S a = kd) (hi : i < N) (hlk : Cond.fieldLink own index (T i).1 (T i).2.1 (T i).2.2.1 ∈ gW) (hf0 : gm_fty kd i = 0) (hdg : decode cc pc = .ok (.getfield index, 3))
    (kk : (-2147483648 ≤ M a j ∧ M a j < 2147483648) → JJ G C k n sz S Ln M R (pc + 3) lv (.int (iI (M a j)) :: st)) : JJ G C k n sz S Ln M R pc lv (.ref a :: st) := by subst hj; exact jj_getI hC hk i hs hi hlk hf0 hdg kk
theorem jg_Z (hC : OKC G C own cc nL ret fr mc ms P X) {kd N index a : Nat} {CN : String} {T : u_T} {ty0 : Nat → FieldType} (hk : KF kd CN T N ty0) (i : Nat) {j : Int} (hj : (i : Int) = j) (hs : S a = kd) (hi : i < N) (hlk : Cond.fieldLink own index (T i).1 (T i).2.1 (T i).2.2.1 ∈ gW) (hf0 : gm_fty kd i = 7) (hdg : decode cc pc = .ok (.getfield index, 3))
    (kk : 0 ≤ M a j ∧ M a j ≤ 1 → JJ G C k n sz S Ln M R (pc + 3) lv (.int (iI (M a j)) :: st)) : JJ G C k n sz S Ln M R pc lv (.ref a :: st) := by subst hj; exact jj_getZ hC hk i hs hi hlk hf0 hdg kk
theorem jg_L (hC : OKC G C own cc nL ret fr mc ms P X) {kd N index a : Nat} {CN : String} {T : u_T} {ty0 : Nat → FieldType} (hk : KF kd CN T N ty0) (i : Nat) {j : Int} (hj : (i : Int) = j) (hs : S a = kd) (hi : i < N) (hlk : Cond.fieldLink own index (T i).1 (T i).2.1 (T i).2.2.1 ∈ gW) (hf0 : gm_fty kd i = 2) (hdg : decode cc pc = .ok (.getfield index, 3))
    (kk : (-9223372036854775808 ≤ M a j ∧ M a j < 9223372036854775808) → JJ G C k n sz S Ln M R (pc + 3) lv (.long (lI (M a j)) :: st)) : JJ G C k n sz S Ln M R pc lv (.ref a :: st) := by subst hj; exact jj_getL hC hk i hs hi hlk hf0 hdg kk
theorem jg_R (hC : OKC G C own cc nL ret fr mc ms P X) {kd N index a b : Nat} {CN : String} {T : u_T} {ty0 : Nat → FieldType} (hk : KF kd CN T N ty0) (i : Nat) {j : Int} (hj : (i : Int) = j) (hs : S a = kd) (hi : i < N) (hlk : Cond.fieldLink own index (T i).1 (T i).2.1 (T i).2.2.1 ∈ gW) (hf0 : gm_fty kd i = 1) (hr : R a j = some b) (hdg : decode cc pc = .ok (.getfield index, 3))
    (kk : JJ G C k n sz S Ln M R (pc + 3) lv (.ref b :: st)) : JJ G C k n sz S Ln M R pc lv (.ref a :: st) := by subst hj; exact jj_getR hC hk i hs hi hlk hf0 hr hdg kk
theorem jg_E (hC : OKC G C own cc nL ret fr mc ms P X) {kd N index a : Nat} {CN : String} {T : u_T} {ty0 : Nat → FieldType} (hk : KF kd CN T N ty0) (i : Nat) {j : Int} (hj : (i : Int) = j) (hs : S a = kd) (hi : i < N) (hlk : Cond.fieldLink own index (T i).1 (T i).2.1 (T i).2.2.1 ∈ gW) (hf0 : gm_fty kd i = 3) (h0 : 0 ≤ M a j) (hdg : decode cc pc = .ok (.getfield index, 3))
    (kk : M a j < 9 → JJ G C k n sz S Ln M R (pc + 3) lv (.ref (G.2.2.2.2 (M a j).toNat) :: st)) : JJ G C k n sz S Ln M R pc lv (.ref a :: st) := by
  subst hj
  refine jj_rng (fun hr => ?_)
  have h9 := (hr a (by have := hk.1; omega)).1 i
  rw [hs, hf0] at h9
  refine jj_getE hC hk i hs hi hlk hf0 h0 hdg ?_
  exact kk
theorem jg_s (hC : OKC G C own cc nL ret fr mc ms P X) {index : Nat} (i : Nat) {E nm d : String} {z : Nat} {j : Int} (hj : (z : Int) = j) (hi : gEn[i]? = some (E, nm, d, z)) (hlk : Cond.fieldLink own index E nm d ∈ gW) (hdg : decode cc pc = .ok (.getstatic index, 3))
    (kk : JJ G C k n sz S Ln M R (pc + 3) lv (.ref (G.2.2.2.2 j.toNat) :: st)) : JJ G C k n sz S Ln M R pc lv st := by subst hj; exact jj_gets hC i hi hlk hdg kk
theorem jg_acmp_eq (hC : OKC G C own cc nL ret fr mc ms P X) {x y : Int} {off : Int} {tgt : Nat} (hd : decode cc pc = .ok (.if_acmp .eq off, 3)) (ht : (pc : Int) + off = (tgt : Int)) (hx : 0 ≤ x ∧ x < 9) (hy : 0 ≤ y ∧ y < 9) (kt : x = y → JJ G C k n sz S Ln M R tgt lv st) (kf : ¬ x = y → JJ G C k n sz S Ln M R (pc + 3) lv st) : JJ G C k n sz S Ln M R pc lv (.ref (G.2.2.2.2 y.toNat) :: .ref (G.2.2.2.2 x.toNat) :: st) :=
  jj_acmp_eq hC hd ht (fun h => kt (by have := jj_ad hC (by omega) (by omega) h; omega)) (fun h => kf (fun e => h (by rw [e])))
theorem jg_acmp_ne (hC : OKC G C own cc nL ret fr mc ms P X) {x y : Int} {off : Int} {tgt : Nat} (hd : decode cc pc = .ok (.if_acmp .ne off, 3)) (ht : (pc : Int) + off = (tgt : Int)) (hx : 0 ≤ x ∧ x < 9) (hy : 0 ≤ y ∧ y < 9) (kt : ¬ x = y → JJ G C k n sz S Ln M R tgt lv st) (kf : x = y → JJ G C k n sz S Ln M R (pc + 3) lv st) : JJ G C k n sz S Ln M R pc lv (.ref (G.2.2.2.2 y.toNat) :: .ref (G.2.2.2.2 x.toNat) :: st) :=
  jj_acmp_ne hC hd ht (fun h => kt (fun e => h (by rw [e]))) (fun h => kf (by have := jj_ad hC (by omega) (by omega) h; omega))
theorem jp_I (hC : OKC G C own cc nL ret fr mc ms P X) {kd N index a : Nat} {CN : String} {T : u_T} {ty0 : Nat → FieldType} (hk : KF kd CN T N ty0) (i : Nat) {j z : Int} (hj : (i : Int) = j) (hs : S a = kd) (hro : gm_ro kd = false) (hi : i < N) (hlk : Cond.fieldLink own index (T i).1 (T i).2.1 (T i).2.2.1 ∈ gW) (hfin : (T i).2.2.2 = false) (hd : ty0 i = .int) (hf0 : gm_fty kd i = 0) (hrz : (-2147483648 ≤ z ∧ z < 2147483648)) (hdg : decode cc pc = .ok (.putfield index, 3))
    (kk : JJ G C k n sz S Ln (ua M a (us (M a) j z)) R (pc + 3) lv st) : JJ G C k n sz S Ln M R pc lv (.int (iI z) :: .ref a :: st) := by subst hj; exact jj_putI hC hk i hs hro hi hlk hfin hd hf0 hrz hdg kk
theorem jp_Z (hC : OKC G C own cc nL ret fr mc ms P X) {kd N index a : Nat} {CN : String} {T : u_T} {ty0 : Nat → FieldType} (hk : KF kd CN T N ty0) (i : Nat) {j z : Int} (hj : (i : Int) = j) (hs : S a = kd) (hro : gm_ro kd = false) (hi : i < N) (hlk : Cond.fieldLink own index (T i).1 (T i).2.1 (T i).2.2.1 ∈ gW) (hfin : (T i).2.2.2 = false) (hd : ty0 i = .boolean) (hf0 : gm_fty kd i = 7) (hrz : 0 ≤ z ∧ z ≤ 1) (hdg : decode cc pc = .ok (.putfield index, 3))
    (kk : JJ G C k n sz S Ln (ua M a (us (M a) j z)) R (pc + 3) lv st) : JJ G C k n sz S Ln M R pc lv (.int (iI z) :: .ref a :: st) := by subst hj; exact jj_putZ hC hk i hs hro hi hlk hfin hd hf0 hrz hdg kk
theorem jp_L (hC : OKC G C own cc nL ret fr mc ms P X) {kd N index a : Nat} {CN : String} {T : u_T} {ty0 : Nat → FieldType} (hk : KF kd CN T N ty0) (i : Nat) {j z : Int} (hj : (i : Int) = j) (hs : S a = kd) (hro : gm_ro kd = false) (hi : i < N) (hlk : Cond.fieldLink own index (T i).1 (T i).2.1 (T i).2.2.1 ∈ gW) (hfin : (T i).2.2.2 = false) (hd : ty0 i = .long) (hf0 : gm_fty kd i = 2) (hrz : (-9223372036854775808 ≤ z ∧ z < 9223372036854775808)) (hdg : decode cc pc = .ok (.putfield index, 3))
    (kk : JJ G C k n sz S Ln (ua M a (us (M a) j z)) R (pc + 3) lv st) : JJ G C k n sz S Ln M R pc lv (.long (lI z) :: .ref a :: st) := by subst hj; exact jj_putL hC hk i hs hro hi hlk hfin hd hf0 hrz hdg kk
theorem jp_E (hC : OKC G C own cc nL ret fr mc ms P X) {kd N index a : Nat} {CN : String} {T : u_T} {ty0 : Nat → FieldType} (hk : KF kd CN T N ty0) (i : Nat) {j z : Int} (hj : (i : Int) = j) (hz9 : 0 ≤ z ∧ z < 9) (hs : S a = kd) (hro : gm_ro kd = false) (hi : i < N) (hlk : Cond.fieldLink own index (T i).1 (T i).2.1 (T i).2.2.1 ∈ gW) (hfin : (T i).2.2.2 = false) {ty : String} (hd : ty0 i = .object ty) (hf0 : gm_fty kd i = 3) (hdg : decode cc pc = .ok (.putfield index, 3))
    (kk : JJ G C k n sz S Ln (ua M a (us (M a) j z)) R (pc + 3) lv st) : JJ G C k n sz S Ln M R pc lv (.ref (G.2.2.2.2 z.toNat) :: .ref a :: st) := by
  subst hj
  refine jj_putE hC hk i z.toNat (by omega) hs hro hi hlk hfin hd rfl rfl hf0 rfl hdg ?_
  rw [Int.toNat_of_nonneg hz9.1]
  exact kk
theorem jg_iadd (hC : OKC G C own cc nL ret fr mc ms P X) {x y : Int} (hd : decode cc pc = .ok (.iadd, 1)) (kk : JJ G C k n sz S Ln M R (pc + 1) lv (.int (iI (w32 (x + y))) :: st)) : JJ G C k n sz S Ln M R pc lv (.int (iI y) :: .int (iI x) :: st) := jj_iadd hC hd (by rw [iI_w32] at kk; exact kk)
theorem jg_isub (hC : OKC G C own cc nL ret fr mc ms P X) {x y : Int} (hd : decode cc pc = .ok (.isub, 1)) (kk : JJ G C k n sz S Ln M R (pc + 1) lv (.int (iI (w32 (x - y))) :: st)) : JJ G C k n sz S Ln M R pc lv (.int (iI y) :: .int (iI x) :: st) := jj_isub hC hd (by rw [iI_w32] at kk; exact kk)
theorem jg_imul (hC : OKC G C own cc nL ret fr mc ms P X) {x y : Int} (hd : decode cc pc = .ok (.imul, 1)) (kk : JJ G C k n sz S Ln M R (pc + 1) lv (.int (iI (w32 (x * y))) :: st)) : JJ G C k n sz S Ln M R pc lv (.int (iI y) :: .int (iI x) :: st) := jj_imul hC hd (by rw [iI_w32] at kk; exact kk)
theorem jg_ineg (hC : OKC G C own cc nL ret fr mc ms P X) {x : Int} (hd : decode cc pc = .ok (.ineg, 1)) (kk : JJ G C k n sz S Ln M R (pc + 1) lv (.int (iI (w32 (-x))) :: st)) : JJ G C k n sz S Ln M R pc lv (.int (iI x) :: st) := jj_ineg hC hd (by rw [iI_w32] at kk; exact kk)
theorem jg_ladd (hC : OKC G C own cc nL ret fr mc ms P X) {x y : Int} (hd : decode cc pc = .ok (.ladd, 1)) (kk : JJ G C k n sz S Ln M R (pc + 1) lv (.long (lI (w64 (x + y))) :: st)) : JJ G C k n sz S Ln M R pc lv (.long (lI y) :: .long (lI x) :: st) := jj_ladd hC hd (by rw [lI_w64] at kk; exact kk)
theorem jg_iinc (hC : OKC G C own cc nL ret fr mc ms P X) {i q : Nat} {z x : Int} (hd : decode cc pc = .ok (.iinc i z, 3)) (hq : lv[q]? = some (i, .int (iI x))) (hn : i < nL) (hl2 : (i, Value.int (iI (w32 (x + z)))) :: lv.filter (fun q => !(q.1 == i) && !(q.1 + 1 == i && q.2.category == 2)) = lv') (kk : JJ G C k n sz S Ln M R (pc + 3) lv' st) : JJ G C k n sz S Ln M R pc lv st := jj_iinc hC hd hq hn (by rw [iI_w32] at hl2; exact hl2) kk
theorem jg_mabs (hC : OKC G C own cc nL ret fr mc ms P X) {index : Nat} {x : Int} (hrx : (-2147483648 ≤ x ∧ x < 2147483648)) (hlk : Cond.methodLink own index Lib.Math.abs.name ∈ gW) (hstt : Cond.static Lib.Math.abs.name ∈ gW) (hini : Cond.initialized "java/lang/Math" ∈ gW) (hco : Cond.code Lib.Math.abs.name Lib.Math.abs.code 1 (some .int) ∈ gW) (hfr : 1 ≤ fr) (hW : (st.map fun v => v.category).sum ≤ 8) (hk : k ≤ mc) (hn : n ≤ ms) (hd : decode cc pc = .ok (.invokestatic index, 3)) (kk : JJ G C k n sz S Ln M R (pc + 3) lv (.int (iI (i_abs x)) :: st)) : JJ G C k n sz S Ln M R pc lv (.int (iI x) :: st) := jj_mabs hC hrx hlk hstt hini hco hfr hW hk hn hd (by unfold i_abs at kk; rw [iI_w32] at kk; exact kk)
theorem jg_iand (hC : OKC G C own cc nL ret fr mc ms P X) {x y : Int} (hd : decode cc pc = .ok (.iand, 1)) (kk : JJ G C k n sz S Ln M R (pc + 1) lv (.int (iI (i_and x y)) :: st)) : JJ G C k n sz S Ln M R pc lv (.int (iI y) :: .int (iI x) :: st) := jj_iand hC hd (iI_self _).symm kk
theorem jg_ior (hC : OKC G C own cc nL ret fr mc ms P X) {x y : Int} (hd : decode cc pc = .ok (.ior, 1)) (kk : JJ G C k n sz S Ln M R (pc + 1) lv (.int (iI (i_or x y)) :: st)) : JJ G C k n sz S Ln M R pc lv (.int (iI y) :: .int (iI x) :: st) := jj_ior hC hd (iI_self _).symm kk
theorem jg_ishl (hC : OKC G C own cc nL ret fr mc ms P X) {x y : Int} (hd : decode cc pc = .ok (.ishl, 1)) (kk : JJ G C k n sz S Ln M R (pc + 1) lv (.int (iI (i_shl x y)) :: st)) : JJ G C k n sz S Ln M R pc lv (.int (iI y) :: .int (iI x) :: st) := jj_ishl hC hd (iI_self _).symm kk
theorem jg_ishr (hC : OKC G C own cc nL ret fr mc ms P X) {x y : Int} (hd : decode cc pc = .ok (.ishr, 1)) (kk : JJ G C k n sz S Ln M R (pc + 1) lv (.int (iI (i_shr x y)) :: st)) : JJ G C k n sz S Ln M R pc lv (.int (iI y) :: .int (iI x) :: st) := jj_ishr hC hd (iI_self _).symm kk
theorem jg_iushr (hC : OKC G C own cc nL ret fr mc ms P X) {x y : Int} (hd : decode cc pc = .ok (.iushr, 1)) (kk : JJ G C k n sz S Ln M R (pc + 1) lv (.int (iI (i_ushr x y)) :: st)) : JJ G C k n sz S Ln M R pc lv (.int (iI y) :: .int (iI x) :: st) := jj_iushr hC hd (iI_self _).symm kk
theorem jg_i2c (hC : OKC G C own cc nL ret fr mc ms P X) {x : Int} (hd : decode cc pc = .ok (.i2c, 1)) (kk : JJ G C k n sz S Ln M R (pc + 1) lv (.int (iI (i_i2c x)) :: st)) : JJ G C k n sz S Ln M R pc lv (.int (iI x) :: st) := jj_i2cS hC hd (iI_self _).symm kk
theorem jg_lcmp (hC : OKC G C own cc nL ret fr mc ms P X) {x y : Int} (hrx : (-9223372036854775808 ≤ x ∧ x < 9223372036854775808)) (hry : (-9223372036854775808 ≤ y ∧ y < 9223372036854775808)) (hd : decode cc pc = .ok (.lcmp, 1)) (kk : JJ G C k n sz S Ln M R (pc + 1) lv (.int (iI (i_lcmp x y)) :: st)) : JJ G C k n sz S Ln M R pc lv (.long (lI y) :: .long (lI x) :: st) := jj_lcmp hC hd hrx hry kk
end JJG
def wr (M : gM) (a : Nat) (i z : Int) : gM := ua M a (us (M a) i z)
def nam {α β : Type} (x : α) (f : α → Option β) : Option β := f x
theorem nam_e {α β : Type} {x : α} {f : α → Option β} {r : β} (h : nam x f = some r) : ∃ q, x = q ∧ f q = some r := ⟨x, rfl, h⟩
theorem jj_M {G : gE} {C : gC} {k n sz : Nat} {S Ln : Nat → Nat} {M M5 : gM} {R : gR} {pc : Nat} {lv : List (Nat × Value)} {st : List Value} (hM : M = M5) (kk : JJ G C k n sz S Ln M5 R pc lv st) : JJ G C k n sz S Ln M R pc lv st := by rw [hM]; exact kk
theorem r_il {z : Int} (h : (-2147483648 ≤ z ∧ z < 2147483648)) : (-9223372036854775808 ≤ z ∧ z < 9223372036854775808) := by omega
theorem r_ln {z : Nat} (h : (z : Int) < 2147483648) : (-2147483648 ≤ (z : Int) ∧ (z : Int) < 2147483648) := by omega
theorem i_i2c_r (x : Int) : 0 ≤ i_i2c x ∧ i_i2c x < 65536 := by
  unfold i_i2c
  rw [pk_char]
  generalize hq : (iI x).toBitVec.toNat % 65536 = q
  have hlt : q < 65536 := by rw [← hq]; exact Nat.mod_lt _ (by decide)
  have e : nI q = iI (q : Int) := by rw [jj_nI (by omega)]; rfl
  rw [e, iI_toInt ⟨by omega, by omega⟩]
  omega
abbrev poI (q : Int) (sz : Nat) (S Ln : Nat → Nat) (M : gM) (R : gR) : gP := fun v sz' S' Ln' M' R' => v = some (.int (iI q)) ∧ (-2147483648 ≤ q ∧ q < 2147483648) ∧ sz' = sz ∧ S' = S ∧ Ln' = Ln ∧ M' = M ∧ R' = R
abbrev poZ (q : Int) (sz : Nat) (S Ln : Nat → Nat) (M : gM) (R : gR) : gP := fun v sz' S' Ln' M' R' => v = some (.int (iI q)) ∧ (0 ≤ q ∧ q ≤ 1) ∧ sz' = sz ∧ S' = S ∧ Ln' = Ln ∧ M' = M ∧ R' = R
abbrev poC (q : Int) (sz : Nat) (S Ln : Nat → Nat) (M : gM) (R : gR) : gP := fun v sz' S' Ln' M' R' => v = some (.int (iI q)) ∧ (0 ≤ q ∧ q < 65536) ∧ sz' = sz ∧ S' = S ∧ Ln' = Ln ∧ M' = M ∧ R' = R
abbrev poL (q : Int) (sz : Nat) (S Ln : Nat → Nat) (M : gM) (R : gR) : gP := fun v sz' S' Ln' M' R' => v = some (.long (lI q)) ∧ (-9223372036854775808 ≤ q ∧ q < 9223372036854775808) ∧ sz' = sz ∧ S' = S ∧ Ln' = Ln ∧ M' = M ∧ R' = R
abbrev poE (G : gE) (q : Int) (sz : Nat) (S Ln : Nat → Nat) (M : gM) (R : gR) : gP := fun v sz' S' Ln' M' R' => v = some (.ref (G.2.2.2.2 q.toNat)) ∧ (0 ≤ q ∧ q < 9) ∧ sz' = sz ∧ S' = S ∧ Ln' = Ln ∧ M' = M ∧ R' = R
abbrev poA (kd : Nat) (q : Nat) (sz : Nat) (S Ln : Nat → Nat) (M : gM) (R : gR) : gP := fun v sz' S' Ln' M' R' => v = some (.ref q) ∧ S q = kd ∧ sz' = sz ∧ S' = S ∧ Ln' = Ln ∧ M' = M ∧ R' = R
abbrev poF (q : UInt32) (sz : Nat) (S Ln : Nat → Nat) (M : gM) (R : gR) : gP := fun v sz' S' Ln' M' R' => v = some (.float q) ∧ True ∧ sz' = sz ∧ S' = S ∧ Ln' = Ln ∧ M' = M ∧ R' = R
abbrev poD (q : UInt64) (sz : Nat) (S Ln : Nat → Nat) (M : gM) (R : gR) : gP := fun v sz' S' Ln' M' R' => v = some (.double q) ∧ True ∧ sz' = sz ∧ S' = S ∧ Ln' = Ln ∧ M' = M ∧ R' = R
abbrev poV (sz : Nat) (S Ln : Nat → Nat) (M : gM) (R : gR) : gP := fun v sz' S' Ln' M' R' => v = none ∧ True ∧ sz' = sz ∧ S' = S ∧ Ln' = Ln ∧ M' = M ∧ R' = R
abbrev poS {α β : Type} (r : α ⊕ β) (f : α → gP) : gP := fun v sz' S' Ln' M' R' => ∃ a, r = .inl a ∧ f a v sz' S' Ln' M' R'
abbrev xoS {α β : Type} (r : α ⊕ β) (f : β → gX) : gX := fun E sz' S' Ln' M' R' => ∃ a, r = .inr a ∧ f a E sz' S' Ln' M' R'
abbrev xo (E0 : String) (S Ln : Nat → Nat) (M : gM) (R : gR) : gX := fun E sz' S' Ln' M' R' => E = E0 ∧ S' = S ∧ Ln' = Ln ∧ M' = M ∧ R' = R
theorem el_l {α β γ : Type} {f : α → Option γ} {g : β → Option γ} {a : α} {r : γ} (h : Sum.elim f g (.inl a) = some r) : f a = some r := h
theorem el_r {α β γ : Type} {f : α → Option γ} {g : β → Option γ} {a : β} {r : γ} (h : Sum.elim f g (.inr a) = some r) : g a = some r := h
theorem noXk {G : gE} {C : gC} {k n : Nat} {pc : Nat} {lv : List (Nat × Value)} {st : List Value} : ∀ E sz S Ln M R, noX E sz S Ln M R → JX G C k n E sz S Ln M R pc lv st := fun _ _ _ _ _ _ h => h.elim
section POK
variable {G : gE} {C : gC} {k n sz : Nat} {S Ln : Nat → Nat} {M : gM} {R : gR} {pc : Nat} {lv : List (Nat × Value)} {st : List Value}
theorem po_kI {q : Int} (h : (-2147483648 ≤ q ∧ q < 2147483648) → JJ G C k n sz S Ln M R pc lv (.int (iI q) :: st)) : ∀ v sz' S' Ln' M' R', poI q sz S Ln M R v sz' S' Ln' M' R' → JJ G C k n sz' S' Ln' M' R' pc lv (v.toList ++ st) := by
  rintro v sz' S' Ln' M' R' ⟨h1, h2, h3, h4, h5, h6, h7⟩; subst h1; rw [h3, h4, h5, h6, h7]; exact h h2
theorem po_kZ {q : Int} (h : (0 ≤ q ∧ q ≤ 1) → JJ G C k n sz S Ln M R pc lv (.int (iI q) :: st)) : ∀ v sz' S' Ln' M' R', poZ q sz S Ln M R v sz' S' Ln' M' R' → JJ G C k n sz' S' Ln' M' R' pc lv (v.toList ++ st) := by
  rintro v sz' S' Ln' M' R' ⟨h1, h2, h3, h4, h5, h6, h7⟩; subst h1; rw [h3, h4, h5, h6, h7]; exact h h2
theorem po_kC {q : Int} (h : (0 ≤ q ∧ q < 65536) → JJ G C k n sz S Ln M R pc lv (.int (iI q) :: st)) : ∀ v sz' S' Ln' M' R', poC q sz S Ln M R v sz' S' Ln' M' R' → JJ G C k n sz' S' Ln' M' R' pc lv (v.toList ++ st) := by
  rintro v sz' S' Ln' M' R' ⟨h1, h2, h3, h4, h5, h6, h7⟩; subst h1; rw [h3, h4, h5, h6, h7]; exact h h2
theorem po_kL {q : Int} (h : (-9223372036854775808 ≤ q ∧ q < 9223372036854775808) → JJ G C k n sz S Ln M R pc lv (.long (lI q) :: st)) : ∀ v sz' S' Ln' M' R', poL q sz S Ln M R v sz' S' Ln' M' R' → JJ G C k n sz' S' Ln' M' R' pc lv (v.toList ++ st) := by
  rintro v sz' S' Ln' M' R' ⟨h1, h2, h3, h4, h5, h6, h7⟩; subst h1; rw [h3, h4, h5, h6, h7]; exact h h2
theorem po_kE {q : Int} (h : (0 ≤ q ∧ q < 9) → JJ G C k n sz S Ln M R pc lv (.ref (G.2.2.2.2 q.toNat) :: st)) : ∀ v sz' S' Ln' M' R', poE G q sz S Ln M R v sz' S' Ln' M' R' → JJ G C k n sz' S' Ln' M' R' pc lv (v.toList ++ st) := by
  rintro v sz' S' Ln' M' R' ⟨h1, h2, h3, h4, h5, h6, h7⟩; subst h1; rw [h3, h4, h5, h6, h7]; exact h h2
theorem po_kA {kd q : Nat} (h : S q = kd → JJ G C k n sz S Ln M R pc lv (.ref q :: st)) : ∀ v sz' S' Ln' M' R', poA kd q sz S Ln M R v sz' S' Ln' M' R' → JJ G C k n sz' S' Ln' M' R' pc lv (v.toList ++ st) := by
  rintro v sz' S' Ln' M' R' ⟨h1, h2, h3, h4, h5, h6, h7⟩; subst h1; rw [h3, h4, h5, h6, h7]; exact h h2
theorem po_kF {q : UInt32} (h : JJ G C k n sz S Ln M R pc lv (.float q :: st)) : ∀ v sz' S' Ln' M' R', poF q sz S Ln M R v sz' S' Ln' M' R' → JJ G C k n sz' S' Ln' M' R' pc lv (v.toList ++ st) := by
  rintro v sz' S' Ln' M' R' ⟨h1, h2, h3, h4, h5, h6, h7⟩; subst h1; rw [h3, h4, h5, h6, h7]; exact h
theorem po_kD {q : UInt64} (h : JJ G C k n sz S Ln M R pc lv (.double q :: st)) : ∀ v sz' S' Ln' M' R', poD q sz S Ln M R v sz' S' Ln' M' R' → JJ G C k n sz' S' Ln' M' R' pc lv (v.toList ++ st) := by
  rintro v sz' S' Ln' M' R' ⟨h1, h2, h3, h4, h5, h6, h7⟩; subst h1; rw [h3, h4, h5, h6, h7]; exact h
theorem po_kV (h : JJ G C k n sz S Ln M R pc lv st) : ∀ v sz' S' Ln' M' R', poV sz S Ln M R v sz' S' Ln' M' R' → JJ G C k n sz' S' Ln' M' R' pc lv (v.toList ++ st) := by
  rintro v sz' S' Ln' M' R' ⟨h1, h2, h3, h4, h5, h6, h7⟩; subst h1; rw [h3, h4, h5, h6, h7]; exact h
theorem poS_k {α β : Type} {r : α ⊕ β} {f : α → gP} (h : ∀ a, r = .inl a → ∀ v sz S Ln M R, f a v sz S Ln M R → JJ G C k n sz S Ln M R pc lv (v.toList ++ st)) : ∀ v sz' S' Ln' M' R', poS r f v sz' S' Ln' M' R' → JJ G C k n sz' S' Ln' M' R' pc lv (v.toList ++ st) := by
  rintro v sz' S' Ln' M' R' ⟨a, h1, h2⟩; exact h a h1 v sz' S' Ln' M' R' h2
end POK
end
section
/-! more rows -/
theorem i_and_z {x y : Int} (hx : 0 ≤ x ∧ x ≤ 1) (hy : 0 ≤ y ∧ y ≤ 1) : 0 ≤ i_and x y ∧ i_and x y ≤ 1 := by
  have h1 : x = 0 ∨ x = 1 := by omega
  have h2 : y = 0 ∨ y = 1 := by omega
  rcases h1 with rfl | rfl <;> rcases h2 with rfl | rfl <;> decide
theorem i_or_z {x y : Int} (hx : 0 ≤ x ∧ x ≤ 1) (hy : 0 ≤ y ∧ y ≤ 1) : 0 ≤ i_or x y ∧ i_or x y ≤ 1 := by
  have h1 : x = 0 ∨ x = 1 := by omega
  have h2 : y = 0 ∨ y = 1 := by omega
  rcases h1 with rfl | rfl <;> rcases h2 with rfl | rfl <;> decide
theorem i_i2b_r (x : Int) : -128 ≤ i_i2b x ∧ i_i2b x < 128 := by
  unfold i_i2b
  rw [Int8.toInt_toInt32]
  exact ⟨Int8.le_toInt _, Int8.toInt_lt _⟩
section JJH
variable {G : gE} {C : gC} {own : String} {cc : ByteArray} {nL : Nat} {ret : Option FieldType} {fr mc ms : Nat} {P : gP} {X : gX} {k n sz : Nat} {S Ln : Nat → Nat} {M : gM} {R : gR} {pc : Nat} {lv lv' : List (Nat × Value)} {st : List Value}
theorem jg_B (hC : OKC G C own cc nL ret fr mc ms P X) {kd N index a : Nat} {CN : String} {T : u_T} {ty0 : Nat → FieldType} (hk : KF kd CN T N ty0) (i : Nat) {j : Int} (hj : (i : Int) = j) (hs : S a = kd) (hi : i < N) (hlk : Cond.fieldLink own index (T i).1 (T i).2.1 (T i).2.2.1 ∈ gW) (hf0 : gm_fty kd i = 6) (hdg : decode cc pc = .ok (.getfield index, 3))
    (kk : (-128 ≤ M a j ∧ M a j < 128) → JJ G C k n sz S Ln M R (pc + 3) lv (.int (iI (M a j)) :: st)) : JJ G C k n sz S Ln M R pc lv (.ref a :: st) := by subst hj; exact jj_getB hC hk i hs hi hlk hf0 hdg kk
theorem jg_ldcS (hC : OKC G C own cc nL ret fr mc ms P X) {index b : Nat} (i : Nat) {tx : String} {z : Nat} (hi : gSt[i]? = some (own, index, tx, z)) (hb : G.2.2.2.2 (16 + z) = b) (hdg : decode cc pc = .ok (.ldc index, 2))
    (kk : JJ G C k n sz S Ln M R (pc + 2) lv (.ref b :: st)) : JJ G C k n sz S Ln M R pc lv st := by subst hb; exact jj_ldcS hC i hi hdg kk
theorem jg_ldc_wS (hC : OKC G C own cc nL ret fr mc ms P X) {index b : Nat} (i : Nat) {tx : String} {z : Nat} (hi : gSt[i]? = some (own, index, tx, z)) (hb9 : G.2.2.2.2 (16 + z) = b) (hdg : decode cc pc = .ok (.ldc_w index, 3))
    (kk : JJ G C k n sz S Ln M R (pc + 3) lv (.ref b :: st)) : JJ G C k n sz S Ln M R pc lv st := by
  subst hb9
  obtain ⟨p, l, e, Rm, s, m, args, below, meth, c, Q⟩ := C
  obtain ⟨hx, hb, hml, hown, hts, hE, hlk2, hrt, hst, hRm, hQ, htab, hz⟩ := hC
  intro H locs ls hR hS hl
  have hZ := hE.2.2.2.2.2.2.1 _ (List.mem_of_getElem? hi)
  intro T hT X9
  obtain ⟨t, a1, b1⟩ := kk H locs ls hR hS hl T hT X9
  refine ⟨t, ?_, b1⟩
  obtain ⟨k9, cf, i9, a', hk9, hcf, hcp, -, hr9, hev'⟩ := Cond.stringRef_spec hown hZ.1
  cases hZ.2.symm.trans hev'
  obtain ⟨k', hk', he⟩ := X9.warmed.alike.2.2 _ _ hk9
  have hr' : k'.resolved[index]? = some (some (.string (G.2.2.2.2 (16 + z)))) := by
    rcases X9.warmed.entry hk9 hk' index with h | ⟨h, -⟩
    · rw [h]; exact hr9
    · rw [hr9] at h; cases h
  have hdg' : decode c.code (F0 m pc ls st).pc = .ok (.ldc_w index, 3) := by rw [hb]; exact hdg
  jvm_step X9.here [hx, hdg', ldc_w.wp_string (e := e) (s := T) (f := F0 m pc ls st) X9.here.top hk' (by rw [he]; exact hcf) hcp hr']
  exact a1
theorem jj_ldcI (hC : OKC G C own cc nL ret fr mc ms P X) {index : Nat} {v : Int} {w : Int32} (hw : iI v = w) (hco : Cond.constant own index w ∈ gW) (hdg : decode cc pc = .ok (.ldc index, 2)) (kk : JJ G C k n sz S Ln M R (pc + 2) lv (.int (iI v) :: st)) : JJ G C k n sz S Ln M R pc lv st := by
  subst hw
  obtain ⟨p, l, e, Rm, s, m, args, below, meth, c, Q⟩ := C
  obtain ⟨hx, hb, hml, hown, hts, hE, hlk2, hrt, hst, hRm, hQ, htab, hz⟩ := hC
  intro H locs ls hR hS hl
  exact lv_ldc hx hb hown (hts _ hco) hdg (kk H locs ls hR hS hl)
theorem jj_getsQ (hC : OKC G C own cc nL ret fr mc ms P X) {index : Nat} (hlk : Cond.fieldLink own index "jdk/internal/util/Preconditions" "SIOOBE_FORMATTER" "Ljava/util/function/BiFunction;" ∈ gW) (hdg : decode cc pc = .ok (.getstatic index, 3))
    (kk : ∀ v : Value, (v = .null ∨ ∃ t, v = .ref t) → JJ G C k n sz S Ln M R (pc + 3) lv (v :: st)) : JJ G C k n sz S Ln M R pc lv st := by
  obtain ⟨p, l, e, Rm, s, m, args, below, meth, c, Q⟩ := C
  obtain ⟨hx, hb, hml, hown, hts, hE, hlk2, hrt, hst, hRm, hQ, htab, hz⟩ := hC
  intro H locs ls hR hS hl
  obtain ⟨h9, h10, z1, z2, z3, z45, z6, z7, z8, z9, z10⟩ := hE
  rcases z10 with h | ⟨t, h⟩
  · exact va_gets hx hb h hS hown (hts _ hlk) (fun _ h => h) hdg (kk _ (Or.inl rfl) H locs ls hR hS hl)
  · exact va_gets hx hb h hS hown (hts _ hlk) (fun _ h => h) hdg (kk _ (Or.inr ⟨t, rfl⟩) H locs ls hR hS hl)
/-- the two rows of digits -/
theorem jj_getsD (hC : OKC G C own cc nL ret fr mc ms P X) {index b : Nat} {nm : String} {z : Nat} (hz9 : (nm = "DigitOnes" ∧ z = 10) ∨ (nm = "DigitTens" ∧ z = 11)) (hb9 : G.2.2.2.2 z = b) (hlk : Cond.fieldLink own index "java/lang/Integer" nm "[B" ∈ gW) (hdg : decode cc pc = .ok (.getstatic index, 3))
    (kk : JJ G C k n sz S Ln M R (pc + 3) lv (.ref b :: st)) : JJ G C k n sz S Ln M R pc lv st := by
  subst hb9
  obtain ⟨p, l, e, Rm, s, m, args, below, meth, c, Q⟩ := C
  obtain ⟨hx, hb, hml, hown, hts, hE, hlk2, hrt, hst, hRm, hQ, htab, hz⟩ := hC
  intro H locs ls hR hS hl
  obtain ⟨h9, h10, z1, z2, z3, ⟨z4, z5⟩, z6, z7, z8, z9, z10⟩ := hE
  rcases hz9 with ⟨rfl, rfl⟩ | ⟨rfl, rfl⟩
  · exact va_gets hx hb z4 hS hown (hts _ hlk) (fun _ h => h) hdg (kk H locs ls hR hS hl)
  · exact va_gets hx hb z5 hS hown (hts _ hlk) (fun _ h => h) hdg (kk H locs ls hR hS hl)
theorem jj_ifnonnull (hC : OKC G C own cc nL ret fr mc ms P X) {x : Nat} {off : Int} {tgt : Nat} (hd : decode cc pc = .ok (.ifnonnull off, 3)) (ht : (pc : Int) + off = (tgt : Int)) (kk : JJ G C k n sz S Ln M R tgt lv st) : JJ G C k n sz S Ln M R pc lv (.ref x :: st) := by
  obtain ⟨p, l, e, Rm, s, m, args, below, meth, c, Q⟩ := C
  obtain ⟨hx, hb, hml, hown, hts, hE, hlk2, hrt, hst, hRm, hQ, htab, hz⟩ := hC
  intro H locs ls hR hS hl
  exact lv_ifnonnull hx hb hd ht (kk H locs ls hR hS hl)
theorem jg_i2b (hC : OKC G C own cc nL ret fr mc ms P X) {x : Int} (hd : decode cc pc = .ok (.i2b, 1)) (kk : JJ G C k n sz S Ln M R (pc + 1) lv (.int (iI (i_i2b x)) :: st)) : JJ G C k n sz S Ln M R pc lv (.int (iI x) :: st) := by
  obtain ⟨p, l, e, Rm, s, m, args, below, meth, c, Q⟩ := C
  obtain ⟨hx, hb, hml, hown, hts, hE, hlk2, hrt, hst, hRm, hQ, htab, hz⟩ := hC
  intro H locs ls hR hS hl
  exact lv_i2b hx hb hd (iI_self _).symm (kk H locs ls hR hS hl)
/-! floats -/
theorem jj_fconst0 (hC : OKC G C own cc nL ret fr mc ms P X) {j : Fin 3} (hj : (j : Nat) = 0) (hd : decode cc pc = .ok (.fconst j, 1)) (kk : JJ G C k n sz S Ln M R (pc + 1) lv (.float 0 :: st)) : JJ G C k n sz S Ln M R pc lv st := by
  obtain ⟨p, l, e, Rm, s, m, args, below, meth, c, Q⟩ := C
  obtain ⟨hx, hb, hml, hown, hts, hE, hlk2, hrt, hst, hRm, hQ, htab, hz⟩ := hC
  intro H locs ls hR hS hl
  have : j = 0 := Fin.ext hj
  subst this
  exact lv_fconst0 hx hb hd (kk H locs ls hR hS hl)
theorem jj_i2f (hC : OKC G C own cc nL ret fr mc ms P X) {x : Int} (hd : decode cc pc = .ok (.i2f, 1)) (kk : JJ G C k n sz S Ln M R (pc + 1) lv (.float (FP.i2f (iI x)) :: st)) : JJ G C k n sz S Ln M R pc lv (.int (iI x) :: st) := by
  obtain ⟨p, l, e, Rm, s, m, args, below, meth, c, Q⟩ := C
  obtain ⟨hx, hb, hml, hown, hts, hE, hlk2, hrt, hst, hRm, hQ, htab, hz⟩ := hC
  intro H locs ls hR hS hl
  exact lv_i2f hx hb hd (kk H locs ls hR hS hl)
theorem jj_i2d (hC : OKC G C own cc nL ret fr mc ms P X) {x : Int} (hd : decode cc pc = .ok (.i2d, 1)) (kk : JJ G C k n sz S Ln M R (pc + 1) lv (.double (FP.i2d (iI x)) :: st)) : JJ G C k n sz S Ln M R pc lv (.int (iI x) :: st) := by
  obtain ⟨p, l, e, Rm, s, m, args, below, meth, c, Q⟩ := C
  obtain ⟨hx, hb, hml, hown, hts, hE, hlk2, hrt, hst, hRm, hQ, htab, hz⟩ := hC
  intro H locs ls hR hS hl
  exact lv_i2d hx hb hd (kk H locs ls hR hS hl)
theorem jj_fdiv (hC : OKC G C own cc nL ret fr mc ms P X) {x y : UInt32} (hne : FP.fdiv x y &&& 0x7fffffff ≤ 0x7f800000) (hd : decode cc pc = .ok (.fdiv, 1)) (kk : JJ G C k n sz S Ln M R (pc + 1) lv (.float (FP.fdiv x y) :: st)) : JJ G C k n sz S Ln M R pc lv (.float y :: .float x :: st) := by
  obtain ⟨p, l, e, Rm, s, m, args, below, meth, c, Q⟩ := C
  obtain ⟨hx, hb, hml, hown, hts, hE, hlk2, hrt, hst, hRm, hQ, htab, hz⟩ := hC
  intro H locs ls hR hS hl
  exact lv_fdiv hx hb hd hne (kk H locs ls hR hS hl)
theorem jj_ddiv (hC : OKC G C own cc nL ret fr mc ms P X) {x y : UInt64} (hne : FP.ddiv x y &&& 0x7fffffffffffffff ≤ 0x7ff0000000000000) (hd : decode cc pc = .ok (.ddiv, 1)) (kk : JJ G C k n sz S Ln M R (pc + 1) lv (.double (FP.ddiv x y) :: st)) : JJ G C k n sz S Ln M R pc lv (.double y :: .double x :: st) := by
  obtain ⟨p, l, e, Rm, s, m, args, below, meth, c, Q⟩ := C
  obtain ⟨hx, hb, hml, hown, hts, hE, hlk2, hrt, hst, hRm, hQ, htab, hz⟩ := hC
  intro H locs ls hR hS hl
  exact lv_ddiv hx hb hd hne (kk H locs ls hR hS hl)
theorem jj_f2d (hC : OKC G C own cc nL ret fr mc ms P X) {x : UInt32} (hne : FP.f2d x &&& 0x7fffffffffffffff ≤ 0x7ff0000000000000) (hd : decode cc pc = .ok (.f2d, 1)) (kk : JJ G C k n sz S Ln M R (pc + 1) lv (.double (FP.f2d x) :: st)) : JJ G C k n sz S Ln M R pc lv (.float x :: st) := by
  obtain ⟨p, l, e, Rm, s, m, args, below, meth, c, Q⟩ := C
  obtain ⟨hx, hb, hml, hown, hts, hE, hlk2, hrt, hst, hRm, hQ, htab, hz⟩ := hC
  intro H locs ls hR hS hl
  exact lv_f2d hx hb hd hne (kk H locs ls hR hS hl)
/-! super's methods, private ones, those of another class -/
theorem jj_selP {s : State} {args : Array Value} {CN : String} {y z : MethodName} (hts : ∀ w ∈ gW, w.before args s = true) (hz : Cond.selects CN z z ∈ gW) (hyz : y.cls = z.cls) (hy1 : y.cls ≠ "java/lang/invoke/MethodHandle") (hy2 : y.cls ≠ "java/lang/invoke/VarHandle") (hp : (Cond.privateMethod y).before args s = true) (hi : Cond.instanceMethod y ∈ gW) : (Cond.selects CN y y).before args s = true := by
  obtain ⟨c2, r2, m2, q1, q2, q3, q4, kP, hkP, hkPi⟩ := Cond.selects_spec (hts _ hz)
  obtain ⟨mk, methM, hnamed, hmethM, -, -⟩ := Cond.instanceMethod_spec (hts _ hi)
  have hfound : s.methodFound? y.cls y.name y.desc = some mk := State.methodFound?_of_named hnamed ⟨hy1, hy2⟩
  have hcls : mk.cls = m2.cls := by
    have h1 := findClass_of_methodNamed hnamed
    have h2 := findClass_of_methodNamed q3
    rw [hyz, h2] at h1
    exact (Option.some.inj h1).symm
  have hsel : selectMethod {} s.vm c2 mk = .method mk := selectMethod_private hmethM (Cond.privateMethod_at hp mk methM hnamed hmethM)
  simp only [Cond.before, Cond.holds, Cond.value, q1, hfound, hnamed, hsel, hcls, hkP]
  simp
  exact hkPi
theorem jj_invVC (hC : OKC G C own cc nL ret fr mc ms P X) {y : MethodName} {CN : String} {cc2 : ByteArray} {nL2 : Nat} {ret2 : Option FieldType} {np fr2 mc2 ms2 index b kd : Nat} {As st0 : List Value} {P2 : gP} {X2 : gX} {T : u_T} {N : Nat}
    (hm : MV y cc2 nL2 ret2 np) (hin : Cond.instanceMethod y ∈ gW) (hse : ∀ (args : Array Value) (s : State), (∀ w ∈ gW, w.before args s = true) → (∀ w ∈ gNW, va_Nw w s) → (Cond.selects CN y y).before args s = true) (hlk : Cond.methodLink own index y ∈ gW) (hs : S b = kd) (hkd : 1 ≤ kd ∧ kd < 20) (hcl : vwCl[kd - 1]? = some (CN, T, N)) (hct : Ct (LV C) G y cc2 nL2 ret2 fr2 mc2 ms2 (.ref b :: As) sz S Ln M R P2 X2) (hn : As.length = np) (hst0 : st0 = As.reverse ++ .ref b :: st) (hW : (st.map fun v => v.category).sum ≤ 8) (hfr : fr2 + 1 ≤ fr) (hk : k + mc2 ≤ mc) (hns : n + ms2 ≤ ms) (hdg : decode cc pc = .ok (.invokevirtual index, 3))
    (kx : ∀ E sz S Ln M R, X2 E sz S Ln M R → JX G C (k + mc2) (n + ms2) E sz S Ln M R pc lv st)
    (kk : ∀ v sz S Ln M R, P2 v sz S Ln M R → JJ G C (k + mc2) (n + ms2) sz S Ln M R (pc + 3) lv (v.toList ++ st)) : JJ G C k n sz S Ln M R pc lv st0 := by
  obtain ⟨p, l, e, Rm, s, m, args, below, meth, c, Q⟩ := C
  obtain ⟨hx, hb, hml, hown, hts, hE, hlk2, hrt, hst, hRm, hQ, htab, hz⟩ := hC
  intro H locs ls hR hS hl
  obtain ⟨m1, m2, m3, m4, m5, m6⟩ := hm
  obtain ⟨rm1, rm2, rm3, rm4⟩ := hRm
  subst hst0
  obtain ⟨g1, g2, g3, g5, g4⟩ := hR.2 b (by omega)
  unfold gm_cell at g4
  rw [hs, if_pos hkd.2] at g4
  obtain ⟨r1, hr1, cellV, c1, c2, c3, -⟩ := g4
  have hrr : r1 = (CN, T, N) := Option.some.inj (hr1.symm.trans hcl)
  subst hrr
  have hcls := (hE.1.1 (kd - 1) _ hcl).2
  have hB : CallB Rm s args own index y cc2 nL2 ret2 (.code y cc2 nL2 ret2 :: gW) (gRm fr2 mc2 ms2) mc2 ms2 np := callB_of np hts (gW_cons m1 gW_good) rfl rfl rfl (hts _ m2) (hts _ hlk) ⟨m3, m4, m5⟩ ⟨Nat.le_trans hfr rm1, by show 8 + (nL2 + 11) + 64 * fr2 ≤ Rm.locals; omega⟩
  exact jj_run (vx_runV (Ts := gW) (own := own) (C := CN) ⟨hx, hb, hml, hown, hts⟩ hct ⟨hB, hts _ hin, hse args s hts hE.2.1.1⟩
    ⟨gPc_blind, ⟨cellV, c1, c3.2.1, by rw [c2]; exact hcls.1⟩, fun U hU hW2 => jj_pre hE hR hS hz hU hW2⟩ rfl hn (by rw [← hml]; exact hl.1) rfl (lv_room hW) hdg ⟨Nat.le_trans hk rm2, Nat.le_trans hns rm3⟩) hS hl kx kk
theorem jj_invSU (hC : OKC G C own cc nL ret fr mc ms P X) {y : MethodName} {CN : String} {cc2 : ByteArray} {nL2 : Nat} {ret2 : Option FieldType} {np fr2 mc2 ms2 index b kd : Nat} {As st0 : List Value} {P2 : gP} {T : u_T} {N : Nat}
    (hm : MV y cc2 nL2 ret2 np) (hno : y.name ≠ "<init>") (hin : Cond.instanceMethod y ∈ gW) (hsm : Cond.sameMethod y.cls y.cls y.name y.desc ∈ gW) (hsu : Cond.superclass own y.cls ∈ gW) (hlk : Cond.methodLink own index y ∈ gW) (hs : S b = kd) (hkd : 1 ≤ kd ∧ kd < 20) (hcl : vwCl[kd - 1]? = some (CN, T, N)) (hct : Ct (LV C) G y cc2 nL2 ret2 fr2 mc2 ms2 (.ref b :: As) sz S Ln M R P2 noX) (hn : As.length = np) (hst0 : st0 = As.reverse ++ .ref b :: st) (hW : (st.map fun v => v.category).sum ≤ 8) (hfr : fr2 + 1 ≤ fr) (hk : k + mc2 ≤ mc) (hns : n + ms2 ≤ ms) (hdg : decode cc pc = .ok (.invokespecial index, 3))
    (kk : ∀ v sz S Ln M R, P2 v sz S Ln M R → JJ G C (k + mc2) (n + ms2) sz S Ln M R (pc + 3) lv (v.toList ++ st)) : JJ G C k n sz S Ln M R pc lv st0 := by
  obtain ⟨p, l, e, Rm, s, m, args, below, meth, c, Q⟩ := C
  obtain ⟨hx, hb, hml, hown, hts, hE, hlk2, hrt, hst, hRm, hQ, htab, hz⟩ := hC
  intro H locs ls hR hS hl
  obtain ⟨m1, m2, m3, m4, m5, m6⟩ := hm
  obtain ⟨rm1, rm2, rm3, rm4⟩ := hRm
  subst hst0
  obtain ⟨g1, g2, g3, g5, g4⟩ := hR.2 b (by omega)
  unfold gm_cell at g4
  rw [hs, if_pos hkd.2] at g4
  obtain ⟨r1, hr1, cellV, c1, c2, c3, -⟩ := g4
  have hrr : r1 = (CN, T, N) := Option.some.inj (hr1.symm.trans hcl)
  subst hrr
  have hcls := (hE.1.1 (kd - 1) _ hcl).2
  exact jj_run (X2 := noX) (jj_va (va_runSU (Ts := gW) (own := own) (C := CN) hcls ⟨hx, hb, hml, hown, hts⟩ hct.met (va_cwSU (ws' := gW) np hts (gW_cons hlk (gW_cons hsm (gW_cons hsu (gW_cons hin (gW_cons m2 (gW_cons m1 gW_good)))))) rfl rfl rfl ⟨hno, m5⟩ ⟨Nat.le_trans hfr rm1, by show 8 + (nL2 + 11) + 64 * fr2 ≤ Rm.locals; omega⟩)
    ⟨gPc_blind, ⟨cellV, c1, c3.2.1, by rw [c2]; exact hcls.1⟩, fun U hU hW2 => jj_pre hE hR hS hz hU hW2⟩ rfl hn (by rw [← hml]; exact hl.1) rfl (lv_room hW) hdg ⟨Nat.le_trans hk rm2, Nat.le_trans hns rm3⟩)) hS hl (fun _ _ _ _ _ _ h => h.elim) kk
end JJH
/-! memory that grows -/
def Ext (sz : Nat) (S Ln : Nat → Nat) (sz' : Nat) (S' Ln' : Nat → Nat) : Prop := sz ≤ sz' ∧ ∀ a, S a ≠ 0 → S' a = S a ∧ Ln' a = Ln a
theorem ext_r {sz : Nat} {S Ln : Nat → Nat} : Ext sz S Ln sz S Ln := ⟨Nat.le_refl _, fun _ _ => ⟨rfl, rfl⟩⟩
theorem ext_t {sz sz1 sz2 : Nat} {S Ln S1 Ln1 S2 Ln2 : Nat → Nat} (h : Ext sz S Ln sz1 S1 Ln1) (h2 : Ext sz1 S1 Ln1 sz2 S2 Ln2) : Ext sz S Ln sz2 S2 Ln2 :=
  ⟨Nat.le_trans h.1 h2.1, fun a ha => by
    have e1 := h.2 a ha
    have e2 := h2.2 a (by rw [e1.1]; exact ha)
    exact ⟨e2.1.trans e1.1, e2.2.trans e1.2⟩⟩
theorem ext_s {sz sz1 : Nat} {S Ln S1 Ln1 : Nat → Nat} (h : Ext sz S Ln sz1 S1 Ln1) {a kd : Nat} (hs : S a = kd) (h0 : kd ≠ 0) : S1 a = kd := by
  rw [(h.2 a (by rw [hs]; exact h0)).1, hs]
theorem ext_n {sz : Nat} {S Ln : Nat → Nat} {kd ln : Nat} (h : ∀ a, S a ≠ 0 → a < sz) : Ext sz S Ln (sz + 1) (ua S sz kd) (ua Ln sz ln) :=
  ⟨Nat.le_succ _, fun a ha => by
    have := h a ha
    rw [ua_n (by omega), ua_n (by omega)]
    exact ⟨rfl, rfl⟩⟩
abbrev poX (f : gP) (E : Prop) : gP := fun v sz' S' Ln' M' R' => f v sz' S' Ln' M' R' ∧ E
def wrR (R : gR) (a : Nat) (i : Int) (b : Option Nat) : gR := ua R a (us (R a) i b)
section JJB
variable {G : gE} {C : gC} {own : String} {cc : ByteArray} {nL : Nat} {ret : Option FieldType} {fr mc ms : Nat} {P : gP} {X : gX} {k n sz : Nat} {S Ln : Nat → Nat} {M : gM} {R : gR} {pc : Nat} {lv lv' : List (Nat × Value)} {st : List Value}
theorem poX_k {f : gP} {E : Prop} (h : E → ∀ v sz S Ln M R, f v sz S Ln M R → JJ G C k n sz S Ln M R pc lv (v.toList ++ st)) : ∀ v sz' S' Ln' M' R', poX f E v sz' S' Ln' M' R' → JJ G C k n sz' S' Ln' M' R' pc lv (v.toList ++ st) := by
  rintro v sz' S' Ln' M' R' ⟨h1, h2⟩; exact h h2 v sz' S' Ln' M' R' h1
theorem jj_R {R5 : gR} (hM : R = R5) (kk : JJ G C k n sz S Ln M R5 pc lv st) : JJ G C k n sz S Ln M R pc lv st := by rw [hM]; exact kk
theorem jj_lt (kk : (∀ a, S a ≠ 0 → a < sz) → JJ G C k n sz S Ln M R pc lv st) : JJ G C k n sz S Ln M R pc lv st := jj_rng (fun h => kk (fun a ha => (h a ha).2.1))
theorem jj_hsz (hC : OKC G C own cc nL ret fr mc ms P X) (kk : G.2.2.2.1 ≤ sz → JJ G C k n sz S Ln M R pc lv st) : JJ G C k n sz S Ln M R pc lv st := by
  obtain ⟨p, l, e, Rm, s, m, args, below, meth, c, Q⟩ := C
  obtain ⟨hx, hb, hml, hown, hts, hE, hlk2, hrt, hst, hRm, hQ, htab, hz⟩ := hC
  intro H locs ls hR hS hl
  exact kk (by have h1 := hS.1; have h2 := hR.1; omega) H locs ls hR hS hl
theorem jw {k' n' : Nat} (h1 : k = k') (h2 : n ≤ n') (kk : JJ G C k' n' sz S Ln M R pc lv st) : JJ G C k n sz S Ln M R pc lv st := jj_widen (Nat.le_of_eq h1) h2 kk
/-- a row of bytes -/
theorem jj_newB (hC : OKC G C own cc nL ret fr mc ms P X) {i : Int} (hac : Cond.arrayClass .byte ∈ gW) (h0 : 0 ≤ i) (h1 : i ≤ 256) (hk1 : k + 1 ≤ mc) (hn1 : n + 256 ≤ ms) (hd : decode cc pc = .ok (.newarray .byte, 2))
    (kk : Ext sz S Ln (sz + 1) (ua S sz 23) (ua Ln sz i.toNat) → JJ G C (k + 1) (n + 256) (sz + 1) (ua S sz 23) (ua Ln sz i.toNat) (ua M sz (fun _ => 0)) (ua R sz (fun _ => none)) (pc + 2) lv (.ref sz :: st)) : JJ G C k n sz S Ln M R pc lv (.int (iI i) :: st) := by
  refine jj_lt (fun hlt => jj_hsz hC (fun hsz => ?_))
  refine jj_newa (kd := 23) (t := 3) (at' := .byte) hC (by omega) rfl (fun C h => by cases h) (fun j => rfl) (fun j => by show (-128 : Int) ≤ 0 ∧ (0 : Int) < 128; omega) hac h0 (by omega) (by decide) hsz hk1 (by omega) hd ?_
  exact jj_widen (Nat.le_refl _) (by omega) (kk (ext_n hlt))
theorem jj_putRq (hC : OKC G C own cc nL ret fr mc ms P X) {kd N index a b : Nat} {CN : String} {T : u_T} {ty0 : Nat → FieldType} (hk : KF kd CN T N ty0) (i : Nat) {j : Int} (hj : (i : Int) = j) (hs : S a = kd) (hro : gm_ro kd = false) (hi : i < N) (hlk : Cond.fieldLink own index (T i).1 (T i).2.1 (T i).2.2.1 ∈ gW) (hfin : (T i).2.2.2 = false) {ty : FieldType} (hd : ty0 i = ty) (hn : narrow ty (.ref b) = .ref b) (hfit : fits ty (.ref b) = true) (hf0 : gm_fty kd i = 1) (hdg : decode cc pc = .ok (.putfield index, 3))
    (kk : JJ G C k n sz S Ln M (ua R a (us (R a) j (some b))) (pc + 3) lv st) : JJ G C k n sz S Ln M R pc lv (.ref b :: .ref a :: st) := by subst hj; exact jj_putR hC hk i hs hro hi hlk hfin hd hn hfit hf0 hdg kk
end JJB
def isDe : Cond → Bool
  | .declares _ => true
  | _ => false
theorem tat_of {L : List Cond} (h : L.all (fun w => decide (w ∈ lw_tbl) && (goodWord w || isDe w)) = true) : ∀ w ∈ L, w ∈ gW ∨ ∃ E, w = Cond.declares E ∧ w ∈ gNW := by
  intro w hw
  have h1 := List.all_eq_true.mp h w hw
  simp only [Bool.and_eq_true, Bool.or_eq_true, decide_eq_true_eq] at h1
  rcases h1.2 with h2 | h2
  · exact Or.inl (List.mem_filter.mpr ⟨h1.1, h2⟩)
  · cases w with
    | declares E => exact Or.inr ⟨E, rfl, List.mem_filter.mpr ⟨h1.1, rfl⟩⟩
    | _ => simp [isDe] at h2
theorem tal_of {L : List Cond} (h : L.all vx_ot = true) : ∀ w ∈ L, vx_ot w = true := fun w hw => List.all_eq_true.mp h w hw
theorem tfit_of {L : List String} (h : L.all Bundle.fit = true) : ∀ w ∈ L, Bundle.fit w = true := fun w hw => List.all_eq_true.mp h w hw
abbrev poB (q : Int) (sz : Nat) (S Ln : Nat → Nat) (M : gM) (R : gR) : gP := fun v sz' S' Ln' M' R' => v = some (.int (iI q)) ∧ (-128 ≤ q ∧ q < 128) ∧ sz' = sz ∧ S' = S ∧ Ln' = Ln ∧ M' = M ∧ R' = R
section JJC
variable {G : gE} {C : gC} {own : String} {cc : ByteArray} {nL : Nat} {ret : Option FieldType} {fr mc ms : Nat} {P : gP} {X : gX} {k n sz : Nat} {S Ln : Nat → Nat} {M : gM} {R : gR} {pc : Nat} {lv lv' : List (Nat × Value)} {st : List Value}
theorem po_kB {q : Int} (h : (-128 ≤ q ∧ q < 128) → JJ G C k n sz S Ln M R pc lv (.int (iI q) :: st)) : ∀ v sz' S' Ln' M' R', poB q sz S Ln M R v sz' S' Ln' M' R' → JJ G C k n sz' S' Ln' M' R' pc lv (v.toList ++ st) := by
  rintro v sz' S' Ln' M' R' ⟨h1, h2, h3, h4, h5, h6, h7⟩; subst h1; rw [h3, h4, h5, h6, h7]; exact h h2
theorem jj_bret (hC : OKC G C own cc nL (some .byte) fr mc ms P X) {z : Int} (h01 : -128 ≤ z ∧ z < 128) (h1 : k ≤ mc) (h2 : n ≤ ms) (hdg : decode cc pc = .ok (.ireturn, 1)) (hP : P (some (.int (iI z))) sz S Ln M R) : JJ G C k n sz S Ln M R pc lv [.int (iI z)] := by
  obtain ⟨p, l, e, Rm, s, m, args, below, meth, c, Q⟩ := C
  obtain ⟨hx, hb, hml, hown, hts, hE, hlk, hrt, hst, hRm, hQ, htab, hz⟩ := hC
  intro H locs ls hR hS hl
  subst hQ
  refine W.widen h1 h2 (vx_ret (W.zret hx hb hrt (by show Value.int ((iI z).toInt8.toInt32) = _; rw [j8_i2b h01]) (fun t ht _ => ⟨⟨_, sz, S, Ln, M, R, rfl, hP, by rw [ht]; exact hR⟩, ⟨by rw [ht]; exact hS.1, fun q a b => by rw [ht]; exact hS.2.1 q a b⟩⟩) hS.2.2 hdg hlk))
theorem jj_dconst0 (hC : OKC G C own cc nL ret fr mc ms P X) {j : Fin 2} (hj : (j : Nat) = 0) (hd : decode cc pc = .ok (.dconst j, 1)) (kk : JJ G C k n sz S Ln M R (pc + 1) lv (.double 0 :: st)) : JJ G C k n sz S Ln M R pc lv st := by
  obtain ⟨p, l, e, Rm, s, m, args, below, meth, c, Q⟩ := C
  obtain ⟨hx, hb, hml, hown, hts, hE, hlk2, hrt, hst, hRm, hQ, htab, hz⟩ := hC
  intro H locs ls hR hS hl
  have : j = 0 := Fin.ext hj
  subst this
  exact lv_dconst0 hx hb hd (kk H locs ls hR hS hl)
end JJC
end
