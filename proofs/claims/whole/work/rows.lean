section
-- ===== PART A: goes FIRST, ahead of the names: the tables' words, and 'selects' of the private methods out of them =====
/-- a private method of a class that the tables say can be made, by its rows of tables_1 -/
def lw_okq (q : MethodName × Nat) : Prop := (q.1.cls ≠ "java/lang/invoke/MethodHandle" ∧ q.1.cls ≠ "java/lang/invoke/VarHandle") ∧ Cond.instantiable q.1.cls q.2 ∈ tables_1 ∧ Cond.privateMethod q.1 ∈ tables_1 ∧ Cond.instanceMethod q.1 ∈ tables_1
theorem lw_p0 : lw_okq (⟨"FeatureStore", "tell", "(II)I"⟩, 9) := ⟨⟨by decide +kernel, by decide +kernel⟩, List.mem_of_getElem? (i := 13) (by decide +kernel), List.mem_of_getElem? (i := 70) (by decide +kernel), List.mem_of_getElem? (i := 71) (by decide +kernel)⟩
theorem lw_p1 : lw_okq (⟨"FeatureStore", "numberUnlessExpired", "(LFeatureStore$Row;I)I"⟩, 9) := ⟨⟨by decide +kernel, by decide +kernel⟩, List.mem_of_getElem? (i := 13) (by decide +kernel), List.mem_of_getElem? (i := 77) (by decide +kernel), List.mem_of_getElem? (i := 78) (by decide +kernel)⟩
theorem lw_p2 : lw_okq (⟨"FeatureStore", "find", "(IIII)I"⟩, 9) := ⟨⟨by decide +kernel, by decide +kernel⟩, List.mem_of_getElem? (i := 13) (by decide +kernel), List.mem_of_getElem? (i := 81) (by decide +kernel), List.mem_of_getElem? (i := 82) (by decide +kernel)⟩
theorem lw_p3 : lw_okq (⟨"FeatureStore", "requireServing", "(I)LFeatureStore$Serving;"⟩, 9) := ⟨⟨by decide +kernel, by decide +kernel⟩, List.mem_of_getElem? (i := 13) (by decide +kernel), List.mem_of_getElem? (i := 97) (by decide +kernel), List.mem_of_getElem? (i := 98) (by decide +kernel)⟩
theorem lw_p4 : lw_okq (⟨"java/lang/Throwable", "fillInStackTrace", "(I)Ljava/lang/Throwable;"⟩, 6) := ⟨⟨by decide +kernel, by decide +kernel⟩, List.mem_of_getElem? (i := 139) (by decide +kernel), List.mem_of_getElem? (i := 137) (by decide +kernel), List.mem_of_getElem? (i := 138) (by decide +kernel)⟩
theorem lw_p5 : lw_okq (⟨"FeatureStore", "putInChain", "(LFeatureStore$Row;)V"⟩, 9) := ⟨⟨by decide +kernel, by decide +kernel⟩, List.mem_of_getElem? (i := 13) (by decide +kernel), List.mem_of_getElem? (i := 250) (by decide +kernel), List.mem_of_getElem? (i := 251) (by decide +kernel)⟩
theorem lw_p6 : lw_okq (⟨"FeatureStore", "requireRow", "(I)LFeatureStore$Row;"⟩, 9) := ⟨⟨by decide +kernel, by decide +kernel⟩, List.mem_of_getElem? (i := 13) (by decide +kernel), List.mem_of_getElem? (i := 277) (by decide +kernel), List.mem_of_getElem? (i := 278) (by decide +kernel)⟩
theorem lw_p7 : lw_okq (⟨"FeatureStore", "rowOrNull", "(I)LFeatureStore$Row;"⟩, 9) := ⟨⟨by decide +kernel, by decide +kernel⟩, List.mem_of_getElem? (i := 13) (by decide +kernel), List.mem_of_getElem? (i := 281) (by decide +kernel), List.mem_of_getElem? (i := 282) (by decide +kernel)⟩
theorem lw_p8 : lw_okq (⟨"FeatureStore", "takeIn", "(LFeatureStore$Row;)V"⟩, 9) := ⟨⟨by decide +kernel, by decide +kernel⟩, List.mem_of_getElem? (i := 13) (by decide +kernel), List.mem_of_getElem? (i := 344) (by decide +kernel), List.mem_of_getElem? (i := 345) (by decide +kernel)⟩
theorem lw_p9 : lw_okq (⟨"FeatureStoreModel", "asksRow", "(I)Z"⟩, 14) := ⟨⟨by decide +kernel, by decide +kernel⟩, List.mem_of_getElem? (i := 396) (by decide +kernel), List.mem_of_getElem? (i := 483) (by decide +kernel), List.mem_of_getElem? (i := 484) (by decide +kernel)⟩
theorem lw_p10 : lw_okq (⟨"FeatureStoreModel", "joins", "(III)I"⟩, 14) := ⟨⟨by decide +kernel, by decide +kernel⟩, List.mem_of_getElem? (i := 396) (by decide +kernel), List.mem_of_getElem? (i := 495) (by decide +kernel), List.mem_of_getElem? (i := 496) (by decide +kernel)⟩
theorem lw_p11 : lw_okq (⟨"FeatureStoreModel", "fresh", "(II)I"⟩, 14) := ⟨⟨by decide +kernel, by decide +kernel⟩, List.mem_of_getElem? (i := 396) (by decide +kernel), List.mem_of_getElem? (i := 499) (by decide +kernel), List.mem_of_getElem? (i := 500) (by decide +kernel)⟩
theorem lw_p12 : lw_okq (⟨"FeatureStoreModel", "sums", "(III)I"⟩, 14) := ⟨⟨by decide +kernel, by decide +kernel⟩, List.mem_of_getElem? (i := 396) (by decide +kernel), List.mem_of_getElem? (i := 507) (by decide +kernel), List.mem_of_getElem? (i := 508) (by decide +kernel)⟩
theorem lw_p13 : lw_okq (⟨"FeatureStoreModel", "asksTiles", "(III)Z"⟩, 14) := ⟨⟨by decide +kernel, by decide +kernel⟩, List.mem_of_getElem? (i := 396) (by decide +kernel), List.mem_of_getElem? (i := 515) (by decide +kernel), List.mem_of_getElem? (i := 516) (by decide +kernel)⟩
theorem lw_p14 : lw_okq (⟨"FeatureStoreModel", "isFirst", "(II)Z"⟩, 14) := ⟨⟨by decide +kernel, by decide +kernel⟩, List.mem_of_getElem? (i := 396) (by decide +kernel), List.mem_of_getElem? (i := 519) (by decide +kernel), List.mem_of_getElem? (i := 520) (by decide +kernel)⟩
theorem lw_p15 : lw_okq (⟨"FeatureStoreModel", "asksServing", "(I)Z"⟩, 14) := ⟨⟨by decide +kernel, by decide +kernel⟩, List.mem_of_getElem? (i := 396) (by decide +kernel), List.mem_of_getElem? (i := 559) (by decide +kernel), List.mem_of_getElem? (i := 560) (by decide +kernel)⟩
def lw_privs_1 : List (MethodName × Nat) := [(⟨"FeatureStore", "tell", "(II)I"⟩, 9), (⟨"FeatureStore", "numberUnlessExpired", "(LFeatureStore$Row;I)I"⟩, 9), (⟨"FeatureStore", "find", "(IIII)I"⟩, 9), (⟨"FeatureStore", "requireServing", "(I)LFeatureStore$Serving;"⟩, 9), (⟨"java/lang/Throwable", "fillInStackTrace", "(I)Ljava/lang/Throwable;"⟩, 6), (⟨"FeatureStore", "putInChain", "(LFeatureStore$Row;)V"⟩, 9), (⟨"FeatureStore", "requireRow", "(I)LFeatureStore$Row;"⟩, 9), (⟨"FeatureStore", "rowOrNull", "(I)LFeatureStore$Row;"⟩, 9), (⟨"FeatureStore", "takeIn", "(LFeatureStore$Row;)V"⟩, 9), (⟨"FeatureStoreModel", "asksRow", "(I)Z"⟩, 14), (⟨"FeatureStoreModel", "joins", "(III)I"⟩, 14), (⟨"FeatureStoreModel", "fresh", "(II)I"⟩, 14), (⟨"FeatureStoreModel", "sums", "(III)I"⟩, 14), (⟨"FeatureStoreModel", "asksTiles", "(III)Z"⟩, 14), (⟨"FeatureStoreModel", "isFirst", "(II)Z"⟩, 14), (⟨"FeatureStoreModel", "asksServing", "(I)Z"⟩, 14)]
theorem lw_r1 : ∀ q ∈ lw_privs_1, lw_okq q := List.forall_mem_cons.mpr ⟨lw_p0, List.forall_mem_cons.mpr ⟨lw_p1, List.forall_mem_cons.mpr ⟨lw_p2, List.forall_mem_cons.mpr ⟨lw_p3, List.forall_mem_cons.mpr ⟨lw_p4, List.forall_mem_cons.mpr ⟨lw_p5, List.forall_mem_cons.mpr ⟨lw_p6, List.forall_mem_cons.mpr ⟨lw_p7, List.forall_mem_cons.mpr ⟨lw_p8, List.forall_mem_cons.mpr ⟨lw_p9, List.forall_mem_cons.mpr ⟨lw_p10, List.forall_mem_cons.mpr ⟨lw_p11, List.forall_mem_cons.mpr ⟨lw_p12, List.forall_mem_cons.mpr ⟨lw_p13, List.forall_mem_cons.mpr ⟨lw_p14, List.forall_mem_cons.mpr ⟨lw_p15, fun _ h => absurd h List.not_mem_nil⟩⟩⟩⟩⟩⟩⟩⟩⟩⟩⟩⟩⟩⟩⟩⟩
theorem lw_p16 : lw_okq (⟨"FeatureStoreModel", "isRight", "(I)Z"⟩, 14) := ⟨⟨by decide +kernel, by decide +kernel⟩, List.mem_of_getElem? (i := 396) (by decide +kernel), List.mem_of_getElem? (i := 567) (by decide +kernel), List.mem_of_getElem? (i := 568) (by decide +kernel)⟩
def lw_privs_2 : List (MethodName × Nat) := [(⟨"FeatureStoreModel", "isRight", "(I)Z"⟩, 14)]
theorem lw_r2 : ∀ q ∈ lw_privs_2, lw_okq q := List.forall_mem_cons.mpr ⟨lw_p16, fun _ h => absurd h List.not_mem_nil⟩
def lw_privs : List (MethodName × Nat) := lw_privs_1 ++ (lw_privs_2)
def lw_tbl : List Cond := k2_sels lw_privs ++ tables_1
theorem lw_privs_ok : ∀ q ∈ lw_privs, lw_okq q := by
  show ∀ q ∈ lw_privs_1 ++ (lw_privs_2), lw_okq q
  exact List.forall_mem_append.mpr ⟨lw_r1, lw_r2⟩
end
section
/-! ===== BEGIN words of one list among another's, by their places ===== -/
theorem goodIn_r {big : List Cond} (ws : List Cond) (ps : List Nat) (hp : ws = ps.filterMap (fun i => big[i]?)) (h : ws.all goodWord = true) : GoodIn big ws := by
  intro w hw
  have h1 := List.all_eq_true.mp h w hw
  rw [hp] at hw
  obtain ⟨i, -, hi⟩ := List.mem_filterMap.mp hw
  have hm : w ∈ big := by first | exact List.mem_of_getElem? hi | exact List.getElem?_mem hi
  exact ⟨hm, good_of_word h1⟩
theorem goodIn_app {big a b : List Cond} (ha : GoodIn big a) (hb : GoodIn big b) : GoodIn big (a ++ b) := fun w h => (List.mem_append.mp h).elim (ha w) (hb w)
theorem goodIn_ca {big a b : List Cond} {c : Cond} (ha : GoodIn big (c :: a)) (hb : GoodIn big b) : GoodIn big (c :: (a ++ b)) := fun w h => (List.mem_cons.mp h).elim (fun e => ha w (List.mem_cons.mpr (Or.inl e))) (fun h => (List.mem_append.mp h).elim (fun h => ha w (List.mem_cons.mpr (Or.inr h))) (hb w))
theorem goodIn_sub {big ws : List Cond} (hm : ∀ w ∈ ws, w ∈ big) (h : ws.all goodWord = true) : GoodIn big ws := fun w hw => ⟨hm w hw, good_of_word (List.all_eq_true.mp h w hw)⟩
/-! ===== END ===== -/

/-! ===== BEGIN exceptions that leave a method, and their catching by the caller (launches without stack traces) ===== -/
section VXA
/-! The laws vx_back, vx_callV, vx_callS, vx_callSW, vx_throw0, vx_throwS follow proofs of the library, with one case more: JvmDerived/Free/Laws.lean (Back.of_free), Shelf42/LK1.lean (callV, callS), Shelf/KitTraced.lean (throwNew0V, throwNewS). -/
/-- where a method has thrown q: the class by its name, the cell, what was written, the world -/
def vx_T (XC : String → State → State → Prop) (st : State) (q : Addr) (t : State) (mc ms : Nat) (free : Addr → Prop) : Prop :=
  ∃ (E : String) (ce : Cell) (L : List Loc), XC E st t ∧ t.heap[q]? = some ce ∧ ce.vm = .none ∧ st.vm.findClass E = some ce.cls ∧ st.WarmedH t.vm ∧ st.sameButNew ({ t with vm := st.vm } : State) L mc ms ∧ ∀ z ∈ L, free z.base
def vx_Q (Qc : Array Value → State → Outcome → State → Prop) (XC : String → State → State → Prop) (mc ms : Nat) (free : Addr → Prop) : Array Value → State → Outcome → State → Prop := fun a st o t =>
  (Qc a st o t ∧ ∃ L, FrameEnd st o t L mc ms ∧ ∀ q ∈ L, free q.base) ∨ ∃ q, o = .threw q ∧ vx_T XC st q t mc ms free
/-- a callee that returns or throws -/
def vx_Met (l : Launch) (y : MethodName) (ws : List Cond) (rm : Room) (Pc : Array Value → State → Prop) (Qc : Array Value → State → Outcome → State → Prop) (XC : String → State → State → Prop) (mc ms : Nat) (free : Addr → Prop) : Prop :=
  MetFree l y (headSpec ws rm) Pc (fun _ _ _ _ _ => True) (vx_Q Qc XC mc ms free)
def vx_Post (XC : String → State → State → Prop) (mc ms : Nat) (free : Addr → Prop) : Pt → Array Value → Addr → Pt → Prop := fun A a q B =>
  ∃ (g : JFrame) (mk : MethodId) (t : State) (L : List Loc) (E : String) (ce : Cell), B.U.heap = t.heap ∧ B.U.vm = t.vm ∧ XC E (A.U.calling g mk a) t ∧ t.heap[q]? = some ce ∧ ce.vm = .none ∧ A.U.vm.findClass E = some ce.cls ∧ B.locs = A.locs ++ L ∧ (∀ z ∈ L, free z.base) ∧ B.cells = A.cells + mc ∧ B.slots = A.slots + ms
def vx_Back (l : Launch) (R : Room) (p : Program) (e : Env) (below : List Frame) (s : State) (sargs : Array Value) (y : MethodName) (len W9 : Nat)
    (Pre : Pt → Array Value → Prop) (Post : Pt → Array Value → Option Value → Pt → Prop) (PostX : Pt → Array Value → Addr → Pt → Prop) : Prop :=
  ∀ (m : MethodId) (meth : Method) (c : Code) (A : Pt) (g : JFrame) (ig : Instr) (mk : MethodId) (a : Array Value),
    Stand p l e R s m sargs below meth c A.U A.locs A.cells A.slots → g.method = m → g.locals.size = c.maxLocals → decode c.code g.pc = .ok (ig, len) →
    2 * g.monitorRoom + (g.stack.map fun v => v.category).sum ≤ W9 → A.U.methodNamed? y = some mk → Pre A a →
    (∃ (v : Option Value) (B : Pt), Stand p l e R s m sargs below meth c B.U B.locs B.cells B.slots ∧ Post A a v B ∧
      Steps p.tables e below (doInvoke e (A.U.setTop g) [] mk a).1 (B.U.setTop { g with pc := g.pc + len, stack := v.toList ++ g.stack })) ∨
    (∃ (q : Addr) (B : Pt), Stand p l e R s m sargs below meth c B.U B.locs B.cells B.slots ∧ PostX A a q B ∧
      Steps p.tables e below (doInvoke e (A.U.setTop g) [] mk a).1 ((B.U.setTop g).pushFrame (.throwing q)))
section Payer
variable {l : Launch} {R : Room} {p : Program} {e : Env} {below : List Frame} {s : State} {sargs : Array Value} {y : MethodName} {len W9 : Nat}
theorem vx_back {ws : List Cond} {rm : Room} {Pc : Array Value → State → Prop} {Qc : Array Value → State → Outcome → State → Prop} {XC : String → State → State → Prop} {mc ms : Nat} {free : Addr → Prop} {bytes : ByteArray} {maxL : Nat} {ret : Option FieldType}
    (hM : vx_Met l y ws rm Pc Qc XC mc ms free) (hblind : FrameBlind Pc) (hrc : rm.cells = mc) (hrs : rm.slots = ms)
    (hframes : rm.frames + 1 ≤ R.frames) (hlocals : W9 + (maxL + 11) + rm.locals ≤ R.locals)
    (hws : ∀ w ∈ ws, ∀ a' U, s.WarmedH U.vm → w.before a' U = true) (hcode : Cond.code y bytes maxL ret ∈ ws) (hinit : ∀ a' U, s.WarmedH U.vm → (Cond.initialized y.cls).before a' U = true) :
    vx_Back l R p e below s sargs y len W9 (PreOf R mc ms Pc) (PostOf Qc mc ms free) (vx_Post XC mc ms free) := by
  intro m meth c A g ig mk a X hg hsize hdg hW hn hp
  have h1 : (headSpec ws rm).pre.before a A.U = true := atoms_intro fun w hw => hws w hw _ _ X.warmed
  have h2 : (Cond.code y bytes maxL ret).before a A.U = true := hws _ hcode _ _ X.warmed
  have h3 : (Cond.initialized y.cls).before a A.U = true := hinit _ _ X.warmed
  have h4 : A.cells + (headSpec ws rm).room.cells ≤ R.cells := by rw [show (headSpec ws rm).room.cells = mc from hrc]; exact hp.1
  have h5 : A.slots + (headSpec ws rm).room.slots ≤ R.slots := by rw [show (headSpec ws rm).room.slots = ms from hrs]; exact hp.2.1
  have hPc : Pc a (A.U.calling g mk a) := hblind _ _ _ _ hp.2.2
  obtain ⟨U, Ls, c0, s0⟩ := A
  dsimp only [Pt.U, Pt.locs, Pt.cells, Pt.slots] at h1 h2 h3 h4 h5 X hn hPc ⊢
  obtain ⟨methY, cY, hmY, hcY, -, hlY, -, -, -, -⟩ := Cond.code_spec hn h2
  obtain ⟨kY, hkY, -⟩ := className_of_methodNamed hn
  have hinitY : kY.init = .initialized := Cond.initialized_spec (findClass_of_methodNamed hn) hkY h3
  have h : At U g.method c below := by rw [hg]; exact X.here
  have hlocals9 : W9 + (maxL + 11) + (headSpec ws rm).room.locals ≤ R.locals := hlocals
  have happ : (headSpec ws rm).appliesLoose y e.platform (U.calling g mk a) = true :=
    Spec.appliesLoose_calling (g := g) h hdg hn hkY hinitY
      (X.room_calling (g := g) (R' := (headSpec ws rm).room) hsize hmY hcY hframes (by rw [hlY]; omega) h4 h5) h1
  obtain ⟨mid, hmid⟩ := h.above
  have hfr : (U.setTop g).frames = (.java g :: mid) ++ below := by rw [State.frames_setTop' g h.top, hmid]; rfl
  obtain ⟨o, s₂, hsteps, -, hend, hq⟩ := Steps.callFree hM p X.admits X.cas X.clock (acts := []) hfr happ hPc trivial
  have hq' : vx_Q Qc XC mc ms free a (U.calling g mk a) o s₂ := hq
  rw [State.frames_setTop' g h.top] at hend
  obtain ⟨g₀, hg0⟩ := Option.isSome_iff_exists.mp h.top
  obtain ⟨r, hr⟩ := State.topJava?_eq_some.mp hg0
  have hr' : (({ U with heap := s₂.heap, slotsUsed := s₂.slotsUsed } : State).setVm s₂.vm).frames = .java g₀ :: r := hr
  rcases hq' with ⟨hqc, L, hfe, hL⟩ | ⟨q, rfl, E, ce, L, hx, hce, hcv, hcl, hW₂, hsm, hL⟩
  · obtain ⟨⟨v, rfl⟩, hW₂, e2, q2, q3, q4, q5, q6⟩ := id hfe
    have e3 : s₂ = ({ (U.calling g mk a).setFrames s₂.frames with heap := s₂.heap, slotsUsed := s₂.slotsUsed } : State).setVm s₂.vm := by
      have : s₂ = ({ s₂ with vm := (U.calling g mk a).vm } : State).setVm s₂.vm := rfl
      rw [e2] at this
      exact this
    obtain ⟨c₂, i₂, len₂, hc₂, hd₂, hf₂⟩ := hend
    have hW' : U.WarmedH s₂.vm := hW₂
    have hcc : c₂ = c := by
      have h1 : s₂.code? g.method = U.code? g.method := by
        rw [State.code?_eq, State.code?_eq, hW'.alike.method?]
      exact Option.some.inj (hc₂.symm.trans (h1.trans h.code))
    subst hcc
    have hlen : len₂ = len := by rw [hdg] at hd₂; cases hd₂; rfl
    subst hlen
    have hs₂ : s₂ = (({ U with heap := s₂.heap, slotsUsed := s₂.slotsUsed } : State).setVm s₂.vm).setTop { g with pc := g.pc + len₂, stack := v.toList ++ g.stack } := by
      refine e3.trans ?_
      rw [hf₂, State.calling_eq h.top, State.setFrames_setFrames, State.setTop_of_frames _ hr', hr]
      rfl
    have hsame : U.sameButNew ({ U with heap := s₂.heap, slotsUsed := s₂.slotsUsed } : State) L mc ms := by
      refine ⟨?_, q2, q3, q4, q5, q6⟩
      obtain ⟨t, ht, -⟩ := State.frames_cons hr
      show ({ U with heap := s₂.heap, slotsUsed := s₂.slotsUsed } : State) = { U.setFrames U.frames with heap := s₂.heap, slotsUsed := s₂.slotsUsed }
      rw [State.setFrames_self ht]
    subst hg
    refine Or.inl ⟨v, ⟨(({ U with heap := s₂.heap, slotsUsed := s₂.slotsUsed } : State).setVm s₂.vm), Ls ++ L, c0 + mc, s0 + ms⟩,
      ⟨X.admits, X.cas, X.clock, X.frames, X.room, X.hears, X.method, X.code, (X.here.setHeapUsed s₂.heap s₂.slotsUsed).setVm hW'.alike, X.tail, State.WarmedH.trans X.warmed hW', X.limits, X.bytes, X.same.trans (hsame.setVm s.vm)⟩,
      ⟨g, mk, s₂, L, rfl, rfl, hqc, rfl, hL, rfl, rfl⟩, ?_⟩
    show Steps p.tables e below _ ((({ U with heap := s₂.heap, slotsUsed := s₂.slotsUsed } : State).setVm s₂.vm).setTop { g with pc := g.pc + len₂, stack := v.toList ++ g.stack })
    rw [← hs₂]
    exact hsteps
  · obtain ⟨e2, q2, q3, q4, q5, q6⟩ := id hsm
    have e3 : s₂ = ({ (U.calling g mk a).setFrames s₂.frames with heap := s₂.heap, slotsUsed := s₂.slotsUsed } : State).setVm s₂.vm := by
      have : s₂ = ({ s₂ with vm := (U.calling g mk a).vm } : State).setVm s₂.vm := rfl
      rw [e2] at this
      exact this
    have hf₂ : s₂.frames = .throwing q :: .java g :: U.frames.tail := hend
    have hW' : U.WarmedH s₂.vm := hW₂
    have hs₂ : s₂ = ((({ U with heap := s₂.heap, slotsUsed := s₂.slotsUsed } : State).setVm s₂.vm).setTop g).pushFrame (.throwing q) := by
      refine e3.trans ?_
      rw [hf₂, State.calling_eq h.top, State.setFrames_setFrames, State.pushFrame, State.frames_setTop _ hr', State.setTop_of_frames _ hr', State.setFrames_setFrames, hr]
      rfl
    have hsame : U.sameButNew ({ U with heap := s₂.heap, slotsUsed := s₂.slotsUsed } : State) L mc ms := by
      refine ⟨?_, q2, q3, q4, q5, q6⟩
      obtain ⟨t, ht, -⟩ := State.frames_cons hr
      show ({ U with heap := s₂.heap, slotsUsed := s₂.slotsUsed } : State) = { U.setFrames U.frames with heap := s₂.heap, slotsUsed := s₂.slotsUsed }
      rw [State.setFrames_self ht]
    subst hg
    refine Or.inr ⟨q, ⟨(({ U with heap := s₂.heap, slotsUsed := s₂.slotsUsed } : State).setVm s₂.vm), Ls ++ L, c0 + mc, s0 + ms⟩,
      ⟨X.admits, X.cas, X.clock, X.frames, X.room, X.hears, X.method, X.code, (X.here.setHeapUsed s₂.heap s₂.slotsUsed).setVm hW'.alike, X.tail, State.WarmedH.trans X.warmed hW', X.limits, X.bytes, X.same.trans (hsame.setVm s.vm)⟩,
      ⟨g, mk, s₂, L, E, ce, rfl, rfl, hx, hce, hcv, hcl, rfl, hL, rfl, rfl⟩, ?_⟩
    show Steps p.tables e below _ (((({ U with heap := s₂.heap, slotsUsed := s₂.slotsUsed } : State).setVm s₂.vm).setTop g).pushFrame (.throwing q))
    rw [← hs₂]
    exact hsteps
end Payer
section Calls
variable {p : Program} {l : Launch} {e : Env} {R : Room} {s : State} {m : MethodId} {args : Array Value} {below : List Frame} {meth : Method} {c : Code} {T : State} {locs : List Loc} {cells slots : Nat}
theorem vx_callV (X : Stand p l e R s m args below meth c T locs cells slots) (hexec : p.tables.exec = Jvm.exec) {own C : String} {index : Nat} {y : MethodName} {bytes : ByteArray} {maxL : Nat} {ret : Option FieldType}
    (hown : s.vm.findClass own = some m.cls) (hlink : (Cond.methodLink own index y).before args s = true) (hinst : (Cond.instanceMethod y).before args s = true) (hsel : (Cond.selects C y y).before args s = true)
    (hcode : (Cond.code y bytes maxL ret).before args s = true) (hy : y.cls ≠ "java/lang/invoke/MethodHandle" ∧ y.cls ≠ "java/lang/invoke/VarHandle")
    {W9 : Nat} {Pre : Pt → Array Value → Prop} {Post : Pt → Array Value → Option Value → Pt → Prop} {PostX : Pt → Array Value → Addr → Pt → Prop} (hK : vx_Back l R p e below s args y 3 W9 Pre Post PostX)
    {b : Addr} {cellB : Cell} (hcell : T.heap[b]? = some cellB) (hobj : cellB.vm.isStatics = false) (hcls : s.vm.findClass C = some cellB.cls)
    {g : JFrame} (hg : g.method = m) (hsize : g.locals.size = c.maxLocals) {argsL rest : List Value} (hlen : ∀ sig, parseMethodDescriptor y.desc = some sig → argsL.length = sig.parameters.length)
    (hstack : g.stack = argsL.reverse ++ .ref b :: rest) (hW : 2 * g.monitorRoom + (rest.map fun v => v.category).sum ≤ W9) (hdg : decode c.code g.pc = .ok (.invokevirtual index, 3))
    (hpre : ∀ vm₁, s.WarmedH vm₁ → Pre ⟨T.setVm vm₁, locs, cells, slots⟩ (Value.ref b :: argsL).toArray) :
    (∃ (v : Option Value) (vm₁ : Vm) (B : Pt), s.WarmedH vm₁ ∧ Stand p l e R s m args below meth c B.U B.locs B.cells B.slots ∧ Post ⟨T.setVm vm₁, locs, cells, slots⟩ (Value.ref b :: argsL).toArray v B ∧
      ∀ target, Steps p.tables e below (B.U.setTop { g with pc := g.pc + 3, stack := v.toList ++ rest }) target → Steps p.tables e below (T.setTop g) target) ∨
    (∃ (q : Addr) (vm₁ : Vm) (B : Pt), s.WarmedH vm₁ ∧ Stand p l e R s m args below meth c B.U B.locs B.cells B.slots ∧ PostX ⟨T.setVm vm₁, locs, cells, slots⟩ (Value.ref b :: argsL).toArray q B ∧
      Steps p.tables e below (T.setTop g) ((B.U.setTop { g with stack := rest }).pushFrame (.throwing q))) := by
  obtain ⟨mk, methM, hnamed, hmethM, hstM, habM⟩ := Cond.instanceMethod_spec hinst
  obtain ⟨methM', cM, hmethM', -, -, -, -, -, -, hsigM⟩ := Cond.code_spec hnamed hcode
  cases hmethM.symm.trans hmethM'
  obtain ⟨c2, r2, m2, q1, q2, q3, q4, kP, hkP, hkPi⟩ := Cond.selects_spec hsel
  cases hcls.symm.trans q1
  cases (State.methodFound?_of_named hnamed hy).symm.trans q2
  cases hnamed.symm.trans q3
  have hselP : selectMethod e.platform s.vm cellB.cls mk = .method mk := by rw [Launch.admits_selectMethod X.admits]; exact q4
  obtain ⟨vm₁, X₁, hstep₁⟩ := X.invokevirtual hexec hown hlink hnamed hmethM hstM hkP hkPi hy (a := b) (cell := cellB) hcell
    (fun z h => by rw [h] at hobj; cases hobj) hselP hmethM habM hkP hkPi (g := g) hg (argsL := argsL) (rest := rest) (hlen _ hsigM) hstack hdg
  rcases hK m meth c ⟨T.setVm vm₁, locs, cells, slots⟩ { g with stack := rest } (.invokevirtual index) mk (Value.ref b :: argsL).toArray X₁ hg hsize hdg hW (X₁.named hnamed) (hpre vm₁ X₁.warmed) with ⟨v, B, X', hpost, hsteps⟩ | ⟨q, B, X', hpost, hsteps⟩
  · exact Or.inl ⟨v, vm₁, B, X₁.warmed, X', hpost, fun target h => hstep₁ _ fun acts => by rw [doInvoke_state]; exact hsteps.trans h⟩
  · exact Or.inr ⟨q, vm₁, B, X₁.warmed, X', hpost, hstep₁ _ fun acts => by rw [doInvoke_state]; exact hsteps⟩
theorem vx_callS (X : Stand p l e R s m args below meth c T locs cells slots) (hexec : p.tables.exec = Jvm.exec) {own : String} {index : Nat} {y : MethodName} {bytes : ByteArray} {maxL : Nat} {ret : Option FieldType}
    (hown : s.vm.findClass own = some m.cls) (hlink : (Cond.methodLink own index y).before args s = true) (hstat : (Cond.static y).before args s = true) (hinit : (Cond.initialized y.cls).before args s = true)
    (hcode : (Cond.code y bytes maxL ret).before args s = true) (hy : y.cls ≠ "java/lang/invoke/MethodHandle" ∧ y.cls ≠ "java/lang/invoke/VarHandle")
    {W9 : Nat} {Pre : Pt → Array Value → Prop} {Post : Pt → Array Value → Option Value → Pt → Prop} {PostX : Pt → Array Value → Addr → Pt → Prop} (hK : vx_Back l R p e below s args y 3 W9 Pre Post PostX)
    {g : JFrame} (hg : g.method = m) (hsize : g.locals.size = c.maxLocals) {argsL rest : List Value} (hlen : ∀ sig, parseMethodDescriptor y.desc = some sig → argsL.length = sig.parameters.length)
    (hstack : g.stack = argsL.reverse ++ rest) (hW : 2 * g.monitorRoom + (rest.map fun v => v.category).sum ≤ W9) (hdg : decode c.code g.pc = .ok (.invokestatic index, 3))
    (hpre : ∀ vm₁, s.WarmedH vm₁ → Pre ⟨T.setVm vm₁, locs, cells, slots⟩ argsL.toArray) :
    (∃ (v : Option Value) (vm₁ : Vm) (B : Pt), s.WarmedH vm₁ ∧ Stand p l e R s m args below meth c B.U B.locs B.cells B.slots ∧ Post ⟨T.setVm vm₁, locs, cells, slots⟩ argsL.toArray v B ∧
      ∀ target, Steps p.tables e below (B.U.setTop { g with pc := g.pc + 3, stack := v.toList ++ rest }) target → Steps p.tables e below (T.setTop g) target) ∨
    (∃ (q : Addr) (vm₁ : Vm) (B : Pt), s.WarmedH vm₁ ∧ Stand p l e R s m args below meth c B.U B.locs B.cells B.slots ∧ PostX ⟨T.setVm vm₁, locs, cells, slots⟩ argsL.toArray q B ∧
      Steps p.tables e below (T.setTop g) ((B.U.setTop { g with stack := rest }).pushFrame (.throwing q))) := by
  obtain ⟨mk, hnamed⟩ := Cond.code_named hcode
  obtain ⟨methM, cM, hmethM, -, -, -, -, -, -, hsigM⟩ := Cond.code_spec hnamed hcode
  have hstatic : methM.isStatic = true := Cond.static_spec hnamed hmethM hstat
  obtain ⟨kP, hkP, -⟩ := className_of_methodNamed hnamed
  have hinitP : kP.init = .initialized := Cond.initialized_spec (findClass_of_methodNamed hnamed) hkP hinit
  obtain ⟨vm₁, X₁, hstep₁⟩ := X.invokestatic hexec hown hlink hnamed hmethM hstatic hkP hinitP hy (g := g) hg (argsL := argsL) (rest := rest) (hlen _ hsigM) hstack hdg
  rcases hK m meth c ⟨T.setVm vm₁, locs, cells, slots⟩ { g with stack := rest } (.invokestatic index) mk argsL.toArray X₁ hg hsize hdg hW (X₁.named hnamed) (hpre vm₁ X₁.warmed) with ⟨v, B, X', hpost, hsteps⟩ | ⟨q, B, X', hpost, hsteps⟩
  · exact Or.inl ⟨v, vm₁, B, X₁.warmed, X', hpost, fun target h => hstep₁ _ fun acts => by rw [doInvoke_state]; exact hsteps.trans h⟩
  · exact Or.inr ⟨q, vm₁, B, X₁.warmed, X', hpost, hstep₁ _ fun acts => by rw [doInvoke_state]; exact hsteps⟩
end Calls
theorem vx_cls {s : State} {T : State} {vm₁ : Vm} {E : String} {k : ClassId} (hW : s.WarmedH vm₁) (h : (T.setVm vm₁).vm.findClass E = some k) : s.vm.findClass E = some k := by
  have h1 : vm₁.findClass E = some k := h
  rw [hW.alike.findClass] at h1
  exact h1
/-- the method's frame g, with q thrown over it -/
def vx_W (p : Program) (l : Launch) (e : Env) (R : Room) (s : State) (m : MethodId) (args : Array Value) (below : List Frame) (meth : Method) (c : Code) (H : Heap) (locs : List Loc) (cells slots : Nat) (Q : State → Prop) (g : JFrame) (q : Addr) : Prop :=
  ∀ T : State, T.heap = H → Stand p l e R s m args below meth c T locs cells slots → ∃ t, Steps p.tables e below ((T.setTop g).pushFrame (.throwing q)) t ∧ Q t
def vx_Run (p : Program) (l : Launch) (e : Env) (R : Room) (s : State) (m : MethodId) (args : Array Value) (below : List Frame) (meth : Method) (c : Code) (H : Heap) (locs : List Loc) (cells slots mc ms : Nat) (g : JFrame) (rest : List Value) (Qa : State → Outcome → State → Prop) (XC : String → State → State → Prop) (free : Addr → Prop) : Prop :=
  ∀ T : State, T.heap = H → Stand p l e R s m args below meth c T locs cells slots →
    (∃ (v : Option Value) (st₀ t T' : State) (L : List Loc), st₀.heap = H ∧ Stand p l e R s m args below meth c T' (locs ++ L) (cells + mc) (slots + ms) ∧ (∀ q ∈ L, free q.base) ∧ T'.heap = t.heap ∧ T'.vm = t.vm ∧ Qa st₀ (.returned v) t ∧
      Goes p e below T g T' { g with pc := g.pc + 3, stack := v.toList ++ rest }) ∨
    (∃ (q : Addr) (st₀ t T' : State) (L : List Loc) (E : String) (ce : Cell), st₀.heap = H ∧ Stand p l e R s m args below meth c T' (locs ++ L) (cells + mc) (slots + ms) ∧ (∀ z ∈ L, free z.base) ∧ T'.heap = t.heap ∧ T'.vm = t.vm ∧ XC E st₀ t ∧ t.heap[q]? = some ce ∧ ce.vm = .none ∧ s.vm.findClass E = some ce.cls ∧
      Steps p.tables e below (T.setTop g) ((T'.setTop { g with stack := rest }).pushFrame (.throwing q)))
def vx_X {S : Type} (px : S → Prop) (B : String → S → State → Prop) (A : Nat → Prop) : String → State → State → Prop := fun E st t => ∃ u : S, px u ∧ B E u t ∧ va_F A st t
section Runs
variable {p : Program} {l : Launch} {e : Env} {R : Room} {s : State} {m : MethodId} {args : Array Value} {below : List Frame} {meth : Method} {c : Code} {H : Heap} {locs : List Loc} {cells slots : Nat}
variable {y : MethodName} {bytes cc : ByteArray} {maxL nL mc ms n index : Nat} {ret : Option FieldType} {ws : List Cond} {rm : Room} {Pc : Array Value → State → Prop} {Qc : Array Value → State → Outcome → State → Prop} {XC : String → State → State → Prop} {free : Addr → Prop} {Ts : List Cond} {own C : String} {b : Addr} {As rest : List Value} {g : JFrame}
theorem vx_callBack (cb : CallB R s args own index y bytes maxL ret ws rm mc ms n) (hM : vx_Met l y ws rm Pc Qc XC mc ms free) (hbl : FrameBlind Pc) : vx_Back l R p e below s args y 3 8 (PreOf R mc ms Pc) (PostOf Qc mc ms free) (vx_Post XC mc ms free) := by
  obtain ⟨hrc, hrs, hfr, hlo, hws, hcw, -, hini, -⟩ := cb
  exact vx_back (bytes := bytes) (maxL := maxL) (ret := ret) hM hbl hrc hrs hfr hlo hws hcw (fun a' U hW => word_at hW (Or.inl (by first | rfl | simp [Cond.onTables, Cond.keeps, Cond.steady])) hini)
theorem vx_runV (S : CallFix p m c cc nL s args Ts own) (hM : vx_Met l y ws rm Pc Qc XC mc ms free) (cw : CallW R s args own C index y bytes maxL ret ws rm mc ms n) (hp : PreV s H C b Pc As)
    (hg : g.method = m) (hn : As.length = n) (hsize : g.locals.size = nL) (hstack : g.stack = As.reverse ++ .ref b :: rest) (hW : 2 * g.monitorRoom + (rest.map fun v => v.category).sum ≤ 8) (hdg : decode cc g.pc = .ok (.invokevirtual index, 3)) (hf : cells + mc ≤ R.cells ∧ slots + ms ≤ R.slots) :
    vx_Run p l e R s m args below meth c H locs cells slots mc ms g rest (Qc (Value.ref b :: As).toArray) XC free := by
  have hK : vx_Back l R p e below s args y 3 8 (PreOf R mc ms Pc) (PostOf Qc mc ms free) (vx_Post XC mc ms free) := vx_callBack cw.1 hM hp.1
  obtain ⟨⟨-, -, -, -, -, -, hcode, -, hy, hlen, hl⟩, hin, hse⟩ := cw
  obtain ⟨hx, hb, hml, ho, -⟩ := S
  obtain ⟨-, ⟨cellB, hcB, hoB, hclB⟩, hPc⟩ := hp
  intro T hT X
  rcases vx_callV X hx (C := C) (bytes := bytes) (maxL := maxL) (ret := ret) ho hl hin hse hcode hy hK (by rw [hT]; exact hcB) hoB hclB hg (hsize.trans hml.symm) (argsL := As) (rest := rest) (fun sig h => hn.trans (hlen sig h)) hstack hW (by rw [hb]; exact hdg)
    (fun vm₁ hW₁ => ⟨hf.1, hf.2, hPc (T.setVm vm₁) hT hW₁⟩) with ⟨v, vm₁, ⟨U', l2, c2, s2⟩, hW₁, X', ⟨g', mk, t, L, e1, e2, hq, h1, hL, h2, h3⟩, st⟩ | ⟨q, vm₁, ⟨U', l2, c2, s2⟩, hW₁, X', ⟨g', mk, t, L, E, ce, e1, e2, hq, hce, hcv, hcl, h1, hL, h2, h3⟩, st⟩
  · dsimp only [Pt.U, Pt.locs, Pt.cells, Pt.slots] at X' e1 e2 h1 h2 h3 st
    subst h1; subst h2; subst h3
    exact Or.inl ⟨v, (T.setVm vm₁).calling g' mk (Value.ref b :: As).toArray, t, U', L, hT, X', hL, e1, e2, hq, st⟩
  · dsimp only [Pt.U, Pt.locs, Pt.cells, Pt.slots] at X' e1 e2 h1 h2 h3 st hcl
    subst h1; subst h2; subst h3
    exact Or.inr ⟨q, (T.setVm vm₁).calling g' mk (Value.ref b :: As).toArray, t, U', L, E, ce, hT, X', hL, e1, e2, hq, hce, hcv, vx_cls hW₁ hcl, st⟩
theorem vx_runS (S : CallFix p m c cc nL s args Ts own) (hM : vx_Met l y ws rm Pc Qc XC mc ms free) (cw : CallB R s args own index y bytes maxL ret ws rm mc ms n ∧ (Cond.static y).before args s = true) (hp : PreS s H Pc As)
    (hg : g.method = m) (hn : As.length = n) (hsize : g.locals.size = nL) (hstack : g.stack = As.reverse ++ rest) (hW : 2 * g.monitorRoom + (rest.map fun v => v.category).sum ≤ 8) (hdg : decode cc g.pc = .ok (.invokestatic index, 3)) (hf : cells + mc ≤ R.cells ∧ slots + ms ≤ R.slots) :
    vx_Run p l e R s m args below meth c H locs cells slots mc ms g rest (Qc As.toArray) XC free := by
  have hK : vx_Back l R p e below s args y 3 8 (PreOf R mc ms Pc) (PostOf Qc mc ms free) (vx_Post XC mc ms free) := vx_callBack cw.1 hM hp.1
  obtain ⟨⟨-, -, -, -, -, -, hcode, hini, hy, hlen, hl⟩, hstt⟩ := cw
  obtain ⟨hx, hb, hml, ho, -⟩ := S
  intro T hT X
  rcases vx_callS X hx (bytes := bytes) (maxL := maxL) (ret := ret) ho hl hstt hini hcode hy hK hg (hsize.trans hml.symm) (argsL := As) (rest := rest) (fun sig h => hn.trans (hlen sig h)) hstack hW (by rw [hb]; exact hdg)
    (fun vm₁ hW₁ => ⟨hf.1, hf.2, hp.2 (T.setVm vm₁) hT hW₁⟩) with ⟨v, vm₁, ⟨U', l2, c2, s2⟩, hW₁, X', ⟨g', mk, t, L, e1, e2, hq, h1, hL, h2, h3⟩, st⟩ | ⟨q, vm₁, ⟨U', l2, c2, s2⟩, hW₁, X', ⟨g', mk, t, L, E, ce, e1, e2, hq, hce, hcv, hcl, h1, hL, h2, h3⟩, st⟩
  · dsimp only [Pt.U, Pt.locs, Pt.cells, Pt.slots] at X' e1 e2 h1 h2 h3 st
    subst h1; subst h2; subst h3
    exact Or.inl ⟨v, (T.setVm vm₁).calling g' mk As.toArray, t, U', L, hT, X', hL, e1, e2, hq, st⟩
  · dsimp only [Pt.U, Pt.locs, Pt.cells, Pt.slots] at X' e1 e2 h1 h2 h3 st hcl
    subst h1; subst h2; subst h3
    exact Or.inr ⟨q, (T.setVm vm₁).calling g' mk As.toArray, t, U', L, E, ce, hT, X', hL, e1, e2, hq, hce, hcv, vx_cls hW₁ hcl, st⟩
end Runs
section Rows
variable {p : Program} {l : Launch} {e : Env} {R : Room} {s : State} {m : MethodId} {args : Array Value} {below : List Frame} {meth : Method} {c : Code} {H : Heap} {locs : List Loc} {cells slots : Nat} {Q : State → Prop}
variable {mc ms : Nat} {free : Addr → Prop} {A0 A1 : Nat → Prop} {H0 : Heap} {a : Array Value} {pc : Nat} {ls : Array Slot} {st0 rest : List Value}
theorem vx_keep {st₀ t T' : State} {L : List Loc} (h0 : st₀.heap = H) (e1 : T'.heap = t.heap) (hS : va_S A0 H0 H locs) (hA : ∀ q, q < H.size → A1 q → A0 q) (hf : ∀ q, free q → A0 q) (hL : ∀ q ∈ L, free q.base) (hF : va_F A1 st₀ t) :
    H.size ≤ T'.heap.size ∧ (∀ q : Nat, q < H.size → ¬ A1 q → T'.heap[q]? = H[q]?) ∧ va_S A0 H0 T'.heap (locs ++ L) := by
  obtain ⟨hz, hk⟩ := hF
  rw [h0] at hz hk
  exact ⟨by rw [e1]; exact hz, fun q h1 h2 => by rw [e1]; exact hk q h1 h2,
    ⟨Nat.le_trans hS.1 (by rw [e1]; exact hz), fun q h1 h2 => by rw [e1, hk q (Nat.lt_of_lt_of_le h1 hS.1) (fun z => h2 (hA q (Nat.lt_of_lt_of_le h1 hS.1) z))]; exact hS.2.1 q h1 h2, fun q hq => by
      rcases List.mem_append.mp hq with h | h
      · exact hS.2.2 q h
      · exact hf _ (hL q h)⟩⟩
theorem vx_calli {S SX : Type} {post : Int32 → S → Prop} {px : SX → Prop} {B : S → State → Prop} {BX : String → SX → State → Prop} {AX : Nat → Prop} (hr : vx_Run p l e R s m args below meth c H locs cells slots mc ms (F0 m pc ls st0) rest (va_Qi post B A1 a) (vx_X px BX AX) free) (hS : va_S A0 H0 H locs) (hA : ∀ q, q < H.size → A1 q → A0 q) (hf : ∀ q, free q → A0 q) (hAX : ∀ q, q < H.size → AX q → A0 q)
    (kx : ∀ (E : String) (ce : Cell) (q9 : Addr) (u : SX) (t : State) (H1 : Heap) (locs1 : List Loc), t.heap = H1 → s.vm.Alike t.vm → px u → BX E u t → H.size ≤ H1.size → (∀ q : Nat, q < H.size → ¬ AX q → H1[q]? = H[q]?) → va_S A0 H0 H1 locs1 → H1[q9]? = some ce → ce.vm = .none → s.vm.findClass E = some ce.cls → vx_W p l e R s m args below meth c H1 locs1 (cells + mc) (slots + ms) Q (F0 m pc ls rest) q9)
    (kk : ∀ (r : Int32) (u : S) (t : State) (H1 : Heap) (locs1 : List Loc), t.heap = H1 → s.vm.Alike t.vm → post r u → B u t → H.size ≤ H1.size → (∀ q : Nat, q < H.size → ¬ A1 q → H1[q]? = H[q]?) → va_S A0 H0 H1 locs1 → W p l e R s m args below meth c H1 locs1 (cells + mc) (slots + ms) Q (F0 m (pc + 3) ls (.int r :: rest))) : W p l e R s m args below meth c H locs cells slots Q (F0 m pc ls st0) := by
  intro T hT X
  rcases hr T hT X with ⟨v, st₀, t, T', L, h0, X', hL, e1, e2, ⟨⟨r, u, hv, hp, hb⟩, hF⟩, st⟩ | ⟨q, st₀, t, T', L, E, ce, h0, X', hL, e1, e2, ⟨u, hp, hb, hF⟩, hce, hcv, hcl, st⟩
  · cases hv
    obtain ⟨k1, k2, k3⟩ := vx_keep h0 e1 hS hA hf hL hF
    obtain ⟨t2, a1, b1⟩ := kk r u t T'.heap (locs ++ L) e1.symm (by rw [← e2]; exact X'.warmed.alike) hp hb k1 k2 k3 T' rfl X'
    exact ⟨t2, st t2 a1, b1⟩
  · obtain ⟨k1, k2, k3⟩ := vx_keep h0 e1 hS hAX hf hL hF
    obtain ⟨t2, a1, b1⟩ := kx E ce q u t T'.heap (locs ++ L) e1.symm (by rw [← e2]; exact X'.warmed.alike) hp hb k1 k2 k3 (by rw [e1]; exact hce) hcv hcl T' rfl X'
    exact ⟨t2, st.trans a1, b1⟩
theorem vx_calll {S SX : Type} {post : Int64 → S → Prop} {px : SX → Prop} {B : S → State → Prop} {BX : String → SX → State → Prop} {AX : Nat → Prop} (hr : vx_Run p l e R s m args below meth c H locs cells slots mc ms (F0 m pc ls st0) rest (va_Ql post B A1 a) (vx_X px BX AX) free) (hS : va_S A0 H0 H locs) (hA : ∀ q, q < H.size → A1 q → A0 q) (hf : ∀ q, free q → A0 q) (hAX : ∀ q, q < H.size → AX q → A0 q)
    (kx : ∀ (E : String) (ce : Cell) (q9 : Addr) (u : SX) (t : State) (H1 : Heap) (locs1 : List Loc), t.heap = H1 → s.vm.Alike t.vm → px u → BX E u t → H.size ≤ H1.size → (∀ q : Nat, q < H.size → ¬ AX q → H1[q]? = H[q]?) → va_S A0 H0 H1 locs1 → H1[q9]? = some ce → ce.vm = .none → s.vm.findClass E = some ce.cls → vx_W p l e R s m args below meth c H1 locs1 (cells + mc) (slots + ms) Q (F0 m pc ls rest) q9)
    (kk : ∀ (r : Int64) (u : S) (t : State) (H1 : Heap) (locs1 : List Loc), t.heap = H1 → s.vm.Alike t.vm → post r u → B u t → H.size ≤ H1.size → (∀ q : Nat, q < H.size → ¬ A1 q → H1[q]? = H[q]?) → va_S A0 H0 H1 locs1 → W p l e R s m args below meth c H1 locs1 (cells + mc) (slots + ms) Q (F0 m (pc + 3) ls (.long r :: rest))) : W p l e R s m args below meth c H locs cells slots Q (F0 m pc ls st0) := by
  intro T hT X
  rcases hr T hT X with ⟨v, st₀, t, T', L, h0, X', hL, e1, e2, ⟨⟨r, u, hv, hp, hb⟩, hF⟩, st⟩ | ⟨q, st₀, t, T', L, E, ce, h0, X', hL, e1, e2, ⟨u, hp, hb, hF⟩, hce, hcv, hcl, st⟩
  · cases hv
    obtain ⟨k1, k2, k3⟩ := vx_keep h0 e1 hS hA hf hL hF
    obtain ⟨t2, a1, b1⟩ := kk r u t T'.heap (locs ++ L) e1.symm (by rw [← e2]; exact X'.warmed.alike) hp hb k1 k2 k3 T' rfl X'
    exact ⟨t2, st t2 a1, b1⟩
  · obtain ⟨k1, k2, k3⟩ := vx_keep h0 e1 hS hAX hf hL hF
    obtain ⟨t2, a1, b1⟩ := kx E ce q u t T'.heap (locs ++ L) e1.symm (by rw [← e2]; exact X'.warmed.alike) hp hb k1 k2 k3 (by rw [e1]; exact hce) hcv hcl T' rfl X'
    exact ⟨t2, st.trans a1, b1⟩
theorem vx_callf {S SX : Type} {post : UInt32 → S → Prop} {px : SX → Prop} {B : S → State → Prop} {BX : String → SX → State → Prop} {AX : Nat → Prop} (hr : vx_Run p l e R s m args below meth c H locs cells slots mc ms (F0 m pc ls st0) rest (va_Qf post B A1 a) (vx_X px BX AX) free) (hS : va_S A0 H0 H locs) (hA : ∀ q, q < H.size → A1 q → A0 q) (hf : ∀ q, free q → A0 q) (hAX : ∀ q, q < H.size → AX q → A0 q)
    (kx : ∀ (E : String) (ce : Cell) (q9 : Addr) (u : SX) (t : State) (H1 : Heap) (locs1 : List Loc), t.heap = H1 → s.vm.Alike t.vm → px u → BX E u t → H.size ≤ H1.size → (∀ q : Nat, q < H.size → ¬ AX q → H1[q]? = H[q]?) → va_S A0 H0 H1 locs1 → H1[q9]? = some ce → ce.vm = .none → s.vm.findClass E = some ce.cls → vx_W p l e R s m args below meth c H1 locs1 (cells + mc) (slots + ms) Q (F0 m pc ls rest) q9)
    (kk : ∀ (r : UInt32) (u : S) (t : State) (H1 : Heap) (locs1 : List Loc), t.heap = H1 → s.vm.Alike t.vm → post r u → B u t → H.size ≤ H1.size → (∀ q : Nat, q < H.size → ¬ A1 q → H1[q]? = H[q]?) → va_S A0 H0 H1 locs1 → W p l e R s m args below meth c H1 locs1 (cells + mc) (slots + ms) Q (F0 m (pc + 3) ls (.float r :: rest))) : W p l e R s m args below meth c H locs cells slots Q (F0 m pc ls st0) := by
  intro T hT X
  rcases hr T hT X with ⟨v, st₀, t, T', L, h0, X', hL, e1, e2, ⟨⟨r, u, hv, hp, hb⟩, hF⟩, st⟩ | ⟨q, st₀, t, T', L, E, ce, h0, X', hL, e1, e2, ⟨u, hp, hb, hF⟩, hce, hcv, hcl, st⟩
  · cases hv
    obtain ⟨k1, k2, k3⟩ := vx_keep h0 e1 hS hA hf hL hF
    obtain ⟨t2, a1, b1⟩ := kk r u t T'.heap (locs ++ L) e1.symm (by rw [← e2]; exact X'.warmed.alike) hp hb k1 k2 k3 T' rfl X'
    exact ⟨t2, st t2 a1, b1⟩
  · obtain ⟨k1, k2, k3⟩ := vx_keep h0 e1 hS hAX hf hL hF
    obtain ⟨t2, a1, b1⟩ := kx E ce q u t T'.heap (locs ++ L) e1.symm (by rw [← e2]; exact X'.warmed.alike) hp hb k1 k2 k3 (by rw [e1]; exact hce) hcv hcl T' rfl X'
    exact ⟨t2, st.trans a1, b1⟩
theorem vx_calld {S SX : Type} {post : UInt64 → S → Prop} {px : SX → Prop} {B : S → State → Prop} {BX : String → SX → State → Prop} {AX : Nat → Prop} (hr : vx_Run p l e R s m args below meth c H locs cells slots mc ms (F0 m pc ls st0) rest (va_Qd post B A1 a) (vx_X px BX AX) free) (hS : va_S A0 H0 H locs) (hA : ∀ q, q < H.size → A1 q → A0 q) (hf : ∀ q, free q → A0 q) (hAX : ∀ q, q < H.size → AX q → A0 q)
    (kx : ∀ (E : String) (ce : Cell) (q9 : Addr) (u : SX) (t : State) (H1 : Heap) (locs1 : List Loc), t.heap = H1 → s.vm.Alike t.vm → px u → BX E u t → H.size ≤ H1.size → (∀ q : Nat, q < H.size → ¬ AX q → H1[q]? = H[q]?) → va_S A0 H0 H1 locs1 → H1[q9]? = some ce → ce.vm = .none → s.vm.findClass E = some ce.cls → vx_W p l e R s m args below meth c H1 locs1 (cells + mc) (slots + ms) Q (F0 m pc ls rest) q9)
    (kk : ∀ (r : UInt64) (u : S) (t : State) (H1 : Heap) (locs1 : List Loc), t.heap = H1 → s.vm.Alike t.vm → post r u → B u t → H.size ≤ H1.size → (∀ q : Nat, q < H.size → ¬ A1 q → H1[q]? = H[q]?) → va_S A0 H0 H1 locs1 → W p l e R s m args below meth c H1 locs1 (cells + mc) (slots + ms) Q (F0 m (pc + 3) ls (.double r :: rest))) : W p l e R s m args below meth c H locs cells slots Q (F0 m pc ls st0) := by
  intro T hT X
  rcases hr T hT X with ⟨v, st₀, t, T', L, h0, X', hL, e1, e2, ⟨⟨r, u, hv, hp, hb⟩, hF⟩, st⟩ | ⟨q, st₀, t, T', L, E, ce, h0, X', hL, e1, e2, ⟨u, hp, hb, hF⟩, hce, hcv, hcl, st⟩
  · cases hv
    obtain ⟨k1, k2, k3⟩ := vx_keep h0 e1 hS hA hf hL hF
    obtain ⟨t2, a1, b1⟩ := kk r u t T'.heap (locs ++ L) e1.symm (by rw [← e2]; exact X'.warmed.alike) hp hb k1 k2 k3 T' rfl X'
    exact ⟨t2, st t2 a1, b1⟩
  · obtain ⟨k1, k2, k3⟩ := vx_keep h0 e1 hS hAX hf hL hF
    obtain ⟨t2, a1, b1⟩ := kx E ce q u t T'.heap (locs ++ L) e1.symm (by rw [← e2]; exact X'.warmed.alike) hp hb k1 k2 k3 (by rw [e1]; exact hce) hcv hcl T' rfl X'
    exact ⟨t2, st.trans a1, b1⟩
theorem vx_callv {S SX : Type} {post : S → Prop} {px : SX → Prop} {B : S → State → Prop} {BX : String → SX → State → Prop} {AX : Nat → Prop} (hr : vx_Run p l e R s m args below meth c H locs cells slots mc ms (F0 m pc ls st0) rest (va_Qv post B A1 a) (vx_X px BX AX) free) (hS : va_S A0 H0 H locs) (hA : ∀ q, q < H.size → A1 q → A0 q) (hf : ∀ q, free q → A0 q) (hAX : ∀ q, q < H.size → AX q → A0 q)
    (kx : ∀ (E : String) (ce : Cell) (q9 : Addr) (u : SX) (t : State) (H1 : Heap) (locs1 : List Loc), t.heap = H1 → s.vm.Alike t.vm → px u → BX E u t → H.size ≤ H1.size → (∀ q : Nat, q < H.size → ¬ AX q → H1[q]? = H[q]?) → va_S A0 H0 H1 locs1 → H1[q9]? = some ce → ce.vm = .none → s.vm.findClass E = some ce.cls → vx_W p l e R s m args below meth c H1 locs1 (cells + mc) (slots + ms) Q (F0 m pc ls rest) q9)
    (kk : ∀ (u : S) (t : State) (H1 : Heap) (locs1 : List Loc), t.heap = H1 → s.vm.Alike t.vm → post u → B u t → H.size ≤ H1.size → (∀ q : Nat, q < H.size → ¬ A1 q → H1[q]? = H[q]?) → va_S A0 H0 H1 locs1 → W p l e R s m args below meth c H1 locs1 (cells + mc) (slots + ms) Q (F0 m (pc + 3) ls (rest))) : W p l e R s m args below meth c H locs cells slots Q (F0 m pc ls st0) := by
  intro T hT X
  rcases hr T hT X with ⟨v, st₀, t, T', L, h0, X', hL, e1, e2, ⟨⟨u, hv, hp, hb⟩, hF⟩, st⟩ | ⟨q, st₀, t, T', L, E, ce, h0, X', hL, e1, e2, ⟨u, hp, hb, hF⟩, hce, hcv, hcl, st⟩
  · cases hv
    obtain ⟨k1, k2, k3⟩ := vx_keep h0 e1 hS hA hf hL hF
    obtain ⟨t2, a1, b1⟩ := kk u t T'.heap (locs ++ L) e1.symm (by rw [← e2]; exact X'.warmed.alike) hp hb k1 k2 k3 T' rfl X'
    exact ⟨t2, st t2 a1, b1⟩
  · obtain ⟨k1, k2, k3⟩ := vx_keep h0 e1 hS hAX hf hL hF
    obtain ⟨t2, a1, b1⟩ := kx E ce q u t T'.heap (locs ++ L) e1.symm (by rw [← e2]; exact X'.warmed.alike) hp hb k1 k2 k3 (by rw [e1]; exact hce) hcv hcl T' rfl X'
    exact ⟨t2, st.trans a1, b1⟩
/-- caught by the row x of this method's table; the rows ahead don't take it -/
theorem vx_catch {own name : String} {E : String} {ce : Cell} {q : Addr} (hown : s.vm.findClass own = some m.cls) (pre : List ExceptionTableEntry) (x : ExceptionTableEntry) (suf : List ExceptionTableEntry) (hsplit : c.exceptionTable.toList = pre ++ x :: suf)
    (hpass : ∀ z ∈ pre, covers z pc = false ∨ (z.catchType ≠ 0 ∧ ∃ nm : String, (Cond.classLink own z.catchType nm).before args s = true ∧ va_Nc E nm s)) (hx : covers x pc = true) (h0 : x.catchType ≠ 0)
    (hlink : (Cond.classLink own x.catchType name).before args s = true) (hcast : (Cond.castable E name).before args s = true) (hcell : H[q]? = some ce) (hv : ce.vm = .none) (hcl : s.vm.findClass E = some ce.cls)
    (kk : W p l e R s m args below meth c H locs cells slots Q (F0 m x.handlerPc ls [.ref q])) : vx_W p l e R s m args below meth c H locs cells slots Q (F0 m pc ls rest) q := by
  intro T hT X
  have hpl : e.platform.magicAccessors = ({} : Platform).magicAccessors := by rw [X.admits.platform]
  obtain ⟨c3, c4, hc3, hc4, hasg⟩ := Cond.castable_spec hcast
  cases Option.some.inj (hc3.symm.trans hcl)
  obtain ⟨c5, hc5, hcl5⟩ := Cond.classLink_spec hown hlink e.platform hpl
  cases Option.some.inj (hc4.symm.trans hc5)
  obtain ⟨vm', X', st⟩ := X.thenCaughtThrough q (g := F0 m pc ls rest) rfl (Steps.refl _) (by rw [hT]; exact hcell) (by rw [hv]; rfl) (by obtain ⟨k9, h9, -⟩ := Vm.findClass_spec hcl; exact ⟨k9, h9⟩) pre x suf hsplit
    (fun z hz => by
      rcases hpass z hz with h | ⟨hz0, nm, hl1, hn1⟩
      · exact Or.inl h
      · obtain ⟨c6, hc6, hcl6⟩ := Cond.classLink_spec hown hl1 e.platform hpl
        obtain ⟨a8, b8, h1, h2, h3⟩ := hn1
        cases Option.some.inj (h1.symm.trans hcl)
        cases Option.some.inj (h2.symm.trans hc6)
        exact Or.inr ⟨hz0, _, hcl6, h3⟩) hx (Or.inr ⟨h0, c4, hcl5, hasg⟩)
  obtain ⟨t, a1, b1⟩ := kk (T.setVm vm') hT X'
  exact ⟨t, st.trans a1, b1⟩
end Rows
section Ends
variable {p : Program} {l : Launch} {e : Env} {R : Room} {s : State} {m : MethodId} {args : Array Value} {below : List Frame} {meth : Method} {c : Code} {H : Heap} {locs : List Loc} {cells slots : Nat} {Q : State → Prop}
variable {mc ms : Nat} {free : Addr → Prop} {A0 A1 : Nat → Prop} {H0 : Heap} {a : Array Value} {ls : Array Slot} {st0 rest : List Value}
variable {Qc : Array Value → State → Outcome → State → Prop} {XC : String → State → State → Prop}
/-- what a body that may throw owes at its end -/
def vx_MQ (below : List Frame) (Qc : Array Value → State → Outcome → State → Prop) (XC : String → State → State → Prop) (a : Array Value) (s : State) (mc ms : Nat) (free : Addr → Prop) : State → Prop := fun t =>
  ∃ o, t.status = .running ∧ Ended t below o ∧ vx_Q Qc XC mc ms free a s o t
theorem vx_ret {g : JFrame} {mc ms : Nat} (k : W p l e R s m args below meth c H locs cells slots (MQ below Qc args s mc ms free) g) : W p l e R s m args below meth c H locs cells slots (vx_MQ below Qc XC args s mc ms free) g := by
  intro T hT X
  obtain ⟨t, a1, o, b1, b2, b3, b4⟩ := k T hT X
  exact ⟨t, a1, o, b1, b2, Or.inl ⟨b3, b4⟩⟩
/-- not caught here: it goes on to the caller -/
theorem vx_widen {g : JFrame} {q : Addr} {k n : Nat} (h1 : cells ≤ k) (h2 : slots ≤ n) (kk : vx_W p l e R s m args below meth c H locs k n Q g q) : vx_W p l e R s m args below meth c H locs cells slots Q g q := fun T hT X => kk T hT (stand_widen X h1 h2)
theorem vx_out {pc : Nat} {E : String} {ce : Cell} {q : Addr} {mc ms : Nat} (hout : ∀ x ∈ c.exceptionTable.toList, covers x pc = false) (hlocks : meth.locks = false) (hcell : H[q]? = some ce) (hv : ce.vm = .none) (hcl : s.vm.findClass E = some ce.cls)
    (hx : ∀ t : State, t.heap = H → s.vm.Alike t.vm → XC E s t) (hf : ∀ z ∈ locs, free z.base) (hc : cells ≤ mc) (hs : slots ≤ ms) :
    vx_W p l e R s m args below meth c H locs cells slots (vx_MQ below Qc XC args s mc ms free) (F0 m pc ls rest) q := by
  intro T hT X
  obtain ⟨st1, hrun, hend, hW, hsm⟩ := X.leaveThrown q (g := F0 m pc ls rest) rfl rfl rfl hout hlocks
  have hcell9 : (T.setFrames (.throwing q :: below)).heap[q]? = some ce := by
    show T.heap[q]? = some ce
    rw [hT]; exact hcell
  exact ⟨_, st1, .threw q, hrun, hend, Or.inr ⟨q, rfl, E, ce, locs, hx _ hT hW.alike, hcell9, hv, hcl, hW, hsm.mono hc hs, hf⟩⟩
theorem vx_frame {U : State} {k n : Nat} (h : s.sameButNew ({ U with vm := s.vm } : State) locs k n) : s.heap.size ≤ U.heap.size ∧ ∀ q : Nat, q < s.heap.size → (∀ z ∈ locs, z.base ≠ q) → U.heap[q]? = s.heap[q]? := by
  obtain ⟨-, h2, -, -, -, h6⟩ := h
  refine ⟨h2, fun q hq hz => ?_⟩
  obtain ⟨c9, e1, e2, e3, e4⟩ := h6 q _ (Array.getElem?_eq_getElem hq)
  have hs : c9.slots = (s.heap[q]).slots := Array.ext_getElem? fun i => e4 i fun hm => hz _ hm rfl
  have h9 : c9 = s.heap[q] := by
    rw [hs] at e2
    exact e2
  have e5 : U.heap[q]? = some c9 := e1
  rw [e5, h9, Array.getElem?_eq_getElem hq]
/-- the words of a throw but the four that speak of the heap -/
def vx_no (w : Cond) : Bool := decide (w ≠ .isRef (.static Bundle.tN "UNASSIGNED_STACK" Bundle.steD)) && decide (w ≠ .isRef (.static Bundle.tN "SUPPRESSED_SENTINEL" Bundle.listD)) && decide (w ≠ .laysStatic Bundle.tN "UNASSIGNED_STACK" Bundle.steD) && decide (w ≠ .laysStatic Bundle.tN "SUPPRESSED_SENTINEL" Bundle.listD)
def vx_at0 (own : String) (ic : Nat) (X : String) (names : List String) : List Cond := (Bundle.ownAtoms0 own ic X names).filter vx_no
def vx_atS (own : String) (ic : Nat) (X : String) (names : List String) : List Cond := (Bundle.ownAtoms own ic X names).filter vx_no
/-- a word that the tables alone decide, or a good one -/
def vx_ot (w : Cond) : Bool := w.onTables || goodWord w
theorem vx_ot_at {args a' : Array Value} {s U : State} {w : Cond} (hW : s.WarmedH U.vm) (hvm : s.vm = U.vm) (hg : vx_ot w = true) (h : w.before args s = true) : w.before a' U = true := by
  simp only [vx_ot, Bool.or_eq_true] at hg
  rcases hg with hg | hg
  · exact va_tabs hg hvm h
  · exact word_at hW (good_of_word hg) h
/-- a list's words: the good ones out of the method's own list, the others by premises of their own -/
theorem vx_hat {args : Array Value} {s : State} {L B : List Cond} (h1 : ∀ w ∈ L.filter goodWord, w.before args s = true) (h2 : ∀ w ∈ L.filter (fun w => !goodWord w), w ∈ B) (h3 : ∀ w ∈ B, w.before args s = true) : ∀ w ∈ L, w.before args s = true := by
  intro w hw
  by_cases g : goodWord w = true
  · exact h1 w (List.mem_filter.mpr ⟨hw, g⟩)
  · refine h3 w (h2 w (List.mem_filter.mpr ⟨hw, ?_⟩))
    show (!goodWord w) = true
    cases hgw : goodWord w
    · rfl
    · exact absurd hgw g
theorem vx_c {args : Array Value} {s : State} {w : Cond} {B : List Cond} (h : w.before args s = true) (t : ∀ w ∈ B, w.before args s = true) : ∀ w' ∈ w :: B, w'.before args s = true := fun w' h' => (List.mem_cons.mp h').elim (fun e => by rw [e]; exact h) (t w')
theorem vx_n {args : Array Value} {s : State} : ∀ w ∈ ([] : List Cond), w.before args s = true := fun _ h => nomatch h
theorem vx_own {args : Array Value} {s : State} {L : List Cond} (h1 : ∀ w ∈ L.filter vx_no, w.before args s = true)
    (hU : (Cond.isRef (.static Bundle.tN "UNASSIGNED_STACK" Bundle.steD)).before args s = true) (hN : (Cond.isRef (.static Bundle.tN "SUPPRESSED_SENTINEL" Bundle.listD)).before args s = true)
    (lU : (Cond.laysStatic Bundle.tN "UNASSIGNED_STACK" Bundle.steD).before args s = true) (lN : (Cond.laysStatic Bundle.tN "SUPPRESSED_SENTINEL" Bundle.listD).before args s = true) : ∀ w ∈ L, w.before args s = true := by
  intro w hw
  by_cases e1 : w = .isRef (.static Bundle.tN "UNASSIGNED_STACK" Bundle.steD)
  · rw [e1]; exact hU
  · by_cases e2 : w = .isRef (.static Bundle.tN "SUPPRESSED_SENTINEL" Bundle.listD)
    · rw [e2]; exact hN
    · by_cases e3 : w = .laysStatic Bundle.tN "UNASSIGNED_STACK" Bundle.steD
      · rw [e3]; exact lU
      · by_cases e4 : w = .laysStatic Bundle.tN "SUPPRESSED_SENTINEL" Bundle.listD
        · rw [e4]; exact lN
        · exact h1 w (List.mem_filter.mpr ⟨hw, by unfold vx_no; rw [decide_eq_true e1, decide_eq_true e2, decide_eq_true e3, decide_eq_true e4]; rfl⟩)
/-- where a static field lies, its class's statics cell in H -/
def vx_L (C n d : String) (A : Nat → Prop) (U : State) (H : Heap) : Prop := ∃ (c : ClassId) (k : Class) (i : Nat) (f : Field) (a : Nat) (cell : Cell), U.vm.findClass C = some c ∧ U.fieldFound? C n d = some (c, k, i, f) ∧ f.isStatic = true ∧ k.statics = some a ∧ H[a]? = some cell ∧ cell.vm.isStatics = true ∧ cell.cls = c ∧ f.slot < cell.slots.size ∧ k.staticTypes[f.slot]? = some f.type ∧ ¬ A a
theorem vx_L.moved {C n d : String} {A : Nat → Prop} {u U : State} {H : Heap} (hvm : u.vm.Alike U.vm) (h : vx_L C n d A u H) : vx_L C n d A U H := by
  obtain ⟨c, k, i, f, a, cell, h1, h2, h3, h4, h5, h6, h7, h8, h9, h10⟩ := h
  obtain ⟨k', hi', he⟩ := State.fieldFound?_setVm hvm h2
  exact ⟨c, k', i, f, a, cell, by rw [hvm.findClass]; exact h1, hi', h3, by rw [he]; exact h4, h5, h6, h7, h8, by rw [he]; exact h9, h10⟩
theorem vx_L.kept {C n d : String} {A : Nat → Prop} {U : State} {H H1 : Heap} (h : vx_L C n d A U H) (hq : ∀ a : Nat, a < H.size → ¬ A a → H1[a]? = H[a]?) : vx_L C n d A U H1 := by
  obtain ⟨c, k, i, f, a, cell, h1, h2, h3, h4, h5, h6, h7, h8, h9, h10⟩ := h
  exact ⟨c, k, i, f, a, cell, h1, h2, h3, h4, by rw [hq a (Array.getElem?_eq_some_iff.mp h5).1 h10]; exact h5, h6, h7, h8, h9, h10⟩
theorem vx_L.narrow {C n d : String} {A B : Nat → Prop} {U : State} {H : Heap} (h : vx_L C n d A U H) (hAB : ∀ q, B q → A q) : vx_L C n d B U H := by
  obtain ⟨c, k, i, f, a, cell, h1, h2, h3, h4, h5, h6, h7, h8, h9, h10⟩ := h
  exact ⟨c, k, i, f, a, cell, h1, h2, h3, h4, h5, h6, h7, h8, h9, fun z => h10 (hAB _ z)⟩
theorem vx_L.word {C n d : String} {A : Nat → Prop} {s : State} {args : Array Value} (h : vx_L C n d A s s.heap) : (Cond.laysStatic C n d).before args s = true := by
  obtain ⟨c, k, i, f, a, cell, h1, h2, h3, h4, h5, h6, h7, h8, h9, -⟩ := h
  show (Cond.laysStatic C n d).holds args s none s [] = true
  exact Cond.laysStatic_of h1 h2 h3 h4 h5 h6 h7 h8 h9
/-- .. and what it holds: null or some reference -/
def vx_Zq (C n d : String) (A : Nat → Prop) (U : State) (H : Heap) : Prop := va_Zq C n d A U H ∧ vx_L C n d A U H
theorem vx_Zq.moved {C n d : String} {A : Nat → Prop} {u U : State} {H : Heap} (hvm : u.vm.Alike U.vm) (h : vx_Zq C n d A u H) : vx_Zq C n d A U H := ⟨va_Zq.moved hvm h.1, vx_L.moved hvm h.2⟩
theorem vx_Zq.kept {C n d : String} {A : Nat → Prop} {U : State} {H H1 : Heap} (h : vx_Zq C n d A U H) (hq : ∀ a : Nat, a < H.size → ¬ A a → H1[a]? = H[a]?) : vx_Zq C n d A U H1 := ⟨va_Zq.kept h.1 hq, vx_L.kept h.2 hq⟩
theorem vx_Zq.narrow {C n d : String} {A B : Nat → Prop} {U : State} {H : Heap} (h : vx_Zq C n d A U H) (hAB : ∀ q, B q → A q) : vx_Zq C n d B U H := ⟨va_Zq.narrow h.1 hAB, vx_L.narrow h.2 hAB⟩
theorem vx_Zqof {args : Array Value} {s : State} {C n d : String} {A : Nat → Prop} (hl : (Cond.laysStatic C n d).before args s = true) (hini : (Cond.initialized C).before args s = true) (h : (Cond.isRef (.static C n d)).before args s = true) (hA : ∀ a : Nat, a < s.heap.size → ¬ A a) : vx_Zq C n d A s s.heap := by
  refine ⟨va_Zqof hl hini h hA, ?_⟩
  obtain ⟨c, k, i, f, a, cell, h1, h2, h3, h4, h5, h6, h7, h8, h9⟩ := Cond.laysStatic_spec hl
  exact ⟨c, k, i, f, a, cell, h1, h2, h3, h4, h5, h6, h7, h8, h9, hA a (Array.getElem?_eq_some_iff.mp h5).1⟩
theorem vx_isRef {C n d : String} {v : Value} {A : Nat → Prop} {s : State} {args : Array Value} (h : va_Z C n d v A s s.heap) (hv : v.isRef = true) : (Cond.isRef (.static C n d)).before args s = true := by
  obtain ⟨cf, kf, fi, f, a, cell, h1, h2, h3, h4, h5, h6, h7, -⟩ := h
  have he : (Term.static C n d).eval args s none [] s = some v := by
    simp [Term.eval, State.fieldNamed?, h1, h2, h4, h5, h6, h7]
  simp only [Cond.before, Cond.holds, Cond.value, he]
  cases v <;> simp_all [Value.isRef]
theorem vx_isRefq {C n d : String} {A : Nat → Prop} {s : State} {args : Array Value} (h : va_Zq C n d A s s.heap) : (Cond.isRef (.static C n d)).before args s = true := by
  rcases h with h | ⟨t, h⟩
  · exact vx_isRef h rfl
  · exact vx_isRef h rfl
/-- the same frame, seen from here: as if the method were called anew in this heap -/
theorem vx_rebase {T : State} (X : Stand p l e R s m args below meth c T locs cells slots) {R' : Room} (hf : R'.frames ≤ R.frames) (hl : R'.locals ≤ R.locals) (hc : cells + R'.cells ≤ R.cells) (hs : slots + R'.slots ≤ R.slots) :
    Stand p l e R' ((T.setVm s.vm).setFrames (.invoking m args :: below)) m args below meth c T [] 0 0 := by
  have htop : (T.setVm s.vm).topJava?.isSome := X.here.top
  have hF : ((T.setVm s.vm).setFrames (.invoking m args :: below)).frames = .invoking m args :: below := State.frames_setFrames _ (State.cur_lt_of_top htop)
  obtain ⟨g₀, hg0⟩ := Option.isSome_iff_exists.mp htop
  obtain ⟨r, hr⟩ := State.topJava?_eq_some.mp hg0
  have hl9 : e.platform.stackLimits (T.setVm s.vm).me = e.platform.stackLimits s.me := X.limits
  have hb9 : (T.setVm s.vm).me.stackBytes = s.me.stackBytes := X.bytes
  refine ⟨X.admits, X.cas, X.clock, hF, ?_, X.hears, X.method, X.code, X.here, X.tail, X.warmed, ?_, ?_, ?_⟩
  · have h := X.room
    have hU : ((T.setVm s.vm).setFrames (.invoking m args :: below)).localsInUse = s.localsInUse := by
      rw [State.localsInUse_invoking hF (meth := meth) (c := c) X.method X.code, State.localsInUse_invoking X.frames X.method X.code]
    simp only [State.hasRoom, Bool.and_eq_true, decide_eq_true_eq] at h ⊢
    obtain ⟨⟨⟨⟨h1, h2, h3, h4, h5, h6⟩, h7⟩, h8⟩, h9⟩ := h
    rw [X.frames, List.length_cons] at h2 h3
    have q1 := X.heapSize
    have q2 := X.used
    simp only [hF, hU, List.length_cons, State.stackLimits_setFrames, State.stackBytes_setFrames, hl9, hb9]
    refine ⟨⟨⟨⟨by omega, by omega, by omega, by omega, by omega, h6⟩, ?_⟩, ?_⟩, X.book⟩
    · show T.heap.size + R'.cells ≤ e.platform.maxCells
      omega
    · show T.slotsUsed + R'.slots ≤ e.platform.maxSlots
      omega
  · rw [State.stackLimits_setFrames]; rfl
  · rw [State.stackBytes_setFrames]; rfl
  · refine ⟨?_, Nat.le_refl _, Nat.le_refl _, ?_, ?_, fun a c9 h9 => ⟨c9, h9, rfl, rfl, fun _ _ => rfl⟩⟩
    · obtain ⟨t, ht, -⟩ := State.frames_cons hr
      show T.setVm s.vm = { ((T.setVm s.vm).setFrames (.invoking m args :: below)).setFrames (T.setVm s.vm).frames with heap := T.heap, slotsUsed := T.slotsUsed }
      rw [State.setFrames_setFrames, State.setFrames_self ht]
      rfl
    · show T.slotsUsed = T.slotsUsed + ((T.heap.toList.drop T.heap.size).map (·.slots.size)).sum
      rw [List.drop_eq_nil_of_le (Nat.le_of_eq Array.length_toList)]
      rfl
    · show ((T.heap.toList.drop T.heap.size).map (·.slots.size)).sum ≤ 0
      rw [List.drop_eq_nil_of_le (Nat.le_of_eq Array.length_toList)]
      exact Nat.le_refl _
/-- 'throw new E()': new; dup; invokespecial; athrow -/
theorem vx_throw0 {cc : ByteArray} {pc : Nat} (hexec : p.tables.exec = Jvm.exec) (hb : c.code = cc) (hl : l.stackTraces = false) {own cls : String} {names : List String} {ik ic mc ms : Nat} {A : Nat → Prop}
    (hown : s.vm.findClass own = some m.cls) (hcls : Bundle.fit cls = true) (hnames : ∀ n ∈ names, Bundle.fit n = true)
    (hk : (Cond.classLink own ik cls).before args s = true) (hini : (Cond.initialized cls).before args s = true) (hat : ∀ w ∈ vx_at0 own ic cls names, w.before args s = true)
    (hgood : ∀ w ∈ Cond.classLink own ik cls :: Cond.initialized cls :: vx_at0 own ic cls names, vx_ot w = true)
    (hU : vx_Zq Bundle.tN "UNASSIGNED_STACK" Bundle.steD A s s.heap) (hN : vx_Zq Bundle.tN "SUPPRESSED_SENTINEL" Bundle.listD A s s.heap) (hS : va_S A s.heap H locs) (hsize : ls.size = c.maxLocals)
    (d0 : decode cc pc = .ok (.new ik, 3)) (d3 : decode cc (pc + 3) = .ok (.dup, 1)) (d4 : decode cc (pc + 4) = .ok (.invokespecial ic, 3)) (d7 : decode cc (pc + 7) = .ok (.athrow, 1))
    (hout : ∀ x ∈ c.exceptionTable.toList, covers x (pc + 7) = false)
    (hRframes : names.length + 3 < R.frames) (hRlocals : (rest.map fun v => v.category).sum + (13 * (names.length + 1) + 42) ≤ R.locals) (hRcells : cells + 1 ≤ R.cells) (hRslots : slots + 6 ≤ R.slots) (hlocks : meth.locks = false)
    (hx : ∀ t : State, s.vm.Alike t.vm → H.size ≤ t.heap.size → (∀ q : Nat, q < H.size → t.heap[q]? = H[q]?) → XC cls s t)
    (hf : ∀ z ∈ locs, free z.base) (hc : cells + 1 ≤ mc) (hs : slots + 6 ≤ ms) :
    W p l e R s m args below meth c H locs cells slots (vx_MQ below Qc XC args s mc ms free) (F0 m pc ls rest) := by
  intro T hT X
  have htr : e.platform.stackTraces = false := (show e.platform.stackTraces = l.stackTraces by rw [X.admits.platform]).trans hl
  have Y := vx_rebase X (R' := { frames := R.frames, locals := R.locals, cells := 1, slots := 6 }) (Nat.le_refl _) (Nat.le_refl _) hRcells hRslots
  obtain ⟨s', hA⟩ : ∃ z, z = (T.setVm s.vm).setFrames (.invoking m args :: below) := ⟨_, rfl⟩
  rw [← hA] at Y
  have hvm : s'.vm = s.vm := by rw [hA]; rfl
  have hhp : s'.heap = H := by rw [hA]; exact hT
  have hW0 : s.WarmedH s'.vm := by rw [hvm]; exact State.WarmedH.refl s
  have hat' : ∀ w ∈ vx_at0 own ic cls names, w.before args s' = true := fun w hw => vx_ot_at hW0 hvm.symm (hgood w (List.mem_cons_of_mem _ (List.mem_cons_of_mem _ hw))) (hat w hw)
  have hk' : (Cond.classLink own ik cls).before args s' = true := vx_ot_at hW0 hvm.symm (hgood _ List.mem_cons_self) hk
  have hini' : (Cond.initialized cls).before args s' = true := vx_ot_at hW0 hvm.symm (hgood _ (List.mem_cons_of_mem _ List.mem_cons_self)) hini
  have hU' : vx_Zq Bundle.tN "UNASSIGNED_STACK" Bundle.steD A s' s'.heap := by rw [hhp]; exact vx_Zq.moved hW0.alike (hU.kept hS.2.1)
  have hN' : vx_Zq Bundle.tN "SUPPRESSED_SENTINEL" Bundle.listD A s' s'.heap := by rw [hhp]; exact vx_Zq.moved hW0.alike (hN.kept hS.2.1)
  have h : ∀ w ∈ Bundle.ownAtoms0 own ic cls names, w.before args s' = true := vx_own hat' (vx_isRefq hU'.1) (vx_isRefq hN'.1) hU'.2.word hN'.2.word
  have hown' : s'.vm.findClass own = some m.cls := by rw [hvm]; exact hown
  have hins : (Cond.instantiable cls 6).before args s' = true := h _ (by simp [Bundle.ownAtoms0])
  obtain ⟨vm₁, cX, kX, hfX, hkX, -, -, X₁, st1⟩ := Y.newCold hexec (own := own) (C := cls) (index := ik) (n := 6) hown' hk' hins hini'
    (g := F0 m pc ls rest) rfl (by rw [hb]; exact d0) (Nat.le_refl _) (Nat.le_refl _)
  generalize hT1 : (T.setVm vm₁).pushCell { cls := cX, slots := kX.instanceTypes.map defaultValue, vm := .none } = T1 at X₁ st1
  have hcat : (Value.ref T.heap.size).category = 1 := rfl
  have hcellA : T1.heap[T.heap.size]? = some (freshCell cX kX) := by rw [← hT1]; exact State.heap_pushCell_size _ _
  have d3' : decode c.code (pc + 3) = .ok (.dup, 1) := by rw [hb]; exact d3
  obtain ⟨U, hsteps, hrun, hend, hW, hsame, ce, hce, hO⟩ := X₁.ctorThrow0 hexec htr (own := own) (cls := cls) (names := names) (ic := ic) hown' hcls hnames h (fun x hx => nomatch hx) hfX hkX hcellA (by rw [hhp, hT]; exact Nat.le_refl _)
    (g := { method := m, pc := pc + 4, locals := ls, stack := .ref T.heap.size :: .ref T.heap.size :: rest, locked := none }) rfl hsize rfl rfl (rest := rest) rfl
    (by rw [hb]; exact d4) (by rw [hb]; exact d7) hout hRframes (by simp only [List.map_cons, List.sum_cons, hcat]; omega) hlocks
  obtain ⟨f1, f2⟩ := vx_frame hsame
  rw [hhp] at f1 f2
  have hWs : s.WarmedH U.vm := State.WarmedH.trans hW0 hW
  have hcl : s.vm.findClass cls = some ce.cls := by
    have h9 := hO.cls
    rw [hvm] at h9
    exact h9
  have hall : s.sameButNew ({ U with vm := s.vm } : State) locs mc ms := by
    subst hA
    obtain ⟨e1, e2⟩ := hsame
    rw [State.setFrames_setFrames] at e1
    have h2 : (T.setVm s.vm).sameButNew ({ U with vm := s.vm } : State) [] (0 + 1) (0 + 6) := ⟨e1, e2⟩
    have h3 := X.same.trans h2
    rw [List.append_nil] at h3
    exact h3.mono hc hs
  refine ⟨U, ?_, .threw T.heap.size, hrun, hend, Or.inr ⟨T.heap.size, rfl, cls, ce, locs, hx U hWs.alike f1 (fun q hq => f2 q hq (fun z hz => nomatch hz)), hce, hO.vm, hcl, hWs, hall, hf⟩⟩
  refine st1 _ ?_
  show Steps p.tables e below (T1.setTop { method := m, pc := pc + 3, locals := ls, stack := .ref T.heap.size :: rest, locked := none }) _
  jvm_step X₁.here [X₁.here.top, hexec, d3', Value.category]
  exact hsteps
/-- 'throw new E("text")': new; dup; ldc; invokespecial; athrow -/
theorem vx_throwS {cc : ByteArray} {pc : Nat} (hexec : p.tables.exec = Jvm.exec) (hb : c.code = cc) (hl : l.stackTraces = false) {own cls text : String} {names : List String} {ik is ic mc ms sa : Nat} {A : Nat → Prop}
    (hown : s.vm.findClass own = some m.cls) (hcls : Bundle.fit cls = true) (hnames : ∀ n ∈ names, Bundle.fit n = true)
    (hk : (Cond.classLink own ik cls).before args s = true) (hini : (Cond.initialized cls).before args s = true) (hstr : vk_R own is text sa s) (hat : ∀ w ∈ vx_atS own ic cls names, w.before args s = true)
    (hgood : ∀ w ∈ Cond.classLink own ik cls :: Cond.initialized cls :: vx_atS own ic cls names, vx_ot w = true)
    (hU : vx_Zq Bundle.tN "UNASSIGNED_STACK" Bundle.steD A s s.heap) (hN : vx_Zq Bundle.tN "SUPPRESSED_SENTINEL" Bundle.listD A s s.heap) (hS : va_S A s.heap H locs) (hsize : ls.size = c.maxLocals)
    (d0 : decode cc pc = .ok (.new ik, 3)) (d3 : decode cc (pc + 3) = .ok (.dup, 1)) (d4 : decode cc (pc + 4) = .ok (.ldc is, 2)) (d6 : decode cc (pc + 6) = .ok (.invokespecial ic, 3)) (d9 : decode cc (pc + 9) = .ok (.athrow, 1))
    (hout : ∀ x ∈ c.exceptionTable.toList, covers x (pc + 9) = false)
    (hRframes : names.length + 3 < R.frames) (hRlocals : (rest.map fun v => v.category).sum + (13 * (names.length + 1) + 43) ≤ R.locals) (hRcells : cells + 1 ≤ R.cells) (hRslots : slots + 6 ≤ R.slots) (hlocks : meth.locks = false)
    (hx : ∀ t : State, s.vm.Alike t.vm → H.size ≤ t.heap.size → (∀ q : Nat, q < H.size → t.heap[q]? = H[q]?) → XC cls s t)
    (hf : ∀ z ∈ locs, free z.base) (hc : cells + 1 ≤ mc) (hs : slots + 6 ≤ ms) :
    W p l e R s m args below meth c H locs cells slots (vx_MQ below Qc XC args s mc ms free) (F0 m pc ls rest) := by
  intro T hT X
  have htr : e.platform.stackTraces = false := (show e.platform.stackTraces = l.stackTraces by rw [X.admits.platform]).trans hl
  have Y := vx_rebase X (R' := { frames := R.frames, locals := R.locals, cells := 1, slots := 6 }) (Nat.le_refl _) (Nat.le_refl _) hRcells hRslots
  obtain ⟨s', hA⟩ : ∃ z, z = (T.setVm s.vm).setFrames (.invoking m args :: below) := ⟨_, rfl⟩
  rw [← hA] at Y
  have hvm : s'.vm = s.vm := by rw [hA]; rfl
  have hhp : s'.heap = H := by rw [hA]; exact hT
  have hW0 : s.WarmedH s'.vm := by rw [hvm]; exact State.WarmedH.refl s
  have hat' : ∀ w ∈ vx_atS own ic cls names, w.before args s' = true := fun w hw => vx_ot_at hW0 hvm.symm (hgood w (List.mem_cons_of_mem _ (List.mem_cons_of_mem _ hw))) (hat w hw)
  have hk' : (Cond.classLink own ik cls).before args s' = true := vx_ot_at hW0 hvm.symm (hgood _ List.mem_cons_self) hk
  have hini' : (Cond.initialized cls).before args s' = true := vx_ot_at hW0 hvm.symm (hgood _ (List.mem_cons_of_mem _ List.mem_cons_self)) hini
  have hU' : vx_Zq Bundle.tN "UNASSIGNED_STACK" Bundle.steD A s' s'.heap := by rw [hhp]; exact vx_Zq.moved hW0.alike (hU.kept hS.2.1)
  have hN' : vx_Zq Bundle.tN "SUPPRESSED_SENTINEL" Bundle.listD A s' s'.heap := by rw [hhp]; exact vx_Zq.moved hW0.alike (hN.kept hS.2.1)
  have h : ∀ w ∈ Bundle.ownAtoms own ic cls names, w.before args s' = true := vx_own hat' (vx_isRefq hU'.1) (vx_isRefq hN'.1) hU'.2.word hN'.2.word
  have hown' : s'.vm.findClass own = some m.cls := by rw [hvm]; exact hown
  have hins : (Cond.instantiable cls 6).before args s' = true := h _ (by simp [Bundle.ownAtoms])
  obtain ⟨vm₁, cX, kX, hfX, hkX, -, -, X₁, st1⟩ := Y.newCold hexec (own := own) (C := cls) (index := ik) (n := 6) hown' hk' hins hini'
    (g := F0 m pc ls rest) rfl (by rw [hb]; exact d0) (Nat.le_refl _) (Nat.le_refl _)
  generalize hT1 : (T.setVm vm₁).pushCell { cls := cX, slots := kX.instanceTypes.map defaultValue, vm := .none } = T1 at X₁ st1
  have hcat : (Value.ref T.heap.size).category = 1 := rfl
  have hcellA : T1.heap[T.heap.size]? = some (freshCell cX kX) := by rw [← hT1]; exact State.heap_pushCell_size _ _
  have d3' : decode c.code (pc + 3) = .ok (.dup, 1) := by rw [hb]; exact d3
  have d4' : decode c.code (pc + 4) = .ok (.ldc is, 2) := by rw [hb]; exact d4
  have hstr' : vk_R own is text sa s' := vk_R.warm hW0 hstr
  obtain ⟨U, hsteps, hrun, hend, hW, hsame, ce, hce, hO⟩ := X₁.ctorThrowS hexec htr (own := own) (cls := cls) (names := names) (ic := ic) hown' hcls hnames h (fun x hx => nomatch hx) hfX hkX hcellA (by rw [hhp, hT]; exact Nat.le_refl _) (msg := .ref sa) rfl
    (g := { method := m, pc := pc + 6, locals := ls, stack := .ref sa :: .ref T.heap.size :: .ref T.heap.size :: rest, locked := none }) rfl hsize rfl rfl (rest := rest) rfl
    (by rw [hb]; exact d6) (by rw [hb]; exact d9) hout hRframes (by simp only [List.map_cons, List.sum_cons, hcat]; omega) hlocks
  obtain ⟨f1, f2⟩ := vx_frame hsame
  rw [hhp] at f1 f2
  have hWs : s.WarmedH U.vm := State.WarmedH.trans hW0 hW
  have hcl : s.vm.findClass cls = some ce.cls := by
    have h9 := hO.cls
    rw [hvm] at h9
    exact h9
  have hall : s.sameButNew ({ U with vm := s.vm } : State) locs mc ms := by
    subst hA
    obtain ⟨e1, e2⟩ := hsame
    rw [State.setFrames_setFrames] at e1
    have h2 : (T.setVm s.vm).sameButNew ({ U with vm := s.vm } : State) [] (0 + 1) (0 + 6) := ⟨e1, e2⟩
    have h3 := X.same.trans h2
    rw [List.append_nil] at h3
    exact h3.mono hc hs
  refine ⟨U, ?_, .threw T.heap.size, hrun, hend, Or.inr ⟨T.heap.size, rfl, cls, ce, locs, hx U hWs.alike f1 (fun q hq => f2 q hq (fun z hz => nomatch hz)), hce, hO.vm, hcl, hWs, hall, hf⟩⟩
  refine st1 _ ?_
  show Steps p.tables e below (T1.setTop { method := m, pc := pc + 3, locals := ls, stack := .ref T.heap.size :: rest, locked := none }) _
  jvm_step X₁.here [X₁.here.top, hexec, d3', Value.category]
  exact X₁.ldcString hexec (own := own) (text := text) (index := is) (a := sa) hown' hstr'.1 hstr'.2
    (g := { method := m, pc := pc + 4, locals := ls, stack := .ref T.heap.size :: .ref T.heap.size :: rest, locked := none }) rfl d4' _ hsteps
/-- 'throw new E("text")', the text by a wide index -/
theorem vx_throwSW {cc : ByteArray} {pc : Nat} (hexec : p.tables.exec = Jvm.exec) (hb : c.code = cc) (hl : l.stackTraces = false) {own cls text : String} {names : List String} {ik is ic mc ms sa : Nat} {A : Nat → Prop}
    (hown : s.vm.findClass own = some m.cls) (hcls : Bundle.fit cls = true) (hnames : ∀ n ∈ names, Bundle.fit n = true)
    (hk : (Cond.classLink own ik cls).before args s = true) (hini : (Cond.initialized cls).before args s = true) (hstr : vk_R own is text sa s) (hat : ∀ w ∈ vx_atS own ic cls names, w.before args s = true)
    (hgood : ∀ w ∈ Cond.classLink own ik cls :: Cond.initialized cls :: vx_atS own ic cls names, vx_ot w = true)
    (hU : vx_Zq Bundle.tN "UNASSIGNED_STACK" Bundle.steD A s s.heap) (hN : vx_Zq Bundle.tN "SUPPRESSED_SENTINEL" Bundle.listD A s s.heap) (hS : va_S A s.heap H locs) (hsize : ls.size = c.maxLocals)
    (d0 : decode cc pc = .ok (.new ik, 3)) (d3 : decode cc (pc + 3) = .ok (.dup, 1)) (d4 : decode cc (pc + 4) = .ok (.ldc_w is, 3)) (d7 : decode cc (pc + 7) = .ok (.invokespecial ic, 3)) (d10 : decode cc (pc + 10) = .ok (.athrow, 1))
    (hout : ∀ x ∈ c.exceptionTable.toList, covers x (pc + 10) = false)
    (hRframes : names.length + 3 < R.frames) (hRlocals : (rest.map fun v => v.category).sum + (13 * (names.length + 1) + 43) ≤ R.locals) (hRcells : cells + 1 ≤ R.cells) (hRslots : slots + 6 ≤ R.slots) (hlocks : meth.locks = false)
    (hx : ∀ t : State, s.vm.Alike t.vm → H.size ≤ t.heap.size → (∀ q : Nat, q < H.size → t.heap[q]? = H[q]?) → XC cls s t)
    (hf : ∀ z ∈ locs, free z.base) (hc : cells + 1 ≤ mc) (hs : slots + 6 ≤ ms) :
    W p l e R s m args below meth c H locs cells slots (vx_MQ below Qc XC args s mc ms free) (F0 m pc ls rest) := by
  intro T hT X
  have htr : e.platform.stackTraces = false := (show e.platform.stackTraces = l.stackTraces by rw [X.admits.platform]).trans hl
  have Y := vx_rebase X (R' := { frames := R.frames, locals := R.locals, cells := 1, slots := 6 }) (Nat.le_refl _) (Nat.le_refl _) hRcells hRslots
  obtain ⟨s', hA⟩ : ∃ z, z = (T.setVm s.vm).setFrames (.invoking m args :: below) := ⟨_, rfl⟩
  rw [← hA] at Y
  have hvm : s'.vm = s.vm := by rw [hA]; rfl
  have hhp : s'.heap = H := by rw [hA]; exact hT
  have hW0 : s.WarmedH s'.vm := by rw [hvm]; exact State.WarmedH.refl s
  have hat' : ∀ w ∈ vx_atS own ic cls names, w.before args s' = true := fun w hw => vx_ot_at hW0 hvm.symm (hgood w (List.mem_cons_of_mem _ (List.mem_cons_of_mem _ hw))) (hat w hw)
  have hk' : (Cond.classLink own ik cls).before args s' = true := vx_ot_at hW0 hvm.symm (hgood _ List.mem_cons_self) hk
  have hini' : (Cond.initialized cls).before args s' = true := vx_ot_at hW0 hvm.symm (hgood _ (List.mem_cons_of_mem _ List.mem_cons_self)) hini
  have hU' : vx_Zq Bundle.tN "UNASSIGNED_STACK" Bundle.steD A s' s'.heap := by rw [hhp]; exact vx_Zq.moved hW0.alike (hU.kept hS.2.1)
  have hN' : vx_Zq Bundle.tN "SUPPRESSED_SENTINEL" Bundle.listD A s' s'.heap := by rw [hhp]; exact vx_Zq.moved hW0.alike (hN.kept hS.2.1)
  have h : ∀ w ∈ Bundle.ownAtoms own ic cls names, w.before args s' = true := vx_own hat' (vx_isRefq hU'.1) (vx_isRefq hN'.1) hU'.2.word hN'.2.word
  have hown' : s'.vm.findClass own = some m.cls := by rw [hvm]; exact hown
  have hins : (Cond.instantiable cls 6).before args s' = true := h _ (by simp [Bundle.ownAtoms])
  obtain ⟨vm₁, cX, kX, hfX, hkX, -, -, X₁, st1⟩ := Y.newCold hexec (own := own) (C := cls) (index := ik) (n := 6) hown' hk' hins hini'
    (g := F0 m pc ls rest) rfl (by rw [hb]; exact d0) (Nat.le_refl _) (Nat.le_refl _)
  generalize hT1 : (T.setVm vm₁).pushCell { cls := cX, slots := kX.instanceTypes.map defaultValue, vm := .none } = T1 at X₁ st1
  have hcat : (Value.ref T.heap.size).category = 1 := rfl
  have hcellA : T1.heap[T.heap.size]? = some (freshCell cX kX) := by rw [← hT1]; exact State.heap_pushCell_size _ _
  have d3' : decode c.code (pc + 3) = .ok (.dup, 1) := by rw [hb]; exact d3
  have d4' : decode c.code (pc + 4) = .ok (.ldc_w is, 3) := by rw [hb]; exact d4
  have hstr' : vk_R own is text sa s' := vk_R.warm hW0 hstr
  obtain ⟨U, hsteps, hrun, hend, hW, hsame, ce, hce, hO⟩ := X₁.ctorThrowS hexec htr (own := own) (cls := cls) (names := names) (ic := ic) hown' hcls hnames h (fun x hx => nomatch hx) hfX hkX hcellA (by rw [hhp, hT]; exact Nat.le_refl _) (msg := .ref sa) rfl
    (g := { method := m, pc := pc + 7, locals := ls, stack := .ref sa :: .ref T.heap.size :: .ref T.heap.size :: rest, locked := none }) rfl hsize rfl rfl (rest := rest) rfl
    (by rw [hb]; exact d7) (by rw [hb]; exact d10) hout hRframes (by simp only [List.map_cons, List.sum_cons, hcat]; omega) hlocks
  obtain ⟨f1, f2⟩ := vx_frame hsame
  rw [hhp] at f1 f2
  have hWs : s.WarmedH U.vm := State.WarmedH.trans hW0 hW
  have hcl : s.vm.findClass cls = some ce.cls := by
    have h9 := hO.cls
    rw [hvm] at h9
    exact h9
  have hall : s.sameButNew ({ U with vm := s.vm } : State) locs mc ms := by
    subst hA
    obtain ⟨e1, e2⟩ := hsame
    rw [State.setFrames_setFrames] at e1
    have h2 : (T.setVm s.vm).sameButNew ({ U with vm := s.vm } : State) [] (0 + 1) (0 + 6) := ⟨e1, e2⟩
    have h3 := X.same.trans h2
    rw [List.append_nil] at h3
    exact h3.mono hc hs
  refine ⟨U, ?_, .threw T.heap.size, hrun, hend, Or.inr ⟨T.heap.size, rfl, cls, ce, locs, hx U hWs.alike f1 (fun q hq => f2 q hq (fun z hz => nomatch hz)), hce, hO.vm, hcl, hWs, hall, hf⟩⟩
  refine st1 _ ?_
  show Steps p.tables e below (T1.setTop { method := m, pc := pc + 3, locals := ls, stack := .ref T.heap.size :: rest, locked := none }) _
  jvm_step X₁.here [X₁.here.top, hexec, d3', Value.category]
  exact X₁.ldcStringW hexec (own := own) (text := text) (index := is) (a := sa) hown' hstr'.1 hstr'.2
    (g := { method := m, pc := pc + 4, locals := ls, stack := .ref T.heap.size :: .ref T.heap.size :: rest, locked := none }) rfl d4' _ hsteps
end Ends
section Bodies
variable {l : Launch}
theorem vx_ofW {y : MethodName} {ws ws' : List Cond} {rm : Room} {Pc : Array Value → State → Prop} {Qc : Array Value → State → Outcome → State → Prop} {XC : String → State → State → Prop} {mc ms : Nat} {free : Addr → Prop} {cc : ByteArray} {maxL : Nat} {ret : Option FieldType}
    (hy : plainName y.cls = true) (hw : ws = Cond.code y cc maxL ret :: ws')
    (body : ∀ p e s m args below meth c s₁, BodyLoose p l y (headSpec ws rm) cc maxL ret e s m args below meth c s₁ → c.maxLocals = maxL → (∀ x ∈ c.exceptionTable.toList, False) → Pc args s →
      W p l e (headSpec ws rm).room s m args below meth c s.heap [] 0 0 (vx_MQ below Qc XC args s mc ms free) (entryFrame m args maxL)) : vx_Met l y ws rm Pc Qc XC mc ms free := by
  refine MetFree.of_bodyS (code := cc) (maxLocals := maxL) (ret := ret) hy ?_ ?_
  · intro args s m h hn
    obtain ⟨meth, c, h1, h2, h3, h4, h5, h6, -, -⟩ := Cond.code_spec hn (atoms_spec (ws := ws) h _ (by rw [hw]; exact List.mem_cons_self))
    exact ⟨meth, c, h1, h2, h3, h4, h5, h6⟩
  · intro p e s m args below meth c s₁ B hml hP _
    have hh0 : s₁.heap = s.heap := by rw [B.state]; rfl
    have ht : ∀ x ∈ c.exceptionTable.toList, False := by
      obtain ⟨meth9, c9, h1, h2, -, -, -, -, h7, -⟩ := Cond.code_spec B.named (atoms_spec (ws := ws) B.pre _ (by rw [hw]; exact List.mem_cons_self))
      cases Option.some.inj (h1.symm.trans B.method)
      cases Option.some.inj (h2.symm.trans (Stand.of_body B).code)
      intro x hx
      rw [Array.isEmpty_iff.mp h7] at hx
      cases hx
    obtain ⟨t, a1, o, b1, b2, b3⟩ := body p e s m args below meth c s₁ B hml ht hP s₁ hh0 (Stand.of_body B)
    exact ⟨t, o, a1, b1, b2, b3⟩
/-- the table of a body with handlers -/
theorem vx_table {p : Program} {x y : MethodName} {S : Spec} {cc bytes : ByteArray} {maxL maxL' : Nat} {ret ret' : Option FieldType} {e : Env} {s s₁ : State} {m : MethodId} {args : Array Value} {below : List Frame} {meth : Method} {c : Code} {hh : List (Nat × Nat × Nat × Nat)}
    (B : BodyLoose p l y S cc maxL ret e s m args below meth c s₁) (h : (Cond.codeWith y bytes maxL' ret' hh).before args s = true) : c.exceptionTable.toList = tableOf hh := by
  obtain ⟨m9, meth9, c9, hn9, h1, h2, -, -, h6, -⟩ := Cond.codeWith_spec h
  cases Option.some.inj (hn9.symm.trans B.named)
  cases Option.some.inj (h1.symm.trans B.method)
  cases Option.some.inj (h2.symm.trans (Stand.of_body B).code)
  rw [← h6, table_eq]
end Bodies
end VXA
/-! ===== END ===== -/
/-! ===== BEGIN a static call of a method with an exception table ===== -/
section VXS
variable {p : Program} {l : Launch} {e : Env} {R : Room} {s : State} {m : MethodId} {args : Array Value} {below : List Frame} {meth : Method} {c : Code} {T : State} {H : Heap} {locs : List Loc} {cells slots : Nat}
abbrev vx_CSW (R : Room) (s : State) (args : Array Value) (own : String) (index : Nat) (y : MethodName) (bytes : ByteArray) (maxL : Nat) (ret : Option FieldType) (hh : List (Nat × Nat × Nat × Nat)) (ws : List Cond) (rm : Room) (mc ms n : Nat) : Prop :=
  (rm.cells = mc ∧ rm.slots = ms ∧ rm.frames + 1 ≤ R.frames ∧ 8 + (maxL + 11) + rm.locals ≤ R.locals ∧ (∀ w ∈ ws, ∀ (a' : Array Value) (U : State), s.WarmedH U.vm → w.before a' U = true) ∧ Cond.codeWith y bytes maxL ret hh ∈ ws) ∧
  (Cond.codeWith y bytes maxL ret hh).before args s = true ∧ (Cond.initialized y.cls).before args s = true ∧ (y.cls ≠ "java/lang/invoke/MethodHandle" ∧ y.cls ≠ "java/lang/invoke/VarHandle") ∧
  (∀ sig, parseMethodDescriptor y.desc = some sig → n = sig.parameters.length) ∧ (Cond.methodLink own index y).before args s = true ∧ (Cond.static y).before args s = true
theorem vx_cwSW {own : String} {index maxL mc ms : Nat} {y : MethodName} {bytes : ByteArray} {ret : Option FieldType} {hh : List (Nat × Nat × Nat × Nat)} {Ts ws ws' : List Cond} {rm : Room} (n : Nat) (ht : ∀ w ∈ Ts, w.before args s = true) (hT : GoodIn Ts (va_wsS own index y ws)) (hw : ws = Cond.codeWith y bytes maxL ret hh :: ws') (hrc : rm.cells = mc) (hrs : rm.slots = ms)
    (hd : y.cls ≠ "java/lang/invoke/MethodHandle" ∧ y.cls ≠ "java/lang/invoke/VarHandle" ∧ (parseMethodDescriptor y.desc).map (fun d => d.parameters.length) = some n) (hR : rm.frames + 1 ≤ R.frames ∧ 8 + (maxL + 11) + rm.locals ≤ R.locals) :
    vx_CSW R s args own index y bytes maxL ret hh ws rm mc ms n := by
  have ok : ∀ w ∈ va_wsS own index y ws, w.before args s = true := fun w h => ht w (hT w h).1
  have hG : GoodIn Ts ws := fun w h => hT w (by unfold va_wsS; exact List.mem_append_right _ h)
  have hc : Cond.codeWith y bytes maxL ret hh ∈ ws := by rw [hw]; exact List.mem_cons_self
  refine ⟨⟨hrc, hrs, hR.1, hR.2, pay_in ht hG, hc⟩, ht _ (hG _ hc).1, ok _ (by simp [va_wsS]), ⟨hd.1, hd.2.1⟩, fun sig h => ?_, ok _ (by simp [va_wsS]), ok _ (by simp [va_wsS])⟩
  have h2 := hd.2.2
  rw [h] at h2
  exact (Option.some.inj h2).symm
theorem vx_callSW (X : Stand p l e R s m args below meth c T locs cells slots) (hexec : p.tables.exec = Jvm.exec) {own : String} {index : Nat} {y : MethodName} {bytes : ByteArray} {maxL : Nat} {ret : Option FieldType} {hh : List (Nat × Nat × Nat × Nat)}
    (hown : s.vm.findClass own = some m.cls) (hlink : (Cond.methodLink own index y).before args s = true) (hstat : (Cond.static y).before args s = true) (hinit : (Cond.initialized y.cls).before args s = true)
    (hcode : (Cond.codeWith y bytes maxL ret hh).before args s = true) (hy : y.cls ≠ "java/lang/invoke/MethodHandle" ∧ y.cls ≠ "java/lang/invoke/VarHandle")
    {W9 : Nat} {Pre : Pt → Array Value → Prop} {Post : Pt → Array Value → Option Value → Pt → Prop} (hK : Back l R p e below s args y 3 W9 Pre Post)
    {g : JFrame} (hg : g.method = m) (hsize : g.locals.size = c.maxLocals) {argsL rest : List Value} (hlen : ∀ sig, parseMethodDescriptor y.desc = some sig → argsL.length = sig.parameters.length)
    (hstack : g.stack = argsL.reverse ++ rest) (hW : 2 * g.monitorRoom + (rest.map fun v => v.category).sum ≤ W9) (hdg : decode c.code g.pc = .ok (.invokestatic index, 3))
    (hpre : ∀ vm₁, s.WarmedH vm₁ → Pre ⟨T.setVm vm₁, locs, cells, slots⟩ argsL.toArray) :
    ∃ (v : Option Value) (vm₁ : Vm) (B : Pt), s.WarmedH vm₁ ∧ Stand p l e R s m args below meth c B.U B.locs B.cells B.slots ∧ Post ⟨T.setVm vm₁, locs, cells, slots⟩ argsL.toArray v B ∧
      ∀ target, Steps p.tables e below (B.U.setTop { g with pc := g.pc + 3, stack := v.toList ++ rest }) target → Steps p.tables e below (T.setTop g) target := by
  obtain ⟨mk, methM, cM, hnamed, hmethM, -, -, -, -, -, -, hsigM⟩ := Cond.codeWith_spec hcode
  have hstatic : methM.isStatic = true := Cond.static_spec hnamed hmethM hstat
  obtain ⟨kP, hkP, -⟩ := className_of_methodNamed hnamed
  have hinitP : kP.init = .initialized := Cond.initialized_spec (findClass_of_methodNamed hnamed) hkP hinit
  obtain ⟨vm₁, X₁, hstep₁⟩ := X.invokestatic hexec hown hlink hnamed hmethM hstatic hkP hinitP hy (g := g) hg (argsL := argsL) (rest := rest) (hlen _ hsigM) hstack hdg
  obtain ⟨v, B, X', hpost, hsteps⟩ := hK m meth c ⟨T.setVm vm₁, locs, cells, slots⟩ { g with stack := rest } (.invokestatic index) mk argsL.toArray X₁ hg hsize hdg hW (X₁.named hnamed) (hpre vm₁ X₁.warmed)
  exact ⟨v, vm₁, B, X₁.warmed, X', hpost, fun target h => hstep₁ _ fun acts => by rw [doInvoke_state]; exact hsteps.trans h⟩
theorem vx_runSW {y : MethodName} {bytes cc : ByteArray} {maxL nL mc ms n index : Nat} {ret : Option FieldType} {hh : List (Nat × Nat × Nat × Nat)} {ws : List Cond} {rm : Room} {Pc : Array Value → State → Prop} {Qc : Array Value → State → Outcome → State → Prop} {free : Addr → Prop} {Ts : List Cond} {own : String} {As rest : List Value} {g : JFrame}
    (S : CallFix p m c cc nL s args Ts own) (hM : Met l y ws rm Pc Qc mc ms free) (cw : vx_CSW R s args own index y bytes maxL ret hh ws rm mc ms n) (hp : PreS s H Pc As)
    (hg : g.method = m) (hn : As.length = n) (hsize : g.locals.size = nL) (hstack : g.stack = As.reverse ++ rest) (hW : 2 * g.monitorRoom + (rest.map fun v => v.category).sum ≤ 8) (hdg : decode cc g.pc = .ok (.invokestatic index, 3)) (hf : cells + mc ≤ R.cells ∧ slots + ms ≤ R.slots) :
    va_Run p l e R s m args below meth c H locs cells slots mc ms g rest (Qc As.toArray) (free) := by
  obtain ⟨⟨hrc, hrs, hfr, hlo, hws, hcw⟩, hcode, hini, hy, hlen, hl, hstt⟩ := cw
  have hK : Back l R p e below s args y 3 8 (PreOf R mc ms Pc) (PostOf Qc mc ms free) := va_backW (hh := hh) (bytes := bytes) (maxL := maxL) (ret := ret) hM hp.1 hrc hrs hfr hlo hws hcw (fun a' U hW => word_at hW (Or.inl (by first | rfl | simp [Cond.onTables, Cond.keeps, Cond.steady])) hini)
  obtain ⟨hx, hb, hml, ho, -⟩ := S
  intro T hT X
  obtain ⟨v, vm₁, ⟨U', l2, c2, s2⟩, hW₁, X', ⟨g', mk, t, L, e1, e2, hq, h1, hL, h2, h3⟩, st⟩ := vx_callSW X hx (hh := hh) (bytes := bytes) (maxL := maxL) (ret := ret) ho hl hstt hini hcode hy hK hg (hsize.trans hml.symm) (argsL := As) (rest := rest) (fun sig h => hn.trans (hlen sig h)) hstack hW (by rw [hb]; exact hdg)
    (fun vm₁ hW₁ => ⟨hf.1, hf.2, hp.2 (T.setVm vm₁) hT hW₁⟩)
  dsimp only [Pt.U, Pt.locs, Pt.cells, Pt.slots] at X' e1 e2 h1 h2 h3 st
  subst h1; subst h2; subst h3
  exact ⟨v, (T.setVm vm₁).calling g' mk As.toArray, t, U', L, hT, X', hL, e1, e2, hq, st⟩
/-- not caught here, past rows that name other classes: it goes on to the caller -/
theorem vx_outP {p : Program} {l : Launch} {e : Env} {R : Room} {s : State} {m : MethodId} {args : Array Value} {below : List Frame} {meth : Method} {c : Code} {H : Heap} {locs : List Loc} {cells slots : Nat} {free : Addr → Prop} {ls : Array Slot} {rest : List Value} {Qc : Array Value → State → Outcome → State → Prop} {XC : String → State → State → Prop}
    {pc : Nat} {own E : String} {ce : Cell} {q : Addr} {mc ms : Nat} (hown : s.vm.findClass own = some m.cls) (hlocks : meth.locks = false)
    (hpass : ∀ z ∈ c.exceptionTable.toList, covers z pc = false ∨ (z.catchType ≠ 0 ∧ ∃ nm : String, (Cond.classLink own z.catchType nm).before args s = true ∧ va_Nc E nm s)) (hcell : H[q]? = some ce) (hv : ce.vm = .none) (hcl : s.vm.findClass E = some ce.cls)
    (hx : ∀ t : State, t.heap = H → s.vm.Alike t.vm → XC E s t) (hf : ∀ z ∈ locs, free z.base) (hc : cells ≤ mc) (hs : slots ≤ ms) :
    vx_W p l e R s m args below meth c H locs cells slots (vx_MQ below Qc XC args s mc ms free) (F0 m pc ls rest) q := by
  intro T hT X
  have hpl : e.platform.magicAccessors = ({} : Platform).magicAccessors := by rw [X.admits.platform]
  obtain ⟨vm', hW', X', st⟩ := X.outThrough hlocks q (g := F0 m pc ls rest) rfl rfl rfl (cell := ce) (by rw [hT]; exact hcell) (by rw [hv]; rfl)
    (by obtain ⟨k9, h9, -⟩ := Vm.findClass_spec hcl; exact ⟨k9, h9⟩) (fun z hz => by
      rcases hpass z hz with h | ⟨hz0, nm, hl1, hn1⟩
      · exact Or.inl h
      · obtain ⟨c6, hc6, hcl6⟩ := Cond.classLink_spec hown hl1 e.platform hpl
        obtain ⟨a8, b8, h1, h2, h3⟩ := hn1
        cases Option.some.inj (h1.symm.trans hcl)
        cases Option.some.inj (h2.symm.trans hc6)
        exact Or.inr ⟨hz0, _, hcl6, h3⟩)
  obtain ⟨g₀, hfr⟩ := X'.frames_eq
  have hcell9 : ((T.setVm vm').setFrames (.throwing q :: below)).heap[q]? = some ce := by
    show T.heap[q]? = some ce
    rw [hT]; exact hcell
  have hend : Ended ((T.setVm vm').setFrames (.throwing q :: below)) below (.threw q) := State.frames_setFrames _ (State.cur_lt_of_frames hfr)
  refine ⟨(T.setVm vm').setFrames (.throwing q :: below), ?_, .threw q, X'.here.running, hend, Or.inr ⟨q, rfl, E, ce, locs, hx _ hT (X'.ends _).1.alike, hcell9, hv, hcl, (X'.ends _).1, (X'.ends _).2.mono hc hs, hf⟩⟩
  rw [X.pushThrowing_eq]
  exact st
/-- a thing of a world lies in the heap -/
theorem vx_lt {D : va_G} {cl : List vw_C} {ws : va_W} {H1 : Heap} (h : va_P D cl ws H1) {k : Nat} {q : Nat × va_E} (hk : ws[k]? = some q) : q.1 < H1.size := (h k q hk).lt
end VXS
/-! ===== END ===== -/
/-! ===== BEGIN methods with a table of their own: called by a name, returning or throwing ===== -/
section VXH
/-! vx_backW, vx_callVX, vx_callSX, vx_callVW, vx_runVW, vx_runVX, vx_runSX, vx_ofWH follow the same proofs as their sisters above (Free/Laws.lean, Shelf42/LK1.lean); vx_outP calls Shelf42/NT130.lean (outThrough). -/
section
variable {l : Launch} {R : Room} {p : Program} {e : Env} {below : List Frame} {s : State} {sargs : Array Value} {y : MethodName} {len W9 : Nat}
theorem vx_backW {ws : List Cond} {rm : Room} {Pc : Array Value → State → Prop} {Qc : Array Value → State → Outcome → State → Prop} {XC : String → State → State → Prop} {mc ms : Nat} {free : Addr → Prop} {bytes : ByteArray} {maxL : Nat} {ret : Option FieldType} {hh : List (Nat × Nat × Nat × Nat)}
    (hM : vx_Met l y ws rm Pc Qc XC mc ms free) (hblind : FrameBlind Pc) (hrc : rm.cells = mc) (hrs : rm.slots = ms)
    (hframes : rm.frames + 1 ≤ R.frames) (hlocals : W9 + (maxL + 11) + rm.locals ≤ R.locals)
    (hws : ∀ w ∈ ws, ∀ a' U, s.WarmedH U.vm → w.before a' U = true) (hcode : Cond.codeWith y bytes maxL ret hh ∈ ws) (hinit : ∀ a' U, s.WarmedH U.vm → (Cond.initialized y.cls).before a' U = true) :
    vx_Back l R p e below s sargs y len W9 (PreOf R mc ms Pc) (PostOf Qc mc ms free) (vx_Post XC mc ms free) := by
  intro m meth c A g ig mk a X hg hsize hdg hW hn hp
  have h1 : (headSpec ws rm).pre.before a A.U = true := atoms_intro fun w hw => hws w hw _ _ X.warmed
  have h2 : (Cond.codeWith y bytes maxL ret hh).before a A.U = true := hws _ hcode _ _ X.warmed
  have h3 : (Cond.initialized y.cls).before a A.U = true := hinit _ _ X.warmed
  have h4 : A.cells + (headSpec ws rm).room.cells ≤ R.cells := by rw [show (headSpec ws rm).room.cells = mc from hrc]; exact hp.1
  have h5 : A.slots + (headSpec ws rm).room.slots ≤ R.slots := by rw [show (headSpec ws rm).room.slots = ms from hrs]; exact hp.2.1
  have hPc : Pc a (A.U.calling g mk a) := hblind _ _ _ _ hp.2.2
  obtain ⟨U, Ls, c0, s0⟩ := A
  dsimp only [Pt.U, Pt.locs, Pt.cells, Pt.slots] at h1 h2 h3 h4 h5 X hn hPc ⊢
  obtain ⟨m9, methY, cY, hn9, hmY, hcY, -, hlY, -⟩ := Cond.codeWith_spec h2
  cases Option.some.inj (hn9.symm.trans hn)
  obtain ⟨kY, hkY, -⟩ := className_of_methodNamed hn
  have hinitY : kY.init = .initialized := Cond.initialized_spec (findClass_of_methodNamed hn) hkY h3
  have h : At U g.method c below := by rw [hg]; exact X.here
  have hlocals9 : W9 + (maxL + 11) + (headSpec ws rm).room.locals ≤ R.locals := hlocals
  have happ : (headSpec ws rm).appliesLoose y e.platform (U.calling g mk a) = true :=
    Spec.appliesLoose_calling (g := g) h hdg hn hkY hinitY
      (X.room_calling (g := g) (R' := (headSpec ws rm).room) hsize hmY hcY hframes (by rw [hlY]; omega) h4 h5) h1
  obtain ⟨mid, hmid⟩ := h.above
  have hfr : (U.setTop g).frames = (.java g :: mid) ++ below := by rw [State.frames_setTop' g h.top, hmid]; rfl
  obtain ⟨o, s₂, hsteps, -, hend, hq⟩ := Steps.callFree hM p X.admits X.cas X.clock (acts := []) hfr happ hPc trivial
  have hq' : vx_Q Qc XC mc ms free a (U.calling g mk a) o s₂ := hq
  rw [State.frames_setTop' g h.top] at hend
  obtain ⟨g₀, hg0⟩ := Option.isSome_iff_exists.mp h.top
  obtain ⟨r, hr⟩ := State.topJava?_eq_some.mp hg0
  have hr' : (({ U with heap := s₂.heap, slotsUsed := s₂.slotsUsed } : State).setVm s₂.vm).frames = .java g₀ :: r := hr
  rcases hq' with ⟨hqc, L, hfe, hL⟩ | ⟨q, rfl, E, ce, L, hx, hce, hcv, hcl, hW₂, hsm, hL⟩
  · obtain ⟨⟨v, rfl⟩, hW₂, e2, q2, q3, q4, q5, q6⟩ := id hfe
    have e3 : s₂ = ({ (U.calling g mk a).setFrames s₂.frames with heap := s₂.heap, slotsUsed := s₂.slotsUsed } : State).setVm s₂.vm := by
      have : s₂ = ({ s₂ with vm := (U.calling g mk a).vm } : State).setVm s₂.vm := rfl
      rw [e2] at this
      exact this
    obtain ⟨c₂, i₂, len₂, hc₂, hd₂, hf₂⟩ := hend
    have hW' : U.WarmedH s₂.vm := hW₂
    have hcc : c₂ = c := by
      have h1 : s₂.code? g.method = U.code? g.method := by
        rw [State.code?_eq, State.code?_eq, hW'.alike.method?]
      exact Option.some.inj (hc₂.symm.trans (h1.trans h.code))
    subst hcc
    have hlen : len₂ = len := by rw [hdg] at hd₂; cases hd₂; rfl
    subst hlen
    have hs₂ : s₂ = (({ U with heap := s₂.heap, slotsUsed := s₂.slotsUsed } : State).setVm s₂.vm).setTop { g with pc := g.pc + len₂, stack := v.toList ++ g.stack } := by
      refine e3.trans ?_
      rw [hf₂, State.calling_eq h.top, State.setFrames_setFrames, State.setTop_of_frames _ hr', hr]
      rfl
    have hsame : U.sameButNew ({ U with heap := s₂.heap, slotsUsed := s₂.slotsUsed } : State) L mc ms := by
      refine ⟨?_, q2, q3, q4, q5, q6⟩
      obtain ⟨t, ht, -⟩ := State.frames_cons hr
      show ({ U with heap := s₂.heap, slotsUsed := s₂.slotsUsed } : State) = { U.setFrames U.frames with heap := s₂.heap, slotsUsed := s₂.slotsUsed }
      rw [State.setFrames_self ht]
    subst hg
    refine Or.inl ⟨v, ⟨(({ U with heap := s₂.heap, slotsUsed := s₂.slotsUsed } : State).setVm s₂.vm), Ls ++ L, c0 + mc, s0 + ms⟩,
      ⟨X.admits, X.cas, X.clock, X.frames, X.room, X.hears, X.method, X.code, (X.here.setHeapUsed s₂.heap s₂.slotsUsed).setVm hW'.alike, X.tail, State.WarmedH.trans X.warmed hW', X.limits, X.bytes, X.same.trans (hsame.setVm s.vm)⟩,
      ⟨g, mk, s₂, L, rfl, rfl, hqc, rfl, hL, rfl, rfl⟩, ?_⟩
    show Steps p.tables e below _ ((({ U with heap := s₂.heap, slotsUsed := s₂.slotsUsed } : State).setVm s₂.vm).setTop { g with pc := g.pc + len₂, stack := v.toList ++ g.stack })
    rw [← hs₂]
    exact hsteps
  · obtain ⟨e2, q2, q3, q4, q5, q6⟩ := id hsm
    have e3 : s₂ = ({ (U.calling g mk a).setFrames s₂.frames with heap := s₂.heap, slotsUsed := s₂.slotsUsed } : State).setVm s₂.vm := by
      have : s₂ = ({ s₂ with vm := (U.calling g mk a).vm } : State).setVm s₂.vm := rfl
      rw [e2] at this
      exact this
    have hf₂ : s₂.frames = .throwing q :: .java g :: U.frames.tail := hend
    have hW' : U.WarmedH s₂.vm := hW₂
    have hs₂ : s₂ = ((({ U with heap := s₂.heap, slotsUsed := s₂.slotsUsed } : State).setVm s₂.vm).setTop g).pushFrame (.throwing q) := by
      refine e3.trans ?_
      rw [hf₂, State.calling_eq h.top, State.setFrames_setFrames, State.pushFrame, State.frames_setTop _ hr', State.setTop_of_frames _ hr', State.setFrames_setFrames, hr]
      rfl
    have hsame : U.sameButNew ({ U with heap := s₂.heap, slotsUsed := s₂.slotsUsed } : State) L mc ms := by
      refine ⟨?_, q2, q3, q4, q5, q6⟩
      obtain ⟨t, ht, -⟩ := State.frames_cons hr
      show ({ U with heap := s₂.heap, slotsUsed := s₂.slotsUsed } : State) = { U.setFrames U.frames with heap := s₂.heap, slotsUsed := s₂.slotsUsed }
      rw [State.setFrames_self ht]
    subst hg
    refine Or.inr ⟨q, ⟨(({ U with heap := s₂.heap, slotsUsed := s₂.slotsUsed } : State).setVm s₂.vm), Ls ++ L, c0 + mc, s0 + ms⟩,
      ⟨X.admits, X.cas, X.clock, X.frames, X.room, X.hears, X.method, X.code, (X.here.setHeapUsed s₂.heap s₂.slotsUsed).setVm hW'.alike, X.tail, State.WarmedH.trans X.warmed hW', X.limits, X.bytes, X.same.trans (hsame.setVm s.vm)⟩,
      ⟨g, mk, s₂, L, E, ce, rfl, rfl, hx, hce, hcv, hcl, rfl, hL, rfl, rfl⟩, ?_⟩
    show Steps p.tables e below _ (((({ U with heap := s₂.heap, slotsUsed := s₂.slotsUsed } : State).setVm s₂.vm).setTop g).pushFrame (.throwing q))
    rw [← hs₂]
    exact hsteps
end
variable {p : Program} {l : Launch} {e : Env} {R : Room} {s : State} {m : MethodId} {args : Array Value} {below : List Frame} {meth : Method} {c : Code} {T : State} {H : Heap} {locs : List Loc} {cells slots : Nat}
theorem vx_callVX (X : Stand p l e R s m args below meth c T locs cells slots) (hexec : p.tables.exec = Jvm.exec) {own C : String} {index : Nat} {y : MethodName} {bytes : ByteArray} {maxL : Nat} {ret : Option FieldType} {hh : List (Nat × Nat × Nat × Nat)}
    (hown : s.vm.findClass own = some m.cls) (hlink : (Cond.methodLink own index y).before args s = true) (hinst : (Cond.instanceMethod y).before args s = true) (hsel : (Cond.selects C y y).before args s = true)
    (hcode : (Cond.codeWith y bytes maxL ret hh).before args s = true) (hy : y.cls ≠ "java/lang/invoke/MethodHandle" ∧ y.cls ≠ "java/lang/invoke/VarHandle")
    {W9 : Nat} {Pre : Pt → Array Value → Prop} {Post : Pt → Array Value → Option Value → Pt → Prop} {PostX : Pt → Array Value → Addr → Pt → Prop} (hK : vx_Back l R p e below s args y 3 W9 Pre Post PostX)
    {b : Addr} {cellB : Cell} (hcell : T.heap[b]? = some cellB) (hobj : cellB.vm.isStatics = false) (hcls : s.vm.findClass C = some cellB.cls)
    {g : JFrame} (hg : g.method = m) (hsize : g.locals.size = c.maxLocals) {argsL rest : List Value} (hlen : ∀ sig, parseMethodDescriptor y.desc = some sig → argsL.length = sig.parameters.length)
    (hstack : g.stack = argsL.reverse ++ .ref b :: rest) (hW : 2 * g.monitorRoom + (rest.map fun v => v.category).sum ≤ W9) (hdg : decode c.code g.pc = .ok (.invokevirtual index, 3))
    (hpre : ∀ vm₁, s.WarmedH vm₁ → Pre ⟨T.setVm vm₁, locs, cells, slots⟩ (Value.ref b :: argsL).toArray) :
    (∃ (v : Option Value) (vm₁ : Vm) (B : Pt), s.WarmedH vm₁ ∧ Stand p l e R s m args below meth c B.U B.locs B.cells B.slots ∧ Post ⟨T.setVm vm₁, locs, cells, slots⟩ (Value.ref b :: argsL).toArray v B ∧
      ∀ target, Steps p.tables e below (B.U.setTop { g with pc := g.pc + 3, stack := v.toList ++ rest }) target → Steps p.tables e below (T.setTop g) target) ∨
    (∃ (q : Addr) (vm₁ : Vm) (B : Pt), s.WarmedH vm₁ ∧ Stand p l e R s m args below meth c B.U B.locs B.cells B.slots ∧ PostX ⟨T.setVm vm₁, locs, cells, slots⟩ (Value.ref b :: argsL).toArray q B ∧
      Steps p.tables e below (T.setTop g) ((B.U.setTop { g with stack := rest }).pushFrame (.throwing q))) := by
  obtain ⟨mk, methM, hnamed, hmethM, hstM, habM⟩ := Cond.instanceMethod_spec hinst
  obtain ⟨m8, methM', cM, hn8, hmethM', -, -, -, -, -, -, hsigM⟩ := Cond.codeWith_spec hcode
  cases Option.some.inj (hn8.symm.trans hnamed)
  cases hmethM.symm.trans hmethM'
  obtain ⟨c2, r2, m2, q1, q2, q3, q4, kP, hkP, hkPi⟩ := Cond.selects_spec hsel
  cases hcls.symm.trans q1
  cases (State.methodFound?_of_named hnamed hy).symm.trans q2
  cases hnamed.symm.trans q3
  have hselP : selectMethod e.platform s.vm cellB.cls mk = .method mk := by rw [Launch.admits_selectMethod X.admits]; exact q4
  obtain ⟨vm₁, X₁, hstep₁⟩ := X.invokevirtual hexec hown hlink hnamed hmethM hstM hkP hkPi hy (a := b) (cell := cellB) hcell
    (fun z h => by rw [h] at hobj; cases hobj) hselP hmethM habM hkP hkPi (g := g) hg (argsL := argsL) (rest := rest) (hlen _ hsigM) hstack hdg
  rcases hK m meth c ⟨T.setVm vm₁, locs, cells, slots⟩ { g with stack := rest } (.invokevirtual index) mk (Value.ref b :: argsL).toArray X₁ hg hsize hdg hW (X₁.named hnamed) (hpre vm₁ X₁.warmed) with ⟨v, B, X', hpost, hsteps⟩ | ⟨q, B, X', hpost, hsteps⟩
  · exact Or.inl ⟨v, vm₁, B, X₁.warmed, X', hpost, fun target h => hstep₁ _ fun acts => by rw [doInvoke_state]; exact hsteps.trans h⟩
  · exact Or.inr ⟨q, vm₁, B, X₁.warmed, X', hpost, hstep₁ _ fun acts => by rw [doInvoke_state]; exact hsteps⟩
theorem vx_callSX (X : Stand p l e R s m args below meth c T locs cells slots) (hexec : p.tables.exec = Jvm.exec) {own : String} {index : Nat} {y : MethodName} {bytes : ByteArray} {maxL : Nat} {ret : Option FieldType} {hh : List (Nat × Nat × Nat × Nat)}
    (hown : s.vm.findClass own = some m.cls) (hlink : (Cond.methodLink own index y).before args s = true) (hstat : (Cond.static y).before args s = true) (hinit : (Cond.initialized y.cls).before args s = true)
    (hcode : (Cond.codeWith y bytes maxL ret hh).before args s = true) (hy : y.cls ≠ "java/lang/invoke/MethodHandle" ∧ y.cls ≠ "java/lang/invoke/VarHandle")
    {W9 : Nat} {Pre : Pt → Array Value → Prop} {Post : Pt → Array Value → Option Value → Pt → Prop} {PostX : Pt → Array Value → Addr → Pt → Prop} (hK : vx_Back l R p e below s args y 3 W9 Pre Post PostX)
    {g : JFrame} (hg : g.method = m) (hsize : g.locals.size = c.maxLocals) {argsL rest : List Value} (hlen : ∀ sig, parseMethodDescriptor y.desc = some sig → argsL.length = sig.parameters.length)
    (hstack : g.stack = argsL.reverse ++ rest) (hW : 2 * g.monitorRoom + (rest.map fun v => v.category).sum ≤ W9) (hdg : decode c.code g.pc = .ok (.invokestatic index, 3))
    (hpre : ∀ vm₁, s.WarmedH vm₁ → Pre ⟨T.setVm vm₁, locs, cells, slots⟩ argsL.toArray) :
    (∃ (v : Option Value) (vm₁ : Vm) (B : Pt), s.WarmedH vm₁ ∧ Stand p l e R s m args below meth c B.U B.locs B.cells B.slots ∧ Post ⟨T.setVm vm₁, locs, cells, slots⟩ argsL.toArray v B ∧
      ∀ target, Steps p.tables e below (B.U.setTop { g with pc := g.pc + 3, stack := v.toList ++ rest }) target → Steps p.tables e below (T.setTop g) target) ∨
    (∃ (q : Addr) (vm₁ : Vm) (B : Pt), s.WarmedH vm₁ ∧ Stand p l e R s m args below meth c B.U B.locs B.cells B.slots ∧ PostX ⟨T.setVm vm₁, locs, cells, slots⟩ argsL.toArray q B ∧
      Steps p.tables e below (T.setTop g) ((B.U.setTop { g with stack := rest }).pushFrame (.throwing q))) := by
  obtain ⟨mk, methM, cM, hnamed, hmethM, -, -, -, -, -, -, hsigM⟩ := Cond.codeWith_spec hcode
  have hstatic : methM.isStatic = true := Cond.static_spec hnamed hmethM hstat
  obtain ⟨kP, hkP, -⟩ := className_of_methodNamed hnamed
  have hinitP : kP.init = .initialized := Cond.initialized_spec (findClass_of_methodNamed hnamed) hkP hinit
  obtain ⟨vm₁, X₁, hstep₁⟩ := X.invokestatic hexec hown hlink hnamed hmethM hstatic hkP hinitP hy (g := g) hg (argsL := argsL) (rest := rest) (hlen _ hsigM) hstack hdg
  rcases hK m meth c ⟨T.setVm vm₁, locs, cells, slots⟩ { g with stack := rest } (.invokestatic index) mk argsL.toArray X₁ hg hsize hdg hW (X₁.named hnamed) (hpre vm₁ X₁.warmed) with ⟨v, B, X', hpost, hsteps⟩ | ⟨q, B, X', hpost, hsteps⟩
  · exact Or.inl ⟨v, vm₁, B, X₁.warmed, X', hpost, fun target h => hstep₁ _ fun acts => by rw [doInvoke_state]; exact hsteps.trans h⟩
  · exact Or.inr ⟨q, vm₁, B, X₁.warmed, X', hpost, hstep₁ _ fun acts => by rw [doInvoke_state]; exact hsteps⟩
theorem vx_callVW (X : Stand p l e R s m args below meth c T locs cells slots) (hexec : p.tables.exec = Jvm.exec) {own C : String} {index : Nat} {y : MethodName} {bytes : ByteArray} {maxL : Nat} {ret : Option FieldType} {hh : List (Nat × Nat × Nat × Nat)}
    (hown : s.vm.findClass own = some m.cls) (hlink : (Cond.methodLink own index y).before args s = true) (hinst : (Cond.instanceMethod y).before args s = true) (hsel : (Cond.selects C y y).before args s = true)
    (hcode : (Cond.codeWith y bytes maxL ret hh).before args s = true) (hy : y.cls ≠ "java/lang/invoke/MethodHandle" ∧ y.cls ≠ "java/lang/invoke/VarHandle")
    {W9 : Nat} {Pre : Pt → Array Value → Prop} {Post : Pt → Array Value → Option Value → Pt → Prop} (hK : Back l R p e below s args y 3 W9 Pre Post)
    {b : Addr} {cellB : Cell} (hcell : T.heap[b]? = some cellB) (hobj : cellB.vm.isStatics = false) (hcls : s.vm.findClass C = some cellB.cls)
    {g : JFrame} (hg : g.method = m) (hsize : g.locals.size = c.maxLocals) {argsL rest : List Value} (hlen : ∀ sig, parseMethodDescriptor y.desc = some sig → argsL.length = sig.parameters.length)
    (hstack : g.stack = argsL.reverse ++ .ref b :: rest) (hW : 2 * g.monitorRoom + (rest.map fun v => v.category).sum ≤ W9) (hdg : decode c.code g.pc = .ok (.invokevirtual index, 3))
    (hpre : ∀ vm₁, s.WarmedH vm₁ → Pre ⟨T.setVm vm₁, locs, cells, slots⟩ (Value.ref b :: argsL).toArray) :
    ∃ (v : Option Value) (vm₁ : Vm) (B : Pt), s.WarmedH vm₁ ∧ Stand p l e R s m args below meth c B.U B.locs B.cells B.slots ∧ Post ⟨T.setVm vm₁, locs, cells, slots⟩ (Value.ref b :: argsL).toArray v B ∧
      ∀ target, Steps p.tables e below (B.U.setTop { g with pc := g.pc + 3, stack := v.toList ++ rest }) target → Steps p.tables e below (T.setTop g) target := by
  obtain ⟨mk, methM, hnamed, hmethM, hstM, habM⟩ := Cond.instanceMethod_spec hinst
  obtain ⟨m8, methM', cM, hn8, hmethM', -, -, -, -, -, -, hsigM⟩ := Cond.codeWith_spec hcode
  cases Option.some.inj (hn8.symm.trans hnamed)
  cases hmethM.symm.trans hmethM'
  obtain ⟨c2, r2, m2, q1, q2, q3, q4, kP, hkP, hkPi⟩ := Cond.selects_spec hsel
  cases hcls.symm.trans q1
  cases (State.methodFound?_of_named hnamed hy).symm.trans q2
  cases hnamed.symm.trans q3
  have hselP : selectMethod e.platform s.vm cellB.cls mk = .method mk := by rw [Launch.admits_selectMethod X.admits]; exact q4
  obtain ⟨vm₁, X₁, hstep₁⟩ := X.invokevirtual hexec hown hlink hnamed hmethM hstM hkP hkPi hy (a := b) (cell := cellB) hcell
    (fun z h => by rw [h] at hobj; cases hobj) hselP hmethM habM hkP hkPi (g := g) hg (argsL := argsL) (rest := rest) (hlen _ hsigM) hstack hdg
  obtain ⟨v, B, X', hpost, hsteps⟩ := hK m meth c ⟨T.setVm vm₁, locs, cells, slots⟩ { g with stack := rest } (.invokevirtual index) mk (Value.ref b :: argsL).toArray X₁ hg hsize hdg hW (X₁.named hnamed) (hpre vm₁ X₁.warmed)
  exact ⟨v, vm₁, B, X₁.warmed, X', hpost, fun target h => hstep₁ _ fun acts => by rw [doInvoke_state]; exact hsteps.trans h⟩
abbrev vx_CVW (R : Room) (s : State) (args : Array Value) (own C : String) (index : Nat) (y : MethodName) (bytes : ByteArray) (maxL : Nat) (ret : Option FieldType) (hh : List (Nat × Nat × Nat × Nat)) (ws : List Cond) (rm : Room) (mc ms n : Nat) : Prop :=
  (rm.cells = mc ∧ rm.slots = ms ∧ rm.frames + 1 ≤ R.frames ∧ 8 + (maxL + 11) + rm.locals ≤ R.locals ∧ (∀ w ∈ ws, ∀ (a' : Array Value) (U : State), s.WarmedH U.vm → w.before a' U = true) ∧ Cond.codeWith y bytes maxL ret hh ∈ ws) ∧
  (Cond.codeWith y bytes maxL ret hh).before args s = true ∧ (Cond.initialized y.cls).before args s = true ∧ (y.cls ≠ "java/lang/invoke/MethodHandle" ∧ y.cls ≠ "java/lang/invoke/VarHandle") ∧
  (∀ sig, parseMethodDescriptor y.desc = some sig → n = sig.parameters.length) ∧ (Cond.methodLink own index y).before args s = true ∧ (Cond.instanceMethod y).before args s = true ∧ (Cond.selects C y y).before args s = true
theorem vx_cwVW {own C : String} {index maxL mc ms : Nat} {y : MethodName} {bytes : ByteArray} {ret : Option FieldType} {hh : List (Nat × Nat × Nat × Nat)} {Ts ws ws' : List Cond} {rm : Room} (n : Nat) (ht : ∀ w ∈ Ts, w.before args s = true) (hT : GoodIn Ts (wsV own index C y ws)) (hw : ws = Cond.codeWith y bytes maxL ret hh :: ws') (hrc : rm.cells = mc) (hrs : rm.slots = ms)
    (hd : y.cls = C ∧ y.cls ≠ "java/lang/invoke/MethodHandle" ∧ y.cls ≠ "java/lang/invoke/VarHandle" ∧ (parseMethodDescriptor y.desc).map (fun d => d.parameters.length) = some n) (hR : rm.frames + 1 ≤ R.frames ∧ 8 + (maxL + 11) + rm.locals ≤ R.locals) :
    vx_CVW R s args own C index y bytes maxL ret hh ws rm mc ms n := by
  obtain ⟨hC, hd⟩ := hd
  subst hC
  have ok : ∀ w ∈ wsV own index y.cls y ws, w.before args s = true := fun w h => ht w (hT w h).1
  have hG : GoodIn Ts ws := fun w h => hT w (by unfold wsV; exact List.mem_append_right _ h)
  have hc : Cond.codeWith y bytes maxL ret hh ∈ ws := by rw [hw]; exact List.mem_cons_self
  refine ⟨⟨hrc, hrs, hR.1, hR.2, pay_in ht hG, hc⟩, ht _ (hG _ hc).1, ok _ (by simp [wsV]), ⟨hd.1, hd.2.1⟩, fun sig h => ?_, ok _ (by simp [wsV]), ok _ (by simp [wsV]), ok _ (by simp [wsV])⟩
  have h2 := hd.2.2
  rw [h] at h2
  exact (Option.some.inj h2).symm
theorem vx_runVW {y : MethodName} {bytes cc : ByteArray} {maxL nL mc ms n index : Nat} {ret : Option FieldType} {hh : List (Nat × Nat × Nat × Nat)} {ws : List Cond} {rm : Room} {Pc : Array Value → State → Prop} {Qc : Array Value → State → Outcome → State → Prop} {free : Addr → Prop} {Ts : List Cond} {own C : String} {b : Addr} {As rest : List Value} {g : JFrame}
    (S : CallFix p m c cc nL s args Ts own) (hM : Met l y ws rm Pc Qc mc ms free) (cw : vx_CVW R s args own C index y bytes maxL ret hh ws rm mc ms n) (hp : PreV s H C b Pc As)
    (hg : g.method = m) (hn : As.length = n) (hsize : g.locals.size = nL) (hstack : g.stack = As.reverse ++ .ref b :: rest) (hW : 2 * g.monitorRoom + (rest.map fun v => v.category).sum ≤ 8) (hdg : decode cc g.pc = .ok (.invokevirtual index, 3)) (hf : cells + mc ≤ R.cells ∧ slots + ms ≤ R.slots) :
    va_Run p l e R s m args below meth c H locs cells slots mc ms g rest (Qc (Value.ref b :: As).toArray) free := by
  obtain ⟨⟨hrc, hrs, hfr, hlo, hws, hcw⟩, hcode, hini, hy, hlen, hl, hin, hse⟩ := cw
  have hK : Back l R p e below s args y 3 8 (PreOf R mc ms Pc) (PostOf Qc mc ms free) := va_backW (hh := hh) (bytes := bytes) (maxL := maxL) (ret := ret) hM hp.1 hrc hrs hfr hlo hws hcw (fun a' U hW => word_at hW (Or.inl (by first | rfl | simp [Cond.onTables, Cond.keeps, Cond.steady])) hini)
  obtain ⟨hx, hb, hml, ho, -⟩ := S
  obtain ⟨-, ⟨cellB, hcB, hoB, hclB⟩, hPc⟩ := hp
  intro T hT X
  obtain ⟨v, vm₁, ⟨U', l2, c2, s2⟩, hW₁, X', ⟨g', mk, t, L, e1, e2, hq, h1, hL, h2, h3⟩, st⟩ := vx_callVW X hx (C := C) (hh := hh) (bytes := bytes) (maxL := maxL) (ret := ret) ho hl hin hse hcode hy hK (by rw [hT]; exact hcB) hoB hclB hg (hsize.trans hml.symm) (argsL := As) (rest := rest) (fun sig h => hn.trans (hlen sig h)) hstack hW (by rw [hb]; exact hdg)
    (fun vm₁ hW₁ => ⟨hf.1, hf.2, hPc (T.setVm vm₁) hT hW₁⟩)
  dsimp only [Pt.U, Pt.locs, Pt.cells, Pt.slots] at X' e1 e2 h1 h2 h3 st
  subst h1; subst h2; subst h3
  exact ⟨v, (T.setVm vm₁).calling g' mk (Value.ref b :: As).toArray, t, U', L, hT, X', hL, e1, e2, hq, st⟩
section
variable {y : MethodName} {bytes cc : ByteArray} {maxL nL mc ms n index : Nat} {ret : Option FieldType} {ws : List Cond} {rm : Room} {Pc : Array Value → State → Prop} {Qc : Array Value → State → Outcome → State → Prop} {XC : String → State → State → Prop} {free : Addr → Prop} {Ts : List Cond} {own C : String} {b : Addr} {As rest : List Value} {g : JFrame}
theorem vx_runVX {hh : List (Nat × Nat × Nat × Nat)} (S : CallFix p m c cc nL s args Ts own) (hM : vx_Met l y ws rm Pc Qc XC mc ms free) (cw : vx_CVW R s args own C index y bytes maxL ret hh ws rm mc ms n) (hp : PreV s H C b Pc As)
    (hg : g.method = m) (hn : As.length = n) (hsize : g.locals.size = nL) (hstack : g.stack = As.reverse ++ .ref b :: rest) (hW : 2 * g.monitorRoom + (rest.map fun v => v.category).sum ≤ 8) (hdg : decode cc g.pc = .ok (.invokevirtual index, 3)) (hf : cells + mc ≤ R.cells ∧ slots + ms ≤ R.slots) :
    vx_Run p l e R s m args below meth c H locs cells slots mc ms g rest (Qc (Value.ref b :: As).toArray) XC free := by
  obtain ⟨⟨hrc, hrs, hfr, hlo, hws, hcw⟩, hcode, hini, hy, hlen, hl, hin, hse⟩ := cw
  have hK : vx_Back l R p e below s args y 3 8 (PreOf R mc ms Pc) (PostOf Qc mc ms free) (vx_Post XC mc ms free) := vx_backW (hh := hh) (bytes := bytes) (maxL := maxL) (ret := ret) hM hp.1 hrc hrs hfr hlo hws hcw (fun a' U hW => word_at hW (Or.inl (by first | rfl | simp [Cond.onTables, Cond.keeps, Cond.steady])) hini)
  obtain ⟨hx, hb, hml, ho, -⟩ := S
  obtain ⟨-, ⟨cellB, hcB, hoB, hclB⟩, hPc⟩ := hp
  intro T hT X
  rcases vx_callVX X hx (C := C) (hh := hh) (bytes := bytes) (maxL := maxL) (ret := ret) ho hl hin hse hcode hy hK (by rw [hT]; exact hcB) hoB hclB hg (hsize.trans hml.symm) (argsL := As) (rest := rest) (fun sig h => hn.trans (hlen sig h)) hstack hW (by rw [hb]; exact hdg)
    (fun vm₁ hW₁ => ⟨hf.1, hf.2, hPc (T.setVm vm₁) hT hW₁⟩) with ⟨v, vm₁, ⟨U', l2, c2, s2⟩, hW₁, X', ⟨g', mk, t, L, e1, e2, hq, h1, hL, h2, h3⟩, st⟩ | ⟨q, vm₁, ⟨U', l2, c2, s2⟩, hW₁, X', ⟨g', mk, t, L, E, ce, e1, e2, hq, hce, hcv, hcl, h1, hL, h2, h3⟩, st⟩
  · dsimp only [Pt.U, Pt.locs, Pt.cells, Pt.slots] at X' e1 e2 h1 h2 h3 st
    subst h1; subst h2; subst h3
    exact Or.inl ⟨v, (T.setVm vm₁).calling g' mk (Value.ref b :: As).toArray, t, U', L, hT, X', hL, e1, e2, hq, st⟩
  · dsimp only [Pt.U, Pt.locs, Pt.cells, Pt.slots] at X' e1 e2 h1 h2 h3 st hcl
    subst h1; subst h2; subst h3
    exact Or.inr ⟨q, (T.setVm vm₁).calling g' mk (Value.ref b :: As).toArray, t, U', L, E, ce, hT, X', hL, e1, e2, hq, hce, hcv, vx_cls hW₁ hcl, st⟩
theorem vx_runSX {hh : List (Nat × Nat × Nat × Nat)} (S : CallFix p m c cc nL s args Ts own) (hM : vx_Met l y ws rm Pc Qc XC mc ms free) (cw : vx_CSW R s args own index y bytes maxL ret hh ws rm mc ms n) (hp : PreS s H Pc As)
    (hg : g.method = m) (hn : As.length = n) (hsize : g.locals.size = nL) (hstack : g.stack = As.reverse ++ rest) (hW : 2 * g.monitorRoom + (rest.map fun v => v.category).sum ≤ 8) (hdg : decode cc g.pc = .ok (.invokestatic index, 3)) (hf : cells + mc ≤ R.cells ∧ slots + ms ≤ R.slots) :
    vx_Run p l e R s m args below meth c H locs cells slots mc ms g rest (Qc As.toArray) XC free := by
  obtain ⟨⟨hrc, hrs, hfr, hlo, hws, hcw⟩, hcode, hini, hy, hlen, hl, hstt⟩ := cw
  have hK : vx_Back l R p e below s args y 3 8 (PreOf R mc ms Pc) (PostOf Qc mc ms free) (vx_Post XC mc ms free) := vx_backW (hh := hh) (bytes := bytes) (maxL := maxL) (ret := ret) hM hp.1 hrc hrs hfr hlo hws hcw (fun a' U hW => word_at hW (Or.inl (by first | rfl | simp [Cond.onTables, Cond.keeps, Cond.steady])) hini)
  obtain ⟨hx, hb, hml, ho, -⟩ := S
  intro T hT X
  rcases vx_callSX X hx (hh := hh) (bytes := bytes) (maxL := maxL) (ret := ret) ho hl hstt hini hcode hy hK hg (hsize.trans hml.symm) (argsL := As) (rest := rest) (fun sig h => hn.trans (hlen sig h)) hstack hW (by rw [hb]; exact hdg)
    (fun vm₁ hW₁ => ⟨hf.1, hf.2, hp.2 (T.setVm vm₁) hT hW₁⟩) with ⟨v, vm₁, ⟨U', l2, c2, s2⟩, hW₁, X', ⟨g', mk, t, L, e1, e2, hq, h1, hL, h2, h3⟩, st⟩ | ⟨q, vm₁, ⟨U', l2, c2, s2⟩, hW₁, X', ⟨g', mk, t, L, E, ce, e1, e2, hq, hce, hcv, hcl, h1, hL, h2, h3⟩, st⟩
  · dsimp only [Pt.U, Pt.locs, Pt.cells, Pt.slots] at X' e1 e2 h1 h2 h3 st
    subst h1; subst h2; subst h3
    exact Or.inl ⟨v, (T.setVm vm₁).calling g' mk As.toArray, t, U', L, hT, X', hL, e1, e2, hq, st⟩
  · dsimp only [Pt.U, Pt.locs, Pt.cells, Pt.slots] at X' e1 e2 h1 h2 h3 st hcl
    subst h1; subst h2; subst h3
    exact Or.inr ⟨q, (T.setVm vm₁).calling g' mk As.toArray, t, U', L, E, ce, hT, X', hL, e1, e2, hq, hce, hcv, vx_cls hW₁ hcl, st⟩
end
end VXH
theorem vx_ofWH {l : Launch} {y : MethodName} {ws ws' : List Cond} {rm : Room} {Pc : Array Value → State → Prop} {Qc : Array Value → State → Outcome → State → Prop} {XC : String → State → State → Prop} {mc ms : Nat} {free : Addr → Prop} {cc : ByteArray} {maxL : Nat} {ret : Option FieldType} {hh : List (Nat × Nat × Nat × Nat)}
    (hy : plainName y.cls = true) (hw : ws = Cond.codeWith y cc maxL ret hh :: ws')
    (body : ∀ p e s m args below meth c s₁, BodyLoose p l y (headSpec ws rm) cc maxL ret e s m args below meth c s₁ → c.maxLocals = maxL → Pc args s →
      W p l e (headSpec ws rm).room s m args below meth c s.heap [] 0 0 (vx_MQ below Qc XC args s mc ms free) (entryFrame m args maxL)) : vx_Met l y ws rm Pc Qc XC mc ms free := by
  refine MetFree.of_bodyS (code := cc) (maxLocals := maxL) (ret := ret) hy ?_ ?_
  · intro args s m h hn
    obtain ⟨m9, meth, c, hn9, h1, h2, h3, h4, -, h5, h6, -⟩ := Cond.codeWith_spec (atoms_spec (ws := ws) h _ (by rw [hw]; exact List.mem_cons_self))
    cases hn.symm.trans hn9
    exact ⟨meth, c, h1, h2, h3, h4, h5, h6⟩
  · intro p e s m args below meth c s₁ B hml hP _
    have hh0 : s₁.heap = s.heap := by rw [B.state]; rfl
    obtain ⟨t, a1, o, b1, b2, b3⟩ := body p e s m args below meth c s₁ B hml hP s₁ hh0 (Stand.of_body B)
    exact ⟨t, o, a1, b1, b2, b3⟩
/-! ===== END ===== -/
end
section
/-! ===== BEGIN printed: names, fields, word lists, decode rows ===== -/
def RX0 : String := "FeatureStore$Row"
def TX0 : u_T := fun k => match k with
  | 0 => ("FeatureStore$Row", "number", "I", true)
  | 1 => ("FeatureStore$Row", "feature", "I", true)
  | 2 => ("FeatureStore$Row", "entity", "I", true)
  | 3 => ("FeatureStore$Row", "event", "I", true)
  | 4 => ("FeatureStore$Row", "arrival", "I", true)
  | 5 => ("FeatureStore$Row", "value", "I", true)
  | _ => ("FeatureStore$Row", "older", "LFeatureStore$Row;", false)
def tyX0 : Nat → FieldType := fun k => match k with
  | 0 => .int
  | 1 => .int
  | 2 => .int
  | 3 => .int
  | 4 => .int
  | 5 => .int
  | _ => .object "FeatureStore$Row"
abbrev wsX00 : List Cond := u_ws RX0 TX0 7
theorem nmX0 : ∀ a, a < 7 → ∀ b, b < 7 → a ≠ b → (TX0 a).2.1 ≠ (TX0 b).2.1 := by decide +kernel
theorem tyX0_ok : ∀ k, k < 7 → parseFieldDescriptor (TX0 k).2.2.1 = some (tyX0 k) := by decide +kernel
abbrev cX0_init : ByteArray := prog_2_method_1_code
def yX0_init : MethodName := ⟨RX0, "<init>", "(IIIIII)V"⟩
def RX1 : String := "FeatureStore$Serving"
def TX1 : u_T := fun k => match k with
  | 0 => ("FeatureStore$Serving", "feature", "I", true)
  | 1 => ("FeatureStore$Serving", "entity", "I", true)
  | 2 => ("FeatureStore$Serving", "time", "I", true)
  | _ => ("FeatureStore$Serving", "row", "I", true)
def tyX1 : Nat → FieldType := fun k => match k with
  | 0 => .int
  | 1 => .int
  | 2 => .int
  | _ => .int
abbrev wsX10 : List Cond := u_ws RX1 TX1 4
theorem nmX1 : ∀ a, a < 4 → ∀ b, b < 4 → a ≠ b → (TX1 a).2.1 ≠ (TX1 b).2.1 := by decide +kernel
theorem tyX1_ok : ∀ k, k < 4 → parseFieldDescriptor (TX1 k).2.2.1 = some (tyX1 k) := by decide +kernel
abbrev cX1_init : ByteArray := prog_3_method_1_code
def yX1_init : MethodName := ⟨RX1, "<init>", "(IIII)V"⟩
def RX2 : String := "FeatureStore"
def TX2 : u_T := fun k => match k with
  | 0 => ("FeatureStore", "now", "I", false)
  | 1 => ("FeatureStore", "lifetimes", "[I", true)
  | 2 => ("FeatureStore", "rows", "[LFeatureStore$Row;", true)
  | 3 => ("FeatureStore", "rowCount", "I", false)
  | 4 => ("FeatureStore", "latest", "[LFeatureStore$Row;", true)
  | 5 => ("FeatureStore", "onlineCopy", "[LFeatureStore$Row;", true)
  | 6 => ("FeatureStore", "taken", "I", false)
  | 7 => ("FeatureStore", "servings", "[LFeatureStore$Serving;", true)
  | _ => ("FeatureStore", "servingCount", "I", false)
def tyX2 : Nat → FieldType := fun k => match k with
  | 0 => .int
  | 1 => .array .int
  | 2 => .array (.object "FeatureStore$Row")
  | 3 => .int
  | 4 => .array (.object "FeatureStore$Row")
  | 5 => .array (.object "FeatureStore$Row")
  | 6 => .int
  | 7 => .array (.object "FeatureStore$Serving")
  | _ => .int
abbrev wsX20 : List Cond := u_ws RX2 TX2 9
theorem nmX2 : ∀ a, a < 9 → ∀ b, b < 9 → a ≠ b → (TX2 a).2.1 ≠ (TX2 b).2.1 := by decide +kernel
theorem tyX2_ok : ∀ k, k < 9 → parseFieldDescriptor (TX2 k).2.2.1 = some (tyX2 k) := by decide +kernel
abbrev cX2_init : ByteArray := prog_1_method_1_code
def yX2_init : MethodName := ⟨RX2, "<init>", "()V"⟩
abbrev cX2_arrive : ByteArray := prog_1_method_2_code
def yX2_arrive : MethodName := ⟨RX2, "arrive", "(IIII)I"⟩
abbrev cX2_pass : ByteArray := prog_1_method_3_code
def yX2_pass : MethodName := ⟨RX2, "pass", "(I)I"⟩
abbrev cX2_setLifetime : ByteArray := prog_1_method_4_code
def yX2_setLifetime : MethodName := ⟨RX2, "setLifetime", "(II)I"⟩
abbrev cX2_now : ByteArray := prog_1_method_5_code
def yX2_now : MethodName := ⟨RX2, "now", "()I"⟩
abbrev cX2_rows : ByteArray := prog_1_method_6_code
def yX2_rows : MethodName := ⟨RX2, "rows", "()I"⟩
abbrev cX2_value : ByteArray := prog_1_method_7_code
def yX2_value : MethodName := ⟨RX2, "value", "(I)I"⟩
abbrev cX2_late : ByteArray := prog_1_method_8_code
def yX2_late : MethodName := ⟨RX2, "late", "(I)I"⟩
abbrev cX2_join : ByteArray := prog_1_method_9_code
def yX2_join : MethodName := ⟨RX2, "join", "(IIII)I"⟩
abbrev cX2_window : ByteArray := prog_1_method_10_code
def yX2_window : MethodName := ⟨RX2, "window", "(IIII)I"⟩
abbrev cX2_greatestTile : ByteArray := prog_1_method_11_code
def yX2_greatestTile : MethodName := ⟨RX2, "greatestTile", "(III)I"⟩
abbrev cX2_tiles : ByteArray := prog_1_method_12_code
def yX2_tiles : MethodName := ⟨RX2, "tiles", "(III)I"⟩
abbrev cX2_revised : ByteArray := prog_1_method_13_code
def yX2_revised : MethodName := ⟨RX2, "revised", "(III)I"⟩
abbrev cX2_take : ByteArray := prog_1_method_14_code
def yX2_take : MethodName := ⟨RX2, "take", "(I)I"⟩
abbrev cX2_lag : ByteArray := prog_1_method_15_code
def yX2_lag : MethodName := ⟨RX2, "lag", "()I"⟩
abbrev cX2_online : ByteArray := prog_1_method_16_code
def yX2_online : MethodName := ⟨RX2, "online", "(II)I"⟩
abbrev cX2_skew : ByteArray := prog_1_method_17_code
def yX2_skew : MethodName := ⟨RX2, "skew", "()I"⟩
abbrev cX2_serve : ByteArray := prog_1_method_18_code
def yX2_serve : MethodName := ⟨RX2, "serve", "(II)I"⟩
abbrev cX2_servings : ByteArray := prog_1_method_19_code
def yX2_servings : MethodName := ⟨RX2, "servings", "()I"⟩
abbrev cX2_served : ByteArray := prog_1_method_20_code
def yX2_served : MethodName := ⟨RX2, "served", "(I)I"⟩
abbrev cX2_isSound : ByteArray := prog_1_method_21_code
def yX2_isSound : MethodName := ⟨RX2, "isSound", "(I)Z"⟩
abbrev cX2_unsound : ByteArray := prog_1_method_22_code
def yX2_unsound : MethodName := ⟨RX2, "unsound", "()I"⟩
abbrev cX2_requireRange : ByteArray := prog_1_method_23_code
def yX2_requireRange : MethodName := ⟨RX2, "requireRange", "(III)V"⟩
abbrev cX2_requirePair : ByteArray := prog_1_method_24_code
def yX2_requirePair : MethodName := ⟨RX2, "requirePair", "(II)V"⟩
abbrev cX2_requireRow : ByteArray := prog_1_method_25_code
def yX2_requireRow : MethodName := ⟨RX2, "requireRow", "(I)LFeatureStore$Row;"⟩
abbrev cX2_requireServing : ByteArray := prog_1_method_26_code
def yX2_requireServing : MethodName := ⟨RX2, "requireServing", "(I)LFeatureStore$Serving;"⟩
abbrev cX2_rowOrNull : ByteArray := prog_1_method_27_code
def yX2_rowOrNull : MethodName := ⟨RX2, "rowOrNull", "(I)LFeatureStore$Row;"⟩
abbrev cX2_placeOf : ByteArray := prog_1_method_28_code
def yX2_placeOf : MethodName := ⟨RX2, "placeOf", "(II)I"⟩
abbrev cX2_putInChain : ByteArray := prog_1_method_29_code
def yX2_putInChain : MethodName := ⟨RX2, "putInChain", "(LFeatureStore$Row;)V"⟩
abbrev cX2_find : ByteArray := prog_1_method_30_code
def yX2_find : MethodName := ⟨RX2, "find", "(IIII)I"⟩
abbrev cX2_tell : ByteArray := prog_1_method_31_code
def yX2_tell : MethodName := ⟨RX2, "tell", "(II)I"⟩
abbrev cX2_numberUnlessExpired : ByteArray := prog_1_method_32_code
def yX2_numberUnlessExpired : MethodName := ⟨RX2, "numberUnlessExpired", "(LFeatureStore$Row;I)I"⟩
abbrev cX2_takeIn : ByteArray := prog_1_method_33_code
def yX2_takeIn : MethodName := ⟨RX2, "takeIn", "(LFeatureStore$Row;)V"⟩
abbrev cX2_multiplesBelow : ByteArray := prog_1_method_34_code
def yX2_multiplesBelow : MethodName := ⟨RX2, "multiplesBelow", "(II)I"⟩
def RX3 : String := "FeatureStoreModel"
def TX3 : u_T := fun k => match k with
  | 0 => ("FeatureStoreModel", "thrown", "I", false)
  | 1 => ("FeatureStoreModel", "now", "I", false)
  | 2 => ("FeatureStoreModel", "lifetime", "[I", true)
  | 3 => ("FeatureStoreModel", "rows", "I", false)
  | 4 => ("FeatureStoreModel", "pair", "[I", true)
  | 5 => ("FeatureStoreModel", "event", "[I", true)
  | 6 => ("FeatureStoreModel", "arrival", "[I", true)
  | 7 => ("FeatureStoreModel", "value", "[I", true)
  | 8 => ("FeatureStoreModel", "taken", "I", false)
  | 9 => ("FeatureStoreModel", "copy", "[I", true)
  | 10 => ("FeatureStoreModel", "servings", "I", false)
  | 11 => ("FeatureStoreModel", "servedPair", "[I", true)
  | 12 => ("FeatureStoreModel", "servedAt", "[I", true)
  | _ => ("FeatureStoreModel", "served", "[I", true)
def tyX3 : Nat → FieldType := fun k => match k with
  | 0 => .int
  | 1 => .int
  | 2 => .array .int
  | 3 => .int
  | 4 => .array .int
  | 5 => .array .int
  | 6 => .array .int
  | 7 => .array .int
  | 8 => .int
  | 9 => .array .int
  | 10 => .int
  | 11 => .array .int
  | 12 => .array .int
  | _ => .array .int
abbrev wsX30 : List Cond := u_ws RX3 TX3 14
theorem nmX3 : ∀ a, a < 14 → ∀ b, b < 14 → a ≠ b → (TX3 a).2.1 ≠ (TX3 b).2.1 := by decide +kernel
theorem tyX3_ok : ∀ k, k < 14 → parseFieldDescriptor (TX3 k).2.2.1 = some (tyX3 k) := by decide +kernel
abbrev cX3_init : ByteArray := prog_5_method_1_code
def yX3_init : MethodName := ⟨RX3, "<init>", "()V"⟩
abbrev cX3_thrown : ByteArray := prog_5_method_2_code
def yX3_thrown : MethodName := ⟨RX3, "thrown", "()I"⟩
abbrev cX3_in : ByteArray := prog_5_method_3_code
def yX3_in : MethodName := ⟨RX3, "in", "(III)Z"⟩
abbrev cX3_isPair : ByteArray := prog_5_method_4_code
def yX3_isPair : MethodName := ⟨RX3, "isPair", "(II)Z"⟩
abbrev cX3_pairOf : ByteArray := prog_5_method_5_code
def yX3_pairOf : MethodName := ⟨RX3, "pairOf", "(II)I"⟩
abbrev cX3_arrive : ByteArray := prog_5_method_6_code
def yX3_arrive : MethodName := ⟨RX3, "arrive", "(IIII)I"⟩
abbrev cX3_pass : ByteArray := prog_5_method_7_code
def yX3_pass : MethodName := ⟨RX3, "pass", "(I)I"⟩
abbrev cX3_setLifetime : ByteArray := prog_5_method_8_code
def yX3_setLifetime : MethodName := ⟨RX3, "setLifetime", "(II)I"⟩
abbrev cX3_now : ByteArray := prog_5_method_9_code
def yX3_now : MethodName := ⟨RX3, "now", "()I"⟩
abbrev cX3_rows : ByteArray := prog_5_method_10_code
def yX3_rows : MethodName := ⟨RX3, "rows", "()I"⟩
abbrev cX3_asksRow : ByteArray := prog_5_method_11_code
def yX3_asksRow : MethodName := ⟨RX3, "asksRow", "(I)Z"⟩
abbrev cX3_value : ByteArray := prog_5_method_12_code
def yX3_value : MethodName := ⟨RX3, "value", "(I)I"⟩
abbrev cX3_late : ByteArray := prog_5_method_13_code
def yX3_late : MethodName := ⟨RX3, "late", "(I)I"⟩
abbrev cX3_fresh : ByteArray := prog_5_method_14_code
def yX3_fresh : MethodName := ⟨RX3, "fresh", "(II)I"⟩
abbrev cX3_joins : ByteArray := prog_5_method_15_code
def yX3_joins : MethodName := ⟨RX3, "joins", "(III)I"⟩
abbrev cX3_join : ByteArray := prog_5_method_16_code
def yX3_join : MethodName := ⟨RX3, "join", "(IIII)I"⟩
abbrev cX3_sums : ByteArray := prog_5_method_17_code
def yX3_sums : MethodName := ⟨RX3, "sums", "(III)I"⟩
abbrev cX3_window : ByteArray := prog_5_method_18_code
def yX3_window : MethodName := ⟨RX3, "window", "(IIII)I"⟩
abbrev cX3_isFirst : ByteArray := prog_5_method_19_code
def yX3_isFirst : MethodName := ⟨RX3, "isFirst", "(II)Z"⟩
abbrev cX3_asksTiles : ByteArray := prog_5_method_20_code
def yX3_asksTiles : MethodName := ⟨RX3, "asksTiles", "(III)Z"⟩
abbrev cX3_greatestTile : ByteArray := prog_5_method_21_code
def yX3_greatestTile : MethodName := ⟨RX3, "greatestTile", "(III)I"⟩
abbrev cX3_tiles : ByteArray := prog_5_method_22_code
def yX3_tiles : MethodName := ⟨RX3, "tiles", "(III)I"⟩
abbrev cX3_revised : ByteArray := prog_5_method_23_code
def yX3_revised : MethodName := ⟨RX3, "revised", "(III)I"⟩
abbrev cX3_take : ByteArray := prog_5_method_24_code
def yX3_take : MethodName := ⟨RX3, "take", "(I)I"⟩
abbrev cX3_lag : ByteArray := prog_5_method_25_code
def yX3_lag : MethodName := ⟨RX3, "lag", "()I"⟩
abbrev cX3_online : ByteArray := prog_5_method_26_code
def yX3_online : MethodName := ⟨RX3, "online", "(II)I"⟩
abbrev cX3_skew : ByteArray := prog_5_method_27_code
def yX3_skew : MethodName := ⟨RX3, "skew", "()I"⟩
abbrev cX3_serve : ByteArray := prog_5_method_28_code
def yX3_serve : MethodName := ⟨RX3, "serve", "(II)I"⟩
abbrev cX3_servings : ByteArray := prog_5_method_29_code
def yX3_servings : MethodName := ⟨RX3, "servings", "()I"⟩
abbrev cX3_asksServing : ByteArray := prog_5_method_30_code
def yX3_asksServing : MethodName := ⟨RX3, "asksServing", "(I)Z"⟩
abbrev cX3_served : ByteArray := prog_5_method_31_code
def yX3_served : MethodName := ⟨RX3, "served", "(I)I"⟩
abbrev cX3_isRight : ByteArray := prog_5_method_32_code
def yX3_isRight : MethodName := ⟨RX3, "isRight", "(I)Z"⟩
abbrev cX3_isSound : ByteArray := prog_5_method_33_code
def yX3_isSound : MethodName := ⟨RX3, "isSound", "(I)Z"⟩
abbrev cX3_unsound : ByteArray := prog_5_method_34_code
def yX3_unsound : MethodName := ⟨RX3, "unsound", "()I"⟩
def RJ9 : String := "java/lang/Math"
def TJ9 : u_T := fun k => match k with
  | _ => ("", "", "", false)
def tyJ9 : Nat → FieldType := fun k => match k with
  | _ => .int
abbrev wsJ90 : List Cond := u_ws RJ9 TJ9 0
theorem nmJ9 : ∀ a, a < 0 → ∀ b, b < 0 → a ≠ b → (TJ9 a).2.1 ≠ (TJ9 b).2.1 := by decide +kernel
theorem tyJ9_ok : ∀ k, k < 0 → parseFieldDescriptor (TJ9 k).2.2.1 = some (tyJ9 k) := by decide +kernel
abbrev cJ9_max_7cf53 : ByteArray := prog_10_method_65_code
def yJ9_max_7cf53 : MethodName := ⟨RJ9, "max", "(II)I"⟩
abbrev cJ9_min_7cf53 : ByteArray := prog_10_method_69_code
def yJ9_min_7cf53 : MethodName := ⟨RJ9, "min", "(II)I"⟩
def RJ0 : String := "java/lang/String"
def TJ0 : u_T := fun k => match k with
  | _ => ("", "", "", false)
def tyJ0 : Nat → FieldType := fun k => match k with
  | _ => .int
abbrev wsJ00 : List Cond := u_ws RJ0 TJ0 0
theorem nmJ0 : ∀ a, a < 0 → ∀ b, b < 0 → a ≠ b → (TJ0 a).2.1 ≠ (TJ0 b).2.1 := by decide +kernel
theorem tyJ0_ok : ∀ k, k < 0 → parseFieldDescriptor (TJ0 k).2.2.1 = some (tyJ0 k) := by decide +kernel
def RL : String := "FeatureStoreLaw"
abbrev cL_arrive : ByteArray := method_3_code
def yL_arrive : MethodName := ⟨RL, "arrive", "(LFeatureStore;IIII[J)I"⟩
abbrev cL_pass : ByteArray := method_4_code
def yL_pass : MethodName := ⟨RL, "pass", "(LFeatureStore;I[J)I"⟩
abbrev cL_setLifetime : ByteArray := method_5_code
def yL_setLifetime : MethodName := ⟨RL, "setLifetime", "(LFeatureStore;II[J)I"⟩
abbrev cL_value : ByteArray := method_6_code
def yL_value : MethodName := ⟨RL, "value", "(LFeatureStore;I[J)I"⟩
abbrev cL_late : ByteArray := method_7_code
def yL_late : MethodName := ⟨RL, "late", "(LFeatureStore;I[J)I"⟩
abbrev cL_join : ByteArray := method_8_code
def yL_join : MethodName := ⟨RL, "join", "(LFeatureStore;IIII[J)I"⟩
abbrev cL_window : ByteArray := method_9_code
def yL_window : MethodName := ⟨RL, "window", "(LFeatureStore;IIII[J)I"⟩
abbrev cL_greatestTile : ByteArray := method_10_code
def yL_greatestTile : MethodName := ⟨RL, "greatestTile", "(LFeatureStore;III[J)I"⟩
abbrev cL_tiles : ByteArray := method_11_code
def yL_tiles : MethodName := ⟨RL, "tiles", "(LFeatureStore;III[J)I"⟩
abbrev cL_revised : ByteArray := method_12_code
def yL_revised : MethodName := ⟨RL, "revised", "(LFeatureStore;III[J)I"⟩
abbrev cL_take : ByteArray := method_13_code
def yL_take : MethodName := ⟨RL, "take", "(LFeatureStore;I[J)I"⟩
abbrev cL_online : ByteArray := method_14_code
def yL_online : MethodName := ⟨RL, "online", "(LFeatureStore;II[J)I"⟩
abbrev cL_serve : ByteArray := method_15_code
def yL_serve : MethodName := ⟨RL, "serve", "(LFeatureStore;II[J)I"⟩
abbrev cL_served : ByteArray := method_16_code
def yL_served : MethodName := ⟨RL, "served", "(LFeatureStore;I[J)I"⟩
abbrev cL_isSound : ByteArray := method_17_code
def yL_isSound : MethodName := ⟨RL, "isSound", "(LFeatureStore;I[J)I"⟩
abbrev cL_law : ByteArray := code
def yL_law : MethodName := ⟨RL, "law", "([I)Z"⟩
def wsX0_init : List Cond := .code yX0_init cX0_init 7 none :: ([.methodLink RX0 1 objectInit, .instanceMethod objectInit, .code objectInit ⟨#[0xb1]⟩ 1 none, .fieldLink RX0 7 "FeatureStore$Row" "number" "I", .fieldLink RX0 13 "FeatureStore$Row" "feature" "I", .fieldLink RX0 16 "FeatureStore$Row" "entity" "I", .fieldLink RX0 19 "FeatureStore$Row" "event" "I", .fieldLink RX0 22 "FeatureStore$Row" "arrival" "I", .fieldLink RX0 25 "FeatureStore$Row" "value" "I"] ++ wsX00)
def wsX1_init : List Cond := .code yX1_init cX1_init 5 none :: ([.methodLink RX1 1 objectInit, .instanceMethod objectInit, .code objectInit ⟨#[0xb1]⟩ 1 none, .fieldLink RX1 7 "FeatureStore$Serving" "feature" "I", .fieldLink RX1 13 "FeatureStore$Serving" "entity" "I", .fieldLink RX1 16 "FeatureStore$Serving" "time" "I", .fieldLink RX1 19 "FeatureStore$Serving" "row" "I"] ++ wsX10)
def wsX2_init : List Cond := .code yX2_init cX2_init 2 none :: ([.methodLink RX2 1 objectInit, .instanceMethod objectInit, .code objectInit ⟨#[0xb1]⟩ 1 none, .arrayClass .int, .fieldLink RX2 9 "FeatureStore" "lifetimes" "[I", .classLink RX2 13 RX0, .fieldLink RX2 15 "FeatureStore" "rows" "[LFeatureStore$Row;", .fieldLink RX2 19 "FeatureStore" "latest" "[LFeatureStore$Row;", .fieldLink RX2 22 "FeatureStore" "onlineCopy" "[LFeatureStore$Row;", .classLink RX2 25 RX1, .fieldLink RX2 27 "FeatureStore" "servings" "[LFeatureStore$Serving;"] ++ wsX20)
def wsX2_requireRange : List Cond := .code yX2_requireRange cX2_requireRange 3 none :: ([.classLink RX2 142 "java/lang/IllegalArgumentException", .initialized "java/lang/IllegalArgumentException"] ++ (vx_atS RX2 146 "java/lang/IllegalArgumentException" ["java/lang/RuntimeException", "java/lang/Exception"]).filter goodWord)
def wsX2_requirePair : List Cond := .code yX2_requirePair cX2_requirePair 2 none :: ([.methodLink RX2 39 yX2_requireRange, .static yX2_requireRange, .initialized RX2, .code yX2_requireRange cX2_requireRange 3 none, .classLink RX2 142 "java/lang/IllegalArgumentException", .initialized "java/lang/IllegalArgumentException"] ++ (vx_atS RX2 146 "java/lang/IllegalArgumentException" ["java/lang/RuntimeException", "java/lang/Exception"]).filter goodWord)
def wsX2_placeOf : List Cond := .code yX2_placeOf cX2_placeOf 2 (some .int) :: ([])
def wsX2_putInChain : List Cond := .code yX2_putInChain cX2_putInChain 5 none :: ([.fieldLink RX2 154 "FeatureStore$Row" "feature" "I", .fieldLink RX2 155 "FeatureStore$Row" "entity" "I", .fieldLink RX2 19 "FeatureStore" "latest" "[LFeatureStore$Row;", .fieldLink RX2 76 "FeatureStore$Row" "event" "I", .fieldLink RX2 87 "FeatureStore$Row" "older" "LFeatureStore$Row;", .methodLink RX2 83 yX2_placeOf, .static yX2_placeOf, .initialized RX2, .code yX2_placeOf cX2_placeOf 2 (some .int)] ++ wsX00 ++ wsX20)
def wsX2_arrive_r1 : List Cond := [Cond.classLink RX2 47 "java/lang/IllegalStateException", Cond.initialized "java/lang/IllegalStateException", Cond.fieldLink RX2 35 "FeatureStore" "now" "I", Cond.constant RX2 43 (100000), Cond.fieldLink RX2 44 "FeatureStore" "rowCount" "I", Cond.classLink RX2 13 RX0, Cond.instantiable RX0 7, Cond.initialized RX0, Cond.fieldLink RX2 15 "FeatureStore" "rows" "[LFeatureStore$Row;", Cond.fieldLink RX2 61 "FeatureStore$Row" "number" "I", Cond.methodLink RX2 31 yX2_requirePair, Cond.static yX2_requirePair, Cond.initialized RX2, Cond.code yX2_requirePair cX2_requirePair 2 none, Cond.methodLink RX2 39 yX2_requireRange, Cond.static yX2_requireRange, Cond.code yX2_requireRange cX2_requireRange 3 none, Cond.classLink RX2 142 "java/lang/IllegalArgumentException", Cond.initialized "java/lang/IllegalArgumentException", Cond.methodLink RX2 54 yX0_init, Cond.instanceMethod yX0_init, Cond.code yX0_init cX0_init 7 none, Cond.methodLink RX0 1 objectInit, Cond.instanceMethod objectInit]
def wsX2_arrive_r2 : List Cond := [Cond.code objectInit ⟨#[0xb1]⟩ 1 none, Cond.fieldLink RX0 7 "FeatureStore$Row" "number" "I", Cond.fieldLink RX0 13 "FeatureStore$Row" "feature" "I", Cond.fieldLink RX0 16 "FeatureStore$Row" "entity" "I", Cond.fieldLink RX0 19 "FeatureStore$Row" "event" "I", Cond.fieldLink RX0 22 "FeatureStore$Row" "arrival" "I", Cond.fieldLink RX0 25 "FeatureStore$Row" "value" "I", Cond.methodLink RX2 57 yX2_putInChain, Cond.instanceMethod yX2_putInChain, Cond.selects RX2 yX2_putInChain yX2_putInChain, Cond.code yX2_putInChain cX2_putInChain 5 none, Cond.fieldLink RX2 154 "FeatureStore$Row" "feature" "I", Cond.fieldLink RX2 155 "FeatureStore$Row" "entity" "I", Cond.fieldLink RX2 19 "FeatureStore" "latest" "[LFeatureStore$Row;", Cond.fieldLink RX2 76 "FeatureStore$Row" "event" "I", Cond.fieldLink RX2 87 "FeatureStore$Row" "older" "LFeatureStore$Row;", Cond.methodLink RX2 83 yX2_placeOf, Cond.static yX2_placeOf, Cond.code yX2_placeOf cX2_placeOf 2 (some .int)]
def wsX2_arrive : List Cond := .code yX2_arrive cX2_arrive 6 (some .int) :: ((wsX2_arrive_r1 ++ wsX2_arrive_r2) ++ wsX20 ++ wsX00 ++ (vx_atS RX2 51 "java/lang/IllegalStateException" ["java/lang/RuntimeException", "java/lang/Exception"]).filter goodWord ++ (vx_atS RX2 146 "java/lang/IllegalArgumentException" ["java/lang/RuntimeException", "java/lang/Exception"]).filter goodWord)
def wsX2_pass : List Cond := .code yX2_pass cX2_pass 2 (some .int) :: ([.classLink RX2 47 "java/lang/IllegalStateException", .initialized "java/lang/IllegalStateException", .fieldLink RX2 35 "FeatureStore" "now" "I", .methodLink RX2 39 yX2_requireRange, .static yX2_requireRange, .initialized RX2, .code yX2_requireRange cX2_requireRange 3 none, .classLink RX2 142 "java/lang/IllegalArgumentException", .initialized "java/lang/IllegalArgumentException"] ++ wsX20 ++ (vx_atS RX2 51 "java/lang/IllegalStateException" ["java/lang/RuntimeException", "java/lang/Exception"]).filter goodWord ++ (vx_atS RX2 146 "java/lang/IllegalArgumentException" ["java/lang/RuntimeException", "java/lang/Exception"]).filter goodWord)
def wsX2_setLifetime : List Cond := .code yX2_setLifetime cX2_setLifetime 4 (some .int) :: ([.fieldLink RX2 9 "FeatureStore" "lifetimes" "[I", .methodLink RX2 39 yX2_requireRange, .static yX2_requireRange, .initialized RX2, .code yX2_requireRange cX2_requireRange 3 none, .classLink RX2 142 "java/lang/IllegalArgumentException", .initialized "java/lang/IllegalArgumentException"] ++ wsX20 ++ (vx_atS RX2 146 "java/lang/IllegalArgumentException" ["java/lang/RuntimeException", "java/lang/Exception"]).filter goodWord)
def wsX2_now : List Cond := .code yX2_now cX2_now 1 (some .int) :: ([.fieldLink RX2 35 "FeatureStore" "now" "I"] ++ wsX20)
def wsX2_rows : List Cond := .code yX2_rows cX2_rows 1 (some .int) :: ([.fieldLink RX2 44 "FeatureStore" "rowCount" "I"] ++ wsX20)
def wsX2_rowOrNull : List Cond := .code yX2_rowOrNull cX2_rowOrNull 2 (some (.object "FeatureStore$Row")) :: ([.fieldLink RX2 44 "FeatureStore" "rowCount" "I", .fieldLink RX2 15 "FeatureStore" "rows" "[LFeatureStore$Row;"] ++ wsX20)
def wsX2_requireRow : List Cond := .code yX2_requireRow cX2_requireRow 3 (some (.object "FeatureStore$Row")) :: ([.classLink RX2 147 "java/lang/IndexOutOfBoundsException", .initialized "java/lang/IndexOutOfBoundsException", .methodLink RX2 105 yX2_rowOrNull, .instanceMethod yX2_rowOrNull, .selects RX2 yX2_rowOrNull yX2_rowOrNull, .initialized RX2, .code yX2_rowOrNull cX2_rowOrNull 2 (some (.object "FeatureStore$Row")), .fieldLink RX2 44 "FeatureStore" "rowCount" "I", .fieldLink RX2 15 "FeatureStore" "rows" "[LFeatureStore$Row;"] ++ wsX20 ++ (vx_atS RX2 151 "java/lang/IndexOutOfBoundsException" ["java/lang/RuntimeException", "java/lang/Exception"]).filter goodWord)
def wsX2_value : List Cond := .code yX2_value cX2_value 2 (some .int) :: ([.fieldLink RX2 70 "FeatureStore$Row" "value" "I", .methodLink RX2 66 yX2_requireRow, .instanceMethod yX2_requireRow, .selects RX2 yX2_requireRow yX2_requireRow, .initialized RX2, .code yX2_requireRow cX2_requireRow 3 (some (.object "FeatureStore$Row")), .classLink RX2 147 "java/lang/IndexOutOfBoundsException", .initialized "java/lang/IndexOutOfBoundsException", .methodLink RX2 105 yX2_rowOrNull, .instanceMethod yX2_rowOrNull, .selects RX2 yX2_rowOrNull yX2_rowOrNull, .code yX2_rowOrNull cX2_rowOrNull 2 (some (.object "FeatureStore$Row")), .fieldLink RX2 44 "FeatureStore" "rowCount" "I", .fieldLink RX2 15 "FeatureStore" "rows" "[LFeatureStore$Row;"] ++ wsX00 ++ wsX20 ++ (vx_atS RX2 151 "java/lang/IndexOutOfBoundsException" ["java/lang/RuntimeException", "java/lang/Exception"]).filter goodWord)
def wsX2_late : List Cond := .code yX2_late cX2_late 3 (some .int) :: ([.fieldLink RX2 73 "FeatureStore$Row" "arrival" "I", .fieldLink RX2 76 "FeatureStore$Row" "event" "I", .methodLink RX2 66 yX2_requireRow, .instanceMethod yX2_requireRow, .selects RX2 yX2_requireRow yX2_requireRow, .initialized RX2, .code yX2_requireRow cX2_requireRow 3 (some (.object "FeatureStore$Row")), .classLink RX2 147 "java/lang/IndexOutOfBoundsException", .initialized "java/lang/IndexOutOfBoundsException", .methodLink RX2 105 yX2_rowOrNull, .instanceMethod yX2_rowOrNull, .selects RX2 yX2_rowOrNull yX2_rowOrNull, .code yX2_rowOrNull cX2_rowOrNull 2 (some (.object "FeatureStore$Row")), .fieldLink RX2 44 "FeatureStore" "rowCount" "I", .fieldLink RX2 15 "FeatureStore" "rows" "[LFeatureStore$Row;"] ++ wsX00 ++ wsX20 ++ (vx_atS RX2 151 "java/lang/IndexOutOfBoundsException" ["java/lang/RuntimeException", "java/lang/Exception"]).filter goodWord)
def wsX2_numberUnlessExpired : List Cond := .code yX2_numberUnlessExpired cX2_numberUnlessExpired 3 (some .int) :: ([.fieldLink RX2 76 "FeatureStore$Row" "event" "I", .fieldLink RX2 9 "FeatureStore" "lifetimes" "[I", .fieldLink RX2 154 "FeatureStore$Row" "feature" "I", .fieldLink RX2 61 "FeatureStore$Row" "number" "I"] ++ wsX00 ++ wsX20)
def wsX2_find : List Cond := .code yX2_find cX2_find 6 (some .int) :: ([.fieldLink RX2 19 "FeatureStore" "latest" "[LFeatureStore$Row;", .fieldLink RX2 76 "FeatureStore$Row" "event" "I", .fieldLink RX2 73 "FeatureStore$Row" "arrival" "I", .fieldLink RX2 87 "FeatureStore$Row" "older" "LFeatureStore$Row;", .methodLink RX2 83 yX2_placeOf, .static yX2_placeOf, .initialized RX2, .code yX2_placeOf cX2_placeOf 2 (some .int), .methodLink RX2 156 yX2_numberUnlessExpired, .instanceMethod yX2_numberUnlessExpired, .selects RX2 yX2_numberUnlessExpired yX2_numberUnlessExpired, .code yX2_numberUnlessExpired cX2_numberUnlessExpired 3 (some .int), .fieldLink RX2 9 "FeatureStore" "lifetimes" "[I", .fieldLink RX2 154 "FeatureStore$Row" "feature" "I", .fieldLink RX2 61 "FeatureStore$Row" "number" "I"] ++ wsX20 ++ wsX00)
def wsX2_join_r1 : List Cond := [Cond.fieldLink RX2 35 "FeatureStore" "now" "I", Cond.methodLink RX2 31 yX2_requirePair, Cond.static yX2_requirePair, Cond.initialized RX2, Cond.code yX2_requirePair cX2_requirePair 2 none, Cond.methodLink RX2 39 yX2_requireRange, Cond.static yX2_requireRange, Cond.code yX2_requireRange cX2_requireRange 3 none, Cond.classLink RX2 142 "java/lang/IllegalArgumentException", Cond.initialized "java/lang/IllegalArgumentException", Cond.methodLink RX2 79 yX2_find, Cond.instanceMethod yX2_find, Cond.selects RX2 yX2_find yX2_find, Cond.code yX2_find cX2_find 6 (some .int), Cond.fieldLink RX2 19 "FeatureStore" "latest" "[LFeatureStore$Row;", Cond.fieldLink RX2 76 "FeatureStore$Row" "event" "I", Cond.fieldLink RX2 73 "FeatureStore$Row" "arrival" "I", Cond.fieldLink RX2 87 "FeatureStore$Row" "older" "LFeatureStore$Row;", Cond.methodLink RX2 83 yX2_placeOf, Cond.static yX2_placeOf, Cond.code yX2_placeOf cX2_placeOf 2 (some .int), Cond.methodLink RX2 156 yX2_numberUnlessExpired, Cond.instanceMethod yX2_numberUnlessExpired, Cond.selects RX2 yX2_numberUnlessExpired yX2_numberUnlessExpired]
def wsX2_join_r2 : List Cond := [Cond.code yX2_numberUnlessExpired cX2_numberUnlessExpired 3 (some .int), Cond.fieldLink RX2 9 "FeatureStore" "lifetimes" "[I", Cond.fieldLink RX2 154 "FeatureStore$Row" "feature" "I", Cond.fieldLink RX2 61 "FeatureStore$Row" "number" "I"]
def wsX2_join : List Cond := .code yX2_join cX2_join 5 (some .int) :: ((wsX2_join_r1 ++ wsX2_join_r2) ++ wsX20 ++ wsX00 ++ (vx_atS RX2 146 "java/lang/IllegalArgumentException" ["java/lang/RuntimeException", "java/lang/Exception"]).filter goodWord)
def wsX2_window : List Cond := .code yX2_window cX2_window 7 (some .int) :: ([.fieldLink RX2 19 "FeatureStore" "latest" "[LFeatureStore$Row;", .fieldLink RX2 76 "FeatureStore$Row" "event" "I", .fieldLink RX2 70 "FeatureStore$Row" "value" "I", .fieldLink RX2 87 "FeatureStore$Row" "older" "LFeatureStore$Row;", .methodLink RX2 31 yX2_requirePair, .static yX2_requirePair, .initialized RX2, .code yX2_requirePair cX2_requirePair 2 none, .methodLink RX2 39 yX2_requireRange, .static yX2_requireRange, .code yX2_requireRange cX2_requireRange 3 none, .classLink RX2 142 "java/lang/IllegalArgumentException", .initialized "java/lang/IllegalArgumentException", .methodLink RX2 83 yX2_placeOf, .static yX2_placeOf, .code yX2_placeOf cX2_placeOf 2 (some .int)] ++ wsX20 ++ wsX00 ++ (vx_atS RX2 146 "java/lang/IllegalArgumentException" ["java/lang/RuntimeException", "java/lang/Exception"]).filter goodWord)
def wsX2_greatestTile : List Cond := .code yX2_greatestTile cX2_greatestTile 9 (some .int) :: ([.fieldLink RX2 19 "FeatureStore" "latest" "[LFeatureStore$Row;", .fieldLink RX2 76 "FeatureStore$Row" "event" "I", .fieldLink RX2 70 "FeatureStore$Row" "value" "I", .methodLink RX2 91 Lib.Math.max.name, .static Lib.Math.max.name, .initialized "java/lang/Math", .code Lib.Math.max.name Lib.Math.max.code 2 (some .int), .fieldLink RX2 87 "FeatureStore$Row" "older" "LFeatureStore$Row;", .methodLink RX2 31 yX2_requirePair, .static yX2_requirePair, .initialized RX2, .code yX2_requirePair cX2_requirePair 2 none, .methodLink RX2 39 yX2_requireRange, .static yX2_requireRange, .code yX2_requireRange cX2_requireRange 3 none, .classLink RX2 142 "java/lang/IllegalArgumentException", .initialized "java/lang/IllegalArgumentException", .methodLink RX2 83 yX2_placeOf, .static yX2_placeOf, .code yX2_placeOf cX2_placeOf 2 (some .int)] ++ wsX20 ++ wsX00 ++ (vx_atS RX2 146 "java/lang/IllegalArgumentException" ["java/lang/RuntimeException", "java/lang/Exception"]).filter goodWord)
def wsX2_tiles : List Cond := .code yX2_tiles cX2_tiles 8 (some .int) :: ([.fieldLink RX2 19 "FeatureStore" "latest" "[LFeatureStore$Row;", .fieldLink RX2 76 "FeatureStore$Row" "event" "I", .fieldLink RX2 87 "FeatureStore$Row" "older" "LFeatureStore$Row;", .methodLink RX2 31 yX2_requirePair, .static yX2_requirePair, .initialized RX2, .code yX2_requirePair cX2_requirePair 2 none, .methodLink RX2 39 yX2_requireRange, .static yX2_requireRange, .code yX2_requireRange cX2_requireRange 3 none, .classLink RX2 142 "java/lang/IllegalArgumentException", .initialized "java/lang/IllegalArgumentException", .methodLink RX2 83 yX2_placeOf, .static yX2_placeOf, .code yX2_placeOf cX2_placeOf 2 (some .int)] ++ wsX20 ++ wsX00 ++ (vx_atS RX2 146 "java/lang/IllegalArgumentException" ["java/lang/RuntimeException", "java/lang/Exception"]).filter goodWord)
def wsX2_multiplesBelow : List Cond := .code yX2_multiplesBelow cX2_multiplesBelow 2 (some .int) :: ([])
def wsX2_revised_r1 : List Cond := [Cond.fieldLink RX2 35 "FeatureStore" "now" "I", Cond.fieldLink RX2 19 "FeatureStore" "latest" "[LFeatureStore$Row;", Cond.fieldLink RX2 76 "FeatureStore$Row" "event" "I", Cond.fieldLink RX2 9 "FeatureStore" "lifetimes" "[I", Cond.methodLink RX2 96 Lib.Math.min.name, Cond.static Lib.Math.min.name, Cond.initialized "java/lang/Math", Cond.code Lib.Math.min.name Lib.Math.min.code 2 (some .int), Cond.fieldLink RX2 73 "FeatureStore$Row" "arrival" "I", Cond.fieldLink RX2 87 "FeatureStore$Row" "older" "LFeatureStore$Row;", Cond.methodLink RX2 31 yX2_requirePair, Cond.static yX2_requirePair, Cond.initialized RX2, Cond.code yX2_requirePair cX2_requirePair 2 none, Cond.methodLink RX2 39 yX2_requireRange, Cond.static yX2_requireRange, Cond.code yX2_requireRange cX2_requireRange 3 none, Cond.classLink RX2 142 "java/lang/IllegalArgumentException", Cond.initialized "java/lang/IllegalArgumentException", Cond.methodLink RX2 83 yX2_placeOf, Cond.static yX2_placeOf, Cond.code yX2_placeOf cX2_placeOf 2 (some .int), Cond.methodLink RX2 99 yX2_multiplesBelow, Cond.static yX2_multiplesBelow]
def wsX2_revised_r2 : List Cond := [Cond.code yX2_multiplesBelow cX2_multiplesBelow 2 (some .int)]
def wsX2_revised : List Cond := .code yX2_revised cX2_revised 9 (some .int) :: ((wsX2_revised_r1 ++ wsX2_revised_r2) ++ wsX20 ++ wsX00 ++ (vx_atS RX2 146 "java/lang/IllegalArgumentException" ["java/lang/RuntimeException", "java/lang/Exception"]).filter goodWord)
def wsX2_takeIn : List Cond := .code yX2_takeIn cX2_takeIn 4 none :: ([.fieldLink RX2 154 "FeatureStore$Row" "feature" "I", .fieldLink RX2 155 "FeatureStore$Row" "entity" "I", .fieldLink RX2 22 "FeatureStore" "onlineCopy" "[LFeatureStore$Row;", .fieldLink RX2 76 "FeatureStore$Row" "event" "I", .methodLink RX2 83 yX2_placeOf, .static yX2_placeOf, .initialized RX2, .code yX2_placeOf cX2_placeOf 2 (some .int)] ++ wsX00 ++ wsX20)
def wsX2_take : List Cond := .code yX2_take cX2_take 4 (some .int) :: ([.fieldLink RX2 102 "FeatureStore" "taken" "I", .methodLink RX2 39 yX2_requireRange, .static yX2_requireRange, .initialized RX2, .code yX2_requireRange cX2_requireRange 3 none, .classLink RX2 142 "java/lang/IllegalArgumentException", .initialized "java/lang/IllegalArgumentException", .methodLink RX2 105 yX2_rowOrNull, .instanceMethod yX2_rowOrNull, .selects RX2 yX2_rowOrNull yX2_rowOrNull, .code yX2_rowOrNull cX2_rowOrNull 2 (some (.object "FeatureStore$Row")), .fieldLink RX2 44 "FeatureStore" "rowCount" "I", .fieldLink RX2 15 "FeatureStore" "rows" "[LFeatureStore$Row;", .methodLink RX2 108 yX2_takeIn, .instanceMethod yX2_takeIn, .selects RX2 yX2_takeIn yX2_takeIn, .code yX2_takeIn cX2_takeIn 4 none, .fieldLink RX2 154 "FeatureStore$Row" "feature" "I", .fieldLink RX2 155 "FeatureStore$Row" "entity" "I", .fieldLink RX2 22 "FeatureStore" "onlineCopy" "[LFeatureStore$Row;", .fieldLink RX2 76 "FeatureStore$Row" "event" "I", .methodLink RX2 83 yX2_placeOf, .static yX2_placeOf, .code yX2_placeOf cX2_placeOf 2 (some .int)] ++ wsX20 ++ wsX00 ++ (vx_atS RX2 146 "java/lang/IllegalArgumentException" ["java/lang/RuntimeException", "java/lang/Exception"]).filter goodWord)
def wsX2_lag : List Cond := .code yX2_lag cX2_lag 1 (some .int) :: ([.fieldLink RX2 44 "FeatureStore" "rowCount" "I", .fieldLink RX2 102 "FeatureStore" "taken" "I"] ++ wsX20)
def wsX2_tell : List Cond := .code yX2_tell cX2_tell 3 (some .int) :: ([.fieldLink RX2 22 "FeatureStore" "onlineCopy" "[LFeatureStore$Row;", .fieldLink RX2 35 "FeatureStore" "now" "I", .methodLink RX2 83 yX2_placeOf, .static yX2_placeOf, .initialized RX2, .code yX2_placeOf cX2_placeOf 2 (some .int), .methodLink RX2 156 yX2_numberUnlessExpired, .instanceMethod yX2_numberUnlessExpired, .selects RX2 yX2_numberUnlessExpired yX2_numberUnlessExpired, .code yX2_numberUnlessExpired cX2_numberUnlessExpired 3 (some .int), .fieldLink RX2 76 "FeatureStore$Row" "event" "I", .fieldLink RX2 9 "FeatureStore" "lifetimes" "[I", .fieldLink RX2 154 "FeatureStore$Row" "feature" "I", .fieldLink RX2 61 "FeatureStore$Row" "number" "I"] ++ wsX20 ++ wsX00)
def wsX2_online_r1 : List Cond := [Cond.methodLink RX2 31 yX2_requirePair, Cond.static yX2_requirePair, Cond.initialized RX2, Cond.code yX2_requirePair cX2_requirePair 2 none, Cond.methodLink RX2 39 yX2_requireRange, Cond.static yX2_requireRange, Cond.code yX2_requireRange cX2_requireRange 3 none, Cond.classLink RX2 142 "java/lang/IllegalArgumentException", Cond.initialized "java/lang/IllegalArgumentException", Cond.methodLink RX2 111 yX2_tell, Cond.instanceMethod yX2_tell, Cond.selects RX2 yX2_tell yX2_tell, Cond.code yX2_tell cX2_tell 3 (some .int), Cond.fieldLink RX2 22 "FeatureStore" "onlineCopy" "[LFeatureStore$Row;", Cond.fieldLink RX2 35 "FeatureStore" "now" "I", Cond.methodLink RX2 83 yX2_placeOf, Cond.static yX2_placeOf, Cond.code yX2_placeOf cX2_placeOf 2 (some .int), Cond.methodLink RX2 156 yX2_numberUnlessExpired, Cond.instanceMethod yX2_numberUnlessExpired, Cond.selects RX2 yX2_numberUnlessExpired yX2_numberUnlessExpired, Cond.code yX2_numberUnlessExpired cX2_numberUnlessExpired 3 (some .int), Cond.fieldLink RX2 76 "FeatureStore$Row" "event" "I", Cond.fieldLink RX2 9 "FeatureStore" "lifetimes" "[I"]
def wsX2_online_r2 : List Cond := [Cond.fieldLink RX2 154 "FeatureStore$Row" "feature" "I", Cond.fieldLink RX2 61 "FeatureStore$Row" "number" "I"]
def wsX2_online : List Cond := .code yX2_online cX2_online 3 (some .int) :: ((wsX2_online_r1 ++ wsX2_online_r2) ++ wsX20 ++ wsX00 ++ (vx_atS RX2 146 "java/lang/IllegalArgumentException" ["java/lang/RuntimeException", "java/lang/Exception"]).filter goodWord)
def wsX2_skew_r1 : List Cond := [Cond.fieldLink RX2 35 "FeatureStore" "now" "I", Cond.methodLink RX2 111 yX2_tell, Cond.instanceMethod yX2_tell, Cond.selects RX2 yX2_tell yX2_tell, Cond.initialized RX2, Cond.code yX2_tell cX2_tell 3 (some .int), Cond.fieldLink RX2 22 "FeatureStore" "onlineCopy" "[LFeatureStore$Row;", Cond.methodLink RX2 83 yX2_placeOf, Cond.static yX2_placeOf, Cond.code yX2_placeOf cX2_placeOf 2 (some .int), Cond.methodLink RX2 156 yX2_numberUnlessExpired, Cond.instanceMethod yX2_numberUnlessExpired, Cond.selects RX2 yX2_numberUnlessExpired yX2_numberUnlessExpired, Cond.code yX2_numberUnlessExpired cX2_numberUnlessExpired 3 (some .int), Cond.fieldLink RX2 76 "FeatureStore$Row" "event" "I", Cond.fieldLink RX2 9 "FeatureStore" "lifetimes" "[I", Cond.fieldLink RX2 154 "FeatureStore$Row" "feature" "I", Cond.fieldLink RX2 61 "FeatureStore$Row" "number" "I", Cond.methodLink RX2 79 yX2_find, Cond.instanceMethod yX2_find, Cond.selects RX2 yX2_find yX2_find, Cond.code yX2_find cX2_find 6 (some .int), Cond.fieldLink RX2 19 "FeatureStore" "latest" "[LFeatureStore$Row;", Cond.fieldLink RX2 73 "FeatureStore$Row" "arrival" "I"]
def wsX2_skew_r2 : List Cond := [Cond.fieldLink RX2 87 "FeatureStore$Row" "older" "LFeatureStore$Row;"]
def wsX2_skew : List Cond := .code yX2_skew cX2_skew 4 (some .int) :: ((wsX2_skew_r1 ++ wsX2_skew_r2) ++ wsX20 ++ wsX00)
def wsX2_serve_r1 : List Cond := [Cond.classLink RX2 47 "java/lang/IllegalStateException", Cond.initialized "java/lang/IllegalStateException", Cond.fieldLink RX2 114 "FeatureStore" "servingCount" "I", Cond.fieldLink RX2 27 "FeatureStore" "servings" "[LFeatureStore$Serving;", Cond.classLink RX2 25 RX1, Cond.instantiable RX1 4, Cond.initialized RX1, Cond.fieldLink RX2 35 "FeatureStore" "now" "I", Cond.methodLink RX2 31 yX2_requirePair, Cond.static yX2_requirePair, Cond.initialized RX2, Cond.code yX2_requirePair cX2_requirePair 2 none, Cond.methodLink RX2 39 yX2_requireRange, Cond.static yX2_requireRange, Cond.code yX2_requireRange cX2_requireRange 3 none, Cond.classLink RX2 142 "java/lang/IllegalArgumentException", Cond.initialized "java/lang/IllegalArgumentException", Cond.methodLink RX2 111 yX2_tell, Cond.instanceMethod yX2_tell, Cond.selects RX2 yX2_tell yX2_tell, Cond.code yX2_tell cX2_tell 3 (some .int), Cond.fieldLink RX2 22 "FeatureStore" "onlineCopy" "[LFeatureStore$Row;", Cond.methodLink RX2 83 yX2_placeOf, Cond.static yX2_placeOf]
def wsX2_serve_r2 : List Cond := [Cond.code yX2_placeOf cX2_placeOf 2 (some .int), Cond.methodLink RX2 156 yX2_numberUnlessExpired, Cond.instanceMethod yX2_numberUnlessExpired, Cond.selects RX2 yX2_numberUnlessExpired yX2_numberUnlessExpired, Cond.code yX2_numberUnlessExpired cX2_numberUnlessExpired 3 (some .int), Cond.fieldLink RX2 76 "FeatureStore$Row" "event" "I", Cond.fieldLink RX2 9 "FeatureStore" "lifetimes" "[I", Cond.fieldLink RX2 154 "FeatureStore$Row" "feature" "I", Cond.fieldLink RX2 61 "FeatureStore$Row" "number" "I", Cond.methodLink RX2 119 yX1_init, Cond.instanceMethod yX1_init, Cond.code yX1_init cX1_init 5 none, Cond.methodLink RX1 1 objectInit, Cond.instanceMethod objectInit, Cond.code objectInit ⟨#[0xb1]⟩ 1 none, Cond.fieldLink RX1 7 "FeatureStore$Serving" "feature" "I", Cond.fieldLink RX1 13 "FeatureStore$Serving" "entity" "I", Cond.fieldLink RX1 16 "FeatureStore$Serving" "time" "I", Cond.fieldLink RX1 19 "FeatureStore$Serving" "row" "I"]
def wsX2_serve : List Cond := .code yX2_serve cX2_serve 4 (some .int) :: ((wsX2_serve_r1 ++ wsX2_serve_r2) ++ wsX20 ++ wsX10 ++ wsX00 ++ (vx_atS RX2 51 "java/lang/IllegalStateException" ["java/lang/RuntimeException", "java/lang/Exception"]).filter goodWord ++ (vx_atS RX2 146 "java/lang/IllegalArgumentException" ["java/lang/RuntimeException", "java/lang/Exception"]).filter goodWord)
def wsX2_servings : List Cond := .code yX2_servings cX2_servings 1 (some .int) :: ([.fieldLink RX2 114 "FeatureStore" "servingCount" "I"] ++ wsX20)
def wsX2_requireServing : List Cond := .code yX2_requireServing cX2_requireServing 2 (some (.object "FeatureStore$Serving")) :: ([.classLink RX2 147 "java/lang/IndexOutOfBoundsException", .initialized "java/lang/IndexOutOfBoundsException", .fieldLink RX2 114 "FeatureStore" "servingCount" "I", .fieldLink RX2 27 "FeatureStore" "servings" "[LFeatureStore$Serving;"] ++ wsX20 ++ (vx_atS RX2 151 "java/lang/IndexOutOfBoundsException" ["java/lang/RuntimeException", "java/lang/Exception"]).filter goodWord)
def wsX2_served : List Cond := .code yX2_served cX2_served 2 (some .int) :: ([.fieldLink RX2 126 "FeatureStore$Serving" "row" "I", .methodLink RX2 122 yX2_requireServing, .instanceMethod yX2_requireServing, .selects RX2 yX2_requireServing yX2_requireServing, .initialized RX2, .code yX2_requireServing cX2_requireServing 2 (some (.object "FeatureStore$Serving")), .classLink RX2 147 "java/lang/IndexOutOfBoundsException", .initialized "java/lang/IndexOutOfBoundsException", .fieldLink RX2 114 "FeatureStore" "servingCount" "I", .fieldLink RX2 27 "FeatureStore" "servings" "[LFeatureStore$Serving;"] ++ wsX10 ++ wsX20 ++ (vx_atS RX2 151 "java/lang/IndexOutOfBoundsException" ["java/lang/RuntimeException", "java/lang/Exception"]).filter goodWord)
def wsX2_isSound_r1 : List Cond := [Cond.fieldLink RX2 126 "FeatureStore$Serving" "row" "I", Cond.fieldLink RX2 129 "FeatureStore$Serving" "feature" "I", Cond.fieldLink RX2 132 "FeatureStore$Serving" "entity" "I", Cond.fieldLink RX2 135 "FeatureStore$Serving" "time" "I", Cond.methodLink RX2 122 yX2_requireServing, Cond.instanceMethod yX2_requireServing, Cond.selects RX2 yX2_requireServing yX2_requireServing, Cond.initialized RX2, Cond.code yX2_requireServing cX2_requireServing 2 (some (.object "FeatureStore$Serving")), Cond.classLink RX2 147 "java/lang/IndexOutOfBoundsException", Cond.initialized "java/lang/IndexOutOfBoundsException", Cond.fieldLink RX2 114 "FeatureStore" "servingCount" "I", Cond.fieldLink RX2 27 "FeatureStore" "servings" "[LFeatureStore$Serving;", Cond.methodLink RX2 79 yX2_find, Cond.instanceMethod yX2_find, Cond.selects RX2 yX2_find yX2_find, Cond.code yX2_find cX2_find 6 (some .int), Cond.fieldLink RX2 19 "FeatureStore" "latest" "[LFeatureStore$Row;", Cond.fieldLink RX2 76 "FeatureStore$Row" "event" "I", Cond.fieldLink RX2 73 "FeatureStore$Row" "arrival" "I", Cond.fieldLink RX2 87 "FeatureStore$Row" "older" "LFeatureStore$Row;", Cond.methodLink RX2 83 yX2_placeOf, Cond.static yX2_placeOf, Cond.code yX2_placeOf cX2_placeOf 2 (some .int)]
def wsX2_isSound_r2 : List Cond := [Cond.methodLink RX2 156 yX2_numberUnlessExpired, Cond.instanceMethod yX2_numberUnlessExpired, Cond.selects RX2 yX2_numberUnlessExpired yX2_numberUnlessExpired, Cond.code yX2_numberUnlessExpired cX2_numberUnlessExpired 3 (some .int), Cond.fieldLink RX2 9 "FeatureStore" "lifetimes" "[I", Cond.fieldLink RX2 154 "FeatureStore$Row" "feature" "I", Cond.fieldLink RX2 61 "FeatureStore$Row" "number" "I"]
def wsX2_isSound : List Cond := .code yX2_isSound cX2_isSound 3 (some .boolean) :: ((wsX2_isSound_r1 ++ wsX2_isSound_r2) ++ wsX10 ++ wsX20 ++ wsX00 ++ (vx_atS RX2 151 "java/lang/IndexOutOfBoundsException" ["java/lang/RuntimeException", "java/lang/Exception"]).filter goodWord)
def wsX2_unsound_r1 : List Cond := [Cond.fieldLink RX2 114 "FeatureStore" "servingCount" "I", Cond.methodLink RX2 138 yX2_isSound, Cond.instanceMethod yX2_isSound, Cond.selects RX2 yX2_isSound yX2_isSound, Cond.initialized RX2, Cond.code yX2_isSound cX2_isSound 3 (some .boolean), Cond.fieldLink RX2 126 "FeatureStore$Serving" "row" "I", Cond.fieldLink RX2 129 "FeatureStore$Serving" "feature" "I", Cond.fieldLink RX2 132 "FeatureStore$Serving" "entity" "I", Cond.fieldLink RX2 135 "FeatureStore$Serving" "time" "I", Cond.methodLink RX2 122 yX2_requireServing, Cond.instanceMethod yX2_requireServing, Cond.selects RX2 yX2_requireServing yX2_requireServing, Cond.code yX2_requireServing cX2_requireServing 2 (some (.object "FeatureStore$Serving")), Cond.classLink RX2 147 "java/lang/IndexOutOfBoundsException", Cond.initialized "java/lang/IndexOutOfBoundsException", Cond.fieldLink RX2 27 "FeatureStore" "servings" "[LFeatureStore$Serving;", Cond.methodLink RX2 79 yX2_find, Cond.instanceMethod yX2_find, Cond.selects RX2 yX2_find yX2_find, Cond.code yX2_find cX2_find 6 (some .int), Cond.fieldLink RX2 19 "FeatureStore" "latest" "[LFeatureStore$Row;", Cond.fieldLink RX2 76 "FeatureStore$Row" "event" "I", Cond.fieldLink RX2 73 "FeatureStore$Row" "arrival" "I"]
def wsX2_unsound_r2 : List Cond := [Cond.fieldLink RX2 87 "FeatureStore$Row" "older" "LFeatureStore$Row;", Cond.methodLink RX2 83 yX2_placeOf, Cond.static yX2_placeOf, Cond.code yX2_placeOf cX2_placeOf 2 (some .int), Cond.methodLink RX2 156 yX2_numberUnlessExpired, Cond.instanceMethod yX2_numberUnlessExpired, Cond.selects RX2 yX2_numberUnlessExpired yX2_numberUnlessExpired, Cond.code yX2_numberUnlessExpired cX2_numberUnlessExpired 3 (some .int), Cond.fieldLink RX2 9 "FeatureStore" "lifetimes" "[I", Cond.fieldLink RX2 154 "FeatureStore$Row" "feature" "I", Cond.fieldLink RX2 61 "FeatureStore$Row" "number" "I"]
def wsX2_unsound : List Cond := .code yX2_unsound cX2_unsound 3 (some .int) :: ((wsX2_unsound_r1 ++ wsX2_unsound_r2) ++ wsX20 ++ wsX10 ++ wsX00 ++ (vx_atS RX2 151 "java/lang/IndexOutOfBoundsException" ["java/lang/RuntimeException", "java/lang/Exception"]).filter goodWord)
def wsX3_init : List Cond := .code yX3_init cX3_init 1 none :: ([.methodLink RX3 1 objectInit, .instanceMethod objectInit, .code objectInit ⟨#[0xb1]⟩ 1 none, .arrayClass .int, .fieldLink RX3 7 "FeatureStoreModel" "lifetime" "[I", .fieldLink RX3 13 "FeatureStoreModel" "pair" "[I", .fieldLink RX3 16 "FeatureStoreModel" "event" "[I", .fieldLink RX3 19 "FeatureStoreModel" "arrival" "[I", .fieldLink RX3 22 "FeatureStoreModel" "value" "[I", .fieldLink RX3 25 "FeatureStoreModel" "copy" "[I", .fieldLink RX3 28 "FeatureStoreModel" "servedPair" "[I", .fieldLink RX3 31 "FeatureStoreModel" "servedAt" "[I", .fieldLink RX3 34 "FeatureStoreModel" "served" "[I"] ++ wsX30)
def wsX3_thrown : List Cond := .code yX3_thrown cX3_thrown 1 (some .int) :: ([.fieldLink RX3 37 "FeatureStoreModel" "thrown" "I"] ++ wsX30)
def wsX3_in : List Cond := .code yX3_in cX3_in 3 (some .boolean) :: ([])
def wsX3_isPair : List Cond := .code yX3_isPair cX3_isPair 2 (some .boolean) :: ([.methodLink RX3 41 yX3_in, .static yX3_in, .initialized RX3, .code yX3_in cX3_in 3 (some .boolean)])
def wsX3_pairOf : List Cond := .code yX3_pairOf cX3_pairOf 2 (some .int) :: ([])
def wsX3_arrive : List Cond := .code yX3_arrive cX3_arrive 6 (some .int) :: ([.fieldLink RX3 49 "FeatureStoreModel" "now" "I", .constant RX3 52 (100000), .fieldLink RX3 53 "FeatureStoreModel" "rows" "I", .fieldLink RX3 37 "FeatureStoreModel" "thrown" "I", .fieldLink RX3 13 "FeatureStoreModel" "pair" "[I", .fieldLink RX3 16 "FeatureStoreModel" "event" "[I", .fieldLink RX3 19 "FeatureStoreModel" "arrival" "[I", .fieldLink RX3 22 "FeatureStoreModel" "value" "[I", .methodLink RX3 45 yX3_isPair, .static yX3_isPair, .initialized RX3, .code yX3_isPair cX3_isPair 2 (some .boolean), .methodLink RX3 41 yX3_in, .static yX3_in, .code yX3_in cX3_in 3 (some .boolean), .methodLink RX3 56 yX3_pairOf, .static yX3_pairOf, .code yX3_pairOf cX3_pairOf 2 (some .int)] ++ wsX30)
def wsX3_pass : List Cond := .code yX3_pass cX3_pass 2 (some .int) :: ([.fieldLink RX3 49 "FeatureStoreModel" "now" "I", .fieldLink RX3 37 "FeatureStoreModel" "thrown" "I", .methodLink RX3 41 yX3_in, .static yX3_in, .initialized RX3, .code yX3_in cX3_in 3 (some .boolean)] ++ wsX30)
def wsX3_setLifetime : List Cond := .code yX3_setLifetime cX3_setLifetime 4 (some .int) :: ([.fieldLink RX3 37 "FeatureStoreModel" "thrown" "I", .fieldLink RX3 7 "FeatureStoreModel" "lifetime" "[I", .methodLink RX3 41 yX3_in, .static yX3_in, .initialized RX3, .code yX3_in cX3_in 3 (some .boolean)] ++ wsX30)
def wsX3_now : List Cond := .code yX3_now cX3_now 1 (some .int) :: ([.fieldLink RX3 37 "FeatureStoreModel" "thrown" "I", .fieldLink RX3 49 "FeatureStoreModel" "now" "I"] ++ wsX30)
def wsX3_rows : List Cond := .code yX3_rows cX3_rows 1 (some .int) :: ([.fieldLink RX3 37 "FeatureStoreModel" "thrown" "I", .fieldLink RX3 53 "FeatureStoreModel" "rows" "I"] ++ wsX30)
def wsX3_asksRow : List Cond := .code yX3_asksRow cX3_asksRow 2 (some .boolean) :: ([.fieldLink RX3 53 "FeatureStoreModel" "rows" "I", .fieldLink RX3 37 "FeatureStoreModel" "thrown" "I", .methodLink RX3 41 yX3_in, .static yX3_in, .initialized RX3, .code yX3_in cX3_in 3 (some .boolean)] ++ wsX30)
def wsX3_value : List Cond := .code yX3_value cX3_value 2 (some .int) :: ([.fieldLink RX3 22 "FeatureStoreModel" "value" "[I", .methodLink RX3 60 yX3_asksRow, .instanceMethod yX3_asksRow, .selects RX3 yX3_asksRow yX3_asksRow, .initialized RX3, .code yX3_asksRow cX3_asksRow 2 (some .boolean), .fieldLink RX3 53 "FeatureStoreModel" "rows" "I", .fieldLink RX3 37 "FeatureStoreModel" "thrown" "I", .methodLink RX3 41 yX3_in, .static yX3_in, .code yX3_in cX3_in 3 (some .boolean)] ++ wsX30)
def wsX3_late : List Cond := .code yX3_late cX3_late 2 (some .int) :: ([.fieldLink RX3 19 "FeatureStoreModel" "arrival" "[I", .fieldLink RX3 16 "FeatureStoreModel" "event" "[I", .methodLink RX3 60 yX3_asksRow, .instanceMethod yX3_asksRow, .selects RX3 yX3_asksRow yX3_asksRow, .initialized RX3, .code yX3_asksRow cX3_asksRow 2 (some .boolean), .fieldLink RX3 53 "FeatureStoreModel" "rows" "I", .fieldLink RX3 37 "FeatureStoreModel" "thrown" "I", .methodLink RX3 41 yX3_in, .static yX3_in, .code yX3_in cX3_in 3 (some .boolean)] ++ wsX30)
def wsX3_fresh : List Cond := .code yX3_fresh cX3_fresh 4 (some .int) :: ([.fieldLink RX3 16 "FeatureStoreModel" "event" "[I", .fieldLink RX3 7 "FeatureStoreModel" "lifetime" "[I", .fieldLink RX3 13 "FeatureStoreModel" "pair" "[I"] ++ wsX30)
def wsX3_joins : List Cond := .code yX3_joins cX3_joins 7 (some .int) :: ([.fieldLink RX3 53 "FeatureStoreModel" "rows" "I", .fieldLink RX3 13 "FeatureStoreModel" "pair" "[I", .fieldLink RX3 16 "FeatureStoreModel" "event" "[I", .fieldLink RX3 19 "FeatureStoreModel" "arrival" "[I", .methodLink RX3 64 yX3_fresh, .instanceMethod yX3_fresh, .selects RX3 yX3_fresh yX3_fresh, .initialized RX3, .code yX3_fresh cX3_fresh 4 (some .int), .fieldLink RX3 7 "FeatureStoreModel" "lifetime" "[I"] ++ wsX30)
def wsX3_join_r1 : List Cond := [Cond.fieldLink RX3 49 "FeatureStoreModel" "now" "I", Cond.fieldLink RX3 37 "FeatureStoreModel" "thrown" "I", Cond.methodLink RX3 45 yX3_isPair, Cond.static yX3_isPair, Cond.initialized RX3, Cond.code yX3_isPair cX3_isPair 2 (some .boolean), Cond.methodLink RX3 41 yX3_in, Cond.static yX3_in, Cond.code yX3_in cX3_in 3 (some .boolean), Cond.methodLink RX3 56 yX3_pairOf, Cond.static yX3_pairOf, Cond.code yX3_pairOf cX3_pairOf 2 (some .int), Cond.methodLink RX3 67 yX3_joins, Cond.instanceMethod yX3_joins, Cond.selects RX3 yX3_joins yX3_joins, Cond.code yX3_joins cX3_joins 7 (some .int), Cond.fieldLink RX3 53 "FeatureStoreModel" "rows" "I", Cond.fieldLink RX3 13 "FeatureStoreModel" "pair" "[I", Cond.fieldLink RX3 16 "FeatureStoreModel" "event" "[I", Cond.fieldLink RX3 19 "FeatureStoreModel" "arrival" "[I", Cond.methodLink RX3 64 yX3_fresh, Cond.instanceMethod yX3_fresh, Cond.selects RX3 yX3_fresh yX3_fresh, Cond.code yX3_fresh cX3_fresh 4 (some .int)]
def wsX3_join_r2 : List Cond := [Cond.fieldLink RX3 7 "FeatureStoreModel" "lifetime" "[I"]
def wsX3_join : List Cond := .code yX3_join cX3_join 5 (some .int) :: ((wsX3_join_r1 ++ wsX3_join_r2) ++ wsX30)
def wsX3_sums : List Cond := .code yX3_sums cX3_sums 6 (some .int) :: ([.fieldLink RX3 53 "FeatureStoreModel" "rows" "I", .fieldLink RX3 13 "FeatureStoreModel" "pair" "[I", .fieldLink RX3 16 "FeatureStoreModel" "event" "[I", .fieldLink RX3 22 "FeatureStoreModel" "value" "[I", .methodLink RX3 41 yX3_in, .static yX3_in, .initialized RX3, .code yX3_in cX3_in 3 (some .boolean)] ++ wsX30)
def wsX3_window : List Cond := .code yX3_window cX3_window 5 (some .int) :: ([.fieldLink RX3 37 "FeatureStoreModel" "thrown" "I", .methodLink RX3 45 yX3_isPair, .static yX3_isPair, .initialized RX3, .code yX3_isPair cX3_isPair 2 (some .boolean), .methodLink RX3 41 yX3_in, .static yX3_in, .code yX3_in cX3_in 3 (some .boolean), .methodLink RX3 56 yX3_pairOf, .static yX3_pairOf, .code yX3_pairOf cX3_pairOf 2 (some .int), .methodLink RX3 71 yX3_sums, .instanceMethod yX3_sums, .selects RX3 yX3_sums yX3_sums, .code yX3_sums cX3_sums 6 (some .int), .fieldLink RX3 53 "FeatureStoreModel" "rows" "I", .fieldLink RX3 13 "FeatureStoreModel" "pair" "[I", .fieldLink RX3 16 "FeatureStoreModel" "event" "[I", .fieldLink RX3 22 "FeatureStoreModel" "value" "[I"] ++ wsX30)
def wsX3_isFirst : List Cond := .code yX3_isFirst cX3_isFirst 5 (some .boolean) :: ([.fieldLink RX3 13 "FeatureStoreModel" "pair" "[I", .fieldLink RX3 16 "FeatureStoreModel" "event" "[I"] ++ wsX30)
def wsX3_asksTiles : List Cond := .code yX3_asksTiles cX3_asksTiles 4 (some .boolean) :: ([.fieldLink RX3 37 "FeatureStoreModel" "thrown" "I", .methodLink RX3 45 yX3_isPair, .static yX3_isPair, .initialized RX3, .code yX3_isPair cX3_isPair 2 (some .boolean), .methodLink RX3 41 yX3_in, .static yX3_in, .code yX3_in cX3_in 3 (some .boolean)] ++ wsX30)
def wsX3_greatestTile_r1 : List Cond := [Cond.fieldLink RX3 53 "FeatureStoreModel" "rows" "I", Cond.fieldLink RX3 16 "FeatureStoreModel" "event" "[I", Cond.fieldLink RX3 13 "FeatureStoreModel" "pair" "[I", Cond.methodLink RX3 74 yX3_asksTiles, Cond.instanceMethod yX3_asksTiles, Cond.selects RX3 yX3_asksTiles yX3_asksTiles, Cond.initialized RX3, Cond.code yX3_asksTiles cX3_asksTiles 4 (some .boolean), Cond.fieldLink RX3 37 "FeatureStoreModel" "thrown" "I", Cond.methodLink RX3 45 yX3_isPair, Cond.static yX3_isPair, Cond.code yX3_isPair cX3_isPair 2 (some .boolean), Cond.methodLink RX3 41 yX3_in, Cond.static yX3_in, Cond.code yX3_in cX3_in 3 (some .boolean), Cond.methodLink RX3 56 yX3_pairOf, Cond.static yX3_pairOf, Cond.code yX3_pairOf cX3_pairOf 2 (some .int), Cond.methodLink RX3 77 yX3_isFirst, Cond.instanceMethod yX3_isFirst, Cond.selects RX3 yX3_isFirst yX3_isFirst, Cond.code yX3_isFirst cX3_isFirst 5 (some .boolean), Cond.methodLink RX3 71 yX3_sums, Cond.instanceMethod yX3_sums]
def wsX3_greatestTile_r2 : List Cond := [Cond.selects RX3 yX3_sums yX3_sums, Cond.code yX3_sums cX3_sums 6 (some .int), Cond.fieldLink RX3 22 "FeatureStoreModel" "value" "[I"]
def wsX3_greatestTile : List Cond := .code yX3_greatestTile cX3_greatestTile 9 (some .int) :: ((wsX3_greatestTile_r1 ++ wsX3_greatestTile_r2) ++ wsX30)
def wsX3_tiles : List Cond := .code yX3_tiles cX3_tiles 6 (some .int) :: ([.fieldLink RX3 53 "FeatureStoreModel" "rows" "I", .fieldLink RX3 13 "FeatureStoreModel" "pair" "[I", .methodLink RX3 74 yX3_asksTiles, .instanceMethod yX3_asksTiles, .selects RX3 yX3_asksTiles yX3_asksTiles, .initialized RX3, .code yX3_asksTiles cX3_asksTiles 4 (some .boolean), .fieldLink RX3 37 "FeatureStoreModel" "thrown" "I", .methodLink RX3 45 yX3_isPair, .static yX3_isPair, .code yX3_isPair cX3_isPair 2 (some .boolean), .methodLink RX3 41 yX3_in, .static yX3_in, .code yX3_in cX3_in 3 (some .boolean), .methodLink RX3 56 yX3_pairOf, .static yX3_pairOf, .code yX3_pairOf cX3_pairOf 2 (some .int), .methodLink RX3 77 yX3_isFirst, .instanceMethod yX3_isFirst, .selects RX3 yX3_isFirst yX3_isFirst, .code yX3_isFirst cX3_isFirst 5 (some .boolean), .fieldLink RX3 16 "FeatureStoreModel" "event" "[I"] ++ wsX30)
def wsX3_revised_r1 : List Cond := [Cond.fieldLink RX3 37 "FeatureStoreModel" "thrown" "I", Cond.fieldLink RX3 49 "FeatureStoreModel" "now" "I", Cond.methodLink RX3 45 yX3_isPair, Cond.static yX3_isPair, Cond.initialized RX3, Cond.code yX3_isPair cX3_isPair 2 (some .boolean), Cond.methodLink RX3 41 yX3_in, Cond.static yX3_in, Cond.code yX3_in cX3_in 3 (some .boolean), Cond.methodLink RX3 56 yX3_pairOf, Cond.static yX3_pairOf, Cond.code yX3_pairOf cX3_pairOf 2 (some .int), Cond.methodLink RX3 67 yX3_joins, Cond.instanceMethod yX3_joins, Cond.selects RX3 yX3_joins yX3_joins, Cond.code yX3_joins cX3_joins 7 (some .int), Cond.fieldLink RX3 53 "FeatureStoreModel" "rows" "I", Cond.fieldLink RX3 13 "FeatureStoreModel" "pair" "[I", Cond.fieldLink RX3 16 "FeatureStoreModel" "event" "[I", Cond.fieldLink RX3 19 "FeatureStoreModel" "arrival" "[I", Cond.methodLink RX3 64 yX3_fresh, Cond.instanceMethod yX3_fresh, Cond.selects RX3 yX3_fresh yX3_fresh, Cond.code yX3_fresh cX3_fresh 4 (some .int)]
def wsX3_revised_r2 : List Cond := [Cond.fieldLink RX3 7 "FeatureStoreModel" "lifetime" "[I"]
def wsX3_revised : List Cond := .code yX3_revised cX3_revised 6 (some .int) :: ((wsX3_revised_r1 ++ wsX3_revised_r2) ++ wsX30)
def wsX3_take : List Cond := .code yX3_take cX3_take 4 (some .int) :: ([.fieldLink RX3 37 "FeatureStoreModel" "thrown" "I", .fieldLink RX3 80 "FeatureStoreModel" "taken" "I", .fieldLink RX3 53 "FeatureStoreModel" "rows" "I", .fieldLink RX3 25 "FeatureStoreModel" "copy" "[I", .fieldLink RX3 13 "FeatureStoreModel" "pair" "[I", .fieldLink RX3 16 "FeatureStoreModel" "event" "[I", .methodLink RX3 41 yX3_in, .static yX3_in, .initialized RX3, .code yX3_in cX3_in 3 (some .boolean)] ++ wsX30)
def wsX3_lag : List Cond := .code yX3_lag cX3_lag 1 (some .int) :: ([.fieldLink RX3 37 "FeatureStoreModel" "thrown" "I", .fieldLink RX3 53 "FeatureStoreModel" "rows" "I", .fieldLink RX3 80 "FeatureStoreModel" "taken" "I"] ++ wsX30)
def wsX3_online : List Cond := .code yX3_online cX3_online 3 (some .int) :: ([.fieldLink RX3 37 "FeatureStoreModel" "thrown" "I", .fieldLink RX3 25 "FeatureStoreModel" "copy" "[I", .fieldLink RX3 49 "FeatureStoreModel" "now" "I", .methodLink RX3 45 yX3_isPair, .static yX3_isPair, .initialized RX3, .code yX3_isPair cX3_isPair 2 (some .boolean), .methodLink RX3 41 yX3_in, .static yX3_in, .code yX3_in cX3_in 3 (some .boolean), .methodLink RX3 56 yX3_pairOf, .static yX3_pairOf, .code yX3_pairOf cX3_pairOf 2 (some .int), .methodLink RX3 64 yX3_fresh, .instanceMethod yX3_fresh, .selects RX3 yX3_fresh yX3_fresh, .code yX3_fresh cX3_fresh 4 (some .int), .fieldLink RX3 16 "FeatureStoreModel" "event" "[I", .fieldLink RX3 7 "FeatureStoreModel" "lifetime" "[I", .fieldLink RX3 13 "FeatureStoreModel" "pair" "[I"] ++ wsX30)
def wsX3_skew : List Cond := .code yX3_skew cX3_skew 3 (some .int) :: ([.fieldLink RX3 37 "FeatureStoreModel" "thrown" "I", .fieldLink RX3 25 "FeatureStoreModel" "copy" "[I", .fieldLink RX3 49 "FeatureStoreModel" "now" "I", .methodLink RX3 64 yX3_fresh, .instanceMethod yX3_fresh, .selects RX3 yX3_fresh yX3_fresh, .initialized RX3, .code yX3_fresh cX3_fresh 4 (some .int), .fieldLink RX3 16 "FeatureStoreModel" "event" "[I", .fieldLink RX3 7 "FeatureStoreModel" "lifetime" "[I", .fieldLink RX3 13 "FeatureStoreModel" "pair" "[I", .methodLink RX3 67 yX3_joins, .instanceMethod yX3_joins, .selects RX3 yX3_joins yX3_joins, .code yX3_joins cX3_joins 7 (some .int), .fieldLink RX3 53 "FeatureStoreModel" "rows" "I", .fieldLink RX3 19 "FeatureStoreModel" "arrival" "[I"] ++ wsX30)
def wsX3_serve : List Cond := .code yX3_serve cX3_serve 4 (some .int) :: ([.fieldLink RX3 83 "FeatureStoreModel" "servings" "I", .fieldLink RX3 37 "FeatureStoreModel" "thrown" "I", .fieldLink RX3 28 "FeatureStoreModel" "servedPair" "[I", .fieldLink RX3 31 "FeatureStoreModel" "servedAt" "[I", .fieldLink RX3 49 "FeatureStoreModel" "now" "I", .fieldLink RX3 34 "FeatureStoreModel" "served" "[I", .fieldLink RX3 25 "FeatureStoreModel" "copy" "[I", .methodLink RX3 45 yX3_isPair, .static yX3_isPair, .initialized RX3, .code yX3_isPair cX3_isPair 2 (some .boolean), .methodLink RX3 41 yX3_in, .static yX3_in, .code yX3_in cX3_in 3 (some .boolean), .methodLink RX3 56 yX3_pairOf, .static yX3_pairOf, .code yX3_pairOf cX3_pairOf 2 (some .int), .methodLink RX3 64 yX3_fresh, .instanceMethod yX3_fresh, .selects RX3 yX3_fresh yX3_fresh, .code yX3_fresh cX3_fresh 4 (some .int), .fieldLink RX3 16 "FeatureStoreModel" "event" "[I", .fieldLink RX3 7 "FeatureStoreModel" "lifetime" "[I", .fieldLink RX3 13 "FeatureStoreModel" "pair" "[I"] ++ wsX30)
def wsX3_servings : List Cond := .code yX3_servings cX3_servings 1 (some .int) :: ([.fieldLink RX3 37 "FeatureStoreModel" "thrown" "I", .fieldLink RX3 83 "FeatureStoreModel" "servings" "I"] ++ wsX30)
def wsX3_asksServing : List Cond := .code yX3_asksServing cX3_asksServing 2 (some .boolean) :: ([.fieldLink RX3 83 "FeatureStoreModel" "servings" "I", .fieldLink RX3 37 "FeatureStoreModel" "thrown" "I", .methodLink RX3 41 yX3_in, .static yX3_in, .initialized RX3, .code yX3_in cX3_in 3 (some .boolean)] ++ wsX30)
def wsX3_served : List Cond := .code yX3_served cX3_served 2 (some .int) :: ([.fieldLink RX3 34 "FeatureStoreModel" "served" "[I", .methodLink RX3 86 yX3_asksServing, .instanceMethod yX3_asksServing, .selects RX3 yX3_asksServing yX3_asksServing, .initialized RX3, .code yX3_asksServing cX3_asksServing 2 (some .boolean), .fieldLink RX3 83 "FeatureStoreModel" "servings" "I", .fieldLink RX3 37 "FeatureStoreModel" "thrown" "I", .methodLink RX3 41 yX3_in, .static yX3_in, .code yX3_in cX3_in 3 (some .boolean)] ++ wsX30)
def wsX3_isRight : List Cond := .code yX3_isRight cX3_isRight 2 (some .boolean) :: ([.fieldLink RX3 34 "FeatureStoreModel" "served" "[I", .fieldLink RX3 28 "FeatureStoreModel" "servedPair" "[I", .fieldLink RX3 31 "FeatureStoreModel" "servedAt" "[I", .methodLink RX3 67 yX3_joins, .instanceMethod yX3_joins, .selects RX3 yX3_joins yX3_joins, .initialized RX3, .code yX3_joins cX3_joins 7 (some .int), .fieldLink RX3 53 "FeatureStoreModel" "rows" "I", .fieldLink RX3 13 "FeatureStoreModel" "pair" "[I", .fieldLink RX3 16 "FeatureStoreModel" "event" "[I", .fieldLink RX3 19 "FeatureStoreModel" "arrival" "[I", .methodLink RX3 64 yX3_fresh, .instanceMethod yX3_fresh, .selects RX3 yX3_fresh yX3_fresh, .code yX3_fresh cX3_fresh 4 (some .int), .fieldLink RX3 7 "FeatureStoreModel" "lifetime" "[I"] ++ wsX30)
def wsX3_isSound_r1 : List Cond := [Cond.methodLink RX3 86 yX3_asksServing, Cond.instanceMethod yX3_asksServing, Cond.selects RX3 yX3_asksServing yX3_asksServing, Cond.initialized RX3, Cond.code yX3_asksServing cX3_asksServing 2 (some .boolean), Cond.fieldLink RX3 83 "FeatureStoreModel" "servings" "I", Cond.fieldLink RX3 37 "FeatureStoreModel" "thrown" "I", Cond.methodLink RX3 41 yX3_in, Cond.static yX3_in, Cond.code yX3_in cX3_in 3 (some .boolean), Cond.methodLink RX3 89 yX3_isRight, Cond.instanceMethod yX3_isRight, Cond.selects RX3 yX3_isRight yX3_isRight, Cond.code yX3_isRight cX3_isRight 2 (some .boolean), Cond.fieldLink RX3 34 "FeatureStoreModel" "served" "[I", Cond.fieldLink RX3 28 "FeatureStoreModel" "servedPair" "[I", Cond.fieldLink RX3 31 "FeatureStoreModel" "servedAt" "[I", Cond.methodLink RX3 67 yX3_joins, Cond.instanceMethod yX3_joins, Cond.selects RX3 yX3_joins yX3_joins, Cond.code yX3_joins cX3_joins 7 (some .int), Cond.fieldLink RX3 53 "FeatureStoreModel" "rows" "I", Cond.fieldLink RX3 13 "FeatureStoreModel" "pair" "[I", Cond.fieldLink RX3 16 "FeatureStoreModel" "event" "[I"]
def wsX3_isSound_r2 : List Cond := [Cond.fieldLink RX3 19 "FeatureStoreModel" "arrival" "[I", Cond.methodLink RX3 64 yX3_fresh, Cond.instanceMethod yX3_fresh, Cond.selects RX3 yX3_fresh yX3_fresh, Cond.code yX3_fresh cX3_fresh 4 (some .int), Cond.fieldLink RX3 7 "FeatureStoreModel" "lifetime" "[I"]
def wsX3_isSound : List Cond := .code yX3_isSound cX3_isSound 2 (some .boolean) :: ((wsX3_isSound_r1 ++ wsX3_isSound_r2) ++ wsX30)
def wsX3_unsound : List Cond := .code yX3_unsound cX3_unsound 3 (some .int) :: ([.fieldLink RX3 37 "FeatureStoreModel" "thrown" "I", .fieldLink RX3 83 "FeatureStoreModel" "servings" "I", .methodLink RX3 89 yX3_isRight, .instanceMethod yX3_isRight, .selects RX3 yX3_isRight yX3_isRight, .initialized RX3, .code yX3_isRight cX3_isRight 2 (some .boolean), .fieldLink RX3 34 "FeatureStoreModel" "served" "[I", .fieldLink RX3 28 "FeatureStoreModel" "servedPair" "[I", .fieldLink RX3 31 "FeatureStoreModel" "servedAt" "[I", .methodLink RX3 67 yX3_joins, .instanceMethod yX3_joins, .selects RX3 yX3_joins yX3_joins, .code yX3_joins cX3_joins 7 (some .int), .fieldLink RX3 53 "FeatureStoreModel" "rows" "I", .fieldLink RX3 13 "FeatureStoreModel" "pair" "[I", .fieldLink RX3 16 "FeatureStoreModel" "event" "[I", .fieldLink RX3 19 "FeatureStoreModel" "arrival" "[I", .methodLink RX3 64 yX3_fresh, .instanceMethod yX3_fresh, .selects RX3 yX3_fresh yX3_fresh, .code yX3_fresh cX3_fresh 4 (some .int), .fieldLink RX3 7 "FeatureStoreModel" "lifetime" "[I"] ++ wsX30)
def wsJ9_max_7cf53 : List Cond := .code yJ9_max_7cf53 cJ9_max_7cf53 2 (some .int) :: ([])
def wsJ9_min_7cf53 : List Cond := .code yJ9_min_7cf53 cJ9_min_7cf53 2 (some .int) :: ([])
def wsL_arrive_r1 : List Cond := [Cond.classLink RL 13 "java/lang/IllegalArgumentException", Cond.classLink RL 15 "java/lang/IllegalStateException", Cond.methodLink RL 7 yX2_arrive, Cond.instanceMethod yX2_arrive, Cond.selects RX2 yX2_arrive yX2_arrive, Cond.initialized RX2, Cond.code yX2_arrive cX2_arrive 6 (some .int), Cond.classLink RX2 47 "java/lang/IllegalStateException", Cond.initialized "java/lang/IllegalStateException", Cond.fieldLink RX2 35 "FeatureStore" "now" "I", Cond.constant RX2 43 (100000), Cond.fieldLink RX2 44 "FeatureStore" "rowCount" "I", Cond.classLink RX2 13 RX0, Cond.instantiable RX0 7, Cond.initialized RX0, Cond.fieldLink RX2 15 "FeatureStore" "rows" "[LFeatureStore$Row;", Cond.fieldLink RX2 61 "FeatureStore$Row" "number" "I", Cond.methodLink RX2 31 yX2_requirePair, Cond.static yX2_requirePair, Cond.code yX2_requirePair cX2_requirePair 2 none, Cond.methodLink RX2 39 yX2_requireRange, Cond.static yX2_requireRange, Cond.code yX2_requireRange cX2_requireRange 3 none, Cond.classLink RX2 142 "java/lang/IllegalArgumentException"]
def wsL_arrive_r2 : List Cond := [Cond.initialized "java/lang/IllegalArgumentException", Cond.methodLink RX2 54 yX0_init, Cond.instanceMethod yX0_init, Cond.code yX0_init cX0_init 7 none, Cond.methodLink RX0 1 objectInit, Cond.instanceMethod objectInit, Cond.code objectInit ⟨#[0xb1]⟩ 1 none, Cond.fieldLink RX0 7 "FeatureStore$Row" "number" "I", Cond.fieldLink RX0 13 "FeatureStore$Row" "feature" "I", Cond.fieldLink RX0 16 "FeatureStore$Row" "entity" "I", Cond.fieldLink RX0 19 "FeatureStore$Row" "event" "I", Cond.fieldLink RX0 22 "FeatureStore$Row" "arrival" "I", Cond.fieldLink RX0 25 "FeatureStore$Row" "value" "I", Cond.methodLink RX2 57 yX2_putInChain, Cond.instanceMethod yX2_putInChain, Cond.selects RX2 yX2_putInChain yX2_putInChain, Cond.code yX2_putInChain cX2_putInChain 5 none, Cond.fieldLink RX2 154 "FeatureStore$Row" "feature" "I", Cond.fieldLink RX2 155 "FeatureStore$Row" "entity" "I", Cond.fieldLink RX2 19 "FeatureStore" "latest" "[LFeatureStore$Row;", Cond.fieldLink RX2 76 "FeatureStore$Row" "event" "I", Cond.fieldLink RX2 87 "FeatureStore$Row" "older" "LFeatureStore$Row;", Cond.methodLink RX2 83 yX2_placeOf, Cond.static yX2_placeOf]
def wsL_arrive_r3 : List Cond := [Cond.code yX2_placeOf cX2_placeOf 2 (some .int)]
def wsL_arrive : List Cond := .codeWith yL_arrive cL_arrive 7 (some .int) [(0, 14, 17, 13), (0, 14, 21, 15)] :: ((wsL_arrive_r1 ++ (wsL_arrive_r2 ++ wsL_arrive_r3)) ++ wsX20 ++ wsX00 ++ (vx_atS RX2 51 "java/lang/IllegalStateException" ["java/lang/RuntimeException", "java/lang/Exception"]).filter goodWord ++ (vx_atS RX2 146 "java/lang/IllegalArgumentException" ["java/lang/RuntimeException", "java/lang/Exception"]).filter goodWord)
def wsL_pass : List Cond := .codeWith yL_pass cL_pass 4 (some .int) [(0, 9, 12, 13), (0, 9, 15, 15)] :: ([.classLink RL 13 "java/lang/IllegalArgumentException", .classLink RL 15 "java/lang/IllegalStateException", .methodLink RL 17 yX2_pass, .instanceMethod yX2_pass, .selects RX2 yX2_pass yX2_pass, .initialized RX2, .code yX2_pass cX2_pass 2 (some .int), .classLink RX2 47 "java/lang/IllegalStateException", .initialized "java/lang/IllegalStateException", .fieldLink RX2 35 "FeatureStore" "now" "I", .methodLink RX2 39 yX2_requireRange, .static yX2_requireRange, .code yX2_requireRange cX2_requireRange 3 none, .classLink RX2 142 "java/lang/IllegalArgumentException", .initialized "java/lang/IllegalArgumentException"] ++ wsX20 ++ (vx_atS RX2 51 "java/lang/IllegalStateException" ["java/lang/RuntimeException", "java/lang/Exception"]).filter goodWord ++ (vx_atS RX2 146 "java/lang/IllegalArgumentException" ["java/lang/RuntimeException", "java/lang/Exception"]).filter goodWord)
def wsL_setLifetime : List Cond := .codeWith yL_setLifetime cL_setLifetime 5 (some .int) [(0, 10, 13, 13)] :: ([.classLink RL 13 "java/lang/IllegalArgumentException", .methodLink RL 21 yX2_setLifetime, .instanceMethod yX2_setLifetime, .selects RX2 yX2_setLifetime yX2_setLifetime, .initialized RX2, .code yX2_setLifetime cX2_setLifetime 4 (some .int), .fieldLink RX2 9 "FeatureStore" "lifetimes" "[I", .methodLink RX2 39 yX2_requireRange, .static yX2_requireRange, .code yX2_requireRange cX2_requireRange 3 none, .classLink RX2 142 "java/lang/IllegalArgumentException", .initialized "java/lang/IllegalArgumentException"] ++ wsX20 ++ (vx_atS RX2 146 "java/lang/IllegalArgumentException" ["java/lang/RuntimeException", "java/lang/Exception"]).filter goodWord)
def wsL_value : List Cond := .codeWith yL_value cL_value 4 (some .int) [(0, 9, 12, 28)] :: ([.classLink RL 28 "java/lang/IndexOutOfBoundsException", .methodLink RL 25 yX2_value, .instanceMethod yX2_value, .selects RX2 yX2_value yX2_value, .initialized RX2, .code yX2_value cX2_value 2 (some .int), .fieldLink RX2 70 "FeatureStore$Row" "value" "I", .methodLink RX2 66 yX2_requireRow, .instanceMethod yX2_requireRow, .selects RX2 yX2_requireRow yX2_requireRow, .code yX2_requireRow cX2_requireRow 3 (some (.object "FeatureStore$Row")), .classLink RX2 147 "java/lang/IndexOutOfBoundsException", .initialized "java/lang/IndexOutOfBoundsException", .methodLink RX2 105 yX2_rowOrNull, .instanceMethod yX2_rowOrNull, .selects RX2 yX2_rowOrNull yX2_rowOrNull, .code yX2_rowOrNull cX2_rowOrNull 2 (some (.object "FeatureStore$Row")), .fieldLink RX2 44 "FeatureStore" "rowCount" "I", .fieldLink RX2 15 "FeatureStore" "rows" "[LFeatureStore$Row;"] ++ wsX00 ++ wsX20 ++ (vx_atS RX2 151 "java/lang/IndexOutOfBoundsException" ["java/lang/RuntimeException", "java/lang/Exception"]).filter goodWord)
def wsL_late : List Cond := .codeWith yL_late cL_late 4 (some .int) [(0, 9, 12, 28)] :: ([.classLink RL 28 "java/lang/IndexOutOfBoundsException", .methodLink RL 30 yX2_late, .instanceMethod yX2_late, .selects RX2 yX2_late yX2_late, .initialized RX2, .code yX2_late cX2_late 3 (some .int), .fieldLink RX2 73 "FeatureStore$Row" "arrival" "I", .fieldLink RX2 76 "FeatureStore$Row" "event" "I", .methodLink RX2 66 yX2_requireRow, .instanceMethod yX2_requireRow, .selects RX2 yX2_requireRow yX2_requireRow, .code yX2_requireRow cX2_requireRow 3 (some (.object "FeatureStore$Row")), .classLink RX2 147 "java/lang/IndexOutOfBoundsException", .initialized "java/lang/IndexOutOfBoundsException", .methodLink RX2 105 yX2_rowOrNull, .instanceMethod yX2_rowOrNull, .selects RX2 yX2_rowOrNull yX2_rowOrNull, .code yX2_rowOrNull cX2_rowOrNull 2 (some (.object "FeatureStore$Row")), .fieldLink RX2 44 "FeatureStore" "rowCount" "I", .fieldLink RX2 15 "FeatureStore" "rows" "[LFeatureStore$Row;"] ++ wsX00 ++ wsX20 ++ (vx_atS RX2 151 "java/lang/IndexOutOfBoundsException" ["java/lang/RuntimeException", "java/lang/Exception"]).filter goodWord)
def wsL_join_r1 : List Cond := [Cond.classLink RL 13 "java/lang/IllegalArgumentException", Cond.methodLink RL 33 yX2_join, Cond.instanceMethod yX2_join, Cond.selects RX2 yX2_join yX2_join, Cond.initialized RX2, Cond.code yX2_join cX2_join 5 (some .int), Cond.fieldLink RX2 35 "FeatureStore" "now" "I", Cond.methodLink RX2 31 yX2_requirePair, Cond.static yX2_requirePair, Cond.code yX2_requirePair cX2_requirePair 2 none, Cond.methodLink RX2 39 yX2_requireRange, Cond.static yX2_requireRange, Cond.code yX2_requireRange cX2_requireRange 3 none, Cond.classLink RX2 142 "java/lang/IllegalArgumentException", Cond.initialized "java/lang/IllegalArgumentException", Cond.methodLink RX2 79 yX2_find, Cond.instanceMethod yX2_find, Cond.selects RX2 yX2_find yX2_find, Cond.code yX2_find cX2_find 6 (some .int), Cond.fieldLink RX2 19 "FeatureStore" "latest" "[LFeatureStore$Row;", Cond.fieldLink RX2 76 "FeatureStore$Row" "event" "I", Cond.fieldLink RX2 73 "FeatureStore$Row" "arrival" "I", Cond.fieldLink RX2 87 "FeatureStore$Row" "older" "LFeatureStore$Row;", Cond.methodLink RX2 83 yX2_placeOf]
def wsL_join_r2 : List Cond := [Cond.static yX2_placeOf, Cond.code yX2_placeOf cX2_placeOf 2 (some .int), Cond.methodLink RX2 156 yX2_numberUnlessExpired, Cond.instanceMethod yX2_numberUnlessExpired, Cond.selects RX2 yX2_numberUnlessExpired yX2_numberUnlessExpired, Cond.code yX2_numberUnlessExpired cX2_numberUnlessExpired 3 (some .int), Cond.fieldLink RX2 9 "FeatureStore" "lifetimes" "[I", Cond.fieldLink RX2 154 "FeatureStore$Row" "feature" "I", Cond.fieldLink RX2 61 "FeatureStore$Row" "number" "I"]
def wsL_join : List Cond := .codeWith yL_join cL_join 7 (some .int) [(0, 14, 17, 13)] :: ((wsL_join_r1 ++ wsL_join_r2) ++ wsX20 ++ wsX00 ++ (vx_atS RX2 146 "java/lang/IllegalArgumentException" ["java/lang/RuntimeException", "java/lang/Exception"]).filter goodWord)
def wsL_window : List Cond := .codeWith yL_window cL_window 7 (some .int) [(0, 14, 17, 13)] :: ([.classLink RL 13 "java/lang/IllegalArgumentException", .methodLink RL 36 yX2_window, .instanceMethod yX2_window, .selects RX2 yX2_window yX2_window, .initialized RX2, .code yX2_window cX2_window 7 (some .int), .fieldLink RX2 19 "FeatureStore" "latest" "[LFeatureStore$Row;", .fieldLink RX2 76 "FeatureStore$Row" "event" "I", .fieldLink RX2 70 "FeatureStore$Row" "value" "I", .fieldLink RX2 87 "FeatureStore$Row" "older" "LFeatureStore$Row;", .methodLink RX2 31 yX2_requirePair, .static yX2_requirePair, .code yX2_requirePair cX2_requirePair 2 none, .methodLink RX2 39 yX2_requireRange, .static yX2_requireRange, .code yX2_requireRange cX2_requireRange 3 none, .classLink RX2 142 "java/lang/IllegalArgumentException", .initialized "java/lang/IllegalArgumentException", .methodLink RX2 83 yX2_placeOf, .static yX2_placeOf, .code yX2_placeOf cX2_placeOf 2 (some .int)] ++ wsX20 ++ wsX00 ++ (vx_atS RX2 146 "java/lang/IllegalArgumentException" ["java/lang/RuntimeException", "java/lang/Exception"]).filter goodWord)
def wsL_greatestTile_r1 : List Cond := [Cond.classLink RL 13 "java/lang/IllegalArgumentException", Cond.methodLink RL 39 yX2_greatestTile, Cond.instanceMethod yX2_greatestTile, Cond.selects RX2 yX2_greatestTile yX2_greatestTile, Cond.initialized RX2, Cond.code yX2_greatestTile cX2_greatestTile 9 (some .int), Cond.fieldLink RX2 19 "FeatureStore" "latest" "[LFeatureStore$Row;", Cond.fieldLink RX2 76 "FeatureStore$Row" "event" "I", Cond.fieldLink RX2 70 "FeatureStore$Row" "value" "I", Cond.methodLink RX2 91 Lib.Math.max.name, Cond.static Lib.Math.max.name, Cond.initialized "java/lang/Math", Cond.code Lib.Math.max.name Lib.Math.max.code 2 (some .int), Cond.fieldLink RX2 87 "FeatureStore$Row" "older" "LFeatureStore$Row;", Cond.methodLink RX2 31 yX2_requirePair, Cond.static yX2_requirePair, Cond.code yX2_requirePair cX2_requirePair 2 none, Cond.methodLink RX2 39 yX2_requireRange, Cond.static yX2_requireRange, Cond.code yX2_requireRange cX2_requireRange 3 none, Cond.classLink RX2 142 "java/lang/IllegalArgumentException", Cond.initialized "java/lang/IllegalArgumentException", Cond.methodLink RX2 83 yX2_placeOf, Cond.static yX2_placeOf]
def wsL_greatestTile_r2 : List Cond := [Cond.code yX2_placeOf cX2_placeOf 2 (some .int)]
def wsL_greatestTile : List Cond := .codeWith yL_greatestTile cL_greatestTile 6 (some .int) [(0, 12, 15, 13)] :: ((wsL_greatestTile_r1 ++ wsL_greatestTile_r2) ++ wsX20 ++ wsX00 ++ (vx_atS RX2 146 "java/lang/IllegalArgumentException" ["java/lang/RuntimeException", "java/lang/Exception"]).filter goodWord)
def wsL_tiles : List Cond := .codeWith yL_tiles cL_tiles 6 (some .int) [(0, 12, 15, 13)] :: ([.classLink RL 13 "java/lang/IllegalArgumentException", .methodLink RL 43 yX2_tiles, .instanceMethod yX2_tiles, .selects RX2 yX2_tiles yX2_tiles, .initialized RX2, .code yX2_tiles cX2_tiles 8 (some .int), .fieldLink RX2 19 "FeatureStore" "latest" "[LFeatureStore$Row;", .fieldLink RX2 76 "FeatureStore$Row" "event" "I", .fieldLink RX2 87 "FeatureStore$Row" "older" "LFeatureStore$Row;", .methodLink RX2 31 yX2_requirePair, .static yX2_requirePair, .code yX2_requirePair cX2_requirePair 2 none, .methodLink RX2 39 yX2_requireRange, .static yX2_requireRange, .code yX2_requireRange cX2_requireRange 3 none, .classLink RX2 142 "java/lang/IllegalArgumentException", .initialized "java/lang/IllegalArgumentException", .methodLink RX2 83 yX2_placeOf, .static yX2_placeOf, .code yX2_placeOf cX2_placeOf 2 (some .int)] ++ wsX20 ++ wsX00 ++ (vx_atS RX2 146 "java/lang/IllegalArgumentException" ["java/lang/RuntimeException", "java/lang/Exception"]).filter goodWord)
def wsL_revised_r1 : List Cond := [Cond.classLink RL 13 "java/lang/IllegalArgumentException", Cond.methodLink RL 46 yX2_revised, Cond.instanceMethod yX2_revised, Cond.selects RX2 yX2_revised yX2_revised, Cond.initialized RX2, Cond.code yX2_revised cX2_revised 9 (some .int), Cond.fieldLink RX2 35 "FeatureStore" "now" "I", Cond.fieldLink RX2 19 "FeatureStore" "latest" "[LFeatureStore$Row;", Cond.fieldLink RX2 76 "FeatureStore$Row" "event" "I", Cond.fieldLink RX2 9 "FeatureStore" "lifetimes" "[I", Cond.methodLink RX2 96 Lib.Math.min.name, Cond.static Lib.Math.min.name, Cond.initialized "java/lang/Math", Cond.code Lib.Math.min.name Lib.Math.min.code 2 (some .int), Cond.fieldLink RX2 73 "FeatureStore$Row" "arrival" "I", Cond.fieldLink RX2 87 "FeatureStore$Row" "older" "LFeatureStore$Row;", Cond.methodLink RX2 31 yX2_requirePair, Cond.static yX2_requirePair, Cond.code yX2_requirePair cX2_requirePair 2 none, Cond.methodLink RX2 39 yX2_requireRange, Cond.static yX2_requireRange, Cond.code yX2_requireRange cX2_requireRange 3 none, Cond.classLink RX2 142 "java/lang/IllegalArgumentException", Cond.initialized "java/lang/IllegalArgumentException"]
def wsL_revised_r2 : List Cond := [Cond.methodLink RX2 83 yX2_placeOf, Cond.static yX2_placeOf, Cond.code yX2_placeOf cX2_placeOf 2 (some .int), Cond.methodLink RX2 99 yX2_multiplesBelow, Cond.static yX2_multiplesBelow, Cond.code yX2_multiplesBelow cX2_multiplesBelow 2 (some .int)]
def wsL_revised : List Cond := .codeWith yL_revised cL_revised 6 (some .int) [(0, 12, 15, 13)] :: ((wsL_revised_r1 ++ wsL_revised_r2) ++ wsX20 ++ wsX00 ++ (vx_atS RX2 146 "java/lang/IllegalArgumentException" ["java/lang/RuntimeException", "java/lang/Exception"]).filter goodWord)
def wsL_take_r1 : List Cond := [Cond.classLink RL 13 "java/lang/IllegalArgumentException", Cond.methodLink RL 49 yX2_take, Cond.instanceMethod yX2_take, Cond.selects RX2 yX2_take yX2_take, Cond.initialized RX2, Cond.code yX2_take cX2_take 4 (some .int), Cond.fieldLink RX2 102 "FeatureStore" "taken" "I", Cond.methodLink RX2 39 yX2_requireRange, Cond.static yX2_requireRange, Cond.code yX2_requireRange cX2_requireRange 3 none, Cond.classLink RX2 142 "java/lang/IllegalArgumentException", Cond.initialized "java/lang/IllegalArgumentException", Cond.methodLink RX2 105 yX2_rowOrNull, Cond.instanceMethod yX2_rowOrNull, Cond.selects RX2 yX2_rowOrNull yX2_rowOrNull, Cond.code yX2_rowOrNull cX2_rowOrNull 2 (some (.object "FeatureStore$Row")), Cond.fieldLink RX2 44 "FeatureStore" "rowCount" "I", Cond.fieldLink RX2 15 "FeatureStore" "rows" "[LFeatureStore$Row;", Cond.methodLink RX2 108 yX2_takeIn, Cond.instanceMethod yX2_takeIn, Cond.selects RX2 yX2_takeIn yX2_takeIn, Cond.code yX2_takeIn cX2_takeIn 4 none, Cond.fieldLink RX2 154 "FeatureStore$Row" "feature" "I", Cond.fieldLink RX2 155 "FeatureStore$Row" "entity" "I"]
def wsL_take_r2 : List Cond := [Cond.fieldLink RX2 22 "FeatureStore" "onlineCopy" "[LFeatureStore$Row;", Cond.fieldLink RX2 76 "FeatureStore$Row" "event" "I", Cond.methodLink RX2 83 yX2_placeOf, Cond.static yX2_placeOf, Cond.code yX2_placeOf cX2_placeOf 2 (some .int)]
def wsL_take : List Cond := .codeWith yL_take cL_take 4 (some .int) [(0, 9, 12, 13)] :: ((wsL_take_r1 ++ wsL_take_r2) ++ wsX20 ++ wsX00 ++ (vx_atS RX2 146 "java/lang/IllegalArgumentException" ["java/lang/RuntimeException", "java/lang/Exception"]).filter goodWord)
def wsL_online_r1 : List Cond := [Cond.classLink RL 13 "java/lang/IllegalArgumentException", Cond.methodLink RL 52 yX2_online, Cond.instanceMethod yX2_online, Cond.selects RX2 yX2_online yX2_online, Cond.initialized RX2, Cond.code yX2_online cX2_online 3 (some .int), Cond.methodLink RX2 31 yX2_requirePair, Cond.static yX2_requirePair, Cond.code yX2_requirePair cX2_requirePair 2 none, Cond.methodLink RX2 39 yX2_requireRange, Cond.static yX2_requireRange, Cond.code yX2_requireRange cX2_requireRange 3 none, Cond.classLink RX2 142 "java/lang/IllegalArgumentException", Cond.initialized "java/lang/IllegalArgumentException", Cond.methodLink RX2 111 yX2_tell, Cond.instanceMethod yX2_tell, Cond.selects RX2 yX2_tell yX2_tell, Cond.code yX2_tell cX2_tell 3 (some .int), Cond.fieldLink RX2 22 "FeatureStore" "onlineCopy" "[LFeatureStore$Row;", Cond.fieldLink RX2 35 "FeatureStore" "now" "I", Cond.methodLink RX2 83 yX2_placeOf, Cond.static yX2_placeOf, Cond.code yX2_placeOf cX2_placeOf 2 (some .int), Cond.methodLink RX2 156 yX2_numberUnlessExpired]
def wsL_online_r2 : List Cond := [Cond.instanceMethod yX2_numberUnlessExpired, Cond.selects RX2 yX2_numberUnlessExpired yX2_numberUnlessExpired, Cond.code yX2_numberUnlessExpired cX2_numberUnlessExpired 3 (some .int), Cond.fieldLink RX2 76 "FeatureStore$Row" "event" "I", Cond.fieldLink RX2 9 "FeatureStore" "lifetimes" "[I", Cond.fieldLink RX2 154 "FeatureStore$Row" "feature" "I", Cond.fieldLink RX2 61 "FeatureStore$Row" "number" "I"]
def wsL_online : List Cond := .codeWith yL_online cL_online 5 (some .int) [(0, 10, 13, 13)] :: ((wsL_online_r1 ++ wsL_online_r2) ++ wsX20 ++ wsX00 ++ (vx_atS RX2 146 "java/lang/IllegalArgumentException" ["java/lang/RuntimeException", "java/lang/Exception"]).filter goodWord)
def wsL_serve_r1 : List Cond := [Cond.classLink RL 13 "java/lang/IllegalArgumentException", Cond.classLink RL 15 "java/lang/IllegalStateException", Cond.methodLink RL 55 yX2_serve, Cond.instanceMethod yX2_serve, Cond.selects RX2 yX2_serve yX2_serve, Cond.initialized RX2, Cond.code yX2_serve cX2_serve 4 (some .int), Cond.classLink RX2 47 "java/lang/IllegalStateException", Cond.initialized "java/lang/IllegalStateException", Cond.fieldLink RX2 114 "FeatureStore" "servingCount" "I", Cond.fieldLink RX2 27 "FeatureStore" "servings" "[LFeatureStore$Serving;", Cond.classLink RX2 25 RX1, Cond.instantiable RX1 4, Cond.initialized RX1, Cond.fieldLink RX2 35 "FeatureStore" "now" "I", Cond.methodLink RX2 31 yX2_requirePair, Cond.static yX2_requirePair, Cond.code yX2_requirePair cX2_requirePair 2 none, Cond.methodLink RX2 39 yX2_requireRange, Cond.static yX2_requireRange, Cond.code yX2_requireRange cX2_requireRange 3 none, Cond.classLink RX2 142 "java/lang/IllegalArgumentException", Cond.initialized "java/lang/IllegalArgumentException", Cond.methodLink RX2 111 yX2_tell]
def wsL_serve_r2 : List Cond := [Cond.instanceMethod yX2_tell, Cond.selects RX2 yX2_tell yX2_tell, Cond.code yX2_tell cX2_tell 3 (some .int), Cond.fieldLink RX2 22 "FeatureStore" "onlineCopy" "[LFeatureStore$Row;", Cond.methodLink RX2 83 yX2_placeOf, Cond.static yX2_placeOf, Cond.code yX2_placeOf cX2_placeOf 2 (some .int), Cond.methodLink RX2 156 yX2_numberUnlessExpired, Cond.instanceMethod yX2_numberUnlessExpired, Cond.selects RX2 yX2_numberUnlessExpired yX2_numberUnlessExpired, Cond.code yX2_numberUnlessExpired cX2_numberUnlessExpired 3 (some .int), Cond.fieldLink RX2 76 "FeatureStore$Row" "event" "I", Cond.fieldLink RX2 9 "FeatureStore" "lifetimes" "[I", Cond.fieldLink RX2 154 "FeatureStore$Row" "feature" "I", Cond.fieldLink RX2 61 "FeatureStore$Row" "number" "I", Cond.methodLink RX2 119 yX1_init, Cond.instanceMethod yX1_init, Cond.code yX1_init cX1_init 5 none, Cond.methodLink RX1 1 objectInit, Cond.instanceMethod objectInit, Cond.code objectInit ⟨#[0xb1]⟩ 1 none, Cond.fieldLink RX1 7 "FeatureStore$Serving" "feature" "I", Cond.fieldLink RX1 13 "FeatureStore$Serving" "entity" "I", Cond.fieldLink RX1 16 "FeatureStore$Serving" "time" "I"]
def wsL_serve_r3 : List Cond := [Cond.fieldLink RX1 19 "FeatureStore$Serving" "row" "I"]
def wsL_serve : List Cond := .codeWith yL_serve cL_serve 5 (some .int) [(0, 10, 13, 13), (0, 10, 17, 15)] :: ((wsL_serve_r1 ++ (wsL_serve_r2 ++ wsL_serve_r3)) ++ wsX20 ++ wsX10 ++ wsX00 ++ (vx_atS RX2 51 "java/lang/IllegalStateException" ["java/lang/RuntimeException", "java/lang/Exception"]).filter goodWord ++ (vx_atS RX2 146 "java/lang/IllegalArgumentException" ["java/lang/RuntimeException", "java/lang/Exception"]).filter goodWord)
def wsL_served : List Cond := .codeWith yL_served cL_served 4 (some .int) [(0, 9, 12, 28)] :: ([.classLink RL 28 "java/lang/IndexOutOfBoundsException", .methodLink RL 58 yX2_served, .instanceMethod yX2_served, .selects RX2 yX2_served yX2_served, .initialized RX2, .code yX2_served cX2_served 2 (some .int), .fieldLink RX2 126 "FeatureStore$Serving" "row" "I", .methodLink RX2 122 yX2_requireServing, .instanceMethod yX2_requireServing, .selects RX2 yX2_requireServing yX2_requireServing, .code yX2_requireServing cX2_requireServing 2 (some (.object "FeatureStore$Serving")), .classLink RX2 147 "java/lang/IndexOutOfBoundsException", .initialized "java/lang/IndexOutOfBoundsException", .fieldLink RX2 114 "FeatureStore" "servingCount" "I", .fieldLink RX2 27 "FeatureStore" "servings" "[LFeatureStore$Serving;"] ++ wsX10 ++ wsX20 ++ (vx_atS RX2 151 "java/lang/IndexOutOfBoundsException" ["java/lang/RuntimeException", "java/lang/Exception"]).filter goodWord)
def wsL_isSound_r1 : List Cond := [Cond.classLink RL 28 "java/lang/IndexOutOfBoundsException", Cond.methodLink RL 61 yX2_isSound, Cond.instanceMethod yX2_isSound, Cond.selects RX2 yX2_isSound yX2_isSound, Cond.initialized RX2, Cond.code yX2_isSound cX2_isSound 3 (some .boolean), Cond.fieldLink RX2 126 "FeatureStore$Serving" "row" "I", Cond.fieldLink RX2 129 "FeatureStore$Serving" "feature" "I", Cond.fieldLink RX2 132 "FeatureStore$Serving" "entity" "I", Cond.fieldLink RX2 135 "FeatureStore$Serving" "time" "I", Cond.methodLink RX2 122 yX2_requireServing, Cond.instanceMethod yX2_requireServing, Cond.selects RX2 yX2_requireServing yX2_requireServing, Cond.code yX2_requireServing cX2_requireServing 2 (some (.object "FeatureStore$Serving")), Cond.classLink RX2 147 "java/lang/IndexOutOfBoundsException", Cond.initialized "java/lang/IndexOutOfBoundsException", Cond.fieldLink RX2 114 "FeatureStore" "servingCount" "I", Cond.fieldLink RX2 27 "FeatureStore" "servings" "[LFeatureStore$Serving;", Cond.methodLink RX2 79 yX2_find, Cond.instanceMethod yX2_find, Cond.selects RX2 yX2_find yX2_find, Cond.code yX2_find cX2_find 6 (some .int), Cond.fieldLink RX2 19 "FeatureStore" "latest" "[LFeatureStore$Row;", Cond.fieldLink RX2 76 "FeatureStore$Row" "event" "I"]
def wsL_isSound_r2 : List Cond := [Cond.fieldLink RX2 73 "FeatureStore$Row" "arrival" "I", Cond.fieldLink RX2 87 "FeatureStore$Row" "older" "LFeatureStore$Row;", Cond.methodLink RX2 83 yX2_placeOf, Cond.static yX2_placeOf, Cond.code yX2_placeOf cX2_placeOf 2 (some .int), Cond.methodLink RX2 156 yX2_numberUnlessExpired, Cond.instanceMethod yX2_numberUnlessExpired, Cond.selects RX2 yX2_numberUnlessExpired yX2_numberUnlessExpired, Cond.code yX2_numberUnlessExpired cX2_numberUnlessExpired 3 (some .int), Cond.fieldLink RX2 9 "FeatureStore" "lifetimes" "[I", Cond.fieldLink RX2 154 "FeatureStore$Row" "feature" "I", Cond.fieldLink RX2 61 "FeatureStore$Row" "number" "I"]
def wsL_isSound : List Cond := .codeWith yL_isSound cL_isSound 4 (some .int) [(0, 16, 19, 28)] :: ((wsL_isSound_r1 ++ wsL_isSound_r2) ++ wsX10 ++ wsX20 ++ wsX00 ++ (vx_atS RX2 151 "java/lang/IndexOutOfBoundsException" ["java/lang/RuntimeException", "java/lang/Exception"]).filter goodWord)
def wsL_law0_r1 : List Cond := [Cond.classLink RL 8 RX2, Cond.instantiable RX2 9, Cond.initialized RX2, Cond.classLink RL 66 RX3, Cond.instantiable RX3 14, Cond.initialized RX3, Cond.arrayClass .long, Cond.methodLink RL 65 yX2_init, Cond.instanceMethod yX2_init, Cond.code yX2_init cX2_init 2 none, Cond.methodLink RX2 1 objectInit, Cond.instanceMethod objectInit, Cond.code objectInit ⟨#[0xb1]⟩ 1 none, Cond.arrayClass .int, Cond.fieldLink RX2 9 "FeatureStore" "lifetimes" "[I", Cond.classLink RX2 13 RX0, Cond.fieldLink RX2 15 "FeatureStore" "rows" "[LFeatureStore$Row;", Cond.fieldLink RX2 19 "FeatureStore" "latest" "[LFeatureStore$Row;", Cond.fieldLink RX2 22 "FeatureStore" "onlineCopy" "[LFeatureStore$Row;", Cond.classLink RX2 25 RX1, Cond.fieldLink RX2 27 "FeatureStore" "servings" "[LFeatureStore$Serving;", Cond.methodLink RL 68 yX3_init, Cond.instanceMethod yX3_init, Cond.code yX3_init cX3_init 1 none]
def wsL_law0_r2 : List Cond := [Cond.methodLink RX3 1 objectInit, Cond.fieldLink RX3 7 "FeatureStoreModel" "lifetime" "[I", Cond.fieldLink RX3 13 "FeatureStoreModel" "pair" "[I", Cond.fieldLink RX3 16 "FeatureStoreModel" "event" "[I", Cond.fieldLink RX3 19 "FeatureStoreModel" "arrival" "[I", Cond.fieldLink RX3 22 "FeatureStoreModel" "value" "[I", Cond.fieldLink RX3 25 "FeatureStoreModel" "copy" "[I", Cond.fieldLink RX3 28 "FeatureStoreModel" "servedPair" "[I", Cond.fieldLink RX3 31 "FeatureStoreModel" "servedAt" "[I", Cond.fieldLink RX3 34 "FeatureStoreModel" "served" "[I", Cond.methodLink RL 69 yL_arrive, Cond.static yL_arrive, Cond.initialized RL, Cond.codeWith yL_arrive cL_arrive 7 (some .int) [(0, 14, 17, 13), (0, 14, 21, 15)], Cond.classLink RL 13 "java/lang/IllegalArgumentException", Cond.classLink RL 15 "java/lang/IllegalStateException", Cond.methodLink RL 7 yX2_arrive, Cond.instanceMethod yX2_arrive, Cond.selects RX2 yX2_arrive yX2_arrive, Cond.code yX2_arrive cX2_arrive 6 (some .int), Cond.classLink RX2 47 "java/lang/IllegalStateException", Cond.initialized "java/lang/IllegalStateException", Cond.fieldLink RX2 35 "FeatureStore" "now" "I", Cond.constant RX2 43 (100000)]
def wsL_law0_r3 : List Cond := [Cond.fieldLink RX2 44 "FeatureStore" "rowCount" "I", Cond.instantiable RX0 7, Cond.initialized RX0, Cond.fieldLink RX2 61 "FeatureStore$Row" "number" "I", Cond.methodLink RX2 31 yX2_requirePair, Cond.static yX2_requirePair, Cond.code yX2_requirePair cX2_requirePair 2 none, Cond.methodLink RX2 39 yX2_requireRange, Cond.static yX2_requireRange, Cond.code yX2_requireRange cX2_requireRange 3 none, Cond.classLink RX2 142 "java/lang/IllegalArgumentException", Cond.initialized "java/lang/IllegalArgumentException", Cond.methodLink RX2 54 yX0_init, Cond.instanceMethod yX0_init, Cond.code yX0_init cX0_init 7 none, Cond.methodLink RX0 1 objectInit, Cond.fieldLink RX0 7 "FeatureStore$Row" "number" "I", Cond.fieldLink RX0 13 "FeatureStore$Row" "feature" "I", Cond.fieldLink RX0 16 "FeatureStore$Row" "entity" "I", Cond.fieldLink RX0 19 "FeatureStore$Row" "event" "I", Cond.fieldLink RX0 22 "FeatureStore$Row" "arrival" "I", Cond.fieldLink RX0 25 "FeatureStore$Row" "value" "I", Cond.methodLink RX2 57 yX2_putInChain, Cond.instanceMethod yX2_putInChain]
def wsL_law0_r4 : List Cond := [Cond.selects RX2 yX2_putInChain yX2_putInChain, Cond.code yX2_putInChain cX2_putInChain 5 none, Cond.fieldLink RX2 154 "FeatureStore$Row" "feature" "I", Cond.fieldLink RX2 155 "FeatureStore$Row" "entity" "I", Cond.fieldLink RX2 76 "FeatureStore$Row" "event" "I", Cond.fieldLink RX2 87 "FeatureStore$Row" "older" "LFeatureStore$Row;", Cond.methodLink RX2 83 yX2_placeOf, Cond.static yX2_placeOf, Cond.code yX2_placeOf cX2_placeOf 2 (some .int), Cond.methodLink RL 74 yX3_arrive, Cond.instanceMethod yX3_arrive, Cond.selects RX3 yX3_arrive yX3_arrive, Cond.code yX3_arrive cX3_arrive 6 (some .int), Cond.fieldLink RX3 49 "FeatureStoreModel" "now" "I", Cond.constant RX3 52 (100000), Cond.fieldLink RX3 53 "FeatureStoreModel" "rows" "I", Cond.fieldLink RX3 37 "FeatureStoreModel" "thrown" "I", Cond.methodLink RX3 45 yX3_isPair, Cond.static yX3_isPair, Cond.code yX3_isPair cX3_isPair 2 (some .boolean), Cond.methodLink RX3 41 yX3_in, Cond.static yX3_in, Cond.code yX3_in cX3_in 3 (some .boolean), Cond.methodLink RX3 56 yX3_pairOf]
def wsL_law0_r5 : List Cond := [Cond.static yX3_pairOf, Cond.code yX3_pairOf cX3_pairOf 2 (some .int), Cond.methodLink RL 75 yX3_thrown, Cond.instanceMethod yX3_thrown, Cond.selects RX3 yX3_thrown yX3_thrown, Cond.code yX3_thrown cX3_thrown 1 (some .int), Cond.methodLink RL 79 yL_pass, Cond.static yL_pass, Cond.codeWith yL_pass cL_pass 4 (some .int) [(0, 9, 12, 13), (0, 9, 15, 15)], Cond.methodLink RL 17 yX2_pass, Cond.instanceMethod yX2_pass, Cond.selects RX2 yX2_pass yX2_pass, Cond.code yX2_pass cX2_pass 2 (some .int), Cond.methodLink RL 82 yX3_pass, Cond.instanceMethod yX3_pass, Cond.selects RX3 yX3_pass yX3_pass, Cond.code yX3_pass cX3_pass 2 (some .int), Cond.methodLink RL 83 yL_setLifetime, Cond.static yL_setLifetime, Cond.codeWith yL_setLifetime cL_setLifetime 5 (some .int) [(0, 10, 13, 13)], Cond.methodLink RL 21 yX2_setLifetime, Cond.instanceMethod yX2_setLifetime, Cond.selects RX2 yX2_setLifetime yX2_setLifetime, Cond.code yX2_setLifetime cX2_setLifetime 4 (some .int)]
def wsL_law0_r6 : List Cond := [Cond.methodLink RL 86 yX3_setLifetime, Cond.instanceMethod yX3_setLifetime, Cond.selects RX3 yX3_setLifetime yX3_setLifetime, Cond.code yX3_setLifetime cX3_setLifetime 4 (some .int), Cond.methodLink RL 87 yX2_now, Cond.instanceMethod yX2_now, Cond.selects RX2 yX2_now yX2_now, Cond.code yX2_now cX2_now 1 (some .int), Cond.methodLink RL 90 yX3_now, Cond.instanceMethod yX3_now, Cond.selects RX3 yX3_now yX3_now, Cond.code yX3_now cX3_now 1 (some .int), Cond.methodLink RL 91 yX2_rows, Cond.instanceMethod yX2_rows, Cond.selects RX2 yX2_rows yX2_rows, Cond.code yX2_rows cX2_rows 1 (some .int), Cond.methodLink RL 94 yX3_rows, Cond.instanceMethod yX3_rows, Cond.selects RX3 yX3_rows yX3_rows, Cond.code yX3_rows cX3_rows 1 (some .int), Cond.methodLink RL 95 yL_value, Cond.static yL_value, Cond.codeWith yL_value cL_value 4 (some .int) [(0, 9, 12, 28)], Cond.classLink RL 28 "java/lang/IndexOutOfBoundsException"]
def wsL_law0_r7 : List Cond := [Cond.methodLink RL 25 yX2_value, Cond.instanceMethod yX2_value, Cond.selects RX2 yX2_value yX2_value, Cond.code yX2_value cX2_value 2 (some .int), Cond.fieldLink RX2 70 "FeatureStore$Row" "value" "I", Cond.methodLink RX2 66 yX2_requireRow, Cond.instanceMethod yX2_requireRow, Cond.selects RX2 yX2_requireRow yX2_requireRow, Cond.code yX2_requireRow cX2_requireRow 3 (some (.object "FeatureStore$Row")), Cond.classLink RX2 147 "java/lang/IndexOutOfBoundsException", Cond.initialized "java/lang/IndexOutOfBoundsException", Cond.methodLink RX2 105 yX2_rowOrNull, Cond.instanceMethod yX2_rowOrNull, Cond.selects RX2 yX2_rowOrNull yX2_rowOrNull, Cond.code yX2_rowOrNull cX2_rowOrNull 2 (some (.object "FeatureStore$Row")), Cond.methodLink RL 97 yX3_value, Cond.instanceMethod yX3_value, Cond.selects RX3 yX3_value yX3_value, Cond.code yX3_value cX3_value 2 (some .int), Cond.methodLink RX3 60 yX3_asksRow, Cond.instanceMethod yX3_asksRow, Cond.selects RX3 yX3_asksRow yX3_asksRow, Cond.code yX3_asksRow cX3_asksRow 2 (some .boolean), Cond.methodLink RL 98 yL_late]
def wsL_law0_r8 : List Cond := [Cond.static yL_late, Cond.codeWith yL_late cL_late 4 (some .int) [(0, 9, 12, 28)], Cond.methodLink RL 30 yX2_late, Cond.instanceMethod yX2_late, Cond.selects RX2 yX2_late yX2_late, Cond.code yX2_late cX2_late 3 (some .int), Cond.fieldLink RX2 73 "FeatureStore$Row" "arrival" "I", Cond.methodLink RL 100 yX3_late, Cond.instanceMethod yX3_late, Cond.selects RX3 yX3_late yX3_late, Cond.code yX3_late cX3_late 2 (some .int), Cond.methodLink RL 101 yL_join, Cond.static yL_join, Cond.codeWith yL_join cL_join 7 (some .int) [(0, 14, 17, 13)], Cond.methodLink RL 33 yX2_join, Cond.instanceMethod yX2_join, Cond.selects RX2 yX2_join yX2_join, Cond.code yX2_join cX2_join 5 (some .int), Cond.methodLink RX2 79 yX2_find, Cond.instanceMethod yX2_find, Cond.selects RX2 yX2_find yX2_find, Cond.code yX2_find cX2_find 6 (some .int), Cond.methodLink RX2 156 yX2_numberUnlessExpired, Cond.instanceMethod yX2_numberUnlessExpired]
def wsL_law0_r9 : List Cond := [Cond.selects RX2 yX2_numberUnlessExpired yX2_numberUnlessExpired, Cond.code yX2_numberUnlessExpired cX2_numberUnlessExpired 3 (some .int), Cond.methodLink RL 103 yX3_join, Cond.instanceMethod yX3_join, Cond.selects RX3 yX3_join yX3_join, Cond.code yX3_join cX3_join 5 (some .int), Cond.methodLink RX3 67 yX3_joins, Cond.instanceMethod yX3_joins, Cond.selects RX3 yX3_joins yX3_joins, Cond.code yX3_joins cX3_joins 7 (some .int), Cond.methodLink RX3 64 yX3_fresh, Cond.instanceMethod yX3_fresh, Cond.selects RX3 yX3_fresh yX3_fresh, Cond.code yX3_fresh cX3_fresh 4 (some .int), Cond.methodLink RL 104 yL_window, Cond.static yL_window, Cond.codeWith yL_window cL_window 7 (some .int) [(0, 14, 17, 13)], Cond.methodLink RL 36 yX2_window, Cond.instanceMethod yX2_window, Cond.selects RX2 yX2_window yX2_window, Cond.code yX2_window cX2_window 7 (some .int), Cond.methodLink RL 106 yX3_window, Cond.instanceMethod yX3_window, Cond.selects RX3 yX3_window yX3_window]
def wsL_law0_r10 : List Cond := [Cond.code yX3_window cX3_window 5 (some .int), Cond.methodLink RX3 71 yX3_sums, Cond.instanceMethod yX3_sums, Cond.selects RX3 yX3_sums yX3_sums, Cond.code yX3_sums cX3_sums 6 (some .int), Cond.methodLink RL 107 yL_greatestTile, Cond.static yL_greatestTile, Cond.codeWith yL_greatestTile cL_greatestTile 6 (some .int) [(0, 12, 15, 13)], Cond.methodLink RL 39 yX2_greatestTile, Cond.instanceMethod yX2_greatestTile, Cond.selects RX2 yX2_greatestTile yX2_greatestTile, Cond.code yX2_greatestTile cX2_greatestTile 9 (some .int), Cond.methodLink RX2 91 Lib.Math.max.name, Cond.static Lib.Math.max.name, Cond.initialized "java/lang/Math", Cond.code Lib.Math.max.name Lib.Math.max.code 2 (some .int), Cond.methodLink RL 110 yX3_greatestTile, Cond.instanceMethod yX3_greatestTile, Cond.selects RX3 yX3_greatestTile yX3_greatestTile, Cond.code yX3_greatestTile cX3_greatestTile 9 (some .int), Cond.methodLink RX3 74 yX3_asksTiles, Cond.instanceMethod yX3_asksTiles, Cond.selects RX3 yX3_asksTiles yX3_asksTiles, Cond.code yX3_asksTiles cX3_asksTiles 4 (some .boolean)]
def wsL_law0_r11 : List Cond := [Cond.methodLink RX3 77 yX3_isFirst, Cond.instanceMethod yX3_isFirst, Cond.selects RX3 yX3_isFirst yX3_isFirst, Cond.code yX3_isFirst cX3_isFirst 5 (some .boolean), Cond.methodLink RL 111 yL_tiles, Cond.static yL_tiles, Cond.codeWith yL_tiles cL_tiles 6 (some .int) [(0, 12, 15, 13)], Cond.methodLink RL 43 yX2_tiles, Cond.instanceMethod yX2_tiles, Cond.selects RX2 yX2_tiles yX2_tiles, Cond.code yX2_tiles cX2_tiles 8 (some .int), Cond.methodLink RL 113 yX3_tiles, Cond.instanceMethod yX3_tiles, Cond.selects RX3 yX3_tiles yX3_tiles, Cond.code yX3_tiles cX3_tiles 6 (some .int), Cond.methodLink RL 114 yL_revised, Cond.static yL_revised, Cond.codeWith yL_revised cL_revised 6 (some .int) [(0, 12, 15, 13)], Cond.methodLink RL 46 yX2_revised, Cond.instanceMethod yX2_revised, Cond.selects RX2 yX2_revised yX2_revised, Cond.code yX2_revised cX2_revised 9 (some .int), Cond.methodLink RX2 96 Lib.Math.min.name, Cond.static Lib.Math.min.name]
def wsL_law0_r12 : List Cond := [Cond.code Lib.Math.min.name Lib.Math.min.code 2 (some .int), Cond.methodLink RX2 99 yX2_multiplesBelow, Cond.static yX2_multiplesBelow, Cond.code yX2_multiplesBelow cX2_multiplesBelow 2 (some .int), Cond.methodLink RL 116 yX3_revised, Cond.instanceMethod yX3_revised, Cond.selects RX3 yX3_revised yX3_revised, Cond.code yX3_revised cX3_revised 6 (some .int), Cond.methodLink RL 117 yL_take, Cond.static yL_take, Cond.codeWith yL_take cL_take 4 (some .int) [(0, 9, 12, 13)], Cond.methodLink RL 49 yX2_take, Cond.instanceMethod yX2_take, Cond.selects RX2 yX2_take yX2_take, Cond.code yX2_take cX2_take 4 (some .int), Cond.fieldLink RX2 102 "FeatureStore" "taken" "I", Cond.methodLink RX2 108 yX2_takeIn, Cond.instanceMethod yX2_takeIn, Cond.selects RX2 yX2_takeIn yX2_takeIn, Cond.code yX2_takeIn cX2_takeIn 4 none, Cond.methodLink RL 119 yX3_take, Cond.instanceMethod yX3_take, Cond.selects RX3 yX3_take yX3_take, Cond.code yX3_take cX3_take 4 (some .int)]
def wsL_law0_r13 : List Cond := [Cond.fieldLink RX3 80 "FeatureStoreModel" "taken" "I", Cond.methodLink RL 120 yX2_lag, Cond.instanceMethod yX2_lag, Cond.selects RX2 yX2_lag yX2_lag, Cond.code yX2_lag cX2_lag 1 (some .int), Cond.methodLink RL 123 yX3_lag, Cond.instanceMethod yX3_lag, Cond.selects RX3 yX3_lag yX3_lag, Cond.code yX3_lag cX3_lag 1 (some .int), Cond.methodLink RL 124 yL_online, Cond.static yL_online, Cond.codeWith yL_online cL_online 5 (some .int) [(0, 10, 13, 13)], Cond.methodLink RL 52 yX2_online, Cond.instanceMethod yX2_online, Cond.selects RX2 yX2_online yX2_online, Cond.code yX2_online cX2_online 3 (some .int), Cond.methodLink RX2 111 yX2_tell, Cond.instanceMethod yX2_tell, Cond.selects RX2 yX2_tell yX2_tell, Cond.code yX2_tell cX2_tell 3 (some .int), Cond.methodLink RL 126 yX3_online, Cond.instanceMethod yX3_online, Cond.selects RX3 yX3_online yX3_online, Cond.code yX3_online cX3_online 3 (some .int)]
def wsL_law0_r14 : List Cond := [Cond.methodLink RL 127 yX2_skew, Cond.instanceMethod yX2_skew, Cond.selects RX2 yX2_skew yX2_skew, Cond.code yX2_skew cX2_skew 4 (some .int), Cond.methodLink RL 130 yX3_skew, Cond.instanceMethod yX3_skew, Cond.selects RX3 yX3_skew yX3_skew, Cond.code yX3_skew cX3_skew 3 (some .int), Cond.methodLink RL 131 yL_serve, Cond.static yL_serve, Cond.codeWith yL_serve cL_serve 5 (some .int) [(0, 10, 13, 13), (0, 10, 17, 15)], Cond.methodLink RL 55 yX2_serve, Cond.instanceMethod yX2_serve, Cond.selects RX2 yX2_serve yX2_serve, Cond.code yX2_serve cX2_serve 4 (some .int), Cond.fieldLink RX2 114 "FeatureStore" "servingCount" "I", Cond.instantiable RX1 4, Cond.initialized RX1, Cond.methodLink RX2 119 yX1_init, Cond.instanceMethod yX1_init, Cond.code yX1_init cX1_init 5 none, Cond.methodLink RX1 1 objectInit, Cond.fieldLink RX1 7 "FeatureStore$Serving" "feature" "I", Cond.fieldLink RX1 13 "FeatureStore$Serving" "entity" "I"]
def wsL_law0_r15 : List Cond := [Cond.fieldLink RX1 16 "FeatureStore$Serving" "time" "I", Cond.fieldLink RX1 19 "FeatureStore$Serving" "row" "I", Cond.methodLink RL 133 yX3_serve, Cond.instanceMethod yX3_serve, Cond.selects RX3 yX3_serve yX3_serve, Cond.code yX3_serve cX3_serve 4 (some .int), Cond.fieldLink RX3 83 "FeatureStoreModel" "servings" "I", Cond.methodLink RL 134 yX2_servings, Cond.instanceMethod yX2_servings, Cond.selects RX2 yX2_servings yX2_servings, Cond.code yX2_servings cX2_servings 1 (some .int), Cond.methodLink RL 137 yX3_servings, Cond.instanceMethod yX3_servings, Cond.selects RX3 yX3_servings yX3_servings, Cond.code yX3_servings cX3_servings 1 (some .int), Cond.methodLink RL 138 yL_served, Cond.static yL_served, Cond.codeWith yL_served cL_served 4 (some .int) [(0, 9, 12, 28)], Cond.methodLink RL 58 yX2_served, Cond.instanceMethod yX2_served, Cond.selects RX2 yX2_served yX2_served, Cond.code yX2_served cX2_served 2 (some .int), Cond.fieldLink RX2 126 "FeatureStore$Serving" "row" "I", Cond.methodLink RX2 122 yX2_requireServing]
def wsL_law0_r16 : List Cond := [Cond.instanceMethod yX2_requireServing, Cond.selects RX2 yX2_requireServing yX2_requireServing, Cond.code yX2_requireServing cX2_requireServing 2 (some (.object "FeatureStore$Serving")), Cond.methodLink RL 140 yX3_served, Cond.instanceMethod yX3_served, Cond.selects RX3 yX3_served yX3_served, Cond.code yX3_served cX3_served 2 (some .int), Cond.methodLink RX3 86 yX3_asksServing, Cond.instanceMethod yX3_asksServing, Cond.selects RX3 yX3_asksServing yX3_asksServing, Cond.code yX3_asksServing cX3_asksServing 2 (some .boolean), Cond.methodLink RL 141 yL_isSound, Cond.static yL_isSound, Cond.codeWith yL_isSound cL_isSound 4 (some .int) [(0, 16, 19, 28)], Cond.methodLink RL 61 yX2_isSound, Cond.instanceMethod yX2_isSound, Cond.selects RX2 yX2_isSound yX2_isSound, Cond.code yX2_isSound cX2_isSound 3 (some .boolean), Cond.fieldLink RX2 129 "FeatureStore$Serving" "feature" "I", Cond.fieldLink RX2 132 "FeatureStore$Serving" "entity" "I", Cond.fieldLink RX2 135 "FeatureStore$Serving" "time" "I", Cond.methodLink RL 143 yX3_isSound, Cond.instanceMethod yX3_isSound, Cond.selects RX3 yX3_isSound yX3_isSound]
def wsL_law0_r17 : List Cond := [Cond.code yX3_isSound cX3_isSound 2 (some .boolean), Cond.methodLink RX3 89 yX3_isRight, Cond.instanceMethod yX3_isRight, Cond.selects RX3 yX3_isRight yX3_isRight, Cond.code yX3_isRight cX3_isRight 2 (some .boolean), Cond.methodLink RL 144 yX2_unsound, Cond.instanceMethod yX2_unsound, Cond.selects RX2 yX2_unsound yX2_unsound, Cond.code yX2_unsound cX2_unsound 3 (some .int), Cond.methodLink RX2 138 yX2_isSound, Cond.methodLink RL 147 yX3_unsound, Cond.instanceMethod yX3_unsound, Cond.selects RX3 yX3_unsound yX3_unsound, Cond.code yX3_unsound cX3_unsound 3 (some .int)]
def wsL_law0 : List Cond := (wsL_law0_r1 ++ (wsL_law0_r2 ++ (wsL_law0_r3 ++ (wsL_law0_r4 ++ (wsL_law0_r5 ++ (wsL_law0_r6 ++ (wsL_law0_r7 ++ (wsL_law0_r8 ++ (wsL_law0_r9 ++ (wsL_law0_r10 ++ (wsL_law0_r11 ++ (wsL_law0_r12 ++ (wsL_law0_r13 ++ (wsL_law0_r14 ++ (wsL_law0_r15 ++ (wsL_law0_r16 ++ wsL_law0_r17)))))))))))))))) ++ wsX20 ++ wsX30 ++ wsX00 ++ wsX10 ++ ([] : List Cond)
def wsL_law : List Cond := wsL_law0 ++ (vx_atS RX2 51 "java/lang/IllegalStateException" ["java/lang/RuntimeException", "java/lang/Exception"]).filter goodWord ++ (vx_atS RX2 146 "java/lang/IllegalArgumentException" ["java/lang/RuntimeException", "java/lang/Exception"]).filter goodWord ++ (vx_atS RX2 151 "java/lang/IndexOutOfBoundsException" ["java/lang/RuntimeException", "java/lang/Exception"]).filter goodWord
set_option maxRecDepth 20000 in
theorem wsL_law_in0 : ∀ w ∈ wsL_law0, w ∈ lw_tbl := fun w h => (goodIn_p wsL_law0 [33, 36, 416, 193, 196, 199, 236, 269, 92, 468, 471, 474, 478, 464, 276, 482, 284, 486, 73, 490, 77, 494, 292, 296, 300, 498, 502, 308, 506, 315, 100, 96, 510, 514, 518, 322, 522, 526, 329, 332, 530, 534, 538, 339, 542, 346, 349, 352, 546, 359, 363, 550, 81, 554, 370, 89, 558, 85, 562, 377, 382, 566, 104, 570, 407, 116, 574, 578, 112, 582, 586, 108, 590] (by decide +kernel) (by decide +kernel) w h).1
theorem wsL_law_x0 : ∀ w ∈ (vx_atS RX2 51 "java/lang/IllegalStateException" ["java/lang/RuntimeException", "java/lang/Exception"]).filter goodWord, w ∈ lw_tbl := by decide +kernel
theorem wsL_law_x1 : ∀ w ∈ (vx_atS RX2 146 "java/lang/IllegalArgumentException" ["java/lang/RuntimeException", "java/lang/Exception"]).filter goodWord, w ∈ lw_tbl := by decide +kernel
theorem wsL_law_x2 : ∀ w ∈ (vx_atS RX2 151 "java/lang/IndexOutOfBoundsException" ["java/lang/RuntimeException", "java/lang/Exception"]).filter goodWord, w ∈ lw_tbl := by decide +kernel
theorem wsL_law_in : ∀ w ∈ wsL_law, w ∈ lw_tbl := fun w h => (List.mem_append.mp h).elim (fun h => (List.mem_append.mp h).elim (fun h => (List.mem_append.mp h).elim (fun h => wsL_law_in0 w h) (fun h => wsL_law_x0 w h)) (fun h => wsL_law_x1 w h)) (fun h => wsL_law_x2 w h)
theorem inlX0 : ∀ w ∈ wsX00, w ∈ wsL_law := fun _ h => List.mem_append_left _ (List.mem_append_left _ (List.mem_append_left _ (List.mem_append_left _ (List.mem_append_left _ (List.mem_append_right _ h)))))
theorem inX0 : ∀ w ∈ wsX00, w ∈ lw_tbl := fun w h => wsL_law_in w (inlX0 w h)
theorem inlX1 : ∀ w ∈ wsX10, w ∈ wsL_law := fun _ h => List.mem_append_left _ (List.mem_append_left _ (List.mem_append_left _ (List.mem_append_left _ (List.mem_append_right _ h))))
theorem inX1 : ∀ w ∈ wsX10, w ∈ lw_tbl := fun w h => wsL_law_in w (inlX1 w h)
theorem inlX2 : ∀ w ∈ wsX20, w ∈ wsL_law := fun _ h => List.mem_append_left _ (List.mem_append_left _ (List.mem_append_left _ (List.mem_append_left _ (List.mem_append_left _ (List.mem_append_left _ (List.mem_append_left _ (List.mem_append_right _ h)))))))
theorem inX2 : ∀ w ∈ wsX20, w ∈ lw_tbl := fun w h => wsL_law_in w (inlX2 w h)
theorem inlX3 : ∀ w ∈ wsX30, w ∈ wsL_law := fun _ h => List.mem_append_left _ (List.mem_append_left _ (List.mem_append_left _ (List.mem_append_left _ (List.mem_append_left _ (List.mem_append_left _ (List.mem_append_right _ h))))))
theorem inX3 : ∀ w ∈ wsX30, w ∈ lw_tbl := fun w h => wsL_law_in w (inlX3 w h)
theorem inJ9 : ∀ w ∈ wsJ90, w ∈ lw_tbl := by decide +kernel
theorem inJ0 : ∀ w ∈ wsJ00, w ∈ lw_tbl := by decide +kernel
theorem dX0_init_0 : decode cX0_init 0 = .ok (.aload_n 0, 1) := by decide +kernel
theorem dX0_init_1 : decode cX0_init 1 = .ok (.invokespecial 1, 3) := by decide +kernel
theorem dX0_init_4 : decode cX0_init 4 = .ok (.aload_n 0, 1) := by decide +kernel
theorem dX0_init_5 : decode cX0_init 5 = .ok (.iload_n 1, 1) := by decide +kernel
theorem dX0_init_6 : decode cX0_init 6 = .ok (.putfield 7, 3) := by decide +kernel
theorem dX0_init_9 : decode cX0_init 9 = .ok (.aload_n 0, 1) := by decide +kernel
theorem dX0_init_10 : decode cX0_init 10 = .ok (.iload_n 2, 1) := by decide +kernel
theorem dX0_init_11 : decode cX0_init 11 = .ok (.putfield 13, 3) := by decide +kernel
theorem dX0_init_14 : decode cX0_init 14 = .ok (.aload_n 0, 1) := by decide +kernel
theorem dX0_init_15 : decode cX0_init 15 = .ok (.iload_n 3, 1) := by decide +kernel
theorem dX0_init_16 : decode cX0_init 16 = .ok (.putfield 16, 3) := by decide +kernel
theorem dX0_init_19 : decode cX0_init 19 = .ok (.aload_n 0, 1) := by decide +kernel
theorem dX0_init_20 : decode cX0_init 20 = .ok (.iload 4, 2) := by decide +kernel
theorem dX0_init_22 : decode cX0_init 22 = .ok (.putfield 19, 3) := by decide +kernel
theorem dX0_init_25 : decode cX0_init 25 = .ok (.aload_n 0, 1) := by decide +kernel
theorem dX0_init_26 : decode cX0_init 26 = .ok (.iload 5, 2) := by decide +kernel
theorem dX0_init_28 : decode cX0_init 28 = .ok (.putfield 22, 3) := by decide +kernel
theorem dX0_init_31 : decode cX0_init 31 = .ok (.aload_n 0, 1) := by decide +kernel
theorem dX0_init_32 : decode cX0_init 32 = .ok (.iload 6, 2) := by decide +kernel
theorem dX0_init_34 : decode cX0_init 34 = .ok (.putfield 25, 3) := by decide +kernel
theorem dX0_init_37 : decode cX0_init 37 = .ok (.return_, 1) := by decide +kernel
theorem dX1_init_0 : decode cX1_init 0 = .ok (.aload_n 0, 1) := by decide +kernel
theorem dX1_init_1 : decode cX1_init 1 = .ok (.invokespecial 1, 3) := by decide +kernel
theorem dX1_init_4 : decode cX1_init 4 = .ok (.aload_n 0, 1) := by decide +kernel
theorem dX1_init_5 : decode cX1_init 5 = .ok (.iload_n 1, 1) := by decide +kernel
theorem dX1_init_6 : decode cX1_init 6 = .ok (.putfield 7, 3) := by decide +kernel
theorem dX1_init_9 : decode cX1_init 9 = .ok (.aload_n 0, 1) := by decide +kernel
theorem dX1_init_10 : decode cX1_init 10 = .ok (.iload_n 2, 1) := by decide +kernel
theorem dX1_init_11 : decode cX1_init 11 = .ok (.putfield 13, 3) := by decide +kernel
theorem dX1_init_14 : decode cX1_init 14 = .ok (.aload_n 0, 1) := by decide +kernel
theorem dX1_init_15 : decode cX1_init 15 = .ok (.iload_n 3, 1) := by decide +kernel
theorem dX1_init_16 : decode cX1_init 16 = .ok (.putfield 16, 3) := by decide +kernel
theorem dX1_init_19 : decode cX1_init 19 = .ok (.aload_n 0, 1) := by decide +kernel
theorem dX1_init_20 : decode cX1_init 20 = .ok (.iload 4, 2) := by decide +kernel
theorem dX1_init_22 : decode cX1_init 22 = .ok (.putfield 19, 3) := by decide +kernel
theorem dX1_init_25 : decode cX1_init 25 = .ok (.return_, 1) := by decide +kernel
theorem dX2_init_0 : decode cX2_init 0 = .ok (.aload_n 0, 1) := by decide +kernel
theorem dX2_init_1 : decode cX2_init 1 = .ok (.invokespecial 1, 3) := by decide +kernel
theorem dX2_init_4 : decode cX2_init 4 = .ok (.aload_n 0, 1) := by decide +kernel
theorem dX2_init_5 : decode cX2_init 5 = .ok (.bipush 6, 2) := by decide +kernel
theorem dX2_init_7 : decode cX2_init 7 = .ok (.newarray .int, 2) := by decide +kernel
theorem dX2_init_9 : decode cX2_init 9 = .ok (.putfield 9, 3) := by decide +kernel
theorem dX2_init_12 : decode cX2_init 12 = .ok (.iconst 0, 1) := by decide +kernel
theorem dX2_init_13 : decode cX2_init 13 = .ok (.istore_n 1, 1) := by decide +kernel
theorem dX2_init_14 : decode cX2_init 14 = .ok (.iload_n 1, 1) := by decide +kernel
theorem dX2_init_15 : decode cX2_init 15 = .ok (.bipush 6, 2) := by decide +kernel
theorem dX2_init_17 : decode cX2_init 17 = .ok (.if_icmp .ge 18, 3) := by decide +kernel
theorem dX2_init_20 : decode cX2_init 20 = .ok (.aload_n 0, 1) := by decide +kernel
theorem dX2_init_21 : decode cX2_init 21 = .ok (.getfield 9, 3) := by decide +kernel
theorem dX2_init_24 : decode cX2_init 24 = .ok (.iload_n 1, 1) := by decide +kernel
theorem dX2_init_25 : decode cX2_init 25 = .ok (.sipush 10000, 3) := by decide +kernel
theorem dX2_init_28 : decode cX2_init 28 = .ok (.iastore, 1) := by decide +kernel
theorem dX2_init_29 : decode cX2_init 29 = .ok (.iinc 1 1, 3) := by decide +kernel
theorem dX2_init_32 : decode cX2_init 32 = .ok (.goto (-18), 3) := by decide +kernel
theorem dX2_init_35 : decode cX2_init 35 = .ok (.aload_n 0, 1) := by decide +kernel
theorem dX2_init_36 : decode cX2_init 36 = .ok (.sipush 200, 3) := by decide +kernel
theorem dX2_init_39 : decode cX2_init 39 = .ok (.anewarray 13, 3) := by decide +kernel
theorem dX2_init_42 : decode cX2_init 42 = .ok (.putfield 15, 3) := by decide +kernel
theorem dX2_init_45 : decode cX2_init 45 = .ok (.aload_n 0, 1) := by decide +kernel
theorem dX2_init_46 : decode cX2_init 46 = .ok (.bipush 60, 2) := by decide +kernel
theorem dX2_init_48 : decode cX2_init 48 = .ok (.anewarray 13, 3) := by decide +kernel
theorem dX2_init_51 : decode cX2_init 51 = .ok (.putfield 19, 3) := by decide +kernel
theorem dX2_init_54 : decode cX2_init 54 = .ok (.aload_n 0, 1) := by decide +kernel
theorem dX2_init_55 : decode cX2_init 55 = .ok (.bipush 60, 2) := by decide +kernel
theorem dX2_init_57 : decode cX2_init 57 = .ok (.anewarray 13, 3) := by decide +kernel
theorem dX2_init_60 : decode cX2_init 60 = .ok (.putfield 22, 3) := by decide +kernel
theorem dX2_init_63 : decode cX2_init 63 = .ok (.aload_n 0, 1) := by decide +kernel
theorem dX2_init_64 : decode cX2_init 64 = .ok (.sipush 200, 3) := by decide +kernel
theorem dX2_init_67 : decode cX2_init 67 = .ok (.anewarray 25, 3) := by decide +kernel
theorem dX2_init_70 : decode cX2_init 70 = .ok (.putfield 27, 3) := by decide +kernel
theorem dX2_init_73 : decode cX2_init 73 = .ok (.return_, 1) := by decide +kernel
set_option maxRecDepth 20000 in
theorem ggX2_arrive_X2_requirePair : GoodIn wsX2_arrive wsX2_requirePair := goodIn_ca (goodIn_r _ [14, 15, 16, 13, 17, 18, 19] (by decide +kernel) (by decide +kernel)) (goodIn_sub (fun _ h => List.mem_cons_of_mem _ (List.mem_append_right _ h)) (by decide +kernel))
set_option maxRecDepth 20000 in
theorem gX2_arrive_X2_requirePair : GoodIn wsX2_arrive (va_wsS RX2 31 yX2_requirePair wsX2_requirePair) := goodIn_app (goodIn_of _ (by decide +kernel)) ggX2_arrive_X2_requirePair
set_option maxRecDepth 20000 in
theorem ggX2_arrive_X2_requireRange : GoodIn wsX2_arrive wsX2_requireRange := goodIn_ca (goodIn_r _ [17, 18, 19] (by decide +kernel) (by decide +kernel)) (goodIn_sub (fun _ h => List.mem_cons_of_mem _ (List.mem_append_right _ h)) (by decide +kernel))
set_option maxRecDepth 20000 in
theorem gX2_arrive_X2_requireRange : GoodIn wsX2_arrive (va_wsS RX2 39 yX2_requireRange wsX2_requireRange) := goodIn_app (goodIn_of _ (by decide +kernel)) ggX2_arrive_X2_requireRange
set_option maxRecDepth 20000 in
theorem ggX2_arrive_X0_init : GoodIn wsX2_arrive wsX0_init := goodIn_r _ [22, 23, 24, 25, 26, 27, 28, 29, 30, 31, 53, 54, 55, 56, 57, 58, 59] (by decide +kernel) (by decide +kernel)
set_option maxRecDepth 20000 in
theorem gX2_arrive_X0_init : GoodIn wsX2_arrive (wsX0_init) := ggX2_arrive_X0_init
set_option maxRecDepth 20000 in
theorem ggX2_arrive_X2_putInChain : GoodIn wsX2_arrive wsX2_putInChain := goodIn_r _ [35, 36, 37, 38, 39, 40, 41, 42, 13, 43, 53, 54, 55, 56, 57, 58, 59, 44, 45, 46, 47, 48, 49, 50, 51, 52] (by decide +kernel) (by decide +kernel)
set_option maxRecDepth 20000 in
theorem gX2_arrive_X2_putInChain : GoodIn wsX2_arrive (wsV RX2 57 RX2 yX2_putInChain wsX2_putInChain) := goodIn_app (goodIn_of _ (by decide +kernel)) ggX2_arrive_X2_putInChain
theorem dX2_arrive_0 : decode cX2_arrive 0 = .ok (.iload_n 1, 1) := by decide +kernel
theorem dX2_arrive_1 : decode cX2_arrive 1 = .ok (.iload_n 2, 1) := by decide +kernel
theorem dX2_arrive_2 : decode cX2_arrive 2 = .ok (.invokestatic 31, 3) := by decide +kernel
theorem dX2_arrive_5 : decode cX2_arrive 5 = .ok (.iload_n 3, 1) := by decide +kernel
theorem dX2_arrive_6 : decode cX2_arrive 6 = .ok (.iconst 0, 1) := by decide +kernel
theorem dX2_arrive_7 : decode cX2_arrive 7 = .ok (.aload_n 0, 1) := by decide +kernel
theorem dX2_arrive_8 : decode cX2_arrive 8 = .ok (.getfield 35, 3) := by decide +kernel
theorem dX2_arrive_11 : decode cX2_arrive 11 = .ok (.invokestatic 39, 3) := by decide +kernel
theorem dX2_arrive_14 : decode cX2_arrive 14 = .ok (.iload 4, 2) := by decide +kernel
theorem dX2_arrive_16 : decode cX2_arrive 16 = .ok (.iconst 0, 1) := by decide +kernel
theorem dX2_arrive_17 : decode cX2_arrive 17 = .ok (.ldc 43, 2) := by decide +kernel
theorem dX2_arrive_19 : decode cX2_arrive 19 = .ok (.invokestatic 39, 3) := by decide +kernel
theorem dX2_arrive_22 : decode cX2_arrive 22 = .ok (.aload_n 0, 1) := by decide +kernel
theorem dX2_arrive_23 : decode cX2_arrive 23 = .ok (.getfield 44, 3) := by decide +kernel
theorem dX2_arrive_26 : decode cX2_arrive 26 = .ok (.sipush 200, 3) := by decide +kernel
theorem dX2_arrive_29 : decode cX2_arrive 29 = .ok (.if_icmp .lt 13, 3) := by decide +kernel
theorem dX2_arrive_32 : decode cX2_arrive 32 = .ok (.new 47, 3) := by decide +kernel
theorem dX2_arrive_35 : decode cX2_arrive 35 = .ok (.dup, 1) := by decide +kernel
theorem dX2_arrive_36 : decode cX2_arrive 36 = .ok (.ldc 49, 2) := by decide +kernel
theorem dX2_arrive_38 : decode cX2_arrive 38 = .ok (.invokespecial 51, 3) := by decide +kernel
theorem dX2_arrive_41 : decode cX2_arrive 41 = .ok (.athrow, 1) := by decide +kernel
theorem dX2_arrive_42 : decode cX2_arrive 42 = .ok (.new 13, 3) := by decide +kernel
theorem dX2_arrive_45 : decode cX2_arrive 45 = .ok (.dup, 1) := by decide +kernel
theorem dX2_arrive_46 : decode cX2_arrive 46 = .ok (.aload_n 0, 1) := by decide +kernel
theorem dX2_arrive_47 : decode cX2_arrive 47 = .ok (.getfield 44, 3) := by decide +kernel
theorem dX2_arrive_50 : decode cX2_arrive 50 = .ok (.iload_n 1, 1) := by decide +kernel
theorem dX2_arrive_51 : decode cX2_arrive 51 = .ok (.iload_n 2, 1) := by decide +kernel
theorem dX2_arrive_52 : decode cX2_arrive 52 = .ok (.iload_n 3, 1) := by decide +kernel
theorem dX2_arrive_53 : decode cX2_arrive 53 = .ok (.aload_n 0, 1) := by decide +kernel
theorem dX2_arrive_54 : decode cX2_arrive 54 = .ok (.getfield 35, 3) := by decide +kernel
theorem dX2_arrive_57 : decode cX2_arrive 57 = .ok (.iload 4, 2) := by decide +kernel
theorem dX2_arrive_59 : decode cX2_arrive 59 = .ok (.invokespecial 54, 3) := by decide +kernel
theorem dX2_arrive_62 : decode cX2_arrive 62 = .ok (.astore 5, 2) := by decide +kernel
theorem dX2_arrive_64 : decode cX2_arrive 64 = .ok (.aload_n 0, 1) := by decide +kernel
theorem dX2_arrive_65 : decode cX2_arrive 65 = .ok (.getfield 15, 3) := by decide +kernel
theorem dX2_arrive_68 : decode cX2_arrive 68 = .ok (.aload_n 0, 1) := by decide +kernel
theorem dX2_arrive_69 : decode cX2_arrive 69 = .ok (.getfield 44, 3) := by decide +kernel
theorem dX2_arrive_72 : decode cX2_arrive 72 = .ok (.aload 5, 2) := by decide +kernel
theorem dX2_arrive_74 : decode cX2_arrive 74 = .ok (.aastore, 1) := by decide +kernel
theorem dX2_arrive_75 : decode cX2_arrive 75 = .ok (.aload_n 0, 1) := by decide +kernel
theorem dX2_arrive_76 : decode cX2_arrive 76 = .ok (.dup, 1) := by decide +kernel
theorem dX2_arrive_77 : decode cX2_arrive 77 = .ok (.getfield 44, 3) := by decide +kernel
theorem dX2_arrive_80 : decode cX2_arrive 80 = .ok (.iconst 1, 1) := by decide +kernel
theorem dX2_arrive_81 : decode cX2_arrive 81 = .ok (.iadd, 1) := by decide +kernel
theorem dX2_arrive_82 : decode cX2_arrive 82 = .ok (.putfield 44, 3) := by decide +kernel
theorem dX2_arrive_85 : decode cX2_arrive 85 = .ok (.aload_n 0, 1) := by decide +kernel
theorem dX2_arrive_86 : decode cX2_arrive 86 = .ok (.aload 5, 2) := by decide +kernel
theorem dX2_arrive_88 : decode cX2_arrive 88 = .ok (.invokevirtual 57, 3) := by decide +kernel
theorem dX2_arrive_91 : decode cX2_arrive 91 = .ok (.aload 5, 2) := by decide +kernel
theorem dX2_arrive_93 : decode cX2_arrive 93 = .ok (.getfield 61, 3) := by decide +kernel
theorem dX2_arrive_96 : decode cX2_arrive 96 = .ok (.ireturn, 1) := by decide +kernel
set_option maxRecDepth 20000 in
theorem ggX2_pass_X2_requireRange : GoodIn wsX2_pass wsX2_requireRange := goodIn_ca (goodIn_r _ [7, 8, 9] (by decide +kernel) (by decide +kernel)) (goodIn_sub (fun _ h => List.mem_cons_of_mem _ (List.mem_append_right _ h)) (by decide +kernel))
set_option maxRecDepth 20000 in
theorem gX2_pass_X2_requireRange : GoodIn wsX2_pass (va_wsS RX2 39 yX2_requireRange wsX2_requireRange) := goodIn_app (goodIn_of _ (by decide +kernel)) ggX2_pass_X2_requireRange
theorem dX2_pass_0 : decode cX2_pass 0 = .ok (.iload_n 1, 1) := by decide +kernel
theorem dX2_pass_1 : decode cX2_pass 1 = .ok (.iconst 1, 1) := by decide +kernel
theorem dX2_pass_2 : decode cX2_pass 2 = .ok (.sipush 10000, 3) := by decide +kernel
theorem dX2_pass_5 : decode cX2_pass 5 = .ok (.invokestatic 39, 3) := by decide +kernel
theorem dX2_pass_8 : decode cX2_pass 8 = .ok (.iload_n 1, 1) := by decide +kernel
theorem dX2_pass_9 : decode cX2_pass 9 = .ok (.sipush 10000, 3) := by decide +kernel
theorem dX2_pass_12 : decode cX2_pass 12 = .ok (.aload_n 0, 1) := by decide +kernel
theorem dX2_pass_13 : decode cX2_pass 13 = .ok (.getfield 35, 3) := by decide +kernel
theorem dX2_pass_16 : decode cX2_pass 16 = .ok (.isub, 1) := by decide +kernel
theorem dX2_pass_17 : decode cX2_pass 17 = .ok (.if_icmp .le 13, 3) := by decide +kernel
theorem dX2_pass_20 : decode cX2_pass 20 = .ok (.new 47, 3) := by decide +kernel
theorem dX2_pass_23 : decode cX2_pass 23 = .ok (.dup, 1) := by decide +kernel
theorem dX2_pass_24 : decode cX2_pass 24 = .ok (.ldc 64, 2) := by decide +kernel
theorem dX2_pass_26 : decode cX2_pass 26 = .ok (.invokespecial 51, 3) := by decide +kernel
theorem dX2_pass_29 : decode cX2_pass 29 = .ok (.athrow, 1) := by decide +kernel
theorem dX2_pass_30 : decode cX2_pass 30 = .ok (.aload_n 0, 1) := by decide +kernel
theorem dX2_pass_31 : decode cX2_pass 31 = .ok (.dup, 1) := by decide +kernel
theorem dX2_pass_32 : decode cX2_pass 32 = .ok (.getfield 35, 3) := by decide +kernel
theorem dX2_pass_35 : decode cX2_pass 35 = .ok (.iload_n 1, 1) := by decide +kernel
theorem dX2_pass_36 : decode cX2_pass 36 = .ok (.iadd, 1) := by decide +kernel
theorem dX2_pass_37 : decode cX2_pass 37 = .ok (.putfield 35, 3) := by decide +kernel
theorem dX2_pass_40 : decode cX2_pass 40 = .ok (.aload_n 0, 1) := by decide +kernel
theorem dX2_pass_41 : decode cX2_pass 41 = .ok (.getfield 35, 3) := by decide +kernel
theorem dX2_pass_44 : decode cX2_pass 44 = .ok (.ireturn, 1) := by decide +kernel
set_option maxRecDepth 20000 in
theorem ggX2_setLifetime_X2_requireRange : GoodIn wsX2_setLifetime wsX2_requireRange := goodIn_ca (goodIn_r _ [5, 6, 7] (by decide +kernel) (by decide +kernel)) (goodIn_sub (fun _ h => List.mem_cons_of_mem _ (List.mem_append_right _ h)) (by decide +kernel))
set_option maxRecDepth 20000 in
theorem gX2_setLifetime_X2_requireRange : GoodIn wsX2_setLifetime (va_wsS RX2 39 yX2_requireRange wsX2_requireRange) := goodIn_app (goodIn_of _ (by decide +kernel)) ggX2_setLifetime_X2_requireRange
theorem dX2_setLifetime_0 : decode cX2_setLifetime 0 = .ok (.iload_n 1, 1) := by decide +kernel
theorem dX2_setLifetime_1 : decode cX2_setLifetime 1 = .ok (.iconst 0, 1) := by decide +kernel
theorem dX2_setLifetime_2 : decode cX2_setLifetime 2 = .ok (.iconst 5, 1) := by decide +kernel
theorem dX2_setLifetime_3 : decode cX2_setLifetime 3 = .ok (.invokestatic 39, 3) := by decide +kernel
theorem dX2_setLifetime_6 : decode cX2_setLifetime 6 = .ok (.iload_n 2, 1) := by decide +kernel
theorem dX2_setLifetime_7 : decode cX2_setLifetime 7 = .ok (.iconst 0, 1) := by decide +kernel
theorem dX2_setLifetime_8 : decode cX2_setLifetime 8 = .ok (.sipush 10000, 3) := by decide +kernel
theorem dX2_setLifetime_11 : decode cX2_setLifetime 11 = .ok (.invokestatic 39, 3) := by decide +kernel
theorem dX2_setLifetime_14 : decode cX2_setLifetime 14 = .ok (.aload_n 0, 1) := by decide +kernel
theorem dX2_setLifetime_15 : decode cX2_setLifetime 15 = .ok (.getfield 9, 3) := by decide +kernel
theorem dX2_setLifetime_18 : decode cX2_setLifetime 18 = .ok (.iload_n 1, 1) := by decide +kernel
theorem dX2_setLifetime_19 : decode cX2_setLifetime 19 = .ok (.iaload, 1) := by decide +kernel
theorem dX2_setLifetime_20 : decode cX2_setLifetime 20 = .ok (.istore_n 3, 1) := by decide +kernel
theorem dX2_setLifetime_21 : decode cX2_setLifetime 21 = .ok (.aload_n 0, 1) := by decide +kernel
theorem dX2_setLifetime_22 : decode cX2_setLifetime 22 = .ok (.getfield 9, 3) := by decide +kernel
theorem dX2_setLifetime_25 : decode cX2_setLifetime 25 = .ok (.iload_n 1, 1) := by decide +kernel
theorem dX2_setLifetime_26 : decode cX2_setLifetime 26 = .ok (.iload_n 2, 1) := by decide +kernel
theorem dX2_setLifetime_27 : decode cX2_setLifetime 27 = .ok (.iastore, 1) := by decide +kernel
theorem dX2_setLifetime_28 : decode cX2_setLifetime 28 = .ok (.iload_n 3, 1) := by decide +kernel
theorem dX2_setLifetime_29 : decode cX2_setLifetime 29 = .ok (.ireturn, 1) := by decide +kernel
theorem dX2_now_0 : decode cX2_now 0 = .ok (.aload_n 0, 1) := by decide +kernel
theorem dX2_now_1 : decode cX2_now 1 = .ok (.getfield 35, 3) := by decide +kernel
theorem dX2_now_4 : decode cX2_now 4 = .ok (.ireturn, 1) := by decide +kernel
theorem dX2_rows_0 : decode cX2_rows 0 = .ok (.aload_n 0, 1) := by decide +kernel
theorem dX2_rows_1 : decode cX2_rows 1 = .ok (.getfield 44, 3) := by decide +kernel
theorem dX2_rows_4 : decode cX2_rows 4 = .ok (.ireturn, 1) := by decide +kernel
set_option maxRecDepth 20000 in
theorem ggX2_value_X2_requireRow : GoodIn wsX2_value wsX2_requireRow := goodIn_ca (goodIn_r _ [6, 7, 8, 9, 10, 11, 5, 12, 13, 14, 22, 23, 24, 25, 26, 27, 28, 29, 30] (by decide +kernel) (by decide +kernel)) (goodIn_sub (fun _ h => List.mem_cons_of_mem _ (List.mem_append_right _ h)) (by decide +kernel))
set_option maxRecDepth 20000 in
theorem gX2_value_X2_requireRow : GoodIn wsX2_value (wsV RX2 66 RX2 yX2_requireRow wsX2_requireRow) := goodIn_app (goodIn_of _ (by decide +kernel)) ggX2_value_X2_requireRow
theorem dX2_value_0 : decode cX2_value 0 = .ok (.aload_n 0, 1) := by decide +kernel
theorem dX2_value_1 : decode cX2_value 1 = .ok (.iload_n 1, 1) := by decide +kernel
theorem dX2_value_2 : decode cX2_value 2 = .ok (.invokevirtual 66, 3) := by decide +kernel
theorem dX2_value_5 : decode cX2_value 5 = .ok (.getfield 70, 3) := by decide +kernel
theorem dX2_value_8 : decode cX2_value 8 = .ok (.ireturn, 1) := by decide +kernel
set_option maxRecDepth 20000 in
theorem ggX2_late_X2_requireRow : GoodIn wsX2_late wsX2_requireRow := goodIn_ca (goodIn_r _ [7, 8, 9, 10, 11, 12, 6, 13, 14, 15, 23, 24, 25, 26, 27, 28, 29, 30, 31] (by decide +kernel) (by decide +kernel)) (goodIn_sub (fun _ h => List.mem_cons_of_mem _ (List.mem_append_right _ h)) (by decide +kernel))
set_option maxRecDepth 20000 in
theorem gX2_late_X2_requireRow : GoodIn wsX2_late (wsV RX2 66 RX2 yX2_requireRow wsX2_requireRow) := goodIn_app (goodIn_of _ (by decide +kernel)) ggX2_late_X2_requireRow
theorem dX2_late_0 : decode cX2_late 0 = .ok (.aload_n 0, 1) := by decide +kernel
theorem dX2_late_1 : decode cX2_late 1 = .ok (.iload_n 1, 1) := by decide +kernel
theorem dX2_late_2 : decode cX2_late 2 = .ok (.invokevirtual 66, 3) := by decide +kernel
theorem dX2_late_5 : decode cX2_late 5 = .ok (.astore_n 2, 1) := by decide +kernel
theorem dX2_late_6 : decode cX2_late 6 = .ok (.aload_n 2, 1) := by decide +kernel
theorem dX2_late_7 : decode cX2_late 7 = .ok (.getfield 73, 3) := by decide +kernel
theorem dX2_late_10 : decode cX2_late 10 = .ok (.aload_n 2, 1) := by decide +kernel
theorem dX2_late_11 : decode cX2_late 11 = .ok (.getfield 76, 3) := by decide +kernel
theorem dX2_late_14 : decode cX2_late 14 = .ok (.isub, 1) := by decide +kernel
theorem dX2_late_15 : decode cX2_late 15 = .ok (.ireturn, 1) := by decide +kernel
set_option maxRecDepth 20000 in
theorem ggX2_join_X2_requirePair : GoodIn wsX2_join wsX2_requirePair := goodIn_ca (goodIn_r _ [5, 6, 7, 4, 8, 9, 10] (by decide +kernel) (by decide +kernel)) (goodIn_sub (fun _ h => List.mem_cons_of_mem _ (List.mem_append_right _ h)) (by decide +kernel))
set_option maxRecDepth 20000 in
theorem gX2_join_X2_requirePair : GoodIn wsX2_join (va_wsS RX2 31 yX2_requirePair wsX2_requirePair) := goodIn_app (goodIn_of _ (by decide +kernel)) ggX2_join_X2_requirePair
set_option maxRecDepth 20000 in
theorem ggX2_join_X2_requireRange : GoodIn wsX2_join wsX2_requireRange := goodIn_ca (goodIn_r _ [8, 9, 10] (by decide +kernel) (by decide +kernel)) (goodIn_sub (fun _ h => List.mem_cons_of_mem _ (List.mem_append_right _ h)) (by decide +kernel))
set_option maxRecDepth 20000 in
theorem gX2_join_X2_requireRange : GoodIn wsX2_join (va_wsS RX2 39 yX2_requireRange wsX2_requireRange) := goodIn_app (goodIn_of _ (by decide +kernel)) ggX2_join_X2_requireRange
set_option maxRecDepth 20000 in
theorem ggX2_join_X2_find : GoodIn wsX2_join wsX2_find := goodIn_r _ [14, 15, 16, 17, 18, 19, 20, 4, 21, 22, 23, 24, 25, 26, 27, 28, 29, 30, 31, 32, 33, 34, 35, 36, 37, 38, 39, 40, 41, 42, 43, 44] (by decide +kernel) (by decide +kernel)
set_option maxRecDepth 20000 in
theorem gX2_join_X2_find : GoodIn wsX2_join (wsV RX2 79 RX2 yX2_find wsX2_find) := goodIn_app (goodIn_of _ (by decide +kernel)) ggX2_join_X2_find
theorem dX2_join_0 : decode cX2_join 0 = .ok (.iload_n 1, 1) := by decide +kernel
theorem dX2_join_1 : decode cX2_join 1 = .ok (.iload_n 2, 1) := by decide +kernel
theorem dX2_join_2 : decode cX2_join 2 = .ok (.invokestatic 31, 3) := by decide +kernel
theorem dX2_join_5 : decode cX2_join 5 = .ok (.iload_n 3, 1) := by decide +kernel
theorem dX2_join_6 : decode cX2_join 6 = .ok (.iconst 0, 1) := by decide +kernel
theorem dX2_join_7 : decode cX2_join 7 = .ok (.sipush 10000, 3) := by decide +kernel
theorem dX2_join_10 : decode cX2_join 10 = .ok (.invokestatic 39, 3) := by decide +kernel
theorem dX2_join_13 : decode cX2_join 13 = .ok (.iload 4, 2) := by decide +kernel
theorem dX2_join_15 : decode cX2_join 15 = .ok (.iconst 0, 1) := by decide +kernel
theorem dX2_join_16 : decode cX2_join 16 = .ok (.aload_n 0, 1) := by decide +kernel
theorem dX2_join_17 : decode cX2_join 17 = .ok (.getfield 35, 3) := by decide +kernel
theorem dX2_join_20 : decode cX2_join 20 = .ok (.invokestatic 39, 3) := by decide +kernel
theorem dX2_join_23 : decode cX2_join 23 = .ok (.aload_n 0, 1) := by decide +kernel
theorem dX2_join_24 : decode cX2_join 24 = .ok (.iload_n 1, 1) := by decide +kernel
theorem dX2_join_25 : decode cX2_join 25 = .ok (.iload_n 2, 1) := by decide +kernel
theorem dX2_join_26 : decode cX2_join 26 = .ok (.iload_n 3, 1) := by decide +kernel
theorem dX2_join_27 : decode cX2_join 27 = .ok (.iload 4, 2) := by decide +kernel
theorem dX2_join_29 : decode cX2_join 29 = .ok (.invokevirtual 79, 3) := by decide +kernel
theorem dX2_join_32 : decode cX2_join 32 = .ok (.ireturn, 1) := by decide +kernel
set_option maxRecDepth 20000 in
theorem ggX2_window_X2_requirePair : GoodIn wsX2_window wsX2_requirePair := goodIn_ca (goodIn_r _ [8, 9, 10, 7, 11, 12, 13] (by decide +kernel) (by decide +kernel)) (goodIn_sub (fun _ h => List.mem_cons_of_mem _ (List.mem_append_right _ h)) (by decide +kernel))
set_option maxRecDepth 20000 in
theorem gX2_window_X2_requirePair : GoodIn wsX2_window (va_wsS RX2 31 yX2_requirePair wsX2_requirePair) := goodIn_app (goodIn_of _ (by decide +kernel)) ggX2_window_X2_requirePair
set_option maxRecDepth 20000 in
theorem ggX2_window_X2_requireRange : GoodIn wsX2_window wsX2_requireRange := goodIn_ca (goodIn_r _ [11, 12, 13] (by decide +kernel) (by decide +kernel)) (goodIn_sub (fun _ h => List.mem_cons_of_mem _ (List.mem_append_right _ h)) (by decide +kernel))
set_option maxRecDepth 20000 in
theorem gX2_window_X2_requireRange : GoodIn wsX2_window (va_wsS RX2 39 yX2_requireRange wsX2_requireRange) := goodIn_app (goodIn_of _ (by decide +kernel)) ggX2_window_X2_requireRange
set_option maxRecDepth 20000 in
theorem ggX2_window_X2_placeOf : GoodIn wsX2_window wsX2_placeOf := goodIn_r _ [16] (by decide +kernel) (by decide +kernel)
set_option maxRecDepth 20000 in
theorem gX2_window_X2_placeOf : GoodIn wsX2_window (va_wsS RX2 83 yX2_placeOf wsX2_placeOf) := goodIn_app (goodIn_of _ (by decide +kernel)) ggX2_window_X2_placeOf
theorem dX2_window_0 : decode cX2_window 0 = .ok (.iload_n 1, 1) := by decide +kernel
theorem dX2_window_1 : decode cX2_window 1 = .ok (.iload_n 2, 1) := by decide +kernel
theorem dX2_window_2 : decode cX2_window 2 = .ok (.invokestatic 31, 3) := by decide +kernel
theorem dX2_window_5 : decode cX2_window 5 = .ok (.iload_n 3, 1) := by decide +kernel
theorem dX2_window_6 : decode cX2_window 6 = .ok (.iconst 0, 1) := by decide +kernel
theorem dX2_window_7 : decode cX2_window 7 = .ok (.sipush 10000, 3) := by decide +kernel
theorem dX2_window_10 : decode cX2_window 10 = .ok (.invokestatic 39, 3) := by decide +kernel
theorem dX2_window_13 : decode cX2_window 13 = .ok (.iload 4, 2) := by decide +kernel
theorem dX2_window_15 : decode cX2_window 15 = .ok (.iload_n 3, 1) := by decide +kernel
theorem dX2_window_16 : decode cX2_window 16 = .ok (.sipush 10000, 3) := by decide +kernel
theorem dX2_window_19 : decode cX2_window 19 = .ok (.invokestatic 39, 3) := by decide +kernel
theorem dX2_window_22 : decode cX2_window 22 = .ok (.iconst 0, 1) := by decide +kernel
theorem dX2_window_23 : decode cX2_window 23 = .ok (.istore 5, 2) := by decide +kernel
theorem dX2_window_25 : decode cX2_window 25 = .ok (.aload_n 0, 1) := by decide +kernel
theorem dX2_window_26 : decode cX2_window 26 = .ok (.getfield 19, 3) := by decide +kernel
theorem dX2_window_29 : decode cX2_window 29 = .ok (.iload_n 1, 1) := by decide +kernel
theorem dX2_window_30 : decode cX2_window 30 = .ok (.iload_n 2, 1) := by decide +kernel
theorem dX2_window_31 : decode cX2_window 31 = .ok (.invokestatic 83, 3) := by decide +kernel
theorem dX2_window_34 : decode cX2_window 34 = .ok (.aaload, 1) := by decide +kernel
theorem dX2_window_35 : decode cX2_window 35 = .ok (.astore 6, 2) := by decide +kernel
theorem dX2_window_37 : decode cX2_window 37 = .ok (.aload 6, 2) := by decide +kernel
theorem dX2_window_39 : decode cX2_window 39 = .ok (.ifnull 42, 3) := by decide +kernel
theorem dX2_window_42 : decode cX2_window 42 = .ok (.aload 6, 2) := by decide +kernel
theorem dX2_window_44 : decode cX2_window 44 = .ok (.getfield 76, 3) := by decide +kernel
theorem dX2_window_47 : decode cX2_window 47 = .ok (.iload_n 3, 1) := by decide +kernel
theorem dX2_window_48 : decode cX2_window 48 = .ok (.if_icmp .lt 23, 3) := by decide +kernel
theorem dX2_window_51 : decode cX2_window 51 = .ok (.aload 6, 2) := by decide +kernel
theorem dX2_window_53 : decode cX2_window 53 = .ok (.getfield 76, 3) := by decide +kernel
theorem dX2_window_56 : decode cX2_window 56 = .ok (.iload 4, 2) := by decide +kernel
theorem dX2_window_58 : decode cX2_window 58 = .ok (.if_icmp .gt 13, 3) := by decide +kernel
theorem dX2_window_61 : decode cX2_window 61 = .ok (.iload 5, 2) := by decide +kernel
theorem dX2_window_63 : decode cX2_window 63 = .ok (.aload 6, 2) := by decide +kernel
theorem dX2_window_65 : decode cX2_window 65 = .ok (.getfield 70, 3) := by decide +kernel
theorem dX2_window_68 : decode cX2_window 68 = .ok (.iadd, 1) := by decide +kernel
theorem dX2_window_69 : decode cX2_window 69 = .ok (.istore 5, 2) := by decide +kernel
theorem dX2_window_71 : decode cX2_window 71 = .ok (.aload 6, 2) := by decide +kernel
theorem dX2_window_73 : decode cX2_window 73 = .ok (.getfield 87, 3) := by decide +kernel
theorem dX2_window_76 : decode cX2_window 76 = .ok (.astore 6, 2) := by decide +kernel
theorem dX2_window_78 : decode cX2_window 78 = .ok (.goto (-41), 3) := by decide +kernel
theorem dX2_window_81 : decode cX2_window 81 = .ok (.iload 5, 2) := by decide +kernel
theorem dX2_window_83 : decode cX2_window 83 = .ok (.ireturn, 1) := by decide +kernel
set_option maxRecDepth 20000 in
theorem ggX2_greatestTile_X2_requirePair : GoodIn wsX2_greatestTile wsX2_requirePair := goodIn_ca (goodIn_r _ [12, 13, 14, 11, 15, 16, 17] (by decide +kernel) (by decide +kernel)) (goodIn_sub (fun _ h => List.mem_cons_of_mem _ (List.mem_append_right _ h)) (by decide +kernel))
set_option maxRecDepth 20000 in
theorem gX2_greatestTile_X2_requirePair : GoodIn wsX2_greatestTile (va_wsS RX2 31 yX2_requirePair wsX2_requirePair) := goodIn_app (goodIn_of _ (by decide +kernel)) ggX2_greatestTile_X2_requirePair
set_option maxRecDepth 20000 in
theorem ggX2_greatestTile_X2_requireRange : GoodIn wsX2_greatestTile wsX2_requireRange := goodIn_ca (goodIn_r _ [15, 16, 17] (by decide +kernel) (by decide +kernel)) (goodIn_sub (fun _ h => List.mem_cons_of_mem _ (List.mem_append_right _ h)) (by decide +kernel))
set_option maxRecDepth 20000 in
theorem gX2_greatestTile_X2_requireRange : GoodIn wsX2_greatestTile (va_wsS RX2 39 yX2_requireRange wsX2_requireRange) := goodIn_app (goodIn_of _ (by decide +kernel)) ggX2_greatestTile_X2_requireRange
set_option maxRecDepth 20000 in
theorem ggX2_greatestTile_X2_placeOf : GoodIn wsX2_greatestTile wsX2_placeOf := goodIn_r _ [20] (by decide +kernel) (by decide +kernel)
set_option maxRecDepth 20000 in
theorem gX2_greatestTile_X2_placeOf : GoodIn wsX2_greatestTile (va_wsS RX2 83 yX2_placeOf wsX2_placeOf) := goodIn_app (goodIn_of _ (by decide +kernel)) ggX2_greatestTile_X2_placeOf
theorem dX2_greatestTile_0 : decode cX2_greatestTile 0 = .ok (.iload_n 1, 1) := by decide +kernel
theorem dX2_greatestTile_1 : decode cX2_greatestTile 1 = .ok (.iload_n 2, 1) := by decide +kernel
theorem dX2_greatestTile_2 : decode cX2_greatestTile 2 = .ok (.invokestatic 31, 3) := by decide +kernel
theorem dX2_greatestTile_5 : decode cX2_greatestTile 5 = .ok (.iload_n 3, 1) := by decide +kernel
theorem dX2_greatestTile_6 : decode cX2_greatestTile 6 = .ok (.iconst 1, 1) := by decide +kernel
theorem dX2_greatestTile_7 : decode cX2_greatestTile 7 = .ok (.sipush 10000, 3) := by decide +kernel
theorem dX2_greatestTile_10 : decode cX2_greatestTile 10 = .ok (.invokestatic 39, 3) := by decide +kernel
theorem dX2_greatestTile_13 : decode cX2_greatestTile 13 = .ok (.iconst 0, 1) := by decide +kernel
theorem dX2_greatestTile_14 : decode cX2_greatestTile 14 = .ok (.istore 4, 2) := by decide +kernel
theorem dX2_greatestTile_16 : decode cX2_greatestTile 16 = .ok (.iconst 0, 1) := by decide +kernel
theorem dX2_greatestTile_17 : decode cX2_greatestTile 17 = .ok (.istore 5, 2) := by decide +kernel
theorem dX2_greatestTile_19 : decode cX2_greatestTile 19 = .ok (.iconst (-1), 1) := by decide +kernel
theorem dX2_greatestTile_20 : decode cX2_greatestTile 20 = .ok (.istore 6, 2) := by decide +kernel
theorem dX2_greatestTile_22 : decode cX2_greatestTile 22 = .ok (.aload_n 0, 1) := by decide +kernel
theorem dX2_greatestTile_23 : decode cX2_greatestTile 23 = .ok (.getfield 19, 3) := by decide +kernel
theorem dX2_greatestTile_26 : decode cX2_greatestTile 26 = .ok (.iload_n 1, 1) := by decide +kernel
theorem dX2_greatestTile_27 : decode cX2_greatestTile 27 = .ok (.iload_n 2, 1) := by decide +kernel
theorem dX2_greatestTile_28 : decode cX2_greatestTile 28 = .ok (.invokestatic 83, 3) := by decide +kernel
theorem dX2_greatestTile_31 : decode cX2_greatestTile 31 = .ok (.aaload, 1) := by decide +kernel
theorem dX2_greatestTile_32 : decode cX2_greatestTile 32 = .ok (.astore 7, 2) := by decide +kernel
theorem dX2_greatestTile_34 : decode cX2_greatestTile 34 = .ok (.aload 7, 2) := by decide +kernel
theorem dX2_greatestTile_36 : decode cX2_greatestTile 36 = .ok (.ifnull 55, 3) := by decide +kernel
theorem dX2_greatestTile_39 : decode cX2_greatestTile 39 = .ok (.aload 7, 2) := by decide +kernel
theorem dX2_greatestTile_41 : decode cX2_greatestTile 41 = .ok (.getfield 76, 3) := by decide +kernel
theorem dX2_greatestTile_44 : decode cX2_greatestTile 44 = .ok (.iload_n 3, 1) := by decide +kernel
theorem dX2_greatestTile_45 : decode cX2_greatestTile 45 = .ok (.idiv, 1) := by decide +kernel
theorem dX2_greatestTile_46 : decode cX2_greatestTile 46 = .ok (.istore 8, 2) := by decide +kernel
theorem dX2_greatestTile_48 : decode cX2_greatestTile 48 = .ok (.iload 8, 2) := by decide +kernel
theorem dX2_greatestTile_50 : decode cX2_greatestTile 50 = .ok (.iload 6, 2) := by decide +kernel
theorem dX2_greatestTile_52 : decode cX2_greatestTile 52 = .ok (.if_icmp .eq 10, 3) := by decide +kernel
theorem dX2_greatestTile_55 : decode cX2_greatestTile 55 = .ok (.iload 8, 2) := by decide +kernel
theorem dX2_greatestTile_57 : decode cX2_greatestTile 57 = .ok (.istore 6, 2) := by decide +kernel
theorem dX2_greatestTile_59 : decode cX2_greatestTile 59 = .ok (.iconst 0, 1) := by decide +kernel
theorem dX2_greatestTile_60 : decode cX2_greatestTile 60 = .ok (.istore 5, 2) := by decide +kernel
theorem dX2_greatestTile_62 : decode cX2_greatestTile 62 = .ok (.iload 5, 2) := by decide +kernel
theorem dX2_greatestTile_64 : decode cX2_greatestTile 64 = .ok (.aload 7, 2) := by decide +kernel
theorem dX2_greatestTile_66 : decode cX2_greatestTile 66 = .ok (.getfield 70, 3) := by decide +kernel
theorem dX2_greatestTile_69 : decode cX2_greatestTile 69 = .ok (.iadd, 1) := by decide +kernel
theorem dX2_greatestTile_70 : decode cX2_greatestTile 70 = .ok (.istore 5, 2) := by decide +kernel
theorem dX2_greatestTile_72 : decode cX2_greatestTile 72 = .ok (.iload 4, 2) := by decide +kernel
theorem dX2_greatestTile_74 : decode cX2_greatestTile 74 = .ok (.iload 5, 2) := by decide +kernel
theorem dX2_greatestTile_76 : decode cX2_greatestTile 76 = .ok (.invokestatic 91, 3) := by decide +kernel
theorem dX2_greatestTile_79 : decode cX2_greatestTile 79 = .ok (.istore 4, 2) := by decide +kernel
theorem dX2_greatestTile_81 : decode cX2_greatestTile 81 = .ok (.aload 7, 2) := by decide +kernel
theorem dX2_greatestTile_83 : decode cX2_greatestTile 83 = .ok (.getfield 87, 3) := by decide +kernel
theorem dX2_greatestTile_86 : decode cX2_greatestTile 86 = .ok (.astore 7, 2) := by decide +kernel
theorem dX2_greatestTile_88 : decode cX2_greatestTile 88 = .ok (.goto (-54), 3) := by decide +kernel
theorem dX2_greatestTile_91 : decode cX2_greatestTile 91 = .ok (.iload 4, 2) := by decide +kernel
theorem dX2_greatestTile_93 : decode cX2_greatestTile 93 = .ok (.ireturn, 1) := by decide +kernel
set_option maxRecDepth 20000 in
theorem ggX2_tiles_X2_requirePair : GoodIn wsX2_tiles wsX2_requirePair := goodIn_ca (goodIn_r _ [7, 8, 9, 6, 10, 11, 12] (by decide +kernel) (by decide +kernel)) (goodIn_sub (fun _ h => List.mem_cons_of_mem _ (List.mem_append_right _ h)) (by decide +kernel))
set_option maxRecDepth 20000 in
theorem gX2_tiles_X2_requirePair : GoodIn wsX2_tiles (va_wsS RX2 31 yX2_requirePair wsX2_requirePair) := goodIn_app (goodIn_of _ (by decide +kernel)) ggX2_tiles_X2_requirePair
set_option maxRecDepth 20000 in
theorem ggX2_tiles_X2_requireRange : GoodIn wsX2_tiles wsX2_requireRange := goodIn_ca (goodIn_r _ [10, 11, 12] (by decide +kernel) (by decide +kernel)) (goodIn_sub (fun _ h => List.mem_cons_of_mem _ (List.mem_append_right _ h)) (by decide +kernel))
set_option maxRecDepth 20000 in
theorem gX2_tiles_X2_requireRange : GoodIn wsX2_tiles (va_wsS RX2 39 yX2_requireRange wsX2_requireRange) := goodIn_app (goodIn_of _ (by decide +kernel)) ggX2_tiles_X2_requireRange
set_option maxRecDepth 20000 in
theorem ggX2_tiles_X2_placeOf : GoodIn wsX2_tiles wsX2_placeOf := goodIn_r _ [15] (by decide +kernel) (by decide +kernel)
set_option maxRecDepth 20000 in
theorem gX2_tiles_X2_placeOf : GoodIn wsX2_tiles (va_wsS RX2 83 yX2_placeOf wsX2_placeOf) := goodIn_app (goodIn_of _ (by decide +kernel)) ggX2_tiles_X2_placeOf
theorem dX2_tiles_0 : decode cX2_tiles 0 = .ok (.iload_n 1, 1) := by decide +kernel
theorem dX2_tiles_1 : decode cX2_tiles 1 = .ok (.iload_n 2, 1) := by decide +kernel
theorem dX2_tiles_2 : decode cX2_tiles 2 = .ok (.invokestatic 31, 3) := by decide +kernel
theorem dX2_tiles_5 : decode cX2_tiles 5 = .ok (.iload_n 3, 1) := by decide +kernel
theorem dX2_tiles_6 : decode cX2_tiles 6 = .ok (.iconst 1, 1) := by decide +kernel
theorem dX2_tiles_7 : decode cX2_tiles 7 = .ok (.sipush 10000, 3) := by decide +kernel
theorem dX2_tiles_10 : decode cX2_tiles 10 = .ok (.invokestatic 39, 3) := by decide +kernel
theorem dX2_tiles_13 : decode cX2_tiles 13 = .ok (.iconst 0, 1) := by decide +kernel
theorem dX2_tiles_14 : decode cX2_tiles 14 = .ok (.istore 4, 2) := by decide +kernel
theorem dX2_tiles_16 : decode cX2_tiles 16 = .ok (.iconst (-1), 1) := by decide +kernel
theorem dX2_tiles_17 : decode cX2_tiles 17 = .ok (.istore 5, 2) := by decide +kernel
theorem dX2_tiles_19 : decode cX2_tiles 19 = .ok (.aload_n 0, 1) := by decide +kernel
theorem dX2_tiles_20 : decode cX2_tiles 20 = .ok (.getfield 19, 3) := by decide +kernel
theorem dX2_tiles_23 : decode cX2_tiles 23 = .ok (.iload_n 1, 1) := by decide +kernel
theorem dX2_tiles_24 : decode cX2_tiles 24 = .ok (.iload_n 2, 1) := by decide +kernel
theorem dX2_tiles_25 : decode cX2_tiles 25 = .ok (.invokestatic 83, 3) := by decide +kernel
theorem dX2_tiles_28 : decode cX2_tiles 28 = .ok (.aaload, 1) := by decide +kernel
theorem dX2_tiles_29 : decode cX2_tiles 29 = .ok (.astore 6, 2) := by decide +kernel
theorem dX2_tiles_31 : decode cX2_tiles 31 = .ok (.aload 6, 2) := by decide +kernel
theorem dX2_tiles_33 : decode cX2_tiles 33 = .ok (.ifnull 36, 3) := by decide +kernel
theorem dX2_tiles_36 : decode cX2_tiles 36 = .ok (.aload 6, 2) := by decide +kernel
theorem dX2_tiles_38 : decode cX2_tiles 38 = .ok (.getfield 76, 3) := by decide +kernel
theorem dX2_tiles_41 : decode cX2_tiles 41 = .ok (.iload_n 3, 1) := by decide +kernel
theorem dX2_tiles_42 : decode cX2_tiles 42 = .ok (.idiv, 1) := by decide +kernel
theorem dX2_tiles_43 : decode cX2_tiles 43 = .ok (.istore 7, 2) := by decide +kernel
theorem dX2_tiles_45 : decode cX2_tiles 45 = .ok (.iload 7, 2) := by decide +kernel
theorem dX2_tiles_47 : decode cX2_tiles 47 = .ok (.iload 5, 2) := by decide +kernel
theorem dX2_tiles_49 : decode cX2_tiles 49 = .ok (.if_icmp .eq 10, 3) := by decide +kernel
theorem dX2_tiles_52 : decode cX2_tiles 52 = .ok (.iload 7, 2) := by decide +kernel
theorem dX2_tiles_54 : decode cX2_tiles 54 = .ok (.istore 5, 2) := by decide +kernel
theorem dX2_tiles_56 : decode cX2_tiles 56 = .ok (.iinc 4 1, 3) := by decide +kernel
theorem dX2_tiles_59 : decode cX2_tiles 59 = .ok (.aload 6, 2) := by decide +kernel
theorem dX2_tiles_61 : decode cX2_tiles 61 = .ok (.getfield 87, 3) := by decide +kernel
theorem dX2_tiles_64 : decode cX2_tiles 64 = .ok (.astore 6, 2) := by decide +kernel
theorem dX2_tiles_66 : decode cX2_tiles 66 = .ok (.goto (-35), 3) := by decide +kernel
theorem dX2_tiles_69 : decode cX2_tiles 69 = .ok (.iload 4, 2) := by decide +kernel
theorem dX2_tiles_71 : decode cX2_tiles 71 = .ok (.ireturn, 1) := by decide +kernel
set_option maxRecDepth 20000 in
theorem ggX2_revised_X2_requirePair : GoodIn wsX2_revised wsX2_requirePair := goodIn_ca (goodIn_r _ [14, 15, 16, 13, 17, 18, 19] (by decide +kernel) (by decide +kernel)) (goodIn_sub (fun _ h => List.mem_cons_of_mem _ (List.mem_append_right _ h)) (by decide +kernel))
set_option maxRecDepth 20000 in
theorem gX2_revised_X2_requirePair : GoodIn wsX2_revised (va_wsS RX2 31 yX2_requirePair wsX2_requirePair) := goodIn_app (goodIn_of _ (by decide +kernel)) ggX2_revised_X2_requirePair
set_option maxRecDepth 20000 in
theorem ggX2_revised_X2_requireRange : GoodIn wsX2_revised wsX2_requireRange := goodIn_ca (goodIn_r _ [17, 18, 19] (by decide +kernel) (by decide +kernel)) (goodIn_sub (fun _ h => List.mem_cons_of_mem _ (List.mem_append_right _ h)) (by decide +kernel))
set_option maxRecDepth 20000 in
theorem gX2_revised_X2_requireRange : GoodIn wsX2_revised (va_wsS RX2 39 yX2_requireRange wsX2_requireRange) := goodIn_app (goodIn_of _ (by decide +kernel)) ggX2_revised_X2_requireRange
set_option maxRecDepth 20000 in
theorem ggX2_revised_X2_placeOf : GoodIn wsX2_revised wsX2_placeOf := goodIn_r _ [22] (by decide +kernel) (by decide +kernel)
set_option maxRecDepth 20000 in
theorem gX2_revised_X2_placeOf : GoodIn wsX2_revised (va_wsS RX2 83 yX2_placeOf wsX2_placeOf) := goodIn_app (goodIn_of _ (by decide +kernel)) ggX2_revised_X2_placeOf
set_option maxRecDepth 20000 in
theorem ggX2_revised_X2_multiplesBelow : GoodIn wsX2_revised wsX2_multiplesBelow := goodIn_r _ [25] (by decide +kernel) (by decide +kernel)
set_option maxRecDepth 20000 in
theorem gX2_revised_X2_multiplesBelow : GoodIn wsX2_revised (va_wsS RX2 99 yX2_multiplesBelow wsX2_multiplesBelow) := goodIn_app (goodIn_of _ (by decide +kernel)) ggX2_revised_X2_multiplesBelow
theorem dX2_revised_0 : decode cX2_revised 0 = .ok (.iload_n 1, 1) := by decide +kernel
theorem dX2_revised_1 : decode cX2_revised 1 = .ok (.iload_n 2, 1) := by decide +kernel
theorem dX2_revised_2 : decode cX2_revised 2 = .ok (.invokestatic 31, 3) := by decide +kernel
theorem dX2_revised_5 : decode cX2_revised 5 = .ok (.iload_n 3, 1) := by decide +kernel
theorem dX2_revised_6 : decode cX2_revised 6 = .ok (.iconst 1, 1) := by decide +kernel
theorem dX2_revised_7 : decode cX2_revised 7 = .ok (.sipush 10000, 3) := by decide +kernel
theorem dX2_revised_10 : decode cX2_revised 10 = .ok (.invokestatic 39, 3) := by decide +kernel
theorem dX2_revised_13 : decode cX2_revised 13 = .ok (.iconst 0, 1) := by decide +kernel
theorem dX2_revised_14 : decode cX2_revised 14 = .ok (.istore 4, 2) := by decide +kernel
theorem dX2_revised_16 : decode cX2_revised 16 = .ok (.aload_n 0, 1) := by decide +kernel
theorem dX2_revised_17 : decode cX2_revised 17 = .ok (.getfield 35, 3) := by decide +kernel
theorem dX2_revised_20 : decode cX2_revised 20 = .ok (.iconst 1, 1) := by decide +kernel
theorem dX2_revised_21 : decode cX2_revised 21 = .ok (.iadd, 1) := by decide +kernel
theorem dX2_revised_22 : decode cX2_revised 22 = .ok (.istore 5, 2) := by decide +kernel
theorem dX2_revised_24 : decode cX2_revised 24 = .ok (.aload_n 0, 1) := by decide +kernel
theorem dX2_revised_25 : decode cX2_revised 25 = .ok (.getfield 19, 3) := by decide +kernel
theorem dX2_revised_28 : decode cX2_revised 28 = .ok (.iload_n 1, 1) := by decide +kernel
theorem dX2_revised_29 : decode cX2_revised 29 = .ok (.iload_n 2, 1) := by decide +kernel
theorem dX2_revised_30 : decode cX2_revised 30 = .ok (.invokestatic 83, 3) := by decide +kernel
theorem dX2_revised_33 : decode cX2_revised 33 = .ok (.aaload, 1) := by decide +kernel
theorem dX2_revised_34 : decode cX2_revised 34 = .ok (.astore 6, 2) := by decide +kernel
theorem dX2_revised_36 : decode cX2_revised 36 = .ok (.aload 6, 2) := by decide +kernel
theorem dX2_revised_38 : decode cX2_revised 38 = .ok (.ifnull 84, 3) := by decide +kernel
theorem dX2_revised_41 : decode cX2_revised 41 = .ok (.iload 5, 2) := by decide +kernel
theorem dX2_revised_43 : decode cX2_revised 43 = .ok (.aload 6, 2) := by decide +kernel
theorem dX2_revised_45 : decode cX2_revised 45 = .ok (.getfield 76, 3) := by decide +kernel
theorem dX2_revised_48 : decode cX2_revised 48 = .ok (.aload_n 0, 1) := by decide +kernel
theorem dX2_revised_49 : decode cX2_revised 49 = .ok (.getfield 9, 3) := by decide +kernel
theorem dX2_revised_52 : decode cX2_revised 52 = .ok (.iload_n 1, 1) := by decide +kernel
theorem dX2_revised_53 : decode cX2_revised 53 = .ok (.iaload, 1) := by decide +kernel
theorem dX2_revised_54 : decode cX2_revised 54 = .ok (.iadd, 1) := by decide +kernel
theorem dX2_revised_55 : decode cX2_revised 55 = .ok (.iconst 1, 1) := by decide +kernel
theorem dX2_revised_56 : decode cX2_revised 56 = .ok (.iadd, 1) := by decide +kernel
theorem dX2_revised_57 : decode cX2_revised 57 = .ok (.invokestatic 96, 3) := by decide +kernel
theorem dX2_revised_60 : decode cX2_revised 60 = .ok (.istore 7, 2) := by decide +kernel
theorem dX2_revised_62 : decode cX2_revised 62 = .ok (.iload 7, 2) := by decide +kernel
theorem dX2_revised_64 : decode cX2_revised 64 = .ok (.aload 6, 2) := by decide +kernel
theorem dX2_revised_66 : decode cX2_revised 66 = .ok (.getfield 73, 3) := by decide +kernel
theorem dX2_revised_69 : decode cX2_revised 69 = .ok (.invokestatic 96, 3) := by decide +kernel
theorem dX2_revised_72 : decode cX2_revised 72 = .ok (.istore 8, 2) := by decide +kernel
theorem dX2_revised_74 : decode cX2_revised 74 = .ok (.iload 8, 2) := by decide +kernel
theorem dX2_revised_76 : decode cX2_revised 76 = .ok (.aload 6, 2) := by decide +kernel
theorem dX2_revised_78 : decode cX2_revised 78 = .ok (.getfield 76, 3) := by decide +kernel
theorem dX2_revised_81 : decode cX2_revised 81 = .ok (.if_icmp .le 24, 3) := by decide +kernel
theorem dX2_revised_84 : decode cX2_revised 84 = .ok (.iload 4, 2) := by decide +kernel
theorem dX2_revised_86 : decode cX2_revised 86 = .ok (.iload 8, 2) := by decide +kernel
theorem dX2_revised_88 : decode cX2_revised 88 = .ok (.iload_n 3, 1) := by decide +kernel
theorem dX2_revised_89 : decode cX2_revised 89 = .ok (.invokestatic 99, 3) := by decide +kernel
theorem dX2_revised_92 : decode cX2_revised 92 = .ok (.aload 6, 2) := by decide +kernel
theorem dX2_revised_94 : decode cX2_revised 94 = .ok (.getfield 76, 3) := by decide +kernel
theorem dX2_revised_97 : decode cX2_revised 97 = .ok (.iload_n 3, 1) := by decide +kernel
theorem dX2_revised_98 : decode cX2_revised 98 = .ok (.invokestatic 99, 3) := by decide +kernel
theorem dX2_revised_101 : decode cX2_revised 101 = .ok (.isub, 1) := by decide +kernel
theorem dX2_revised_102 : decode cX2_revised 102 = .ok (.iadd, 1) := by decide +kernel
theorem dX2_revised_103 : decode cX2_revised 103 = .ok (.istore 4, 2) := by decide +kernel
theorem dX2_revised_105 : decode cX2_revised 105 = .ok (.aload 6, 2) := by decide +kernel
theorem dX2_revised_107 : decode cX2_revised 107 = .ok (.getfield 76, 3) := by decide +kernel
theorem dX2_revised_110 : decode cX2_revised 110 = .ok (.istore 5, 2) := by decide +kernel
theorem dX2_revised_112 : decode cX2_revised 112 = .ok (.aload 6, 2) := by decide +kernel
theorem dX2_revised_114 : decode cX2_revised 114 = .ok (.getfield 87, 3) := by decide +kernel
theorem dX2_revised_117 : decode cX2_revised 117 = .ok (.astore 6, 2) := by decide +kernel
theorem dX2_revised_119 : decode cX2_revised 119 = .ok (.goto (-83), 3) := by decide +kernel
theorem dX2_revised_122 : decode cX2_revised 122 = .ok (.iload 4, 2) := by decide +kernel
theorem dX2_revised_124 : decode cX2_revised 124 = .ok (.ireturn, 1) := by decide +kernel
set_option maxRecDepth 20000 in
theorem ggX2_take_X2_requireRange : GoodIn wsX2_take wsX2_requireRange := goodIn_ca (goodIn_r _ [5, 6, 7] (by decide +kernel) (by decide +kernel)) (goodIn_sub (fun _ h => List.mem_cons_of_mem _ (List.mem_append_right _ h)) (by decide +kernel))
set_option maxRecDepth 20000 in
theorem gX2_take_X2_requireRange : GoodIn wsX2_take (va_wsS RX2 39 yX2_requireRange wsX2_requireRange) := goodIn_app (goodIn_of _ (by decide +kernel)) ggX2_take_X2_requireRange
set_option maxRecDepth 20000 in
theorem ggX2_take_X2_rowOrNull : GoodIn wsX2_take wsX2_rowOrNull := goodIn_r _ [11, 12, 13, 25, 26, 27, 28, 29, 30, 31, 32, 33] (by decide +kernel) (by decide +kernel)
set_option maxRecDepth 20000 in
theorem gX2_take_X2_rowOrNull : GoodIn wsX2_take (wsV RX2 105 RX2 yX2_rowOrNull wsX2_rowOrNull) := goodIn_app (goodIn_of _ (by decide +kernel)) ggX2_take_X2_rowOrNull
set_option maxRecDepth 20000 in
theorem ggX2_take_X2_takeIn : GoodIn wsX2_take wsX2_takeIn := goodIn_r _ [17, 18, 19, 20, 21, 22, 23, 4, 24, 34, 35, 36, 37, 38, 39, 40, 25, 26, 27, 28, 29, 30, 31, 32, 33] (by decide +kernel) (by decide +kernel)
set_option maxRecDepth 20000 in
theorem gX2_take_X2_takeIn : GoodIn wsX2_take (wsV RX2 108 RX2 yX2_takeIn wsX2_takeIn) := goodIn_app (goodIn_of _ (by decide +kernel)) ggX2_take_X2_takeIn
theorem dX2_take_0 : decode cX2_take 0 = .ok (.iload_n 1, 1) := by decide +kernel
theorem dX2_take_1 : decode cX2_take 1 = .ok (.iconst 1, 1) := by decide +kernel
theorem dX2_take_2 : decode cX2_take 2 = .ok (.sipush 200, 3) := by decide +kernel
theorem dX2_take_5 : decode cX2_take 5 = .ok (.invokestatic 39, 3) := by decide +kernel
theorem dX2_take_8 : decode cX2_take 8 = .ok (.iconst 0, 1) := by decide +kernel
theorem dX2_take_9 : decode cX2_take 9 = .ok (.istore_n 2, 1) := by decide +kernel
theorem dX2_take_10 : decode cX2_take 10 = .ok (.aload_n 0, 1) := by decide +kernel
theorem dX2_take_11 : decode cX2_take 11 = .ok (.aload_n 0, 1) := by decide +kernel
theorem dX2_take_12 : decode cX2_take 12 = .ok (.getfield 102, 3) := by decide +kernel
theorem dX2_take_15 : decode cX2_take 15 = .ok (.invokevirtual 105, 3) := by decide +kernel
theorem dX2_take_18 : decode cX2_take 18 = .ok (.astore_n 3, 1) := by decide +kernel
theorem dX2_take_19 : decode cX2_take 19 = .ok (.iload_n 2, 1) := by decide +kernel
theorem dX2_take_20 : decode cX2_take 20 = .ok (.iload_n 1, 1) := by decide +kernel
theorem dX2_take_21 : decode cX2_take 21 = .ok (.if_icmp .ge 37, 3) := by decide +kernel
theorem dX2_take_24 : decode cX2_take 24 = .ok (.aload_n 3, 1) := by decide +kernel
theorem dX2_take_25 : decode cX2_take 25 = .ok (.ifnull 33, 3) := by decide +kernel
theorem dX2_take_28 : decode cX2_take 28 = .ok (.aload_n 0, 1) := by decide +kernel
theorem dX2_take_29 : decode cX2_take 29 = .ok (.aload_n 3, 1) := by decide +kernel
theorem dX2_take_30 : decode cX2_take 30 = .ok (.invokevirtual 108, 3) := by decide +kernel
theorem dX2_take_33 : decode cX2_take 33 = .ok (.aload_n 0, 1) := by decide +kernel
theorem dX2_take_34 : decode cX2_take 34 = .ok (.dup, 1) := by decide +kernel
theorem dX2_take_35 : decode cX2_take 35 = .ok (.getfield 102, 3) := by decide +kernel
theorem dX2_take_38 : decode cX2_take 38 = .ok (.iconst 1, 1) := by decide +kernel
theorem dX2_take_39 : decode cX2_take 39 = .ok (.iadd, 1) := by decide +kernel
theorem dX2_take_40 : decode cX2_take 40 = .ok (.putfield 102, 3) := by decide +kernel
theorem dX2_take_43 : decode cX2_take 43 = .ok (.iinc 2 1, 3) := by decide +kernel
theorem dX2_take_46 : decode cX2_take 46 = .ok (.aload_n 0, 1) := by decide +kernel
theorem dX2_take_47 : decode cX2_take 47 = .ok (.aload_n 0, 1) := by decide +kernel
theorem dX2_take_48 : decode cX2_take 48 = .ok (.getfield 102, 3) := by decide +kernel
theorem dX2_take_51 : decode cX2_take 51 = .ok (.invokevirtual 105, 3) := by decide +kernel
theorem dX2_take_54 : decode cX2_take 54 = .ok (.astore_n 3, 1) := by decide +kernel
theorem dX2_take_55 : decode cX2_take 55 = .ok (.goto (-36), 3) := by decide +kernel
theorem dX2_take_58 : decode cX2_take 58 = .ok (.iload_n 2, 1) := by decide +kernel
theorem dX2_take_59 : decode cX2_take 59 = .ok (.ireturn, 1) := by decide +kernel
theorem dX2_lag_0 : decode cX2_lag 0 = .ok (.aload_n 0, 1) := by decide +kernel
theorem dX2_lag_1 : decode cX2_lag 1 = .ok (.getfield 44, 3) := by decide +kernel
theorem dX2_lag_4 : decode cX2_lag 4 = .ok (.aload_n 0, 1) := by decide +kernel
theorem dX2_lag_5 : decode cX2_lag 5 = .ok (.getfield 102, 3) := by decide +kernel
theorem dX2_lag_8 : decode cX2_lag 8 = .ok (.isub, 1) := by decide +kernel
theorem dX2_lag_9 : decode cX2_lag 9 = .ok (.ireturn, 1) := by decide +kernel
set_option maxRecDepth 20000 in
theorem ggX2_online_X2_requirePair : GoodIn wsX2_online wsX2_requirePair := goodIn_ca (goodIn_r _ [4, 5, 6, 3, 7, 8, 9] (by decide +kernel) (by decide +kernel)) (goodIn_sub (fun _ h => List.mem_cons_of_mem _ (List.mem_append_right _ h)) (by decide +kernel))
set_option maxRecDepth 20000 in
theorem gX2_online_X2_requirePair : GoodIn wsX2_online (va_wsS RX2 31 yX2_requirePair wsX2_requirePair) := goodIn_app (goodIn_of _ (by decide +kernel)) ggX2_online_X2_requirePair
set_option maxRecDepth 20000 in
theorem ggX2_online_X2_tell : GoodIn wsX2_online wsX2_tell := goodIn_r _ [13, 14, 15, 16, 17, 3, 18, 19, 20, 21, 22, 23, 24, 25, 26, 27, 28, 29, 30, 31, 32, 33, 34, 35, 36, 37, 38, 39, 40, 41, 42] (by decide +kernel) (by decide +kernel)
set_option maxRecDepth 20000 in
theorem gX2_online_X2_tell : GoodIn wsX2_online (wsV RX2 111 RX2 yX2_tell wsX2_tell) := goodIn_app (goodIn_of _ (by decide +kernel)) ggX2_online_X2_tell
theorem dX2_online_0 : decode cX2_online 0 = .ok (.iload_n 1, 1) := by decide +kernel
theorem dX2_online_1 : decode cX2_online 1 = .ok (.iload_n 2, 1) := by decide +kernel
theorem dX2_online_2 : decode cX2_online 2 = .ok (.invokestatic 31, 3) := by decide +kernel
theorem dX2_online_5 : decode cX2_online 5 = .ok (.aload_n 0, 1) := by decide +kernel
theorem dX2_online_6 : decode cX2_online 6 = .ok (.iload_n 1, 1) := by decide +kernel
theorem dX2_online_7 : decode cX2_online 7 = .ok (.iload_n 2, 1) := by decide +kernel
theorem dX2_online_8 : decode cX2_online 8 = .ok (.invokevirtual 111, 3) := by decide +kernel
theorem dX2_online_11 : decode cX2_online 11 = .ok (.ireturn, 1) := by decide +kernel
set_option maxRecDepth 20000 in
theorem ggX2_skew_X2_tell : GoodIn wsX2_skew wsX2_tell := goodIn_r _ [6, 7, 1, 8, 9, 5, 10, 11, 12, 13, 14, 15, 16, 17, 18, 26, 27, 28, 29, 30, 31, 32, 33, 34, 35, 36, 37, 38, 39, 40, 41] (by decide +kernel) (by decide +kernel)
set_option maxRecDepth 20000 in
theorem gX2_skew_X2_tell : GoodIn wsX2_skew (wsV RX2 111 RX2 yX2_tell wsX2_tell) := goodIn_app (goodIn_of _ (by decide +kernel)) ggX2_skew_X2_tell
set_option maxRecDepth 20000 in
theorem ggX2_skew_X2_find : GoodIn wsX2_skew wsX2_find := goodIn_r _ [22, 23, 15, 24, 25, 8, 9, 5, 10, 11, 12, 13, 14, 16, 17, 18, 26, 27, 28, 29, 30, 31, 32, 33, 34, 35, 36, 37, 38, 39, 40, 41] (by decide +kernel) (by decide +kernel)
set_option maxRecDepth 20000 in
theorem gX2_skew_X2_find : GoodIn wsX2_skew (wsV RX2 79 RX2 yX2_find wsX2_find) := goodIn_app (goodIn_of _ (by decide +kernel)) ggX2_skew_X2_find
theorem dX2_skew_0 : decode cX2_skew 0 = .ok (.iconst 0, 1) := by decide +kernel
theorem dX2_skew_1 : decode cX2_skew 1 = .ok (.istore_n 1, 1) := by decide +kernel
theorem dX2_skew_2 : decode cX2_skew 2 = .ok (.iconst 0, 1) := by decide +kernel
theorem dX2_skew_3 : decode cX2_skew 3 = .ok (.istore_n 2, 1) := by decide +kernel
theorem dX2_skew_4 : decode cX2_skew 4 = .ok (.iload_n 2, 1) := by decide +kernel
theorem dX2_skew_5 : decode cX2_skew 5 = .ok (.bipush 6, 2) := by decide +kernel
theorem dX2_skew_7 : decode cX2_skew 7 = .ok (.if_icmp .ge 49, 3) := by decide +kernel
theorem dX2_skew_10 : decode cX2_skew 10 = .ok (.iconst 0, 1) := by decide +kernel
theorem dX2_skew_11 : decode cX2_skew 11 = .ok (.istore_n 3, 1) := by decide +kernel
theorem dX2_skew_12 : decode cX2_skew 12 = .ok (.iload_n 3, 1) := by decide +kernel
theorem dX2_skew_13 : decode cX2_skew 13 = .ok (.bipush 10, 2) := by decide +kernel
theorem dX2_skew_15 : decode cX2_skew 15 = .ok (.if_icmp .ge 35, 3) := by decide +kernel
theorem dX2_skew_18 : decode cX2_skew 18 = .ok (.aload_n 0, 1) := by decide +kernel
theorem dX2_skew_19 : decode cX2_skew 19 = .ok (.iload_n 2, 1) := by decide +kernel
theorem dX2_skew_20 : decode cX2_skew 20 = .ok (.iload_n 3, 1) := by decide +kernel
theorem dX2_skew_21 : decode cX2_skew 21 = .ok (.invokevirtual 111, 3) := by decide +kernel
theorem dX2_skew_24 : decode cX2_skew 24 = .ok (.aload_n 0, 1) := by decide +kernel
theorem dX2_skew_25 : decode cX2_skew 25 = .ok (.iload_n 2, 1) := by decide +kernel
theorem dX2_skew_26 : decode cX2_skew 26 = .ok (.iload_n 3, 1) := by decide +kernel
theorem dX2_skew_27 : decode cX2_skew 27 = .ok (.aload_n 0, 1) := by decide +kernel
theorem dX2_skew_28 : decode cX2_skew 28 = .ok (.getfield 35, 3) := by decide +kernel
theorem dX2_skew_31 : decode cX2_skew 31 = .ok (.aload_n 0, 1) := by decide +kernel
theorem dX2_skew_32 : decode cX2_skew 32 = .ok (.getfield 35, 3) := by decide +kernel
theorem dX2_skew_35 : decode cX2_skew 35 = .ok (.invokevirtual 79, 3) := by decide +kernel
theorem dX2_skew_38 : decode cX2_skew 38 = .ok (.if_icmp .eq 6, 3) := by decide +kernel
theorem dX2_skew_41 : decode cX2_skew 41 = .ok (.iinc 1 1, 3) := by decide +kernel
theorem dX2_skew_44 : decode cX2_skew 44 = .ok (.iinc 3 1, 3) := by decide +kernel
theorem dX2_skew_47 : decode cX2_skew 47 = .ok (.goto (-35), 3) := by decide +kernel
theorem dX2_skew_50 : decode cX2_skew 50 = .ok (.iinc 2 1, 3) := by decide +kernel
theorem dX2_skew_53 : decode cX2_skew 53 = .ok (.goto (-49), 3) := by decide +kernel
theorem dX2_skew_56 : decode cX2_skew 56 = .ok (.iload_n 1, 1) := by decide +kernel
theorem dX2_skew_57 : decode cX2_skew 57 = .ok (.ireturn, 1) := by decide +kernel
set_option maxRecDepth 20000 in
theorem ggX2_serve_X2_requirePair : GoodIn wsX2_serve wsX2_requirePair := goodIn_ca (goodIn_r _ [12, 13, 14, 11, 15, 16, 17] (by decide +kernel) (by decide +kernel)) (goodIn_sub (fun _ h => List.mem_cons_of_mem _ (List.mem_append_right _ h)) (by decide +kernel))
set_option maxRecDepth 20000 in
theorem gX2_serve_X2_requirePair : GoodIn wsX2_serve (va_wsS RX2 31 yX2_requirePair wsX2_requirePair) := goodIn_app (goodIn_of _ (by decide +kernel)) ggX2_serve_X2_requirePair
set_option maxRecDepth 20000 in
theorem ggX2_serve_X2_tell : GoodIn wsX2_serve wsX2_tell := goodIn_r _ [21, 22, 8, 23, 24, 11, 25, 26, 27, 28, 29, 30, 31, 32, 33, 44, 45, 46, 47, 48, 49, 50, 51, 52, 57, 58, 59, 60, 61, 62, 63] (by decide +kernel) (by decide +kernel)
set_option maxRecDepth 20000 in
theorem gX2_serve_X2_tell : GoodIn wsX2_serve (wsV RX2 111 RX2 yX2_tell wsX2_tell) := goodIn_app (goodIn_of _ (by decide +kernel)) ggX2_serve_X2_tell
set_option maxRecDepth 20000 in
theorem ggX2_serve_X1_init : GoodIn wsX2_serve wsX1_init := goodIn_r _ [36, 37, 38, 39, 40, 41, 42, 43, 53, 54, 55, 56] (by decide +kernel) (by decide +kernel)
set_option maxRecDepth 20000 in
theorem gX2_serve_X1_init : GoodIn wsX2_serve (wsX1_init) := ggX2_serve_X1_init
theorem dX2_serve_0 : decode cX2_serve 0 = .ok (.iload_n 1, 1) := by decide +kernel
theorem dX2_serve_1 : decode cX2_serve 1 = .ok (.iload_n 2, 1) := by decide +kernel
theorem dX2_serve_2 : decode cX2_serve 2 = .ok (.invokestatic 31, 3) := by decide +kernel
theorem dX2_serve_5 : decode cX2_serve 5 = .ok (.aload_n 0, 1) := by decide +kernel
theorem dX2_serve_6 : decode cX2_serve 6 = .ok (.getfield 114, 3) := by decide +kernel
theorem dX2_serve_9 : decode cX2_serve 9 = .ok (.sipush 200, 3) := by decide +kernel
theorem dX2_serve_12 : decode cX2_serve 12 = .ok (.if_icmp .lt 13, 3) := by decide +kernel
theorem dX2_serve_15 : decode cX2_serve 15 = .ok (.new 47, 3) := by decide +kernel
theorem dX2_serve_18 : decode cX2_serve 18 = .ok (.dup, 1) := by decide +kernel
theorem dX2_serve_19 : decode cX2_serve 19 = .ok (.ldc 117, 2) := by decide +kernel
theorem dX2_serve_21 : decode cX2_serve 21 = .ok (.invokespecial 51, 3) := by decide +kernel
theorem dX2_serve_24 : decode cX2_serve 24 = .ok (.athrow, 1) := by decide +kernel
theorem dX2_serve_25 : decode cX2_serve 25 = .ok (.aload_n 0, 1) := by decide +kernel
theorem dX2_serve_26 : decode cX2_serve 26 = .ok (.iload_n 1, 1) := by decide +kernel
theorem dX2_serve_27 : decode cX2_serve 27 = .ok (.iload_n 2, 1) := by decide +kernel
theorem dX2_serve_28 : decode cX2_serve 28 = .ok (.invokevirtual 111, 3) := by decide +kernel
theorem dX2_serve_31 : decode cX2_serve 31 = .ok (.istore_n 3, 1) := by decide +kernel
theorem dX2_serve_32 : decode cX2_serve 32 = .ok (.aload_n 0, 1) := by decide +kernel
theorem dX2_serve_33 : decode cX2_serve 33 = .ok (.getfield 27, 3) := by decide +kernel
theorem dX2_serve_36 : decode cX2_serve 36 = .ok (.aload_n 0, 1) := by decide +kernel
theorem dX2_serve_37 : decode cX2_serve 37 = .ok (.getfield 114, 3) := by decide +kernel
theorem dX2_serve_40 : decode cX2_serve 40 = .ok (.new 25, 3) := by decide +kernel
theorem dX2_serve_43 : decode cX2_serve 43 = .ok (.dup, 1) := by decide +kernel
theorem dX2_serve_44 : decode cX2_serve 44 = .ok (.iload_n 1, 1) := by decide +kernel
theorem dX2_serve_45 : decode cX2_serve 45 = .ok (.iload_n 2, 1) := by decide +kernel
theorem dX2_serve_46 : decode cX2_serve 46 = .ok (.aload_n 0, 1) := by decide +kernel
theorem dX2_serve_47 : decode cX2_serve 47 = .ok (.getfield 35, 3) := by decide +kernel
theorem dX2_serve_50 : decode cX2_serve 50 = .ok (.iload_n 3, 1) := by decide +kernel
theorem dX2_serve_51 : decode cX2_serve 51 = .ok (.invokespecial 119, 3) := by decide +kernel
theorem dX2_serve_54 : decode cX2_serve 54 = .ok (.aastore, 1) := by decide +kernel
theorem dX2_serve_55 : decode cX2_serve 55 = .ok (.aload_n 0, 1) := by decide +kernel
theorem dX2_serve_56 : decode cX2_serve 56 = .ok (.dup, 1) := by decide +kernel
theorem dX2_serve_57 : decode cX2_serve 57 = .ok (.getfield 114, 3) := by decide +kernel
theorem dX2_serve_60 : decode cX2_serve 60 = .ok (.iconst 1, 1) := by decide +kernel
theorem dX2_serve_61 : decode cX2_serve 61 = .ok (.iadd, 1) := by decide +kernel
theorem dX2_serve_62 : decode cX2_serve 62 = .ok (.putfield 114, 3) := by decide +kernel
theorem dX2_serve_65 : decode cX2_serve 65 = .ok (.iload_n 3, 1) := by decide +kernel
theorem dX2_serve_66 : decode cX2_serve 66 = .ok (.ireturn, 1) := by decide +kernel
theorem dX2_servings_0 : decode cX2_servings 0 = .ok (.aload_n 0, 1) := by decide +kernel
theorem dX2_servings_1 : decode cX2_servings 1 = .ok (.getfield 114, 3) := by decide +kernel
theorem dX2_servings_4 : decode cX2_servings 4 = .ok (.ireturn, 1) := by decide +kernel
set_option maxRecDepth 20000 in
theorem ggX2_served_X2_requireServing : GoodIn wsX2_served wsX2_requireServing := goodIn_ca (goodIn_r _ [6, 7, 8, 9, 10, 15, 16, 17, 18, 19, 20, 21, 22, 23] (by decide +kernel) (by decide +kernel)) (goodIn_sub (fun _ h => List.mem_cons_of_mem _ (List.mem_append_right _ h)) (by decide +kernel))
set_option maxRecDepth 20000 in
theorem gX2_served_X2_requireServing : GoodIn wsX2_served (wsV RX2 122 RX2 yX2_requireServing wsX2_requireServing) := goodIn_app (goodIn_of _ (by decide +kernel)) ggX2_served_X2_requireServing
theorem dX2_served_0 : decode cX2_served 0 = .ok (.aload_n 0, 1) := by decide +kernel
theorem dX2_served_1 : decode cX2_served 1 = .ok (.iload_n 1, 1) := by decide +kernel
theorem dX2_served_2 : decode cX2_served 2 = .ok (.invokevirtual 122, 3) := by decide +kernel
theorem dX2_served_5 : decode cX2_served 5 = .ok (.getfield 126, 3) := by decide +kernel
theorem dX2_served_8 : decode cX2_served 8 = .ok (.ireturn, 1) := by decide +kernel
set_option maxRecDepth 20000 in
theorem ggX2_isSound_X2_requireServing : GoodIn wsX2_isSound wsX2_requireServing := goodIn_ca (goodIn_r _ [9, 10, 11, 12, 13, 36, 37, 38, 39, 40, 41, 42, 43, 44] (by decide +kernel) (by decide +kernel)) (goodIn_sub (fun _ h => List.mem_cons_of_mem _ (List.mem_append_right _ h)) (by decide +kernel))
set_option maxRecDepth 20000 in
theorem gX2_isSound_X2_requireServing : GoodIn wsX2_isSound (wsV RX2 122 RX2 yX2_requireServing wsX2_requireServing) := goodIn_app (goodIn_of _ (by decide +kernel)) ggX2_isSound_X2_requireServing
set_option maxRecDepth 20000 in
theorem ggX2_isSound_X2_find : GoodIn wsX2_isSound wsX2_find := goodIn_r _ [17, 18, 19, 20, 21, 22, 23, 8, 24, 25, 26, 27, 28, 29, 30, 31, 36, 37, 38, 39, 40, 41, 42, 43, 44, 45, 46, 47, 48, 49, 50, 51] (by decide +kernel) (by decide +kernel)
set_option maxRecDepth 20000 in
theorem gX2_isSound_X2_find : GoodIn wsX2_isSound (wsV RX2 79 RX2 yX2_find wsX2_find) := goodIn_app (goodIn_of _ (by decide +kernel)) ggX2_isSound_X2_find
theorem dX2_isSound_0 : decode cX2_isSound 0 = .ok (.aload_n 0, 1) := by decide +kernel
theorem dX2_isSound_1 : decode cX2_isSound 1 = .ok (.iload_n 1, 1) := by decide +kernel
theorem dX2_isSound_2 : decode cX2_isSound 2 = .ok (.invokevirtual 122, 3) := by decide +kernel
theorem dX2_isSound_5 : decode cX2_isSound 5 = .ok (.astore_n 2, 1) := by decide +kernel
theorem dX2_isSound_6 : decode cX2_isSound 6 = .ok (.aload_n 2, 1) := by decide +kernel
theorem dX2_isSound_7 : decode cX2_isSound 7 = .ok (.getfield 126, 3) := by decide +kernel
theorem dX2_isSound_10 : decode cX2_isSound 10 = .ok (.aload_n 0, 1) := by decide +kernel
theorem dX2_isSound_11 : decode cX2_isSound 11 = .ok (.aload_n 2, 1) := by decide +kernel
theorem dX2_isSound_12 : decode cX2_isSound 12 = .ok (.getfield 129, 3) := by decide +kernel
theorem dX2_isSound_15 : decode cX2_isSound 15 = .ok (.aload_n 2, 1) := by decide +kernel
theorem dX2_isSound_16 : decode cX2_isSound 16 = .ok (.getfield 132, 3) := by decide +kernel
theorem dX2_isSound_19 : decode cX2_isSound 19 = .ok (.aload_n 2, 1) := by decide +kernel
theorem dX2_isSound_20 : decode cX2_isSound 20 = .ok (.getfield 135, 3) := by decide +kernel
theorem dX2_isSound_23 : decode cX2_isSound 23 = .ok (.aload_n 2, 1) := by decide +kernel
theorem dX2_isSound_24 : decode cX2_isSound 24 = .ok (.getfield 135, 3) := by decide +kernel
theorem dX2_isSound_27 : decode cX2_isSound 27 = .ok (.invokevirtual 79, 3) := by decide +kernel
theorem dX2_isSound_30 : decode cX2_isSound 30 = .ok (.if_icmp .ne 7, 3) := by decide +kernel
theorem dX2_isSound_33 : decode cX2_isSound 33 = .ok (.iconst 1, 1) := by decide +kernel
theorem dX2_isSound_34 : decode cX2_isSound 34 = .ok (.goto 4, 3) := by decide +kernel
theorem dX2_isSound_37 : decode cX2_isSound 37 = .ok (.iconst 0, 1) := by decide +kernel
theorem dX2_isSound_38 : decode cX2_isSound 38 = .ok (.ireturn, 1) := by decide +kernel
set_option maxRecDepth 20000 in
theorem ggX2_unsound_X2_isSound : GoodIn wsX2_unsound wsX2_isSound := goodIn_ca (goodIn_r _ [6, 7, 8, 9, 10, 11, 12, 13, 5, 14, 15, 16, 1, 17, 18, 19, 20, 21, 22, 23, 24, 25, 26, 27, 28, 29, 30, 31, 32, 33, 34, 35, 45, 46, 47, 48, 36, 37, 38, 39, 40, 41, 42, 43, 44, 49, 50, 51, 52, 53, 54, 55] (by decide +kernel) (by decide +kernel)) (goodIn_sub (fun _ h => List.mem_cons_of_mem _ (List.mem_append_right _ h)) (by decide +kernel))
set_option maxRecDepth 20000 in
theorem gX2_unsound_X2_isSound : GoodIn wsX2_unsound (wsV RX2 138 RX2 yX2_isSound wsX2_isSound) := goodIn_app (goodIn_of _ (by decide +kernel)) ggX2_unsound_X2_isSound
theorem dX2_unsound_0 : decode cX2_unsound 0 = .ok (.iconst 0, 1) := by decide +kernel
theorem dX2_unsound_1 : decode cX2_unsound 1 = .ok (.istore_n 1, 1) := by decide +kernel
theorem dX2_unsound_2 : decode cX2_unsound 2 = .ok (.iconst 0, 1) := by decide +kernel
theorem dX2_unsound_3 : decode cX2_unsound 3 = .ok (.istore_n 2, 1) := by decide +kernel
theorem dX2_unsound_4 : decode cX2_unsound 4 = .ok (.iload_n 2, 1) := by decide +kernel
theorem dX2_unsound_5 : decode cX2_unsound 5 = .ok (.aload_n 0, 1) := by decide +kernel
theorem dX2_unsound_6 : decode cX2_unsound 6 = .ok (.getfield 114, 3) := by decide +kernel
theorem dX2_unsound_9 : decode cX2_unsound 9 = .ok (.if_icmp .ge 20, 3) := by decide +kernel
theorem dX2_unsound_12 : decode cX2_unsound 12 = .ok (.aload_n 0, 1) := by decide +kernel
theorem dX2_unsound_13 : decode cX2_unsound 13 = .ok (.iload_n 2, 1) := by decide +kernel
theorem dX2_unsound_14 : decode cX2_unsound 14 = .ok (.invokevirtual 138, 3) := by decide +kernel
theorem dX2_unsound_17 : decode cX2_unsound 17 = .ok (.ifCond .ne 6, 3) := by decide +kernel
theorem dX2_unsound_20 : decode cX2_unsound 20 = .ok (.iinc 1 1, 3) := by decide +kernel
theorem dX2_unsound_23 : decode cX2_unsound 23 = .ok (.iinc 2 1, 3) := by decide +kernel
theorem dX2_unsound_26 : decode cX2_unsound 26 = .ok (.goto (-22), 3) := by decide +kernel
theorem dX2_unsound_29 : decode cX2_unsound 29 = .ok (.iload_n 1, 1) := by decide +kernel
theorem dX2_unsound_30 : decode cX2_unsound 30 = .ok (.ireturn, 1) := by decide +kernel
theorem dX2_requireRange_0 : decode cX2_requireRange 0 = .ok (.iload_n 0, 1) := by decide +kernel
theorem dX2_requireRange_1 : decode cX2_requireRange 1 = .ok (.iload_n 1, 1) := by decide +kernel
theorem dX2_requireRange_2 : decode cX2_requireRange 2 = .ok (.if_icmp .lt 8, 3) := by decide +kernel
theorem dX2_requireRange_5 : decode cX2_requireRange 5 = .ok (.iload_n 0, 1) := by decide +kernel
theorem dX2_requireRange_6 : decode cX2_requireRange 6 = .ok (.iload_n 2, 1) := by decide +kernel
theorem dX2_requireRange_7 : decode cX2_requireRange 7 = .ok (.if_icmp .le 13, 3) := by decide +kernel
theorem dX2_requireRange_10 : decode cX2_requireRange 10 = .ok (.new 142, 3) := by decide +kernel
theorem dX2_requireRange_13 : decode cX2_requireRange 13 = .ok (.dup, 1) := by decide +kernel
theorem dX2_requireRange_14 : decode cX2_requireRange 14 = .ok (.ldc 144, 2) := by decide +kernel
theorem dX2_requireRange_16 : decode cX2_requireRange 16 = .ok (.invokespecial 146, 3) := by decide +kernel
theorem dX2_requireRange_19 : decode cX2_requireRange 19 = .ok (.athrow, 1) := by decide +kernel
theorem dX2_requireRange_20 : decode cX2_requireRange 20 = .ok (.return_, 1) := by decide +kernel
set_option maxRecDepth 20000 in
theorem ggX2_requirePair_X2_requireRange : GoodIn wsX2_requirePair wsX2_requireRange := goodIn_ca (goodIn_r _ [4, 5, 6] (by decide +kernel) (by decide +kernel)) (goodIn_sub (fun _ h => List.mem_cons_of_mem _ (List.mem_append_right _ h)) (by decide +kernel))
set_option maxRecDepth 20000 in
theorem gX2_requirePair_X2_requireRange : GoodIn wsX2_requirePair (va_wsS RX2 39 yX2_requireRange wsX2_requireRange) := goodIn_app (goodIn_of _ (by decide +kernel)) ggX2_requirePair_X2_requireRange
theorem dX2_requirePair_0 : decode cX2_requirePair 0 = .ok (.iload_n 0, 1) := by decide +kernel
theorem dX2_requirePair_1 : decode cX2_requirePair 1 = .ok (.iconst 0, 1) := by decide +kernel
theorem dX2_requirePair_2 : decode cX2_requirePair 2 = .ok (.iconst 5, 1) := by decide +kernel
theorem dX2_requirePair_3 : decode cX2_requirePair 3 = .ok (.invokestatic 39, 3) := by decide +kernel
theorem dX2_requirePair_6 : decode cX2_requirePair 6 = .ok (.iload_n 1, 1) := by decide +kernel
theorem dX2_requirePair_7 : decode cX2_requirePair 7 = .ok (.iconst 0, 1) := by decide +kernel
theorem dX2_requirePair_8 : decode cX2_requirePair 8 = .ok (.bipush 9, 2) := by decide +kernel
theorem dX2_requirePair_10 : decode cX2_requirePair 10 = .ok (.invokestatic 39, 3) := by decide +kernel
theorem dX2_requirePair_13 : decode cX2_requirePair 13 = .ok (.return_, 1) := by decide +kernel
set_option maxRecDepth 20000 in
theorem ggX2_requireRow_X2_rowOrNull : GoodIn wsX2_requireRow wsX2_rowOrNull := goodIn_r _ [7, 8, 9, 10, 11, 12, 13, 14, 15, 16, 17, 18] (by decide +kernel) (by decide +kernel)
set_option maxRecDepth 20000 in
theorem gX2_requireRow_X2_rowOrNull : GoodIn wsX2_requireRow (wsV RX2 105 RX2 yX2_rowOrNull wsX2_rowOrNull) := goodIn_app (goodIn_of _ (by decide +kernel)) ggX2_requireRow_X2_rowOrNull
theorem dX2_requireRow_0 : decode cX2_requireRow 0 = .ok (.aload_n 0, 1) := by decide +kernel
theorem dX2_requireRow_1 : decode cX2_requireRow 1 = .ok (.iload_n 1, 1) := by decide +kernel
theorem dX2_requireRow_2 : decode cX2_requireRow 2 = .ok (.invokevirtual 105, 3) := by decide +kernel
theorem dX2_requireRow_5 : decode cX2_requireRow 5 = .ok (.astore_n 2, 1) := by decide +kernel
theorem dX2_requireRow_6 : decode cX2_requireRow 6 = .ok (.aload_n 2, 1) := by decide +kernel
theorem dX2_requireRow_7 : decode cX2_requireRow 7 = .ok (.ifnonnull 13, 3) := by decide +kernel
theorem dX2_requireRow_10 : decode cX2_requireRow 10 = .ok (.new 147, 3) := by decide +kernel
theorem dX2_requireRow_13 : decode cX2_requireRow 13 = .ok (.dup, 1) := by decide +kernel
theorem dX2_requireRow_14 : decode cX2_requireRow 14 = .ok (.ldc 149, 2) := by decide +kernel
theorem dX2_requireRow_16 : decode cX2_requireRow 16 = .ok (.invokespecial 151, 3) := by decide +kernel
theorem dX2_requireRow_19 : decode cX2_requireRow 19 = .ok (.athrow, 1) := by decide +kernel
theorem dX2_requireRow_20 : decode cX2_requireRow 20 = .ok (.aload_n 2, 1) := by decide +kernel
theorem dX2_requireRow_21 : decode cX2_requireRow 21 = .ok (.areturn, 1) := by decide +kernel
theorem dX2_requireServing_0 : decode cX2_requireServing 0 = .ok (.iload_n 1, 1) := by decide +kernel
theorem dX2_requireServing_1 : decode cX2_requireServing 1 = .ok (.ifCond .lt 20, 3) := by decide +kernel
theorem dX2_requireServing_4 : decode cX2_requireServing 4 = .ok (.iload_n 1, 1) := by decide +kernel
theorem dX2_requireServing_5 : decode cX2_requireServing 5 = .ok (.aload_n 0, 1) := by decide +kernel
theorem dX2_requireServing_6 : decode cX2_requireServing 6 = .ok (.getfield 114, 3) := by decide +kernel
theorem dX2_requireServing_9 : decode cX2_requireServing 9 = .ok (.if_icmp .ge 12, 3) := by decide +kernel
theorem dX2_requireServing_12 : decode cX2_requireServing 12 = .ok (.aload_n 0, 1) := by decide +kernel
theorem dX2_requireServing_13 : decode cX2_requireServing 13 = .ok (.getfield 27, 3) := by decide +kernel
theorem dX2_requireServing_16 : decode cX2_requireServing 16 = .ok (.iload_n 1, 1) := by decide +kernel
theorem dX2_requireServing_17 : decode cX2_requireServing 17 = .ok (.aaload, 1) := by decide +kernel
theorem dX2_requireServing_18 : decode cX2_requireServing 18 = .ok (.ifnonnull 13, 3) := by decide +kernel
theorem dX2_requireServing_21 : decode cX2_requireServing 21 = .ok (.new 147, 3) := by decide +kernel
theorem dX2_requireServing_24 : decode cX2_requireServing 24 = .ok (.dup, 1) := by decide +kernel
theorem dX2_requireServing_25 : decode cX2_requireServing 25 = .ok (.ldc 152, 2) := by decide +kernel
theorem dX2_requireServing_27 : decode cX2_requireServing 27 = .ok (.invokespecial 151, 3) := by decide +kernel
theorem dX2_requireServing_30 : decode cX2_requireServing 30 = .ok (.athrow, 1) := by decide +kernel
theorem dX2_requireServing_31 : decode cX2_requireServing 31 = .ok (.aload_n 0, 1) := by decide +kernel
theorem dX2_requireServing_32 : decode cX2_requireServing 32 = .ok (.getfield 27, 3) := by decide +kernel
theorem dX2_requireServing_35 : decode cX2_requireServing 35 = .ok (.iload_n 1, 1) := by decide +kernel
theorem dX2_requireServing_36 : decode cX2_requireServing 36 = .ok (.aaload, 1) := by decide +kernel
theorem dX2_requireServing_37 : decode cX2_requireServing 37 = .ok (.areturn, 1) := by decide +kernel
theorem dX2_rowOrNull_0 : decode cX2_rowOrNull 0 = .ok (.iload_n 1, 1) := by decide +kernel
theorem dX2_rowOrNull_1 : decode cX2_rowOrNull 1 = .ok (.ifCond .lt 20, 3) := by decide +kernel
theorem dX2_rowOrNull_4 : decode cX2_rowOrNull 4 = .ok (.iload_n 1, 1) := by decide +kernel
theorem dX2_rowOrNull_5 : decode cX2_rowOrNull 5 = .ok (.aload_n 0, 1) := by decide +kernel
theorem dX2_rowOrNull_6 : decode cX2_rowOrNull 6 = .ok (.getfield 44, 3) := by decide +kernel
theorem dX2_rowOrNull_9 : decode cX2_rowOrNull 9 = .ok (.if_icmp .ge 12, 3) := by decide +kernel
theorem dX2_rowOrNull_12 : decode cX2_rowOrNull 12 = .ok (.aload_n 0, 1) := by decide +kernel
theorem dX2_rowOrNull_13 : decode cX2_rowOrNull 13 = .ok (.getfield 15, 3) := by decide +kernel
theorem dX2_rowOrNull_16 : decode cX2_rowOrNull 16 = .ok (.iload_n 1, 1) := by decide +kernel
theorem dX2_rowOrNull_17 : decode cX2_rowOrNull 17 = .ok (.aaload, 1) := by decide +kernel
theorem dX2_rowOrNull_18 : decode cX2_rowOrNull 18 = .ok (.goto 4, 3) := by decide +kernel
theorem dX2_rowOrNull_21 : decode cX2_rowOrNull 21 = .ok (.aconst_null, 1) := by decide +kernel
theorem dX2_rowOrNull_22 : decode cX2_rowOrNull 22 = .ok (.areturn, 1) := by decide +kernel
theorem dX2_placeOf_0 : decode cX2_placeOf 0 = .ok (.iload_n 0, 1) := by decide +kernel
theorem dX2_placeOf_1 : decode cX2_placeOf 1 = .ok (.bipush 10, 2) := by decide +kernel
theorem dX2_placeOf_3 : decode cX2_placeOf 3 = .ok (.imul, 1) := by decide +kernel
theorem dX2_placeOf_4 : decode cX2_placeOf 4 = .ok (.iload_n 1, 1) := by decide +kernel
theorem dX2_placeOf_5 : decode cX2_placeOf 5 = .ok (.iadd, 1) := by decide +kernel
theorem dX2_placeOf_6 : decode cX2_placeOf 6 = .ok (.ireturn, 1) := by decide +kernel
set_option maxRecDepth 20000 in
theorem ggX2_putInChain_X2_placeOf : GoodIn wsX2_putInChain wsX2_placeOf := goodIn_r _ [9] (by decide +kernel) (by decide +kernel)
set_option maxRecDepth 20000 in
theorem gX2_putInChain_X2_placeOf : GoodIn wsX2_putInChain (va_wsS RX2 83 yX2_placeOf wsX2_placeOf) := goodIn_app (goodIn_of _ (by decide +kernel)) ggX2_putInChain_X2_placeOf
theorem dX2_putInChain_0 : decode cX2_putInChain 0 = .ok (.aload_n 1, 1) := by decide +kernel
theorem dX2_putInChain_1 : decode cX2_putInChain 1 = .ok (.getfield 154, 3) := by decide +kernel
theorem dX2_putInChain_4 : decode cX2_putInChain 4 = .ok (.aload_n 1, 1) := by decide +kernel
theorem dX2_putInChain_5 : decode cX2_putInChain 5 = .ok (.getfield 155, 3) := by decide +kernel
theorem dX2_putInChain_8 : decode cX2_putInChain 8 = .ok (.invokestatic 83, 3) := by decide +kernel
theorem dX2_putInChain_11 : decode cX2_putInChain 11 = .ok (.istore_n 2, 1) := by decide +kernel
theorem dX2_putInChain_12 : decode cX2_putInChain 12 = .ok (.aconst_null, 1) := by decide +kernel
theorem dX2_putInChain_13 : decode cX2_putInChain 13 = .ok (.astore_n 3, 1) := by decide +kernel
theorem dX2_putInChain_14 : decode cX2_putInChain 14 = .ok (.aload_n 0, 1) := by decide +kernel
theorem dX2_putInChain_15 : decode cX2_putInChain 15 = .ok (.getfield 19, 3) := by decide +kernel
theorem dX2_putInChain_18 : decode cX2_putInChain 18 = .ok (.iload_n 2, 1) := by decide +kernel
theorem dX2_putInChain_19 : decode cX2_putInChain 19 = .ok (.aaload, 1) := by decide +kernel
theorem dX2_putInChain_20 : decode cX2_putInChain 20 = .ok (.astore 4, 2) := by decide +kernel
theorem dX2_putInChain_22 : decode cX2_putInChain 22 = .ok (.aload 4, 2) := by decide +kernel
theorem dX2_putInChain_24 : decode cX2_putInChain 24 = .ok (.ifnull 28, 3) := by decide +kernel
theorem dX2_putInChain_27 : decode cX2_putInChain 27 = .ok (.aload 4, 2) := by decide +kernel
theorem dX2_putInChain_29 : decode cX2_putInChain 29 = .ok (.getfield 76, 3) := by decide +kernel
theorem dX2_putInChain_32 : decode cX2_putInChain 32 = .ok (.aload_n 1, 1) := by decide +kernel
theorem dX2_putInChain_33 : decode cX2_putInChain 33 = .ok (.getfield 76, 3) := by decide +kernel
theorem dX2_putInChain_36 : decode cX2_putInChain 36 = .ok (.if_icmp .le 16, 3) := by decide +kernel
theorem dX2_putInChain_39 : decode cX2_putInChain 39 = .ok (.aload 4, 2) := by decide +kernel
theorem dX2_putInChain_41 : decode cX2_putInChain 41 = .ok (.astore_n 3, 1) := by decide +kernel
theorem dX2_putInChain_42 : decode cX2_putInChain 42 = .ok (.aload 4, 2) := by decide +kernel
theorem dX2_putInChain_44 : decode cX2_putInChain 44 = .ok (.getfield 87, 3) := by decide +kernel
theorem dX2_putInChain_47 : decode cX2_putInChain 47 = .ok (.astore 4, 2) := by decide +kernel
theorem dX2_putInChain_49 : decode cX2_putInChain 49 = .ok (.goto (-27), 3) := by decide +kernel
theorem dX2_putInChain_52 : decode cX2_putInChain 52 = .ok (.aload_n 1, 1) := by decide +kernel
theorem dX2_putInChain_53 : decode cX2_putInChain 53 = .ok (.aload 4, 2) := by decide +kernel
theorem dX2_putInChain_55 : decode cX2_putInChain 55 = .ok (.putfield 87, 3) := by decide +kernel
theorem dX2_putInChain_58 : decode cX2_putInChain 58 = .ok (.aload_n 3, 1) := by decide +kernel
theorem dX2_putInChain_59 : decode cX2_putInChain 59 = .ok (.ifnonnull 13, 3) := by decide +kernel
theorem dX2_putInChain_62 : decode cX2_putInChain 62 = .ok (.aload_n 0, 1) := by decide +kernel
theorem dX2_putInChain_63 : decode cX2_putInChain 63 = .ok (.getfield 19, 3) := by decide +kernel
theorem dX2_putInChain_66 : decode cX2_putInChain 66 = .ok (.iload_n 2, 1) := by decide +kernel
theorem dX2_putInChain_67 : decode cX2_putInChain 67 = .ok (.aload_n 1, 1) := by decide +kernel
theorem dX2_putInChain_68 : decode cX2_putInChain 68 = .ok (.aastore, 1) := by decide +kernel
theorem dX2_putInChain_69 : decode cX2_putInChain 69 = .ok (.goto 8, 3) := by decide +kernel
theorem dX2_putInChain_72 : decode cX2_putInChain 72 = .ok (.aload_n 3, 1) := by decide +kernel
theorem dX2_putInChain_73 : decode cX2_putInChain 73 = .ok (.aload_n 1, 1) := by decide +kernel
theorem dX2_putInChain_74 : decode cX2_putInChain 74 = .ok (.putfield 87, 3) := by decide +kernel
theorem dX2_putInChain_77 : decode cX2_putInChain 77 = .ok (.return_, 1) := by decide +kernel
set_option maxRecDepth 20000 in
theorem ggX2_find_X2_placeOf : GoodIn wsX2_find wsX2_placeOf := goodIn_r _ [8] (by decide +kernel) (by decide +kernel)
set_option maxRecDepth 20000 in
theorem gX2_find_X2_placeOf : GoodIn wsX2_find (va_wsS RX2 83 yX2_placeOf wsX2_placeOf) := goodIn_app (goodIn_of _ (by decide +kernel)) ggX2_find_X2_placeOf
set_option maxRecDepth 20000 in
theorem ggX2_find_X2_numberUnlessExpired : GoodIn wsX2_find wsX2_numberUnlessExpired := goodIn_r _ [12, 2, 13, 14, 15, 25, 26, 27, 28, 29, 30, 31, 16, 17, 18, 19, 20, 21, 22, 23, 24] (by decide +kernel) (by decide +kernel)
set_option maxRecDepth 20000 in
theorem gX2_find_X2_numberUnlessExpired : GoodIn wsX2_find (wsV RX2 156 RX2 yX2_numberUnlessExpired wsX2_numberUnlessExpired) := goodIn_app (goodIn_of _ (by decide +kernel)) ggX2_find_X2_numberUnlessExpired
theorem dX2_find_0 : decode cX2_find 0 = .ok (.aload_n 0, 1) := by decide +kernel
theorem dX2_find_1 : decode cX2_find 1 = .ok (.getfield 19, 3) := by decide +kernel
theorem dX2_find_4 : decode cX2_find 4 = .ok (.iload_n 1, 1) := by decide +kernel
theorem dX2_find_5 : decode cX2_find 5 = .ok (.iload_n 2, 1) := by decide +kernel
theorem dX2_find_6 : decode cX2_find 6 = .ok (.invokestatic 83, 3) := by decide +kernel
theorem dX2_find_9 : decode cX2_find 9 = .ok (.aaload, 1) := by decide +kernel
theorem dX2_find_10 : decode cX2_find 10 = .ok (.astore 5, 2) := by decide +kernel
theorem dX2_find_12 : decode cX2_find 12 = .ok (.aload 5, 2) := by decide +kernel
theorem dX2_find_14 : decode cX2_find 14 = .ok (.ifnull 32, 3) := by decide +kernel
theorem dX2_find_17 : decode cX2_find 17 = .ok (.aload 5, 2) := by decide +kernel
theorem dX2_find_19 : decode cX2_find 19 = .ok (.getfield 76, 3) := by decide +kernel
theorem dX2_find_22 : decode cX2_find 22 = .ok (.iload_n 3, 1) := by decide +kernel
theorem dX2_find_23 : decode cX2_find 23 = .ok (.if_icmp .gt 13, 3) := by decide +kernel
theorem dX2_find_26 : decode cX2_find 26 = .ok (.aload 5, 2) := by decide +kernel
theorem dX2_find_28 : decode cX2_find 28 = .ok (.getfield 73, 3) := by decide +kernel
theorem dX2_find_31 : decode cX2_find 31 = .ok (.iload 4, 2) := by decide +kernel
theorem dX2_find_33 : decode cX2_find 33 = .ok (.if_icmp .le 13, 3) := by decide +kernel
theorem dX2_find_36 : decode cX2_find 36 = .ok (.aload 5, 2) := by decide +kernel
theorem dX2_find_38 : decode cX2_find 38 = .ok (.getfield 87, 3) := by decide +kernel
theorem dX2_find_41 : decode cX2_find 41 = .ok (.astore 5, 2) := by decide +kernel
theorem dX2_find_43 : decode cX2_find 43 = .ok (.goto (-31), 3) := by decide +kernel
theorem dX2_find_46 : decode cX2_find 46 = .ok (.aload_n 0, 1) := by decide +kernel
theorem dX2_find_47 : decode cX2_find 47 = .ok (.aload 5, 2) := by decide +kernel
theorem dX2_find_49 : decode cX2_find 49 = .ok (.iload_n 3, 1) := by decide +kernel
theorem dX2_find_50 : decode cX2_find 50 = .ok (.invokevirtual 156, 3) := by decide +kernel
theorem dX2_find_53 : decode cX2_find 53 = .ok (.ireturn, 1) := by decide +kernel
set_option maxRecDepth 20000 in
theorem ggX2_tell_X2_placeOf : GoodIn wsX2_tell wsX2_placeOf := goodIn_r _ [6] (by decide +kernel) (by decide +kernel)
set_option maxRecDepth 20000 in
theorem gX2_tell_X2_placeOf : GoodIn wsX2_tell (va_wsS RX2 83 yX2_placeOf wsX2_placeOf) := goodIn_app (goodIn_of _ (by decide +kernel)) ggX2_tell_X2_placeOf
set_option maxRecDepth 20000 in
theorem ggX2_tell_X2_numberUnlessExpired : GoodIn wsX2_tell wsX2_numberUnlessExpired := goodIn_r _ [10, 11, 12, 13, 14, 24, 25, 26, 27, 28, 29, 30, 15, 16, 17, 18, 19, 20, 21, 22, 23] (by decide +kernel) (by decide +kernel)
set_option maxRecDepth 20000 in
theorem gX2_tell_X2_numberUnlessExpired : GoodIn wsX2_tell (wsV RX2 156 RX2 yX2_numberUnlessExpired wsX2_numberUnlessExpired) := goodIn_app (goodIn_of _ (by decide +kernel)) ggX2_tell_X2_numberUnlessExpired
theorem dX2_tell_0 : decode cX2_tell 0 = .ok (.aload_n 0, 1) := by decide +kernel
theorem dX2_tell_1 : decode cX2_tell 1 = .ok (.aload_n 0, 1) := by decide +kernel
theorem dX2_tell_2 : decode cX2_tell 2 = .ok (.getfield 22, 3) := by decide +kernel
theorem dX2_tell_5 : decode cX2_tell 5 = .ok (.iload_n 1, 1) := by decide +kernel
theorem dX2_tell_6 : decode cX2_tell 6 = .ok (.iload_n 2, 1) := by decide +kernel
theorem dX2_tell_7 : decode cX2_tell 7 = .ok (.invokestatic 83, 3) := by decide +kernel
theorem dX2_tell_10 : decode cX2_tell 10 = .ok (.aaload, 1) := by decide +kernel
theorem dX2_tell_11 : decode cX2_tell 11 = .ok (.aload_n 0, 1) := by decide +kernel
theorem dX2_tell_12 : decode cX2_tell 12 = .ok (.getfield 35, 3) := by decide +kernel
theorem dX2_tell_15 : decode cX2_tell 15 = .ok (.invokevirtual 156, 3) := by decide +kernel
theorem dX2_tell_18 : decode cX2_tell 18 = .ok (.ireturn, 1) := by decide +kernel
theorem dX2_numberUnlessExpired_0 : decode cX2_numberUnlessExpired 0 = .ok (.aload_n 1, 1) := by decide +kernel
theorem dX2_numberUnlessExpired_1 : decode cX2_numberUnlessExpired 1 = .ok (.ifnull 21, 3) := by decide +kernel
theorem dX2_numberUnlessExpired_4 : decode cX2_numberUnlessExpired 4 = .ok (.iload_n 2, 1) := by decide +kernel
theorem dX2_numberUnlessExpired_5 : decode cX2_numberUnlessExpired 5 = .ok (.aload_n 1, 1) := by decide +kernel
theorem dX2_numberUnlessExpired_6 : decode cX2_numberUnlessExpired 6 = .ok (.getfield 76, 3) := by decide +kernel
theorem dX2_numberUnlessExpired_9 : decode cX2_numberUnlessExpired 9 = .ok (.isub, 1) := by decide +kernel
theorem dX2_numberUnlessExpired_10 : decode cX2_numberUnlessExpired 10 = .ok (.aload_n 0, 1) := by decide +kernel
theorem dX2_numberUnlessExpired_11 : decode cX2_numberUnlessExpired 11 = .ok (.getfield 9, 3) := by decide +kernel
theorem dX2_numberUnlessExpired_14 : decode cX2_numberUnlessExpired 14 = .ok (.aload_n 1, 1) := by decide +kernel
theorem dX2_numberUnlessExpired_15 : decode cX2_numberUnlessExpired 15 = .ok (.getfield 154, 3) := by decide +kernel
theorem dX2_numberUnlessExpired_18 : decode cX2_numberUnlessExpired 18 = .ok (.iaload, 1) := by decide +kernel
theorem dX2_numberUnlessExpired_19 : decode cX2_numberUnlessExpired 19 = .ok (.if_icmp .le 5, 3) := by decide +kernel
theorem dX2_numberUnlessExpired_22 : decode cX2_numberUnlessExpired 22 = .ok (.iconst (-1), 1) := by decide +kernel
theorem dX2_numberUnlessExpired_23 : decode cX2_numberUnlessExpired 23 = .ok (.ireturn, 1) := by decide +kernel
theorem dX2_numberUnlessExpired_24 : decode cX2_numberUnlessExpired 24 = .ok (.aload_n 1, 1) := by decide +kernel
theorem dX2_numberUnlessExpired_25 : decode cX2_numberUnlessExpired 25 = .ok (.getfield 61, 3) := by decide +kernel
theorem dX2_numberUnlessExpired_28 : decode cX2_numberUnlessExpired 28 = .ok (.ireturn, 1) := by decide +kernel
set_option maxRecDepth 20000 in
theorem ggX2_takeIn_X2_placeOf : GoodIn wsX2_takeIn wsX2_placeOf := goodIn_r _ [8] (by decide +kernel) (by decide +kernel)
set_option maxRecDepth 20000 in
theorem gX2_takeIn_X2_placeOf : GoodIn wsX2_takeIn (va_wsS RX2 83 yX2_placeOf wsX2_placeOf) := goodIn_app (goodIn_of _ (by decide +kernel)) ggX2_takeIn_X2_placeOf
theorem dX2_takeIn_0 : decode cX2_takeIn 0 = .ok (.aload_n 1, 1) := by decide +kernel
theorem dX2_takeIn_1 : decode cX2_takeIn 1 = .ok (.getfield 154, 3) := by decide +kernel
theorem dX2_takeIn_4 : decode cX2_takeIn 4 = .ok (.aload_n 1, 1) := by decide +kernel
theorem dX2_takeIn_5 : decode cX2_takeIn 5 = .ok (.getfield 155, 3) := by decide +kernel
theorem dX2_takeIn_8 : decode cX2_takeIn 8 = .ok (.invokestatic 83, 3) := by decide +kernel
theorem dX2_takeIn_11 : decode cX2_takeIn 11 = .ok (.istore_n 2, 1) := by decide +kernel
theorem dX2_takeIn_12 : decode cX2_takeIn 12 = .ok (.aload_n 0, 1) := by decide +kernel
theorem dX2_takeIn_13 : decode cX2_takeIn 13 = .ok (.getfield 22, 3) := by decide +kernel
theorem dX2_takeIn_16 : decode cX2_takeIn 16 = .ok (.iload_n 2, 1) := by decide +kernel
theorem dX2_takeIn_17 : decode cX2_takeIn 17 = .ok (.aaload, 1) := by decide +kernel
theorem dX2_takeIn_18 : decode cX2_takeIn 18 = .ok (.astore_n 3, 1) := by decide +kernel
theorem dX2_takeIn_19 : decode cX2_takeIn 19 = .ok (.aload_n 3, 1) := by decide +kernel
theorem dX2_takeIn_20 : decode cX2_takeIn 20 = .ok (.ifnull 14, 3) := by decide +kernel
theorem dX2_takeIn_23 : decode cX2_takeIn 23 = .ok (.aload_n 3, 1) := by decide +kernel
theorem dX2_takeIn_24 : decode cX2_takeIn 24 = .ok (.getfield 76, 3) := by decide +kernel
theorem dX2_takeIn_27 : decode cX2_takeIn 27 = .ok (.aload_n 1, 1) := by decide +kernel
theorem dX2_takeIn_28 : decode cX2_takeIn 28 = .ok (.getfield 76, 3) := by decide +kernel
theorem dX2_takeIn_31 : decode cX2_takeIn 31 = .ok (.if_icmp .gt 10, 3) := by decide +kernel
theorem dX2_takeIn_34 : decode cX2_takeIn 34 = .ok (.aload_n 0, 1) := by decide +kernel
theorem dX2_takeIn_35 : decode cX2_takeIn 35 = .ok (.getfield 22, 3) := by decide +kernel
theorem dX2_takeIn_38 : decode cX2_takeIn 38 = .ok (.iload_n 2, 1) := by decide +kernel
theorem dX2_takeIn_39 : decode cX2_takeIn 39 = .ok (.aload_n 1, 1) := by decide +kernel
theorem dX2_takeIn_40 : decode cX2_takeIn 40 = .ok (.aastore, 1) := by decide +kernel
theorem dX2_takeIn_41 : decode cX2_takeIn 41 = .ok (.return_, 1) := by decide +kernel
theorem dX2_multiplesBelow_0 : decode cX2_multiplesBelow 0 = .ok (.iload_n 0, 1) := by decide +kernel
theorem dX2_multiplesBelow_1 : decode cX2_multiplesBelow 1 = .ok (.iload_n 1, 1) := by decide +kernel
theorem dX2_multiplesBelow_2 : decode cX2_multiplesBelow 2 = .ok (.iadd, 1) := by decide +kernel
theorem dX2_multiplesBelow_3 : decode cX2_multiplesBelow 3 = .ok (.iconst 1, 1) := by decide +kernel
theorem dX2_multiplesBelow_4 : decode cX2_multiplesBelow 4 = .ok (.isub, 1) := by decide +kernel
theorem dX2_multiplesBelow_5 : decode cX2_multiplesBelow 5 = .ok (.iload_n 1, 1) := by decide +kernel
theorem dX2_multiplesBelow_6 : decode cX2_multiplesBelow 6 = .ok (.idiv, 1) := by decide +kernel
theorem dX2_multiplesBelow_7 : decode cX2_multiplesBelow 7 = .ok (.ireturn, 1) := by decide +kernel
theorem dX3_init_0 : decode cX3_init 0 = .ok (.aload_n 0, 1) := by decide +kernel
theorem dX3_init_1 : decode cX3_init 1 = .ok (.invokespecial 1, 3) := by decide +kernel
theorem dX3_init_4 : decode cX3_init 4 = .ok (.aload_n 0, 1) := by decide +kernel
theorem dX3_init_5 : decode cX3_init 5 = .ok (.bipush 6, 2) := by decide +kernel
theorem dX3_init_7 : decode cX3_init 7 = .ok (.newarray .int, 2) := by decide +kernel
theorem dX3_init_9 : decode cX3_init 9 = .ok (.dup, 1) := by decide +kernel
theorem dX3_init_10 : decode cX3_init 10 = .ok (.iconst 0, 1) := by decide +kernel
theorem dX3_init_11 : decode cX3_init 11 = .ok (.sipush 10000, 3) := by decide +kernel
theorem dX3_init_14 : decode cX3_init 14 = .ok (.iastore, 1) := by decide +kernel
theorem dX3_init_15 : decode cX3_init 15 = .ok (.dup, 1) := by decide +kernel
theorem dX3_init_16 : decode cX3_init 16 = .ok (.iconst 1, 1) := by decide +kernel
theorem dX3_init_17 : decode cX3_init 17 = .ok (.sipush 10000, 3) := by decide +kernel
theorem dX3_init_20 : decode cX3_init 20 = .ok (.iastore, 1) := by decide +kernel
theorem dX3_init_21 : decode cX3_init 21 = .ok (.dup, 1) := by decide +kernel
theorem dX3_init_22 : decode cX3_init 22 = .ok (.iconst 2, 1) := by decide +kernel
theorem dX3_init_23 : decode cX3_init 23 = .ok (.sipush 10000, 3) := by decide +kernel
theorem dX3_init_26 : decode cX3_init 26 = .ok (.iastore, 1) := by decide +kernel
theorem dX3_init_27 : decode cX3_init 27 = .ok (.dup, 1) := by decide +kernel
theorem dX3_init_28 : decode cX3_init 28 = .ok (.iconst 3, 1) := by decide +kernel
theorem dX3_init_29 : decode cX3_init 29 = .ok (.sipush 10000, 3) := by decide +kernel
theorem dX3_init_32 : decode cX3_init 32 = .ok (.iastore, 1) := by decide +kernel
theorem dX3_init_33 : decode cX3_init 33 = .ok (.dup, 1) := by decide +kernel
theorem dX3_init_34 : decode cX3_init 34 = .ok (.iconst 4, 1) := by decide +kernel
theorem dX3_init_35 : decode cX3_init 35 = .ok (.sipush 10000, 3) := by decide +kernel
theorem dX3_init_38 : decode cX3_init 38 = .ok (.iastore, 1) := by decide +kernel
theorem dX3_init_39 : decode cX3_init 39 = .ok (.dup, 1) := by decide +kernel
theorem dX3_init_40 : decode cX3_init 40 = .ok (.iconst 5, 1) := by decide +kernel
theorem dX3_init_41 : decode cX3_init 41 = .ok (.sipush 10000, 3) := by decide +kernel
theorem dX3_init_44 : decode cX3_init 44 = .ok (.iastore, 1) := by decide +kernel
theorem dX3_init_45 : decode cX3_init 45 = .ok (.putfield 7, 3) := by decide +kernel
theorem dX3_init_48 : decode cX3_init 48 = .ok (.aload_n 0, 1) := by decide +kernel
theorem dX3_init_49 : decode cX3_init 49 = .ok (.sipush 200, 3) := by decide +kernel
theorem dX3_init_52 : decode cX3_init 52 = .ok (.newarray .int, 2) := by decide +kernel
theorem dX3_init_54 : decode cX3_init 54 = .ok (.putfield 13, 3) := by decide +kernel
theorem dX3_init_57 : decode cX3_init 57 = .ok (.aload_n 0, 1) := by decide +kernel
theorem dX3_init_58 : decode cX3_init 58 = .ok (.sipush 200, 3) := by decide +kernel
theorem dX3_init_61 : decode cX3_init 61 = .ok (.newarray .int, 2) := by decide +kernel
theorem dX3_init_63 : decode cX3_init 63 = .ok (.putfield 16, 3) := by decide +kernel
theorem dX3_init_66 : decode cX3_init 66 = .ok (.aload_n 0, 1) := by decide +kernel
theorem dX3_init_67 : decode cX3_init 67 = .ok (.sipush 200, 3) := by decide +kernel
theorem dX3_init_70 : decode cX3_init 70 = .ok (.newarray .int, 2) := by decide +kernel
theorem dX3_init_72 : decode cX3_init 72 = .ok (.putfield 19, 3) := by decide +kernel
theorem dX3_init_75 : decode cX3_init 75 = .ok (.aload_n 0, 1) := by decide +kernel
theorem dX3_init_76 : decode cX3_init 76 = .ok (.sipush 200, 3) := by decide +kernel
theorem dX3_init_79 : decode cX3_init 79 = .ok (.newarray .int, 2) := by decide +kernel
theorem dX3_init_81 : decode cX3_init 81 = .ok (.putfield 22, 3) := by decide +kernel
theorem dX3_init_84 : decode cX3_init 84 = .ok (.aload_n 0, 1) := by decide +kernel
theorem dX3_init_85 : decode cX3_init 85 = .ok (.bipush 60, 2) := by decide +kernel
theorem dX3_init_87 : decode cX3_init 87 = .ok (.newarray .int, 2) := by decide +kernel
theorem dX3_init_89 : decode cX3_init 89 = .ok (.putfield 25, 3) := by decide +kernel
theorem dX3_init_92 : decode cX3_init 92 = .ok (.aload_n 0, 1) := by decide +kernel
theorem dX3_init_93 : decode cX3_init 93 = .ok (.sipush 200, 3) := by decide +kernel
theorem dX3_init_96 : decode cX3_init 96 = .ok (.newarray .int, 2) := by decide +kernel
theorem dX3_init_98 : decode cX3_init 98 = .ok (.putfield 28, 3) := by decide +kernel
theorem dX3_init_101 : decode cX3_init 101 = .ok (.aload_n 0, 1) := by decide +kernel
theorem dX3_init_102 : decode cX3_init 102 = .ok (.sipush 200, 3) := by decide +kernel
theorem dX3_init_105 : decode cX3_init 105 = .ok (.newarray .int, 2) := by decide +kernel
theorem dX3_init_107 : decode cX3_init 107 = .ok (.putfield 31, 3) := by decide +kernel
theorem dX3_init_110 : decode cX3_init 110 = .ok (.aload_n 0, 1) := by decide +kernel
theorem dX3_init_111 : decode cX3_init 111 = .ok (.sipush 200, 3) := by decide +kernel
theorem dX3_init_114 : decode cX3_init 114 = .ok (.newarray .int, 2) := by decide +kernel
theorem dX3_init_116 : decode cX3_init 116 = .ok (.putfield 34, 3) := by decide +kernel
theorem dX3_init_119 : decode cX3_init 119 = .ok (.return_, 1) := by decide +kernel
theorem dX3_thrown_0 : decode cX3_thrown 0 = .ok (.aload_n 0, 1) := by decide +kernel
theorem dX3_thrown_1 : decode cX3_thrown 1 = .ok (.getfield 37, 3) := by decide +kernel
theorem dX3_thrown_4 : decode cX3_thrown 4 = .ok (.ireturn, 1) := by decide +kernel
theorem dX3_in_0 : decode cX3_in 0 = .ok (.iload_n 0, 1) := by decide +kernel
theorem dX3_in_1 : decode cX3_in 1 = .ok (.iload_n 1, 1) := by decide +kernel
theorem dX3_in_2 : decode cX3_in 2 = .ok (.if_icmp .lt 12, 3) := by decide +kernel
theorem dX3_in_5 : decode cX3_in 5 = .ok (.iload_n 0, 1) := by decide +kernel
theorem dX3_in_6 : decode cX3_in 6 = .ok (.iload_n 2, 1) := by decide +kernel
theorem dX3_in_7 : decode cX3_in 7 = .ok (.if_icmp .gt 7, 3) := by decide +kernel
theorem dX3_in_10 : decode cX3_in 10 = .ok (.iconst 1, 1) := by decide +kernel
theorem dX3_in_11 : decode cX3_in 11 = .ok (.goto 4, 3) := by decide +kernel
theorem dX3_in_14 : decode cX3_in 14 = .ok (.iconst 0, 1) := by decide +kernel
theorem dX3_in_15 : decode cX3_in 15 = .ok (.ireturn, 1) := by decide +kernel
set_option maxRecDepth 20000 in
theorem ggX3_isPair_X3_in : GoodIn wsX3_isPair wsX3_in := goodIn_r _ [4] (by decide +kernel) (by decide +kernel)
set_option maxRecDepth 20000 in
theorem gX3_isPair_X3_in : GoodIn wsX3_isPair (va_wsS RX3 41 yX3_in wsX3_in) := goodIn_app (goodIn_of _ (by decide +kernel)) ggX3_isPair_X3_in
theorem dX3_isPair_0 : decode cX3_isPair 0 = .ok (.iload_n 0, 1) := by decide +kernel
theorem dX3_isPair_1 : decode cX3_isPair 1 = .ok (.iconst 0, 1) := by decide +kernel
theorem dX3_isPair_2 : decode cX3_isPair 2 = .ok (.iconst 5, 1) := by decide +kernel
theorem dX3_isPair_3 : decode cX3_isPair 3 = .ok (.invokestatic 41, 3) := by decide +kernel
theorem dX3_isPair_6 : decode cX3_isPair 6 = .ok (.ifCond .eq 17, 3) := by decide +kernel
theorem dX3_isPair_9 : decode cX3_isPair 9 = .ok (.iload_n 1, 1) := by decide +kernel
theorem dX3_isPair_10 : decode cX3_isPair 10 = .ok (.iconst 0, 1) := by decide +kernel
theorem dX3_isPair_11 : decode cX3_isPair 11 = .ok (.bipush 9, 2) := by decide +kernel
theorem dX3_isPair_13 : decode cX3_isPair 13 = .ok (.invokestatic 41, 3) := by decide +kernel
theorem dX3_isPair_16 : decode cX3_isPair 16 = .ok (.ifCond .eq 7, 3) := by decide +kernel
theorem dX3_isPair_19 : decode cX3_isPair 19 = .ok (.iconst 1, 1) := by decide +kernel
theorem dX3_isPair_20 : decode cX3_isPair 20 = .ok (.goto 4, 3) := by decide +kernel
theorem dX3_isPair_23 : decode cX3_isPair 23 = .ok (.iconst 0, 1) := by decide +kernel
theorem dX3_isPair_24 : decode cX3_isPair 24 = .ok (.ireturn, 1) := by decide +kernel
theorem dX3_pairOf_0 : decode cX3_pairOf 0 = .ok (.bipush 10, 2) := by decide +kernel
theorem dX3_pairOf_2 : decode cX3_pairOf 2 = .ok (.iload_n 0, 1) := by decide +kernel
theorem dX3_pairOf_3 : decode cX3_pairOf 3 = .ok (.imul, 1) := by decide +kernel
theorem dX3_pairOf_4 : decode cX3_pairOf 4 = .ok (.iload_n 1, 1) := by decide +kernel
theorem dX3_pairOf_5 : decode cX3_pairOf 5 = .ok (.iadd, 1) := by decide +kernel
theorem dX3_pairOf_6 : decode cX3_pairOf 6 = .ok (.ireturn, 1) := by decide +kernel
set_option maxRecDepth 20000 in
theorem ggX3_arrive_X3_isPair : GoodIn wsX3_arrive wsX3_isPair := goodIn_r _ [12, 13, 14, 11, 15] (by decide +kernel) (by decide +kernel)
set_option maxRecDepth 20000 in
theorem gX3_arrive_X3_isPair : GoodIn wsX3_arrive (va_wsS RX3 45 yX3_isPair wsX3_isPair) := goodIn_app (goodIn_of _ (by decide +kernel)) ggX3_arrive_X3_isPair
set_option maxRecDepth 20000 in
theorem ggX3_arrive_X3_in : GoodIn wsX3_arrive wsX3_in := goodIn_r _ [15] (by decide +kernel) (by decide +kernel)
set_option maxRecDepth 20000 in
theorem gX3_arrive_X3_in : GoodIn wsX3_arrive (va_wsS RX3 41 yX3_in wsX3_in) := goodIn_app (goodIn_of _ (by decide +kernel)) ggX3_arrive_X3_in
set_option maxRecDepth 20000 in
theorem ggX3_arrive_X3_pairOf : GoodIn wsX3_arrive wsX3_pairOf := goodIn_r _ [18] (by decide +kernel) (by decide +kernel)
set_option maxRecDepth 20000 in
theorem gX3_arrive_X3_pairOf : GoodIn wsX3_arrive (va_wsS RX3 56 yX3_pairOf wsX3_pairOf) := goodIn_app (goodIn_of _ (by decide +kernel)) ggX3_arrive_X3_pairOf
theorem dX3_arrive_0 : decode cX3_arrive 0 = .ok (.iload_n 1, 1) := by decide +kernel
theorem dX3_arrive_1 : decode cX3_arrive 1 = .ok (.iload_n 2, 1) := by decide +kernel
theorem dX3_arrive_2 : decode cX3_arrive 2 = .ok (.invokestatic 45, 3) := by decide +kernel
theorem dX3_arrive_5 : decode cX3_arrive 5 = .ok (.ifCond .eq 30, 3) := by decide +kernel
theorem dX3_arrive_8 : decode cX3_arrive 8 = .ok (.iload_n 3, 1) := by decide +kernel
theorem dX3_arrive_9 : decode cX3_arrive 9 = .ok (.iconst 0, 1) := by decide +kernel
theorem dX3_arrive_10 : decode cX3_arrive 10 = .ok (.aload_n 0, 1) := by decide +kernel
theorem dX3_arrive_11 : decode cX3_arrive 11 = .ok (.getfield 49, 3) := by decide +kernel
theorem dX3_arrive_14 : decode cX3_arrive 14 = .ok (.invokestatic 41, 3) := by decide +kernel
theorem dX3_arrive_17 : decode cX3_arrive 17 = .ok (.ifCond .eq 18, 3) := by decide +kernel
theorem dX3_arrive_20 : decode cX3_arrive 20 = .ok (.iload 4, 2) := by decide +kernel
theorem dX3_arrive_22 : decode cX3_arrive 22 = .ok (.iconst 0, 1) := by decide +kernel
theorem dX3_arrive_23 : decode cX3_arrive 23 = .ok (.ldc 52, 2) := by decide +kernel
theorem dX3_arrive_25 : decode cX3_arrive 25 = .ok (.invokestatic 41, 3) := by decide +kernel
theorem dX3_arrive_28 : decode cX3_arrive 28 = .ok (.ifCond .eq 7, 3) := by decide +kernel
theorem dX3_arrive_31 : decode cX3_arrive 31 = .ok (.iconst 1, 1) := by decide +kernel
theorem dX3_arrive_32 : decode cX3_arrive 32 = .ok (.goto 4, 3) := by decide +kernel
theorem dX3_arrive_35 : decode cX3_arrive 35 = .ok (.iconst 0, 1) := by decide +kernel
theorem dX3_arrive_36 : decode cX3_arrive 36 = .ok (.istore 5, 2) := by decide +kernel
theorem dX3_arrive_38 : decode cX3_arrive 38 = .ok (.aload_n 0, 1) := by decide +kernel
theorem dX3_arrive_39 : decode cX3_arrive 39 = .ok (.iload 5, 2) := by decide +kernel
theorem dX3_arrive_41 : decode cX3_arrive 41 = .ok (.ifCond .ne 7, 3) := by decide +kernel
theorem dX3_arrive_44 : decode cX3_arrive 44 = .ok (.iconst 1, 1) := by decide +kernel
theorem dX3_arrive_45 : decode cX3_arrive 45 = .ok (.goto 18, 3) := by decide +kernel
theorem dX3_arrive_48 : decode cX3_arrive 48 = .ok (.aload_n 0, 1) := by decide +kernel
theorem dX3_arrive_49 : decode cX3_arrive 49 = .ok (.getfield 53, 3) := by decide +kernel
theorem dX3_arrive_52 : decode cX3_arrive 52 = .ok (.sipush 200, 3) := by decide +kernel
theorem dX3_arrive_55 : decode cX3_arrive 55 = .ok (.if_icmp .ne 7, 3) := by decide +kernel
theorem dX3_arrive_58 : decode cX3_arrive 58 = .ok (.iconst 2, 1) := by decide +kernel
theorem dX3_arrive_59 : decode cX3_arrive 59 = .ok (.goto 4, 3) := by decide +kernel
theorem dX3_arrive_62 : decode cX3_arrive 62 = .ok (.iconst 0, 1) := by decide +kernel
theorem dX3_arrive_63 : decode cX3_arrive 63 = .ok (.putfield 37, 3) := by decide +kernel
theorem dX3_arrive_66 : decode cX3_arrive 66 = .ok (.aload_n 0, 1) := by decide +kernel
theorem dX3_arrive_67 : decode cX3_arrive 67 = .ok (.getfield 37, 3) := by decide +kernel
theorem dX3_arrive_70 : decode cX3_arrive 70 = .ok (.ifCond .le 5, 3) := by decide +kernel
theorem dX3_arrive_73 : decode cX3_arrive 73 = .ok (.iconst 0, 1) := by decide +kernel
theorem dX3_arrive_74 : decode cX3_arrive 74 = .ok (.ireturn, 1) := by decide +kernel
theorem dX3_arrive_75 : decode cX3_arrive 75 = .ok (.aload_n 0, 1) := by decide +kernel
theorem dX3_arrive_76 : decode cX3_arrive 76 = .ok (.getfield 13, 3) := by decide +kernel
theorem dX3_arrive_79 : decode cX3_arrive 79 = .ok (.aload_n 0, 1) := by decide +kernel
theorem dX3_arrive_80 : decode cX3_arrive 80 = .ok (.getfield 53, 3) := by decide +kernel
theorem dX3_arrive_83 : decode cX3_arrive 83 = .ok (.iload_n 1, 1) := by decide +kernel
theorem dX3_arrive_84 : decode cX3_arrive 84 = .ok (.iload_n 2, 1) := by decide +kernel
theorem dX3_arrive_85 : decode cX3_arrive 85 = .ok (.invokestatic 56, 3) := by decide +kernel
theorem dX3_arrive_88 : decode cX3_arrive 88 = .ok (.iastore, 1) := by decide +kernel
theorem dX3_arrive_89 : decode cX3_arrive 89 = .ok (.aload_n 0, 1) := by decide +kernel
theorem dX3_arrive_90 : decode cX3_arrive 90 = .ok (.getfield 16, 3) := by decide +kernel
theorem dX3_arrive_93 : decode cX3_arrive 93 = .ok (.aload_n 0, 1) := by decide +kernel
theorem dX3_arrive_94 : decode cX3_arrive 94 = .ok (.getfield 53, 3) := by decide +kernel
theorem dX3_arrive_97 : decode cX3_arrive 97 = .ok (.iload_n 3, 1) := by decide +kernel
theorem dX3_arrive_98 : decode cX3_arrive 98 = .ok (.iastore, 1) := by decide +kernel
theorem dX3_arrive_99 : decode cX3_arrive 99 = .ok (.aload_n 0, 1) := by decide +kernel
theorem dX3_arrive_100 : decode cX3_arrive 100 = .ok (.getfield 19, 3) := by decide +kernel
theorem dX3_arrive_103 : decode cX3_arrive 103 = .ok (.aload_n 0, 1) := by decide +kernel
theorem dX3_arrive_104 : decode cX3_arrive 104 = .ok (.getfield 53, 3) := by decide +kernel
theorem dX3_arrive_107 : decode cX3_arrive 107 = .ok (.aload_n 0, 1) := by decide +kernel
theorem dX3_arrive_108 : decode cX3_arrive 108 = .ok (.getfield 49, 3) := by decide +kernel
theorem dX3_arrive_111 : decode cX3_arrive 111 = .ok (.iastore, 1) := by decide +kernel
theorem dX3_arrive_112 : decode cX3_arrive 112 = .ok (.aload_n 0, 1) := by decide +kernel
theorem dX3_arrive_113 : decode cX3_arrive 113 = .ok (.getfield 22, 3) := by decide +kernel
theorem dX3_arrive_116 : decode cX3_arrive 116 = .ok (.aload_n 0, 1) := by decide +kernel
theorem dX3_arrive_117 : decode cX3_arrive 117 = .ok (.getfield 53, 3) := by decide +kernel
theorem dX3_arrive_120 : decode cX3_arrive 120 = .ok (.iload 4, 2) := by decide +kernel
theorem dX3_arrive_122 : decode cX3_arrive 122 = .ok (.iastore, 1) := by decide +kernel
theorem dX3_arrive_123 : decode cX3_arrive 123 = .ok (.aload_n 0, 1) := by decide +kernel
theorem dX3_arrive_124 : decode cX3_arrive 124 = .ok (.dup, 1) := by decide +kernel
theorem dX3_arrive_125 : decode cX3_arrive 125 = .ok (.getfield 53, 3) := by decide +kernel
theorem dX3_arrive_128 : decode cX3_arrive 128 = .ok (.iconst 1, 1) := by decide +kernel
theorem dX3_arrive_129 : decode cX3_arrive 129 = .ok (.iadd, 1) := by decide +kernel
theorem dX3_arrive_130 : decode cX3_arrive 130 = .ok (.putfield 53, 3) := by decide +kernel
theorem dX3_arrive_133 : decode cX3_arrive 133 = .ok (.aload_n 0, 1) := by decide +kernel
theorem dX3_arrive_134 : decode cX3_arrive 134 = .ok (.getfield 53, 3) := by decide +kernel
theorem dX3_arrive_137 : decode cX3_arrive 137 = .ok (.iconst 1, 1) := by decide +kernel
theorem dX3_arrive_138 : decode cX3_arrive 138 = .ok (.isub, 1) := by decide +kernel
theorem dX3_arrive_139 : decode cX3_arrive 139 = .ok (.ireturn, 1) := by decide +kernel
set_option maxRecDepth 20000 in
theorem ggX3_pass_X3_in : GoodIn wsX3_pass wsX3_in := goodIn_r _ [6] (by decide +kernel) (by decide +kernel)
set_option maxRecDepth 20000 in
theorem gX3_pass_X3_in : GoodIn wsX3_pass (va_wsS RX3 41 yX3_in wsX3_in) := goodIn_app (goodIn_of _ (by decide +kernel)) ggX3_pass_X3_in
theorem dX3_pass_0 : decode cX3_pass 0 = .ok (.aload_n 0, 1) := by decide +kernel
theorem dX3_pass_1 : decode cX3_pass 1 = .ok (.iload_n 1, 1) := by decide +kernel
theorem dX3_pass_2 : decode cX3_pass 2 = .ok (.iconst 1, 1) := by decide +kernel
theorem dX3_pass_3 : decode cX3_pass 3 = .ok (.sipush 10000, 3) := by decide +kernel
theorem dX3_pass_6 : decode cX3_pass 6 = .ok (.invokestatic 41, 3) := by decide +kernel
theorem dX3_pass_9 : decode cX3_pass 9 = .ok (.ifCond .ne 7, 3) := by decide +kernel
theorem dX3_pass_12 : decode cX3_pass 12 = .ok (.iconst 1, 1) := by decide +kernel
theorem dX3_pass_13 : decode cX3_pass 13 = .ok (.goto 20, 3) := by decide +kernel
theorem dX3_pass_16 : decode cX3_pass 16 = .ok (.aload_n 0, 1) := by decide +kernel
theorem dX3_pass_17 : decode cX3_pass 17 = .ok (.getfield 49, 3) := by decide +kernel
theorem dX3_pass_20 : decode cX3_pass 20 = .ok (.iload_n 1, 1) := by decide +kernel
theorem dX3_pass_21 : decode cX3_pass 21 = .ok (.iadd, 1) := by decide +kernel
theorem dX3_pass_22 : decode cX3_pass 22 = .ok (.sipush 10000, 3) := by decide +kernel
theorem dX3_pass_25 : decode cX3_pass 25 = .ok (.if_icmp .le 7, 3) := by decide +kernel
theorem dX3_pass_28 : decode cX3_pass 28 = .ok (.iconst 2, 1) := by decide +kernel
theorem dX3_pass_29 : decode cX3_pass 29 = .ok (.goto 4, 3) := by decide +kernel
theorem dX3_pass_32 : decode cX3_pass 32 = .ok (.iconst 0, 1) := by decide +kernel
theorem dX3_pass_33 : decode cX3_pass 33 = .ok (.putfield 37, 3) := by decide +kernel
theorem dX3_pass_36 : decode cX3_pass 36 = .ok (.aload_n 0, 1) := by decide +kernel
theorem dX3_pass_37 : decode cX3_pass 37 = .ok (.getfield 37, 3) := by decide +kernel
theorem dX3_pass_40 : decode cX3_pass 40 = .ok (.ifCond .le 5, 3) := by decide +kernel
theorem dX3_pass_43 : decode cX3_pass 43 = .ok (.iconst 0, 1) := by decide +kernel
theorem dX3_pass_44 : decode cX3_pass 44 = .ok (.ireturn, 1) := by decide +kernel
theorem dX3_pass_45 : decode cX3_pass 45 = .ok (.aload_n 0, 1) := by decide +kernel
theorem dX3_pass_46 : decode cX3_pass 46 = .ok (.dup, 1) := by decide +kernel
theorem dX3_pass_47 : decode cX3_pass 47 = .ok (.getfield 49, 3) := by decide +kernel
theorem dX3_pass_50 : decode cX3_pass 50 = .ok (.iload_n 1, 1) := by decide +kernel
theorem dX3_pass_51 : decode cX3_pass 51 = .ok (.iadd, 1) := by decide +kernel
theorem dX3_pass_52 : decode cX3_pass 52 = .ok (.putfield 49, 3) := by decide +kernel
theorem dX3_pass_55 : decode cX3_pass 55 = .ok (.aload_n 0, 1) := by decide +kernel
theorem dX3_pass_56 : decode cX3_pass 56 = .ok (.getfield 49, 3) := by decide +kernel
theorem dX3_pass_59 : decode cX3_pass 59 = .ok (.ireturn, 1) := by decide +kernel
set_option maxRecDepth 20000 in
theorem ggX3_setLifetime_X3_in : GoodIn wsX3_setLifetime wsX3_in := goodIn_r _ [6] (by decide +kernel) (by decide +kernel)
set_option maxRecDepth 20000 in
theorem gX3_setLifetime_X3_in : GoodIn wsX3_setLifetime (va_wsS RX3 41 yX3_in wsX3_in) := goodIn_app (goodIn_of _ (by decide +kernel)) ggX3_setLifetime_X3_in
theorem dX3_setLifetime_0 : decode cX3_setLifetime 0 = .ok (.aload_n 0, 1) := by decide +kernel
theorem dX3_setLifetime_1 : decode cX3_setLifetime 1 = .ok (.iload_n 1, 1) := by decide +kernel
theorem dX3_setLifetime_2 : decode cX3_setLifetime 2 = .ok (.iconst 0, 1) := by decide +kernel
theorem dX3_setLifetime_3 : decode cX3_setLifetime 3 = .ok (.iconst 5, 1) := by decide +kernel
theorem dX3_setLifetime_4 : decode cX3_setLifetime 4 = .ok (.invokestatic 41, 3) := by decide +kernel
theorem dX3_setLifetime_7 : decode cX3_setLifetime 7 = .ok (.ifCond .eq 18, 3) := by decide +kernel
theorem dX3_setLifetime_10 : decode cX3_setLifetime 10 = .ok (.iload_n 2, 1) := by decide +kernel
theorem dX3_setLifetime_11 : decode cX3_setLifetime 11 = .ok (.iconst 0, 1) := by decide +kernel
theorem dX3_setLifetime_12 : decode cX3_setLifetime 12 = .ok (.sipush 10000, 3) := by decide +kernel
theorem dX3_setLifetime_15 : decode cX3_setLifetime 15 = .ok (.invokestatic 41, 3) := by decide +kernel
theorem dX3_setLifetime_18 : decode cX3_setLifetime 18 = .ok (.ifCond .eq 7, 3) := by decide +kernel
theorem dX3_setLifetime_21 : decode cX3_setLifetime 21 = .ok (.iconst 0, 1) := by decide +kernel
theorem dX3_setLifetime_22 : decode cX3_setLifetime 22 = .ok (.goto 4, 3) := by decide +kernel
theorem dX3_setLifetime_25 : decode cX3_setLifetime 25 = .ok (.iconst 1, 1) := by decide +kernel
theorem dX3_setLifetime_26 : decode cX3_setLifetime 26 = .ok (.putfield 37, 3) := by decide +kernel
theorem dX3_setLifetime_29 : decode cX3_setLifetime 29 = .ok (.aload_n 0, 1) := by decide +kernel
theorem dX3_setLifetime_30 : decode cX3_setLifetime 30 = .ok (.getfield 37, 3) := by decide +kernel
theorem dX3_setLifetime_33 : decode cX3_setLifetime 33 = .ok (.ifCond .le 5, 3) := by decide +kernel
theorem dX3_setLifetime_36 : decode cX3_setLifetime 36 = .ok (.iconst 0, 1) := by decide +kernel
theorem dX3_setLifetime_37 : decode cX3_setLifetime 37 = .ok (.ireturn, 1) := by decide +kernel
theorem dX3_setLifetime_38 : decode cX3_setLifetime 38 = .ok (.aload_n 0, 1) := by decide +kernel
theorem dX3_setLifetime_39 : decode cX3_setLifetime 39 = .ok (.getfield 7, 3) := by decide +kernel
theorem dX3_setLifetime_42 : decode cX3_setLifetime 42 = .ok (.iload_n 1, 1) := by decide +kernel
theorem dX3_setLifetime_43 : decode cX3_setLifetime 43 = .ok (.iaload, 1) := by decide +kernel
theorem dX3_setLifetime_44 : decode cX3_setLifetime 44 = .ok (.istore_n 3, 1) := by decide +kernel
theorem dX3_setLifetime_45 : decode cX3_setLifetime 45 = .ok (.aload_n 0, 1) := by decide +kernel
theorem dX3_setLifetime_46 : decode cX3_setLifetime 46 = .ok (.getfield 7, 3) := by decide +kernel
theorem dX3_setLifetime_49 : decode cX3_setLifetime 49 = .ok (.iload_n 1, 1) := by decide +kernel
theorem dX3_setLifetime_50 : decode cX3_setLifetime 50 = .ok (.iload_n 2, 1) := by decide +kernel
theorem dX3_setLifetime_51 : decode cX3_setLifetime 51 = .ok (.iastore, 1) := by decide +kernel
theorem dX3_setLifetime_52 : decode cX3_setLifetime 52 = .ok (.iload_n 3, 1) := by decide +kernel
theorem dX3_setLifetime_53 : decode cX3_setLifetime 53 = .ok (.ireturn, 1) := by decide +kernel
theorem dX3_now_0 : decode cX3_now 0 = .ok (.aload_n 0, 1) := by decide +kernel
theorem dX3_now_1 : decode cX3_now 1 = .ok (.iconst 0, 1) := by decide +kernel
theorem dX3_now_2 : decode cX3_now 2 = .ok (.putfield 37, 3) := by decide +kernel
theorem dX3_now_5 : decode cX3_now 5 = .ok (.aload_n 0, 1) := by decide +kernel
theorem dX3_now_6 : decode cX3_now 6 = .ok (.getfield 49, 3) := by decide +kernel
theorem dX3_now_9 : decode cX3_now 9 = .ok (.ireturn, 1) := by decide +kernel
theorem dX3_rows_0 : decode cX3_rows 0 = .ok (.aload_n 0, 1) := by decide +kernel
theorem dX3_rows_1 : decode cX3_rows 1 = .ok (.iconst 0, 1) := by decide +kernel
theorem dX3_rows_2 : decode cX3_rows 2 = .ok (.putfield 37, 3) := by decide +kernel
theorem dX3_rows_5 : decode cX3_rows 5 = .ok (.aload_n 0, 1) := by decide +kernel
theorem dX3_rows_6 : decode cX3_rows 6 = .ok (.getfield 53, 3) := by decide +kernel
theorem dX3_rows_9 : decode cX3_rows 9 = .ok (.ireturn, 1) := by decide +kernel
set_option maxRecDepth 20000 in
theorem ggX3_asksRow_X3_in : GoodIn wsX3_asksRow wsX3_in := goodIn_r _ [6] (by decide +kernel) (by decide +kernel)
set_option maxRecDepth 20000 in
theorem gX3_asksRow_X3_in : GoodIn wsX3_asksRow (va_wsS RX3 41 yX3_in wsX3_in) := goodIn_app (goodIn_of _ (by decide +kernel)) ggX3_asksRow_X3_in
theorem dX3_asksRow_0 : decode cX3_asksRow 0 = .ok (.aload_n 0, 1) := by decide +kernel
theorem dX3_asksRow_1 : decode cX3_asksRow 1 = .ok (.iload_n 1, 1) := by decide +kernel
theorem dX3_asksRow_2 : decode cX3_asksRow 2 = .ok (.iconst 0, 1) := by decide +kernel
theorem dX3_asksRow_3 : decode cX3_asksRow 3 = .ok (.aload_n 0, 1) := by decide +kernel
theorem dX3_asksRow_4 : decode cX3_asksRow 4 = .ok (.getfield 53, 3) := by decide +kernel
theorem dX3_asksRow_7 : decode cX3_asksRow 7 = .ok (.iconst 1, 1) := by decide +kernel
theorem dX3_asksRow_8 : decode cX3_asksRow 8 = .ok (.isub, 1) := by decide +kernel
theorem dX3_asksRow_9 : decode cX3_asksRow 9 = .ok (.invokestatic 41, 3) := by decide +kernel
theorem dX3_asksRow_12 : decode cX3_asksRow 12 = .ok (.ifCond .eq 7, 3) := by decide +kernel
theorem dX3_asksRow_15 : decode cX3_asksRow 15 = .ok (.iconst 0, 1) := by decide +kernel
theorem dX3_asksRow_16 : decode cX3_asksRow 16 = .ok (.goto 4, 3) := by decide +kernel
theorem dX3_asksRow_19 : decode cX3_asksRow 19 = .ok (.iconst 1, 1) := by decide +kernel
theorem dX3_asksRow_20 : decode cX3_asksRow 20 = .ok (.putfield 37, 3) := by decide +kernel
theorem dX3_asksRow_23 : decode cX3_asksRow 23 = .ok (.aload_n 0, 1) := by decide +kernel
theorem dX3_asksRow_24 : decode cX3_asksRow 24 = .ok (.getfield 37, 3) := by decide +kernel
theorem dX3_asksRow_27 : decode cX3_asksRow 27 = .ok (.ifCond .ne 7, 3) := by decide +kernel
theorem dX3_asksRow_30 : decode cX3_asksRow 30 = .ok (.iconst 1, 1) := by decide +kernel
theorem dX3_asksRow_31 : decode cX3_asksRow 31 = .ok (.goto 4, 3) := by decide +kernel
theorem dX3_asksRow_34 : decode cX3_asksRow 34 = .ok (.iconst 0, 1) := by decide +kernel
theorem dX3_asksRow_35 : decode cX3_asksRow 35 = .ok (.ireturn, 1) := by decide +kernel
set_option maxRecDepth 20000 in
theorem ggX3_value_X3_asksRow : GoodIn wsX3_value wsX3_asksRow := goodIn_r _ [6, 7, 8, 9, 10, 5, 11, 12, 13, 14, 15, 16, 17, 18, 19, 20, 21, 22, 23, 24, 25] (by decide +kernel) (by decide +kernel)
set_option maxRecDepth 20000 in
theorem gX3_value_X3_asksRow : GoodIn wsX3_value (wsV RX3 60 RX3 yX3_asksRow wsX3_asksRow) := goodIn_app (goodIn_of _ (by decide +kernel)) ggX3_value_X3_asksRow
theorem dX3_value_0 : decode cX3_value 0 = .ok (.aload_n 0, 1) := by decide +kernel
theorem dX3_value_1 : decode cX3_value 1 = .ok (.iload_n 1, 1) := by decide +kernel
theorem dX3_value_2 : decode cX3_value 2 = .ok (.invokevirtual 60, 3) := by decide +kernel
theorem dX3_value_5 : decode cX3_value 5 = .ok (.ifCond .eq 12, 3) := by decide +kernel
theorem dX3_value_8 : decode cX3_value 8 = .ok (.aload_n 0, 1) := by decide +kernel
theorem dX3_value_9 : decode cX3_value 9 = .ok (.getfield 22, 3) := by decide +kernel
theorem dX3_value_12 : decode cX3_value 12 = .ok (.iload_n 1, 1) := by decide +kernel
theorem dX3_value_13 : decode cX3_value 13 = .ok (.iaload, 1) := by decide +kernel
theorem dX3_value_14 : decode cX3_value 14 = .ok (.goto 4, 3) := by decide +kernel
theorem dX3_value_17 : decode cX3_value 17 = .ok (.iconst 0, 1) := by decide +kernel
theorem dX3_value_18 : decode cX3_value 18 = .ok (.ireturn, 1) := by decide +kernel
set_option maxRecDepth 20000 in
theorem ggX3_late_X3_asksRow : GoodIn wsX3_late wsX3_asksRow := goodIn_r _ [7, 8, 9, 10, 11, 6, 12, 13, 14, 15, 16, 17, 18, 19, 20, 21, 22, 23, 24, 25, 26] (by decide +kernel) (by decide +kernel)
set_option maxRecDepth 20000 in
theorem gX3_late_X3_asksRow : GoodIn wsX3_late (wsV RX3 60 RX3 yX3_asksRow wsX3_asksRow) := goodIn_app (goodIn_of _ (by decide +kernel)) ggX3_late_X3_asksRow
theorem dX3_late_0 : decode cX3_late 0 = .ok (.aload_n 0, 1) := by decide +kernel
theorem dX3_late_1 : decode cX3_late 1 = .ok (.iload_n 1, 1) := by decide +kernel
theorem dX3_late_2 : decode cX3_late 2 = .ok (.invokevirtual 60, 3) := by decide +kernel
theorem dX3_late_5 : decode cX3_late 5 = .ok (.ifCond .eq 19, 3) := by decide +kernel
theorem dX3_late_8 : decode cX3_late 8 = .ok (.aload_n 0, 1) := by decide +kernel
theorem dX3_late_9 : decode cX3_late 9 = .ok (.getfield 19, 3) := by decide +kernel
theorem dX3_late_12 : decode cX3_late 12 = .ok (.iload_n 1, 1) := by decide +kernel
theorem dX3_late_13 : decode cX3_late 13 = .ok (.iaload, 1) := by decide +kernel
theorem dX3_late_14 : decode cX3_late 14 = .ok (.aload_n 0, 1) := by decide +kernel
theorem dX3_late_15 : decode cX3_late 15 = .ok (.getfield 16, 3) := by decide +kernel
theorem dX3_late_18 : decode cX3_late 18 = .ok (.iload_n 1, 1) := by decide +kernel
theorem dX3_late_19 : decode cX3_late 19 = .ok (.iaload, 1) := by decide +kernel
theorem dX3_late_20 : decode cX3_late 20 = .ok (.isub, 1) := by decide +kernel
theorem dX3_late_21 : decode cX3_late 21 = .ok (.goto 4, 3) := by decide +kernel
theorem dX3_late_24 : decode cX3_late 24 = .ok (.iconst 0, 1) := by decide +kernel
theorem dX3_late_25 : decode cX3_late 25 = .ok (.ireturn, 1) := by decide +kernel
theorem dX3_fresh_0 : decode cX3_fresh 0 = .ok (.iload_n 1, 1) := by decide +kernel
theorem dX3_fresh_1 : decode cX3_fresh 1 = .ok (.iconst (-1), 1) := by decide +kernel
theorem dX3_fresh_2 : decode cX3_fresh 2 = .ok (.if_icmp .eq 32, 3) := by decide +kernel
theorem dX3_fresh_5 : decode cX3_fresh 5 = .ok (.aload_n 0, 1) := by decide +kernel
theorem dX3_fresh_6 : decode cX3_fresh 6 = .ok (.getfield 16, 3) := by decide +kernel
theorem dX3_fresh_9 : decode cX3_fresh 9 = .ok (.iload_n 1, 1) := by decide +kernel
theorem dX3_fresh_10 : decode cX3_fresh 10 = .ok (.iaload, 1) := by decide +kernel
theorem dX3_fresh_11 : decode cX3_fresh 11 = .ok (.iload_n 2, 1) := by decide +kernel
theorem dX3_fresh_12 : decode cX3_fresh 12 = .ok (.aload_n 0, 1) := by decide +kernel
theorem dX3_fresh_13 : decode cX3_fresh 13 = .ok (.getfield 7, 3) := by decide +kernel
theorem dX3_fresh_16 : decode cX3_fresh 16 = .ok (.aload_n 0, 1) := by decide +kernel
theorem dX3_fresh_17 : decode cX3_fresh 17 = .ok (.getfield 13, 3) := by decide +kernel
theorem dX3_fresh_20 : decode cX3_fresh 20 = .ok (.iload_n 1, 1) := by decide +kernel
theorem dX3_fresh_21 : decode cX3_fresh 21 = .ok (.iaload, 1) := by decide +kernel
theorem dX3_fresh_22 : decode cX3_fresh 22 = .ok (.bipush 10, 2) := by decide +kernel
theorem dX3_fresh_24 : decode cX3_fresh 24 = .ok (.idiv, 1) := by decide +kernel
theorem dX3_fresh_25 : decode cX3_fresh 25 = .ok (.iaload, 1) := by decide +kernel
theorem dX3_fresh_26 : decode cX3_fresh 26 = .ok (.isub, 1) := by decide +kernel
theorem dX3_fresh_27 : decode cX3_fresh 27 = .ok (.if_icmp .lt 7, 3) := by decide +kernel
theorem dX3_fresh_30 : decode cX3_fresh 30 = .ok (.iconst 1, 1) := by decide +kernel
theorem dX3_fresh_31 : decode cX3_fresh 31 = .ok (.goto 4, 3) := by decide +kernel
theorem dX3_fresh_34 : decode cX3_fresh 34 = .ok (.iconst 0, 1) := by decide +kernel
theorem dX3_fresh_35 : decode cX3_fresh 35 = .ok (.istore_n 3, 1) := by decide +kernel
theorem dX3_fresh_36 : decode cX3_fresh 36 = .ok (.iload_n 3, 1) := by decide +kernel
theorem dX3_fresh_37 : decode cX3_fresh 37 = .ok (.ifCond .eq 7, 3) := by decide +kernel
theorem dX3_fresh_40 : decode cX3_fresh 40 = .ok (.iload_n 1, 1) := by decide +kernel
theorem dX3_fresh_41 : decode cX3_fresh 41 = .ok (.goto 4, 3) := by decide +kernel
theorem dX3_fresh_44 : decode cX3_fresh 44 = .ok (.iconst (-1), 1) := by decide +kernel
theorem dX3_fresh_45 : decode cX3_fresh 45 = .ok (.ireturn, 1) := by decide +kernel
set_option maxRecDepth 20000 in
theorem ggX3_joins_X3_fresh : GoodIn wsX3_joins wsX3_fresh := goodIn_r _ [9, 3, 10, 2, 11, 12, 13, 14, 15, 16, 17, 18, 19, 20, 21, 22, 23, 24] (by decide +kernel) (by decide +kernel)
set_option maxRecDepth 20000 in
theorem gX3_joins_X3_fresh : GoodIn wsX3_joins (wsV RX3 64 RX3 yX3_fresh wsX3_fresh) := goodIn_app (goodIn_of _ (by decide +kernel)) ggX3_joins_X3_fresh
theorem dX3_joins_0 : decode cX3_joins 0 = .ok (.iconst (-1), 1) := by decide +kernel
theorem dX3_joins_1 : decode cX3_joins 1 = .ok (.istore 4, 2) := by decide +kernel
theorem dX3_joins_3 : decode cX3_joins 3 = .ok (.iconst 0, 1) := by decide +kernel
theorem dX3_joins_4 : decode cX3_joins 4 = .ok (.istore 5, 2) := by decide +kernel
theorem dX3_joins_6 : decode cX3_joins 6 = .ok (.iload 5, 2) := by decide +kernel
theorem dX3_joins_8 : decode cX3_joins 8 = .ok (.aload_n 0, 1) := by decide +kernel
theorem dX3_joins_9 : decode cX3_joins 9 = .ok (.getfield 53, 3) := by decide +kernel
theorem dX3_joins_12 : decode cX3_joins 12 = .ok (.if_icmp .ge 86, 3) := by decide +kernel
theorem dX3_joins_15 : decode cX3_joins 15 = .ok (.aload_n 0, 1) := by decide +kernel
theorem dX3_joins_16 : decode cX3_joins 16 = .ok (.getfield 13, 3) := by decide +kernel
theorem dX3_joins_19 : decode cX3_joins 19 = .ok (.iload 5, 2) := by decide +kernel
theorem dX3_joins_21 : decode cX3_joins 21 = .ok (.iaload, 1) := by decide +kernel
theorem dX3_joins_22 : decode cX3_joins 22 = .ok (.iload_n 1, 1) := by decide +kernel
theorem dX3_joins_23 : decode cX3_joins 23 = .ok (.if_icmp .ne 29, 3) := by decide +kernel
theorem dX3_joins_26 : decode cX3_joins 26 = .ok (.aload_n 0, 1) := by decide +kernel
theorem dX3_joins_27 : decode cX3_joins 27 = .ok (.getfield 16, 3) := by decide +kernel
theorem dX3_joins_30 : decode cX3_joins 30 = .ok (.iload 5, 2) := by decide +kernel
theorem dX3_joins_32 : decode cX3_joins 32 = .ok (.iaload, 1) := by decide +kernel
theorem dX3_joins_33 : decode cX3_joins 33 = .ok (.iload_n 2, 1) := by decide +kernel
theorem dX3_joins_34 : decode cX3_joins 34 = .ok (.if_icmp .gt 18, 3) := by decide +kernel
theorem dX3_joins_37 : decode cX3_joins 37 = .ok (.aload_n 0, 1) := by decide +kernel
theorem dX3_joins_38 : decode cX3_joins 38 = .ok (.getfield 19, 3) := by decide +kernel
theorem dX3_joins_41 : decode cX3_joins 41 = .ok (.iload 5, 2) := by decide +kernel
theorem dX3_joins_43 : decode cX3_joins 43 = .ok (.iaload, 1) := by decide +kernel
theorem dX3_joins_44 : decode cX3_joins 44 = .ok (.iload_n 3, 1) := by decide +kernel
theorem dX3_joins_45 : decode cX3_joins 45 = .ok (.if_icmp .gt 7, 3) := by decide +kernel
theorem dX3_joins_48 : decode cX3_joins 48 = .ok (.iconst 1, 1) := by decide +kernel
theorem dX3_joins_49 : decode cX3_joins 49 = .ok (.goto 4, 3) := by decide +kernel
theorem dX3_joins_52 : decode cX3_joins 52 = .ok (.iconst 0, 1) := by decide +kernel
theorem dX3_joins_53 : decode cX3_joins 53 = .ok (.istore 6, 2) := by decide +kernel
theorem dX3_joins_55 : decode cX3_joins 55 = .ok (.iload 6, 2) := by decide +kernel
theorem dX3_joins_57 : decode cX3_joins 57 = .ok (.ifCond .eq 31, 3) := by decide +kernel
theorem dX3_joins_60 : decode cX3_joins 60 = .ok (.iload 4, 2) := by decide +kernel
theorem dX3_joins_62 : decode cX3_joins 62 = .ok (.iconst (-1), 1) := by decide +kernel
theorem dX3_joins_63 : decode cX3_joins 63 = .ok (.if_icmp .eq 20, 3) := by decide +kernel
theorem dX3_joins_66 : decode cX3_joins 66 = .ok (.aload_n 0, 1) := by decide +kernel
theorem dX3_joins_67 : decode cX3_joins 67 = .ok (.getfield 16, 3) := by decide +kernel
theorem dX3_joins_70 : decode cX3_joins 70 = .ok (.iload 5, 2) := by decide +kernel
theorem dX3_joins_72 : decode cX3_joins 72 = .ok (.iaload, 1) := by decide +kernel
theorem dX3_joins_73 : decode cX3_joins 73 = .ok (.aload_n 0, 1) := by decide +kernel
theorem dX3_joins_74 : decode cX3_joins 74 = .ok (.getfield 16, 3) := by decide +kernel
theorem dX3_joins_77 : decode cX3_joins 77 = .ok (.iload 4, 2) := by decide +kernel
theorem dX3_joins_79 : decode cX3_joins 79 = .ok (.iaload, 1) := by decide +kernel
theorem dX3_joins_80 : decode cX3_joins 80 = .ok (.if_icmp .lt 8, 3) := by decide +kernel
theorem dX3_joins_83 : decode cX3_joins 83 = .ok (.iload 5, 2) := by decide +kernel
theorem dX3_joins_85 : decode cX3_joins 85 = .ok (.goto 5, 3) := by decide +kernel
theorem dX3_joins_88 : decode cX3_joins 88 = .ok (.iload 4, 2) := by decide +kernel
theorem dX3_joins_90 : decode cX3_joins 90 = .ok (.istore 4, 2) := by decide +kernel
theorem dX3_joins_92 : decode cX3_joins 92 = .ok (.iinc 5 1, 3) := by decide +kernel
theorem dX3_joins_95 : decode cX3_joins 95 = .ok (.goto (-89), 3) := by decide +kernel
theorem dX3_joins_98 : decode cX3_joins 98 = .ok (.aload_n 0, 1) := by decide +kernel
theorem dX3_joins_99 : decode cX3_joins 99 = .ok (.iload 4, 2) := by decide +kernel
theorem dX3_joins_101 : decode cX3_joins 101 = .ok (.iload_n 2, 1) := by decide +kernel
theorem dX3_joins_102 : decode cX3_joins 102 = .ok (.invokevirtual 64, 3) := by decide +kernel
theorem dX3_joins_105 : decode cX3_joins 105 = .ok (.ireturn, 1) := by decide +kernel
set_option maxRecDepth 20000 in
theorem ggX3_join_X3_isPair : GoodIn wsX3_join wsX3_isPair := goodIn_r _ [6, 7, 8, 5, 9] (by decide +kernel) (by decide +kernel)
set_option maxRecDepth 20000 in
theorem gX3_join_X3_isPair : GoodIn wsX3_join (va_wsS RX3 45 yX3_isPair wsX3_isPair) := goodIn_app (goodIn_of _ (by decide +kernel)) ggX3_join_X3_isPair
set_option maxRecDepth 20000 in
theorem ggX3_join_X3_in : GoodIn wsX3_join wsX3_in := goodIn_r _ [9] (by decide +kernel) (by decide +kernel)
set_option maxRecDepth 20000 in
theorem gX3_join_X3_in : GoodIn wsX3_join (va_wsS RX3 41 yX3_in wsX3_in) := goodIn_app (goodIn_of _ (by decide +kernel)) ggX3_join_X3_in
set_option maxRecDepth 20000 in
theorem ggX3_join_X3_pairOf : GoodIn wsX3_join wsX3_pairOf := goodIn_r _ [12] (by decide +kernel) (by decide +kernel)
set_option maxRecDepth 20000 in
theorem gX3_join_X3_pairOf : GoodIn wsX3_join (va_wsS RX3 56 yX3_pairOf wsX3_pairOf) := goodIn_app (goodIn_of _ (by decide +kernel)) ggX3_join_X3_pairOf
set_option maxRecDepth 20000 in
theorem ggX3_join_X3_joins : GoodIn wsX3_join wsX3_joins := goodIn_r _ [16, 17, 18, 19, 20, 21, 22, 23, 5, 24, 25, 26, 27, 28, 29, 30, 31, 32, 33, 34, 35, 36, 37, 38, 39] (by decide +kernel) (by decide +kernel)
set_option maxRecDepth 20000 in
theorem gX3_join_X3_joins : GoodIn wsX3_join (wsV RX3 67 RX3 yX3_joins wsX3_joins) := goodIn_app (goodIn_of _ (by decide +kernel)) ggX3_join_X3_joins
theorem dX3_join_0 : decode cX3_join 0 = .ok (.aload_n 0, 1) := by decide +kernel
theorem dX3_join_1 : decode cX3_join 1 = .ok (.iload_n 1, 1) := by decide +kernel
theorem dX3_join_2 : decode cX3_join 2 = .ok (.iload_n 2, 1) := by decide +kernel
theorem dX3_join_3 : decode cX3_join 3 = .ok (.invokestatic 45, 3) := by decide +kernel
theorem dX3_join_6 : decode cX3_join 6 = .ok (.ifCond .eq 31, 3) := by decide +kernel
theorem dX3_join_9 : decode cX3_join 9 = .ok (.iload_n 3, 1) := by decide +kernel
theorem dX3_join_10 : decode cX3_join 10 = .ok (.iconst 0, 1) := by decide +kernel
theorem dX3_join_11 : decode cX3_join 11 = .ok (.sipush 10000, 3) := by decide +kernel
theorem dX3_join_14 : decode cX3_join 14 = .ok (.invokestatic 41, 3) := by decide +kernel
theorem dX3_join_17 : decode cX3_join 17 = .ok (.ifCond .eq 20, 3) := by decide +kernel
theorem dX3_join_20 : decode cX3_join 20 = .ok (.iload 4, 2) := by decide +kernel
theorem dX3_join_22 : decode cX3_join 22 = .ok (.iconst 0, 1) := by decide +kernel
theorem dX3_join_23 : decode cX3_join 23 = .ok (.aload_n 0, 1) := by decide +kernel
theorem dX3_join_24 : decode cX3_join 24 = .ok (.getfield 49, 3) := by decide +kernel
theorem dX3_join_27 : decode cX3_join 27 = .ok (.invokestatic 41, 3) := by decide +kernel
theorem dX3_join_30 : decode cX3_join 30 = .ok (.ifCond .eq 7, 3) := by decide +kernel
theorem dX3_join_33 : decode cX3_join 33 = .ok (.iconst 0, 1) := by decide +kernel
theorem dX3_join_34 : decode cX3_join 34 = .ok (.goto 4, 3) := by decide +kernel
theorem dX3_join_37 : decode cX3_join 37 = .ok (.iconst 1, 1) := by decide +kernel
theorem dX3_join_38 : decode cX3_join 38 = .ok (.putfield 37, 3) := by decide +kernel
theorem dX3_join_41 : decode cX3_join 41 = .ok (.aload_n 0, 1) := by decide +kernel
theorem dX3_join_42 : decode cX3_join 42 = .ok (.getfield 37, 3) := by decide +kernel
theorem dX3_join_45 : decode cX3_join 45 = .ok (.ifCond .le 7, 3) := by decide +kernel
theorem dX3_join_48 : decode cX3_join 48 = .ok (.iconst 0, 1) := by decide +kernel
theorem dX3_join_49 : decode cX3_join 49 = .ok (.goto 15, 3) := by decide +kernel
theorem dX3_join_52 : decode cX3_join 52 = .ok (.aload_n 0, 1) := by decide +kernel
theorem dX3_join_53 : decode cX3_join 53 = .ok (.iload_n 1, 1) := by decide +kernel
theorem dX3_join_54 : decode cX3_join 54 = .ok (.iload_n 2, 1) := by decide +kernel
theorem dX3_join_55 : decode cX3_join 55 = .ok (.invokestatic 56, 3) := by decide +kernel
theorem dX3_join_58 : decode cX3_join 58 = .ok (.iload_n 3, 1) := by decide +kernel
theorem dX3_join_59 : decode cX3_join 59 = .ok (.iload 4, 2) := by decide +kernel
theorem dX3_join_61 : decode cX3_join 61 = .ok (.invokevirtual 67, 3) := by decide +kernel
theorem dX3_join_64 : decode cX3_join 64 = .ok (.ireturn, 1) := by decide +kernel
set_option maxRecDepth 20000 in
theorem ggX3_sums_X3_in : GoodIn wsX3_sums wsX3_in := goodIn_r _ [8] (by decide +kernel) (by decide +kernel)
set_option maxRecDepth 20000 in
theorem gX3_sums_X3_in : GoodIn wsX3_sums (va_wsS RX3 41 yX3_in wsX3_in) := goodIn_app (goodIn_of _ (by decide +kernel)) ggX3_sums_X3_in
theorem dX3_sums_0 : decode cX3_sums 0 = .ok (.iconst 0, 1) := by decide +kernel
theorem dX3_sums_1 : decode cX3_sums 1 = .ok (.istore 4, 2) := by decide +kernel
theorem dX3_sums_3 : decode cX3_sums 3 = .ok (.iconst 0, 1) := by decide +kernel
theorem dX3_sums_4 : decode cX3_sums 4 = .ok (.istore 5, 2) := by decide +kernel
theorem dX3_sums_6 : decode cX3_sums 6 = .ok (.iload 5, 2) := by decide +kernel
theorem dX3_sums_8 : decode cX3_sums 8 = .ok (.aload_n 0, 1) := by decide +kernel
theorem dX3_sums_9 : decode cX3_sums 9 = .ok (.getfield 53, 3) := by decide +kernel
theorem dX3_sums_12 : decode cX3_sums 12 = .ok (.if_icmp .ge 51, 3) := by decide +kernel
theorem dX3_sums_15 : decode cX3_sums 15 = .ok (.iload 4, 2) := by decide +kernel
theorem dX3_sums_17 : decode cX3_sums 17 = .ok (.aload_n 0, 1) := by decide +kernel
theorem dX3_sums_18 : decode cX3_sums 18 = .ok (.getfield 13, 3) := by decide +kernel
theorem dX3_sums_21 : decode cX3_sums 21 = .ok (.iload 5, 2) := by decide +kernel
theorem dX3_sums_23 : decode cX3_sums 23 = .ok (.iaload, 1) := by decide +kernel
theorem dX3_sums_24 : decode cX3_sums 24 = .ok (.iload_n 1, 1) := by decide +kernel
theorem dX3_sums_25 : decode cX3_sums 25 = .ok (.if_icmp .ne 28, 3) := by decide +kernel
theorem dX3_sums_28 : decode cX3_sums 28 = .ok (.aload_n 0, 1) := by decide +kernel
theorem dX3_sums_29 : decode cX3_sums 29 = .ok (.getfield 16, 3) := by decide +kernel
theorem dX3_sums_32 : decode cX3_sums 32 = .ok (.iload 5, 2) := by decide +kernel
theorem dX3_sums_34 : decode cX3_sums 34 = .ok (.iaload, 1) := by decide +kernel
theorem dX3_sums_35 : decode cX3_sums 35 = .ok (.iload_n 2, 1) := by decide +kernel
theorem dX3_sums_36 : decode cX3_sums 36 = .ok (.iload_n 3, 1) := by decide +kernel
theorem dX3_sums_37 : decode cX3_sums 37 = .ok (.invokestatic 41, 3) := by decide +kernel
theorem dX3_sums_40 : decode cX3_sums 40 = .ok (.ifCond .eq 13, 3) := by decide +kernel
theorem dX3_sums_43 : decode cX3_sums 43 = .ok (.aload_n 0, 1) := by decide +kernel
theorem dX3_sums_44 : decode cX3_sums 44 = .ok (.getfield 22, 3) := by decide +kernel
theorem dX3_sums_47 : decode cX3_sums 47 = .ok (.iload 5, 2) := by decide +kernel
theorem dX3_sums_49 : decode cX3_sums 49 = .ok (.iaload, 1) := by decide +kernel
theorem dX3_sums_50 : decode cX3_sums 50 = .ok (.goto 4, 3) := by decide +kernel
theorem dX3_sums_53 : decode cX3_sums 53 = .ok (.iconst 0, 1) := by decide +kernel
theorem dX3_sums_54 : decode cX3_sums 54 = .ok (.iadd, 1) := by decide +kernel
theorem dX3_sums_55 : decode cX3_sums 55 = .ok (.istore 4, 2) := by decide +kernel
theorem dX3_sums_57 : decode cX3_sums 57 = .ok (.iinc 5 1, 3) := by decide +kernel
theorem dX3_sums_60 : decode cX3_sums 60 = .ok (.goto (-54), 3) := by decide +kernel
theorem dX3_sums_63 : decode cX3_sums 63 = .ok (.iload 4, 2) := by decide +kernel
theorem dX3_sums_65 : decode cX3_sums 65 = .ok (.ireturn, 1) := by decide +kernel
set_option maxRecDepth 20000 in
theorem ggX3_window_X3_isPair : GoodIn wsX3_window wsX3_isPair := goodIn_r _ [5, 6, 7, 4, 8] (by decide +kernel) (by decide +kernel)
set_option maxRecDepth 20000 in
theorem gX3_window_X3_isPair : GoodIn wsX3_window (va_wsS RX3 45 yX3_isPair wsX3_isPair) := goodIn_app (goodIn_of _ (by decide +kernel)) ggX3_window_X3_isPair
set_option maxRecDepth 20000 in
theorem ggX3_window_X3_in : GoodIn wsX3_window wsX3_in := goodIn_r _ [8] (by decide +kernel) (by decide +kernel)
set_option maxRecDepth 20000 in
theorem gX3_window_X3_in : GoodIn wsX3_window (va_wsS RX3 41 yX3_in wsX3_in) := goodIn_app (goodIn_of _ (by decide +kernel)) ggX3_window_X3_in
set_option maxRecDepth 20000 in
theorem ggX3_window_X3_pairOf : GoodIn wsX3_window wsX3_pairOf := goodIn_r _ [11] (by decide +kernel) (by decide +kernel)
set_option maxRecDepth 20000 in
theorem gX3_window_X3_pairOf : GoodIn wsX3_window (va_wsS RX3 56 yX3_pairOf wsX3_pairOf) := goodIn_app (goodIn_of _ (by decide +kernel)) ggX3_window_X3_pairOf
set_option maxRecDepth 20000 in
theorem ggX3_window_X3_sums : GoodIn wsX3_window wsX3_sums := goodIn_r _ [15, 16, 17, 18, 19, 6, 7, 4, 8, 20, 21, 22, 23, 24, 25, 26, 27, 28, 29, 30, 31, 32, 33] (by decide +kernel) (by decide +kernel)
set_option maxRecDepth 20000 in
theorem gX3_window_X3_sums : GoodIn wsX3_window (wsV RX3 71 RX3 yX3_sums wsX3_sums) := goodIn_app (goodIn_of _ (by decide +kernel)) ggX3_window_X3_sums
theorem dX3_window_0 : decode cX3_window 0 = .ok (.aload_n 0, 1) := by decide +kernel
theorem dX3_window_1 : decode cX3_window 1 = .ok (.iload_n 1, 1) := by decide +kernel
theorem dX3_window_2 : decode cX3_window 2 = .ok (.iload_n 2, 1) := by decide +kernel
theorem dX3_window_3 : decode cX3_window 3 = .ok (.invokestatic 45, 3) := by decide +kernel
theorem dX3_window_6 : decode cX3_window 6 = .ok (.ifCond .eq 30, 3) := by decide +kernel
theorem dX3_window_9 : decode cX3_window 9 = .ok (.iload_n 3, 1) := by decide +kernel
theorem dX3_window_10 : decode cX3_window 10 = .ok (.iconst 0, 1) := by decide +kernel
theorem dX3_window_11 : decode cX3_window 11 = .ok (.sipush 10000, 3) := by decide +kernel
theorem dX3_window_14 : decode cX3_window 14 = .ok (.invokestatic 41, 3) := by decide +kernel
theorem dX3_window_17 : decode cX3_window 17 = .ok (.ifCond .eq 19, 3) := by decide +kernel
theorem dX3_window_20 : decode cX3_window 20 = .ok (.iload 4, 2) := by decide +kernel
theorem dX3_window_22 : decode cX3_window 22 = .ok (.iload_n 3, 1) := by decide +kernel
theorem dX3_window_23 : decode cX3_window 23 = .ok (.sipush 10000, 3) := by decide +kernel
theorem dX3_window_26 : decode cX3_window 26 = .ok (.invokestatic 41, 3) := by decide +kernel
theorem dX3_window_29 : decode cX3_window 29 = .ok (.ifCond .eq 7, 3) := by decide +kernel
theorem dX3_window_32 : decode cX3_window 32 = .ok (.iconst 0, 1) := by decide +kernel
theorem dX3_window_33 : decode cX3_window 33 = .ok (.goto 4, 3) := by decide +kernel
theorem dX3_window_36 : decode cX3_window 36 = .ok (.iconst 1, 1) := by decide +kernel
theorem dX3_window_37 : decode cX3_window 37 = .ok (.putfield 37, 3) := by decide +kernel
theorem dX3_window_40 : decode cX3_window 40 = .ok (.aload_n 0, 1) := by decide +kernel
theorem dX3_window_41 : decode cX3_window 41 = .ok (.getfield 37, 3) := by decide +kernel
theorem dX3_window_44 : decode cX3_window 44 = .ok (.ifCond .le 7, 3) := by decide +kernel
theorem dX3_window_47 : decode cX3_window 47 = .ok (.iconst 0, 1) := by decide +kernel
theorem dX3_window_48 : decode cX3_window 48 = .ok (.goto 15, 3) := by decide +kernel
theorem dX3_window_51 : decode cX3_window 51 = .ok (.aload_n 0, 1) := by decide +kernel
theorem dX3_window_52 : decode cX3_window 52 = .ok (.iload_n 1, 1) := by decide +kernel
theorem dX3_window_53 : decode cX3_window 53 = .ok (.iload_n 2, 1) := by decide +kernel
theorem dX3_window_54 : decode cX3_window 54 = .ok (.invokestatic 56, 3) := by decide +kernel
theorem dX3_window_57 : decode cX3_window 57 = .ok (.iload_n 3, 1) := by decide +kernel
theorem dX3_window_58 : decode cX3_window 58 = .ok (.iload 4, 2) := by decide +kernel
theorem dX3_window_60 : decode cX3_window 60 = .ok (.invokevirtual 71, 3) := by decide +kernel
theorem dX3_window_63 : decode cX3_window 63 = .ok (.ireturn, 1) := by decide +kernel
theorem dX3_isFirst_0 : decode cX3_isFirst 0 = .ok (.iconst 1, 1) := by decide +kernel
theorem dX3_isFirst_1 : decode cX3_isFirst 1 = .ok (.istore_n 3, 1) := by decide +kernel
theorem dX3_isFirst_2 : decode cX3_isFirst 2 = .ok (.iconst 0, 1) := by decide +kernel
theorem dX3_isFirst_3 : decode cX3_isFirst 3 = .ok (.istore 4, 2) := by decide +kernel
theorem dX3_isFirst_5 : decode cX3_isFirst 5 = .ok (.iload 4, 2) := by decide +kernel
theorem dX3_isFirst_7 : decode cX3_isFirst 7 = .ok (.iload_n 1, 1) := by decide +kernel
theorem dX3_isFirst_8 : decode cX3_isFirst 8 = .ok (.if_icmp .ge 55, 3) := by decide +kernel
theorem dX3_isFirst_11 : decode cX3_isFirst 11 = .ok (.iload_n 3, 1) := by decide +kernel
theorem dX3_isFirst_12 : decode cX3_isFirst 12 = .ok (.ifCond .eq 43, 3) := by decide +kernel
theorem dX3_isFirst_15 : decode cX3_isFirst 15 = .ok (.aload_n 0, 1) := by decide +kernel
theorem dX3_isFirst_16 : decode cX3_isFirst 16 = .ok (.getfield 13, 3) := by decide +kernel
theorem dX3_isFirst_19 : decode cX3_isFirst 19 = .ok (.iload 4, 2) := by decide +kernel
theorem dX3_isFirst_21 : decode cX3_isFirst 21 = .ok (.iaload, 1) := by decide +kernel
theorem dX3_isFirst_22 : decode cX3_isFirst 22 = .ok (.aload_n 0, 1) := by decide +kernel
theorem dX3_isFirst_23 : decode cX3_isFirst 23 = .ok (.getfield 13, 3) := by decide +kernel
theorem dX3_isFirst_26 : decode cX3_isFirst 26 = .ok (.iload_n 1, 1) := by decide +kernel
theorem dX3_isFirst_27 : decode cX3_isFirst 27 = .ok (.iaload, 1) := by decide +kernel
theorem dX3_isFirst_28 : decode cX3_isFirst 28 = .ok (.if_icmp .ne 23, 3) := by decide +kernel
theorem dX3_isFirst_31 : decode cX3_isFirst 31 = .ok (.aload_n 0, 1) := by decide +kernel
theorem dX3_isFirst_32 : decode cX3_isFirst 32 = .ok (.getfield 16, 3) := by decide +kernel
theorem dX3_isFirst_35 : decode cX3_isFirst 35 = .ok (.iload 4, 2) := by decide +kernel
theorem dX3_isFirst_37 : decode cX3_isFirst 37 = .ok (.iaload, 1) := by decide +kernel
theorem dX3_isFirst_38 : decode cX3_isFirst 38 = .ok (.iload_n 2, 1) := by decide +kernel
theorem dX3_isFirst_39 : decode cX3_isFirst 39 = .ok (.idiv, 1) := by decide +kernel
theorem dX3_isFirst_40 : decode cX3_isFirst 40 = .ok (.aload_n 0, 1) := by decide +kernel
theorem dX3_isFirst_41 : decode cX3_isFirst 41 = .ok (.getfield 16, 3) := by decide +kernel
theorem dX3_isFirst_44 : decode cX3_isFirst 44 = .ok (.iload_n 1, 1) := by decide +kernel
theorem dX3_isFirst_45 : decode cX3_isFirst 45 = .ok (.iaload, 1) := by decide +kernel
theorem dX3_isFirst_46 : decode cX3_isFirst 46 = .ok (.iload_n 2, 1) := by decide +kernel
theorem dX3_isFirst_47 : decode cX3_isFirst 47 = .ok (.idiv, 1) := by decide +kernel
theorem dX3_isFirst_48 : decode cX3_isFirst 48 = .ok (.if_icmp .eq 7, 3) := by decide +kernel
theorem dX3_isFirst_51 : decode cX3_isFirst 51 = .ok (.iconst 1, 1) := by decide +kernel
theorem dX3_isFirst_52 : decode cX3_isFirst 52 = .ok (.goto 4, 3) := by decide +kernel
theorem dX3_isFirst_55 : decode cX3_isFirst 55 = .ok (.iconst 0, 1) := by decide +kernel
theorem dX3_isFirst_56 : decode cX3_isFirst 56 = .ok (.istore_n 3, 1) := by decide +kernel
theorem dX3_isFirst_57 : decode cX3_isFirst 57 = .ok (.iinc 4 1, 3) := by decide +kernel
theorem dX3_isFirst_60 : decode cX3_isFirst 60 = .ok (.goto (-55), 3) := by decide +kernel
theorem dX3_isFirst_63 : decode cX3_isFirst 63 = .ok (.iload_n 3, 1) := by decide +kernel
theorem dX3_isFirst_64 : decode cX3_isFirst 64 = .ok (.ireturn, 1) := by decide +kernel
set_option maxRecDepth 20000 in
theorem ggX3_asksTiles_X3_isPair : GoodIn wsX3_asksTiles wsX3_isPair := goodIn_r _ [5, 6, 7, 4, 8] (by decide +kernel) (by decide +kernel)
set_option maxRecDepth 20000 in
theorem gX3_asksTiles_X3_isPair : GoodIn wsX3_asksTiles (va_wsS RX3 45 yX3_isPair wsX3_isPair) := goodIn_app (goodIn_of _ (by decide +kernel)) ggX3_asksTiles_X3_isPair
set_option maxRecDepth 20000 in
theorem ggX3_asksTiles_X3_in : GoodIn wsX3_asksTiles wsX3_in := goodIn_r _ [8] (by decide +kernel) (by decide +kernel)
set_option maxRecDepth 20000 in
theorem gX3_asksTiles_X3_in : GoodIn wsX3_asksTiles (va_wsS RX3 41 yX3_in wsX3_in) := goodIn_app (goodIn_of _ (by decide +kernel)) ggX3_asksTiles_X3_in
theorem dX3_asksTiles_0 : decode cX3_asksTiles 0 = .ok (.aload_n 0, 1) := by decide +kernel
theorem dX3_asksTiles_1 : decode cX3_asksTiles 1 = .ok (.iload_n 1, 1) := by decide +kernel
theorem dX3_asksTiles_2 : decode cX3_asksTiles 2 = .ok (.iload_n 2, 1) := by decide +kernel
theorem dX3_asksTiles_3 : decode cX3_asksTiles 3 = .ok (.invokestatic 45, 3) := by decide +kernel
theorem dX3_asksTiles_6 : decode cX3_asksTiles 6 = .ok (.ifCond .eq 18, 3) := by decide +kernel
theorem dX3_asksTiles_9 : decode cX3_asksTiles 9 = .ok (.iload_n 3, 1) := by decide +kernel
theorem dX3_asksTiles_10 : decode cX3_asksTiles 10 = .ok (.iconst 1, 1) := by decide +kernel
theorem dX3_asksTiles_11 : decode cX3_asksTiles 11 = .ok (.sipush 10000, 3) := by decide +kernel
theorem dX3_asksTiles_14 : decode cX3_asksTiles 14 = .ok (.invokestatic 41, 3) := by decide +kernel
theorem dX3_asksTiles_17 : decode cX3_asksTiles 17 = .ok (.ifCond .eq 7, 3) := by decide +kernel
theorem dX3_asksTiles_20 : decode cX3_asksTiles 20 = .ok (.iconst 0, 1) := by decide +kernel
theorem dX3_asksTiles_21 : decode cX3_asksTiles 21 = .ok (.goto 4, 3) := by decide +kernel
theorem dX3_asksTiles_24 : decode cX3_asksTiles 24 = .ok (.iconst 1, 1) := by decide +kernel
theorem dX3_asksTiles_25 : decode cX3_asksTiles 25 = .ok (.putfield 37, 3) := by decide +kernel
theorem dX3_asksTiles_28 : decode cX3_asksTiles 28 = .ok (.aload_n 0, 1) := by decide +kernel
theorem dX3_asksTiles_29 : decode cX3_asksTiles 29 = .ok (.getfield 37, 3) := by decide +kernel
theorem dX3_asksTiles_32 : decode cX3_asksTiles 32 = .ok (.ifCond .ne 7, 3) := by decide +kernel
theorem dX3_asksTiles_35 : decode cX3_asksTiles 35 = .ok (.iconst 1, 1) := by decide +kernel
theorem dX3_asksTiles_36 : decode cX3_asksTiles 36 = .ok (.goto 4, 3) := by decide +kernel
theorem dX3_asksTiles_39 : decode cX3_asksTiles 39 = .ok (.iconst 0, 1) := by decide +kernel
theorem dX3_asksTiles_40 : decode cX3_asksTiles 40 = .ok (.ireturn, 1) := by decide +kernel
set_option maxRecDepth 20000 in
theorem ggX3_greatestTile_X3_asksTiles : GoodIn wsX3_greatestTile wsX3_asksTiles := goodIn_r _ [8, 9, 10, 11, 7, 12, 13, 14, 15, 28, 29, 30, 31, 32, 33, 34, 35, 36, 37, 38, 39, 40, 41] (by decide +kernel) (by decide +kernel)
set_option maxRecDepth 20000 in
theorem gX3_greatestTile_X3_asksTiles : GoodIn wsX3_greatestTile (wsV RX3 74 RX3 yX3_asksTiles wsX3_asksTiles) := goodIn_app (goodIn_of _ (by decide +kernel)) ggX3_greatestTile_X3_asksTiles
set_option maxRecDepth 20000 in
theorem ggX3_greatestTile_X3_pairOf : GoodIn wsX3_greatestTile wsX3_pairOf := goodIn_r _ [18] (by decide +kernel) (by decide +kernel)
set_option maxRecDepth 20000 in
theorem gX3_greatestTile_X3_pairOf : GoodIn wsX3_greatestTile (va_wsS RX3 56 yX3_pairOf wsX3_pairOf) := goodIn_app (goodIn_of _ (by decide +kernel)) ggX3_greatestTile_X3_pairOf
set_option maxRecDepth 20000 in
theorem ggX3_greatestTile_X3_isFirst : GoodIn wsX3_greatestTile wsX3_isFirst := goodIn_r _ [22, 3, 2, 28, 29, 30, 31, 32, 33, 34, 35, 36, 37, 38, 39, 40, 41] (by decide +kernel) (by decide +kernel)
set_option maxRecDepth 20000 in
theorem gX3_greatestTile_X3_isFirst : GoodIn wsX3_greatestTile (wsV RX3 77 RX3 yX3_isFirst wsX3_isFirst) := goodIn_app (goodIn_of _ (by decide +kernel)) ggX3_greatestTile_X3_isFirst
set_option maxRecDepth 20000 in
theorem ggX3_greatestTile_X3_sums : GoodIn wsX3_greatestTile wsX3_sums := goodIn_r _ [26, 1, 3, 2, 27, 13, 14, 7, 15, 28, 29, 30, 31, 32, 33, 34, 35, 36, 37, 38, 39, 40, 41] (by decide +kernel) (by decide +kernel)
set_option maxRecDepth 20000 in
theorem gX3_greatestTile_X3_sums : GoodIn wsX3_greatestTile (wsV RX3 71 RX3 yX3_sums wsX3_sums) := goodIn_app (goodIn_of _ (by decide +kernel)) ggX3_greatestTile_X3_sums
theorem dX3_greatestTile_0 : decode cX3_greatestTile 0 = .ok (.iconst 0, 1) := by decide +kernel
theorem dX3_greatestTile_1 : decode cX3_greatestTile 1 = .ok (.istore 4, 2) := by decide +kernel
theorem dX3_greatestTile_3 : decode cX3_greatestTile 3 = .ok (.aload_n 0, 1) := by decide +kernel
theorem dX3_greatestTile_4 : decode cX3_greatestTile 4 = .ok (.iload_n 1, 1) := by decide +kernel
theorem dX3_greatestTile_5 : decode cX3_greatestTile 5 = .ok (.iload_n 2, 1) := by decide +kernel
theorem dX3_greatestTile_6 : decode cX3_greatestTile 6 = .ok (.iload_n 3, 1) := by decide +kernel
theorem dX3_greatestTile_7 : decode cX3_greatestTile 7 = .ok (.invokevirtual 74, 3) := by decide +kernel
theorem dX3_greatestTile_10 : decode cX3_greatestTile 10 = .ok (.ifCond .eq 99, 3) := by decide +kernel
theorem dX3_greatestTile_13 : decode cX3_greatestTile 13 = .ok (.iload_n 1, 1) := by decide +kernel
theorem dX3_greatestTile_14 : decode cX3_greatestTile 14 = .ok (.iload_n 2, 1) := by decide +kernel
theorem dX3_greatestTile_15 : decode cX3_greatestTile 15 = .ok (.invokestatic 56, 3) := by decide +kernel
theorem dX3_greatestTile_18 : decode cX3_greatestTile 18 = .ok (.istore 5, 2) := by decide +kernel
theorem dX3_greatestTile_20 : decode cX3_greatestTile 20 = .ok (.iconst 0, 1) := by decide +kernel
theorem dX3_greatestTile_21 : decode cX3_greatestTile 21 = .ok (.istore 6, 2) := by decide +kernel
theorem dX3_greatestTile_23 : decode cX3_greatestTile 23 = .ok (.iload 6, 2) := by decide +kernel
theorem dX3_greatestTile_25 : decode cX3_greatestTile 25 = .ok (.aload_n 0, 1) := by decide +kernel
theorem dX3_greatestTile_26 : decode cX3_greatestTile 26 = .ok (.getfield 53, 3) := by decide +kernel
theorem dX3_greatestTile_29 : decode cX3_greatestTile 29 = .ok (.if_icmp .ge 80, 3) := by decide +kernel
theorem dX3_greatestTile_32 : decode cX3_greatestTile 32 = .ok (.aload_n 0, 1) := by decide +kernel
theorem dX3_greatestTile_33 : decode cX3_greatestTile 33 = .ok (.getfield 16, 3) := by decide +kernel
theorem dX3_greatestTile_36 : decode cX3_greatestTile 36 = .ok (.iload 6, 2) := by decide +kernel
theorem dX3_greatestTile_38 : decode cX3_greatestTile 38 = .ok (.iaload, 1) := by decide +kernel
theorem dX3_greatestTile_39 : decode cX3_greatestTile 39 = .ok (.iload_n 3, 1) := by decide +kernel
theorem dX3_greatestTile_40 : decode cX3_greatestTile 40 = .ok (.idiv, 1) := by decide +kernel
theorem dX3_greatestTile_41 : decode cX3_greatestTile 41 = .ok (.iload_n 3, 1) := by decide +kernel
theorem dX3_greatestTile_42 : decode cX3_greatestTile 42 = .ok (.imul, 1) := by decide +kernel
theorem dX3_greatestTile_43 : decode cX3_greatestTile 43 = .ok (.istore 7, 2) := by decide +kernel
theorem dX3_greatestTile_45 : decode cX3_greatestTile 45 = .ok (.aload_n 0, 1) := by decide +kernel
theorem dX3_greatestTile_46 : decode cX3_greatestTile 46 = .ok (.getfield 13, 3) := by decide +kernel
theorem dX3_greatestTile_49 : decode cX3_greatestTile 49 = .ok (.iload 6, 2) := by decide +kernel
theorem dX3_greatestTile_51 : decode cX3_greatestTile 51 = .ok (.iaload, 1) := by decide +kernel
theorem dX3_greatestTile_52 : decode cX3_greatestTile 52 = .ok (.iload 5, 2) := by decide +kernel
theorem dX3_greatestTile_54 : decode cX3_greatestTile 54 = .ok (.if_icmp .ne 30, 3) := by decide +kernel
theorem dX3_greatestTile_57 : decode cX3_greatestTile 57 = .ok (.aload_n 0, 1) := by decide +kernel
theorem dX3_greatestTile_58 : decode cX3_greatestTile 58 = .ok (.iload 6, 2) := by decide +kernel
theorem dX3_greatestTile_60 : decode cX3_greatestTile 60 = .ok (.iload_n 3, 1) := by decide +kernel
theorem dX3_greatestTile_61 : decode cX3_greatestTile 61 = .ok (.invokevirtual 77, 3) := by decide +kernel
theorem dX3_greatestTile_64 : decode cX3_greatestTile 64 = .ok (.ifCond .eq 20, 3) := by decide +kernel
theorem dX3_greatestTile_67 : decode cX3_greatestTile 67 = .ok (.aload_n 0, 1) := by decide +kernel
theorem dX3_greatestTile_68 : decode cX3_greatestTile 68 = .ok (.iload 5, 2) := by decide +kernel
theorem dX3_greatestTile_70 : decode cX3_greatestTile 70 = .ok (.iload 7, 2) := by decide +kernel
theorem dX3_greatestTile_72 : decode cX3_greatestTile 72 = .ok (.iload 7, 2) := by decide +kernel
theorem dX3_greatestTile_74 : decode cX3_greatestTile 74 = .ok (.iload_n 3, 1) := by decide +kernel
theorem dX3_greatestTile_75 : decode cX3_greatestTile 75 = .ok (.iadd, 1) := by decide +kernel
theorem dX3_greatestTile_76 : decode cX3_greatestTile 76 = .ok (.iconst 1, 1) := by decide +kernel
theorem dX3_greatestTile_77 : decode cX3_greatestTile 77 = .ok (.isub, 1) := by decide +kernel
theorem dX3_greatestTile_78 : decode cX3_greatestTile 78 = .ok (.invokevirtual 71, 3) := by decide +kernel
theorem dX3_greatestTile_81 : decode cX3_greatestTile 81 = .ok (.goto 4, 3) := by decide +kernel
theorem dX3_greatestTile_84 : decode cX3_greatestTile 84 = .ok (.iconst 0, 1) := by decide +kernel
theorem dX3_greatestTile_85 : decode cX3_greatestTile 85 = .ok (.istore 8, 2) := by decide +kernel
theorem dX3_greatestTile_87 : decode cX3_greatestTile 87 = .ok (.iload 8, 2) := by decide +kernel
theorem dX3_greatestTile_89 : decode cX3_greatestTile 89 = .ok (.iload 4, 2) := by decide +kernel
theorem dX3_greatestTile_91 : decode cX3_greatestTile 91 = .ok (.if_icmp .le 8, 3) := by decide +kernel
theorem dX3_greatestTile_94 : decode cX3_greatestTile 94 = .ok (.iload 8, 2) := by decide +kernel
theorem dX3_greatestTile_96 : decode cX3_greatestTile 96 = .ok (.goto 5, 3) := by decide +kernel
theorem dX3_greatestTile_99 : decode cX3_greatestTile 99 = .ok (.iload 4, 2) := by decide +kernel
theorem dX3_greatestTile_101 : decode cX3_greatestTile 101 = .ok (.istore 4, 2) := by decide +kernel
theorem dX3_greatestTile_103 : decode cX3_greatestTile 103 = .ok (.iinc 6 1, 3) := by decide +kernel
theorem dX3_greatestTile_106 : decode cX3_greatestTile 106 = .ok (.goto (-83), 3) := by decide +kernel
theorem dX3_greatestTile_109 : decode cX3_greatestTile 109 = .ok (.iload 4, 2) := by decide +kernel
theorem dX3_greatestTile_111 : decode cX3_greatestTile 111 = .ok (.ireturn, 1) := by decide +kernel
set_option maxRecDepth 20000 in
theorem ggX3_tiles_X3_asksTiles : GoodIn wsX3_tiles wsX3_asksTiles := goodIn_r _ [7, 8, 9, 10, 6, 11, 12, 13, 14, 23, 24, 25, 26, 27, 28, 29, 30, 31, 32, 33, 34, 35, 36] (by decide +kernel) (by decide +kernel)
set_option maxRecDepth 20000 in
theorem gX3_tiles_X3_asksTiles : GoodIn wsX3_tiles (wsV RX3 74 RX3 yX3_asksTiles wsX3_asksTiles) := goodIn_app (goodIn_of _ (by decide +kernel)) ggX3_tiles_X3_asksTiles
set_option maxRecDepth 20000 in
theorem ggX3_tiles_X3_pairOf : GoodIn wsX3_tiles wsX3_pairOf := goodIn_r _ [17] (by decide +kernel) (by decide +kernel)
set_option maxRecDepth 20000 in
theorem gX3_tiles_X3_pairOf : GoodIn wsX3_tiles (va_wsS RX3 56 yX3_pairOf wsX3_pairOf) := goodIn_app (goodIn_of _ (by decide +kernel)) ggX3_tiles_X3_pairOf
set_option maxRecDepth 20000 in
theorem ggX3_tiles_X3_isFirst : GoodIn wsX3_tiles wsX3_isFirst := goodIn_r _ [21, 2, 22, 23, 24, 25, 26, 27, 28, 29, 30, 31, 32, 33, 34, 35, 36] (by decide +kernel) (by decide +kernel)
set_option maxRecDepth 20000 in
theorem gX3_tiles_X3_isFirst : GoodIn wsX3_tiles (wsV RX3 77 RX3 yX3_isFirst wsX3_isFirst) := goodIn_app (goodIn_of _ (by decide +kernel)) ggX3_tiles_X3_isFirst
theorem dX3_tiles_0 : decode cX3_tiles 0 = .ok (.iconst 0, 1) := by decide +kernel
theorem dX3_tiles_1 : decode cX3_tiles 1 = .ok (.istore 4, 2) := by decide +kernel
theorem dX3_tiles_3 : decode cX3_tiles 3 = .ok (.aload_n 0, 1) := by decide +kernel
theorem dX3_tiles_4 : decode cX3_tiles 4 = .ok (.iload_n 1, 1) := by decide +kernel
theorem dX3_tiles_5 : decode cX3_tiles 5 = .ok (.iload_n 2, 1) := by decide +kernel
theorem dX3_tiles_6 : decode cX3_tiles 6 = .ok (.iload_n 3, 1) := by decide +kernel
theorem dX3_tiles_7 : decode cX3_tiles 7 = .ok (.invokevirtual 74, 3) := by decide +kernel
theorem dX3_tiles_10 : decode cX3_tiles 10 = .ok (.ifCond .eq 56, 3) := by decide +kernel
theorem dX3_tiles_13 : decode cX3_tiles 13 = .ok (.iconst 0, 1) := by decide +kernel
theorem dX3_tiles_14 : decode cX3_tiles 14 = .ok (.istore 5, 2) := by decide +kernel
theorem dX3_tiles_16 : decode cX3_tiles 16 = .ok (.iload 5, 2) := by decide +kernel
theorem dX3_tiles_18 : decode cX3_tiles 18 = .ok (.aload_n 0, 1) := by decide +kernel
theorem dX3_tiles_19 : decode cX3_tiles 19 = .ok (.getfield 53, 3) := by decide +kernel
theorem dX3_tiles_22 : decode cX3_tiles 22 = .ok (.if_icmp .ge 44, 3) := by decide +kernel
theorem dX3_tiles_25 : decode cX3_tiles 25 = .ok (.iload 4, 2) := by decide +kernel
theorem dX3_tiles_27 : decode cX3_tiles 27 = .ok (.aload_n 0, 1) := by decide +kernel
theorem dX3_tiles_28 : decode cX3_tiles 28 = .ok (.getfield 13, 3) := by decide +kernel
theorem dX3_tiles_31 : decode cX3_tiles 31 = .ok (.iload 5, 2) := by decide +kernel
theorem dX3_tiles_33 : decode cX3_tiles 33 = .ok (.iaload, 1) := by decide +kernel
theorem dX3_tiles_34 : decode cX3_tiles 34 = .ok (.iload_n 1, 1) := by decide +kernel
theorem dX3_tiles_35 : decode cX3_tiles 35 = .ok (.iload_n 2, 1) := by decide +kernel
theorem dX3_tiles_36 : decode cX3_tiles 36 = .ok (.invokestatic 56, 3) := by decide +kernel
theorem dX3_tiles_39 : decode cX3_tiles 39 = .ok (.if_icmp .ne 17, 3) := by decide +kernel
theorem dX3_tiles_42 : decode cX3_tiles 42 = .ok (.aload_n 0, 1) := by decide +kernel
theorem dX3_tiles_43 : decode cX3_tiles 43 = .ok (.iload 5, 2) := by decide +kernel
theorem dX3_tiles_45 : decode cX3_tiles 45 = .ok (.iload_n 3, 1) := by decide +kernel
theorem dX3_tiles_46 : decode cX3_tiles 46 = .ok (.invokevirtual 77, 3) := by decide +kernel
theorem dX3_tiles_49 : decode cX3_tiles 49 = .ok (.ifCond .eq 7, 3) := by decide +kernel
theorem dX3_tiles_52 : decode cX3_tiles 52 = .ok (.iconst 1, 1) := by decide +kernel
theorem dX3_tiles_53 : decode cX3_tiles 53 = .ok (.goto 4, 3) := by decide +kernel
theorem dX3_tiles_56 : decode cX3_tiles 56 = .ok (.iconst 0, 1) := by decide +kernel
theorem dX3_tiles_57 : decode cX3_tiles 57 = .ok (.iadd, 1) := by decide +kernel
theorem dX3_tiles_58 : decode cX3_tiles 58 = .ok (.istore 4, 2) := by decide +kernel
theorem dX3_tiles_60 : decode cX3_tiles 60 = .ok (.iinc 5 1, 3) := by decide +kernel
theorem dX3_tiles_63 : decode cX3_tiles 63 = .ok (.goto (-47), 3) := by decide +kernel
theorem dX3_tiles_66 : decode cX3_tiles 66 = .ok (.iload 4, 2) := by decide +kernel
theorem dX3_tiles_68 : decode cX3_tiles 68 = .ok (.ireturn, 1) := by decide +kernel
set_option maxRecDepth 20000 in
theorem ggX3_revised_X3_isPair : GoodIn wsX3_revised wsX3_isPair := goodIn_r _ [6, 7, 8, 5, 9] (by decide +kernel) (by decide +kernel)
set_option maxRecDepth 20000 in
theorem gX3_revised_X3_isPair : GoodIn wsX3_revised (va_wsS RX3 45 yX3_isPair wsX3_isPair) := goodIn_app (goodIn_of _ (by decide +kernel)) ggX3_revised_X3_isPair
set_option maxRecDepth 20000 in
theorem ggX3_revised_X3_in : GoodIn wsX3_revised wsX3_in := goodIn_r _ [9] (by decide +kernel) (by decide +kernel)
set_option maxRecDepth 20000 in
theorem gX3_revised_X3_in : GoodIn wsX3_revised (va_wsS RX3 41 yX3_in wsX3_in) := goodIn_app (goodIn_of _ (by decide +kernel)) ggX3_revised_X3_in
set_option maxRecDepth 20000 in
theorem ggX3_revised_X3_pairOf : GoodIn wsX3_revised wsX3_pairOf := goodIn_r _ [12] (by decide +kernel) (by decide +kernel)
set_option maxRecDepth 20000 in
theorem gX3_revised_X3_pairOf : GoodIn wsX3_revised (va_wsS RX3 56 yX3_pairOf wsX3_pairOf) := goodIn_app (goodIn_of _ (by decide +kernel)) ggX3_revised_X3_pairOf
set_option maxRecDepth 20000 in
theorem ggX3_revised_X3_joins : GoodIn wsX3_revised wsX3_joins := goodIn_r _ [16, 17, 18, 19, 20, 21, 22, 23, 5, 24, 25, 26, 27, 28, 29, 30, 31, 32, 33, 34, 35, 36, 37, 38, 39] (by decide +kernel) (by decide +kernel)
set_option maxRecDepth 20000 in
theorem gX3_revised_X3_joins : GoodIn wsX3_revised (wsV RX3 67 RX3 yX3_joins wsX3_joins) := goodIn_app (goodIn_of _ (by decide +kernel)) ggX3_revised_X3_joins
theorem dX3_revised_0 : decode cX3_revised 0 = .ok (.aload_n 0, 1) := by decide +kernel
theorem dX3_revised_1 : decode cX3_revised 1 = .ok (.iload_n 1, 1) := by decide +kernel
theorem dX3_revised_2 : decode cX3_revised 2 = .ok (.iload_n 2, 1) := by decide +kernel
theorem dX3_revised_3 : decode cX3_revised 3 = .ok (.invokestatic 45, 3) := by decide +kernel
theorem dX3_revised_6 : decode cX3_revised 6 = .ok (.ifCond .eq 18, 3) := by decide +kernel
theorem dX3_revised_9 : decode cX3_revised 9 = .ok (.iload_n 3, 1) := by decide +kernel
theorem dX3_revised_10 : decode cX3_revised 10 = .ok (.iconst 1, 1) := by decide +kernel
theorem dX3_revised_11 : decode cX3_revised 11 = .ok (.sipush 10000, 3) := by decide +kernel
theorem dX3_revised_14 : decode cX3_revised 14 = .ok (.invokestatic 41, 3) := by decide +kernel
theorem dX3_revised_17 : decode cX3_revised 17 = .ok (.ifCond .eq 7, 3) := by decide +kernel
theorem dX3_revised_20 : decode cX3_revised 20 = .ok (.iconst 0, 1) := by decide +kernel
theorem dX3_revised_21 : decode cX3_revised 21 = .ok (.goto 4, 3) := by decide +kernel
theorem dX3_revised_24 : decode cX3_revised 24 = .ok (.iconst 1, 1) := by decide +kernel
theorem dX3_revised_25 : decode cX3_revised 25 = .ok (.putfield 37, 3) := by decide +kernel
theorem dX3_revised_28 : decode cX3_revised 28 = .ok (.iconst 0, 1) := by decide +kernel
theorem dX3_revised_29 : decode cX3_revised 29 = .ok (.istore 4, 2) := by decide +kernel
theorem dX3_revised_31 : decode cX3_revised 31 = .ok (.iconst 0, 1) := by decide +kernel
theorem dX3_revised_32 : decode cX3_revised 32 = .ok (.istore 5, 2) := by decide +kernel
theorem dX3_revised_34 : decode cX3_revised 34 = .ok (.iload 5, 2) := by decide +kernel
theorem dX3_revised_36 : decode cX3_revised 36 = .ok (.aload_n 0, 1) := by decide +kernel
theorem dX3_revised_37 : decode cX3_revised 37 = .ok (.getfield 49, 3) := by decide +kernel
theorem dX3_revised_40 : decode cX3_revised 40 = .ok (.if_icmp .gt 60, 3) := by decide +kernel
theorem dX3_revised_43 : decode cX3_revised 43 = .ok (.aload_n 0, 1) := by decide +kernel
theorem dX3_revised_44 : decode cX3_revised 44 = .ok (.getfield 37, 3) := by decide +kernel
theorem dX3_revised_47 : decode cX3_revised 47 = .ok (.ifCond .ne 53, 3) := by decide +kernel
theorem dX3_revised_50 : decode cX3_revised 50 = .ok (.iload 4, 2) := by decide +kernel
theorem dX3_revised_52 : decode cX3_revised 52 = .ok (.aload_n 0, 1) := by decide +kernel
theorem dX3_revised_53 : decode cX3_revised 53 = .ok (.iload_n 1, 1) := by decide +kernel
theorem dX3_revised_54 : decode cX3_revised 54 = .ok (.iload_n 2, 1) := by decide +kernel
theorem dX3_revised_55 : decode cX3_revised 55 = .ok (.invokestatic 56, 3) := by decide +kernel
theorem dX3_revised_58 : decode cX3_revised 58 = .ok (.iload 5, 2) := by decide +kernel
theorem dX3_revised_60 : decode cX3_revised 60 = .ok (.aload_n 0, 1) := by decide +kernel
theorem dX3_revised_61 : decode cX3_revised 61 = .ok (.getfield 49, 3) := by decide +kernel
theorem dX3_revised_64 : decode cX3_revised 64 = .ok (.invokevirtual 67, 3) := by decide +kernel
theorem dX3_revised_67 : decode cX3_revised 67 = .ok (.aload_n 0, 1) := by decide +kernel
theorem dX3_revised_68 : decode cX3_revised 68 = .ok (.iload_n 1, 1) := by decide +kernel
theorem dX3_revised_69 : decode cX3_revised 69 = .ok (.iload_n 2, 1) := by decide +kernel
theorem dX3_revised_70 : decode cX3_revised 70 = .ok (.invokestatic 56, 3) := by decide +kernel
theorem dX3_revised_73 : decode cX3_revised 73 = .ok (.iload 5, 2) := by decide +kernel
theorem dX3_revised_75 : decode cX3_revised 75 = .ok (.iload 5, 2) := by decide +kernel
theorem dX3_revised_77 : decode cX3_revised 77 = .ok (.invokevirtual 67, 3) := by decide +kernel
theorem dX3_revised_80 : decode cX3_revised 80 = .ok (.if_icmp .eq 7, 3) := by decide +kernel
theorem dX3_revised_83 : decode cX3_revised 83 = .ok (.iconst 1, 1) := by decide +kernel
theorem dX3_revised_84 : decode cX3_revised 84 = .ok (.goto 4, 3) := by decide +kernel
theorem dX3_revised_87 : decode cX3_revised 87 = .ok (.iconst 0, 1) := by decide +kernel
theorem dX3_revised_88 : decode cX3_revised 88 = .ok (.iadd, 1) := by decide +kernel
theorem dX3_revised_89 : decode cX3_revised 89 = .ok (.istore 4, 2) := by decide +kernel
theorem dX3_revised_91 : decode cX3_revised 91 = .ok (.iload 5, 2) := by decide +kernel
theorem dX3_revised_93 : decode cX3_revised 93 = .ok (.iload_n 3, 1) := by decide +kernel
theorem dX3_revised_94 : decode cX3_revised 94 = .ok (.iadd, 1) := by decide +kernel
theorem dX3_revised_95 : decode cX3_revised 95 = .ok (.istore 5, 2) := by decide +kernel
theorem dX3_revised_97 : decode cX3_revised 97 = .ok (.goto (-63), 3) := by decide +kernel
theorem dX3_revised_100 : decode cX3_revised 100 = .ok (.iload 4, 2) := by decide +kernel
theorem dX3_revised_102 : decode cX3_revised 102 = .ok (.ireturn, 1) := by decide +kernel
set_option maxRecDepth 20000 in
theorem ggX3_take_X3_in : GoodIn wsX3_take wsX3_in := goodIn_r _ [10] (by decide +kernel) (by decide +kernel)
set_option maxRecDepth 20000 in
theorem gX3_take_X3_in : GoodIn wsX3_take (va_wsS RX3 41 yX3_in wsX3_in) := goodIn_app (goodIn_of _ (by decide +kernel)) ggX3_take_X3_in
theorem dX3_take_0 : decode cX3_take 0 = .ok (.aload_n 0, 1) := by decide +kernel
theorem dX3_take_1 : decode cX3_take 1 = .ok (.iload_n 1, 1) := by decide +kernel
theorem dX3_take_2 : decode cX3_take 2 = .ok (.iconst 1, 1) := by decide +kernel
theorem dX3_take_3 : decode cX3_take 3 = .ok (.sipush 200, 3) := by decide +kernel
theorem dX3_take_6 : decode cX3_take 6 = .ok (.invokestatic 41, 3) := by decide +kernel
theorem dX3_take_9 : decode cX3_take 9 = .ok (.ifCond .eq 7, 3) := by decide +kernel
theorem dX3_take_12 : decode cX3_take 12 = .ok (.iconst 0, 1) := by decide +kernel
theorem dX3_take_13 : decode cX3_take 13 = .ok (.goto 4, 3) := by decide +kernel
theorem dX3_take_16 : decode cX3_take 16 = .ok (.iconst 1, 1) := by decide +kernel
theorem dX3_take_17 : decode cX3_take 17 = .ok (.putfield 37, 3) := by decide +kernel
theorem dX3_take_20 : decode cX3_take 20 = .ok (.iconst 0, 1) := by decide +kernel
theorem dX3_take_21 : decode cX3_take 21 = .ok (.istore_n 2, 1) := by decide +kernel
theorem dX3_take_22 : decode cX3_take 22 = .ok (.aload_n 0, 1) := by decide +kernel
theorem dX3_take_23 : decode cX3_take 23 = .ok (.getfield 37, 3) := by decide +kernel
theorem dX3_take_26 : decode cX3_take 26 = .ok (.ifCond .ne 95, 3) := by decide +kernel
theorem dX3_take_29 : decode cX3_take 29 = .ok (.iload_n 2, 1) := by decide +kernel
theorem dX3_take_30 : decode cX3_take 30 = .ok (.iload_n 1, 1) := by decide +kernel
theorem dX3_take_31 : decode cX3_take 31 = .ok (.if_icmp .ge 90, 3) := by decide +kernel
theorem dX3_take_34 : decode cX3_take 34 = .ok (.aload_n 0, 1) := by decide +kernel
theorem dX3_take_35 : decode cX3_take 35 = .ok (.getfield 80, 3) := by decide +kernel
theorem dX3_take_38 : decode cX3_take 38 = .ok (.aload_n 0, 1) := by decide +kernel
theorem dX3_take_39 : decode cX3_take 39 = .ok (.getfield 53, 3) := by decide +kernel
theorem dX3_take_42 : decode cX3_take 42 = .ok (.if_icmp .ge 79, 3) := by decide +kernel
theorem dX3_take_45 : decode cX3_take 45 = .ok (.aload_n 0, 1) := by decide +kernel
theorem dX3_take_46 : decode cX3_take 46 = .ok (.getfield 25, 3) := by decide +kernel
theorem dX3_take_49 : decode cX3_take 49 = .ok (.aload_n 0, 1) := by decide +kernel
theorem dX3_take_50 : decode cX3_take 50 = .ok (.getfield 13, 3) := by decide +kernel
theorem dX3_take_53 : decode cX3_take 53 = .ok (.aload_n 0, 1) := by decide +kernel
theorem dX3_take_54 : decode cX3_take 54 = .ok (.getfield 80, 3) := by decide +kernel
theorem dX3_take_57 : decode cX3_take 57 = .ok (.iaload, 1) := by decide +kernel
theorem dX3_take_58 : decode cX3_take 58 = .ok (.iaload, 1) := by decide +kernel
theorem dX3_take_59 : decode cX3_take 59 = .ok (.iconst 1, 1) := by decide +kernel
theorem dX3_take_60 : decode cX3_take 60 = .ok (.isub, 1) := by decide +kernel
theorem dX3_take_61 : decode cX3_take 61 = .ok (.istore_n 3, 1) := by decide +kernel
theorem dX3_take_62 : decode cX3_take 62 = .ok (.iload_n 3, 1) := by decide +kernel
theorem dX3_take_63 : decode cX3_take 63 = .ok (.iconst (-1), 1) := by decide +kernel
theorem dX3_take_64 : decode cX3_take 64 = .ok (.if_icmp .eq 21, 3) := by decide +kernel
theorem dX3_take_67 : decode cX3_take 67 = .ok (.aload_n 0, 1) := by decide +kernel
theorem dX3_take_68 : decode cX3_take 68 = .ok (.getfield 16, 3) := by decide +kernel
theorem dX3_take_71 : decode cX3_take 71 = .ok (.iload_n 3, 1) := by decide +kernel
theorem dX3_take_72 : decode cX3_take 72 = .ok (.iaload, 1) := by decide +kernel
theorem dX3_take_73 : decode cX3_take 73 = .ok (.aload_n 0, 1) := by decide +kernel
theorem dX3_take_74 : decode cX3_take 74 = .ok (.getfield 16, 3) := by decide +kernel
theorem dX3_take_77 : decode cX3_take 77 = .ok (.aload_n 0, 1) := by decide +kernel
theorem dX3_take_78 : decode cX3_take 78 = .ok (.getfield 80, 3) := by decide +kernel
theorem dX3_take_81 : decode cX3_take 81 = .ok (.iaload, 1) := by decide +kernel
theorem dX3_take_82 : decode cX3_take 82 = .ok (.if_icmp .gt 23, 3) := by decide +kernel
theorem dX3_take_85 : decode cX3_take 85 = .ok (.aload_n 0, 1) := by decide +kernel
theorem dX3_take_86 : decode cX3_take 86 = .ok (.getfield 25, 3) := by decide +kernel
theorem dX3_take_89 : decode cX3_take 89 = .ok (.aload_n 0, 1) := by decide +kernel
theorem dX3_take_90 : decode cX3_take 90 = .ok (.getfield 13, 3) := by decide +kernel
theorem dX3_take_93 : decode cX3_take 93 = .ok (.aload_n 0, 1) := by decide +kernel
theorem dX3_take_94 : decode cX3_take 94 = .ok (.getfield 80, 3) := by decide +kernel
theorem dX3_take_97 : decode cX3_take 97 = .ok (.iaload, 1) := by decide +kernel
theorem dX3_take_98 : decode cX3_take 98 = .ok (.aload_n 0, 1) := by decide +kernel
theorem dX3_take_99 : decode cX3_take 99 = .ok (.getfield 80, 3) := by decide +kernel
theorem dX3_take_102 : decode cX3_take 102 = .ok (.iconst 1, 1) := by decide +kernel
theorem dX3_take_103 : decode cX3_take 103 = .ok (.iadd, 1) := by decide +kernel
theorem dX3_take_104 : decode cX3_take 104 = .ok (.iastore, 1) := by decide +kernel
theorem dX3_take_105 : decode cX3_take 105 = .ok (.aload_n 0, 1) := by decide +kernel
theorem dX3_take_106 : decode cX3_take 106 = .ok (.dup, 1) := by decide +kernel
theorem dX3_take_107 : decode cX3_take 107 = .ok (.getfield 80, 3) := by decide +kernel
theorem dX3_take_110 : decode cX3_take 110 = .ok (.iconst 1, 1) := by decide +kernel
theorem dX3_take_111 : decode cX3_take 111 = .ok (.iadd, 1) := by decide +kernel
theorem dX3_take_112 : decode cX3_take 112 = .ok (.putfield 80, 3) := by decide +kernel
theorem dX3_take_115 : decode cX3_take 115 = .ok (.iinc 2 1, 3) := by decide +kernel
theorem dX3_take_118 : decode cX3_take 118 = .ok (.goto (-96), 3) := by decide +kernel
theorem dX3_take_121 : decode cX3_take 121 = .ok (.iload_n 2, 1) := by decide +kernel
theorem dX3_take_122 : decode cX3_take 122 = .ok (.ireturn, 1) := by decide +kernel
theorem dX3_lag_0 : decode cX3_lag 0 = .ok (.aload_n 0, 1) := by decide +kernel
theorem dX3_lag_1 : decode cX3_lag 1 = .ok (.iconst 0, 1) := by decide +kernel
theorem dX3_lag_2 : decode cX3_lag 2 = .ok (.putfield 37, 3) := by decide +kernel
theorem dX3_lag_5 : decode cX3_lag 5 = .ok (.aload_n 0, 1) := by decide +kernel
theorem dX3_lag_6 : decode cX3_lag 6 = .ok (.getfield 53, 3) := by decide +kernel
theorem dX3_lag_9 : decode cX3_lag 9 = .ok (.aload_n 0, 1) := by decide +kernel
theorem dX3_lag_10 : decode cX3_lag 10 = .ok (.getfield 80, 3) := by decide +kernel
theorem dX3_lag_13 : decode cX3_lag 13 = .ok (.isub, 1) := by decide +kernel
theorem dX3_lag_14 : decode cX3_lag 14 = .ok (.ireturn, 1) := by decide +kernel
set_option maxRecDepth 20000 in
theorem ggX3_online_X3_isPair : GoodIn wsX3_online wsX3_isPair := goodIn_r _ [7, 8, 9, 6, 10] (by decide +kernel) (by decide +kernel)
set_option maxRecDepth 20000 in
theorem gX3_online_X3_isPair : GoodIn wsX3_online (va_wsS RX3 45 yX3_isPair wsX3_isPair) := goodIn_app (goodIn_of _ (by decide +kernel)) ggX3_online_X3_isPair
set_option maxRecDepth 20000 in
theorem ggX3_online_X3_pairOf : GoodIn wsX3_online wsX3_pairOf := goodIn_r _ [13] (by decide +kernel) (by decide +kernel)
set_option maxRecDepth 20000 in
theorem gX3_online_X3_pairOf : GoodIn wsX3_online (va_wsS RX3 56 yX3_pairOf wsX3_pairOf) := goodIn_app (goodIn_of _ (by decide +kernel)) ggX3_online_X3_pairOf
set_option maxRecDepth 20000 in
theorem ggX3_online_X3_fresh : GoodIn wsX3_online wsX3_fresh := goodIn_r _ [17, 18, 19, 20, 21, 22, 23, 24, 25, 26, 27, 28, 29, 30, 31, 32, 33, 34] (by decide +kernel) (by decide +kernel)
set_option maxRecDepth 20000 in
theorem gX3_online_X3_fresh : GoodIn wsX3_online (wsV RX3 64 RX3 yX3_fresh wsX3_fresh) := goodIn_app (goodIn_of _ (by decide +kernel)) ggX3_online_X3_fresh
theorem dX3_online_0 : decode cX3_online 0 = .ok (.aload_n 0, 1) := by decide +kernel
theorem dX3_online_1 : decode cX3_online 1 = .ok (.iload_n 1, 1) := by decide +kernel
theorem dX3_online_2 : decode cX3_online 2 = .ok (.iload_n 2, 1) := by decide +kernel
theorem dX3_online_3 : decode cX3_online 3 = .ok (.invokestatic 45, 3) := by decide +kernel
theorem dX3_online_6 : decode cX3_online 6 = .ok (.ifCond .eq 7, 3) := by decide +kernel
theorem dX3_online_9 : decode cX3_online 9 = .ok (.iconst 0, 1) := by decide +kernel
theorem dX3_online_10 : decode cX3_online 10 = .ok (.goto 4, 3) := by decide +kernel
theorem dX3_online_13 : decode cX3_online 13 = .ok (.iconst 1, 1) := by decide +kernel
theorem dX3_online_14 : decode cX3_online 14 = .ok (.putfield 37, 3) := by decide +kernel
theorem dX3_online_17 : decode cX3_online 17 = .ok (.aload_n 0, 1) := by decide +kernel
theorem dX3_online_18 : decode cX3_online 18 = .ok (.getfield 37, 3) := by decide +kernel
theorem dX3_online_21 : decode cX3_online 21 = .ok (.ifCond .le 7, 3) := by decide +kernel
theorem dX3_online_24 : decode cX3_online 24 = .ok (.iconst 0, 1) := by decide +kernel
theorem dX3_online_25 : decode cX3_online 25 = .ok (.goto 23, 3) := by decide +kernel
theorem dX3_online_28 : decode cX3_online 28 = .ok (.aload_n 0, 1) := by decide +kernel
theorem dX3_online_29 : decode cX3_online 29 = .ok (.aload_n 0, 1) := by decide +kernel
theorem dX3_online_30 : decode cX3_online 30 = .ok (.getfield 25, 3) := by decide +kernel
theorem dX3_online_33 : decode cX3_online 33 = .ok (.iload_n 1, 1) := by decide +kernel
theorem dX3_online_34 : decode cX3_online 34 = .ok (.iload_n 2, 1) := by decide +kernel
theorem dX3_online_35 : decode cX3_online 35 = .ok (.invokestatic 56, 3) := by decide +kernel
theorem dX3_online_38 : decode cX3_online 38 = .ok (.iaload, 1) := by decide +kernel
theorem dX3_online_39 : decode cX3_online 39 = .ok (.iconst 1, 1) := by decide +kernel
theorem dX3_online_40 : decode cX3_online 40 = .ok (.isub, 1) := by decide +kernel
theorem dX3_online_41 : decode cX3_online 41 = .ok (.aload_n 0, 1) := by decide +kernel
theorem dX3_online_42 : decode cX3_online 42 = .ok (.getfield 49, 3) := by decide +kernel
theorem dX3_online_45 : decode cX3_online 45 = .ok (.invokevirtual 64, 3) := by decide +kernel
theorem dX3_online_48 : decode cX3_online 48 = .ok (.ireturn, 1) := by decide +kernel
set_option maxRecDepth 20000 in
theorem ggX3_skew_X3_fresh : GoodIn wsX3_skew wsX3_fresh := goodIn_r _ [8, 9, 10, 11, 18, 19, 20, 21, 22, 23, 24, 25, 26, 27, 28, 29, 30, 31] (by decide +kernel) (by decide +kernel)
set_option maxRecDepth 20000 in
theorem gX3_skew_X3_fresh : GoodIn wsX3_skew (wsV RX3 64 RX3 yX3_fresh wsX3_fresh) := goodIn_app (goodIn_of _ (by decide +kernel)) ggX3_skew_X3_fresh
set_option maxRecDepth 20000 in
theorem ggX3_skew_X3_joins : GoodIn wsX3_skew wsX3_joins := goodIn_r _ [15, 16, 11, 9, 17, 4, 5, 6, 7, 8, 10, 18, 19, 20, 21, 22, 23, 24, 25, 26, 27, 28, 29, 30, 31] (by decide +kernel) (by decide +kernel)
set_option maxRecDepth 20000 in
theorem gX3_skew_X3_joins : GoodIn wsX3_skew (wsV RX3 67 RX3 yX3_joins wsX3_joins) := goodIn_app (goodIn_of _ (by decide +kernel)) ggX3_skew_X3_joins
theorem dX3_skew_0 : decode cX3_skew 0 = .ok (.aload_n 0, 1) := by decide +kernel
theorem dX3_skew_1 : decode cX3_skew 1 = .ok (.iconst 0, 1) := by decide +kernel
theorem dX3_skew_2 : decode cX3_skew 2 = .ok (.putfield 37, 3) := by decide +kernel
theorem dX3_skew_5 : decode cX3_skew 5 = .ok (.iconst 0, 1) := by decide +kernel
theorem dX3_skew_6 : decode cX3_skew 6 = .ok (.istore_n 1, 1) := by decide +kernel
theorem dX3_skew_7 : decode cX3_skew 7 = .ok (.iconst 0, 1) := by decide +kernel
theorem dX3_skew_8 : decode cX3_skew 8 = .ok (.istore_n 2, 1) := by decide +kernel
theorem dX3_skew_9 : decode cX3_skew 9 = .ok (.iload_n 2, 1) := by decide +kernel
theorem dX3_skew_10 : decode cX3_skew 10 = .ok (.bipush 60, 2) := by decide +kernel
theorem dX3_skew_12 : decode cX3_skew 12 = .ok (.if_icmp .ge 49, 3) := by decide +kernel
theorem dX3_skew_15 : decode cX3_skew 15 = .ok (.iload_n 1, 1) := by decide +kernel
theorem dX3_skew_16 : decode cX3_skew 16 = .ok (.aload_n 0, 1) := by decide +kernel
theorem dX3_skew_17 : decode cX3_skew 17 = .ok (.aload_n 0, 1) := by decide +kernel
theorem dX3_skew_18 : decode cX3_skew 18 = .ok (.getfield 25, 3) := by decide +kernel
theorem dX3_skew_21 : decode cX3_skew 21 = .ok (.iload_n 2, 1) := by decide +kernel
theorem dX3_skew_22 : decode cX3_skew 22 = .ok (.iaload, 1) := by decide +kernel
theorem dX3_skew_23 : decode cX3_skew 23 = .ok (.iconst 1, 1) := by decide +kernel
theorem dX3_skew_24 : decode cX3_skew 24 = .ok (.isub, 1) := by decide +kernel
theorem dX3_skew_25 : decode cX3_skew 25 = .ok (.aload_n 0, 1) := by decide +kernel
theorem dX3_skew_26 : decode cX3_skew 26 = .ok (.getfield 49, 3) := by decide +kernel
theorem dX3_skew_29 : decode cX3_skew 29 = .ok (.invokevirtual 64, 3) := by decide +kernel
theorem dX3_skew_32 : decode cX3_skew 32 = .ok (.aload_n 0, 1) := by decide +kernel
theorem dX3_skew_33 : decode cX3_skew 33 = .ok (.iload_n 2, 1) := by decide +kernel
theorem dX3_skew_34 : decode cX3_skew 34 = .ok (.aload_n 0, 1) := by decide +kernel
theorem dX3_skew_35 : decode cX3_skew 35 = .ok (.getfield 49, 3) := by decide +kernel
theorem dX3_skew_38 : decode cX3_skew 38 = .ok (.aload_n 0, 1) := by decide +kernel
theorem dX3_skew_39 : decode cX3_skew 39 = .ok (.getfield 49, 3) := by decide +kernel
theorem dX3_skew_42 : decode cX3_skew 42 = .ok (.invokevirtual 67, 3) := by decide +kernel
theorem dX3_skew_45 : decode cX3_skew 45 = .ok (.if_icmp .eq 7, 3) := by decide +kernel
theorem dX3_skew_48 : decode cX3_skew 48 = .ok (.iconst 1, 1) := by decide +kernel
theorem dX3_skew_49 : decode cX3_skew 49 = .ok (.goto 4, 3) := by decide +kernel
theorem dX3_skew_52 : decode cX3_skew 52 = .ok (.iconst 0, 1) := by decide +kernel
theorem dX3_skew_53 : decode cX3_skew 53 = .ok (.iadd, 1) := by decide +kernel
theorem dX3_skew_54 : decode cX3_skew 54 = .ok (.istore_n 1, 1) := by decide +kernel
theorem dX3_skew_55 : decode cX3_skew 55 = .ok (.iinc 2 1, 3) := by decide +kernel
theorem dX3_skew_58 : decode cX3_skew 58 = .ok (.goto (-49), 3) := by decide +kernel
theorem dX3_skew_61 : decode cX3_skew 61 = .ok (.iload_n 1, 1) := by decide +kernel
theorem dX3_skew_62 : decode cX3_skew 62 = .ok (.ireturn, 1) := by decide +kernel
set_option maxRecDepth 20000 in
theorem ggX3_serve_X3_isPair : GoodIn wsX3_serve wsX3_isPair := goodIn_r _ [11, 12, 13, 10, 14] (by decide +kernel) (by decide +kernel)
set_option maxRecDepth 20000 in
theorem gX3_serve_X3_isPair : GoodIn wsX3_serve (va_wsS RX3 45 yX3_isPair wsX3_isPair) := goodIn_app (goodIn_of _ (by decide +kernel)) ggX3_serve_X3_isPair
set_option maxRecDepth 20000 in
theorem ggX3_serve_X3_pairOf : GoodIn wsX3_serve wsX3_pairOf := goodIn_r _ [17] (by decide +kernel) (by decide +kernel)
set_option maxRecDepth 20000 in
theorem gX3_serve_X3_pairOf : GoodIn wsX3_serve (va_wsS RX3 56 yX3_pairOf wsX3_pairOf) := goodIn_app (goodIn_of _ (by decide +kernel)) ggX3_serve_X3_pairOf
set_option maxRecDepth 20000 in
theorem ggX3_serve_X3_fresh : GoodIn wsX3_serve wsX3_fresh := goodIn_r _ [21, 22, 23, 24, 25, 26, 27, 28, 29, 30, 31, 32, 33, 34, 35, 36, 37, 38] (by decide +kernel) (by decide +kernel)
set_option maxRecDepth 20000 in
theorem gX3_serve_X3_fresh : GoodIn wsX3_serve (wsV RX3 64 RX3 yX3_fresh wsX3_fresh) := goodIn_app (goodIn_of _ (by decide +kernel)) ggX3_serve_X3_fresh
theorem dX3_serve_0 : decode cX3_serve 0 = .ok (.aload_n 0, 1) := by decide +kernel
theorem dX3_serve_1 : decode cX3_serve 1 = .ok (.iload_n 1, 1) := by decide +kernel
theorem dX3_serve_2 : decode cX3_serve 2 = .ok (.iload_n 2, 1) := by decide +kernel
theorem dX3_serve_3 : decode cX3_serve 3 = .ok (.invokestatic 45, 3) := by decide +kernel
theorem dX3_serve_6 : decode cX3_serve 6 = .ok (.ifCond .ne 7, 3) := by decide +kernel
theorem dX3_serve_9 : decode cX3_serve 9 = .ok (.iconst 1, 1) := by decide +kernel
theorem dX3_serve_10 : decode cX3_serve 10 = .ok (.goto 18, 3) := by decide +kernel
theorem dX3_serve_13 : decode cX3_serve 13 = .ok (.aload_n 0, 1) := by decide +kernel
theorem dX3_serve_14 : decode cX3_serve 14 = .ok (.getfield 83, 3) := by decide +kernel
theorem dX3_serve_17 : decode cX3_serve 17 = .ok (.sipush 200, 3) := by decide +kernel
theorem dX3_serve_20 : decode cX3_serve 20 = .ok (.if_icmp .ne 7, 3) := by decide +kernel
theorem dX3_serve_23 : decode cX3_serve 23 = .ok (.iconst 2, 1) := by decide +kernel
theorem dX3_serve_24 : decode cX3_serve 24 = .ok (.goto 4, 3) := by decide +kernel
theorem dX3_serve_27 : decode cX3_serve 27 = .ok (.iconst 0, 1) := by decide +kernel
theorem dX3_serve_28 : decode cX3_serve 28 = .ok (.putfield 37, 3) := by decide +kernel
theorem dX3_serve_31 : decode cX3_serve 31 = .ok (.aload_n 0, 1) := by decide +kernel
theorem dX3_serve_32 : decode cX3_serve 32 = .ok (.getfield 37, 3) := by decide +kernel
theorem dX3_serve_35 : decode cX3_serve 35 = .ok (.ifCond .le 5, 3) := by decide +kernel
theorem dX3_serve_38 : decode cX3_serve 38 = .ok (.iconst 0, 1) := by decide +kernel
theorem dX3_serve_39 : decode cX3_serve 39 = .ok (.ireturn, 1) := by decide +kernel
theorem dX3_serve_40 : decode cX3_serve 40 = .ok (.iload_n 1, 1) := by decide +kernel
theorem dX3_serve_41 : decode cX3_serve 41 = .ok (.iload_n 2, 1) := by decide +kernel
theorem dX3_serve_42 : decode cX3_serve 42 = .ok (.invokestatic 56, 3) := by decide +kernel
theorem dX3_serve_45 : decode cX3_serve 45 = .ok (.istore_n 3, 1) := by decide +kernel
theorem dX3_serve_46 : decode cX3_serve 46 = .ok (.aload_n 0, 1) := by decide +kernel
theorem dX3_serve_47 : decode cX3_serve 47 = .ok (.getfield 28, 3) := by decide +kernel
theorem dX3_serve_50 : decode cX3_serve 50 = .ok (.aload_n 0, 1) := by decide +kernel
theorem dX3_serve_51 : decode cX3_serve 51 = .ok (.getfield 83, 3) := by decide +kernel
theorem dX3_serve_54 : decode cX3_serve 54 = .ok (.iload_n 3, 1) := by decide +kernel
theorem dX3_serve_55 : decode cX3_serve 55 = .ok (.iastore, 1) := by decide +kernel
theorem dX3_serve_56 : decode cX3_serve 56 = .ok (.aload_n 0, 1) := by decide +kernel
theorem dX3_serve_57 : decode cX3_serve 57 = .ok (.getfield 31, 3) := by decide +kernel
theorem dX3_serve_60 : decode cX3_serve 60 = .ok (.aload_n 0, 1) := by decide +kernel
theorem dX3_serve_61 : decode cX3_serve 61 = .ok (.getfield 83, 3) := by decide +kernel
theorem dX3_serve_64 : decode cX3_serve 64 = .ok (.aload_n 0, 1) := by decide +kernel
theorem dX3_serve_65 : decode cX3_serve 65 = .ok (.getfield 49, 3) := by decide +kernel
theorem dX3_serve_68 : decode cX3_serve 68 = .ok (.iastore, 1) := by decide +kernel
theorem dX3_serve_69 : decode cX3_serve 69 = .ok (.aload_n 0, 1) := by decide +kernel
theorem dX3_serve_70 : decode cX3_serve 70 = .ok (.getfield 34, 3) := by decide +kernel
theorem dX3_serve_73 : decode cX3_serve 73 = .ok (.aload_n 0, 1) := by decide +kernel
theorem dX3_serve_74 : decode cX3_serve 74 = .ok (.getfield 83, 3) := by decide +kernel
theorem dX3_serve_77 : decode cX3_serve 77 = .ok (.aload_n 0, 1) := by decide +kernel
theorem dX3_serve_78 : decode cX3_serve 78 = .ok (.aload_n 0, 1) := by decide +kernel
theorem dX3_serve_79 : decode cX3_serve 79 = .ok (.getfield 25, 3) := by decide +kernel
theorem dX3_serve_82 : decode cX3_serve 82 = .ok (.iload_n 3, 1) := by decide +kernel
theorem dX3_serve_83 : decode cX3_serve 83 = .ok (.iaload, 1) := by decide +kernel
theorem dX3_serve_84 : decode cX3_serve 84 = .ok (.iconst 1, 1) := by decide +kernel
theorem dX3_serve_85 : decode cX3_serve 85 = .ok (.isub, 1) := by decide +kernel
theorem dX3_serve_86 : decode cX3_serve 86 = .ok (.aload_n 0, 1) := by decide +kernel
theorem dX3_serve_87 : decode cX3_serve 87 = .ok (.getfield 49, 3) := by decide +kernel
theorem dX3_serve_90 : decode cX3_serve 90 = .ok (.invokevirtual 64, 3) := by decide +kernel
theorem dX3_serve_93 : decode cX3_serve 93 = .ok (.iastore, 1) := by decide +kernel
theorem dX3_serve_94 : decode cX3_serve 94 = .ok (.aload_n 0, 1) := by decide +kernel
theorem dX3_serve_95 : decode cX3_serve 95 = .ok (.dup, 1) := by decide +kernel
theorem dX3_serve_96 : decode cX3_serve 96 = .ok (.getfield 83, 3) := by decide +kernel
theorem dX3_serve_99 : decode cX3_serve 99 = .ok (.iconst 1, 1) := by decide +kernel
theorem dX3_serve_100 : decode cX3_serve 100 = .ok (.iadd, 1) := by decide +kernel
theorem dX3_serve_101 : decode cX3_serve 101 = .ok (.putfield 83, 3) := by decide +kernel
theorem dX3_serve_104 : decode cX3_serve 104 = .ok (.aload_n 0, 1) := by decide +kernel
theorem dX3_serve_105 : decode cX3_serve 105 = .ok (.getfield 34, 3) := by decide +kernel
theorem dX3_serve_108 : decode cX3_serve 108 = .ok (.aload_n 0, 1) := by decide +kernel
theorem dX3_serve_109 : decode cX3_serve 109 = .ok (.getfield 83, 3) := by decide +kernel
theorem dX3_serve_112 : decode cX3_serve 112 = .ok (.iconst 1, 1) := by decide +kernel
theorem dX3_serve_113 : decode cX3_serve 113 = .ok (.isub, 1) := by decide +kernel
theorem dX3_serve_114 : decode cX3_serve 114 = .ok (.iaload, 1) := by decide +kernel
theorem dX3_serve_115 : decode cX3_serve 115 = .ok (.ireturn, 1) := by decide +kernel
theorem dX3_servings_0 : decode cX3_servings 0 = .ok (.aload_n 0, 1) := by decide +kernel
theorem dX3_servings_1 : decode cX3_servings 1 = .ok (.iconst 0, 1) := by decide +kernel
theorem dX3_servings_2 : decode cX3_servings 2 = .ok (.putfield 37, 3) := by decide +kernel
theorem dX3_servings_5 : decode cX3_servings 5 = .ok (.aload_n 0, 1) := by decide +kernel
theorem dX3_servings_6 : decode cX3_servings 6 = .ok (.getfield 83, 3) := by decide +kernel
theorem dX3_servings_9 : decode cX3_servings 9 = .ok (.ireturn, 1) := by decide +kernel
set_option maxRecDepth 20000 in
theorem ggX3_asksServing_X3_in : GoodIn wsX3_asksServing wsX3_in := goodIn_r _ [6] (by decide +kernel) (by decide +kernel)
set_option maxRecDepth 20000 in
theorem gX3_asksServing_X3_in : GoodIn wsX3_asksServing (va_wsS RX3 41 yX3_in wsX3_in) := goodIn_app (goodIn_of _ (by decide +kernel)) ggX3_asksServing_X3_in
theorem dX3_asksServing_0 : decode cX3_asksServing 0 = .ok (.aload_n 0, 1) := by decide +kernel
theorem dX3_asksServing_1 : decode cX3_asksServing 1 = .ok (.iload_n 1, 1) := by decide +kernel
theorem dX3_asksServing_2 : decode cX3_asksServing 2 = .ok (.iconst 0, 1) := by decide +kernel
theorem dX3_asksServing_3 : decode cX3_asksServing 3 = .ok (.aload_n 0, 1) := by decide +kernel
theorem dX3_asksServing_4 : decode cX3_asksServing 4 = .ok (.getfield 83, 3) := by decide +kernel
theorem dX3_asksServing_7 : decode cX3_asksServing 7 = .ok (.iconst 1, 1) := by decide +kernel
theorem dX3_asksServing_8 : decode cX3_asksServing 8 = .ok (.isub, 1) := by decide +kernel
theorem dX3_asksServing_9 : decode cX3_asksServing 9 = .ok (.invokestatic 41, 3) := by decide +kernel
theorem dX3_asksServing_12 : decode cX3_asksServing 12 = .ok (.ifCond .eq 7, 3) := by decide +kernel
theorem dX3_asksServing_15 : decode cX3_asksServing 15 = .ok (.iconst 0, 1) := by decide +kernel
theorem dX3_asksServing_16 : decode cX3_asksServing 16 = .ok (.goto 4, 3) := by decide +kernel
theorem dX3_asksServing_19 : decode cX3_asksServing 19 = .ok (.iconst 1, 1) := by decide +kernel
theorem dX3_asksServing_20 : decode cX3_asksServing 20 = .ok (.putfield 37, 3) := by decide +kernel
theorem dX3_asksServing_23 : decode cX3_asksServing 23 = .ok (.aload_n 0, 1) := by decide +kernel
theorem dX3_asksServing_24 : decode cX3_asksServing 24 = .ok (.getfield 37, 3) := by decide +kernel
theorem dX3_asksServing_27 : decode cX3_asksServing 27 = .ok (.ifCond .ne 7, 3) := by decide +kernel
theorem dX3_asksServing_30 : decode cX3_asksServing 30 = .ok (.iconst 1, 1) := by decide +kernel
theorem dX3_asksServing_31 : decode cX3_asksServing 31 = .ok (.goto 4, 3) := by decide +kernel
theorem dX3_asksServing_34 : decode cX3_asksServing 34 = .ok (.iconst 0, 1) := by decide +kernel
theorem dX3_asksServing_35 : decode cX3_asksServing 35 = .ok (.ireturn, 1) := by decide +kernel
set_option maxRecDepth 20000 in
theorem ggX3_served_X3_asksServing : GoodIn wsX3_served wsX3_asksServing := goodIn_r _ [6, 7, 8, 9, 10, 5, 11, 12, 13, 14, 15, 16, 17, 18, 19, 20, 21, 22, 23, 24, 25] (by decide +kernel) (by decide +kernel)
set_option maxRecDepth 20000 in
theorem gX3_served_X3_asksServing : GoodIn wsX3_served (wsV RX3 86 RX3 yX3_asksServing wsX3_asksServing) := goodIn_app (goodIn_of _ (by decide +kernel)) ggX3_served_X3_asksServing
theorem dX3_served_0 : decode cX3_served 0 = .ok (.aload_n 0, 1) := by decide +kernel
theorem dX3_served_1 : decode cX3_served 1 = .ok (.iload_n 1, 1) := by decide +kernel
theorem dX3_served_2 : decode cX3_served 2 = .ok (.invokevirtual 86, 3) := by decide +kernel
theorem dX3_served_5 : decode cX3_served 5 = .ok (.ifCond .eq 12, 3) := by decide +kernel
theorem dX3_served_8 : decode cX3_served 8 = .ok (.aload_n 0, 1) := by decide +kernel
theorem dX3_served_9 : decode cX3_served 9 = .ok (.getfield 34, 3) := by decide +kernel
theorem dX3_served_12 : decode cX3_served 12 = .ok (.iload_n 1, 1) := by decide +kernel
theorem dX3_served_13 : decode cX3_served 13 = .ok (.iaload, 1) := by decide +kernel
theorem dX3_served_14 : decode cX3_served 14 = .ok (.goto 4, 3) := by decide +kernel
theorem dX3_served_17 : decode cX3_served 17 = .ok (.iconst 0, 1) := by decide +kernel
theorem dX3_served_18 : decode cX3_served 18 = .ok (.ireturn, 1) := by decide +kernel
set_option maxRecDepth 20000 in
theorem ggX3_isRight_X3_joins : GoodIn wsX3_isRight wsX3_joins := goodIn_r _ [8, 9, 10, 11, 12, 13, 14, 15, 7, 16, 17, 18, 19, 20, 21, 22, 23, 24, 25, 26, 27, 28, 29, 30, 31] (by decide +kernel) (by decide +kernel)
set_option maxRecDepth 20000 in
theorem gX3_isRight_X3_joins : GoodIn wsX3_isRight (wsV RX3 67 RX3 yX3_joins wsX3_joins) := goodIn_app (goodIn_of _ (by decide +kernel)) ggX3_isRight_X3_joins
theorem dX3_isRight_0 : decode cX3_isRight 0 = .ok (.aload_n 0, 1) := by decide +kernel
theorem dX3_isRight_1 : decode cX3_isRight 1 = .ok (.getfield 34, 3) := by decide +kernel
theorem dX3_isRight_4 : decode cX3_isRight 4 = .ok (.iload_n 1, 1) := by decide +kernel
theorem dX3_isRight_5 : decode cX3_isRight 5 = .ok (.iaload, 1) := by decide +kernel
theorem dX3_isRight_6 : decode cX3_isRight 6 = .ok (.aload_n 0, 1) := by decide +kernel
theorem dX3_isRight_7 : decode cX3_isRight 7 = .ok (.aload_n 0, 1) := by decide +kernel
theorem dX3_isRight_8 : decode cX3_isRight 8 = .ok (.getfield 28, 3) := by decide +kernel
theorem dX3_isRight_11 : decode cX3_isRight 11 = .ok (.iload_n 1, 1) := by decide +kernel
theorem dX3_isRight_12 : decode cX3_isRight 12 = .ok (.iaload, 1) := by decide +kernel
theorem dX3_isRight_13 : decode cX3_isRight 13 = .ok (.aload_n 0, 1) := by decide +kernel
theorem dX3_isRight_14 : decode cX3_isRight 14 = .ok (.getfield 31, 3) := by decide +kernel
theorem dX3_isRight_17 : decode cX3_isRight 17 = .ok (.iload_n 1, 1) := by decide +kernel
theorem dX3_isRight_18 : decode cX3_isRight 18 = .ok (.iaload, 1) := by decide +kernel
theorem dX3_isRight_19 : decode cX3_isRight 19 = .ok (.aload_n 0, 1) := by decide +kernel
theorem dX3_isRight_20 : decode cX3_isRight 20 = .ok (.getfield 31, 3) := by decide +kernel
theorem dX3_isRight_23 : decode cX3_isRight 23 = .ok (.iload_n 1, 1) := by decide +kernel
theorem dX3_isRight_24 : decode cX3_isRight 24 = .ok (.iaload, 1) := by decide +kernel
theorem dX3_isRight_25 : decode cX3_isRight 25 = .ok (.invokevirtual 67, 3) := by decide +kernel
theorem dX3_isRight_28 : decode cX3_isRight 28 = .ok (.if_icmp .ne 7, 3) := by decide +kernel
theorem dX3_isRight_31 : decode cX3_isRight 31 = .ok (.iconst 1, 1) := by decide +kernel
theorem dX3_isRight_32 : decode cX3_isRight 32 = .ok (.goto 4, 3) := by decide +kernel
theorem dX3_isRight_35 : decode cX3_isRight 35 = .ok (.iconst 0, 1) := by decide +kernel
theorem dX3_isRight_36 : decode cX3_isRight 36 = .ok (.ireturn, 1) := by decide +kernel
set_option maxRecDepth 20000 in
theorem ggX3_isSound_X3_asksServing : GoodIn wsX3_isSound wsX3_asksServing := goodIn_r _ [5, 6, 7, 8, 9, 4, 10, 31, 32, 33, 34, 35, 36, 37, 38, 39, 40, 41, 42, 43, 44] (by decide +kernel) (by decide +kernel)
set_option maxRecDepth 20000 in
theorem gX3_isSound_X3_asksServing : GoodIn wsX3_isSound (wsV RX3 86 RX3 yX3_asksServing wsX3_asksServing) := goodIn_app (goodIn_of _ (by decide +kernel)) ggX3_isSound_X3_asksServing
set_option maxRecDepth 20000 in
theorem ggX3_isSound_X3_isRight : GoodIn wsX3_isSound wsX3_isRight := goodIn_r _ [14, 15, 16, 17, 18, 19, 20, 4, 21, 22, 23, 24, 25, 26, 27, 28, 29, 30, 31, 32, 33, 34, 35, 36, 37, 38, 39, 40, 41, 42, 43, 44] (by decide +kernel) (by decide +kernel)
set_option maxRecDepth 20000 in
theorem gX3_isSound_X3_isRight : GoodIn wsX3_isSound (wsV RX3 89 RX3 yX3_isRight wsX3_isRight) := goodIn_app (goodIn_of _ (by decide +kernel)) ggX3_isSound_X3_isRight
theorem dX3_isSound_0 : decode cX3_isSound 0 = .ok (.aload_n 0, 1) := by decide +kernel
theorem dX3_isSound_1 : decode cX3_isSound 1 = .ok (.iload_n 1, 1) := by decide +kernel
theorem dX3_isSound_2 : decode cX3_isSound 2 = .ok (.invokevirtual 86, 3) := by decide +kernel
theorem dX3_isSound_5 : decode cX3_isSound 5 = .ok (.ifCond .eq 15, 3) := by decide +kernel
theorem dX3_isSound_8 : decode cX3_isSound 8 = .ok (.aload_n 0, 1) := by decide +kernel
theorem dX3_isSound_9 : decode cX3_isSound 9 = .ok (.iload_n 1, 1) := by decide +kernel
theorem dX3_isSound_10 : decode cX3_isSound 10 = .ok (.invokevirtual 89, 3) := by decide +kernel
theorem dX3_isSound_13 : decode cX3_isSound 13 = .ok (.ifCond .eq 7, 3) := by decide +kernel
theorem dX3_isSound_16 : decode cX3_isSound 16 = .ok (.iconst 1, 1) := by decide +kernel
theorem dX3_isSound_17 : decode cX3_isSound 17 = .ok (.goto 4, 3) := by decide +kernel
theorem dX3_isSound_20 : decode cX3_isSound 20 = .ok (.iconst 0, 1) := by decide +kernel
theorem dX3_isSound_21 : decode cX3_isSound 21 = .ok (.ireturn, 1) := by decide +kernel
set_option maxRecDepth 20000 in
theorem ggX3_unsound_X3_isRight : GoodIn wsX3_unsound wsX3_isRight := goodIn_r _ [7, 8, 9, 10, 11, 12, 13, 6, 14, 15, 16, 17, 18, 19, 20, 21, 22, 23, 24, 25, 26, 27, 28, 29, 30, 31, 32, 33, 34, 35, 36, 37] (by decide +kernel) (by decide +kernel)
set_option maxRecDepth 20000 in
theorem gX3_unsound_X3_isRight : GoodIn wsX3_unsound (wsV RX3 89 RX3 yX3_isRight wsX3_isRight) := goodIn_app (goodIn_of _ (by decide +kernel)) ggX3_unsound_X3_isRight
theorem dX3_unsound_0 : decode cX3_unsound 0 = .ok (.aload_n 0, 1) := by decide +kernel
theorem dX3_unsound_1 : decode cX3_unsound 1 = .ok (.iconst 0, 1) := by decide +kernel
theorem dX3_unsound_2 : decode cX3_unsound 2 = .ok (.putfield 37, 3) := by decide +kernel
theorem dX3_unsound_5 : decode cX3_unsound 5 = .ok (.iconst 0, 1) := by decide +kernel
theorem dX3_unsound_6 : decode cX3_unsound 6 = .ok (.istore_n 1, 1) := by decide +kernel
theorem dX3_unsound_7 : decode cX3_unsound 7 = .ok (.iconst 0, 1) := by decide +kernel
theorem dX3_unsound_8 : decode cX3_unsound 8 = .ok (.istore_n 2, 1) := by decide +kernel
theorem dX3_unsound_9 : decode cX3_unsound 9 = .ok (.iload_n 2, 1) := by decide +kernel
theorem dX3_unsound_10 : decode cX3_unsound 10 = .ok (.aload_n 0, 1) := by decide +kernel
theorem dX3_unsound_11 : decode cX3_unsound 11 = .ok (.getfield 83, 3) := by decide +kernel
theorem dX3_unsound_14 : decode cX3_unsound 14 = .ok (.if_icmp .ge 25, 3) := by decide +kernel
theorem dX3_unsound_17 : decode cX3_unsound 17 = .ok (.iload_n 1, 1) := by decide +kernel
theorem dX3_unsound_18 : decode cX3_unsound 18 = .ok (.aload_n 0, 1) := by decide +kernel
theorem dX3_unsound_19 : decode cX3_unsound 19 = .ok (.iload_n 2, 1) := by decide +kernel
theorem dX3_unsound_20 : decode cX3_unsound 20 = .ok (.invokevirtual 89, 3) := by decide +kernel
theorem dX3_unsound_23 : decode cX3_unsound 23 = .ok (.ifCond .eq 7, 3) := by decide +kernel
theorem dX3_unsound_26 : decode cX3_unsound 26 = .ok (.iconst 0, 1) := by decide +kernel
theorem dX3_unsound_27 : decode cX3_unsound 27 = .ok (.goto 4, 3) := by decide +kernel
theorem dX3_unsound_30 : decode cX3_unsound 30 = .ok (.iconst 1, 1) := by decide +kernel
theorem dX3_unsound_31 : decode cX3_unsound 31 = .ok (.iadd, 1) := by decide +kernel
theorem dX3_unsound_32 : decode cX3_unsound 32 = .ok (.istore_n 1, 1) := by decide +kernel
theorem dX3_unsound_33 : decode cX3_unsound 33 = .ok (.iinc 2 1, 3) := by decide +kernel
theorem dX3_unsound_36 : decode cX3_unsound 36 = .ok (.goto (-27), 3) := by decide +kernel
theorem dX3_unsound_39 : decode cX3_unsound 39 = .ok (.iload_n 1, 1) := by decide +kernel
theorem dX3_unsound_40 : decode cX3_unsound 40 = .ok (.ireturn, 1) := by decide +kernel
theorem dJ9_max_7cf53_0 : decode cJ9_max_7cf53 0 = .ok (.iload_n 0, 1) := by decide +kernel
theorem dJ9_max_7cf53_1 : decode cJ9_max_7cf53 1 = .ok (.iload_n 1, 1) := by decide +kernel
theorem dJ9_max_7cf53_2 : decode cJ9_max_7cf53 2 = .ok (.if_icmp .lt 7, 3) := by decide +kernel
theorem dJ9_max_7cf53_5 : decode cJ9_max_7cf53 5 = .ok (.iload_n 0, 1) := by decide +kernel
theorem dJ9_max_7cf53_6 : decode cJ9_max_7cf53 6 = .ok (.goto 4, 3) := by decide +kernel
theorem dJ9_max_7cf53_9 : decode cJ9_max_7cf53 9 = .ok (.iload_n 1, 1) := by decide +kernel
theorem dJ9_max_7cf53_10 : decode cJ9_max_7cf53 10 = .ok (.ireturn, 1) := by decide +kernel
theorem dJ9_min_7cf53_0 : decode cJ9_min_7cf53 0 = .ok (.iload_n 0, 1) := by decide +kernel
theorem dJ9_min_7cf53_1 : decode cJ9_min_7cf53 1 = .ok (.iload_n 1, 1) := by decide +kernel
theorem dJ9_min_7cf53_2 : decode cJ9_min_7cf53 2 = .ok (.if_icmp .gt 7, 3) := by decide +kernel
theorem dJ9_min_7cf53_5 : decode cJ9_min_7cf53 5 = .ok (.iload_n 0, 1) := by decide +kernel
theorem dJ9_min_7cf53_6 : decode cJ9_min_7cf53 6 = .ok (.goto 4, 3) := by decide +kernel
theorem dJ9_min_7cf53_9 : decode cJ9_min_7cf53 9 = .ok (.iload_n 1, 1) := by decide +kernel
theorem dJ9_min_7cf53_10 : decode cJ9_min_7cf53 10 = .ok (.ireturn, 1) := by decide +kernel
set_option maxRecDepth 20000 in
theorem ggL_arrive_X2_arrive : GoodIn wsL_arrive wsX2_arrive := goodIn_ca (goodIn_ca (goodIn_r _ [7, 8, 9, 10, 11, 12, 13, 14, 15, 16, 17, 18, 19, 6, 20, 21, 22, 23, 24, 25, 26, 27, 28, 29, 30, 31, 32, 33, 34, 35, 36, 37, 38, 39, 40, 41, 42, 43, 44, 45, 46, 47, 48, 49, 50, 51, 52, 53, 54, 55, 56, 57, 58, 59, 60, 61, 62, 63, 64, 65] (by decide +kernel) (by decide +kernel)) (goodIn_sub (fun _ h => List.mem_cons_of_mem _ (List.mem_append_left _ (List.mem_append_right _ h))) (by decide +kernel))) (goodIn_sub (fun _ h => List.mem_cons_of_mem _ (List.mem_append_right _ h)) (by decide +kernel))
set_option maxRecDepth 20000 in
theorem gL_arrive_X2_arrive : GoodIn wsL_arrive (wsV RL 7 RX2 yX2_arrive wsX2_arrive) := goodIn_app (goodIn_of _ (by decide +kernel)) ggL_arrive_X2_arrive
theorem dL_arrive_0 : decode cL_arrive 0 = .ok (.aload 5, 2) := by decide +kernel
theorem dL_arrive_2 : decode cL_arrive 2 = .ok (.iconst 0, 1) := by decide +kernel
theorem dL_arrive_3 : decode cL_arrive 3 = .ok (.aload_n 0, 1) := by decide +kernel
theorem dL_arrive_4 : decode cL_arrive 4 = .ok (.iload_n 1, 1) := by decide +kernel
theorem dL_arrive_5 : decode cL_arrive 5 = .ok (.iload_n 2, 1) := by decide +kernel
theorem dL_arrive_6 : decode cL_arrive 6 = .ok (.iload_n 3, 1) := by decide +kernel
theorem dL_arrive_7 : decode cL_arrive 7 = .ok (.iload 4, 2) := by decide +kernel
theorem dL_arrive_9 : decode cL_arrive 9 = .ok (.invokevirtual 7, 3) := by decide +kernel
theorem dL_arrive_12 : decode cL_arrive 12 = .ok (.i2l, 1) := by decide +kernel
theorem dL_arrive_13 : decode cL_arrive 13 = .ok (.lastore, 1) := by decide +kernel
theorem dL_arrive_14 : decode cL_arrive 14 = .ok (.goto 11, 3) := by decide +kernel
theorem dL_arrive_17 : decode cL_arrive 17 = .ok (.astore 6, 2) := by decide +kernel
theorem dL_arrive_19 : decode cL_arrive 19 = .ok (.iconst 1, 1) := by decide +kernel
theorem dL_arrive_20 : decode cL_arrive 20 = .ok (.ireturn, 1) := by decide +kernel
theorem dL_arrive_21 : decode cL_arrive 21 = .ok (.astore 6, 2) := by decide +kernel
theorem dL_arrive_23 : decode cL_arrive 23 = .ok (.iconst 2, 1) := by decide +kernel
theorem dL_arrive_24 : decode cL_arrive 24 = .ok (.ireturn, 1) := by decide +kernel
theorem dL_arrive_25 : decode cL_arrive 25 = .ok (.iconst 0, 1) := by decide +kernel
theorem dL_arrive_26 : decode cL_arrive 26 = .ok (.ireturn, 1) := by decide +kernel
set_option maxRecDepth 20000 in
theorem ggL_pass_X2_pass : GoodIn wsL_pass wsX2_pass := goodIn_ca (goodIn_ca (goodIn_r _ [7, 8, 9, 10, 11, 12, 6, 13, 14, 15, 16, 17, 18, 19, 20, 21, 22, 23, 24] (by decide +kernel) (by decide +kernel)) (goodIn_sub (fun _ h => List.mem_cons_of_mem _ (List.mem_append_left _ (List.mem_append_right _ h))) (by decide +kernel))) (goodIn_sub (fun _ h => List.mem_cons_of_mem _ (List.mem_append_right _ h)) (by decide +kernel))
set_option maxRecDepth 20000 in
theorem gL_pass_X2_pass : GoodIn wsL_pass (wsV RL 17 RX2 yX2_pass wsX2_pass) := goodIn_app (goodIn_of _ (by decide +kernel)) ggL_pass_X2_pass
theorem dL_pass_0 : decode cL_pass 0 = .ok (.aload_n 2, 1) := by decide +kernel
theorem dL_pass_1 : decode cL_pass 1 = .ok (.iconst 0, 1) := by decide +kernel
theorem dL_pass_2 : decode cL_pass 2 = .ok (.aload_n 0, 1) := by decide +kernel
theorem dL_pass_3 : decode cL_pass 3 = .ok (.iload_n 1, 1) := by decide +kernel
theorem dL_pass_4 : decode cL_pass 4 = .ok (.invokevirtual 17, 3) := by decide +kernel
theorem dL_pass_7 : decode cL_pass 7 = .ok (.i2l, 1) := by decide +kernel
theorem dL_pass_8 : decode cL_pass 8 = .ok (.lastore, 1) := by decide +kernel
theorem dL_pass_9 : decode cL_pass 9 = .ok (.goto 9, 3) := by decide +kernel
theorem dL_pass_12 : decode cL_pass 12 = .ok (.astore_n 3, 1) := by decide +kernel
theorem dL_pass_13 : decode cL_pass 13 = .ok (.iconst 1, 1) := by decide +kernel
theorem dL_pass_14 : decode cL_pass 14 = .ok (.ireturn, 1) := by decide +kernel
theorem dL_pass_15 : decode cL_pass 15 = .ok (.astore_n 3, 1) := by decide +kernel
theorem dL_pass_16 : decode cL_pass 16 = .ok (.iconst 2, 1) := by decide +kernel
theorem dL_pass_17 : decode cL_pass 17 = .ok (.ireturn, 1) := by decide +kernel
theorem dL_pass_18 : decode cL_pass 18 = .ok (.iconst 0, 1) := by decide +kernel
theorem dL_pass_19 : decode cL_pass 19 = .ok (.ireturn, 1) := by decide +kernel
set_option maxRecDepth 20000 in
theorem ggL_setLifetime_X2_setLifetime : GoodIn wsL_setLifetime wsX2_setLifetime := goodIn_ca (goodIn_r _ [6, 7, 8, 9, 5, 10, 11, 12, 13, 14, 15, 16, 17, 18, 19, 20, 21] (by decide +kernel) (by decide +kernel)) (goodIn_sub (fun _ h => List.mem_cons_of_mem _ (List.mem_append_right _ h)) (by decide +kernel))
set_option maxRecDepth 20000 in
theorem gL_setLifetime_X2_setLifetime : GoodIn wsL_setLifetime (wsV RL 21 RX2 yX2_setLifetime wsX2_setLifetime) := goodIn_app (goodIn_of _ (by decide +kernel)) ggL_setLifetime_X2_setLifetime
theorem dL_setLifetime_0 : decode cL_setLifetime 0 = .ok (.aload_n 3, 1) := by decide +kernel
theorem dL_setLifetime_1 : decode cL_setLifetime 1 = .ok (.iconst 0, 1) := by decide +kernel
theorem dL_setLifetime_2 : decode cL_setLifetime 2 = .ok (.aload_n 0, 1) := by decide +kernel
theorem dL_setLifetime_3 : decode cL_setLifetime 3 = .ok (.iload_n 1, 1) := by decide +kernel
theorem dL_setLifetime_4 : decode cL_setLifetime 4 = .ok (.iload_n 2, 1) := by decide +kernel
theorem dL_setLifetime_5 : decode cL_setLifetime 5 = .ok (.invokevirtual 21, 3) := by decide +kernel
theorem dL_setLifetime_8 : decode cL_setLifetime 8 = .ok (.i2l, 1) := by decide +kernel
theorem dL_setLifetime_9 : decode cL_setLifetime 9 = .ok (.lastore, 1) := by decide +kernel
theorem dL_setLifetime_10 : decode cL_setLifetime 10 = .ok (.goto 7, 3) := by decide +kernel
theorem dL_setLifetime_13 : decode cL_setLifetime 13 = .ok (.astore 4, 2) := by decide +kernel
theorem dL_setLifetime_15 : decode cL_setLifetime 15 = .ok (.iconst 1, 1) := by decide +kernel
theorem dL_setLifetime_16 : decode cL_setLifetime 16 = .ok (.ireturn, 1) := by decide +kernel
theorem dL_setLifetime_17 : decode cL_setLifetime 17 = .ok (.iconst 0, 1) := by decide +kernel
theorem dL_setLifetime_18 : decode cL_setLifetime 18 = .ok (.ireturn, 1) := by decide +kernel
set_option maxRecDepth 20000 in
theorem ggL_value_X2_value : GoodIn wsL_value wsX2_value := goodIn_ca (goodIn_r _ [6, 7, 8, 9, 10, 5, 11, 12, 13, 14, 15, 16, 17, 18, 19, 20, 21, 22, 23, 24, 25, 26, 27, 28, 29, 30, 31, 32, 33, 34, 35] (by decide +kernel) (by decide +kernel)) (goodIn_sub (fun _ h => List.mem_cons_of_mem _ (List.mem_append_right _ h)) (by decide +kernel))
set_option maxRecDepth 20000 in
theorem gL_value_X2_value : GoodIn wsL_value (wsV RL 25 RX2 yX2_value wsX2_value) := goodIn_app (goodIn_of _ (by decide +kernel)) ggL_value_X2_value
theorem dL_value_0 : decode cL_value 0 = .ok (.aload_n 2, 1) := by decide +kernel
theorem dL_value_1 : decode cL_value 1 = .ok (.iconst 0, 1) := by decide +kernel
theorem dL_value_2 : decode cL_value 2 = .ok (.aload_n 0, 1) := by decide +kernel
theorem dL_value_3 : decode cL_value 3 = .ok (.iload_n 1, 1) := by decide +kernel
theorem dL_value_4 : decode cL_value 4 = .ok (.invokevirtual 25, 3) := by decide +kernel
theorem dL_value_7 : decode cL_value 7 = .ok (.i2l, 1) := by decide +kernel
theorem dL_value_8 : decode cL_value 8 = .ok (.lastore, 1) := by decide +kernel
theorem dL_value_9 : decode cL_value 9 = .ok (.goto 6, 3) := by decide +kernel
theorem dL_value_12 : decode cL_value 12 = .ok (.astore_n 3, 1) := by decide +kernel
theorem dL_value_13 : decode cL_value 13 = .ok (.iconst 1, 1) := by decide +kernel
theorem dL_value_14 : decode cL_value 14 = .ok (.ireturn, 1) := by decide +kernel
theorem dL_value_15 : decode cL_value 15 = .ok (.iconst 0, 1) := by decide +kernel
theorem dL_value_16 : decode cL_value 16 = .ok (.ireturn, 1) := by decide +kernel
set_option maxRecDepth 20000 in
theorem ggL_late_X2_late : GoodIn wsL_late wsX2_late := goodIn_ca (goodIn_r _ [6, 7, 8, 9, 10, 11, 5, 12, 13, 14, 15, 16, 17, 18, 19, 20, 21, 22, 23, 24, 25, 26, 27, 28, 29, 30, 31, 32, 33, 34, 35, 36] (by decide +kernel) (by decide +kernel)) (goodIn_sub (fun _ h => List.mem_cons_of_mem _ (List.mem_append_right _ h)) (by decide +kernel))
set_option maxRecDepth 20000 in
theorem gL_late_X2_late : GoodIn wsL_late (wsV RL 30 RX2 yX2_late wsX2_late) := goodIn_app (goodIn_of _ (by decide +kernel)) ggL_late_X2_late
theorem dL_late_0 : decode cL_late 0 = .ok (.aload_n 2, 1) := by decide +kernel
theorem dL_late_1 : decode cL_late 1 = .ok (.iconst 0, 1) := by decide +kernel
theorem dL_late_2 : decode cL_late 2 = .ok (.aload_n 0, 1) := by decide +kernel
theorem dL_late_3 : decode cL_late 3 = .ok (.iload_n 1, 1) := by decide +kernel
theorem dL_late_4 : decode cL_late 4 = .ok (.invokevirtual 30, 3) := by decide +kernel
theorem dL_late_7 : decode cL_late 7 = .ok (.i2l, 1) := by decide +kernel
theorem dL_late_8 : decode cL_late 8 = .ok (.lastore, 1) := by decide +kernel
theorem dL_late_9 : decode cL_late 9 = .ok (.goto 6, 3) := by decide +kernel
theorem dL_late_12 : decode cL_late 12 = .ok (.astore_n 3, 1) := by decide +kernel
theorem dL_late_13 : decode cL_late 13 = .ok (.iconst 1, 1) := by decide +kernel
theorem dL_late_14 : decode cL_late 14 = .ok (.ireturn, 1) := by decide +kernel
theorem dL_late_15 : decode cL_late 15 = .ok (.iconst 0, 1) := by decide +kernel
theorem dL_late_16 : decode cL_late 16 = .ok (.ireturn, 1) := by decide +kernel
set_option maxRecDepth 20000 in
theorem ggL_join_X2_join : GoodIn wsL_join wsX2_join := goodIn_ca (goodIn_r _ [6, 7, 8, 9, 5, 10, 11, 12, 13, 14, 15, 16, 17, 18, 19, 20, 21, 22, 23, 24, 25, 26, 27, 28, 29, 30, 31, 32, 33, 34, 35, 36, 37, 38, 39, 40, 41, 42, 43, 44, 45, 46, 47, 48, 49] (by decide +kernel) (by decide +kernel)) (goodIn_sub (fun _ h => List.mem_cons_of_mem _ (List.mem_append_right _ h)) (by decide +kernel))
set_option maxRecDepth 20000 in
theorem gL_join_X2_join : GoodIn wsL_join (wsV RL 33 RX2 yX2_join wsX2_join) := goodIn_app (goodIn_of _ (by decide +kernel)) ggL_join_X2_join
theorem dL_join_0 : decode cL_join 0 = .ok (.aload 5, 2) := by decide +kernel
theorem dL_join_2 : decode cL_join 2 = .ok (.iconst 0, 1) := by decide +kernel
theorem dL_join_3 : decode cL_join 3 = .ok (.aload_n 0, 1) := by decide +kernel
theorem dL_join_4 : decode cL_join 4 = .ok (.iload_n 1, 1) := by decide +kernel
theorem dL_join_5 : decode cL_join 5 = .ok (.iload_n 2, 1) := by decide +kernel
theorem dL_join_6 : decode cL_join 6 = .ok (.iload_n 3, 1) := by decide +kernel
theorem dL_join_7 : decode cL_join 7 = .ok (.iload 4, 2) := by decide +kernel
theorem dL_join_9 : decode cL_join 9 = .ok (.invokevirtual 33, 3) := by decide +kernel
theorem dL_join_12 : decode cL_join 12 = .ok (.i2l, 1) := by decide +kernel
theorem dL_join_13 : decode cL_join 13 = .ok (.lastore, 1) := by decide +kernel
theorem dL_join_14 : decode cL_join 14 = .ok (.goto 7, 3) := by decide +kernel
theorem dL_join_17 : decode cL_join 17 = .ok (.astore 6, 2) := by decide +kernel
theorem dL_join_19 : decode cL_join 19 = .ok (.iconst 1, 1) := by decide +kernel
theorem dL_join_20 : decode cL_join 20 = .ok (.ireturn, 1) := by decide +kernel
theorem dL_join_21 : decode cL_join 21 = .ok (.iconst 0, 1) := by decide +kernel
theorem dL_join_22 : decode cL_join 22 = .ok (.ireturn, 1) := by decide +kernel
set_option maxRecDepth 20000 in
theorem ggL_window_X2_window : GoodIn wsL_window wsX2_window := goodIn_ca (goodIn_r _ [6, 7, 8, 9, 10, 11, 12, 5, 13, 14, 15, 16, 17, 18, 19, 20, 21, 22, 23, 24, 25, 26, 27, 28, 29, 30, 31, 32, 33, 34, 35, 36, 37] (by decide +kernel) (by decide +kernel)) (goodIn_sub (fun _ h => List.mem_cons_of_mem _ (List.mem_append_right _ h)) (by decide +kernel))
set_option maxRecDepth 20000 in
theorem gL_window_X2_window : GoodIn wsL_window (wsV RL 36 RX2 yX2_window wsX2_window) := goodIn_app (goodIn_of _ (by decide +kernel)) ggL_window_X2_window
theorem dL_window_0 : decode cL_window 0 = .ok (.aload 5, 2) := by decide +kernel
theorem dL_window_2 : decode cL_window 2 = .ok (.iconst 0, 1) := by decide +kernel
theorem dL_window_3 : decode cL_window 3 = .ok (.aload_n 0, 1) := by decide +kernel
theorem dL_window_4 : decode cL_window 4 = .ok (.iload_n 1, 1) := by decide +kernel
theorem dL_window_5 : decode cL_window 5 = .ok (.iload_n 2, 1) := by decide +kernel
theorem dL_window_6 : decode cL_window 6 = .ok (.iload_n 3, 1) := by decide +kernel
theorem dL_window_7 : decode cL_window 7 = .ok (.iload 4, 2) := by decide +kernel
theorem dL_window_9 : decode cL_window 9 = .ok (.invokevirtual 36, 3) := by decide +kernel
theorem dL_window_12 : decode cL_window 12 = .ok (.i2l, 1) := by decide +kernel
theorem dL_window_13 : decode cL_window 13 = .ok (.lastore, 1) := by decide +kernel
theorem dL_window_14 : decode cL_window 14 = .ok (.goto 7, 3) := by decide +kernel
theorem dL_window_17 : decode cL_window 17 = .ok (.astore 6, 2) := by decide +kernel
theorem dL_window_19 : decode cL_window 19 = .ok (.iconst 1, 1) := by decide +kernel
theorem dL_window_20 : decode cL_window 20 = .ok (.ireturn, 1) := by decide +kernel
theorem dL_window_21 : decode cL_window 21 = .ok (.iconst 0, 1) := by decide +kernel
theorem dL_window_22 : decode cL_window 22 = .ok (.ireturn, 1) := by decide +kernel
set_option maxRecDepth 20000 in
theorem ggL_greatestTile_X2_greatestTile : GoodIn wsL_greatestTile wsX2_greatestTile := goodIn_ca (goodIn_r _ [6, 7, 8, 9, 10, 11, 12, 13, 14, 15, 16, 5, 17, 18, 19, 20, 21, 22, 23, 24, 25, 26, 27, 28, 29, 30, 31, 32, 33, 34, 35, 36, 37, 38, 39, 40, 41] (by decide +kernel) (by decide +kernel)) (goodIn_sub (fun _ h => List.mem_cons_of_mem _ (List.mem_append_right _ h)) (by decide +kernel))
set_option maxRecDepth 20000 in
theorem gL_greatestTile_X2_greatestTile : GoodIn wsL_greatestTile (wsV RL 39 RX2 yX2_greatestTile wsX2_greatestTile) := goodIn_app (goodIn_of _ (by decide +kernel)) ggL_greatestTile_X2_greatestTile
theorem dL_greatestTile_0 : decode cL_greatestTile 0 = .ok (.aload 4, 2) := by decide +kernel
theorem dL_greatestTile_2 : decode cL_greatestTile 2 = .ok (.iconst 0, 1) := by decide +kernel
theorem dL_greatestTile_3 : decode cL_greatestTile 3 = .ok (.aload_n 0, 1) := by decide +kernel
theorem dL_greatestTile_4 : decode cL_greatestTile 4 = .ok (.iload_n 1, 1) := by decide +kernel
theorem dL_greatestTile_5 : decode cL_greatestTile 5 = .ok (.iload_n 2, 1) := by decide +kernel
theorem dL_greatestTile_6 : decode cL_greatestTile 6 = .ok (.iload_n 3, 1) := by decide +kernel
theorem dL_greatestTile_7 : decode cL_greatestTile 7 = .ok (.invokevirtual 39, 3) := by decide +kernel
theorem dL_greatestTile_10 : decode cL_greatestTile 10 = .ok (.i2l, 1) := by decide +kernel
theorem dL_greatestTile_11 : decode cL_greatestTile 11 = .ok (.lastore, 1) := by decide +kernel
theorem dL_greatestTile_12 : decode cL_greatestTile 12 = .ok (.goto 7, 3) := by decide +kernel
theorem dL_greatestTile_15 : decode cL_greatestTile 15 = .ok (.astore 5, 2) := by decide +kernel
theorem dL_greatestTile_17 : decode cL_greatestTile 17 = .ok (.iconst 1, 1) := by decide +kernel
theorem dL_greatestTile_18 : decode cL_greatestTile 18 = .ok (.ireturn, 1) := by decide +kernel
theorem dL_greatestTile_19 : decode cL_greatestTile 19 = .ok (.iconst 0, 1) := by decide +kernel
theorem dL_greatestTile_20 : decode cL_greatestTile 20 = .ok (.ireturn, 1) := by decide +kernel
set_option maxRecDepth 20000 in
theorem ggL_tiles_X2_tiles : GoodIn wsL_tiles wsX2_tiles := goodIn_ca (goodIn_r _ [6, 7, 8, 9, 10, 11, 5, 12, 13, 14, 15, 16, 17, 18, 19, 20, 21, 22, 23, 24, 25, 26, 27, 28, 29, 30, 31, 32, 33, 34, 35, 36] (by decide +kernel) (by decide +kernel)) (goodIn_sub (fun _ h => List.mem_cons_of_mem _ (List.mem_append_right _ h)) (by decide +kernel))
set_option maxRecDepth 20000 in
theorem gL_tiles_X2_tiles : GoodIn wsL_tiles (wsV RL 43 RX2 yX2_tiles wsX2_tiles) := goodIn_app (goodIn_of _ (by decide +kernel)) ggL_tiles_X2_tiles
theorem dL_tiles_0 : decode cL_tiles 0 = .ok (.aload 4, 2) := by decide +kernel
theorem dL_tiles_2 : decode cL_tiles 2 = .ok (.iconst 0, 1) := by decide +kernel
theorem dL_tiles_3 : decode cL_tiles 3 = .ok (.aload_n 0, 1) := by decide +kernel
theorem dL_tiles_4 : decode cL_tiles 4 = .ok (.iload_n 1, 1) := by decide +kernel
theorem dL_tiles_5 : decode cL_tiles 5 = .ok (.iload_n 2, 1) := by decide +kernel
theorem dL_tiles_6 : decode cL_tiles 6 = .ok (.iload_n 3, 1) := by decide +kernel
theorem dL_tiles_7 : decode cL_tiles 7 = .ok (.invokevirtual 43, 3) := by decide +kernel
theorem dL_tiles_10 : decode cL_tiles 10 = .ok (.i2l, 1) := by decide +kernel
theorem dL_tiles_11 : decode cL_tiles 11 = .ok (.lastore, 1) := by decide +kernel
theorem dL_tiles_12 : decode cL_tiles 12 = .ok (.goto 7, 3) := by decide +kernel
theorem dL_tiles_15 : decode cL_tiles 15 = .ok (.astore 5, 2) := by decide +kernel
theorem dL_tiles_17 : decode cL_tiles 17 = .ok (.iconst 1, 1) := by decide +kernel
theorem dL_tiles_18 : decode cL_tiles 18 = .ok (.ireturn, 1) := by decide +kernel
theorem dL_tiles_19 : decode cL_tiles 19 = .ok (.iconst 0, 1) := by decide +kernel
theorem dL_tiles_20 : decode cL_tiles 20 = .ok (.ireturn, 1) := by decide +kernel
set_option maxRecDepth 20000 in
theorem ggL_revised_X2_revised : GoodIn wsL_revised wsX2_revised := goodIn_ca (goodIn_r _ [6, 7, 8, 9, 10, 11, 12, 13, 14, 15, 16, 17, 18, 5, 19, 20, 21, 22, 23, 24, 25, 26, 27, 28, 29, 30, 31, 32, 33, 34, 35, 36, 37, 38, 39, 40, 41, 42, 43, 44, 45, 46] (by decide +kernel) (by decide +kernel)) (goodIn_sub (fun _ h => List.mem_cons_of_mem _ (List.mem_append_right _ h)) (by decide +kernel))
set_option maxRecDepth 20000 in
theorem gL_revised_X2_revised : GoodIn wsL_revised (wsV RL 46 RX2 yX2_revised wsX2_revised) := goodIn_app (goodIn_of _ (by decide +kernel)) ggL_revised_X2_revised
theorem dL_revised_0 : decode cL_revised 0 = .ok (.aload 4, 2) := by decide +kernel
theorem dL_revised_2 : decode cL_revised 2 = .ok (.iconst 0, 1) := by decide +kernel
theorem dL_revised_3 : decode cL_revised 3 = .ok (.aload_n 0, 1) := by decide +kernel
theorem dL_revised_4 : decode cL_revised 4 = .ok (.iload_n 1, 1) := by decide +kernel
theorem dL_revised_5 : decode cL_revised 5 = .ok (.iload_n 2, 1) := by decide +kernel
theorem dL_revised_6 : decode cL_revised 6 = .ok (.iload_n 3, 1) := by decide +kernel
theorem dL_revised_7 : decode cL_revised 7 = .ok (.invokevirtual 46, 3) := by decide +kernel
theorem dL_revised_10 : decode cL_revised 10 = .ok (.i2l, 1) := by decide +kernel
theorem dL_revised_11 : decode cL_revised 11 = .ok (.lastore, 1) := by decide +kernel
theorem dL_revised_12 : decode cL_revised 12 = .ok (.goto 7, 3) := by decide +kernel
theorem dL_revised_15 : decode cL_revised 15 = .ok (.astore 5, 2) := by decide +kernel
theorem dL_revised_17 : decode cL_revised 17 = .ok (.iconst 1, 1) := by decide +kernel
theorem dL_revised_18 : decode cL_revised 18 = .ok (.ireturn, 1) := by decide +kernel
theorem dL_revised_19 : decode cL_revised 19 = .ok (.iconst 0, 1) := by decide +kernel
theorem dL_revised_20 : decode cL_revised 20 = .ok (.ireturn, 1) := by decide +kernel
set_option maxRecDepth 20000 in
theorem ggL_take_X2_take : GoodIn wsL_take wsX2_take := goodIn_ca (goodIn_r _ [6, 7, 8, 9, 5, 10, 11, 12, 13, 14, 15, 16, 17, 18, 19, 20, 21, 22, 23, 24, 25, 26, 27, 28, 29, 30, 31, 32, 33, 34, 35, 36, 37, 38, 39, 40, 41, 42, 43, 44, 45] (by decide +kernel) (by decide +kernel)) (goodIn_sub (fun _ h => List.mem_cons_of_mem _ (List.mem_append_right _ h)) (by decide +kernel))
set_option maxRecDepth 20000 in
theorem gL_take_X2_take : GoodIn wsL_take (wsV RL 49 RX2 yX2_take wsX2_take) := goodIn_app (goodIn_of _ (by decide +kernel)) ggL_take_X2_take
theorem dL_take_0 : decode cL_take 0 = .ok (.aload_n 2, 1) := by decide +kernel
theorem dL_take_1 : decode cL_take 1 = .ok (.iconst 0, 1) := by decide +kernel
theorem dL_take_2 : decode cL_take 2 = .ok (.aload_n 0, 1) := by decide +kernel
theorem dL_take_3 : decode cL_take 3 = .ok (.iload_n 1, 1) := by decide +kernel
theorem dL_take_4 : decode cL_take 4 = .ok (.invokevirtual 49, 3) := by decide +kernel
theorem dL_take_7 : decode cL_take 7 = .ok (.i2l, 1) := by decide +kernel
theorem dL_take_8 : decode cL_take 8 = .ok (.lastore, 1) := by decide +kernel
theorem dL_take_9 : decode cL_take 9 = .ok (.goto 6, 3) := by decide +kernel
theorem dL_take_12 : decode cL_take 12 = .ok (.astore_n 3, 1) := by decide +kernel
theorem dL_take_13 : decode cL_take 13 = .ok (.iconst 1, 1) := by decide +kernel
theorem dL_take_14 : decode cL_take 14 = .ok (.ireturn, 1) := by decide +kernel
theorem dL_take_15 : decode cL_take 15 = .ok (.iconst 0, 1) := by decide +kernel
theorem dL_take_16 : decode cL_take 16 = .ok (.ireturn, 1) := by decide +kernel
set_option maxRecDepth 20000 in
theorem ggL_online_X2_online : GoodIn wsL_online wsX2_online := goodIn_ca (goodIn_r _ [6, 7, 8, 5, 9, 10, 11, 12, 13, 14, 15, 16, 17, 18, 19, 20, 21, 22, 23, 24, 25, 26, 27, 28, 29, 30, 31, 32, 33, 34, 35, 36, 37, 38, 39, 40, 41, 42, 43, 44, 45, 46, 47] (by decide +kernel) (by decide +kernel)) (goodIn_sub (fun _ h => List.mem_cons_of_mem _ (List.mem_append_right _ h)) (by decide +kernel))
set_option maxRecDepth 20000 in
theorem gL_online_X2_online : GoodIn wsL_online (wsV RL 52 RX2 yX2_online wsX2_online) := goodIn_app (goodIn_of _ (by decide +kernel)) ggL_online_X2_online
theorem dL_online_0 : decode cL_online 0 = .ok (.aload_n 3, 1) := by decide +kernel
theorem dL_online_1 : decode cL_online 1 = .ok (.iconst 0, 1) := by decide +kernel
theorem dL_online_2 : decode cL_online 2 = .ok (.aload_n 0, 1) := by decide +kernel
theorem dL_online_3 : decode cL_online 3 = .ok (.iload_n 1, 1) := by decide +kernel
theorem dL_online_4 : decode cL_online 4 = .ok (.iload_n 2, 1) := by decide +kernel
theorem dL_online_5 : decode cL_online 5 = .ok (.invokevirtual 52, 3) := by decide +kernel
theorem dL_online_8 : decode cL_online 8 = .ok (.i2l, 1) := by decide +kernel
theorem dL_online_9 : decode cL_online 9 = .ok (.lastore, 1) := by decide +kernel
theorem dL_online_10 : decode cL_online 10 = .ok (.goto 7, 3) := by decide +kernel
theorem dL_online_13 : decode cL_online 13 = .ok (.astore 4, 2) := by decide +kernel
theorem dL_online_15 : decode cL_online 15 = .ok (.iconst 1, 1) := by decide +kernel
theorem dL_online_16 : decode cL_online 16 = .ok (.ireturn, 1) := by decide +kernel
theorem dL_online_17 : decode cL_online 17 = .ok (.iconst 0, 1) := by decide +kernel
theorem dL_online_18 : decode cL_online 18 = .ok (.ireturn, 1) := by decide +kernel
set_option maxRecDepth 20000 in
theorem ggL_serve_X2_serve : GoodIn wsL_serve wsX2_serve := goodIn_ca (goodIn_ca (goodIn_r _ [7, 8, 9, 10, 11, 12, 13, 14, 15, 16, 17, 6, 18, 19, 20, 21, 22, 23, 24, 25, 26, 27, 28, 29, 30, 31, 32, 33, 34, 35, 36, 37, 38, 39, 40, 41, 42, 43, 44, 45, 46, 47, 48, 49, 50, 51, 52, 53, 54, 55, 56, 57, 58, 59, 60, 61, 62, 63, 64, 65, 66, 67, 68, 69] (by decide +kernel) (by decide +kernel)) (goodIn_sub (fun _ h => List.mem_cons_of_mem _ (List.mem_append_left _ (List.mem_append_right _ h))) (by decide +kernel))) (goodIn_sub (fun _ h => List.mem_cons_of_mem _ (List.mem_append_right _ h)) (by decide +kernel))
set_option maxRecDepth 20000 in
theorem gL_serve_X2_serve : GoodIn wsL_serve (wsV RL 55 RX2 yX2_serve wsX2_serve) := goodIn_app (goodIn_of _ (by decide +kernel)) ggL_serve_X2_serve
theorem dL_serve_0 : decode cL_serve 0 = .ok (.aload_n 3, 1) := by decide +kernel
theorem dL_serve_1 : decode cL_serve 1 = .ok (.iconst 0, 1) := by decide +kernel
theorem dL_serve_2 : decode cL_serve 2 = .ok (.aload_n 0, 1) := by decide +kernel
theorem dL_serve_3 : decode cL_serve 3 = .ok (.iload_n 1, 1) := by decide +kernel
theorem dL_serve_4 : decode cL_serve 4 = .ok (.iload_n 2, 1) := by decide +kernel
theorem dL_serve_5 : decode cL_serve 5 = .ok (.invokevirtual 55, 3) := by decide +kernel
theorem dL_serve_8 : decode cL_serve 8 = .ok (.i2l, 1) := by decide +kernel
theorem dL_serve_9 : decode cL_serve 9 = .ok (.lastore, 1) := by decide +kernel
theorem dL_serve_10 : decode cL_serve 10 = .ok (.goto 11, 3) := by decide +kernel
theorem dL_serve_13 : decode cL_serve 13 = .ok (.astore 4, 2) := by decide +kernel
theorem dL_serve_15 : decode cL_serve 15 = .ok (.iconst 1, 1) := by decide +kernel
theorem dL_serve_16 : decode cL_serve 16 = .ok (.ireturn, 1) := by decide +kernel
theorem dL_serve_17 : decode cL_serve 17 = .ok (.astore 4, 2) := by decide +kernel
theorem dL_serve_19 : decode cL_serve 19 = .ok (.iconst 2, 1) := by decide +kernel
theorem dL_serve_20 : decode cL_serve 20 = .ok (.ireturn, 1) := by decide +kernel
theorem dL_serve_21 : decode cL_serve 21 = .ok (.iconst 0, 1) := by decide +kernel
theorem dL_serve_22 : decode cL_serve 22 = .ok (.ireturn, 1) := by decide +kernel
set_option maxRecDepth 20000 in
theorem ggL_served_X2_served : GoodIn wsL_served wsX2_served := goodIn_ca (goodIn_r _ [6, 7, 8, 9, 10, 5, 11, 12, 13, 14, 15, 16, 17, 18, 19, 20, 21, 22, 23, 24, 25, 26, 27, 28] (by decide +kernel) (by decide +kernel)) (goodIn_sub (fun _ h => List.mem_cons_of_mem _ (List.mem_append_right _ h)) (by decide +kernel))
set_option maxRecDepth 20000 in
theorem gL_served_X2_served : GoodIn wsL_served (wsV RL 58 RX2 yX2_served wsX2_served) := goodIn_app (goodIn_of _ (by decide +kernel)) ggL_served_X2_served
theorem dL_served_0 : decode cL_served 0 = .ok (.aload_n 2, 1) := by decide +kernel
theorem dL_served_1 : decode cL_served 1 = .ok (.iconst 0, 1) := by decide +kernel
theorem dL_served_2 : decode cL_served 2 = .ok (.aload_n 0, 1) := by decide +kernel
theorem dL_served_3 : decode cL_served 3 = .ok (.iload_n 1, 1) := by decide +kernel
theorem dL_served_4 : decode cL_served 4 = .ok (.invokevirtual 58, 3) := by decide +kernel
theorem dL_served_7 : decode cL_served 7 = .ok (.i2l, 1) := by decide +kernel
theorem dL_served_8 : decode cL_served 8 = .ok (.lastore, 1) := by decide +kernel
theorem dL_served_9 : decode cL_served 9 = .ok (.goto 6, 3) := by decide +kernel
theorem dL_served_12 : decode cL_served 12 = .ok (.astore_n 3, 1) := by decide +kernel
theorem dL_served_13 : decode cL_served 13 = .ok (.iconst 1, 1) := by decide +kernel
theorem dL_served_14 : decode cL_served 14 = .ok (.ireturn, 1) := by decide +kernel
theorem dL_served_15 : decode cL_served 15 = .ok (.iconst 0, 1) := by decide +kernel
theorem dL_served_16 : decode cL_served 16 = .ok (.ireturn, 1) := by decide +kernel
set_option maxRecDepth 20000 in
theorem ggL_isSound_X2_isSound : GoodIn wsL_isSound wsX2_isSound := goodIn_ca (goodIn_r _ [6, 7, 8, 9, 10, 11, 12, 13, 5, 14, 15, 16, 17, 18, 19, 20, 21, 22, 23, 24, 25, 26, 27, 28, 29, 30, 31, 32, 33, 34, 35, 36, 37, 38, 39, 40, 41, 42, 43, 44, 45, 46, 47, 48, 49, 50, 51, 52, 53, 54, 55, 56] (by decide +kernel) (by decide +kernel)) (goodIn_sub (fun _ h => List.mem_cons_of_mem _ (List.mem_append_right _ h)) (by decide +kernel))
set_option maxRecDepth 20000 in
theorem gL_isSound_X2_isSound : GoodIn wsL_isSound (wsV RL 61 RX2 yX2_isSound wsX2_isSound) := goodIn_app (goodIn_of _ (by decide +kernel)) ggL_isSound_X2_isSound
theorem dL_isSound_0 : decode cL_isSound 0 = .ok (.aload_n 2, 1) := by decide +kernel
theorem dL_isSound_1 : decode cL_isSound 1 = .ok (.iconst 0, 1) := by decide +kernel
theorem dL_isSound_2 : decode cL_isSound 2 = .ok (.aload_n 0, 1) := by decide +kernel
theorem dL_isSound_3 : decode cL_isSound 3 = .ok (.iload_n 1, 1) := by decide +kernel
theorem dL_isSound_4 : decode cL_isSound 4 = .ok (.invokevirtual 61, 3) := by decide +kernel
theorem dL_isSound_7 : decode cL_isSound 7 = .ok (.ifCond .eq 7, 3) := by decide +kernel
theorem dL_isSound_10 : decode cL_isSound 10 = .ok (.lconst 1, 1) := by decide +kernel
theorem dL_isSound_11 : decode cL_isSound 11 = .ok (.goto 4, 3) := by decide +kernel
theorem dL_isSound_14 : decode cL_isSound 14 = .ok (.lconst 0, 1) := by decide +kernel
theorem dL_isSound_15 : decode cL_isSound 15 = .ok (.lastore, 1) := by decide +kernel
theorem dL_isSound_16 : decode cL_isSound 16 = .ok (.goto 6, 3) := by decide +kernel
theorem dL_isSound_19 : decode cL_isSound 19 = .ok (.astore_n 3, 1) := by decide +kernel
theorem dL_isSound_20 : decode cL_isSound 20 = .ok (.iconst 1, 1) := by decide +kernel
theorem dL_isSound_21 : decode cL_isSound 21 = .ok (.ireturn, 1) := by decide +kernel
theorem dL_isSound_22 : decode cL_isSound 22 = .ok (.iconst 0, 1) := by decide +kernel
theorem dL_isSound_23 : decode cL_isSound 23 = .ok (.ireturn, 1) := by decide +kernel
set_option maxRecDepth 20000 in
theorem ggL_law_X2_init : GoodIn wsL_law wsX2_init := goodIn_r _ [9, 10, 11, 12, 13, 14, 15, 16, 17, 18, 19, 20, 398, 399, 400, 401, 402, 403, 404, 405, 406] (by decide +kernel) (by decide +kernel)
set_option maxRecDepth 20000 in
theorem gL_law_X2_init : GoodIn wsL_law (wsX2_init) := ggL_law_X2_init
set_option maxRecDepth 20000 in
theorem ggL_law_X3_init : GoodIn wsL_law wsX3_init := goodIn_r _ [23, 24, 11, 12, 13, 25, 26, 27, 28, 29, 30, 31, 32, 33, 407, 408, 409, 410, 411, 412, 413, 414, 415, 416, 417, 418, 419, 420] (by decide +kernel) (by decide +kernel)
set_option maxRecDepth 20000 in
theorem gL_law_X3_init : GoodIn wsL_law (wsX3_init) := ggL_law_X3_init
set_option maxRecDepth 20000 in
theorem ggL_law_L_arrive : GoodIn wsL_law wsL_arrive := goodIn_ca (goodIn_ca (goodIn_r _ [37, 38, 39, 40, 41, 42, 2, 43, 44, 45, 46, 47, 48, 15, 49, 50, 16, 51, 52, 53, 54, 55, 56, 57, 58, 59, 60, 61, 62, 63, 11, 12, 64, 65, 66, 67, 68, 69, 70, 71, 72, 73, 74, 75, 17, 76, 77, 78, 79, 80, 398, 399, 400, 401, 402, 403, 404, 405, 406, 421, 422, 423, 424, 425, 426, 427] (by decide +kernel) (by decide +kernel)) (goodIn_sub (fun _ h => List.mem_append_left _ (List.mem_append_left _ (List.mem_append_right _ h))) (by decide +kernel))) (goodIn_sub (fun _ h => List.mem_append_left _ (List.mem_append_right _ h)) (by decide +kernel))
set_option maxRecDepth 20000 in
theorem gL_law_L_arrive : GoodIn wsL_law (va_wsS RL 69 yL_arrive wsL_arrive) := goodIn_app (goodIn_of _ (by decide +kernel)) ggL_law_L_arrive
set_option maxRecDepth 20000 in
theorem ggL_law_X3_arrive : GoodIn wsL_law wsX3_arrive := goodIn_r _ [84, 85, 86, 87, 88, 26, 27, 28, 29, 89, 90, 5, 91, 92, 93, 94, 95, 96, 97, 407, 408, 409, 410, 411, 412, 413, 414, 415, 416, 417, 418, 419, 420] (by decide +kernel) (by decide +kernel)
set_option maxRecDepth 20000 in
theorem gL_law_X3_arrive : GoodIn wsL_law (wsV RL 74 RX3 yX3_arrive wsX3_arrive) := goodIn_app (goodIn_of _ (by decide +kernel)) ggL_law_X3_arrive
set_option maxRecDepth 20000 in
theorem ggL_law_X3_thrown : GoodIn wsL_law wsX3_thrown := goodIn_r _ [101, 88, 407, 408, 409, 410, 411, 412, 413, 414, 415, 416, 417, 418, 419, 420] (by decide +kernel) (by decide +kernel)
set_option maxRecDepth 20000 in
theorem gL_law_X3_thrown : GoodIn wsL_law (wsV RL 75 RX3 yX3_thrown wsX3_thrown) := goodIn_app (goodIn_of _ (by decide +kernel)) ggL_law_X3_thrown
set_option maxRecDepth 20000 in
theorem ggL_law_L_pass : GoodIn wsL_law wsL_pass := goodIn_ca (goodIn_ca (goodIn_r _ [104, 38, 39, 105, 106, 107, 2, 108, 44, 45, 46, 55, 56, 57, 58, 59, 398, 399, 400, 401, 402, 403, 404, 405, 406] (by decide +kernel) (by decide +kernel)) (goodIn_sub (fun _ h => List.mem_append_left _ (List.mem_append_left _ (List.mem_append_right _ h))) (by decide +kernel))) (goodIn_sub (fun _ h => List.mem_append_left _ (List.mem_append_right _ h)) (by decide +kernel))
set_option maxRecDepth 20000 in
theorem gL_law_L_pass : GoodIn wsL_law (va_wsS RL 79 yL_pass wsL_pass) := goodIn_app (goodIn_of _ (by decide +kernel)) ggL_law_L_pass
set_option maxRecDepth 20000 in
theorem ggL_law_X3_pass : GoodIn wsL_law wsX3_pass := goodIn_r _ [112, 85, 88, 92, 93, 5, 94, 407, 408, 409, 410, 411, 412, 413, 414, 415, 416, 417, 418, 419, 420] (by decide +kernel) (by decide +kernel)
set_option maxRecDepth 20000 in
theorem gL_law_X3_pass : GoodIn wsL_law (wsV RL 82 RX3 yX3_pass wsX3_pass) := goodIn_app (goodIn_of _ (by decide +kernel)) ggL_law_X3_pass
set_option maxRecDepth 20000 in
theorem ggL_law_L_setLifetime : GoodIn wsL_law wsL_setLifetime := goodIn_ca (goodIn_r _ [115, 38, 116, 117, 118, 2, 119, 14, 55, 56, 57, 58, 59, 398, 399, 400, 401, 402, 403, 404, 405, 406] (by decide +kernel) (by decide +kernel)) (goodIn_sub (fun _ h => List.mem_append_left _ (List.mem_append_right _ h)) (by decide +kernel))
set_option maxRecDepth 20000 in
theorem gL_law_L_setLifetime : GoodIn wsL_law (va_wsS RL 83 yL_setLifetime wsL_setLifetime) := goodIn_app (goodIn_of _ (by decide +kernel)) ggL_law_L_setLifetime
set_option maxRecDepth 20000 in
theorem ggL_law_X3_setLifetime : GoodIn wsL_law wsX3_setLifetime := goodIn_r _ [123, 88, 25, 92, 93, 5, 94, 407, 408, 409, 410, 411, 412, 413, 414, 415, 416, 417, 418, 419, 420] (by decide +kernel) (by decide +kernel)
set_option maxRecDepth 20000 in
theorem gL_law_X3_setLifetime : GoodIn wsL_law (wsV RL 86 RX3 yX3_setLifetime wsX3_setLifetime) := goodIn_app (goodIn_of _ (by decide +kernel)) ggL_law_X3_setLifetime
set_option maxRecDepth 20000 in
theorem ggL_law_X2_now : GoodIn wsL_law wsX2_now := goodIn_r _ [127, 46, 398, 399, 400, 401, 402, 403, 404, 405, 406] (by decide +kernel) (by decide +kernel)
set_option maxRecDepth 20000 in
theorem gL_law_X2_now : GoodIn wsL_law (wsV RL 87 RX2 yX2_now wsX2_now) := goodIn_app (goodIn_of _ (by decide +kernel)) ggL_law_X2_now
set_option maxRecDepth 20000 in
theorem ggL_law_X3_now : GoodIn wsL_law wsX3_now := goodIn_r _ [131, 88, 85, 407, 408, 409, 410, 411, 412, 413, 414, 415, 416, 417, 418, 419, 420] (by decide +kernel) (by decide +kernel)
set_option maxRecDepth 20000 in
theorem gL_law_X3_now : GoodIn wsL_law (wsV RL 90 RX3 yX3_now wsX3_now) := goodIn_app (goodIn_of _ (by decide +kernel)) ggL_law_X3_now
set_option maxRecDepth 20000 in
theorem ggL_law_X2_rows : GoodIn wsL_law wsX2_rows := goodIn_r _ [135, 48, 398, 399, 400, 401, 402, 403, 404, 405, 406] (by decide +kernel) (by decide +kernel)
set_option maxRecDepth 20000 in
theorem gL_law_X2_rows : GoodIn wsL_law (wsV RL 91 RX2 yX2_rows wsX2_rows) := goodIn_app (goodIn_of _ (by decide +kernel)) ggL_law_X2_rows
set_option maxRecDepth 20000 in
theorem ggL_law_X3_rows : GoodIn wsL_law wsX3_rows := goodIn_r _ [139, 88, 87, 407, 408, 409, 410, 411, 412, 413, 414, 415, 416, 417, 418, 419, 420] (by decide +kernel) (by decide +kernel)
set_option maxRecDepth 20000 in
theorem gL_law_X3_rows : GoodIn wsL_law (wsV RL 94 RX3 yX3_rows wsX3_rows) := goodIn_app (goodIn_of _ (by decide +kernel)) ggL_law_X3_rows
set_option maxRecDepth 20000 in
theorem ggL_law_L_value : GoodIn wsL_law wsL_value := goodIn_ca (goodIn_r _ [142, 143, 144, 145, 146, 2, 147, 148, 149, 150, 151, 152, 153, 154, 155, 156, 157, 158, 48, 16, 421, 422, 423, 424, 425, 426, 427, 398, 399, 400, 401, 402, 403, 404, 405, 406] (by decide +kernel) (by decide +kernel)) (goodIn_sub (fun _ h => List.mem_append_right _ h) (by decide +kernel))
set_option maxRecDepth 20000 in
theorem gL_law_L_value : GoodIn wsL_law (va_wsS RL 95 yL_value wsL_value) := goodIn_app (goodIn_of _ (by decide +kernel)) ggL_law_L_value
set_option maxRecDepth 20000 in
theorem ggL_law_X3_value : GoodIn wsL_law wsX3_value := goodIn_r _ [162, 29, 163, 164, 165, 5, 166, 87, 88, 92, 93, 94, 407, 408, 409, 410, 411, 412, 413, 414, 415, 416, 417, 418, 419, 420] (by decide +kernel) (by decide +kernel)
set_option maxRecDepth 20000 in
theorem gL_law_X3_value : GoodIn wsL_law (wsV RL 97 RX3 yX3_value wsX3_value) := goodIn_app (goodIn_of _ (by decide +kernel)) ggL_law_X3_value
set_option maxRecDepth 20000 in
theorem ggL_law_L_late : GoodIn wsL_law wsL_late := goodIn_ca (goodIn_r _ [169, 143, 170, 171, 172, 2, 173, 174, 76, 149, 150, 151, 152, 153, 154, 155, 156, 157, 158, 48, 16, 421, 422, 423, 424, 425, 426, 427, 398, 399, 400, 401, 402, 403, 404, 405, 406] (by decide +kernel) (by decide +kernel)) (goodIn_sub (fun _ h => List.mem_append_right _ h) (by decide +kernel))
set_option maxRecDepth 20000 in
theorem gL_law_L_late : GoodIn wsL_law (va_wsS RL 98 yL_late wsL_late) := goodIn_app (goodIn_of _ (by decide +kernel)) ggL_law_L_late
set_option maxRecDepth 20000 in
theorem ggL_law_X3_late : GoodIn wsL_law wsX3_late := goodIn_r _ [178, 28, 27, 163, 164, 165, 5, 166, 87, 88, 92, 93, 94, 407, 408, 409, 410, 411, 412, 413, 414, 415, 416, 417, 418, 419, 420] (by decide +kernel) (by decide +kernel)
set_option maxRecDepth 20000 in
theorem gL_law_X3_late : GoodIn wsL_law (wsV RL 100 RX3 yX3_late wsX3_late) := goodIn_app (goodIn_of _ (by decide +kernel)) ggL_law_X3_late
set_option maxRecDepth 20000 in
theorem ggL_law_L_join : GoodIn wsL_law wsL_join := goodIn_ca (goodIn_r _ [181, 38, 182, 183, 184, 2, 185, 46, 52, 53, 54, 55, 56, 57, 58, 59, 186, 187, 188, 189, 17, 76, 174, 77, 78, 79, 80, 190, 191, 192, 193, 14, 74, 51, 398, 399, 400, 401, 402, 403, 404, 405, 406, 421, 422, 423, 424, 425, 426, 427] (by decide +kernel) (by decide +kernel)) (goodIn_sub (fun _ h => List.mem_append_left _ (List.mem_append_right _ h)) (by decide +kernel))
set_option maxRecDepth 20000 in
theorem gL_law_L_join : GoodIn wsL_law (va_wsS RL 101 yL_join wsL_join) := goodIn_app (goodIn_of _ (by decide +kernel)) ggL_law_L_join
set_option maxRecDepth 20000 in
theorem ggL_law_X3_join : GoodIn wsL_law wsX3_join := goodIn_r _ [197, 85, 88, 89, 90, 5, 91, 92, 93, 94, 95, 96, 97, 198, 199, 200, 201, 87, 26, 27, 28, 202, 203, 204, 205, 25, 407, 408, 409, 410, 411, 412, 413, 414, 415, 416, 417, 418, 419, 420] (by decide +kernel) (by decide +kernel)
set_option maxRecDepth 20000 in
theorem gL_law_X3_join : GoodIn wsL_law (wsV RL 103 RX3 yX3_join wsX3_join) := goodIn_app (goodIn_of _ (by decide +kernel)) ggL_law_X3_join
set_option maxRecDepth 20000 in
theorem ggL_law_L_window : GoodIn wsL_law wsL_window := goodIn_ca (goodIn_r _ [208, 38, 209, 210, 211, 2, 212, 17, 76, 148, 77, 52, 53, 54, 55, 56, 57, 58, 59, 78, 79, 80, 398, 399, 400, 401, 402, 403, 404, 405, 406, 421, 422, 423, 424, 425, 426, 427] (by decide +kernel) (by decide +kernel)) (goodIn_sub (fun _ h => List.mem_append_left _ (List.mem_append_right _ h)) (by decide +kernel))
set_option maxRecDepth 20000 in
theorem gL_law_L_window : GoodIn wsL_law (va_wsS RL 104 yL_window wsL_window) := goodIn_app (goodIn_of _ (by decide +kernel)) ggL_law_L_window
set_option maxRecDepth 20000 in
theorem ggL_law_X3_window : GoodIn wsL_law wsX3_window := goodIn_r _ [216, 88, 89, 90, 5, 91, 92, 93, 94, 95, 96, 97, 217, 218, 219, 220, 87, 26, 27, 29, 407, 408, 409, 410, 411, 412, 413, 414, 415, 416, 417, 418, 419, 420] (by decide +kernel) (by decide +kernel)
set_option maxRecDepth 20000 in
theorem gL_law_X3_window : GoodIn wsL_law (wsV RL 106 RX3 yX3_window wsX3_window) := goodIn_app (goodIn_of _ (by decide +kernel)) ggL_law_X3_window
set_option maxRecDepth 20000 in
theorem ggL_law_L_greatestTile : GoodIn wsL_law wsL_greatestTile := goodIn_ca (goodIn_r _ [223, 38, 224, 225, 226, 2, 227, 17, 76, 148, 228, 229, 230, 231, 77, 52, 53, 54, 55, 56, 57, 58, 59, 78, 79, 80, 398, 399, 400, 401, 402, 403, 404, 405, 406, 421, 422, 423, 424, 425, 426, 427] (by decide +kernel) (by decide +kernel)) (goodIn_sub (fun _ h => List.mem_append_left _ (List.mem_append_right _ h)) (by decide +kernel))
set_option maxRecDepth 20000 in
theorem gL_law_L_greatestTile : GoodIn wsL_law (va_wsS RL 107 yL_greatestTile wsL_greatestTile) := goodIn_app (goodIn_of _ (by decide +kernel)) ggL_law_L_greatestTile
set_option maxRecDepth 20000 in
theorem ggL_law_X3_greatestTile : GoodIn wsL_law wsX3_greatestTile := goodIn_r _ [235, 87, 27, 26, 236, 237, 238, 5, 239, 88, 89, 90, 91, 92, 93, 94, 95, 96, 97, 240, 241, 242, 243, 217, 218, 219, 220, 29, 407, 408, 409, 410, 411, 412, 413, 414, 415, 416, 417, 418, 419, 420] (by decide +kernel) (by decide +kernel)
set_option maxRecDepth 20000 in
theorem gL_law_X3_greatestTile : GoodIn wsL_law (wsV RL 110 RX3 yX3_greatestTile wsX3_greatestTile) := goodIn_app (goodIn_of _ (by decide +kernel)) ggL_law_X3_greatestTile
set_option maxRecDepth 20000 in
theorem ggL_law_L_tiles : GoodIn wsL_law wsL_tiles := goodIn_ca (goodIn_r _ [246, 38, 247, 248, 249, 2, 250, 17, 76, 77, 52, 53, 54, 55, 56, 57, 58, 59, 78, 79, 80, 398, 399, 400, 401, 402, 403, 404, 405, 406, 421, 422, 423, 424, 425, 426, 427] (by decide +kernel) (by decide +kernel)) (goodIn_sub (fun _ h => List.mem_append_left _ (List.mem_append_right _ h)) (by decide +kernel))
set_option maxRecDepth 20000 in
theorem gL_law_L_tiles : GoodIn wsL_law (va_wsS RL 111 yL_tiles wsL_tiles) := goodIn_app (goodIn_of _ (by decide +kernel)) ggL_law_L_tiles
set_option maxRecDepth 20000 in
theorem ggL_law_X3_tiles : GoodIn wsL_law wsX3_tiles := goodIn_r _ [254, 87, 26, 236, 237, 238, 5, 239, 88, 89, 90, 91, 92, 93, 94, 95, 96, 97, 240, 241, 242, 243, 27, 407, 408, 409, 410, 411, 412, 413, 414, 415, 416, 417, 418, 419, 420] (by decide +kernel) (by decide +kernel)
set_option maxRecDepth 20000 in
theorem gL_law_X3_tiles : GoodIn wsL_law (wsV RL 113 RX3 yX3_tiles wsX3_tiles) := goodIn_app (goodIn_of _ (by decide +kernel)) ggL_law_X3_tiles
set_option maxRecDepth 20000 in
theorem ggL_law_L_revised : GoodIn wsL_law wsL_revised := goodIn_ca (goodIn_r _ [257, 38, 258, 259, 260, 2, 261, 46, 17, 76, 14, 262, 263, 230, 264, 174, 77, 52, 53, 54, 55, 56, 57, 58, 59, 78, 79, 80, 265, 266, 267, 398, 399, 400, 401, 402, 403, 404, 405, 406, 421, 422, 423, 424, 425, 426, 427] (by decide +kernel) (by decide +kernel)) (goodIn_sub (fun _ h => List.mem_append_left _ (List.mem_append_right _ h)) (by decide +kernel))
set_option maxRecDepth 20000 in
theorem gL_law_L_revised : GoodIn wsL_law (va_wsS RL 114 yL_revised wsL_revised) := goodIn_app (goodIn_of _ (by decide +kernel)) ggL_law_L_revised
set_option maxRecDepth 20000 in
theorem ggL_law_X3_revised : GoodIn wsL_law wsX3_revised := goodIn_r _ [271, 88, 85, 89, 90, 5, 91, 92, 93, 94, 95, 96, 97, 198, 199, 200, 201, 87, 26, 27, 28, 202, 203, 204, 205, 25, 407, 408, 409, 410, 411, 412, 413, 414, 415, 416, 417, 418, 419, 420] (by decide +kernel) (by decide +kernel)
set_option maxRecDepth 20000 in
theorem gL_law_X3_revised : GoodIn wsL_law (wsV RL 116 RX3 yX3_revised wsX3_revised) := goodIn_app (goodIn_of _ (by decide +kernel)) ggL_law_X3_revised
set_option maxRecDepth 20000 in
theorem ggL_law_L_take : GoodIn wsL_law wsL_take := goodIn_ca (goodIn_r _ [274, 38, 275, 276, 277, 2, 278, 279, 55, 56, 57, 58, 59, 155, 156, 157, 158, 48, 16, 280, 281, 282, 283, 74, 75, 18, 76, 78, 79, 80, 398, 399, 400, 401, 402, 403, 404, 405, 406, 421, 422, 423, 424, 425, 426, 427] (by decide +kernel) (by decide +kernel)) (goodIn_sub (fun _ h => List.mem_append_left _ (List.mem_append_right _ h)) (by decide +kernel))
set_option maxRecDepth 20000 in
theorem gL_law_L_take : GoodIn wsL_law (va_wsS RL 117 yL_take wsL_take) := goodIn_app (goodIn_of _ (by decide +kernel)) ggL_law_L_take
set_option maxRecDepth 20000 in
theorem ggL_law_X3_take : GoodIn wsL_law wsX3_take := goodIn_r _ [287, 88, 288, 87, 30, 26, 27, 92, 93, 5, 94, 407, 408, 409, 410, 411, 412, 413, 414, 415, 416, 417, 418, 419, 420] (by decide +kernel) (by decide +kernel)
set_option maxRecDepth 20000 in
theorem gL_law_X3_take : GoodIn wsL_law (wsV RL 119 RX3 yX3_take wsX3_take) := goodIn_app (goodIn_of _ (by decide +kernel)) ggL_law_X3_take
set_option maxRecDepth 20000 in
theorem ggL_law_X2_lag : GoodIn wsL_law wsX2_lag := goodIn_r _ [292, 48, 279, 398, 399, 400, 401, 402, 403, 404, 405, 406] (by decide +kernel) (by decide +kernel)
set_option maxRecDepth 20000 in
theorem gL_law_X2_lag : GoodIn wsL_law (wsV RL 120 RX2 yX2_lag wsX2_lag) := goodIn_app (goodIn_of _ (by decide +kernel)) ggL_law_X2_lag
set_option maxRecDepth 20000 in
theorem ggL_law_X3_lag : GoodIn wsL_law wsX3_lag := goodIn_r _ [296, 88, 87, 288, 407, 408, 409, 410, 411, 412, 413, 414, 415, 416, 417, 418, 419, 420] (by decide +kernel) (by decide +kernel)
set_option maxRecDepth 20000 in
theorem gL_law_X3_lag : GoodIn wsL_law (wsV RL 123 RX3 yX3_lag wsX3_lag) := goodIn_app (goodIn_of _ (by decide +kernel)) ggL_law_X3_lag
set_option maxRecDepth 20000 in
theorem ggL_law_L_online : GoodIn wsL_law wsL_online := goodIn_ca (goodIn_r _ [299, 38, 300, 301, 302, 2, 303, 52, 53, 54, 55, 56, 57, 58, 59, 304, 305, 306, 307, 18, 46, 78, 79, 80, 190, 191, 192, 193, 76, 14, 74, 51, 398, 399, 400, 401, 402, 403, 404, 405, 406, 421, 422, 423, 424, 425, 426, 427] (by decide +kernel) (by decide +kernel)) (goodIn_sub (fun _ h => List.mem_append_left _ (List.mem_append_right _ h)) (by decide +kernel))
set_option maxRecDepth 20000 in
theorem gL_law_L_online : GoodIn wsL_law (va_wsS RL 124 yL_online wsL_online) := goodIn_app (goodIn_of _ (by decide +kernel)) ggL_law_L_online
set_option maxRecDepth 20000 in
theorem ggL_law_X3_online : GoodIn wsL_law wsX3_online := goodIn_r _ [311, 88, 30, 85, 89, 90, 5, 91, 92, 93, 94, 95, 96, 97, 202, 203, 204, 205, 27, 25, 26, 407, 408, 409, 410, 411, 412, 413, 414, 415, 416, 417, 418, 419, 420] (by decide +kernel) (by decide +kernel)
set_option maxRecDepth 20000 in
theorem gL_law_X3_online : GoodIn wsL_law (wsV RL 126 RX3 yX3_online wsX3_online) := goodIn_app (goodIn_of _ (by decide +kernel)) ggL_law_X3_online
set_option maxRecDepth 20000 in
theorem ggL_law_X2_skew : GoodIn wsL_law wsX2_skew := goodIn_r _ [315, 46, 304, 305, 306, 2, 307, 18, 78, 79, 80, 190, 191, 192, 193, 76, 14, 74, 51, 186, 187, 188, 189, 17, 174, 77, 398, 399, 400, 401, 402, 403, 404, 405, 406, 421, 422, 423, 424, 425, 426, 427] (by decide +kernel) (by decide +kernel)
set_option maxRecDepth 20000 in
theorem gL_law_X2_skew : GoodIn wsL_law (wsV RL 127 RX2 yX2_skew wsX2_skew) := goodIn_app (goodIn_of _ (by decide +kernel)) ggL_law_X2_skew
set_option maxRecDepth 20000 in
theorem ggL_law_X3_skew : GoodIn wsL_law wsX3_skew := goodIn_r _ [319, 88, 30, 85, 202, 203, 204, 5, 205, 27, 25, 26, 198, 199, 200, 201, 87, 28, 407, 408, 409, 410, 411, 412, 413, 414, 415, 416, 417, 418, 419, 420] (by decide +kernel) (by decide +kernel)
set_option maxRecDepth 20000 in
theorem gL_law_X3_skew : GoodIn wsL_law (wsV RL 130 RX3 yX3_skew wsX3_skew) := goodIn_app (goodIn_of _ (by decide +kernel)) ggL_law_X3_skew
set_option maxRecDepth 20000 in
theorem ggL_law_L_serve : GoodIn wsL_law wsL_serve := goodIn_ca (goodIn_ca (goodIn_r _ [322, 38, 39, 323, 324, 325, 2, 326, 44, 45, 327, 20, 19, 328, 329, 46, 52, 53, 54, 55, 56, 57, 58, 59, 304, 305, 306, 307, 18, 78, 79, 80, 190, 191, 192, 193, 76, 14, 74, 51, 330, 331, 332, 333, 11, 12, 334, 335, 336, 337, 398, 399, 400, 401, 402, 403, 404, 405, 406, 428, 429, 430, 431, 421, 422, 423, 424, 425, 426, 427] (by decide +kernel) (by decide +kernel)) (goodIn_sub (fun _ h => List.mem_append_left _ (List.mem_append_left _ (List.mem_append_right _ h))) (by decide +kernel))) (goodIn_sub (fun _ h => List.mem_append_left _ (List.mem_append_right _ h)) (by decide +kernel))
set_option maxRecDepth 20000 in
theorem gL_law_L_serve : GoodIn wsL_law (va_wsS RL 131 yL_serve wsL_serve) := goodIn_app (goodIn_of _ (by decide +kernel)) ggL_law_L_serve
set_option maxRecDepth 20000 in
theorem ggL_law_X3_serve : GoodIn wsL_law wsX3_serve := goodIn_r _ [341, 342, 88, 31, 32, 85, 33, 30, 89, 90, 5, 91, 92, 93, 94, 95, 96, 97, 202, 203, 204, 205, 27, 25, 26, 407, 408, 409, 410, 411, 412, 413, 414, 415, 416, 417, 418, 419, 420] (by decide +kernel) (by decide +kernel)
set_option maxRecDepth 20000 in
theorem gL_law_X3_serve : GoodIn wsL_law (wsV RL 133 RX3 yX3_serve wsX3_serve) := goodIn_app (goodIn_of _ (by decide +kernel)) ggL_law_X3_serve
set_option maxRecDepth 20000 in
theorem ggL_law_X2_servings : GoodIn wsL_law wsX2_servings := goodIn_r _ [346, 327, 398, 399, 400, 401, 402, 403, 404, 405, 406] (by decide +kernel) (by decide +kernel)
set_option maxRecDepth 20000 in
theorem gL_law_X2_servings : GoodIn wsL_law (wsV RL 134 RX2 yX2_servings wsX2_servings) := goodIn_app (goodIn_of _ (by decide +kernel)) ggL_law_X2_servings
set_option maxRecDepth 20000 in
theorem ggL_law_X3_servings : GoodIn wsL_law wsX3_servings := goodIn_r _ [350, 88, 342, 407, 408, 409, 410, 411, 412, 413, 414, 415, 416, 417, 418, 419, 420] (by decide +kernel) (by decide +kernel)
set_option maxRecDepth 20000 in
theorem gL_law_X3_servings : GoodIn wsL_law (wsV RL 137 RX3 yX3_servings wsX3_servings) := goodIn_app (goodIn_of _ (by decide +kernel)) ggL_law_X3_servings
set_option maxRecDepth 20000 in
theorem ggL_law_L_served : GoodIn wsL_law wsL_served := goodIn_ca (goodIn_r _ [353, 143, 354, 355, 356, 2, 357, 358, 359, 360, 361, 362, 153, 154, 327, 20, 428, 429, 430, 431, 398, 399, 400, 401, 402, 403, 404, 405, 406] (by decide +kernel) (by decide +kernel)) (goodIn_sub (fun _ h => List.mem_append_right _ h) (by decide +kernel))
set_option maxRecDepth 20000 in
theorem gL_law_L_served : GoodIn wsL_law (va_wsS RL 138 yL_served wsL_served) := goodIn_app (goodIn_of _ (by decide +kernel)) ggL_law_L_served
set_option maxRecDepth 20000 in
theorem ggL_law_X3_served : GoodIn wsL_law wsX3_served := goodIn_r _ [366, 33, 367, 368, 369, 5, 370, 342, 88, 92, 93, 94, 407, 408, 409, 410, 411, 412, 413, 414, 415, 416, 417, 418, 419, 420] (by decide +kernel) (by decide +kernel)
set_option maxRecDepth 20000 in
theorem gL_law_X3_served : GoodIn wsL_law (wsV RL 140 RX3 yX3_served wsX3_served) := goodIn_app (goodIn_of _ (by decide +kernel)) ggL_law_X3_served
set_option maxRecDepth 20000 in
theorem ggL_law_L_isSound : GoodIn wsL_law wsL_isSound := goodIn_ca (goodIn_r _ [373, 143, 374, 375, 376, 2, 377, 358, 378, 379, 380, 359, 360, 361, 362, 153, 154, 327, 20, 186, 187, 188, 189, 17, 76, 174, 77, 78, 79, 80, 190, 191, 192, 193, 14, 74, 51, 428, 429, 430, 431, 398, 399, 400, 401, 402, 403, 404, 405, 406, 421, 422, 423, 424, 425, 426, 427] (by decide +kernel) (by decide +kernel)) (goodIn_sub (fun _ h => List.mem_append_right _ h) (by decide +kernel))
set_option maxRecDepth 20000 in
theorem gL_law_L_isSound : GoodIn wsL_law (va_wsS RL 141 yL_isSound wsL_isSound) := goodIn_app (goodIn_of _ (by decide +kernel)) ggL_law_L_isSound
set_option maxRecDepth 20000 in
theorem ggL_law_X3_isSound : GoodIn wsL_law wsX3_isSound := goodIn_r _ [384, 367, 368, 369, 5, 370, 342, 88, 92, 93, 94, 385, 386, 387, 388, 33, 31, 32, 198, 199, 200, 201, 87, 26, 27, 28, 202, 203, 204, 205, 25, 407, 408, 409, 410, 411, 412, 413, 414, 415, 416, 417, 418, 419, 420] (by decide +kernel) (by decide +kernel)
set_option maxRecDepth 20000 in
theorem gL_law_X3_isSound : GoodIn wsL_law (wsV RL 143 RX3 yX3_isSound wsX3_isSound) := goodIn_app (goodIn_of _ (by decide +kernel)) ggL_law_X3_isSound
set_option maxRecDepth 20000 in
theorem ggL_law_X2_unsound : GoodIn wsL_law wsX2_unsound := goodIn_ca (goodIn_r _ [392, 327, 393, 375, 376, 2, 377, 358, 378, 379, 380, 359, 360, 361, 362, 153, 154, 20, 186, 187, 188, 189, 17, 76, 174, 77, 78, 79, 80, 190, 191, 192, 193, 14, 74, 51, 398, 399, 400, 401, 402, 403, 404, 405, 406, 428, 429, 430, 431, 421, 422, 423, 424, 425, 426, 427] (by decide +kernel) (by decide +kernel)) (goodIn_sub (fun _ h => List.mem_append_right _ h) (by decide +kernel))
set_option maxRecDepth 20000 in
theorem gL_law_X2_unsound : GoodIn wsL_law (wsV RL 144 RX2 yX2_unsound wsX2_unsound) := goodIn_app (goodIn_of _ (by decide +kernel)) ggL_law_X2_unsound
set_option maxRecDepth 20000 in
theorem ggL_law_X3_unsound : GoodIn wsL_law wsX3_unsound := goodIn_r _ [397, 88, 342, 385, 386, 387, 5, 388, 33, 31, 32, 198, 199, 200, 201, 87, 26, 27, 28, 202, 203, 204, 205, 25, 407, 408, 409, 410, 411, 412, 413, 414, 415, 416, 417, 418, 419, 420] (by decide +kernel) (by decide +kernel)
set_option maxRecDepth 20000 in
theorem gL_law_X3_unsound : GoodIn wsL_law (wsV RL 147 RX3 yX3_unsound wsX3_unsound) := goodIn_app (goodIn_of _ (by decide +kernel)) ggL_law_X3_unsound
theorem dL_law_0 : decode cL_law 0 = .ok (.new 8, 3) := by decide +kernel
theorem dL_law_3 : decode cL_law 3 = .ok (.dup, 1) := by decide +kernel
theorem dL_law_4 : decode cL_law 4 = .ok (.invokespecial 65, 3) := by decide +kernel
theorem dL_law_7 : decode cL_law 7 = .ok (.astore_n 1, 1) := by decide +kernel
theorem dL_law_8 : decode cL_law 8 = .ok (.new 66, 3) := by decide +kernel
theorem dL_law_11 : decode cL_law 11 = .ok (.dup, 1) := by decide +kernel
theorem dL_law_12 : decode cL_law 12 = .ok (.invokespecial 68, 3) := by decide +kernel
theorem dL_law_15 : decode cL_law 15 = .ok (.astore_n 2, 1) := by decide +kernel
theorem dL_law_16 : decode cL_law 16 = .ok (.iconst 1, 1) := by decide +kernel
theorem dL_law_17 : decode cL_law 17 = .ok (.newarray .long, 2) := by decide +kernel
theorem dL_law_19 : decode cL_law 19 = .ok (.astore_n 3, 1) := by decide +kernel
theorem dL_law_20 : decode cL_law 20 = .ok (.iconst 0, 1) := by decide +kernel
theorem dL_law_21 : decode cL_law 21 = .ok (.istore 4, 2) := by decide +kernel
theorem dL_law_23 : decode cL_law 23 = .ok (.iload 4, 2) := by decide +kernel
theorem dL_law_25 : decode cL_law 25 = .ok (.aload_n 0, 1) := by decide +kernel
theorem dL_law_26 : decode cL_law 26 = .ok (.arraylength, 1) := by decide +kernel
theorem dL_law_27 : decode cL_law 27 = .ok (.iconst 5, 1) := by decide +kernel
theorem dL_law_28 : decode cL_law 28 = .ok (.isub, 1) := by decide +kernel
theorem dL_law_29 : decode cL_law 29 = .ok (.if_icmp .gt 1254, 3) := by decide +kernel
theorem dL_law_32 : decode cL_law 32 = .ok (.aload_n 0, 1) := by decide +kernel
theorem dL_law_33 : decode cL_law 33 = .ok (.iload 4, 2) := by decide +kernel
theorem dL_law_35 : decode cL_law 35 = .ok (.iaload, 1) := by decide +kernel
theorem dL_law_36 : decode cL_law 36 = .ok (.bipush 31, 2) := by decide +kernel
theorem dL_law_38 : decode cL_law 38 = .ok (.iand, 1) := by decide +kernel
theorem dL_law_39 : decode cL_law 39 = .ok (.tableswitch 1238 0 20 #[97, 189, 245, 313, 326, 339, 395, 451, 543, 635, 715, 795, 875, 931, 944, 1012, 1025, 1093, 1106, 1162, 1225], 97) := by decide +kernel
theorem dL_law_136 : decode cL_law 136 = .ok (.aload_n 1, 1) := by decide +kernel
theorem dL_law_137 : decode cL_law 137 = .ok (.aload_n 0, 1) := by decide +kernel
theorem dL_law_138 : decode cL_law 138 = .ok (.iload 4, 2) := by decide +kernel
theorem dL_law_140 : decode cL_law 140 = .ok (.iconst 1, 1) := by decide +kernel
theorem dL_law_141 : decode cL_law 141 = .ok (.iadd, 1) := by decide +kernel
theorem dL_law_142 : decode cL_law 142 = .ok (.iaload, 1) := by decide +kernel
theorem dL_law_143 : decode cL_law 143 = .ok (.aload_n 0, 1) := by decide +kernel
theorem dL_law_144 : decode cL_law 144 = .ok (.iload 4, 2) := by decide +kernel
theorem dL_law_146 : decode cL_law 146 = .ok (.iconst 2, 1) := by decide +kernel
theorem dL_law_147 : decode cL_law 147 = .ok (.iadd, 1) := by decide +kernel
theorem dL_law_148 : decode cL_law 148 = .ok (.iaload, 1) := by decide +kernel
theorem dL_law_149 : decode cL_law 149 = .ok (.aload_n 0, 1) := by decide +kernel
theorem dL_law_150 : decode cL_law 150 = .ok (.iload 4, 2) := by decide +kernel
theorem dL_law_152 : decode cL_law 152 = .ok (.iconst 3, 1) := by decide +kernel
theorem dL_law_153 : decode cL_law 153 = .ok (.iadd, 1) := by decide +kernel
theorem dL_law_154 : decode cL_law 154 = .ok (.iaload, 1) := by decide +kernel
theorem dL_law_155 : decode cL_law 155 = .ok (.aload_n 0, 1) := by decide +kernel
theorem dL_law_156 : decode cL_law 156 = .ok (.iload 4, 2) := by decide +kernel
theorem dL_law_158 : decode cL_law 158 = .ok (.iconst 4, 1) := by decide +kernel
theorem dL_law_159 : decode cL_law 159 = .ok (.iadd, 1) := by decide +kernel
theorem dL_law_160 : decode cL_law 160 = .ok (.iaload, 1) := by decide +kernel
theorem dL_law_161 : decode cL_law 161 = .ok (.aload_n 3, 1) := by decide +kernel
theorem dL_law_162 : decode cL_law 162 = .ok (.invokestatic 69, 3) := by decide +kernel
theorem dL_law_165 : decode cL_law 165 = .ok (.istore 5, 2) := by decide +kernel
theorem dL_law_167 : decode cL_law 167 = .ok (.aload_n 2, 1) := by decide +kernel
theorem dL_law_168 : decode cL_law 168 = .ok (.aload_n 0, 1) := by decide +kernel
theorem dL_law_169 : decode cL_law 169 = .ok (.iload 4, 2) := by decide +kernel
theorem dL_law_171 : decode cL_law 171 = .ok (.iconst 1, 1) := by decide +kernel
theorem dL_law_172 : decode cL_law 172 = .ok (.iadd, 1) := by decide +kernel
theorem dL_law_173 : decode cL_law 173 = .ok (.iaload, 1) := by decide +kernel
theorem dL_law_174 : decode cL_law 174 = .ok (.aload_n 0, 1) := by decide +kernel
theorem dL_law_175 : decode cL_law 175 = .ok (.iload 4, 2) := by decide +kernel
theorem dL_law_177 : decode cL_law 177 = .ok (.iconst 2, 1) := by decide +kernel
theorem dL_law_178 : decode cL_law 178 = .ok (.iadd, 1) := by decide +kernel
theorem dL_law_179 : decode cL_law 179 = .ok (.iaload, 1) := by decide +kernel
theorem dL_law_180 : decode cL_law 180 = .ok (.aload_n 0, 1) := by decide +kernel
theorem dL_law_181 : decode cL_law 181 = .ok (.iload 4, 2) := by decide +kernel
theorem dL_law_183 : decode cL_law 183 = .ok (.iconst 3, 1) := by decide +kernel
theorem dL_law_184 : decode cL_law 184 = .ok (.iadd, 1) := by decide +kernel
theorem dL_law_185 : decode cL_law 185 = .ok (.iaload, 1) := by decide +kernel
theorem dL_law_186 : decode cL_law 186 = .ok (.aload_n 0, 1) := by decide +kernel
theorem dL_law_187 : decode cL_law 187 = .ok (.iload 4, 2) := by decide +kernel
theorem dL_law_189 : decode cL_law 189 = .ok (.iconst 4, 1) := by decide +kernel
theorem dL_law_190 : decode cL_law 190 = .ok (.iadd, 1) := by decide +kernel
theorem dL_law_191 : decode cL_law 191 = .ok (.iaload, 1) := by decide +kernel
theorem dL_law_192 : decode cL_law 192 = .ok (.invokevirtual 74, 3) := by decide +kernel
theorem dL_law_195 : decode cL_law 195 = .ok (.istore 6, 2) := by decide +kernel
theorem dL_law_197 : decode cL_law 197 = .ok (.aload_n 2, 1) := by decide +kernel
theorem dL_law_198 : decode cL_law 198 = .ok (.invokevirtual 75, 3) := by decide +kernel
theorem dL_law_201 : decode cL_law 201 = .ok (.iload 5, 2) := by decide +kernel
theorem dL_law_203 : decode cL_law 203 = .ok (.if_icmp .eq 5, 3) := by decide +kernel
theorem dL_law_206 : decode cL_law 206 = .ok (.iconst 0, 1) := by decide +kernel
theorem dL_law_207 : decode cL_law 207 = .ok (.ireturn, 1) := by decide +kernel
theorem dL_law_208 : decode cL_law 208 = .ok (.iload 5, 2) := by decide +kernel
theorem dL_law_210 : decode cL_law 210 = .ok (.ifCond .ne 15, 3) := by decide +kernel
theorem dL_law_213 : decode cL_law 213 = .ok (.aload_n 3, 1) := by decide +kernel
theorem dL_law_214 : decode cL_law 214 = .ok (.iconst 0, 1) := by decide +kernel
theorem dL_law_215 : decode cL_law 215 = .ok (.laload, 1) := by decide +kernel
theorem dL_law_216 : decode cL_law 216 = .ok (.iload 6, 2) := by decide +kernel
theorem dL_law_218 : decode cL_law 218 = .ok (.i2l, 1) := by decide +kernel
theorem dL_law_219 : decode cL_law 219 = .ok (.lcmp, 1) := by decide +kernel
theorem dL_law_220 : decode cL_law 220 = .ok (.ifCond .eq 5, 3) := by decide +kernel
theorem dL_law_223 : decode cL_law 223 = .ok (.iconst 0, 1) := by decide +kernel
theorem dL_law_224 : decode cL_law 224 = .ok (.ireturn, 1) := by decide +kernel
theorem dL_law_225 : decode cL_law 225 = .ok (.goto 1052, 3) := by decide +kernel
theorem dL_law_228 : decode cL_law 228 = .ok (.aload_n 1, 1) := by decide +kernel
theorem dL_law_229 : decode cL_law 229 = .ok (.aload_n 0, 1) := by decide +kernel
theorem dL_law_230 : decode cL_law 230 = .ok (.iload 4, 2) := by decide +kernel
theorem dL_law_232 : decode cL_law 232 = .ok (.iconst 1, 1) := by decide +kernel
theorem dL_law_233 : decode cL_law 233 = .ok (.iadd, 1) := by decide +kernel
theorem dL_law_234 : decode cL_law 234 = .ok (.iaload, 1) := by decide +kernel
theorem dL_law_235 : decode cL_law 235 = .ok (.aload_n 3, 1) := by decide +kernel
theorem dL_law_236 : decode cL_law 236 = .ok (.invokestatic 79, 3) := by decide +kernel
theorem dL_law_239 : decode cL_law 239 = .ok (.istore 5, 2) := by decide +kernel
theorem dL_law_241 : decode cL_law 241 = .ok (.aload_n 2, 1) := by decide +kernel
theorem dL_law_242 : decode cL_law 242 = .ok (.aload_n 0, 1) := by decide +kernel
theorem dL_law_243 : decode cL_law 243 = .ok (.iload 4, 2) := by decide +kernel
theorem dL_law_245 : decode cL_law 245 = .ok (.iconst 1, 1) := by decide +kernel
theorem dL_law_246 : decode cL_law 246 = .ok (.iadd, 1) := by decide +kernel
theorem dL_law_247 : decode cL_law 247 = .ok (.iaload, 1) := by decide +kernel
theorem dL_law_248 : decode cL_law 248 = .ok (.invokevirtual 82, 3) := by decide +kernel
theorem dL_law_251 : decode cL_law 251 = .ok (.istore 6, 2) := by decide +kernel
theorem dL_law_253 : decode cL_law 253 = .ok (.aload_n 2, 1) := by decide +kernel
theorem dL_law_254 : decode cL_law 254 = .ok (.invokevirtual 75, 3) := by decide +kernel
theorem dL_law_257 : decode cL_law 257 = .ok (.iload 5, 2) := by decide +kernel
theorem dL_law_259 : decode cL_law 259 = .ok (.if_icmp .eq 5, 3) := by decide +kernel
theorem dL_law_262 : decode cL_law 262 = .ok (.iconst 0, 1) := by decide +kernel
theorem dL_law_263 : decode cL_law 263 = .ok (.ireturn, 1) := by decide +kernel
theorem dL_law_264 : decode cL_law 264 = .ok (.iload 5, 2) := by decide +kernel
theorem dL_law_266 : decode cL_law 266 = .ok (.ifCond .ne 15, 3) := by decide +kernel
theorem dL_law_269 : decode cL_law 269 = .ok (.aload_n 3, 1) := by decide +kernel
theorem dL_law_270 : decode cL_law 270 = .ok (.iconst 0, 1) := by decide +kernel
theorem dL_law_271 : decode cL_law 271 = .ok (.laload, 1) := by decide +kernel
theorem dL_law_272 : decode cL_law 272 = .ok (.iload 6, 2) := by decide +kernel
theorem dL_law_274 : decode cL_law 274 = .ok (.i2l, 1) := by decide +kernel
theorem dL_law_275 : decode cL_law 275 = .ok (.lcmp, 1) := by decide +kernel
theorem dL_law_276 : decode cL_law 276 = .ok (.ifCond .eq 5, 3) := by decide +kernel
theorem dL_law_279 : decode cL_law 279 = .ok (.iconst 0, 1) := by decide +kernel
theorem dL_law_280 : decode cL_law 280 = .ok (.ireturn, 1) := by decide +kernel
theorem dL_law_281 : decode cL_law 281 = .ok (.goto 996, 3) := by decide +kernel
theorem dL_law_284 : decode cL_law 284 = .ok (.aload_n 1, 1) := by decide +kernel
theorem dL_law_285 : decode cL_law 285 = .ok (.aload_n 0, 1) := by decide +kernel
theorem dL_law_286 : decode cL_law 286 = .ok (.iload 4, 2) := by decide +kernel
theorem dL_law_288 : decode cL_law 288 = .ok (.iconst 1, 1) := by decide +kernel
theorem dL_law_289 : decode cL_law 289 = .ok (.iadd, 1) := by decide +kernel
theorem dL_law_290 : decode cL_law 290 = .ok (.iaload, 1) := by decide +kernel
theorem dL_law_291 : decode cL_law 291 = .ok (.aload_n 0, 1) := by decide +kernel
theorem dL_law_292 : decode cL_law 292 = .ok (.iload 4, 2) := by decide +kernel
theorem dL_law_294 : decode cL_law 294 = .ok (.iconst 2, 1) := by decide +kernel
theorem dL_law_295 : decode cL_law 295 = .ok (.iadd, 1) := by decide +kernel
theorem dL_law_296 : decode cL_law 296 = .ok (.iaload, 1) := by decide +kernel
theorem dL_law_297 : decode cL_law 297 = .ok (.aload_n 3, 1) := by decide +kernel
theorem dL_law_298 : decode cL_law 298 = .ok (.invokestatic 83, 3) := by decide +kernel
theorem dL_law_301 : decode cL_law 301 = .ok (.istore 5, 2) := by decide +kernel
theorem dL_law_303 : decode cL_law 303 = .ok (.aload_n 2, 1) := by decide +kernel
theorem dL_law_304 : decode cL_law 304 = .ok (.aload_n 0, 1) := by decide +kernel
theorem dL_law_305 : decode cL_law 305 = .ok (.iload 4, 2) := by decide +kernel
theorem dL_law_307 : decode cL_law 307 = .ok (.iconst 1, 1) := by decide +kernel
theorem dL_law_308 : decode cL_law 308 = .ok (.iadd, 1) := by decide +kernel
theorem dL_law_309 : decode cL_law 309 = .ok (.iaload, 1) := by decide +kernel
theorem dL_law_310 : decode cL_law 310 = .ok (.aload_n 0, 1) := by decide +kernel
theorem dL_law_311 : decode cL_law 311 = .ok (.iload 4, 2) := by decide +kernel
theorem dL_law_313 : decode cL_law 313 = .ok (.iconst 2, 1) := by decide +kernel
theorem dL_law_314 : decode cL_law 314 = .ok (.iadd, 1) := by decide +kernel
theorem dL_law_315 : decode cL_law 315 = .ok (.iaload, 1) := by decide +kernel
theorem dL_law_316 : decode cL_law 316 = .ok (.invokevirtual 86, 3) := by decide +kernel
theorem dL_law_319 : decode cL_law 319 = .ok (.istore 6, 2) := by decide +kernel
theorem dL_law_321 : decode cL_law 321 = .ok (.aload_n 2, 1) := by decide +kernel
theorem dL_law_322 : decode cL_law 322 = .ok (.invokevirtual 75, 3) := by decide +kernel
theorem dL_law_325 : decode cL_law 325 = .ok (.iload 5, 2) := by decide +kernel
theorem dL_law_327 : decode cL_law 327 = .ok (.if_icmp .eq 5, 3) := by decide +kernel
theorem dL_law_330 : decode cL_law 330 = .ok (.iconst 0, 1) := by decide +kernel
theorem dL_law_331 : decode cL_law 331 = .ok (.ireturn, 1) := by decide +kernel
theorem dL_law_332 : decode cL_law 332 = .ok (.iload 5, 2) := by decide +kernel
theorem dL_law_334 : decode cL_law 334 = .ok (.ifCond .ne 15, 3) := by decide +kernel
theorem dL_law_337 : decode cL_law 337 = .ok (.aload_n 3, 1) := by decide +kernel
theorem dL_law_338 : decode cL_law 338 = .ok (.iconst 0, 1) := by decide +kernel
theorem dL_law_339 : decode cL_law 339 = .ok (.laload, 1) := by decide +kernel
theorem dL_law_340 : decode cL_law 340 = .ok (.iload 6, 2) := by decide +kernel
theorem dL_law_342 : decode cL_law 342 = .ok (.i2l, 1) := by decide +kernel
theorem dL_law_343 : decode cL_law 343 = .ok (.lcmp, 1) := by decide +kernel
theorem dL_law_344 : decode cL_law 344 = .ok (.ifCond .eq 5, 3) := by decide +kernel
theorem dL_law_347 : decode cL_law 347 = .ok (.iconst 0, 1) := by decide +kernel
theorem dL_law_348 : decode cL_law 348 = .ok (.ireturn, 1) := by decide +kernel
theorem dL_law_349 : decode cL_law 349 = .ok (.goto 928, 3) := by decide +kernel
theorem dL_law_352 : decode cL_law 352 = .ok (.aload_n 1, 1) := by decide +kernel
theorem dL_law_353 : decode cL_law 353 = .ok (.invokevirtual 87, 3) := by decide +kernel
theorem dL_law_356 : decode cL_law 356 = .ok (.aload_n 2, 1) := by decide +kernel
theorem dL_law_357 : decode cL_law 357 = .ok (.invokevirtual 90, 3) := by decide +kernel
theorem dL_law_360 : decode cL_law 360 = .ok (.if_icmp .eq 917, 3) := by decide +kernel
theorem dL_law_363 : decode cL_law 363 = .ok (.iconst 0, 1) := by decide +kernel
theorem dL_law_364 : decode cL_law 364 = .ok (.ireturn, 1) := by decide +kernel
theorem dL_law_365 : decode cL_law 365 = .ok (.aload_n 1, 1) := by decide +kernel
theorem dL_law_366 : decode cL_law 366 = .ok (.invokevirtual 91, 3) := by decide +kernel
theorem dL_law_369 : decode cL_law 369 = .ok (.aload_n 2, 1) := by decide +kernel
theorem dL_law_370 : decode cL_law 370 = .ok (.invokevirtual 94, 3) := by decide +kernel
theorem dL_law_373 : decode cL_law 373 = .ok (.if_icmp .eq 904, 3) := by decide +kernel
theorem dL_law_376 : decode cL_law 376 = .ok (.iconst 0, 1) := by decide +kernel
theorem dL_law_377 : decode cL_law 377 = .ok (.ireturn, 1) := by decide +kernel
theorem dL_law_378 : decode cL_law 378 = .ok (.aload_n 1, 1) := by decide +kernel
theorem dL_law_379 : decode cL_law 379 = .ok (.aload_n 0, 1) := by decide +kernel
theorem dL_law_380 : decode cL_law 380 = .ok (.iload 4, 2) := by decide +kernel
theorem dL_law_382 : decode cL_law 382 = .ok (.iconst 1, 1) := by decide +kernel
theorem dL_law_383 : decode cL_law 383 = .ok (.iadd, 1) := by decide +kernel
theorem dL_law_384 : decode cL_law 384 = .ok (.iaload, 1) := by decide +kernel
theorem dL_law_385 : decode cL_law 385 = .ok (.aload_n 3, 1) := by decide +kernel
theorem dL_law_386 : decode cL_law 386 = .ok (.invokestatic 95, 3) := by decide +kernel
theorem dL_law_389 : decode cL_law 389 = .ok (.istore 5, 2) := by decide +kernel
theorem dL_law_391 : decode cL_law 391 = .ok (.aload_n 2, 1) := by decide +kernel
theorem dL_law_392 : decode cL_law 392 = .ok (.aload_n 0, 1) := by decide +kernel
theorem dL_law_393 : decode cL_law 393 = .ok (.iload 4, 2) := by decide +kernel
theorem dL_law_395 : decode cL_law 395 = .ok (.iconst 1, 1) := by decide +kernel
theorem dL_law_396 : decode cL_law 396 = .ok (.iadd, 1) := by decide +kernel
theorem dL_law_397 : decode cL_law 397 = .ok (.iaload, 1) := by decide +kernel
theorem dL_law_398 : decode cL_law 398 = .ok (.invokevirtual 97, 3) := by decide +kernel
theorem dL_law_401 : decode cL_law 401 = .ok (.istore 6, 2) := by decide +kernel
theorem dL_law_403 : decode cL_law 403 = .ok (.aload_n 2, 1) := by decide +kernel
theorem dL_law_404 : decode cL_law 404 = .ok (.invokevirtual 75, 3) := by decide +kernel
theorem dL_law_407 : decode cL_law 407 = .ok (.iload 5, 2) := by decide +kernel
theorem dL_law_409 : decode cL_law 409 = .ok (.if_icmp .eq 5, 3) := by decide +kernel
theorem dL_law_412 : decode cL_law 412 = .ok (.iconst 0, 1) := by decide +kernel
theorem dL_law_413 : decode cL_law 413 = .ok (.ireturn, 1) := by decide +kernel
theorem dL_law_414 : decode cL_law 414 = .ok (.iload 5, 2) := by decide +kernel
theorem dL_law_416 : decode cL_law 416 = .ok (.ifCond .ne 15, 3) := by decide +kernel
theorem dL_law_419 : decode cL_law 419 = .ok (.aload_n 3, 1) := by decide +kernel
theorem dL_law_420 : decode cL_law 420 = .ok (.iconst 0, 1) := by decide +kernel
theorem dL_law_421 : decode cL_law 421 = .ok (.laload, 1) := by decide +kernel
theorem dL_law_422 : decode cL_law 422 = .ok (.iload 6, 2) := by decide +kernel
theorem dL_law_424 : decode cL_law 424 = .ok (.i2l, 1) := by decide +kernel
theorem dL_law_425 : decode cL_law 425 = .ok (.lcmp, 1) := by decide +kernel
theorem dL_law_426 : decode cL_law 426 = .ok (.ifCond .eq 5, 3) := by decide +kernel
theorem dL_law_429 : decode cL_law 429 = .ok (.iconst 0, 1) := by decide +kernel
theorem dL_law_430 : decode cL_law 430 = .ok (.ireturn, 1) := by decide +kernel
theorem dL_law_431 : decode cL_law 431 = .ok (.goto 846, 3) := by decide +kernel
theorem dL_law_434 : decode cL_law 434 = .ok (.aload_n 1, 1) := by decide +kernel
theorem dL_law_435 : decode cL_law 435 = .ok (.aload_n 0, 1) := by decide +kernel
theorem dL_law_436 : decode cL_law 436 = .ok (.iload 4, 2) := by decide +kernel
theorem dL_law_438 : decode cL_law 438 = .ok (.iconst 1, 1) := by decide +kernel
theorem dL_law_439 : decode cL_law 439 = .ok (.iadd, 1) := by decide +kernel
theorem dL_law_440 : decode cL_law 440 = .ok (.iaload, 1) := by decide +kernel
theorem dL_law_441 : decode cL_law 441 = .ok (.aload_n 3, 1) := by decide +kernel
theorem dL_law_442 : decode cL_law 442 = .ok (.invokestatic 98, 3) := by decide +kernel
theorem dL_law_445 : decode cL_law 445 = .ok (.istore 5, 2) := by decide +kernel
theorem dL_law_447 : decode cL_law 447 = .ok (.aload_n 2, 1) := by decide +kernel
theorem dL_law_448 : decode cL_law 448 = .ok (.aload_n 0, 1) := by decide +kernel
theorem dL_law_449 : decode cL_law 449 = .ok (.iload 4, 2) := by decide +kernel
theorem dL_law_451 : decode cL_law 451 = .ok (.iconst 1, 1) := by decide +kernel
theorem dL_law_452 : decode cL_law 452 = .ok (.iadd, 1) := by decide +kernel
theorem dL_law_453 : decode cL_law 453 = .ok (.iaload, 1) := by decide +kernel
theorem dL_law_454 : decode cL_law 454 = .ok (.invokevirtual 100, 3) := by decide +kernel
theorem dL_law_457 : decode cL_law 457 = .ok (.istore 6, 2) := by decide +kernel
theorem dL_law_459 : decode cL_law 459 = .ok (.aload_n 2, 1) := by decide +kernel
theorem dL_law_460 : decode cL_law 460 = .ok (.invokevirtual 75, 3) := by decide +kernel
theorem dL_law_463 : decode cL_law 463 = .ok (.iload 5, 2) := by decide +kernel
theorem dL_law_465 : decode cL_law 465 = .ok (.if_icmp .eq 5, 3) := by decide +kernel
theorem dL_law_468 : decode cL_law 468 = .ok (.iconst 0, 1) := by decide +kernel
theorem dL_law_469 : decode cL_law 469 = .ok (.ireturn, 1) := by decide +kernel
theorem dL_law_470 : decode cL_law 470 = .ok (.iload 5, 2) := by decide +kernel
theorem dL_law_472 : decode cL_law 472 = .ok (.ifCond .ne 15, 3) := by decide +kernel
theorem dL_law_475 : decode cL_law 475 = .ok (.aload_n 3, 1) := by decide +kernel
theorem dL_law_476 : decode cL_law 476 = .ok (.iconst 0, 1) := by decide +kernel
theorem dL_law_477 : decode cL_law 477 = .ok (.laload, 1) := by decide +kernel
theorem dL_law_478 : decode cL_law 478 = .ok (.iload 6, 2) := by decide +kernel
theorem dL_law_480 : decode cL_law 480 = .ok (.i2l, 1) := by decide +kernel
theorem dL_law_481 : decode cL_law 481 = .ok (.lcmp, 1) := by decide +kernel
theorem dL_law_482 : decode cL_law 482 = .ok (.ifCond .eq 5, 3) := by decide +kernel
theorem dL_law_485 : decode cL_law 485 = .ok (.iconst 0, 1) := by decide +kernel
theorem dL_law_486 : decode cL_law 486 = .ok (.ireturn, 1) := by decide +kernel
theorem dL_law_487 : decode cL_law 487 = .ok (.goto 790, 3) := by decide +kernel
theorem dL_law_490 : decode cL_law 490 = .ok (.aload_n 1, 1) := by decide +kernel
theorem dL_law_491 : decode cL_law 491 = .ok (.aload_n 0, 1) := by decide +kernel
theorem dL_law_492 : decode cL_law 492 = .ok (.iload 4, 2) := by decide +kernel
theorem dL_law_494 : decode cL_law 494 = .ok (.iconst 1, 1) := by decide +kernel
theorem dL_law_495 : decode cL_law 495 = .ok (.iadd, 1) := by decide +kernel
theorem dL_law_496 : decode cL_law 496 = .ok (.iaload, 1) := by decide +kernel
theorem dL_law_497 : decode cL_law 497 = .ok (.aload_n 0, 1) := by decide +kernel
theorem dL_law_498 : decode cL_law 498 = .ok (.iload 4, 2) := by decide +kernel
theorem dL_law_500 : decode cL_law 500 = .ok (.iconst 2, 1) := by decide +kernel
theorem dL_law_501 : decode cL_law 501 = .ok (.iadd, 1) := by decide +kernel
theorem dL_law_502 : decode cL_law 502 = .ok (.iaload, 1) := by decide +kernel
theorem dL_law_503 : decode cL_law 503 = .ok (.aload_n 0, 1) := by decide +kernel
theorem dL_law_504 : decode cL_law 504 = .ok (.iload 4, 2) := by decide +kernel
theorem dL_law_506 : decode cL_law 506 = .ok (.iconst 3, 1) := by decide +kernel
theorem dL_law_507 : decode cL_law 507 = .ok (.iadd, 1) := by decide +kernel
theorem dL_law_508 : decode cL_law 508 = .ok (.iaload, 1) := by decide +kernel
theorem dL_law_509 : decode cL_law 509 = .ok (.aload_n 0, 1) := by decide +kernel
theorem dL_law_510 : decode cL_law 510 = .ok (.iload 4, 2) := by decide +kernel
theorem dL_law_512 : decode cL_law 512 = .ok (.iconst 4, 1) := by decide +kernel
theorem dL_law_513 : decode cL_law 513 = .ok (.iadd, 1) := by decide +kernel
theorem dL_law_514 : decode cL_law 514 = .ok (.iaload, 1) := by decide +kernel
theorem dL_law_515 : decode cL_law 515 = .ok (.aload_n 3, 1) := by decide +kernel
theorem dL_law_516 : decode cL_law 516 = .ok (.invokestatic 101, 3) := by decide +kernel
theorem dL_law_519 : decode cL_law 519 = .ok (.istore 5, 2) := by decide +kernel
theorem dL_law_521 : decode cL_law 521 = .ok (.aload_n 2, 1) := by decide +kernel
theorem dL_law_522 : decode cL_law 522 = .ok (.aload_n 0, 1) := by decide +kernel
theorem dL_law_523 : decode cL_law 523 = .ok (.iload 4, 2) := by decide +kernel
theorem dL_law_525 : decode cL_law 525 = .ok (.iconst 1, 1) := by decide +kernel
theorem dL_law_526 : decode cL_law 526 = .ok (.iadd, 1) := by decide +kernel
theorem dL_law_527 : decode cL_law 527 = .ok (.iaload, 1) := by decide +kernel
theorem dL_law_528 : decode cL_law 528 = .ok (.aload_n 0, 1) := by decide +kernel
theorem dL_law_529 : decode cL_law 529 = .ok (.iload 4, 2) := by decide +kernel
theorem dL_law_531 : decode cL_law 531 = .ok (.iconst 2, 1) := by decide +kernel
theorem dL_law_532 : decode cL_law 532 = .ok (.iadd, 1) := by decide +kernel
theorem dL_law_533 : decode cL_law 533 = .ok (.iaload, 1) := by decide +kernel
theorem dL_law_534 : decode cL_law 534 = .ok (.aload_n 0, 1) := by decide +kernel
theorem dL_law_535 : decode cL_law 535 = .ok (.iload 4, 2) := by decide +kernel
theorem dL_law_537 : decode cL_law 537 = .ok (.iconst 3, 1) := by decide +kernel
theorem dL_law_538 : decode cL_law 538 = .ok (.iadd, 1) := by decide +kernel
theorem dL_law_539 : decode cL_law 539 = .ok (.iaload, 1) := by decide +kernel
theorem dL_law_540 : decode cL_law 540 = .ok (.aload_n 0, 1) := by decide +kernel
theorem dL_law_541 : decode cL_law 541 = .ok (.iload 4, 2) := by decide +kernel
theorem dL_law_543 : decode cL_law 543 = .ok (.iconst 4, 1) := by decide +kernel
theorem dL_law_544 : decode cL_law 544 = .ok (.iadd, 1) := by decide +kernel
theorem dL_law_545 : decode cL_law 545 = .ok (.iaload, 1) := by decide +kernel
theorem dL_law_546 : decode cL_law 546 = .ok (.invokevirtual 103, 3) := by decide +kernel
theorem dL_law_549 : decode cL_law 549 = .ok (.istore 6, 2) := by decide +kernel
theorem dL_law_551 : decode cL_law 551 = .ok (.aload_n 2, 1) := by decide +kernel
theorem dL_law_552 : decode cL_law 552 = .ok (.invokevirtual 75, 3) := by decide +kernel
theorem dL_law_555 : decode cL_law 555 = .ok (.iload 5, 2) := by decide +kernel
theorem dL_law_557 : decode cL_law 557 = .ok (.if_icmp .eq 5, 3) := by decide +kernel
theorem dL_law_560 : decode cL_law 560 = .ok (.iconst 0, 1) := by decide +kernel
theorem dL_law_561 : decode cL_law 561 = .ok (.ireturn, 1) := by decide +kernel
theorem dL_law_562 : decode cL_law 562 = .ok (.iload 5, 2) := by decide +kernel
theorem dL_law_564 : decode cL_law 564 = .ok (.ifCond .ne 15, 3) := by decide +kernel
theorem dL_law_567 : decode cL_law 567 = .ok (.aload_n 3, 1) := by decide +kernel
theorem dL_law_568 : decode cL_law 568 = .ok (.iconst 0, 1) := by decide +kernel
theorem dL_law_569 : decode cL_law 569 = .ok (.laload, 1) := by decide +kernel
theorem dL_law_570 : decode cL_law 570 = .ok (.iload 6, 2) := by decide +kernel
theorem dL_law_572 : decode cL_law 572 = .ok (.i2l, 1) := by decide +kernel
theorem dL_law_573 : decode cL_law 573 = .ok (.lcmp, 1) := by decide +kernel
theorem dL_law_574 : decode cL_law 574 = .ok (.ifCond .eq 5, 3) := by decide +kernel
theorem dL_law_577 : decode cL_law 577 = .ok (.iconst 0, 1) := by decide +kernel
theorem dL_law_578 : decode cL_law 578 = .ok (.ireturn, 1) := by decide +kernel
theorem dL_law_579 : decode cL_law 579 = .ok (.goto 698, 3) := by decide +kernel
theorem dL_law_582 : decode cL_law 582 = .ok (.aload_n 1, 1) := by decide +kernel
theorem dL_law_583 : decode cL_law 583 = .ok (.aload_n 0, 1) := by decide +kernel
theorem dL_law_584 : decode cL_law 584 = .ok (.iload 4, 2) := by decide +kernel
theorem dL_law_586 : decode cL_law 586 = .ok (.iconst 1, 1) := by decide +kernel
theorem dL_law_587 : decode cL_law 587 = .ok (.iadd, 1) := by decide +kernel
theorem dL_law_588 : decode cL_law 588 = .ok (.iaload, 1) := by decide +kernel
theorem dL_law_589 : decode cL_law 589 = .ok (.aload_n 0, 1) := by decide +kernel
theorem dL_law_590 : decode cL_law 590 = .ok (.iload 4, 2) := by decide +kernel
theorem dL_law_592 : decode cL_law 592 = .ok (.iconst 2, 1) := by decide +kernel
theorem dL_law_593 : decode cL_law 593 = .ok (.iadd, 1) := by decide +kernel
theorem dL_law_594 : decode cL_law 594 = .ok (.iaload, 1) := by decide +kernel
theorem dL_law_595 : decode cL_law 595 = .ok (.aload_n 0, 1) := by decide +kernel
theorem dL_law_596 : decode cL_law 596 = .ok (.iload 4, 2) := by decide +kernel
theorem dL_law_598 : decode cL_law 598 = .ok (.iconst 3, 1) := by decide +kernel
theorem dL_law_599 : decode cL_law 599 = .ok (.iadd, 1) := by decide +kernel
theorem dL_law_600 : decode cL_law 600 = .ok (.iaload, 1) := by decide +kernel
theorem dL_law_601 : decode cL_law 601 = .ok (.aload_n 0, 1) := by decide +kernel
theorem dL_law_602 : decode cL_law 602 = .ok (.iload 4, 2) := by decide +kernel
theorem dL_law_604 : decode cL_law 604 = .ok (.iconst 4, 1) := by decide +kernel
theorem dL_law_605 : decode cL_law 605 = .ok (.iadd, 1) := by decide +kernel
theorem dL_law_606 : decode cL_law 606 = .ok (.iaload, 1) := by decide +kernel
theorem dL_law_607 : decode cL_law 607 = .ok (.aload_n 3, 1) := by decide +kernel
theorem dL_law_608 : decode cL_law 608 = .ok (.invokestatic 104, 3) := by decide +kernel
theorem dL_law_611 : decode cL_law 611 = .ok (.istore 5, 2) := by decide +kernel
theorem dL_law_613 : decode cL_law 613 = .ok (.aload_n 2, 1) := by decide +kernel
theorem dL_law_614 : decode cL_law 614 = .ok (.aload_n 0, 1) := by decide +kernel
theorem dL_law_615 : decode cL_law 615 = .ok (.iload 4, 2) := by decide +kernel
theorem dL_law_617 : decode cL_law 617 = .ok (.iconst 1, 1) := by decide +kernel
theorem dL_law_618 : decode cL_law 618 = .ok (.iadd, 1) := by decide +kernel
theorem dL_law_619 : decode cL_law 619 = .ok (.iaload, 1) := by decide +kernel
theorem dL_law_620 : decode cL_law 620 = .ok (.aload_n 0, 1) := by decide +kernel
theorem dL_law_621 : decode cL_law 621 = .ok (.iload 4, 2) := by decide +kernel
theorem dL_law_623 : decode cL_law 623 = .ok (.iconst 2, 1) := by decide +kernel
theorem dL_law_624 : decode cL_law 624 = .ok (.iadd, 1) := by decide +kernel
theorem dL_law_625 : decode cL_law 625 = .ok (.iaload, 1) := by decide +kernel
theorem dL_law_626 : decode cL_law 626 = .ok (.aload_n 0, 1) := by decide +kernel
theorem dL_law_627 : decode cL_law 627 = .ok (.iload 4, 2) := by decide +kernel
theorem dL_law_629 : decode cL_law 629 = .ok (.iconst 3, 1) := by decide +kernel
theorem dL_law_630 : decode cL_law 630 = .ok (.iadd, 1) := by decide +kernel
theorem dL_law_631 : decode cL_law 631 = .ok (.iaload, 1) := by decide +kernel
theorem dL_law_632 : decode cL_law 632 = .ok (.aload_n 0, 1) := by decide +kernel
theorem dL_law_633 : decode cL_law 633 = .ok (.iload 4, 2) := by decide +kernel
theorem dL_law_635 : decode cL_law 635 = .ok (.iconst 4, 1) := by decide +kernel
theorem dL_law_636 : decode cL_law 636 = .ok (.iadd, 1) := by decide +kernel
theorem dL_law_637 : decode cL_law 637 = .ok (.iaload, 1) := by decide +kernel
theorem dL_law_638 : decode cL_law 638 = .ok (.invokevirtual 106, 3) := by decide +kernel
theorem dL_law_641 : decode cL_law 641 = .ok (.istore 6, 2) := by decide +kernel
theorem dL_law_643 : decode cL_law 643 = .ok (.aload_n 2, 1) := by decide +kernel
theorem dL_law_644 : decode cL_law 644 = .ok (.invokevirtual 75, 3) := by decide +kernel
theorem dL_law_647 : decode cL_law 647 = .ok (.iload 5, 2) := by decide +kernel
theorem dL_law_649 : decode cL_law 649 = .ok (.if_icmp .eq 5, 3) := by decide +kernel
theorem dL_law_652 : decode cL_law 652 = .ok (.iconst 0, 1) := by decide +kernel
theorem dL_law_653 : decode cL_law 653 = .ok (.ireturn, 1) := by decide +kernel
theorem dL_law_654 : decode cL_law 654 = .ok (.iload 5, 2) := by decide +kernel
theorem dL_law_656 : decode cL_law 656 = .ok (.ifCond .ne 15, 3) := by decide +kernel
theorem dL_law_659 : decode cL_law 659 = .ok (.aload_n 3, 1) := by decide +kernel
theorem dL_law_660 : decode cL_law 660 = .ok (.iconst 0, 1) := by decide +kernel
theorem dL_law_661 : decode cL_law 661 = .ok (.laload, 1) := by decide +kernel
theorem dL_law_662 : decode cL_law 662 = .ok (.iload 6, 2) := by decide +kernel
theorem dL_law_664 : decode cL_law 664 = .ok (.i2l, 1) := by decide +kernel
theorem dL_law_665 : decode cL_law 665 = .ok (.lcmp, 1) := by decide +kernel
theorem dL_law_666 : decode cL_law 666 = .ok (.ifCond .eq 5, 3) := by decide +kernel
theorem dL_law_669 : decode cL_law 669 = .ok (.iconst 0, 1) := by decide +kernel
theorem dL_law_670 : decode cL_law 670 = .ok (.ireturn, 1) := by decide +kernel
theorem dL_law_671 : decode cL_law 671 = .ok (.goto 606, 3) := by decide +kernel
theorem dL_law_674 : decode cL_law 674 = .ok (.aload_n 1, 1) := by decide +kernel
theorem dL_law_675 : decode cL_law 675 = .ok (.aload_n 0, 1) := by decide +kernel
theorem dL_law_676 : decode cL_law 676 = .ok (.iload 4, 2) := by decide +kernel
theorem dL_law_678 : decode cL_law 678 = .ok (.iconst 1, 1) := by decide +kernel
theorem dL_law_679 : decode cL_law 679 = .ok (.iadd, 1) := by decide +kernel
theorem dL_law_680 : decode cL_law 680 = .ok (.iaload, 1) := by decide +kernel
theorem dL_law_681 : decode cL_law 681 = .ok (.aload_n 0, 1) := by decide +kernel
theorem dL_law_682 : decode cL_law 682 = .ok (.iload 4, 2) := by decide +kernel
theorem dL_law_684 : decode cL_law 684 = .ok (.iconst 2, 1) := by decide +kernel
theorem dL_law_685 : decode cL_law 685 = .ok (.iadd, 1) := by decide +kernel
theorem dL_law_686 : decode cL_law 686 = .ok (.iaload, 1) := by decide +kernel
theorem dL_law_687 : decode cL_law 687 = .ok (.aload_n 0, 1) := by decide +kernel
theorem dL_law_688 : decode cL_law 688 = .ok (.iload 4, 2) := by decide +kernel
theorem dL_law_690 : decode cL_law 690 = .ok (.iconst 3, 1) := by decide +kernel
theorem dL_law_691 : decode cL_law 691 = .ok (.iadd, 1) := by decide +kernel
theorem dL_law_692 : decode cL_law 692 = .ok (.iaload, 1) := by decide +kernel
theorem dL_law_693 : decode cL_law 693 = .ok (.aload_n 3, 1) := by decide +kernel
theorem dL_law_694 : decode cL_law 694 = .ok (.invokestatic 107, 3) := by decide +kernel
theorem dL_law_697 : decode cL_law 697 = .ok (.istore 5, 2) := by decide +kernel
theorem dL_law_699 : decode cL_law 699 = .ok (.aload_n 2, 1) := by decide +kernel
theorem dL_law_700 : decode cL_law 700 = .ok (.aload_n 0, 1) := by decide +kernel
theorem dL_law_701 : decode cL_law 701 = .ok (.iload 4, 2) := by decide +kernel
theorem dL_law_703 : decode cL_law 703 = .ok (.iconst 1, 1) := by decide +kernel
theorem dL_law_704 : decode cL_law 704 = .ok (.iadd, 1) := by decide +kernel
theorem dL_law_705 : decode cL_law 705 = .ok (.iaload, 1) := by decide +kernel
theorem dL_law_706 : decode cL_law 706 = .ok (.aload_n 0, 1) := by decide +kernel
theorem dL_law_707 : decode cL_law 707 = .ok (.iload 4, 2) := by decide +kernel
theorem dL_law_709 : decode cL_law 709 = .ok (.iconst 2, 1) := by decide +kernel
theorem dL_law_710 : decode cL_law 710 = .ok (.iadd, 1) := by decide +kernel
theorem dL_law_711 : decode cL_law 711 = .ok (.iaload, 1) := by decide +kernel
theorem dL_law_712 : decode cL_law 712 = .ok (.aload_n 0, 1) := by decide +kernel
theorem dL_law_713 : decode cL_law 713 = .ok (.iload 4, 2) := by decide +kernel
theorem dL_law_715 : decode cL_law 715 = .ok (.iconst 3, 1) := by decide +kernel
theorem dL_law_716 : decode cL_law 716 = .ok (.iadd, 1) := by decide +kernel
theorem dL_law_717 : decode cL_law 717 = .ok (.iaload, 1) := by decide +kernel
theorem dL_law_718 : decode cL_law 718 = .ok (.invokevirtual 110, 3) := by decide +kernel
theorem dL_law_721 : decode cL_law 721 = .ok (.istore 6, 2) := by decide +kernel
theorem dL_law_723 : decode cL_law 723 = .ok (.aload_n 2, 1) := by decide +kernel
theorem dL_law_724 : decode cL_law 724 = .ok (.invokevirtual 75, 3) := by decide +kernel
theorem dL_law_727 : decode cL_law 727 = .ok (.iload 5, 2) := by decide +kernel
theorem dL_law_729 : decode cL_law 729 = .ok (.if_icmp .eq 5, 3) := by decide +kernel
theorem dL_law_732 : decode cL_law 732 = .ok (.iconst 0, 1) := by decide +kernel
theorem dL_law_733 : decode cL_law 733 = .ok (.ireturn, 1) := by decide +kernel
theorem dL_law_734 : decode cL_law 734 = .ok (.iload 5, 2) := by decide +kernel
theorem dL_law_736 : decode cL_law 736 = .ok (.ifCond .ne 15, 3) := by decide +kernel
theorem dL_law_739 : decode cL_law 739 = .ok (.aload_n 3, 1) := by decide +kernel
theorem dL_law_740 : decode cL_law 740 = .ok (.iconst 0, 1) := by decide +kernel
theorem dL_law_741 : decode cL_law 741 = .ok (.laload, 1) := by decide +kernel
theorem dL_law_742 : decode cL_law 742 = .ok (.iload 6, 2) := by decide +kernel
theorem dL_law_744 : decode cL_law 744 = .ok (.i2l, 1) := by decide +kernel
theorem dL_law_745 : decode cL_law 745 = .ok (.lcmp, 1) := by decide +kernel
theorem dL_law_746 : decode cL_law 746 = .ok (.ifCond .eq 5, 3) := by decide +kernel
theorem dL_law_749 : decode cL_law 749 = .ok (.iconst 0, 1) := by decide +kernel
theorem dL_law_750 : decode cL_law 750 = .ok (.ireturn, 1) := by decide +kernel
theorem dL_law_751 : decode cL_law 751 = .ok (.goto 526, 3) := by decide +kernel
theorem dL_law_754 : decode cL_law 754 = .ok (.aload_n 1, 1) := by decide +kernel
theorem dL_law_755 : decode cL_law 755 = .ok (.aload_n 0, 1) := by decide +kernel
theorem dL_law_756 : decode cL_law 756 = .ok (.iload 4, 2) := by decide +kernel
theorem dL_law_758 : decode cL_law 758 = .ok (.iconst 1, 1) := by decide +kernel
theorem dL_law_759 : decode cL_law 759 = .ok (.iadd, 1) := by decide +kernel
theorem dL_law_760 : decode cL_law 760 = .ok (.iaload, 1) := by decide +kernel
theorem dL_law_761 : decode cL_law 761 = .ok (.aload_n 0, 1) := by decide +kernel
theorem dL_law_762 : decode cL_law 762 = .ok (.iload 4, 2) := by decide +kernel
theorem dL_law_764 : decode cL_law 764 = .ok (.iconst 2, 1) := by decide +kernel
theorem dL_law_765 : decode cL_law 765 = .ok (.iadd, 1) := by decide +kernel
theorem dL_law_766 : decode cL_law 766 = .ok (.iaload, 1) := by decide +kernel
theorem dL_law_767 : decode cL_law 767 = .ok (.aload_n 0, 1) := by decide +kernel
theorem dL_law_768 : decode cL_law 768 = .ok (.iload 4, 2) := by decide +kernel
theorem dL_law_770 : decode cL_law 770 = .ok (.iconst 3, 1) := by decide +kernel
theorem dL_law_771 : decode cL_law 771 = .ok (.iadd, 1) := by decide +kernel
theorem dL_law_772 : decode cL_law 772 = .ok (.iaload, 1) := by decide +kernel
theorem dL_law_773 : decode cL_law 773 = .ok (.aload_n 3, 1) := by decide +kernel
theorem dL_law_774 : decode cL_law 774 = .ok (.invokestatic 111, 3) := by decide +kernel
theorem dL_law_777 : decode cL_law 777 = .ok (.istore 5, 2) := by decide +kernel
theorem dL_law_779 : decode cL_law 779 = .ok (.aload_n 2, 1) := by decide +kernel
theorem dL_law_780 : decode cL_law 780 = .ok (.aload_n 0, 1) := by decide +kernel
theorem dL_law_781 : decode cL_law 781 = .ok (.iload 4, 2) := by decide +kernel
theorem dL_law_783 : decode cL_law 783 = .ok (.iconst 1, 1) := by decide +kernel
theorem dL_law_784 : decode cL_law 784 = .ok (.iadd, 1) := by decide +kernel
theorem dL_law_785 : decode cL_law 785 = .ok (.iaload, 1) := by decide +kernel
theorem dL_law_786 : decode cL_law 786 = .ok (.aload_n 0, 1) := by decide +kernel
theorem dL_law_787 : decode cL_law 787 = .ok (.iload 4, 2) := by decide +kernel
theorem dL_law_789 : decode cL_law 789 = .ok (.iconst 2, 1) := by decide +kernel
theorem dL_law_790 : decode cL_law 790 = .ok (.iadd, 1) := by decide +kernel
theorem dL_law_791 : decode cL_law 791 = .ok (.iaload, 1) := by decide +kernel
theorem dL_law_792 : decode cL_law 792 = .ok (.aload_n 0, 1) := by decide +kernel
theorem dL_law_793 : decode cL_law 793 = .ok (.iload 4, 2) := by decide +kernel
theorem dL_law_795 : decode cL_law 795 = .ok (.iconst 3, 1) := by decide +kernel
theorem dL_law_796 : decode cL_law 796 = .ok (.iadd, 1) := by decide +kernel
theorem dL_law_797 : decode cL_law 797 = .ok (.iaload, 1) := by decide +kernel
theorem dL_law_798 : decode cL_law 798 = .ok (.invokevirtual 113, 3) := by decide +kernel
theorem dL_law_801 : decode cL_law 801 = .ok (.istore 6, 2) := by decide +kernel
theorem dL_law_803 : decode cL_law 803 = .ok (.aload_n 2, 1) := by decide +kernel
theorem dL_law_804 : decode cL_law 804 = .ok (.invokevirtual 75, 3) := by decide +kernel
theorem dL_law_807 : decode cL_law 807 = .ok (.iload 5, 2) := by decide +kernel
theorem dL_law_809 : decode cL_law 809 = .ok (.if_icmp .eq 5, 3) := by decide +kernel
theorem dL_law_812 : decode cL_law 812 = .ok (.iconst 0, 1) := by decide +kernel
theorem dL_law_813 : decode cL_law 813 = .ok (.ireturn, 1) := by decide +kernel
theorem dL_law_814 : decode cL_law 814 = .ok (.iload 5, 2) := by decide +kernel
theorem dL_law_816 : decode cL_law 816 = .ok (.ifCond .ne 15, 3) := by decide +kernel
theorem dL_law_819 : decode cL_law 819 = .ok (.aload_n 3, 1) := by decide +kernel
theorem dL_law_820 : decode cL_law 820 = .ok (.iconst 0, 1) := by decide +kernel
theorem dL_law_821 : decode cL_law 821 = .ok (.laload, 1) := by decide +kernel
theorem dL_law_822 : decode cL_law 822 = .ok (.iload 6, 2) := by decide +kernel
theorem dL_law_824 : decode cL_law 824 = .ok (.i2l, 1) := by decide +kernel
theorem dL_law_825 : decode cL_law 825 = .ok (.lcmp, 1) := by decide +kernel
theorem dL_law_826 : decode cL_law 826 = .ok (.ifCond .eq 5, 3) := by decide +kernel
theorem dL_law_829 : decode cL_law 829 = .ok (.iconst 0, 1) := by decide +kernel
theorem dL_law_830 : decode cL_law 830 = .ok (.ireturn, 1) := by decide +kernel
theorem dL_law_831 : decode cL_law 831 = .ok (.goto 446, 3) := by decide +kernel
theorem dL_law_834 : decode cL_law 834 = .ok (.aload_n 1, 1) := by decide +kernel
theorem dL_law_835 : decode cL_law 835 = .ok (.aload_n 0, 1) := by decide +kernel
theorem dL_law_836 : decode cL_law 836 = .ok (.iload 4, 2) := by decide +kernel
theorem dL_law_838 : decode cL_law 838 = .ok (.iconst 1, 1) := by decide +kernel
theorem dL_law_839 : decode cL_law 839 = .ok (.iadd, 1) := by decide +kernel
theorem dL_law_840 : decode cL_law 840 = .ok (.iaload, 1) := by decide +kernel
theorem dL_law_841 : decode cL_law 841 = .ok (.aload_n 0, 1) := by decide +kernel
theorem dL_law_842 : decode cL_law 842 = .ok (.iload 4, 2) := by decide +kernel
theorem dL_law_844 : decode cL_law 844 = .ok (.iconst 2, 1) := by decide +kernel
theorem dL_law_845 : decode cL_law 845 = .ok (.iadd, 1) := by decide +kernel
theorem dL_law_846 : decode cL_law 846 = .ok (.iaload, 1) := by decide +kernel
theorem dL_law_847 : decode cL_law 847 = .ok (.aload_n 0, 1) := by decide +kernel
theorem dL_law_848 : decode cL_law 848 = .ok (.iload 4, 2) := by decide +kernel
theorem dL_law_850 : decode cL_law 850 = .ok (.iconst 3, 1) := by decide +kernel
theorem dL_law_851 : decode cL_law 851 = .ok (.iadd, 1) := by decide +kernel
theorem dL_law_852 : decode cL_law 852 = .ok (.iaload, 1) := by decide +kernel
theorem dL_law_853 : decode cL_law 853 = .ok (.aload_n 3, 1) := by decide +kernel
theorem dL_law_854 : decode cL_law 854 = .ok (.invokestatic 114, 3) := by decide +kernel
theorem dL_law_857 : decode cL_law 857 = .ok (.istore 5, 2) := by decide +kernel
theorem dL_law_859 : decode cL_law 859 = .ok (.aload_n 2, 1) := by decide +kernel
theorem dL_law_860 : decode cL_law 860 = .ok (.aload_n 0, 1) := by decide +kernel
theorem dL_law_861 : decode cL_law 861 = .ok (.iload 4, 2) := by decide +kernel
theorem dL_law_863 : decode cL_law 863 = .ok (.iconst 1, 1) := by decide +kernel
theorem dL_law_864 : decode cL_law 864 = .ok (.iadd, 1) := by decide +kernel
theorem dL_law_865 : decode cL_law 865 = .ok (.iaload, 1) := by decide +kernel
theorem dL_law_866 : decode cL_law 866 = .ok (.aload_n 0, 1) := by decide +kernel
theorem dL_law_867 : decode cL_law 867 = .ok (.iload 4, 2) := by decide +kernel
theorem dL_law_869 : decode cL_law 869 = .ok (.iconst 2, 1) := by decide +kernel
theorem dL_law_870 : decode cL_law 870 = .ok (.iadd, 1) := by decide +kernel
theorem dL_law_871 : decode cL_law 871 = .ok (.iaload, 1) := by decide +kernel
theorem dL_law_872 : decode cL_law 872 = .ok (.aload_n 0, 1) := by decide +kernel
theorem dL_law_873 : decode cL_law 873 = .ok (.iload 4, 2) := by decide +kernel
theorem dL_law_875 : decode cL_law 875 = .ok (.iconst 3, 1) := by decide +kernel
theorem dL_law_876 : decode cL_law 876 = .ok (.iadd, 1) := by decide +kernel
theorem dL_law_877 : decode cL_law 877 = .ok (.iaload, 1) := by decide +kernel
theorem dL_law_878 : decode cL_law 878 = .ok (.invokevirtual 116, 3) := by decide +kernel
theorem dL_law_881 : decode cL_law 881 = .ok (.istore 6, 2) := by decide +kernel
theorem dL_law_883 : decode cL_law 883 = .ok (.aload_n 2, 1) := by decide +kernel
theorem dL_law_884 : decode cL_law 884 = .ok (.invokevirtual 75, 3) := by decide +kernel
theorem dL_law_887 : decode cL_law 887 = .ok (.iload 5, 2) := by decide +kernel
theorem dL_law_889 : decode cL_law 889 = .ok (.if_icmp .eq 5, 3) := by decide +kernel
theorem dL_law_892 : decode cL_law 892 = .ok (.iconst 0, 1) := by decide +kernel
theorem dL_law_893 : decode cL_law 893 = .ok (.ireturn, 1) := by decide +kernel
theorem dL_law_894 : decode cL_law 894 = .ok (.iload 5, 2) := by decide +kernel
theorem dL_law_896 : decode cL_law 896 = .ok (.ifCond .ne 15, 3) := by decide +kernel
theorem dL_law_899 : decode cL_law 899 = .ok (.aload_n 3, 1) := by decide +kernel
theorem dL_law_900 : decode cL_law 900 = .ok (.iconst 0, 1) := by decide +kernel
theorem dL_law_901 : decode cL_law 901 = .ok (.laload, 1) := by decide +kernel
theorem dL_law_902 : decode cL_law 902 = .ok (.iload 6, 2) := by decide +kernel
theorem dL_law_904 : decode cL_law 904 = .ok (.i2l, 1) := by decide +kernel
theorem dL_law_905 : decode cL_law 905 = .ok (.lcmp, 1) := by decide +kernel
theorem dL_law_906 : decode cL_law 906 = .ok (.ifCond .eq 5, 3) := by decide +kernel
theorem dL_law_909 : decode cL_law 909 = .ok (.iconst 0, 1) := by decide +kernel
theorem dL_law_910 : decode cL_law 910 = .ok (.ireturn, 1) := by decide +kernel
theorem dL_law_911 : decode cL_law 911 = .ok (.goto 366, 3) := by decide +kernel
theorem dL_law_914 : decode cL_law 914 = .ok (.aload_n 1, 1) := by decide +kernel
theorem dL_law_915 : decode cL_law 915 = .ok (.aload_n 0, 1) := by decide +kernel
theorem dL_law_916 : decode cL_law 916 = .ok (.iload 4, 2) := by decide +kernel
theorem dL_law_918 : decode cL_law 918 = .ok (.iconst 1, 1) := by decide +kernel
theorem dL_law_919 : decode cL_law 919 = .ok (.iadd, 1) := by decide +kernel
theorem dL_law_920 : decode cL_law 920 = .ok (.iaload, 1) := by decide +kernel
theorem dL_law_921 : decode cL_law 921 = .ok (.aload_n 3, 1) := by decide +kernel
theorem dL_law_922 : decode cL_law 922 = .ok (.invokestatic 117, 3) := by decide +kernel
theorem dL_law_925 : decode cL_law 925 = .ok (.istore 5, 2) := by decide +kernel
theorem dL_law_927 : decode cL_law 927 = .ok (.aload_n 2, 1) := by decide +kernel
theorem dL_law_928 : decode cL_law 928 = .ok (.aload_n 0, 1) := by decide +kernel
theorem dL_law_929 : decode cL_law 929 = .ok (.iload 4, 2) := by decide +kernel
theorem dL_law_931 : decode cL_law 931 = .ok (.iconst 1, 1) := by decide +kernel
theorem dL_law_932 : decode cL_law 932 = .ok (.iadd, 1) := by decide +kernel
theorem dL_law_933 : decode cL_law 933 = .ok (.iaload, 1) := by decide +kernel
theorem dL_law_934 : decode cL_law 934 = .ok (.invokevirtual 119, 3) := by decide +kernel
theorem dL_law_937 : decode cL_law 937 = .ok (.istore 6, 2) := by decide +kernel
theorem dL_law_939 : decode cL_law 939 = .ok (.aload_n 2, 1) := by decide +kernel
theorem dL_law_940 : decode cL_law 940 = .ok (.invokevirtual 75, 3) := by decide +kernel
theorem dL_law_943 : decode cL_law 943 = .ok (.iload 5, 2) := by decide +kernel
theorem dL_law_945 : decode cL_law 945 = .ok (.if_icmp .eq 5, 3) := by decide +kernel
theorem dL_law_948 : decode cL_law 948 = .ok (.iconst 0, 1) := by decide +kernel
theorem dL_law_949 : decode cL_law 949 = .ok (.ireturn, 1) := by decide +kernel
theorem dL_law_950 : decode cL_law 950 = .ok (.iload 5, 2) := by decide +kernel
theorem dL_law_952 : decode cL_law 952 = .ok (.ifCond .ne 15, 3) := by decide +kernel
theorem dL_law_955 : decode cL_law 955 = .ok (.aload_n 3, 1) := by decide +kernel
theorem dL_law_956 : decode cL_law 956 = .ok (.iconst 0, 1) := by decide +kernel
theorem dL_law_957 : decode cL_law 957 = .ok (.laload, 1) := by decide +kernel
theorem dL_law_958 : decode cL_law 958 = .ok (.iload 6, 2) := by decide +kernel
theorem dL_law_960 : decode cL_law 960 = .ok (.i2l, 1) := by decide +kernel
theorem dL_law_961 : decode cL_law 961 = .ok (.lcmp, 1) := by decide +kernel
theorem dL_law_962 : decode cL_law 962 = .ok (.ifCond .eq 5, 3) := by decide +kernel
theorem dL_law_965 : decode cL_law 965 = .ok (.iconst 0, 1) := by decide +kernel
theorem dL_law_966 : decode cL_law 966 = .ok (.ireturn, 1) := by decide +kernel
theorem dL_law_967 : decode cL_law 967 = .ok (.goto 310, 3) := by decide +kernel
theorem dL_law_970 : decode cL_law 970 = .ok (.aload_n 1, 1) := by decide +kernel
theorem dL_law_971 : decode cL_law 971 = .ok (.invokevirtual 120, 3) := by decide +kernel
theorem dL_law_974 : decode cL_law 974 = .ok (.aload_n 2, 1) := by decide +kernel
theorem dL_law_975 : decode cL_law 975 = .ok (.invokevirtual 123, 3) := by decide +kernel
theorem dL_law_978 : decode cL_law 978 = .ok (.if_icmp .eq 299, 3) := by decide +kernel
theorem dL_law_981 : decode cL_law 981 = .ok (.iconst 0, 1) := by decide +kernel
theorem dL_law_982 : decode cL_law 982 = .ok (.ireturn, 1) := by decide +kernel
theorem dL_law_983 : decode cL_law 983 = .ok (.aload_n 1, 1) := by decide +kernel
theorem dL_law_984 : decode cL_law 984 = .ok (.aload_n 0, 1) := by decide +kernel
theorem dL_law_985 : decode cL_law 985 = .ok (.iload 4, 2) := by decide +kernel
theorem dL_law_987 : decode cL_law 987 = .ok (.iconst 1, 1) := by decide +kernel
theorem dL_law_988 : decode cL_law 988 = .ok (.iadd, 1) := by decide +kernel
theorem dL_law_989 : decode cL_law 989 = .ok (.iaload, 1) := by decide +kernel
theorem dL_law_990 : decode cL_law 990 = .ok (.aload_n 0, 1) := by decide +kernel
theorem dL_law_991 : decode cL_law 991 = .ok (.iload 4, 2) := by decide +kernel
theorem dL_law_993 : decode cL_law 993 = .ok (.iconst 2, 1) := by decide +kernel
theorem dL_law_994 : decode cL_law 994 = .ok (.iadd, 1) := by decide +kernel
theorem dL_law_995 : decode cL_law 995 = .ok (.iaload, 1) := by decide +kernel
theorem dL_law_996 : decode cL_law 996 = .ok (.aload_n 3, 1) := by decide +kernel
theorem dL_law_997 : decode cL_law 997 = .ok (.invokestatic 124, 3) := by decide +kernel
theorem dL_law_1000 : decode cL_law 1000 = .ok (.istore 5, 2) := by decide +kernel
theorem dL_law_1002 : decode cL_law 1002 = .ok (.aload_n 2, 1) := by decide +kernel
theorem dL_law_1003 : decode cL_law 1003 = .ok (.aload_n 0, 1) := by decide +kernel
theorem dL_law_1004 : decode cL_law 1004 = .ok (.iload 4, 2) := by decide +kernel
theorem dL_law_1006 : decode cL_law 1006 = .ok (.iconst 1, 1) := by decide +kernel
theorem dL_law_1007 : decode cL_law 1007 = .ok (.iadd, 1) := by decide +kernel
theorem dL_law_1008 : decode cL_law 1008 = .ok (.iaload, 1) := by decide +kernel
theorem dL_law_1009 : decode cL_law 1009 = .ok (.aload_n 0, 1) := by decide +kernel
theorem dL_law_1010 : decode cL_law 1010 = .ok (.iload 4, 2) := by decide +kernel
theorem dL_law_1012 : decode cL_law 1012 = .ok (.iconst 2, 1) := by decide +kernel
theorem dL_law_1013 : decode cL_law 1013 = .ok (.iadd, 1) := by decide +kernel
theorem dL_law_1014 : decode cL_law 1014 = .ok (.iaload, 1) := by decide +kernel
theorem dL_law_1015 : decode cL_law 1015 = .ok (.invokevirtual 126, 3) := by decide +kernel
theorem dL_law_1018 : decode cL_law 1018 = .ok (.istore 6, 2) := by decide +kernel
theorem dL_law_1020 : decode cL_law 1020 = .ok (.aload_n 2, 1) := by decide +kernel
theorem dL_law_1021 : decode cL_law 1021 = .ok (.invokevirtual 75, 3) := by decide +kernel
theorem dL_law_1024 : decode cL_law 1024 = .ok (.iload 5, 2) := by decide +kernel
theorem dL_law_1026 : decode cL_law 1026 = .ok (.if_icmp .eq 5, 3) := by decide +kernel
theorem dL_law_1029 : decode cL_law 1029 = .ok (.iconst 0, 1) := by decide +kernel
theorem dL_law_1030 : decode cL_law 1030 = .ok (.ireturn, 1) := by decide +kernel
theorem dL_law_1031 : decode cL_law 1031 = .ok (.iload 5, 2) := by decide +kernel
theorem dL_law_1033 : decode cL_law 1033 = .ok (.ifCond .ne 15, 3) := by decide +kernel
theorem dL_law_1036 : decode cL_law 1036 = .ok (.aload_n 3, 1) := by decide +kernel
theorem dL_law_1037 : decode cL_law 1037 = .ok (.iconst 0, 1) := by decide +kernel
theorem dL_law_1038 : decode cL_law 1038 = .ok (.laload, 1) := by decide +kernel
theorem dL_law_1039 : decode cL_law 1039 = .ok (.iload 6, 2) := by decide +kernel
theorem dL_law_1041 : decode cL_law 1041 = .ok (.i2l, 1) := by decide +kernel
theorem dL_law_1042 : decode cL_law 1042 = .ok (.lcmp, 1) := by decide +kernel
theorem dL_law_1043 : decode cL_law 1043 = .ok (.ifCond .eq 5, 3) := by decide +kernel
theorem dL_law_1046 : decode cL_law 1046 = .ok (.iconst 0, 1) := by decide +kernel
theorem dL_law_1047 : decode cL_law 1047 = .ok (.ireturn, 1) := by decide +kernel
theorem dL_law_1048 : decode cL_law 1048 = .ok (.goto 229, 3) := by decide +kernel
theorem dL_law_1051 : decode cL_law 1051 = .ok (.aload_n 1, 1) := by decide +kernel
theorem dL_law_1052 : decode cL_law 1052 = .ok (.invokevirtual 127, 3) := by decide +kernel
theorem dL_law_1055 : decode cL_law 1055 = .ok (.aload_n 2, 1) := by decide +kernel
theorem dL_law_1056 : decode cL_law 1056 = .ok (.invokevirtual 130, 3) := by decide +kernel
theorem dL_law_1059 : decode cL_law 1059 = .ok (.if_icmp .eq 218, 3) := by decide +kernel
theorem dL_law_1062 : decode cL_law 1062 = .ok (.iconst 0, 1) := by decide +kernel
theorem dL_law_1063 : decode cL_law 1063 = .ok (.ireturn, 1) := by decide +kernel
theorem dL_law_1064 : decode cL_law 1064 = .ok (.aload_n 1, 1) := by decide +kernel
theorem dL_law_1065 : decode cL_law 1065 = .ok (.aload_n 0, 1) := by decide +kernel
theorem dL_law_1066 : decode cL_law 1066 = .ok (.iload 4, 2) := by decide +kernel
theorem dL_law_1068 : decode cL_law 1068 = .ok (.iconst 1, 1) := by decide +kernel
theorem dL_law_1069 : decode cL_law 1069 = .ok (.iadd, 1) := by decide +kernel
theorem dL_law_1070 : decode cL_law 1070 = .ok (.iaload, 1) := by decide +kernel
theorem dL_law_1071 : decode cL_law 1071 = .ok (.aload_n 0, 1) := by decide +kernel
theorem dL_law_1072 : decode cL_law 1072 = .ok (.iload 4, 2) := by decide +kernel
theorem dL_law_1074 : decode cL_law 1074 = .ok (.iconst 2, 1) := by decide +kernel
theorem dL_law_1075 : decode cL_law 1075 = .ok (.iadd, 1) := by decide +kernel
theorem dL_law_1076 : decode cL_law 1076 = .ok (.iaload, 1) := by decide +kernel
theorem dL_law_1077 : decode cL_law 1077 = .ok (.aload_n 3, 1) := by decide +kernel
theorem dL_law_1078 : decode cL_law 1078 = .ok (.invokestatic 131, 3) := by decide +kernel
theorem dL_law_1081 : decode cL_law 1081 = .ok (.istore 5, 2) := by decide +kernel
theorem dL_law_1083 : decode cL_law 1083 = .ok (.aload_n 2, 1) := by decide +kernel
theorem dL_law_1084 : decode cL_law 1084 = .ok (.aload_n 0, 1) := by decide +kernel
theorem dL_law_1085 : decode cL_law 1085 = .ok (.iload 4, 2) := by decide +kernel
theorem dL_law_1087 : decode cL_law 1087 = .ok (.iconst 1, 1) := by decide +kernel
theorem dL_law_1088 : decode cL_law 1088 = .ok (.iadd, 1) := by decide +kernel
theorem dL_law_1089 : decode cL_law 1089 = .ok (.iaload, 1) := by decide +kernel
theorem dL_law_1090 : decode cL_law 1090 = .ok (.aload_n 0, 1) := by decide +kernel
theorem dL_law_1091 : decode cL_law 1091 = .ok (.iload 4, 2) := by decide +kernel
theorem dL_law_1093 : decode cL_law 1093 = .ok (.iconst 2, 1) := by decide +kernel
theorem dL_law_1094 : decode cL_law 1094 = .ok (.iadd, 1) := by decide +kernel
theorem dL_law_1095 : decode cL_law 1095 = .ok (.iaload, 1) := by decide +kernel
theorem dL_law_1096 : decode cL_law 1096 = .ok (.invokevirtual 133, 3) := by decide +kernel
theorem dL_law_1099 : decode cL_law 1099 = .ok (.istore 6, 2) := by decide +kernel
theorem dL_law_1101 : decode cL_law 1101 = .ok (.aload_n 2, 1) := by decide +kernel
theorem dL_law_1102 : decode cL_law 1102 = .ok (.invokevirtual 75, 3) := by decide +kernel
theorem dL_law_1105 : decode cL_law 1105 = .ok (.iload 5, 2) := by decide +kernel
theorem dL_law_1107 : decode cL_law 1107 = .ok (.if_icmp .eq 5, 3) := by decide +kernel
theorem dL_law_1110 : decode cL_law 1110 = .ok (.iconst 0, 1) := by decide +kernel
theorem dL_law_1111 : decode cL_law 1111 = .ok (.ireturn, 1) := by decide +kernel
theorem dL_law_1112 : decode cL_law 1112 = .ok (.iload 5, 2) := by decide +kernel
theorem dL_law_1114 : decode cL_law 1114 = .ok (.ifCond .ne 15, 3) := by decide +kernel
theorem dL_law_1117 : decode cL_law 1117 = .ok (.aload_n 3, 1) := by decide +kernel
theorem dL_law_1118 : decode cL_law 1118 = .ok (.iconst 0, 1) := by decide +kernel
theorem dL_law_1119 : decode cL_law 1119 = .ok (.laload, 1) := by decide +kernel
theorem dL_law_1120 : decode cL_law 1120 = .ok (.iload 6, 2) := by decide +kernel
theorem dL_law_1122 : decode cL_law 1122 = .ok (.i2l, 1) := by decide +kernel
theorem dL_law_1123 : decode cL_law 1123 = .ok (.lcmp, 1) := by decide +kernel
theorem dL_law_1124 : decode cL_law 1124 = .ok (.ifCond .eq 5, 3) := by decide +kernel
theorem dL_law_1127 : decode cL_law 1127 = .ok (.iconst 0, 1) := by decide +kernel
theorem dL_law_1128 : decode cL_law 1128 = .ok (.ireturn, 1) := by decide +kernel
theorem dL_law_1129 : decode cL_law 1129 = .ok (.goto 148, 3) := by decide +kernel
theorem dL_law_1132 : decode cL_law 1132 = .ok (.aload_n 1, 1) := by decide +kernel
theorem dL_law_1133 : decode cL_law 1133 = .ok (.invokevirtual 134, 3) := by decide +kernel
theorem dL_law_1136 : decode cL_law 1136 = .ok (.aload_n 2, 1) := by decide +kernel
theorem dL_law_1137 : decode cL_law 1137 = .ok (.invokevirtual 137, 3) := by decide +kernel
theorem dL_law_1140 : decode cL_law 1140 = .ok (.if_icmp .eq 137, 3) := by decide +kernel
theorem dL_law_1143 : decode cL_law 1143 = .ok (.iconst 0, 1) := by decide +kernel
theorem dL_law_1144 : decode cL_law 1144 = .ok (.ireturn, 1) := by decide +kernel
theorem dL_law_1145 : decode cL_law 1145 = .ok (.aload_n 1, 1) := by decide +kernel
theorem dL_law_1146 : decode cL_law 1146 = .ok (.aload_n 0, 1) := by decide +kernel
theorem dL_law_1147 : decode cL_law 1147 = .ok (.iload 4, 2) := by decide +kernel
theorem dL_law_1149 : decode cL_law 1149 = .ok (.iconst 1, 1) := by decide +kernel
theorem dL_law_1150 : decode cL_law 1150 = .ok (.iadd, 1) := by decide +kernel
theorem dL_law_1151 : decode cL_law 1151 = .ok (.iaload, 1) := by decide +kernel
theorem dL_law_1152 : decode cL_law 1152 = .ok (.aload_n 3, 1) := by decide +kernel
theorem dL_law_1153 : decode cL_law 1153 = .ok (.invokestatic 138, 3) := by decide +kernel
theorem dL_law_1156 : decode cL_law 1156 = .ok (.istore 5, 2) := by decide +kernel
theorem dL_law_1158 : decode cL_law 1158 = .ok (.aload_n 2, 1) := by decide +kernel
theorem dL_law_1159 : decode cL_law 1159 = .ok (.aload_n 0, 1) := by decide +kernel
theorem dL_law_1160 : decode cL_law 1160 = .ok (.iload 4, 2) := by decide +kernel
theorem dL_law_1162 : decode cL_law 1162 = .ok (.iconst 1, 1) := by decide +kernel
theorem dL_law_1163 : decode cL_law 1163 = .ok (.iadd, 1) := by decide +kernel
theorem dL_law_1164 : decode cL_law 1164 = .ok (.iaload, 1) := by decide +kernel
theorem dL_law_1165 : decode cL_law 1165 = .ok (.invokevirtual 140, 3) := by decide +kernel
theorem dL_law_1168 : decode cL_law 1168 = .ok (.istore 6, 2) := by decide +kernel
theorem dL_law_1170 : decode cL_law 1170 = .ok (.aload_n 2, 1) := by decide +kernel
theorem dL_law_1171 : decode cL_law 1171 = .ok (.invokevirtual 75, 3) := by decide +kernel
theorem dL_law_1174 : decode cL_law 1174 = .ok (.iload 5, 2) := by decide +kernel
theorem dL_law_1176 : decode cL_law 1176 = .ok (.if_icmp .eq 5, 3) := by decide +kernel
theorem dL_law_1179 : decode cL_law 1179 = .ok (.iconst 0, 1) := by decide +kernel
theorem dL_law_1180 : decode cL_law 1180 = .ok (.ireturn, 1) := by decide +kernel
theorem dL_law_1181 : decode cL_law 1181 = .ok (.iload 5, 2) := by decide +kernel
theorem dL_law_1183 : decode cL_law 1183 = .ok (.ifCond .ne 15, 3) := by decide +kernel
theorem dL_law_1186 : decode cL_law 1186 = .ok (.aload_n 3, 1) := by decide +kernel
theorem dL_law_1187 : decode cL_law 1187 = .ok (.iconst 0, 1) := by decide +kernel
theorem dL_law_1188 : decode cL_law 1188 = .ok (.laload, 1) := by decide +kernel
theorem dL_law_1189 : decode cL_law 1189 = .ok (.iload 6, 2) := by decide +kernel
theorem dL_law_1191 : decode cL_law 1191 = .ok (.i2l, 1) := by decide +kernel
theorem dL_law_1192 : decode cL_law 1192 = .ok (.lcmp, 1) := by decide +kernel
theorem dL_law_1193 : decode cL_law 1193 = .ok (.ifCond .eq 5, 3) := by decide +kernel
theorem dL_law_1196 : decode cL_law 1196 = .ok (.iconst 0, 1) := by decide +kernel
theorem dL_law_1197 : decode cL_law 1197 = .ok (.ireturn, 1) := by decide +kernel
theorem dL_law_1198 : decode cL_law 1198 = .ok (.goto 79, 3) := by decide +kernel
theorem dL_law_1201 : decode cL_law 1201 = .ok (.aload_n 1, 1) := by decide +kernel
theorem dL_law_1202 : decode cL_law 1202 = .ok (.aload_n 0, 1) := by decide +kernel
theorem dL_law_1203 : decode cL_law 1203 = .ok (.iload 4, 2) := by decide +kernel
theorem dL_law_1205 : decode cL_law 1205 = .ok (.iconst 1, 1) := by decide +kernel
theorem dL_law_1206 : decode cL_law 1206 = .ok (.iadd, 1) := by decide +kernel
theorem dL_law_1207 : decode cL_law 1207 = .ok (.iaload, 1) := by decide +kernel
theorem dL_law_1208 : decode cL_law 1208 = .ok (.aload_n 3, 1) := by decide +kernel
theorem dL_law_1209 : decode cL_law 1209 = .ok (.invokestatic 141, 3) := by decide +kernel
theorem dL_law_1212 : decode cL_law 1212 = .ok (.istore 5, 2) := by decide +kernel
theorem dL_law_1214 : decode cL_law 1214 = .ok (.aload_n 2, 1) := by decide +kernel
theorem dL_law_1215 : decode cL_law 1215 = .ok (.aload_n 0, 1) := by decide +kernel
theorem dL_law_1216 : decode cL_law 1216 = .ok (.iload 4, 2) := by decide +kernel
theorem dL_law_1218 : decode cL_law 1218 = .ok (.iconst 1, 1) := by decide +kernel
theorem dL_law_1219 : decode cL_law 1219 = .ok (.iadd, 1) := by decide +kernel
theorem dL_law_1220 : decode cL_law 1220 = .ok (.iaload, 1) := by decide +kernel
theorem dL_law_1221 : decode cL_law 1221 = .ok (.invokevirtual 143, 3) := by decide +kernel
theorem dL_law_1224 : decode cL_law 1224 = .ok (.istore 6, 2) := by decide +kernel
theorem dL_law_1226 : decode cL_law 1226 = .ok (.aload_n 2, 1) := by decide +kernel
theorem dL_law_1227 : decode cL_law 1227 = .ok (.invokevirtual 75, 3) := by decide +kernel
theorem dL_law_1230 : decode cL_law 1230 = .ok (.iload 5, 2) := by decide +kernel
theorem dL_law_1232 : decode cL_law 1232 = .ok (.if_icmp .eq 5, 3) := by decide +kernel
theorem dL_law_1235 : decode cL_law 1235 = .ok (.iconst 0, 1) := by decide +kernel
theorem dL_law_1236 : decode cL_law 1236 = .ok (.ireturn, 1) := by decide +kernel
theorem dL_law_1237 : decode cL_law 1237 = .ok (.iload 5, 2) := by decide +kernel
theorem dL_law_1239 : decode cL_law 1239 = .ok (.ifCond .ne 22, 3) := by decide +kernel
theorem dL_law_1242 : decode cL_law 1242 = .ok (.aload_n 3, 1) := by decide +kernel
theorem dL_law_1243 : decode cL_law 1243 = .ok (.iconst 0, 1) := by decide +kernel
theorem dL_law_1244 : decode cL_law 1244 = .ok (.laload, 1) := by decide +kernel
theorem dL_law_1245 : decode cL_law 1245 = .ok (.iload 6, 2) := by decide +kernel
theorem dL_law_1247 : decode cL_law 1247 = .ok (.ifCond .eq 7, 3) := by decide +kernel
theorem dL_law_1250 : decode cL_law 1250 = .ok (.lconst 1, 1) := by decide +kernel
theorem dL_law_1251 : decode cL_law 1251 = .ok (.goto 4, 3) := by decide +kernel
theorem dL_law_1254 : decode cL_law 1254 = .ok (.lconst 0, 1) := by decide +kernel
theorem dL_law_1255 : decode cL_law 1255 = .ok (.lcmp, 1) := by decide +kernel
theorem dL_law_1256 : decode cL_law 1256 = .ok (.ifCond .eq 5, 3) := by decide +kernel
theorem dL_law_1259 : decode cL_law 1259 = .ok (.iconst 0, 1) := by decide +kernel
theorem dL_law_1260 : decode cL_law 1260 = .ok (.ireturn, 1) := by decide +kernel
theorem dL_law_1261 : decode cL_law 1261 = .ok (.goto 16, 3) := by decide +kernel
theorem dL_law_1264 : decode cL_law 1264 = .ok (.aload_n 1, 1) := by decide +kernel
theorem dL_law_1265 : decode cL_law 1265 = .ok (.invokevirtual 144, 3) := by decide +kernel
theorem dL_law_1268 : decode cL_law 1268 = .ok (.aload_n 2, 1) := by decide +kernel
theorem dL_law_1269 : decode cL_law 1269 = .ok (.invokevirtual 147, 3) := by decide +kernel
theorem dL_law_1272 : decode cL_law 1272 = .ok (.if_icmp .eq 5, 3) := by decide +kernel
theorem dL_law_1275 : decode cL_law 1275 = .ok (.iconst 0, 1) := by decide +kernel
theorem dL_law_1276 : decode cL_law 1276 = .ok (.ireturn, 1) := by decide +kernel
theorem dL_law_1277 : decode cL_law 1277 = .ok (.iinc 4 5, 3) := by decide +kernel
theorem dL_law_1280 : decode cL_law 1280 = .ok (.goto (-1257), 3) := by decide +kernel
theorem dL_law_1283 : decode cL_law 1283 = .ok (.iconst 1, 1) := by decide +kernel
theorem dL_law_1284 : decode cL_law 1284 = .ok (.ireturn, 1) := by decide +kernel
abbrev vwCl : List vw_C := [(RX0, TX0, 7), (RX1, TX1, 4), (RX2, TX2, 9), (RX3, TX3, 14)]
end
section
/-! the numbers, the environment, calls that leave the heap as it was -/
/-- a row's number, or -1: 0 is none, r + 1 is row r -/
def eN : Nat → Int32
  | 0 => -1
  | r + 1 => nI r
/-- a reference to a row, or null -/
def rfN (ra : Nat → Nat) : Nat → Option Nat
  | 0 => none
  | r + 1 => some (ra r)
def uN (f : Nat → Nat) (i v : Nat) : Nat → Nat := fun j => if j = i then v else f j
theorem uN_s {f : Nat → Nat} {i v : Nat} : uN f i v i = v := by simp [uN]
theorem uN_n {f : Nat → Nat} {i v j : Nat} (h : j ≠ i) : uN f i v j = f j := by simp [uN, h]
theorem uN_upd {f : Nat → Nat} {i v : Nat} : upd (fun j => nI (f j)) i (nI v) = fun j => nI (uN f i v j) := by
  funext j
  by_cases h : j = i
  · subst h; rw [pk_us, uN_s]
  · rw [pk_un h, uN_n h]
/-- an Int32 in a range of numbers -/
def rg (x : Int32) (lo hi : Nat) : Prop := nI lo ≤ x ∧ x ≤ nI hi
theorem rg_of {x : Int32} {lo hi : Nat} (hl : lo < 2 ^ 31) (hh : hi < 2 ^ 31) (h : rg x lo hi) : ∃ n : Nat, lo ≤ n ∧ n ≤ hi ∧ x = nI n := by
  obtain ⟨h1, h2⟩ := h
  rw [Int32.le_iff_toInt_le, nI_toInt hl] at h1
  rw [Int32.le_iff_toInt_le, nI_toInt hh] at h2
  refine ⟨x.toInt.toNat, by omega, by omega, ?_⟩
  apply Int32.toInt_inj.mp
  rw [nI_toInt (by omega)]
  omega
theorem rg_iff {n lo hi : Nat} (hn : n < 2 ^ 31) (hl : lo < 2 ^ 31) (hh : hi < 2 ^ 31) : rg (nI n) lo hi ↔ lo ≤ n ∧ n ≤ hi := by
  unfold rg
  rw [nI_leI hl hn, nI_leI hn hh]
theorem eN_eq {a b : Nat} (ha : a < 2 ^ 31) (hb : b < 2 ^ 31) : eN a = eN b ↔ a = b := by
  cases a with
  | zero => cases b with
    | zero => simp
    | succ b =>
      refine ⟨fun h => ?_, fun h => by omega⟩
      have h2 : (-1 : Int32).toInt = (nI b).toInt := congrArg Int32.toInt h
      rw [nI_toInt (by omega)] at h2
      have h3 : (-1 : Int32).toInt = -1 := by decide
      omega
  | succ a => cases b with
    | zero =>
      refine ⟨fun h => ?_, fun h => by omega⟩
      have h2 : (nI a).toInt = (-1 : Int32).toInt := congrArg Int32.toInt h
      rw [nI_toInt (by omega)] at h2
      have h3 : (-1 : Int32).toInt = -1 := by decide
      omega
    | succ b =>
      show nI a = nI b ↔ _
      rw [nI_eq (by omega) (by omega)]
      omega
theorem eN_none {a : Nat} (ha : a < 2 ^ 31) : eN a = -1 ↔ a = 0 := eN_eq (b := 0) ha (by decide)
abbrev nIAE : String := "java/lang/IllegalArgumentException"
abbrev nISE : String := "java/lang/IllegalStateException"
abbrev nIOB : String := "java/lang/IndexOutOfBoundsException"
/-- words of the tables that a throw and a catch rest on -/
def eWs : List Cond := [.declares (Bundle.initS "java/lang/RuntimeException"), .declares (Bundle.initS "java/lang/Exception"), .declares (Bundle.initS Bundle.tN), .castable nIAE nIAE, .castable nISE nISE, .castable nIOB nIOB]
theorem eWs_t : ∀ w ∈ eWs, w.onTables = true := by decide +kernel
theorem eWs_warm {s U : State} (hW : s.WarmedH U.vm) (h : ∀ w ∈ eWs, va_Nw w s) : ∀ w ∈ eWs, va_Nw w U := by
  intro w hw
  have h1 := h w hw
  simp only [eWs, List.mem_cons, List.not_mem_nil, or_false] at hw
  rcases hw with rfl | rfl | rfl | rfl | rfl | rfl
  · exact va_Nw.warmD hW h1
  · exact va_Nw.warmD hW h1
  · exact va_Nw.warmD hW h1
  · exact va_Nw.warmC hW h1
  · exact va_Nw.warmC hW h1
  · exact va_Nw.warmC hW h1
/-- what every method is told: the classes, the texts of the throws, the statics of Throwable; nothing below lo is ours -/
def eE (D : va_G) (cI cR cS : ClassId) (lo : Nat) (U : State) (H : Heap) : Prop :=
  (va_K D vwCl [(cI, .int), (cR, .object RX0), (cS, .object RX1)] U ∧
  ((∃ a, vk_R RX2 49 "there are 200 rows" a U) ∧ (∃ a, vk_R RX2 64 "now would be above 10000" a U) ∧ (∃ a, vk_R RX2 117 "there are 200 servings" a U) ∧ (∃ a, vk_R RX2 144 "an argument is out of range" a U) ∧ (∃ a, vk_R RX2 149 "there is no such row" a U) ∧ (∃ a, vk_R RX2 152 "there is no such serving" a U) ∧ (∀ w ∈ eWs, va_Nw w U) ∧ va_Nc nISE nIAE U)) ∧
  vx_Zq Bundle.tN "UNASSIGNED_STACK" Bundle.steD (fun q => lo ≤ q) U H ∧ vx_Zq Bundle.tN "SUPPRESSED_SENTINEL" Bundle.listD (fun q => lo ≤ q) U H
theorem eE.same {D : va_G} {cI cR cS : ClassId} {lo : Nat} {U V : State} {H : Heap} (hv : V.vm = U.vm) (h : eE D cI cR cS lo U H) : eE D cI cR cS lo V H := by
  have ha : U.vm.Alike V.vm := by rw [hv]; exact Vm.Alike.refl _
  obtain ⟨⟨h1, ⟨a1, g1⟩, ⟨a2, g2⟩, ⟨a3, g3⟩, ⟨a4, g4⟩, ⟨a5, g5⟩, ⟨a6, g6⟩, g7, g8⟩, h2, h3⟩ := h
  exact ⟨⟨va_K.moved ha h1, ⟨a1, g1.same hv⟩, ⟨a2, g2.same hv⟩, ⟨a3, g3.same hv⟩, ⟨a4, g4.same hv⟩, ⟨a5, g5.same hv⟩, ⟨a6, g6.same hv⟩, fun w hw => va_Nw.same (eWs_t w hw) hv.symm (g7 w hw), g8.moved ha⟩, h2.moved ha, h3.moved ha⟩
theorem eE.to {D : va_G} {cI cR cS : ClassId} {lo : Nat} {s U : State} {H : Heap} {locs : List Loc} (h : eE D cI cR cS lo s s.heap) (hS : va_S (fun q => lo ≤ q) s.heap H locs) (hU : U.heap = H) (hW : s.WarmedH U.vm) : eE D cI cR cS lo U U.heap := by
  have ha : s.vm.Alike U.vm := hW.alike
  obtain ⟨⟨h1, ⟨a1, g1⟩, ⟨a2, g2⟩, ⟨a3, g3⟩, ⟨a4, g4⟩, ⟨a5, g5⟩, ⟨a6, g6⟩, g7, g8⟩, h2, h3⟩ := h
  rw [hU]
  exact ⟨⟨va_K.moved ha h1, ⟨a1, g1.warm hW⟩, ⟨a2, g2.warm hW⟩, ⟨a3, g3.warm hW⟩, ⟨a4, g4.warm hW⟩, ⟨a5, g5.warm hW⟩, ⟨a6, g6.warm hW⟩, eWs_warm hW g7, g8.moved ha⟩, (h2.moved ha).kept hS.2.1, (h3.moved ha).kept hS.2.1⟩
/-- a contract's start: the arguments, the environment, what the heap holds -/
def ePc (D : va_G) (cI cR cS : ClassId) (lo : Nat) (av : List Value) (G : Heap → Prop) : Array Value → State → Prop := va_Pc av (fun U => eE D cI cR cS lo U U.heap ∧ G U.heap)
theorem ePc_blind {D : va_G} {cI cR cS : ClassId} {lo : Nat} {av : List Value} {G : Heap → Prop} : FrameBlind (ePc D cI cR cS lo av G) := by
  intro a U g mk h
  exact ⟨h.1, eE.same (U := U) (V := U.calling g mk a) rfl h.2.1, h.2.2⟩
theorem ePreS {D : va_G} {cI cR cS : ClassId} {lo : Nat} {s : State} {H : Heap} {locs : List Loc} {G : Heap → Prop} {As : List Value} (hE : eE D cI cR cS lo s s.heap) (hS : va_S (fun q => lo ≤ q) s.heap H locs) (hG : G H) : PreS s H (ePc D cI cR cS lo As G) As :=
  ⟨ePc_blind, fun U hU hW => ⟨rfl, hE.to hS hU hW, by rw [hU]; exact hG⟩⟩
theorem ePreV {D : va_G} {cI cR cS : ClassId} {lo : Nat} {s : State} {H : Heap} {locs : List Loc} {G : Heap → Prop} {As : List Value} {b ci k : Nat} {fs : List Value} {C : String} {T : u_T} {N : Nat} {ws : va_W} (hE : eE D cI cR cS lo s s.heap) (hS : va_S (fun q => lo ≤ q) s.heap H locs) (hP : va_P D vwCl ws H) (hk : ws[k]? = some (b, .inr (ci, fs))) (hc : vwCl[ci]? = some (C, T, N)) (hG : G H) : PreV s H C b (ePc D cI cR cS lo (.ref b :: As) G) As :=
  ⟨ePc_blind, va_recv hE.1.1 hP hc hk, fun U hU hW => ⟨rfl, hE.to hS hU hW, by rw [hU]; exact hG⟩⟩
/-- a throw: the class's name as X says, no old cell changed -/
def eX (X : String → Prop) : String → State → State → Prop := fun E st t => X E ∧ va_F (fun _ => False) st t
section NVR
variable {p : Program} {l : Launch} {e : Env} {R : Room} {s : State} {m : MethodId} {args : Array Value} {below : List Frame} {meth : Method} {c : Code} {H : Heap} {locs : List Loc} {cells slots : Nat} {Q : State → Prop}
variable {cc : ByteArray} {pc : Nat} {ls : Array Slot} {rest st0 : List Value} {a : Array Value} {mc ms : Nat} {D : va_G} {cl : List vw_C} {tys : List (ClassId × FieldType)} {ws : va_W} {A : Nat → Prop} {H0 : Heap}
theorem nx_calli {post : Int32 → Prop} {X : String → Prop} (hr : vx_Run p l e R s m args below meth c H locs cells slots mc ms (F0 m pc ls st0) rest (vp_Si post a) (eX X) (fun _ => False))
    (kx : ∀ (E : String) (ce : Cell) (q9 : Addr) (H1 : Heap), X E → H.size ≤ H1.size → (∀ q : Nat, q < H.size → H1[q]? = H[q]?) → H1[q9]? = some ce → ce.vm = .none → s.vm.findClass E = some ce.cls → vx_W p l e R s m args below meth c H1 locs (cells + mc) (slots + ms) Q (F0 m pc ls rest) q9)
    (kk : ∀ r : Int32, post r → W p l e R s m args below meth c H locs (cells + mc) (slots + ms) Q (F0 m (pc + 3) ls (.int r :: rest))) : W p l e R s m args below meth c H locs cells slots Q (F0 m pc ls st0) := by
  intro T hT X
  rcases hr T hT X with ⟨v, st₀, t, T', L, h0, X', hL, e1, e2, ⟨r, hv, hp, hh⟩, st⟩ | ⟨q, st₀, t, T', L, E, ce, h0, X', hL, e1, e2, ⟨hx, hF⟩, hce, hcv, hcl, st⟩
  · cases hv
    obtain ⟨t2, a1, b1⟩ := kk r hp T' (by rw [e1, hh, h0]) (Stand.forget X' (fun q h => (hL q h).elim))
    exact ⟨t2, st t2 a1, b1⟩
  · obtain ⟨hz, hk⟩ := hF
    rw [h0] at hz hk
    obtain ⟨t2, a1, b1⟩ := kx E ce q T'.heap hx (by rw [e1]; exact hz) (fun q h => by rw [e1]; exact hk q h (fun z => z)) (by rw [e1]; exact hce) hcv hcl T' rfl (Stand.forget X' (fun q h => (hL q h).elim))
    exact ⟨t2, st.trans a1, b1⟩
theorem nx_callv {post : Unit → Prop} {X : String → Prop} (hr : vx_Run p l e R s m args below meth c H locs cells slots mc ms (F0 m pc ls st0) rest (va_Sv post a) (eX X) (fun _ => False))
    (kx : ∀ (E : String) (ce : Cell) (q9 : Addr) (H1 : Heap), X E → H.size ≤ H1.size → (∀ q : Nat, q < H.size → H1[q]? = H[q]?) → H1[q9]? = some ce → ce.vm = .none → s.vm.findClass E = some ce.cls → vx_W p l e R s m args below meth c H1 locs (cells + mc) (slots + ms) Q (F0 m pc ls rest) q9)
    (kk : post () → W p l e R s m args below meth c H locs (cells + mc) (slots + ms) Q (F0 m (pc + 3) ls rest)) : W p l e R s m args below meth c H locs cells slots Q (F0 m pc ls st0) := by
  intro T hT X
  rcases hr T hT X with ⟨v, st₀, t, T', L, h0, X', hL, e1, e2, ⟨hv, hp, hh⟩, st⟩ | ⟨q, st₀, t, T', L, E, ce, h0, X', hL, e1, e2, ⟨hx, hF⟩, hce, hcv, hcl, st⟩
  · cases hv
    obtain ⟨t2, a1, b1⟩ := kk hp T' (by rw [e1, hh, h0]) (Stand.forget X' (fun q h => (hL q h).elim))
    exact ⟨t2, st t2 a1, b1⟩
  · obtain ⟨hz, hk⟩ := hF
    rw [h0] at hz hk
    obtain ⟨t2, a1, b1⟩ := kx E ce q T'.heap hx (by rw [e1]; exact hz) (fun q h => by rw [e1]; exact hk q h (fun z => z)) (by rw [e1]; exact hce) hcv hcl T' rfl (Stand.forget X' (fun q h => (hL q h).elim))
    exact ⟨t2, st.trans a1, b1⟩
/-- a reference comes back (a row, a serving), the heap stays -/
def eSr (post : Nat → Prop) : Array Value → State → Outcome → State → Prop := fun _ st oc t => ∃ q : Nat, oc = .returned (some (.ref q)) ∧ post q ∧ t.heap = st.heap
theorem nx_callr {post : Nat → Prop} {X : String → Prop} (hr : vx_Run p l e R s m args below meth c H locs cells slots mc ms (F0 m pc ls st0) rest (eSr post a) (eX X) (fun _ => False))
    (kx : ∀ (E : String) (ce : Cell) (q9 : Addr) (H1 : Heap), X E → H.size ≤ H1.size → (∀ q : Nat, q < H.size → H1[q]? = H[q]?) → H1[q9]? = some ce → ce.vm = .none → s.vm.findClass E = some ce.cls → vx_W p l e R s m args below meth c H1 locs (cells + mc) (slots + ms) Q (F0 m pc ls rest) q9)
    (kk : ∀ q : Nat, post q → W p l e R s m args below meth c H locs (cells + mc) (slots + ms) Q (F0 m (pc + 3) ls (.ref q :: rest))) : W p l e R s m args below meth c H locs cells slots Q (F0 m pc ls st0) := by
  intro T hT X
  rcases hr T hT X with ⟨v, st₀, t, T', L, h0, X', hL, e1, e2, ⟨r, hv, hp, hh⟩, st⟩ | ⟨q, st₀, t, T', L, E, ce, h0, X', hL, e1, e2, ⟨hx, hF⟩, hce, hcv, hcl, st⟩
  · cases hv
    obtain ⟨t2, a1, b1⟩ := kk r hp T' (by rw [e1, hh, h0]) (Stand.forget X' (fun q h => (hL q h).elim))
    exact ⟨t2, st t2 a1, b1⟩
  · obtain ⟨hz, hk⟩ := hF
    rw [h0] at hz hk
    obtain ⟨t2, a1, b1⟩ := kx E ce q T'.heap hx (by rw [e1]; exact hz) (fun q h => by rw [e1]; exact hk q h (fun z => z)) (by rw [e1]; exact hce) hcv hcl T' rfl (Stand.forget X' (fun q h => (hL q h).elim))
    exact ⟨t2, st.trans a1, b1⟩
/-- a call that writes: what it answers and what it leaves, or a throw before any write -/
theorem nx_callw {S : Type} {post : Int32 → S → Prop} {B : S → State → Prop} {A1 : Nat → Prop} {X : String → Prop} {free : Addr → Prop} (hr : vx_Run p l e R s m args below meth c H locs cells slots mc ms (F0 m pc ls st0) rest (va_Qi post B A1 a) (eX X) free) (hS : va_S A H0 H locs) (hA : ∀ q, q < H.size → A1 q → A q) (hf : ∀ q, free q → A q)
    (kx : ∀ (E : String) (ce : Cell) (q9 : Addr) (H1 : Heap) (locs1 : List Loc), X E → H.size ≤ H1.size → (∀ q : Nat, q < H.size → H1[q]? = H[q]?) → va_S A H0 H1 locs1 → H1[q9]? = some ce → ce.vm = .none → s.vm.findClass E = some ce.cls → vx_W p l e R s m args below meth c H1 locs1 (cells + mc) (slots + ms) Q (F0 m pc ls rest) q9)
    (kk : ∀ (r : Int32) (u : S) (t : State) (H1 : Heap) (locs1 : List Loc), t.heap = H1 → s.vm.Alike t.vm → post r u → B u t → H.size ≤ H1.size → (∀ q : Nat, q < H.size → ¬ A1 q → H1[q]? = H[q]?) → va_S A H0 H1 locs1 → W p l e R s m args below meth c H1 locs1 (cells + mc) (slots + ms) Q (F0 m (pc + 3) ls (.int r :: rest))) : W p l e R s m args below meth c H locs cells slots Q (F0 m pc ls st0) := by
  intro T hT X
  rcases hr T hT X with ⟨v, st₀, t, T', L, h0, X', hL, e1, e2, ⟨⟨r, u, hv, hp, hb⟩, hF⟩, st⟩ | ⟨q, st₀, t, T', L, E, ce, h0, X', hL, e1, e2, ⟨hx, hF⟩, hce, hcv, hcl, st⟩
  · cases hv
    obtain ⟨k1, k2, k3⟩ := vx_keep h0 e1 hS hA hf hL hF
    obtain ⟨t2, a1, b1⟩ := kk r u t T'.heap (locs ++ L) e1.symm (by rw [← e2]; exact X'.warmed.alike) hp hb k1 k2 k3 T' rfl X'
    exact ⟨t2, st t2 a1, b1⟩
  · obtain ⟨k1, k2, k3⟩ := vx_keep (A1 := fun _ => False) h0 e1 hS (fun q _ h => h.elim) hf hL hF
    obtain ⟨t2, a1, b1⟩ := kx E ce q T'.heap (locs ++ L) hx k1 (fun q h => k2 q h (fun z => z)) k3 (by rw [e1]; exact hce) hcv hcl T' rfl X'
    exact ⟨t2, st.trans a1, b1⟩
-- numbers
theorem nv_iadd {x y : Nat} (hx : p.tables.exec = Jvm.exec) (hb : c.code = cc) (hdg : decode cc pc = .ok (.iadd, 1)) (k : W p l e R s m args below meth c H locs cells slots Q (F0 m (pc + 1) ls (.int (nI (x + y)) :: rest))) : W p l e R s m args below meth c H locs cells slots Q (F0 m pc ls (.int (nI y) :: .int (nI x) :: rest)) := lv_iadd hx hb hdg (by rw [nI_add]; exact k)
theorem nv_isub {x y : Nat} (hx : p.tables.exec = Jvm.exec) (hb : c.code = cc) (hdg : decode cc pc = .ok (.isub, 1)) (h : y ≤ x) (k : W p l e R s m args below meth c H locs cells slots Q (F0 m (pc + 1) ls (.int (nI (x - y)) :: rest))) : W p l e R s m args below meth c H locs cells slots Q (F0 m pc ls (.int (nI y) :: .int (nI x) :: rest)) := lv_isub hx hb hdg (by rw [pk_sub h]; exact k)
theorem nv_imul {x y : Nat} (hx : p.tables.exec = Jvm.exec) (hb : c.code = cc) (hdg : decode cc pc = .ok (.imul, 1)) (k : W p l e R s m args below meth c H locs cells slots Q (F0 m (pc + 1) ls (.int (nI (x * y)) :: rest))) : W p l e R s m args below meth c H locs cells slots Q (F0 m pc ls (.int (nI y) :: .int (nI x) :: rest)) := lv_imul hx hb hdg (by rw [pk_mul]; exact k)
theorem nv_idiv {x y : Nat} (hx : p.tables.exec = Jvm.exec) (hb : c.code = cc) (hdg : decode cc pc = .ok (.idiv, 1)) (h1 : x < 2 ^ 31) (h0 : 0 < y) (h2 : y < 2 ^ 31) (k : W p l e R s m args below meth c H locs cells slots Q (F0 m (pc + 1) ls (.int (nI (x / y)) :: rest))) : W p l e R s m args below meth c H locs cells slots Q (F0 m pc ls (.int (nI y) :: .int (nI x) :: rest)) := lv_idiv hx hb hdg (nI_ne0 h0 h2) (by rw [pk_div h1 h0 h2]; exact k)
theorem nv_eq {x y : Nat} {off : Int} {tgt : Nat} (hx : p.tables.exec = Jvm.exec) (hb : c.code = cc) (hdg : decode cc pc = .ok (.if_icmp .eq off, 3)) (ht : (pc : Int) + off = (tgt : Int)) (h1 : x < 2 ^ 31) (h2 : y < 2 ^ 31)
    (kt : x = y → W p l e R s m args below meth c H locs cells slots Q (F0 m tgt ls rest)) (kf : ¬ x = y → W p l e R s m args below meth c H locs cells slots Q (F0 m (pc + 3) ls rest)) : W p l e R s m args below meth c H locs cells slots Q (F0 m pc ls (.int (nI y) :: .int (nI x) :: rest)) := lv_icmp_eq hx hb hdg ht (fun h => kt ((nI_eq h1 h2).mp h)) (fun h => kf (fun z => h ((nI_eq h1 h2).mpr z)))
theorem nv_ne {x y : Nat} {off : Int} {tgt : Nat} (hx : p.tables.exec = Jvm.exec) (hb : c.code = cc) (hdg : decode cc pc = .ok (.if_icmp .ne off, 3)) (ht : (pc : Int) + off = (tgt : Int)) (h1 : x < 2 ^ 31) (h2 : y < 2 ^ 31)
    (kt : ¬ x = y → W p l e R s m args below meth c H locs cells slots Q (F0 m tgt ls rest)) (kf : x = y → W p l e R s m args below meth c H locs cells slots Q (F0 m (pc + 3) ls rest)) : W p l e R s m args below meth c H locs cells slots Q (F0 m pc ls (.int (nI y) :: .int (nI x) :: rest)) := lv_icmp_ne hx hb hdg ht (fun h => kt (fun z => h ((nI_eq h1 h2).mpr z))) (fun h => kf ((nI_eq h1 h2).mp h))
theorem nv_lt {x y : Nat} {off : Int} {tgt : Nat} (hx : p.tables.exec = Jvm.exec) (hb : c.code = cc) (hdg : decode cc pc = .ok (.if_icmp .lt off, 3)) (ht : (pc : Int) + off = (tgt : Int)) (h1 : x < 2 ^ 31) (h2 : y < 2 ^ 31)
    (kt : x < y → W p l e R s m args below meth c H locs cells slots Q (F0 m tgt ls rest)) (kf : ¬ x < y → W p l e R s m args below meth c H locs cells slots Q (F0 m (pc + 3) ls rest)) : W p l e R s m args below meth c H locs cells slots Q (F0 m pc ls (.int (nI y) :: .int (nI x) :: rest)) := lv_icmp_lt hx hb hdg ht (fun h => kt ((nI_ltI h1 h2).mp h)) (fun h => kf (fun z => h ((nI_ltI h1 h2).mpr z)))
theorem nv_ge {x y : Nat} {off : Int} {tgt : Nat} (hx : p.tables.exec = Jvm.exec) (hb : c.code = cc) (hdg : decode cc pc = .ok (.if_icmp .ge off, 3)) (ht : (pc : Int) + off = (tgt : Int)) (h1 : x < 2 ^ 31) (h2 : y < 2 ^ 31)
    (kt : y ≤ x → W p l e R s m args below meth c H locs cells slots Q (F0 m tgt ls rest)) (kf : ¬ y ≤ x → W p l e R s m args below meth c H locs cells slots Q (F0 m (pc + 3) ls rest)) : W p l e R s m args below meth c H locs cells slots Q (F0 m pc ls (.int (nI y) :: .int (nI x) :: rest)) := lv_icmp_ge hx hb hdg ht (fun h => kt ((nI_leI h2 h1).mp h)) (fun h => kf (fun z => h ((nI_leI h2 h1).mpr z)))
theorem nv_gt {x y : Nat} {off : Int} {tgt : Nat} (hx : p.tables.exec = Jvm.exec) (hb : c.code = cc) (hdg : decode cc pc = .ok (.if_icmp .gt off, 3)) (ht : (pc : Int) + off = (tgt : Int)) (h1 : x < 2 ^ 31) (h2 : y < 2 ^ 31)
    (kt : y < x → W p l e R s m args below meth c H locs cells slots Q (F0 m tgt ls rest)) (kf : ¬ y < x → W p l e R s m args below meth c H locs cells slots Q (F0 m (pc + 3) ls rest)) : W p l e R s m args below meth c H locs cells slots Q (F0 m pc ls (.int (nI y) :: .int (nI x) :: rest)) := lv_icmp_gt hx hb hdg ht (fun h => kt ((nI_ltI h2 h1).mp h)) (fun h => kf (fun z => h ((nI_ltI h2 h1).mpr z)))
theorem nv_le {x y : Nat} {off : Int} {tgt : Nat} (hx : p.tables.exec = Jvm.exec) (hb : c.code = cc) (hdg : decode cc pc = .ok (.if_icmp .le off, 3)) (ht : (pc : Int) + off = (tgt : Int)) (h1 : x < 2 ^ 31) (h2 : y < 2 ^ 31)
    (kt : x ≤ y → W p l e R s m args below meth c H locs cells slots Q (F0 m tgt ls rest)) (kf : ¬ x ≤ y → W p l e R s m args below meth c H locs cells slots Q (F0 m (pc + 3) ls rest)) : W p l e R s m args below meth c H locs cells slots Q (F0 m pc ls (.int (nI y) :: .int (nI x) :: rest)) := lv_icmp_le hx hb hdg ht (fun h => kt ((nI_leI h1 h2).mp h)) (fun h => kf (fun z => h ((nI_leI h1 h2).mpr z)))
theorem nv_iald {q0 t0 q : Nat} {cA : ClassId} {n i : Nat} (f : Nat → Nat) (hx : p.tables.exec = Jvm.exec) (hb : c.code = cc) (hK : va_K D cl tys s) (hP : va_P D cl ws H) (ha : ws[q0]? = some (q, .inl (cA, n, .inl (fun j => nI (f j))))) (ht : tys[t0]? = some (cA, .int)) (hin : i < n) (hn : n < 2 ^ 31) (hdg : decode cc pc = .ok (.iaload, 1))
    (kk : W p l e R s m args below meth c H locs cells slots Q (F0 m (pc + 1) ls (.int (nI (f i)) :: rest))) : W p l e R s m args below meth c H locs cells slots Q (F0 m pc ls (.int (nI i) :: .ref q :: rest)) :=
  va_iald hx hb hK hP q0 t0 ha ht (vp_in_nI hin hn) hdg (by rw [nI_clamp (Nat.lt_trans hin hn)]; exact kk)
theorem nv_iast {q0 t0 q : Nat} {cA : ClassId} {n i v : Nat} (f : Nat → Nat) (hx : p.tables.exec = Jvm.exec) (hb : c.code = cc) (hK : va_K D cl tys s) (hP : va_P D cl ws H) (hD : va_D A ws) (hS : va_S A H0 H locs) (ha : ws[q0]? = some (q, .inl (cA, n, .inl (fun j => nI (f j))))) (ht : tys[t0]? = some (cA, .int)) (hin : i < n) (hn : n < 2 ^ 31) (hdg : decode cc pc = .ok (.iastore, 1))
    (kk : ∀ (H1 : Heap) (locs1 : List Loc), va_P D cl (ws.set q0 (q, .inl (cA, n, .inl (fun j => nI (uN f i v j))))) H1 → va_D A (ws.set q0 (q, .inl (cA, n, .inl (fun j => nI (uN f i v j))))) → va_S A H0 H1 locs1 → W p l e R s m args below meth c H1 locs1 cells slots Q (F0 m (pc + 1) ls rest)) : W p l e R s m args below meth c H locs cells slots Q (F0 m pc ls (.int (nI v) :: .int (nI i) :: .ref q :: rest)) :=
  va_iast hx hb hK hP hD hS q0 t0 ha ht (vp_in_nI hin hn) hdg (fun H1 locs1 h1 h2 h3 => by
    rw [nI_clamp (Nat.lt_trans hin hn), uN_upd] at h1 h2
    exact kk H1 locs1 h1 h2 h3)
end NVR
end
section
/-! throws: the words of the three exceptions, and a throw out of a method that has changed nothing -/
abbrev nmX : List String := ["java/lang/RuntimeException", "java/lang/Exception"]
theorem bad_iae : ∀ w ∈ (vx_atS RX2 146 nIAE nmX).filter (fun w => !goodWord w), w ∈ eWs := by decide +kernel
theorem ot_iae : ∀ w ∈ Cond.classLink RX2 142 nIAE :: Cond.initialized nIAE :: vx_atS RX2 146 nIAE nmX, vx_ot w = true := by decide +kernel
theorem bad_ise : ∀ w ∈ (vx_atS RX2 51 nISE nmX).filter (fun w => !goodWord w), w ∈ eWs := by decide +kernel
theorem ot_ise : ∀ w ∈ Cond.classLink RX2 47 nISE :: Cond.initialized nISE :: vx_atS RX2 51 nISE nmX, vx_ot w = true := by decide +kernel
theorem bad_iob : ∀ w ∈ (vx_atS RX2 151 nIOB nmX).filter (fun w => !goodWord w), w ∈ eWs := by decide +kernel
theorem ot_iob : ∀ w ∈ Cond.classLink RX2 147 nIOB :: Cond.initialized nIOB :: vx_atS RX2 151 nIOB nmX, vx_ot w = true := by decide +kernel
theorem nx_throw {p : Program} {l : Launch} {e : Env} {R : Room} {s : State} {m : MethodId} {args : Array Value} {below : List Frame} {meth : Method} {c : Code} {cells slots : Nat} {cc : ByteArray} {pc : Nat} {ls : Array Slot} {nL mc ms : Nat} {D : va_G} {cI cR cS : ClassId} {lo : Nat} {cls text : String} {ik is ic : Nat} {Ts : List Cond} {Qc : Array Value → State → Outcome → State → Prop} {X : String → Prop} {lv : List (Nat × Value)} {free : Addr → Prop}
    (hx : p.tables.exec = Jvm.exec) (hb : c.code = cc) (hfl : l.stackTraces = false) (hown : s.vm.findClass RX2 = some m.cls) (hml : c.maxLocals = nL) (hnt : ∀ x ∈ c.exceptionTable.toList, False) (hlocks : meth.locks = false) (hts : ∀ w ∈ Ts, w.before args s = true)
    (hcls : Bundle.fit cls = true) (hinl : ∀ w ∈ Cond.classLink RX2 ik cls :: Cond.initialized cls :: (vx_atS RX2 ic cls nmX).filter goodWord, w ∈ Ts)
    (hbad : ∀ w ∈ (vx_atS RX2 ic cls nmX).filter (fun w => !goodWord w), w ∈ eWs) (hot : ∀ w ∈ Cond.classLink RX2 ik cls :: Cond.initialized cls :: vx_atS RX2 ic cls nmX, vx_ot w = true)
    (hE : eE D cI cR cS lo s s.heap) (hstr : ∃ sa, vk_R RX2 is text sa s) (hl : lv_has ls nL lv)
    (d0 : decode cc pc = .ok (.new ik, 3)) (d3 : decode cc (pc + 3) = .ok (.dup, 1)) (d4 : decode cc (pc + 4) = .ok (.ldc is, 2)) (d6 : decode cc (pc + 6) = .ok (.invokespecial ic, 3)) (d9 : decode cc (pc + 9) = .ok (.athrow, 1))
    (hRf : 5 < R.frames) (hRl : 82 ≤ R.locals) (hRc : cells + 1 ≤ R.cells) (hRs : slots + 6 ≤ R.slots) (hX : X cls) (hc : cells + 1 ≤ mc) (hs : slots + 6 ≤ ms) :
    W p l e R s m args below meth c s.heap [] cells slots (vx_MQ below Qc (eX X) args s mc ms free) (F0 m pc ls []) := by
  obtain ⟨sa, hstr⟩ := hstr
  have hq := hE
  obtain ⟨⟨-, -, -, -, -, -, -, g7, -⟩, h2, h3⟩ := hq
  refine vx_throwS (A := fun q => lo ≤ q) (names := nmX) hx hb hfl hown hcls (by decide +kernel) (hts _ (hinl _ List.mem_cons_self)) (hts _ (hinl _ (List.mem_cons_of_mem _ List.mem_cons_self))) hstr ?_ hot h2 h3 va_S.rf (hl.1.trans hml.symm) d0 d3 d4 d6 d9 (fun x hx => (hnt x hx).elim) hRf hRl hRc hRs hlocks ?_ (fun z hz => absurd hz List.not_mem_nil) hc hs
  · exact vx_hat (fun w hw => hts w (hinl w (List.mem_cons_of_mem _ (List.mem_cons_of_mem _ hw)))) hbad (fun w hw => va_Nw.use (eWs_t w hw) (g7 w hw))
  · intro t _ h1 h2
    exact ⟨hX, h1, fun q hq _ => h2 q hq⟩
end
section
/-! what a state of the store is: a table of numbers; what each call answers over it; how class and reference hold it -/
abbrev St : Type := Nat → Nat → Nat
def s_now (σ : St) : Nat := σ 0 0
def s_n (σ : St) : Nat := σ 1 0
def s_tk (σ : St) : Nat := σ 2 0
def s_k (σ : St) : Nat := σ 3 0
def s_lt (σ : St) : Nat → Nat := σ 4
def s_pr (σ : St) : Nat → Nat := σ 5
def s_ev (σ : St) : Nat → Nat := σ 6
def s_ar (σ : St) : Nat → Nat := σ 7
def s_vl (σ : St) : Nat → Nat := σ 8
/-- the online copy: 0 is none, r + 1 is row r -/
def s_cp (σ : St) : Nat → Nat := σ 9
def s_sp (σ : St) : Nat → Nat := σ 10
def s_sa (σ : St) : Nat → Nat := σ 11
/-- what was served: 0 is none, r + 1 is row r -/
def s_sv (σ : St) : Nat → Nat := σ 12
def setS (σ : St) (k : Nat) (g : Nat → Nat) : St := fun j => if j = k then g else σ j
/-- what always holds of it -/
def sI (σ : St) : Prop := s_now σ ≤ 10000 ∧ s_n σ ≤ 200 ∧ s_tk σ ≤ s_n σ ∧ s_k σ ≤ 200 ∧ (∀ f, f < 6 → s_lt σ f ≤ 10000) ∧
  (∀ r, r < s_n σ → s_pr σ r < 60 ∧ s_ev σ r ≤ s_ar σ r ∧ s_ar σ r ≤ s_now σ ∧ s_vl σ r ≤ 100000) ∧
  (∀ q, q < 60 → s_cp σ q ≤ s_tk σ ∧ ∀ r, s_cp σ q = r + 1 → s_pr σ r = q) ∧
  (∀ i, i < s_k σ → s_sp σ i < 60 ∧ s_sa σ i ≤ s_now σ ∧ s_sv σ i ≤ s_n σ)
-- the answers
def q_best (σ : St) (q t k : Nat) : Nat → Nat
  | 0 => 0
  | r + 1 => if s_pr σ r = q ∧ s_ev σ r ≤ t ∧ s_ar σ r ≤ k ∧ (q_best σ q t k r = 0 ∨ s_ev σ (q_best σ q t k r - 1) ≤ s_ev σ r) then r + 1 else q_best σ q t k r
def q_fr (σ : St) (o t : Nat) : Nat := if o = 0 then 0 else if t ≤ s_ev σ (o - 1) + s_lt σ (s_pr σ (o - 1) / 10) then o else 0
def q_join (σ : St) (q t k : Nat) : Nat := q_fr σ (q_best σ q t k (s_n σ)) t
def q_sum (σ : St) (q a b : Nat) : Nat → Nat
  | 0 => 0
  | r + 1 => q_sum σ q a b r + (if s_pr σ r = q ∧ a ≤ s_ev σ r ∧ s_ev σ r ≤ b then s_vl σ r else 0)
def q_fst (σ : St) (len row : Nat) : Nat → Nat
  | 0 => 1
  | r + 1 => if q_fst σ len row r = 1 ∧ (¬ s_pr σ r = s_pr σ row ∨ ¬ s_ev σ r / len = s_ev σ row / len) then 1 else 0
def q_its (σ : St) (q len r : Nat) : Nat := if s_pr σ r = q ∧ q_fst σ len r r = 1 then q_sum σ q (s_ev σ r / len * len) (s_ev σ r / len * len + len - 1) (s_n σ) else 0
def q_gt (σ : St) (q len : Nat) : Nat → Nat
  | 0 => 0
  | r + 1 => if q_gt σ q len r < q_its σ q len r then q_its σ q len r else q_gt σ q len r
def q_tl (σ : St) (q len : Nat) : Nat → Nat
  | 0 => 0
  | r + 1 => q_tl σ q len r + (if s_pr σ r = q ∧ q_fst σ len r r = 1 then 1 else 0)
/-- at how many of the first j times the answer was revised -/
def q_rev (σ : St) (q T : Nat) : Nat → Nat
  | 0 => 0
  | j + 1 => q_rev σ q T j + (if q_join σ q (j * T) (s_now σ) = q_join σ q (j * T) (j * T) then 0 else 1)
def q_skew (σ : St) : Nat → Nat
  | 0 => 0
  | q + 1 => q_skew σ q + (if q_fr σ (s_cp σ q) (s_now σ) = q_join σ q (s_now σ) (s_now σ) then 0 else 1)
def q_uns (σ : St) : Nat → Nat
  | 0 => 0
  | i + 1 => q_uns σ i + (if s_sv σ i = q_join σ (s_sp σ i) (s_sa σ i) (s_sa σ i) then 0 else 1)
/-- one change is taken in -/
def q_take1 (σ : St) : St :=
  setS (if s_cp σ (s_pr σ (s_tk σ)) = 0 ∨ s_ev σ (s_cp σ (s_pr σ (s_tk σ)) - 1) ≤ s_ev σ (s_tk σ) then setS σ 9 (uN (s_cp σ) (s_pr σ (s_tk σ)) (s_tk σ + 1)) else σ) 2 (fun _ => s_tk σ + 1)
def q_take (σ : St) : Nat → St
  | 0 => σ
  | c + 1 => q_take1 (q_take σ c)
-- the class's chains
def ins (ev : Nat → Nat) (x : Nat) : List Nat → List Nat
  | [] => [x]
  | y :: l => if ev x < ev y then y :: ins ev x l else x :: y :: l
def chn (σ : St) (q : Nat) : Nat → List Nat
  | 0 => []
  | r + 1 => if s_pr σ r = q then ins (s_ev σ) r (chn σ q r) else chn σ q r
/-- the links from o on are the rows of the list -/
def seg (ol : Nat → Nat) : Nat → List Nat → Prop
  | o, [] => o = 0
  | o, x :: l => o = x + 1 ∧ seg ol (ol x) l
def xI (σ : St) (hd ol : Nat → Nat) : Prop := ∀ q, q < 60 → seg ol (hd q) (chn σ q (s_n σ))
-- the worlds
abbrev mW (cI : ClassId) (m0 : Nat) (a : Nat → Nat) (th : Nat) (σ : St) : va_W :=
  [(m0, .inr (3, [.int (nI th), .int (nI (s_now σ)), .ref (a 0), .int (nI (s_n σ)), .ref (a 1), .ref (a 2), .ref (a 3), .ref (a 4), .int (nI (s_tk σ)), .ref (a 5), .int (nI (s_k σ)), .ref (a 6), .ref (a 7), .ref (a 8)])),
   (a 0, .inl (cI, 6, .inl (fun j => nI (s_lt σ j)))), (a 1, .inl (cI, 200, .inl (fun j => nI (s_pr σ j)))), (a 2, .inl (cI, 200, .inl (fun j => nI (s_ev σ j)))), (a 3, .inl (cI, 200, .inl (fun j => nI (s_ar σ j)))), (a 4, .inl (cI, 200, .inl (fun j => nI (s_vl σ j)))),
   (a 5, .inl (cI, 60, .inl (fun j => nI (s_cp σ j)))), (a 6, .inl (cI, 200, .inl (fun j => nI (s_sp σ j)))), (a 7, .inl (cI, 200, .inl (fun j => nI (s_sa σ j)))), (a 8, .inl (cI, 200, .inl (fun j => eN (s_sv σ j))))]
abbrev rowE (ra ol : Nat → Nat) (σ : St) (i : Nat) : Nat × va_E := (ra i, .inr (0, [.int (nI i), .int (nI (s_pr σ i / 10)), .int (nI (s_pr σ i % 10)), .int (nI (s_ev σ i)), .int (nI (s_ar σ i)), .int (nI (s_vl σ i)), va_rf (rfN ra (ol i))]))
abbrev srvE (sb : Nat → Nat) (σ : St) (i : Nat) : Nat × va_E := (sb i, .inr (1, [.int (nI (s_sp σ i / 10)), .int (nI (s_sp σ i % 10)), .int (nI (s_sa σ i)), .int (eN (s_sv σ i))]))
abbrev xW (cI cR cS : ClassId) (x0 : Nat) (b ra sb hd ol : Nat → Nat) (σ : St) : va_W :=
  (x0, .inr (2, [.int (nI (s_now σ)), .ref (b 0), .ref (b 1), .int (nI (s_n σ)), .ref (b 2), .ref (b 3), .int (nI (s_tk σ)), .ref (b 4), .int (nI (s_k σ))])) ::
  (b 0, .inl (cI, 6, .inl (fun j => nI (s_lt σ j)))) :: (b 1, .inl (cR, 200, .inr (.inr (.inr (.inr (fun j => if j < s_n σ then some (ra j) else none)))))) ::
  (b 2, .inl (cR, 60, .inr (.inr (.inr (.inr (fun j => rfN ra (hd j))))))) :: (b 3, .inl (cR, 60, .inr (.inr (.inr (.inr (fun j => rfN ra (s_cp σ j))))))) ::
  (b 4, .inl (cS, 200, .inr (.inr (.inr (.inr (fun j => if j < s_k σ then some (sb j) else none)))))) ::
  ((List.range (s_n σ)).map (rowE ra ol σ) ++ (List.range (s_k σ)).map (srvE sb σ))
theorem xRow {D : va_G} {cI cR cS : ClassId} {x0 : Nat} {b ra sb hd ol : Nat → Nat} {σ : St} {H : Heap} (h : va_P D vwCl (xW cI cR cS x0 b ra sb hd ol σ) H) {i : Nat} (hi : i < s_n σ) : va_P D vwCl [rowE ra ol σ i] H := by
  intro k q hk
  cases k with
  | zero =>
    cases hk
    refine h (i + 6) _ ?_
    show ((List.range (s_n σ)).map (rowE ra ol σ) ++ (List.range (s_k σ)).map (srvE sb σ))[i]? = _
    rw [List.getElem?_append_left (by simpa using hi)]
    simp [hi]
  | succ k => simp at hk
theorem xSrv {D : va_G} {cI cR cS : ClassId} {x0 : Nat} {b ra sb hd ol : Nat → Nat} {σ : St} {H : Heap} (h : va_P D vwCl (xW cI cR cS x0 b ra sb hd ol σ) H) {i : Nat} (hi : i < s_k σ) : va_P D vwCl [srvE sb σ i] H := by
  intro k q hk
  cases k with
  | zero =>
    cases hk
    refine h (s_n σ + i + 6) _ ?_
    show ((List.range (s_n σ)).map (rowE ra ol σ) ++ (List.range (s_k σ)).map (srvE sb σ))[s_n σ + i]? = _
    rw [List.getElem?_append_right (by simp)]
    simp [hi]
  | succ k => simp at hk
theorem mem_ins {ev : Nat → Nat} {x y : Nat} {l : List Nat} : y ∈ ins ev x l ↔ y = x ∨ y ∈ l := by
  induction l with
  | nil => simp [ins]
  | cons z l ih =>
    simp only [ins]
    split <;> simp [ih] <;> constructor <;> (intro h; rcases h with h | h | h <;> simp [h])
theorem mem_chn {σ : St} {q y : Nat} : ∀ {n : Nat}, y ∈ chn σ q n ↔ y < n ∧ s_pr σ y = q := by
  intro n
  induction n with
  | zero => simp [chn]
  | succ n ih =>
    simp only [chn]
    split
    · rename_i h
      rw [mem_ins, ih]
      constructor
      · rintro (rfl | ⟨h1, h2⟩)
        · exact ⟨Nat.lt_succ_self _, h⟩
        · exact ⟨by omega, h2⟩
      · rintro ⟨h1, h2⟩
        by_cases e : y = n
        · exact Or.inl e
        · exact Or.inr ⟨by omega, h2⟩
    · rename_i h
      rw [ih]
      constructor
      · rintro ⟨h1, h2⟩
        exact ⟨by omega, h2⟩
      · rintro ⟨h1, h2⟩
        refine ⟨?_, h2⟩
        by_cases e : y = n
        · subst e; exact absurd h2 h
        · omega
end
section
/-! more rows over numbers and over -1 for none -/
theorem nv_inc (e k : Nat) : nI e + Int32.ofInt (k : Int) = nI (e + k) := by
  rw [← nI_add]
  rfl
theorem eN_pos {v : Nat} (h : ¬ v = 0) : eN v = nI (v - 1) := by
  cases v with
  | zero => exact absurd rfl h
  | succ v => rfl
theorem eN_upd {f : Nat → Nat} {i v : Nat} : upd (fun j => eN (f j)) i (eN v) = fun j => eN (uN f i v j) := by
  funext j
  by_cases h : j = i
  · subst h; rw [pk_us, uN_s]
  · rw [pk_un h, uN_n h]
theorem fr_cmp {x t y : Nat} (hx : x < 2 ^ 30) (ht : t < 2 ^ 30) (hy : y < 2 ^ 30) : nI t - nI y ≤ nI x ↔ t ≤ x + y := by
  rw [Int32.le_iff_toInt_le, pk_sub_toInt ht hy, nI_toInt (by omega)]
  omega
theorem va_S.mono {A B : Nat → Prop} {H0 H : Heap} {locs : List Loc} (h : va_S A H0 H locs) (hAB : ∀ q, A q → B q) : va_S B H0 H locs :=
  ⟨h.1, fun q hq hn => h.2.1 q hq (fun z => hn (hAB q z)), fun z hz => hAB _ (h.2.2 z hz)⟩
theorem eA_lo {ws : va_W} {lo sz : Nat} (hD : va_D (fun q => lo ≤ q) ws) (hlo : lo ≤ sz) : ∀ q, va_A ws sz q → lo ≤ q := by
  intro q h
  rcases h with ⟨k, e, h⟩ | h
  · exact hD.2 k (q, e) h
  · exact Nat.le_trans hlo h
theorem va_D_fst {A : Nat → Prop} {ws ws' : va_W} (hD : va_D A ws) (h : ws.map Prod.fst = ws'.map Prod.fst) : va_D A ws' := by
  have key : ∀ (k : Nat) (q : Nat × va_E), ws'[k]? = some q → ∃ q', ws[k]? = some q' ∧ q'.1 = q.1 := by
    intro k q hk
    have h1 : (ws'.map Prod.fst)[k]? = some q.1 := by rw [List.getElem?_map, hk]; rfl
    rw [← h, List.getElem?_map] at h1
    cases h2 : ws[k]? with
    | none => rw [h2] at h1; cases h1
    | some q' => rw [h2] at h1; exact ⟨q', rfl, Option.some.inj h1⟩
  refine ⟨fun i j x y hx hy hxy => ?_, fun k q hk => ?_⟩
  · obtain ⟨x', h1, e1⟩ := key i x hx
    obtain ⟨y', h2, e2⟩ := key j y hy
    exact hD.1 i j x' y' h1 h2 (by rw [e1, e2]; exact hxy)
  · obtain ⟨q', h1, e1⟩ := key k q hk
    rw [← e1]
    exact hD.2 k q' h1
section NVS
variable {p : Program} {l : Launch} {e : Env} {R : Room} {s : State} {m : MethodId} {args : Array Value} {below : List Frame} {meth : Method} {c : Code} {H : Heap} {locs : List Loc} {cells slots : Nat} {Q : State → Prop}
variable {cc : ByteArray} {pc : Nat} {ls : Array Slot} {rest st0 : List Value} {a : Array Value} {mc ms : Nat} {D : va_G} {cl : List vw_C} {tys : List (ClassId × FieldType)} {ws : va_W} {A : Nat → Prop} {H0 : Heap}
theorem nv_if_eq {x : Nat} {off : Int} {tgt : Nat} (hx : p.tables.exec = Jvm.exec) (hb : c.code = cc) (hdg : decode cc pc = .ok (.ifCond .eq off, 3)) (ht : (pc : Int) + off = (tgt : Int)) (h1 : x < 2 ^ 31)
    (kt : x = 0 → W p l e R s m args below meth c H locs cells slots Q (F0 m tgt ls rest)) (kf : ¬ x = 0 → W p l e R s m args below meth c H locs cells slots Q (F0 m (pc + 3) ls rest)) : W p l e R s m args below meth c H locs cells slots Q (F0 m pc ls (.int (nI x) :: rest)) := lv_if_eq hx hb hdg ht (fun h => kt ((nI_eq h1 (b := 0) (by decide)).mp h)) (fun h => kf (fun z => h ((nI_eq h1 (b := 0) (by decide)).mpr z)))
theorem nv_if_ne {x : Nat} {off : Int} {tgt : Nat} (hx : p.tables.exec = Jvm.exec) (hb : c.code = cc) (hdg : decode cc pc = .ok (.ifCond .ne off, 3)) (ht : (pc : Int) + off = (tgt : Int)) (h1 : x < 2 ^ 31)
    (kt : ¬ x = 0 → W p l e R s m args below meth c H locs cells slots Q (F0 m tgt ls rest)) (kf : x = 0 → W p l e R s m args below meth c H locs cells slots Q (F0 m (pc + 3) ls rest)) : W p l e R s m args below meth c H locs cells slots Q (F0 m pc ls (.int (nI x) :: rest)) := lv_if_ne hx hb hdg ht (fun h => kt (fun z => h ((nI_eq h1 (b := 0) (by decide)).mpr z))) (fun h => kf ((nI_eq h1 (b := 0) (by decide)).mp h))
theorem nv_if_le {x : Nat} {off : Int} {tgt : Nat} (hx : p.tables.exec = Jvm.exec) (hb : c.code = cc) (hdg : decode cc pc = .ok (.ifCond .le off, 3)) (ht : (pc : Int) + off = (tgt : Int)) (h1 : x < 2 ^ 31)
    (kt : x ≤ 0 → W p l e R s m args below meth c H locs cells slots Q (F0 m tgt ls rest)) (kf : ¬ x ≤ 0 → W p l e R s m args below meth c H locs cells slots Q (F0 m (pc + 3) ls rest)) : W p l e R s m args below meth c H locs cells slots Q (F0 m pc ls (.int (nI x) :: rest)) := lv_if_le hx hb hdg ht (fun h => kt ((nI_leI h1 (b := 0) (by decide)).mp h)) (fun h => kf (fun z => h ((nI_leI h1 (b := 0) (by decide)).mpr z)))
theorem nv_eqNone {x : Nat} {off : Int} {tgt : Nat} (hx : p.tables.exec = Jvm.exec) (hb : c.code = cc) (hdg : decode cc pc = .ok (.if_icmp .eq off, 3)) (ht : (pc : Int) + off = (tgt : Int)) (h1 : x < 2 ^ 31)
    (kt : x = 0 → W p l e R s m args below meth c H locs cells slots Q (F0 m tgt ls rest)) (kf : ¬ x = 0 → W p l e R s m args below meth c H locs cells slots Q (F0 m (pc + 3) ls rest)) : W p l e R s m args below meth c H locs cells slots Q (F0 m pc ls (.int (-1) :: .int (eN x) :: rest)) := lv_icmp_eq hx hb hdg ht (fun h => kt ((eN_none h1).mp h)) (fun h => kf (fun z => h ((eN_none h1).mpr z)))
theorem nv_neNone {x : Nat} {off : Int} {tgt : Nat} (hx : p.tables.exec = Jvm.exec) (hb : c.code = cc) (hdg : decode cc pc = .ok (.if_icmp .ne off, 3)) (ht : (pc : Int) + off = (tgt : Int)) (h1 : x < 2 ^ 31)
    (kt : ¬ x = 0 → W p l e R s m args below meth c H locs cells slots Q (F0 m tgt ls rest)) (kf : x = 0 → W p l e R s m args below meth c H locs cells slots Q (F0 m (pc + 3) ls rest)) : W p l e R s m args below meth c H locs cells slots Q (F0 m pc ls (.int (-1) :: .int (eN x) :: rest)) := lv_icmp_ne hx hb hdg ht (fun h => kt (fun z => h ((eN_none h1).mpr z))) (fun h => kf ((eN_none h1).mp h))
theorem nv_eqN {x y : Nat} {off : Int} {tgt : Nat} (hx : p.tables.exec = Jvm.exec) (hb : c.code = cc) (hdg : decode cc pc = .ok (.if_icmp .eq off, 3)) (ht : (pc : Int) + off = (tgt : Int)) (h1 : x < 2 ^ 31) (h2 : y < 2 ^ 31)
    (kt : x = y → W p l e R s m args below meth c H locs cells slots Q (F0 m tgt ls rest)) (kf : ¬ x = y → W p l e R s m args below meth c H locs cells slots Q (F0 m (pc + 3) ls rest)) : W p l e R s m args below meth c H locs cells slots Q (F0 m pc ls (.int (eN y) :: .int (eN x) :: rest)) := lv_icmp_eq hx hb hdg ht (fun h => kt ((eN_eq h1 h2).mp h)) (fun h => kf (fun z => h ((eN_eq h1 h2).mpr z)))
theorem nv_neN {x y : Nat} {off : Int} {tgt : Nat} (hx : p.tables.exec = Jvm.exec) (hb : c.code = cc) (hdg : decode cc pc = .ok (.if_icmp .ne off, 3)) (ht : (pc : Int) + off = (tgt : Int)) (h1 : x < 2 ^ 31) (h2 : y < 2 ^ 31)
    (kt : ¬ x = y → W p l e R s m args below meth c H locs cells slots Q (F0 m tgt ls rest)) (kf : x = y → W p l e R s m args below meth c H locs cells slots Q (F0 m (pc + 3) ls rest)) : W p l e R s m args below meth c H locs cells slots Q (F0 m pc ls (.int (eN y) :: .int (eN x) :: rest)) := lv_icmp_ne hx hb hdg ht (fun h => kt (fun z => h ((eN_eq h1 h2).mpr z))) (fun h => kf ((eN_eq h1 h2).mp h))
theorem nv_eald {q0 t0 q : Nat} {cA : ClassId} {n i : Nat} (f : Nat → Nat) (hx : p.tables.exec = Jvm.exec) (hb : c.code = cc) (hK : va_K D cl tys s) (hP : va_P D cl ws H) (ha : ws[q0]? = some (q, .inl (cA, n, .inl (fun j => eN (f j))))) (ht : tys[t0]? = some (cA, .int)) (hin : i < n) (hn : n < 2 ^ 31) (hdg : decode cc pc = .ok (.iaload, 1))
    (kk : W p l e R s m args below meth c H locs cells slots Q (F0 m (pc + 1) ls (.int (eN (f i)) :: rest))) : W p l e R s m args below meth c H locs cells slots Q (F0 m pc ls (.int (nI i) :: .ref q :: rest)) :=
  va_iald hx hb hK hP q0 t0 ha ht (vp_in_nI hin hn) hdg (by rw [nI_clamp (Nat.lt_trans hin hn)]; exact kk)
theorem nv_east {q0 t0 q : Nat} {cA : ClassId} {n i v : Nat} (f : Nat → Nat) (hx : p.tables.exec = Jvm.exec) (hb : c.code = cc) (hK : va_K D cl tys s) (hP : va_P D cl ws H) (hD : va_D A ws) (hS : va_S A H0 H locs) (ha : ws[q0]? = some (q, .inl (cA, n, .inl (fun j => eN (f j))))) (ht : tys[t0]? = some (cA, .int)) (hin : i < n) (hn : n < 2 ^ 31) (hdg : decode cc pc = .ok (.iastore, 1))
    (kk : ∀ (H1 : Heap) (locs1 : List Loc), va_P D cl (ws.set q0 (q, .inl (cA, n, .inl (fun j => eN (uN f i v j))))) H1 → va_D A (ws.set q0 (q, .inl (cA, n, .inl (fun j => eN (uN f i v j))))) → va_S A H0 H1 locs1 → W p l e R s m args below meth c H1 locs1 cells slots Q (F0 m (pc + 1) ls rest)) : W p l e R s m args below meth c H locs cells slots Q (F0 m pc ls (.int (eN v) :: .int (nI i) :: .ref q :: rest)) :=
  va_iast hx hb hK hP hD hS q0 t0 ha ht (vp_in_nI hin hn) hdg (fun H1 locs1 h1 h2 h3 => by
    rw [nI_clamp (Nat.lt_trans hin hn), eN_upd] at h1 h2
    exact kk H1 locs1 h1 h2 h3)
theorem nx_callRr {post : Option Nat → Prop} (hr : CallRun p l e R s m args below meth c H locs cells slots 0 0 (F0 m pc ls st0) rest (va_Sq post a) (fun _ => False))
    (kk : ∀ r : Option Nat, post r → W p l e R s m args below meth c H locs cells slots Q (F0 m (pc + 3) ls (va_rf r :: rest))) : W p l e R s m args below meth c H locs cells slots Q (F0 m pc ls st0) := va_csq hr kk
end NVS
end
section
/-! what each call answers, when it throws, what it leaves: over the arguments as they come -/
def cl (x : Int32) : Nat := x.toNatClampNeg
theorem cl_nI {n : Nat} (h : n < 2 ^ 31) : cl (nI n) = n := nI_clamp h
def okP (f e : Int32) : Prop := rg f 0 5 ∧ rg e 0 9
def plN (f e : Int32) : Nat := 10 * cl f + cl e
/-- a number of one of n things -/
def ri (x : Int32) (n : Nat) : Prop := nI 0 ≤ x ∧ x < nI n
theorem ri_of {x : Int32} {n : Nat} (hn : n < 2 ^ 31) (h : ri x n) : ∃ i : Nat, i < n ∧ x = nI i := by
  obtain ⟨h1, h2⟩ := h
  rw [Int32.le_iff_toInt_le, nI_toInt (by decide)] at h1
  rw [Int32.lt_iff_toInt_lt, nI_toInt hn] at h2
  refine ⟨x.toInt.toNat, by omega, ?_⟩
  apply Int32.toInt_inj.mp
  rw [nI_toInt (by omega)]
  omega
theorem ri_in {x : Int32} {n : Nat} (hn : n < 2 ^ 30) : (nI 0 ≤ x ∧ x ≤ nI n - nI 1) ↔ ri x n := by
  unfold ri
  rw [Int32.le_iff_toInt_le (y := nI n - nI 1), Int32.lt_iff_toInt_lt, pk_sub_toInt hn (by decide), nI_toInt (n := n) (by omega)]
  constructor <;> (rintro ⟨h1, h2⟩; exact ⟨h1, by omega⟩)
theorem eN_sub (v : Nat) : nI v - nI 1 = eN v := by
  cases v with
  | zero => decide
  | succ v => exact pk_sub (by omega)
def R3 (ok1 ok2 : Prop) (σ σ' : St) (an r : Int32) (u : Nat × St) : Prop := (ok1 ∧ ok2 ∧ u = (0, σ') ∧ r = an) ∨ (¬ ok1 ∧ u = (1, σ)) ∨ (ok1 ∧ ¬ ok2 ∧ u = (2, σ))
def g_arrive (σ : St) (q v w : Nat) : St := setS (setS (setS (setS (setS σ 1 (fun _ => s_n σ + 1)) 5 (uN (s_pr σ) (s_n σ) q)) 6 (uN (s_ev σ) (s_n σ) v)) 7 (uN (s_ar σ) (s_n σ) (s_now σ))) 8 (uN (s_vl σ) (s_n σ) w)
def g_pass (σ : St) (t : Nat) : St := setS σ 0 (fun _ => s_now σ + t)
def g_setL (σ : St) (f t : Nat) : St := setS σ 4 (uN (s_lt σ) f t)
def g_serve (σ : St) (q : Nat) : St := setS (setS (setS (setS σ 3 (fun _ => s_k σ + 1)) 10 (uN (s_sp σ) (s_k σ) q)) 11 (uN (s_sa σ) (s_k σ) (s_now σ))) 12 (uN (s_sv σ) (s_k σ) (q_fr σ (s_cp σ q) (s_now σ)))
/-- how many changes a take of c takes in -/
def g_m (σ : St) (c : Nat) : Nat := min c (s_n σ - s_tk σ)
theorem q_sum_le {σ : St} (hI : sI σ) (q x y : Nat) : ∀ r : Nat, r ≤ s_n σ → q_sum σ q x y r ≤ 100000 * r
  | 0, _ => Nat.zero_le _
  | r + 1, h => by
    have h1 := q_sum_le hI q x y r (by omega)
    have h2 := (hI.2.2.2.2.2.1 r (by omega)).2.2.2
    simp only [q_sum]
    split <;> omega
theorem q_its_le {σ : St} (hI : sI σ) (q len r : Nat) : q_its σ q len r ≤ 20000000 := by
  have h1 := hI.2.1
  simp only [q_its]
  split
  · have := q_sum_le hI q (s_ev σ r / len * len) (s_ev σ r / len * len + len - 1) (s_n σ) (Nat.le_refl _)
    omega
  · omega
theorem q_gt_le {σ : St} (hI : sI σ) (q len : Nat) : ∀ r : Nat, q_gt σ q len r ≤ 20000000
  | 0 => Nat.zero_le _
  | r + 1 => by
    have h1 := q_gt_le hI q len r
    have h2 := q_its_le hI q len r
    simp only [q_gt]
    split <;> omega
theorem rev_j {T j now : Nat} (h1 : j * T ≤ now + T) (h2 : now < j * T) : j = now / T + 1 := by
  cases j with
  | zero => omega
  | succ i =>
    rw [Nat.succ_mul] at h1
    rw [Nat.div_eq_of_lt_le (k := i) (by omega) (by omega)]
section NVT
variable {p : Program} {l : Launch} {e : Env} {R : Room} {s : State} {m : MethodId} {args : Array Value} {below : List Frame} {meth : Method} {c : Code} {H : Heap} {locs : List Loc} {cells slots : Nat} {Q : State → Prop}
variable {cc : ByteArray} {pc : Nat} {ls : Array Slot} {rest : List Value}
theorem nv_isubN {x : Nat} (hx : p.tables.exec = Jvm.exec) (hb : c.code = cc) (hdg : decode cc pc = .ok (.isub, 1)) (k : W p l e R s m args below meth c H locs cells slots Q (F0 m (pc + 1) ls (.int (eN x) :: rest))) : W p l e R s m args below meth c H locs cells slots Q (F0 m pc ls (.int (nI 1) :: .int (nI x) :: rest)) := lv_isub hx hb hdg (by rw [eN_sub]; exact k)
end NVT
end
section
/-! the reference: the methods that leave the heap as it is (laid by wip/whole/gen/x3ro.py) -/
set_option maxHeartbeats 4000000 in
set_option maxRecDepth 100000 in
theorem c_X3_in (l : Launch) (dD : va_G) (cI cR cS : ClassId) (lo : Nat) (v lw hg : Int32) : Met l yX3_in wsX3_in ({ frames := 0, cells := 0, slots := 0, locals := 0 }) (ePc dD cI cR cS lo [.int v, .int lw, .int hg] (fun H => True)) (vp_Si (fun r => (r = nI 1 ∧ lw ≤ v ∧ v ≤ hg) ∨ (r = nI 0 ∧ ¬ (lw ≤ v ∧ v ≤ hg)))) 0 0 (fun _ => False) := by
  refine Met.ofW (cc := cX3_in) (maxL := 3) (ret := (some .boolean)) (by decide) rfl ?_
  intro p e_ s m args below meth c s₁ B hml hv
  obtain ⟨rfl, hE, hP⟩ := hv
  have hx := B.exec
  have hb := B.bytes
  have hr := B.returns
  have hts := atoms_spec (ws := wsX3_in) B.pre
  have hown : s.vm.findClass RX3 = some m.cls := findClass_of_methodNamed B.named
  have hlocks := B.notSynchronized
  have hK := hE.1.1
  have hl := lv_entry ([.int v, .int lw, .int hg]) (n := 3) (Nat.le_of_ble_eq_true rfl)
  rw [lg_entry_eq]
  generalize (lg_sl ([.int v, .int lw, .int hg]) ++ List.replicate (3 - (lg_sl ([.int v, .int lw, .int hg])).length) Slot.unset).toArray = ls at hl ⊢
  have hl : lv_has ls 3 [(0, .int v), (1, .int lw), (2, .int hg)] := hl
  refine lv_iload_n hx hb dX3_in_0 rfl (lv_at hl 0 rfl) ?_
  refine lv_iload_n hx hb dX3_in_1 rfl (lv_at hl 1 rfl) ?_
  refine lv_icmp_lt (tgt := 14) hx hb dX3_in_2 (by decide) (fun c_2 => ?_) (fun c_2 => ?_)
  · refine lv_iconst (v := nI 0) hx hb dX3_in_14 (by decide +kernel) ?_
    exact W.zret (v := nI 0) hx hb hr rfl (fun u9 hu9 hW => ⟨nI 0, rfl, Or.inr ⟨rfl, fun h => absurd c_2 (Int32.not_lt.mpr h.1)⟩, hu9⟩) (fun q h => absurd h List.not_mem_nil) dX3_in_15
  · refine lv_iload_n hx hb dX3_in_5 rfl (lv_at hl 0 rfl) ?_
    refine lv_iload_n hx hb dX3_in_6 rfl (lv_at hl 2 rfl) ?_
    refine lv_icmp_gt (tgt := 14) hx hb dX3_in_7 (by decide) (fun c_7 => ?_) (fun c_7 => ?_)
    · refine lv_iconst (v := nI 0) hx hb dX3_in_14 (by decide +kernel) ?_
      exact W.zret (v := nI 0) hx hb hr rfl (fun u9 hu9 hW => ⟨nI 0, rfl, Or.inr ⟨rfl, fun h => absurd c_7 (Int32.not_lt.mpr h.2)⟩, hu9⟩) (fun q h => absurd h List.not_mem_nil) dX3_in_15
    · refine lv_iconst (v := nI 1) hx hb dX3_in_10 (by decide +kernel) ?_
      refine lv_goto (tgt := 15) hx hb dX3_in_11 (by decide) ?_
      exact W.zret (v := nI 1) hx hb hr rfl (fun u9 hu9 hW => ⟨nI 1, rfl, Or.inl ⟨rfl, Int32.not_lt.mp c_2, Int32.not_lt.mp c_7⟩, hu9⟩) (fun q h => absurd h List.not_mem_nil) dX3_in_15

set_option maxHeartbeats 4000000 in
set_option maxRecDepth 100000 in
theorem c_X3_isPair (l : Launch) (dD : va_G) (cI cR cS : ClassId) (lo : Nat) (f e : Int32) : Met l yX3_isPair wsX3_isPair ({ frames := 1, cells := 0, slots := 0, locals := 22 }) (ePc dD cI cR cS lo [.int f, .int e] (fun H => True)) (vp_Si (fun r => (r = nI 1 ∧ rg f 0 5 ∧ rg e 0 9) ∨ (r = nI 0 ∧ ¬ (rg f 0 5 ∧ rg e 0 9)))) 0 0 (fun _ => False) := by
  refine Met.ofW (cc := cX3_isPair) (maxL := 2) (ret := (some .boolean)) (by decide) rfl ?_
  intro p e_ s m args below meth c s₁ B hml hv
  obtain ⟨rfl, hE, hP⟩ := hv
  have hx := B.exec
  have hb := B.bytes
  have hr := B.returns
  have hts := atoms_spec (ws := wsX3_isPair) B.pre
  have hown : s.vm.findClass RX3 = some m.cls := findClass_of_methodNamed B.named
  have hlocks := B.notSynchronized
  have hK := hE.1.1
  have hl := lv_entry ([.int f, .int e]) (n := 2) (Nat.le_of_ble_eq_true rfl)
  rw [lg_entry_eq]
  generalize (lg_sl ([.int f, .int e]) ++ List.replicate (2 - (lg_sl ([.int f, .int e])).length) Slot.unset).toArray = ls at hl ⊢
  have hl : lv_has ls 2 [(0, .int f), (1, .int e)] := hl
  refine lv_iload_n hx hb dX3_isPair_0 rfl (lv_at hl 0 rfl) ?_
  refine lv_iconst (v := nI 0) hx hb dX3_isPair_1 (by decide +kernel) ?_
  refine lv_iconst (v := nI 5) hx hb dX3_isPair_2 (by decide +kernel) ?_
  refine vp_callSi (va_Run.run (va_runS (As := [.int f, .int (nI 0), .int (nI 5)]) (rest := []) ⟨hx, hb, hml, hown, hts⟩ (c_X3_in l dD cI cR cS lo f (nI 0) (nI 5)) (va_cwS 3 hts gX3_isPair_X3_in rfl rfl rfl (by decide +kernel) ⟨Nat.le_of_ble_eq_true rfl, Nat.le_of_ble_eq_true rfl⟩) (ePreS hE va_S.rf trivial) rfl rfl hl.1 rfl (lv_room (Nat.le_of_ble_eq_true rfl)) dX3_isPair_3 ⟨Nat.le_of_ble_eq_true rfl, Nat.le_of_ble_eq_true rfl⟩)) (fun r_3 hr_3 => ?_)
  rcases hr_3 with ⟨rfl, hr_3⟩ | ⟨rfl, hr_3⟩
  · refine nv_if_eq (tgt := 23) hx hb dX3_isPair_6 (by decide) (by decide) (fun c_6 => absurd c_6 (by decide)) (fun c_6 => ?_)
    refine lv_iload_n hx hb dX3_isPair_9 rfl (lv_at hl 1 rfl) ?_
    refine lv_iconst (v := nI 0) hx hb dX3_isPair_10 (by decide +kernel) ?_
    refine lv_bipush (v := nI 9) hx hb dX3_isPair_11 (by decide +kernel) ?_
    refine vp_callSi (va_Run.run (va_runS (As := [.int e, .int (nI 0), .int (nI 9)]) (rest := []) ⟨hx, hb, hml, hown, hts⟩ (c_X3_in l dD cI cR cS lo e (nI 0) (nI 9)) (va_cwS 3 hts gX3_isPair_X3_in rfl rfl rfl (by decide +kernel) ⟨Nat.le_of_ble_eq_true rfl, Nat.le_of_ble_eq_true rfl⟩) (ePreS hE va_S.rf trivial) rfl rfl hl.1 rfl (lv_room (Nat.le_of_ble_eq_true rfl)) dX3_isPair_13 ⟨Nat.le_of_ble_eq_true rfl, Nat.le_of_ble_eq_true rfl⟩)) (fun r_13 hr_13 => ?_)
    rcases hr_13 with ⟨rfl, hr_13⟩ | ⟨rfl, hr_13⟩
    · refine nv_if_eq (tgt := 23) hx hb dX3_isPair_16 (by decide) (by decide) (fun c_16 => absurd c_16 (by decide)) (fun c_16 => ?_)
      refine lv_iconst (v := nI 1) hx hb dX3_isPair_19 (by decide +kernel) ?_
      refine lv_goto (tgt := 24) hx hb dX3_isPair_20 (by decide) ?_
      exact W.zret (v := nI 1) hx hb hr rfl (fun u9 hu9 hW => ⟨nI 1, rfl, Or.inl ⟨rfl, hr_3, hr_13⟩, hu9⟩) (fun q h => absurd h List.not_mem_nil) dX3_isPair_24
    · refine nv_if_eq (tgt := 23) hx hb dX3_isPair_16 (by decide) (by decide) (fun c_16 => ?_) (fun c_16 => absurd c_16 (by decide))
      refine lv_iconst (v := nI 0) hx hb dX3_isPair_23 (by decide +kernel) ?_
      exact W.zret (v := nI 0) hx hb hr rfl (fun u9 hu9 hW => ⟨nI 0, rfl, Or.inr ⟨rfl, fun h => hr_13 h.2⟩, hu9⟩) (fun q h => absurd h List.not_mem_nil) dX3_isPair_24
  · refine nv_if_eq (tgt := 23) hx hb dX3_isPair_6 (by decide) (by decide) (fun c_6 => ?_) (fun c_6 => absurd c_6 (by decide))
    refine lv_iconst (v := nI 0) hx hb dX3_isPair_23 (by decide +kernel) ?_
    exact W.zret (v := nI 0) hx hb hr rfl (fun u9 hu9 hW => ⟨nI 0, rfl, Or.inr ⟨rfl, fun h => hr_3 h.1⟩, hu9⟩) (fun q h => absurd h List.not_mem_nil) dX3_isPair_24

set_option maxHeartbeats 4000000 in
set_option maxRecDepth 100000 in
theorem c_X3_pairOf (l : Launch) (dD : va_G) (cI cR cS : ClassId) (lo : Nat) (f e : Nat) : Met l yX3_pairOf wsX3_pairOf ({ frames := 0, cells := 0, slots := 0, locals := 0 }) (ePc dD cI cR cS lo [.int (nI f), .int (nI e)] (fun H => True)) (vp_Si (fun r => r = nI (10 * f + e))) 0 0 (fun _ => False) := by
  refine Met.ofW (cc := cX3_pairOf) (maxL := 2) (ret := (some .int)) (by decide) rfl ?_
  intro p e_ s m args below meth c s₁ B hml hv
  obtain ⟨rfl, hE, hP⟩ := hv
  have hx := B.exec
  have hb := B.bytes
  have hr := B.returns
  have hts := atoms_spec (ws := wsX3_pairOf) B.pre
  have hown : s.vm.findClass RX3 = some m.cls := findClass_of_methodNamed B.named
  have hlocks := B.notSynchronized
  have hK := hE.1.1
  have hl := lv_entry ([.int (nI f), .int (nI e)]) (n := 2) (Nat.le_of_ble_eq_true rfl)
  rw [lg_entry_eq]
  generalize (lg_sl ([.int (nI f), .int (nI e)]) ++ List.replicate (2 - (lg_sl ([.int (nI f), .int (nI e)])).length) Slot.unset).toArray = ls at hl ⊢
  have hl : lv_has ls 2 [(0, .int (nI f)), (1, .int (nI e))] := hl
  refine lv_bipush (v := nI 10) hx hb dX3_pairOf_0 (by decide +kernel) ?_
  refine lv_iload_n hx hb dX3_pairOf_2 rfl (lv_at hl 0 rfl) ?_
  refine nv_imul hx hb dX3_pairOf_3 ?_
  refine lv_iload_n hx hb dX3_pairOf_4 rfl (lv_at hl 1 rfl) ?_
  refine nv_iadd hx hb dX3_pairOf_5 ?_
  exact W.iret (v := nI ((10 * f) + e)) hx hb hr (fun u9 hu9 hW => ⟨nI ((10 * f) + e), rfl, rfl, hu9⟩) (fun q h => absurd h List.not_mem_nil) dX3_pairOf_6

set_option maxHeartbeats 4000000 in
set_option maxRecDepth 100000 in
theorem c_X3_fresh (l : Launch) (dD : va_G) (cI cR cS : ClassId) (lo : Nat) (m0 : Nat) (a : Nat → Nat) (th : Nat) (σ : St) (hI : sI σ) (o t : Nat) (ho : o ≤ s_n σ) (ht : t ≤ 20000) : Met l yX3_fresh wsX3_fresh ({ frames := 0, cells := 0, slots := 0, locals := 0 }) (ePc dD cI cR cS lo [.ref m0, .int (eN o), .int (nI t)] (fun H => va_P dD vwCl (mW cI m0 a th σ) H)) (vp_Si (fun r => r = eN (q_fr σ o t))) 0 0 (fun _ => False) := by
  refine Met.ofW (cc := cX3_fresh) (maxL := 4) (ret := (some .int)) (by decide) rfl ?_
  intro p e_ s m args below meth c s₁ B hml hv
  obtain ⟨rfl, hE, hP⟩ := hv
  have hx := B.exec
  have hb := B.bytes
  have hr := B.returns
  have hts := atoms_spec (ws := wsX3_fresh) B.pre
  have hown : s.vm.findClass RX3 = some m.cls := findClass_of_methodNamed B.named
  have hlocks := B.notSynchronized
  have hK := hE.1.1
  have hinX3 : ∀ w ∈ u_ws RX3 TX3 14, w ∈ wsX3_fresh := by decide +kernel
  obtain ⟨i_now, i_n, i_tk, i_k, i_lt, i_row, i_cp, i_srv⟩ := id hI
  have hl := lv_entry ([.ref m0, .int (eN o), .int (nI t)]) (n := 4) (Nat.le_of_ble_eq_true rfl)
  rw [lg_entry_eq]
  generalize (lg_sl ([.ref m0, .int (eN o), .int (nI t)]) ++ List.replicate (4 - (lg_sl ([.ref m0, .int (eN o), .int (nI t)])).length) Slot.unset).toArray = ls at hl ⊢
  have hl : lv_has ls 4 [(0, .ref m0), (1, .int (eN o)), (2, .int (nI t))] := hl
  refine lv_iload_n hx hb dX3_fresh_0 rfl (lv_at hl 1 rfl) ?_
  refine lv_iconst (v := (-1)) hx hb dX3_fresh_1 (by decide +kernel) ?_
  refine nv_eqNone (tgt := 34) hx hb dX3_fresh_2 (by decide) (by omega) (fun c_2 => ?_) (fun c_2 => ?_)
  · refine lv_iconst (v := nI 0) hx hb dX3_fresh_34 (by decide +kernel) ?_
    refine lv_istore_n (lv' := [(3, .int (nI 0)), (0, .ref m0), (1, .int (eN o)), (2, .int (nI t))]) hx hb dX3_fresh_35 rfl hl (by decide) rfl (fun ls hl => ?_)
    refine lv_iload_n hx hb dX3_fresh_36 rfl (lv_at hl 0 rfl) ?_
    refine nv_if_eq (tgt := 44) hx hb dX3_fresh_37 (by decide) (by decide) (fun c_37 => ?_) (fun c_37 => absurd c_37 (by decide))
    refine lv_iconst (v := (-1)) hx hb dX3_fresh_44 (by decide +kernel) ?_
    exact W.iret (v := ((-1))) hx hb hr (fun u9 hu9 hW => ⟨((-1)), rfl, (by simp only [q_fr, if_pos c_2]; rfl), hu9⟩) (fun q h => absurd h List.not_mem_nil) dX3_fresh_45
  · have hz_o : o - 1 < s_n σ := by omega
    have hl : lv_has ls 4 [(0, .ref m0), (1, .int (nI (o - 1))), (2, .int (nI t))] := by rw [← eN_pos c_2]; exact hl
    obtain ⟨hz_1, hz_2, hz_3, hz_4⟩ := i_row (o - 1) hz_o
    have hz_5 := i_lt (s_pr σ (o - 1) / 10) (by omega)
    refine lv_aload_n hx hb dX3_fresh_5 rfl (lv_at hl 0 rfl) ?_
    refine va_get (D := dD) (ci := 3) (v := .ref (a 2)) (C := RX3) (T := TX3) (N := 14) hx hb hts hinX3 hown hK hP 0 rfl rfl 5 (by decide) (hts (.fieldLink RX3 16 "FeatureStoreModel" "event" "[I") (by decide +kernel)) (fun _ h9 => h9) rfl dX3_fresh_6 ?_
    refine lv_iload_n hx hb dX3_fresh_9 rfl (lv_at hl 1 rfl) ?_
    refine nv_iald (q0 := 3) (t0 := 0) (s_ev σ) hx hb hK hP rfl rfl (by omega) (by decide) dX3_fresh_10 ?_
    refine lv_iload_n hx hb dX3_fresh_11 rfl (lv_at hl 2 rfl) ?_
    refine lv_aload_n hx hb dX3_fresh_12 rfl (lv_at hl 0 rfl) ?_
    refine va_get (D := dD) (ci := 3) (v := .ref (a 0)) (C := RX3) (T := TX3) (N := 14) hx hb hts hinX3 hown hK hP 0 rfl rfl 2 (by decide) (hts (.fieldLink RX3 7 "FeatureStoreModel" "lifetime" "[I") (by decide +kernel)) (fun _ h9 => h9) rfl dX3_fresh_13 ?_
    refine lv_aload_n hx hb dX3_fresh_16 rfl (lv_at hl 0 rfl) ?_
    refine va_get (D := dD) (ci := 3) (v := .ref (a 1)) (C := RX3) (T := TX3) (N := 14) hx hb hts hinX3 hown hK hP 0 rfl rfl 4 (by decide) (hts (.fieldLink RX3 13 "FeatureStoreModel" "pair" "[I") (by decide +kernel)) (fun _ h9 => h9) rfl dX3_fresh_17 ?_
    refine lv_iload_n hx hb dX3_fresh_20 rfl (lv_at hl 1 rfl) ?_
    refine nv_iald (q0 := 2) (t0 := 0) (s_pr σ) hx hb hK hP rfl rfl (by omega) (by decide) dX3_fresh_21 ?_
    refine lv_bipush (v := nI 10) hx hb dX3_fresh_22 (by decide +kernel) ?_
    refine nv_idiv hx hb dX3_fresh_24 (by omega) (by omega) (by omega) ?_
    refine nv_iald (q0 := 1) (t0 := 0) (s_lt σ) hx hb hK hP rfl rfl (by omega) (by decide) dX3_fresh_25 ?_
    refine lv_isub hx hb dX3_fresh_26 ?_
    refine lv_icmp_lt (tgt := 34) hx hb dX3_fresh_27 (by decide) (fun c_27 => ?_) (fun c_27 => ?_)
    · refine lv_iconst (v := nI 0) hx hb dX3_fresh_34 (by decide +kernel) ?_
      refine lv_istore_n (lv' := [(3, .int (nI 0)), (0, .ref m0), (1, .int (nI (o - 1))), (2, .int (nI t))]) hx hb dX3_fresh_35 rfl hl (by decide) rfl (fun ls hl => ?_)
      refine lv_iload_n hx hb dX3_fresh_36 rfl (lv_at hl 0 rfl) ?_
      refine nv_if_eq (tgt := 44) hx hb dX3_fresh_37 (by decide) (by decide) (fun c_37 => ?_) (fun c_37 => absurd c_37 (by decide))
      refine lv_iconst (v := (-1)) hx hb dX3_fresh_44 (by decide +kernel) ?_
      exact W.iret (v := ((-1))) hx hb hr (fun u9 hu9 hW => ⟨((-1)), rfl, (by have h9 : ¬ t ≤ s_ev σ (o - 1) + s_lt σ (s_pr σ (o - 1) / 10) := fun z => absurd c_27 (Int32.not_lt.mpr ((fr_cmp (by omega) (by omega) (by omega)).mpr z)); simp only [q_fr, if_neg c_2, if_neg h9]; rfl), hu9⟩) (fun q h => absurd h List.not_mem_nil) dX3_fresh_45
    · refine lv_iconst (v := nI 1) hx hb dX3_fresh_30 (by decide +kernel) ?_
      refine lv_goto (tgt := 35) hx hb dX3_fresh_31 (by decide) ?_
      refine lv_istore_n (lv' := [(3, .int (nI 1)), (0, .ref m0), (1, .int (nI (o - 1))), (2, .int (nI t))]) hx hb dX3_fresh_35 rfl hl (by decide) rfl (fun ls hl => ?_)
      refine lv_iload_n hx hb dX3_fresh_36 rfl (lv_at hl 0 rfl) ?_
      refine nv_if_eq (tgt := 44) hx hb dX3_fresh_37 (by decide) (by decide) (fun c_37 => absurd c_37 (by decide)) (fun c_37 => ?_)
      refine lv_iload_n hx hb dX3_fresh_40 rfl (lv_at hl 2 rfl) ?_
      refine lv_goto (tgt := 45) hx hb dX3_fresh_41 (by decide) ?_
      exact W.iret (v := nI (o - 1)) hx hb hr (fun u9 hu9 hW => ⟨nI (o - 1), rfl, (by have h9 := (fr_cmp (by omega) (by omega) (by omega)).mp (Int32.not_lt.mp c_27); rw [← eN_pos c_2]; simp only [q_fr, if_neg c_2, if_pos h9]), hu9⟩) (fun q h => absurd h List.not_mem_nil) dX3_fresh_45

theorem q_best_le (σ : St) (q t k : Nat) : ∀ r : Nat, q_best σ q t k r ≤ r
  | 0 => Nat.le_refl _
  | r + 1 => by
    have h := q_best_le σ q t k r
    simp only [q_best]
    split <;> omega

set_option maxHeartbeats 4000000 in
set_option maxRecDepth 100000 in
theorem c_X3_joins (l : Launch) (dD : va_G) (cI cR cS : ClassId) (lo : Nat) (m0 : Nat) (a : Nat → Nat) (th : Nat) (σ : St) (hI : sI σ) (q t k : Nat) (hq : q < 60) (ht : t ≤ 20000) (hk : k ≤ 20000) : Met l yX3_joins wsX3_joins ({ frames := 1, cells := 0, slots := 0, locals := 23 }) (ePc dD cI cR cS lo [.ref m0, .int (nI q), .int (nI t), .int (nI k)] (fun H => va_P dD vwCl (mW cI m0 a th σ) H)) (vp_Si (fun r => r = eN (q_join σ q t k))) 0 0 (fun _ => False) := by
  refine Met.ofW (cc := cX3_joins) (maxL := 7) (ret := (some .int)) (by decide) rfl ?_
  intro p e_ s m args below meth c s₁ B hml hv
  obtain ⟨rfl, hE, hP⟩ := hv
  have hx := B.exec
  have hb := B.bytes
  have hr := B.returns
  have hts := atoms_spec (ws := wsX3_joins) B.pre
  have hown : s.vm.findClass RX3 = some m.cls := findClass_of_methodNamed B.named
  have hlocks := B.notSynchronized
  have hK := hE.1.1
  have hinX3 : ∀ w ∈ u_ws RX3 TX3 14, w ∈ wsX3_joins := by decide +kernel
  obtain ⟨i_now, i_n, i_tk, i_k, i_lt, i_row, i_cp, i_srv⟩ := id hI
  have hl := lv_entry ([.ref m0, .int (nI q), .int (nI t), .int (nI k)]) (n := 7) (Nat.le_of_ble_eq_true rfl)
  rw [lg_entry_eq]
  generalize (lg_sl ([.ref m0, .int (nI q), .int (nI t), .int (nI k)]) ++ List.replicate (7 - (lg_sl ([.ref m0, .int (nI q), .int (nI t), .int (nI k)])).length) Slot.unset).toArray = ls at hl ⊢
  have hl : lv_has ls 7 [(0, .ref m0), (1, .int (nI q)), (2, .int (nI t)), (3, .int (nI k))] := hl
  refine lv_iconst (v := (-1)) hx hb dX3_joins_0 (by decide +kernel) ?_
  refine lv_istore (lv' := [(4, .int ((-1))), (0, .ref m0), (1, .int (nI q)), (2, .int (nI t)), (3, .int (nI k))]) hx hb dX3_joins_1 hl (by decide) rfl (fun ls hl => ?_)
  refine lv_iconst (v := nI 0) hx hb dX3_joins_3 (by decide +kernel) ?_
  refine lv_istore (lv' := [(5, .int (nI 0)), (4, .int ((-1))), (0, .ref m0), (1, .int (nI q)), (2, .int (nI t)), (3, .int (nI k))]) hx hb dX3_joins_4 hl (by decide) rfl (fun ls hl => ?_)
  have hlp : ∀ (d : Nat) (r : Nat), r ≤ s_n σ → s_n σ < r + d → ∀ (ls : Array Slot), lv_has ls 7 [(0, .ref m0), (1, .int (nI q)), (2, .int (nI t)), (3, .int (nI k)), (4, .int (eN (q_best σ q t k r))), (5, .int (nI r))] → W p l e_ (headSpec wsX3_joins ({ frames := 1, cells := 0, slots := 0, locals := 23 })).room s m (([.ref m0, .int (nI q), .int (nI t), .int (nI k)] : List Value).toArray) below meth c s.heap [] 0 0 (MQ below (vp_Si (fun r => r = eN (q_join σ q t k))) ([.ref m0, .int (nI q), .int (nI t), .int (nI k)] : List Value).toArray s 0 0 (fun _ => False)) (F0 m 6 ls []) := by
    intro d
    induction d with
    | zero =>
      intro r hr1 hr2 ls hl
      exact absurd hr2 (by omega)
    | succ d ih =>
      intro r hr1 hr2 ls hl
      refine lv_iload hx hb dX3_joins_6 (lv_at hl 5 rfl) ?_
      refine lv_aload_n hx hb dX3_joins_8 rfl (lv_at hl 0 rfl) ?_
      refine va_get (D := dD) (ci := 3) (v := .int (nI (s_n σ))) (C := RX3) (T := TX3) (N := 14) hx hb hts hinX3 hown hK hP 0 rfl rfl 3 (by decide) (hts (.fieldLink RX3 53 "FeatureStoreModel" "rows" "I") (by decide +kernel)) (fun _ h9 => h9) rfl dX3_joins_9 ?_
      refine nv_ge (tgt := 98) hx hb dX3_joins_12 (by decide) (by omega) (by omega) (fun c_12 => ?_) (fun c_12 => ?_)
      · have hre : r = s_n σ := by omega
        subst hre
        have hl : lv_has ls 7 [(0, .ref m0), (1, .int (nI q)), (2, .int (nI t)), (3, .int (nI k)), (4, .int (eN (q_best σ q t k (s_n σ))))] := lv_sub hl [0, 1, 2, 3, 4] rfl
        refine lv_aload_n hx hb dX3_joins_98 rfl (lv_at hl 0 rfl) ?_
        refine lv_iload hx hb dX3_joins_99 (lv_at hl 4 rfl) ?_
        refine lv_iload_n hx hb dX3_joins_101 rfl (lv_at hl 2 rfl) ?_
        refine vp_callSi (va_Run.run (va_runV (As := [.int (eN (q_best σ q t k (s_n σ))), .int (nI t)]) (rest := []) ⟨hx, hb, hml, hown, hts⟩ (c_X3_fresh l dD cI cR cS lo m0 a th σ hI (q_best σ q t k (s_n σ)) t (q_best_le σ q t k _) (by omega)) (cwV 2 hts gX3_joins_X3_fresh rfl rfl rfl (by decide +kernel) ⟨Nat.le_of_ble_eq_true rfl, Nat.le_of_ble_eq_true rfl⟩) (ePreV hE va_S.rf hP (k := 0) rfl rfl hP) rfl rfl hl.1 rfl (lv_room (Nat.le_of_ble_eq_true rfl)) dX3_joins_102 ⟨Nat.le_of_ble_eq_true rfl, Nat.le_of_ble_eq_true rfl⟩)) (fun r_102 hr_102 => ?_)
        subst hr_102
        exact W.iret (v := eN (q_fr σ (q_best σ q t k (s_n σ)) t)) hx hb hr (fun u9 hu9 hW => ⟨eN (q_fr σ (q_best σ q t k (s_n σ)) t), rfl, rfl, hu9⟩) (fun q h => absurd h List.not_mem_nil) dX3_joins_105
      · have hz_r : r < s_n σ := by omega
        obtain ⟨hz_1, hz_2, hz_3, hz_4⟩ := i_row r hz_r
        have hz_b := q_best_le σ q t k r
        refine lv_aload_n hx hb dX3_joins_15 rfl (lv_at hl 0 rfl) ?_
        refine va_get (D := dD) (ci := 3) (v := .ref (a 1)) (C := RX3) (T := TX3) (N := 14) hx hb hts hinX3 hown hK hP 0 rfl rfl 4 (by decide) (hts (.fieldLink RX3 13 "FeatureStoreModel" "pair" "[I") (by decide +kernel)) (fun _ h9 => h9) rfl dX3_joins_16 ?_
        refine lv_iload hx hb dX3_joins_19 (lv_at hl 5 rfl) ?_
        refine nv_iald (q0 := 2) (t0 := 0) (s_pr σ) hx hb hK hP rfl rfl (by omega) (by decide) dX3_joins_21 ?_
        refine lv_iload_n hx hb dX3_joins_22 rfl (lv_at hl 1 rfl) ?_
        refine nv_ne (tgt := 52) hx hb dX3_joins_23 (by decide) (by omega) (by omega) (fun c_23 => ?_) (fun c_23 => ?_)
        · refine lv_iconst (v := nI 0) hx hb dX3_joins_52 (by decide +kernel) ?_
          refine lv_istore (lv' := [(6, .int (nI 0)), (0, .ref m0), (1, .int (nI q)), (2, .int (nI t)), (3, .int (nI k)), (4, .int (eN (q_best σ q t k r))), (5, .int (nI r))]) hx hb dX3_joins_53 hl (by decide) rfl (fun ls hl => ?_)
          refine lv_iload hx hb dX3_joins_55 (lv_at hl 0 rfl) ?_
          refine nv_if_eq (tgt := 88) hx hb dX3_joins_57 (by decide) (by decide) (fun c_57 => ?_) (fun c_57 => absurd c_57 (by decide))
          refine lv_iload hx hb dX3_joins_88 (lv_at hl 5 rfl) ?_
          refine lv_istore (lv' := [(4, .int (eN (q_best σ q t k r))), (6, .int (nI 0)), (0, .ref m0), (1, .int (nI q)), (2, .int (nI t)), (3, .int (nI k)), (5, .int (nI r))]) hx hb dX3_joins_90 hl (by decide) rfl (fun ls hl => ?_)
          refine lv_iinc (v := nI (r + 1)) (lv' := [(5, .int (nI (r + 1))), (4, .int (eN (q_best σ q t k r))), (6, .int (nI 0)), (0, .ref m0), (1, .int (nI q)), (2, .int (nI t)), (3, .int (nI k))]) hx hb dX3_joins_92 hl (k := 6) rfl (nv_inc _ 1) (by decide) rfl (fun ls hl => ?_)
          refine lv_goto (tgt := 6) hx hb dX3_joins_95 (by decide) ?_
          exact ih (r + 1) (by omega) (by omega) ls (by rw [show q_best σ q t k (r + 1) = q_best σ q t k r from by simp only [q_best]; split <;> omega]; exact lv_sub hl [3, 4, 5, 6, 1, 0] rfl)
        · refine lv_aload_n hx hb dX3_joins_26 rfl (lv_at hl 0 rfl) ?_
          refine va_get (D := dD) (ci := 3) (v := .ref (a 2)) (C := RX3) (T := TX3) (N := 14) hx hb hts hinX3 hown hK hP 0 rfl rfl 5 (by decide) (hts (.fieldLink RX3 16 "FeatureStoreModel" "event" "[I") (by decide +kernel)) (fun _ h9 => h9) rfl dX3_joins_27 ?_
          refine lv_iload hx hb dX3_joins_30 (lv_at hl 5 rfl) ?_
          refine nv_iald (q0 := 3) (t0 := 0) (s_ev σ) hx hb hK hP rfl rfl (by omega) (by decide) dX3_joins_32 ?_
          refine lv_iload_n hx hb dX3_joins_33 rfl (lv_at hl 2 rfl) ?_
          refine nv_gt (tgt := 52) hx hb dX3_joins_34 (by decide) (by omega) (by omega) (fun c_34 => ?_) (fun c_34 => ?_)
          · refine lv_iconst (v := nI 0) hx hb dX3_joins_52 (by decide +kernel) ?_
            refine lv_istore (lv' := [(6, .int (nI 0)), (0, .ref m0), (1, .int (nI q)), (2, .int (nI t)), (3, .int (nI k)), (4, .int (eN (q_best σ q t k r))), (5, .int (nI r))]) hx hb dX3_joins_53 hl (by decide) rfl (fun ls hl => ?_)
            refine lv_iload hx hb dX3_joins_55 (lv_at hl 0 rfl) ?_
            refine nv_if_eq (tgt := 88) hx hb dX3_joins_57 (by decide) (by decide) (fun c_57 => ?_) (fun c_57 => absurd c_57 (by decide))
            refine lv_iload hx hb dX3_joins_88 (lv_at hl 5 rfl) ?_
            refine lv_istore (lv' := [(4, .int (eN (q_best σ q t k r))), (6, .int (nI 0)), (0, .ref m0), (1, .int (nI q)), (2, .int (nI t)), (3, .int (nI k)), (5, .int (nI r))]) hx hb dX3_joins_90 hl (by decide) rfl (fun ls hl => ?_)
            refine lv_iinc (v := nI (r + 1)) (lv' := [(5, .int (nI (r + 1))), (4, .int (eN (q_best σ q t k r))), (6, .int (nI 0)), (0, .ref m0), (1, .int (nI q)), (2, .int (nI t)), (3, .int (nI k))]) hx hb dX3_joins_92 hl (k := 6) rfl (nv_inc _ 1) (by decide) rfl (fun ls hl => ?_)
            refine lv_goto (tgt := 6) hx hb dX3_joins_95 (by decide) ?_
            exact ih (r + 1) (by omega) (by omega) ls (by rw [show q_best σ q t k (r + 1) = q_best σ q t k r from by simp only [q_best]; split <;> omega]; exact lv_sub hl [3, 4, 5, 6, 1, 0] rfl)
          · refine lv_aload_n hx hb dX3_joins_37 rfl (lv_at hl 0 rfl) ?_
            refine va_get (D := dD) (ci := 3) (v := .ref (a 3)) (C := RX3) (T := TX3) (N := 14) hx hb hts hinX3 hown hK hP 0 rfl rfl 6 (by decide) (hts (.fieldLink RX3 19 "FeatureStoreModel" "arrival" "[I") (by decide +kernel)) (fun _ h9 => h9) rfl dX3_joins_38 ?_
            refine lv_iload hx hb dX3_joins_41 (lv_at hl 5 rfl) ?_
            refine nv_iald (q0 := 4) (t0 := 0) (s_ar σ) hx hb hK hP rfl rfl (by omega) (by decide) dX3_joins_43 ?_
            refine lv_iload_n hx hb dX3_joins_44 rfl (lv_at hl 3 rfl) ?_
            refine nv_gt (tgt := 52) hx hb dX3_joins_45 (by decide) (by omega) (by omega) (fun c_45 => ?_) (fun c_45 => ?_)
            · refine lv_iconst (v := nI 0) hx hb dX3_joins_52 (by decide +kernel) ?_
              refine lv_istore (lv' := [(6, .int (nI 0)), (0, .ref m0), (1, .int (nI q)), (2, .int (nI t)), (3, .int (nI k)), (4, .int (eN (q_best σ q t k r))), (5, .int (nI r))]) hx hb dX3_joins_53 hl (by decide) rfl (fun ls hl => ?_)
              refine lv_iload hx hb dX3_joins_55 (lv_at hl 0 rfl) ?_
              refine nv_if_eq (tgt := 88) hx hb dX3_joins_57 (by decide) (by decide) (fun c_57 => ?_) (fun c_57 => absurd c_57 (by decide))
              refine lv_iload hx hb dX3_joins_88 (lv_at hl 5 rfl) ?_
              refine lv_istore (lv' := [(4, .int (eN (q_best σ q t k r))), (6, .int (nI 0)), (0, .ref m0), (1, .int (nI q)), (2, .int (nI t)), (3, .int (nI k)), (5, .int (nI r))]) hx hb dX3_joins_90 hl (by decide) rfl (fun ls hl => ?_)
              refine lv_iinc (v := nI (r + 1)) (lv' := [(5, .int (nI (r + 1))), (4, .int (eN (q_best σ q t k r))), (6, .int (nI 0)), (0, .ref m0), (1, .int (nI q)), (2, .int (nI t)), (3, .int (nI k))]) hx hb dX3_joins_92 hl (k := 6) rfl (nv_inc _ 1) (by decide) rfl (fun ls hl => ?_)
              refine lv_goto (tgt := 6) hx hb dX3_joins_95 (by decide) ?_
              exact ih (r + 1) (by omega) (by omega) ls (by rw [show q_best σ q t k (r + 1) = q_best σ q t k r from by simp only [q_best]; split <;> omega]; exact lv_sub hl [3, 4, 5, 6, 1, 0] rfl)
            · refine lv_iconst (v := nI 1) hx hb dX3_joins_48 (by decide +kernel) ?_
              refine lv_goto (tgt := 53) hx hb dX3_joins_49 (by decide) ?_
              refine lv_istore (lv' := [(6, .int (nI 1)), (0, .ref m0), (1, .int (nI q)), (2, .int (nI t)), (3, .int (nI k)), (4, .int (eN (q_best σ q t k r))), (5, .int (nI r))]) hx hb dX3_joins_53 hl (by decide) rfl (fun ls hl => ?_)
              refine lv_iload hx hb dX3_joins_55 (lv_at hl 0 rfl) ?_
              refine nv_if_eq (tgt := 88) hx hb dX3_joins_57 (by decide) (by decide) (fun c_57 => absurd c_57 (by decide)) (fun c_57 => ?_)
              refine lv_iload hx hb dX3_joins_60 (lv_at hl 5 rfl) ?_
              refine lv_iconst (v := (-1)) hx hb dX3_joins_62 (by decide +kernel) ?_
              refine nv_eqNone (tgt := 83) hx hb dX3_joins_63 (by decide) (by omega) (fun c_63 => ?_) (fun c_63 => ?_)
              · refine lv_iload hx hb dX3_joins_83 (lv_at hl 6 rfl) ?_
                refine lv_goto (tgt := 90) hx hb dX3_joins_85 (by decide) ?_
                refine lv_istore (lv' := [(4, .int (nI r)), (6, .int (nI 1)), (0, .ref m0), (1, .int (nI q)), (2, .int (nI t)), (3, .int (nI k)), (5, .int (nI r))]) hx hb dX3_joins_90 hl (by decide) rfl (fun ls hl => ?_)
                refine lv_iinc (v := nI (r + 1)) (lv' := [(5, .int (nI (r + 1))), (4, .int (nI r)), (6, .int (nI 1)), (0, .ref m0), (1, .int (nI q)), (2, .int (nI t)), (3, .int (nI k))]) hx hb dX3_joins_92 hl (k := 6) rfl (nv_inc _ 1) (by decide) rfl (fun ls hl => ?_)
                refine lv_goto (tgt := 6) hx hb dX3_joins_95 (by decide) ?_
                exact ih (r + 1) (by omega) (by omega) ls (by rw [show q_best σ q t k (r + 1) = r + 1 from by simp only [q_best]; split <;> omega]; exact lv_sub hl [3, 4, 5, 6, 1, 0] rfl)
              · have hl : lv_has ls 7 [(6, .int (nI 1)), (0, .ref m0), (1, .int (nI q)), (2, .int (nI t)), (3, .int (nI k)), (4, .int (nI (q_best σ q t k r - 1))), (5, .int (nI r))] := by rw [← eN_pos c_63]; exact hl
                obtain ⟨hy_1, hy_2, hy_3, hy_4⟩ := i_row (q_best σ q t k r - 1) (by omega)
                refine lv_aload_n hx hb dX3_joins_66 rfl (lv_at hl 1 rfl) ?_
                refine va_get (D := dD) (ci := 3) (v := .ref (a 2)) (C := RX3) (T := TX3) (N := 14) hx hb hts hinX3 hown hK hP 0 rfl rfl 5 (by decide) (hts (.fieldLink RX3 16 "FeatureStoreModel" "event" "[I") (by decide +kernel)) (fun _ h9 => h9) rfl dX3_joins_67 ?_
                refine lv_iload hx hb dX3_joins_70 (lv_at hl 6 rfl) ?_
                refine nv_iald (q0 := 3) (t0 := 0) (s_ev σ) hx hb hK hP rfl rfl (by omega) (by decide) dX3_joins_72 ?_
                refine lv_aload_n hx hb dX3_joins_73 rfl (lv_at hl 1 rfl) ?_
                refine va_get (D := dD) (ci := 3) (v := .ref (a 2)) (C := RX3) (T := TX3) (N := 14) hx hb hts hinX3 hown hK hP 0 rfl rfl 5 (by decide) (hts (.fieldLink RX3 16 "FeatureStoreModel" "event" "[I") (by decide +kernel)) (fun _ h9 => h9) rfl dX3_joins_74 ?_
                refine lv_iload hx hb dX3_joins_77 (lv_at hl 5 rfl) ?_
                refine nv_iald (q0 := 3) (t0 := 0) (s_ev σ) hx hb hK hP rfl rfl (by omega) (by decide) dX3_joins_79 ?_
                refine nv_lt (tgt := 88) hx hb dX3_joins_80 (by decide) (by omega) (by omega) (fun c_80 => ?_) (fun c_80 => ?_)
                · refine lv_iload hx hb dX3_joins_88 (lv_at hl 5 rfl) ?_
                  refine lv_istore (lv' := [(4, .int (nI (q_best σ q t k r - 1))), (6, .int (nI 1)), (0, .ref m0), (1, .int (nI q)), (2, .int (nI t)), (3, .int (nI k)), (5, .int (nI r))]) hx hb dX3_joins_90 hl (by decide) rfl (fun ls hl => ?_)
                  refine lv_iinc (v := nI (r + 1)) (lv' := [(5, .int (nI (r + 1))), (4, .int (nI (q_best σ q t k r - 1))), (6, .int (nI 1)), (0, .ref m0), (1, .int (nI q)), (2, .int (nI t)), (3, .int (nI k))]) hx hb dX3_joins_92 hl (k := 6) rfl (nv_inc _ 1) (by decide) rfl (fun ls hl => ?_)
                  refine lv_goto (tgt := 6) hx hb dX3_joins_95 (by decide) ?_
                  exact ih (r + 1) (by omega) (by omega) ls (by rw [show q_best σ q t k (r + 1) = q_best σ q t k r from by simp only [q_best]; split <;> omega, eN_pos c_63]; exact lv_sub hl [3, 4, 5, 6, 1, 0] rfl)
                · refine lv_iload hx hb dX3_joins_83 (lv_at hl 6 rfl) ?_
                  refine lv_goto (tgt := 90) hx hb dX3_joins_85 (by decide) ?_
                  refine lv_istore (lv' := [(4, .int (nI r)), (6, .int (nI 1)), (0, .ref m0), (1, .int (nI q)), (2, .int (nI t)), (3, .int (nI k)), (5, .int (nI r))]) hx hb dX3_joins_90 hl (by decide) rfl (fun ls hl => ?_)
                  refine lv_iinc (v := nI (r + 1)) (lv' := [(5, .int (nI (r + 1))), (4, .int (nI r)), (6, .int (nI 1)), (0, .ref m0), (1, .int (nI q)), (2, .int (nI t)), (3, .int (nI k))]) hx hb dX3_joins_92 hl (k := 6) rfl (nv_inc _ 1) (by decide) rfl (fun ls hl => ?_)
                  refine lv_goto (tgt := 6) hx hb dX3_joins_95 (by decide) ?_
                  exact ih (r + 1) (by omega) (by omega) ls (by rw [show q_best σ q t k (r + 1) = r + 1 from by simp only [q_best]; split <;> omega]; exact lv_sub hl [3, 4, 5, 6, 1, 0] rfl)
  exact hlp (s_n σ + 1) 0 (Nat.zero_le _) (by omega) ls (lv_sub hl [2, 3, 4, 5, 1, 0] rfl)

set_option maxHeartbeats 4000000 in
set_option maxRecDepth 100000 in
theorem c_X3_sums (l : Launch) (dD : va_G) (cI cR cS : ClassId) (lo : Nat) (m0 : Nat) (a : Nat → Nat) (th : Nat) (σ : St) (hI : sI σ) (q x y : Nat) (hq : q < 60) (hx_ : x ≤ 20000) (hy_ : y ≤ 30000) : Met l yX3_sums wsX3_sums ({ frames := 1, cells := 0, slots := 0, locals := 22 }) (ePc dD cI cR cS lo [.ref m0, .int (nI q), .int (nI x), .int (nI y)] (fun H => va_P dD vwCl (mW cI m0 a th σ) H)) (vp_Si (fun r => r = nI (q_sum σ q x y (s_n σ)))) 0 0 (fun _ => False) := by
  refine Met.ofW (cc := cX3_sums) (maxL := 6) (ret := (some .int)) (by decide) rfl ?_
  intro p e_ s m args below meth c s₁ B hml hv
  obtain ⟨rfl, hE, hP⟩ := hv
  have hx := B.exec
  have hb := B.bytes
  have hr := B.returns
  have hts := atoms_spec (ws := wsX3_sums) B.pre
  have hown : s.vm.findClass RX3 = some m.cls := findClass_of_methodNamed B.named
  have hlocks := B.notSynchronized
  have hK := hE.1.1
  have hinX3 : ∀ w ∈ u_ws RX3 TX3 14, w ∈ wsX3_sums := by decide +kernel
  obtain ⟨i_now, i_n, i_tk, i_k, i_lt, i_row, i_cp, i_srv⟩ := id hI
  have hl := lv_entry ([.ref m0, .int (nI q), .int (nI x), .int (nI y)]) (n := 6) (Nat.le_of_ble_eq_true rfl)
  rw [lg_entry_eq]
  generalize (lg_sl ([.ref m0, .int (nI q), .int (nI x), .int (nI y)]) ++ List.replicate (6 - (lg_sl ([.ref m0, .int (nI q), .int (nI x), .int (nI y)])).length) Slot.unset).toArray = ls at hl ⊢
  have hl : lv_has ls 6 [(0, .ref m0), (1, .int (nI q)), (2, .int (nI x)), (3, .int (nI y))] := hl
  refine lv_iconst (v := nI 0) hx hb dX3_sums_0 (by decide +kernel) ?_
  refine lv_istore (lv' := [(4, .int (nI 0)), (0, .ref m0), (1, .int (nI q)), (2, .int (nI x)), (3, .int (nI y))]) hx hb dX3_sums_1 hl (by decide) rfl (fun ls hl => ?_)
  refine lv_iconst (v := nI 0) hx hb dX3_sums_3 (by decide +kernel) ?_
  refine lv_istore (lv' := [(5, .int (nI 0)), (4, .int (nI 0)), (0, .ref m0), (1, .int (nI q)), (2, .int (nI x)), (3, .int (nI y))]) hx hb dX3_sums_4 hl (by decide) rfl (fun ls hl => ?_)
  have hlp : ∀ (d : Nat) (r : Nat), r ≤ s_n σ → s_n σ < r + d → ∀ (ls : Array Slot), lv_has ls 6 [(0, .ref m0), (1, .int (nI q)), (2, .int (nI x)), (3, .int (nI y)), (4, .int (nI (q_sum σ q x y r))), (5, .int (nI r))] → W p l e_ (headSpec wsX3_sums ({ frames := 1, cells := 0, slots := 0, locals := 22 })).room s m (([.ref m0, .int (nI q), .int (nI x), .int (nI y)] : List Value).toArray) below meth c s.heap [] 0 0 (MQ below (vp_Si (fun r => r = nI (q_sum σ q x y (s_n σ)))) ([.ref m0, .int (nI q), .int (nI x), .int (nI y)] : List Value).toArray s 0 0 (fun _ => False)) (F0 m 6 ls []) := by
    intro d
    induction d with
    | zero =>
      intro r hr1 hr2 ls hl
      exact absurd hr2 (by omega)
    | succ d ih =>
      intro r hr1 hr2 ls hl
      refine lv_iload hx hb dX3_sums_6 (lv_at hl 5 rfl) ?_
      refine lv_aload_n hx hb dX3_sums_8 rfl (lv_at hl 0 rfl) ?_
      refine va_get (D := dD) (ci := 3) (v := .int (nI (s_n σ))) (C := RX3) (T := TX3) (N := 14) hx hb hts hinX3 hown hK hP 0 rfl rfl 3 (by decide) (hts (.fieldLink RX3 53 "FeatureStoreModel" "rows" "I") (by decide +kernel)) (fun _ h9 => h9) rfl dX3_sums_9 ?_
      refine nv_ge (tgt := 63) hx hb dX3_sums_12 (by decide) (by omega) (by omega) (fun c_12 => ?_) (fun c_12 => ?_)
      · have hre : r = s_n σ := by omega
        subst hre
        have hl : lv_has ls 6 [(0, .ref m0), (1, .int (nI q)), (2, .int (nI x)), (3, .int (nI y)), (4, .int (nI (q_sum σ q x y (s_n σ))))] := lv_sub hl [0, 1, 2, 3, 4] rfl
        refine lv_iload hx hb dX3_sums_63 (lv_at hl 4 rfl) ?_
        exact W.iret (v := nI (q_sum σ q x y (s_n σ))) hx hb hr (fun u9 hu9 hW => ⟨nI (q_sum σ q x y (s_n σ)), rfl, rfl, hu9⟩) (fun q h => absurd h List.not_mem_nil) dX3_sums_65
      · have hz_r : r < s_n σ := by omega
        obtain ⟨hz_1, hz_2, hz_3, hz_4⟩ := i_row r hz_r
        refine lv_iload hx hb dX3_sums_15 (lv_at hl 4 rfl) ?_
        refine lv_aload_n hx hb dX3_sums_17 rfl (lv_at hl 0 rfl) ?_
        refine va_get (D := dD) (ci := 3) (v := .ref (a 1)) (C := RX3) (T := TX3) (N := 14) hx hb hts hinX3 hown hK hP 0 rfl rfl 4 (by decide) (hts (.fieldLink RX3 13 "FeatureStoreModel" "pair" "[I") (by decide +kernel)) (fun _ h9 => h9) rfl dX3_sums_18 ?_
        refine lv_iload hx hb dX3_sums_21 (lv_at hl 5 rfl) ?_
        refine nv_iald (q0 := 2) (t0 := 0) (s_pr σ) hx hb hK hP rfl rfl (by omega) (by decide) dX3_sums_23 ?_
        refine lv_iload_n hx hb dX3_sums_24 rfl (lv_at hl 1 rfl) ?_
        refine nv_ne (tgt := 53) hx hb dX3_sums_25 (by decide) (by omega) (by omega) (fun c_25 => ?_) (fun c_25 => ?_)
        · refine lv_iconst (v := nI 0) hx hb dX3_sums_53 (by decide +kernel) ?_
          refine nv_iadd hx hb dX3_sums_54 ?_
          refine lv_istore (lv' := [(4, .int (nI ((q_sum σ q x y r) + 0))), (0, .ref m0), (1, .int (nI q)), (2, .int (nI x)), (3, .int (nI y)), (5, .int (nI r))]) hx hb dX3_sums_55 hl (by decide) rfl (fun ls hl => ?_)
          refine lv_iinc (v := nI (r + 1)) (lv' := [(5, .int (nI (r + 1))), (4, .int (nI ((q_sum σ q x y r) + 0))), (0, .ref m0), (1, .int (nI q)), (2, .int (nI x)), (3, .int (nI y))]) hx hb dX3_sums_57 hl (k := 5) rfl (nv_inc _ 1) (by decide) rfl (fun ls hl => ?_)
          refine lv_goto (tgt := 6) hx hb dX3_sums_60 (by decide) ?_
          exact ih (r + 1) (by omega) (by omega) ls (by rw [show q_sum σ q x y (r + 1) = (q_sum σ q x y r) + 0 from by simp only [q_sum]; split <;> omega]; exact lv_sub hl [2, 3, 4, 5, 1, 0] rfl)
        · refine lv_aload_n hx hb dX3_sums_28 rfl (lv_at hl 0 rfl) ?_
          refine va_get (D := dD) (ci := 3) (v := .ref (a 2)) (C := RX3) (T := TX3) (N := 14) hx hb hts hinX3 hown hK hP 0 rfl rfl 5 (by decide) (hts (.fieldLink RX3 16 "FeatureStoreModel" "event" "[I") (by decide +kernel)) (fun _ h9 => h9) rfl dX3_sums_29 ?_
          refine lv_iload hx hb dX3_sums_32 (lv_at hl 5 rfl) ?_
          refine nv_iald (q0 := 3) (t0 := 0) (s_ev σ) hx hb hK hP rfl rfl (by omega) (by decide) dX3_sums_34 ?_
          refine lv_iload_n hx hb dX3_sums_35 rfl (lv_at hl 2 rfl) ?_
          refine lv_iload_n hx hb dX3_sums_36 rfl (lv_at hl 3 rfl) ?_
          refine vp_callSi (va_Run.run (va_runS (As := [.int (nI (s_ev σ r)), .int (nI x), .int (nI y)]) (rest := [.int (nI (q_sum σ q x y r))]) ⟨hx, hb, hml, hown, hts⟩ (c_X3_in l dD cI cR cS lo (nI (s_ev σ r)) (nI x) (nI y)) (va_cwS 3 hts gX3_sums_X3_in rfl rfl rfl (by decide +kernel) ⟨Nat.le_of_ble_eq_true rfl, Nat.le_of_ble_eq_true rfl⟩) (ePreS hE va_S.rf trivial) rfl rfl hl.1 rfl (lv_room (Nat.le_of_ble_eq_true rfl)) dX3_sums_37 ⟨Nat.le_of_ble_eq_true rfl, Nat.le_of_ble_eq_true rfl⟩)) (fun r_37 hr_37 => ?_)
          rcases hr_37 with ⟨rfl, hr_37⟩ | ⟨rfl, hr_37⟩
          · rw [nI_leI (by omega) (by omega), nI_leI (by omega) (by omega)] at hr_37
            refine nv_if_eq (tgt := 53) hx hb dX3_sums_40 (by decide) (by decide) (fun c_40 => absurd c_40 (by decide)) (fun c_40 => ?_)
            refine lv_aload_n hx hb dX3_sums_43 rfl (lv_at hl 0 rfl) ?_
            refine va_get (D := dD) (ci := 3) (v := .ref (a 4)) (C := RX3) (T := TX3) (N := 14) hx hb hts hinX3 hown hK hP 0 rfl rfl 7 (by decide) (hts (.fieldLink RX3 22 "FeatureStoreModel" "value" "[I") (by decide +kernel)) (fun _ h9 => h9) rfl dX3_sums_44 ?_
            refine lv_iload hx hb dX3_sums_47 (lv_at hl 5 rfl) ?_
            refine nv_iald (q0 := 5) (t0 := 0) (s_vl σ) hx hb hK hP rfl rfl (by omega) (by decide) dX3_sums_49 ?_
            refine lv_goto (tgt := 54) hx hb dX3_sums_50 (by decide) ?_
            refine nv_iadd hx hb dX3_sums_54 ?_
            refine lv_istore (lv' := [(4, .int (nI ((q_sum σ q x y r) + (s_vl σ r)))), (0, .ref m0), (1, .int (nI q)), (2, .int (nI x)), (3, .int (nI y)), (5, .int (nI r))]) hx hb dX3_sums_55 hl (by decide) rfl (fun ls hl => ?_)
            refine lv_iinc (v := nI (r + 1)) (lv' := [(5, .int (nI (r + 1))), (4, .int (nI ((q_sum σ q x y r) + (s_vl σ r)))), (0, .ref m0), (1, .int (nI q)), (2, .int (nI x)), (3, .int (nI y))]) hx hb dX3_sums_57 hl (k := 5) rfl (nv_inc _ 1) (by decide) rfl (fun ls hl => ?_)
            refine lv_goto (tgt := 6) hx hb dX3_sums_60 (by decide) ?_
            exact ih (r + 1) (by omega) (by omega) ls (by rw [show q_sum σ q x y (r + 1) = (q_sum σ q x y r) + (s_vl σ r) from by simp only [q_sum]; split <;> omega]; exact lv_sub hl [2, 3, 4, 5, 1, 0] rfl)
          · rw [nI_leI (by omega) (by omega), nI_leI (by omega) (by omega)] at hr_37
            refine nv_if_eq (tgt := 53) hx hb dX3_sums_40 (by decide) (by decide) (fun c_40 => ?_) (fun c_40 => absurd c_40 (by decide))
            refine lv_iconst (v := nI 0) hx hb dX3_sums_53 (by decide +kernel) ?_
            refine nv_iadd hx hb dX3_sums_54 ?_
            refine lv_istore (lv' := [(4, .int (nI ((q_sum σ q x y r) + 0))), (0, .ref m0), (1, .int (nI q)), (2, .int (nI x)), (3, .int (nI y)), (5, .int (nI r))]) hx hb dX3_sums_55 hl (by decide) rfl (fun ls hl => ?_)
            refine lv_iinc (v := nI (r + 1)) (lv' := [(5, .int (nI (r + 1))), (4, .int (nI ((q_sum σ q x y r) + 0))), (0, .ref m0), (1, .int (nI q)), (2, .int (nI x)), (3, .int (nI y))]) hx hb dX3_sums_57 hl (k := 5) rfl (nv_inc _ 1) (by decide) rfl (fun ls hl => ?_)
            refine lv_goto (tgt := 6) hx hb dX3_sums_60 (by decide) ?_
            exact ih (r + 1) (by omega) (by omega) ls (by rw [show q_sum σ q x y (r + 1) = (q_sum σ q x y r) + 0 from by simp only [q_sum]; split <;> omega]; exact lv_sub hl [2, 3, 4, 5, 1, 0] rfl)
  exact hlp (s_n σ + 1) 0 (Nat.zero_le _) (by omega) ls (lv_sub hl [2, 3, 4, 5, 1, 0] rfl)

theorem q_fst_01 (σ : St) (len row : Nat) : ∀ r : Nat, q_fst σ len row r = 0 ∨ q_fst σ len row r = 1
  | 0 => Or.inr rfl
  | r + 1 => by
    simp only [q_fst]
    split
    · exact Or.inr rfl
    · exact Or.inl rfl
theorem nz_01 {v : Nat} (h : v = 0 ∨ v = 1) : narrow .boolean (.int (nI v)) = .int (nI v) := by
  rcases h with rfl | rfl <;> decide +kernel

set_option maxHeartbeats 4000000 in
set_option maxRecDepth 100000 in
theorem c_X3_isFirst (l : Launch) (dD : va_G) (cI cR cS : ClassId) (lo : Nat) (m0 : Nat) (a : Nat → Nat) (th : Nat) (σ : St) (hI : sI σ) (row len : Nat) (hrow : row < s_n σ) (hl1 : 1 ≤ len) (hl2 : len ≤ 10000) : Met l yX3_isFirst wsX3_isFirst ({ frames := 0, cells := 0, slots := 0, locals := 0 }) (ePc dD cI cR cS lo [.ref m0, .int (nI row), .int (nI len)] (fun H => va_P dD vwCl (mW cI m0 a th σ) H)) (vp_Si (fun r => r = nI (q_fst σ len row row))) 0 0 (fun _ => False) := by
  refine Met.ofW (cc := cX3_isFirst) (maxL := 5) (ret := (some .boolean)) (by decide) rfl ?_
  intro p e_ s m args below meth c s₁ B hml hv
  obtain ⟨rfl, hE, hP⟩ := hv
  have hx := B.exec
  have hb := B.bytes
  have hr := B.returns
  have hts := atoms_spec (ws := wsX3_isFirst) B.pre
  have hown : s.vm.findClass RX3 = some m.cls := findClass_of_methodNamed B.named
  have hlocks := B.notSynchronized
  have hK := hE.1.1
  have hinX3 : ∀ w ∈ u_ws RX3 TX3 14, w ∈ wsX3_isFirst := by decide +kernel
  obtain ⟨i_now, i_n, i_tk, i_k, i_lt, i_row, i_cp, i_srv⟩ := id hI
  obtain ⟨hw_1, hw_2, hw_3, hw_4⟩ := i_row row hrow
  have hl := lv_entry ([.ref m0, .int (nI row), .int (nI len)]) (n := 5) (Nat.le_of_ble_eq_true rfl)
  rw [lg_entry_eq]
  generalize (lg_sl ([.ref m0, .int (nI row), .int (nI len)]) ++ List.replicate (5 - (lg_sl ([.ref m0, .int (nI row), .int (nI len)])).length) Slot.unset).toArray = ls at hl ⊢
  have hl : lv_has ls 5 [(0, .ref m0), (1, .int (nI row)), (2, .int (nI len))] := hl
  refine lv_iconst (v := nI 1) hx hb dX3_isFirst_0 (by decide +kernel) ?_
  refine lv_istore_n (lv' := [(3, .int (nI 1)), (0, .ref m0), (1, .int (nI row)), (2, .int (nI len))]) hx hb dX3_isFirst_1 rfl hl (by decide) rfl (fun ls hl => ?_)
  refine lv_iconst (v := nI 0) hx hb dX3_isFirst_2 (by decide +kernel) ?_
  refine lv_istore (lv' := [(4, .int (nI 0)), (3, .int (nI 1)), (0, .ref m0), (1, .int (nI row)), (2, .int (nI len))]) hx hb dX3_isFirst_3 hl (by decide) rfl (fun ls hl => ?_)
  have hlp : ∀ (d : Nat) (r : Nat), r ≤ row → row < r + d → ∀ (ls : Array Slot), lv_has ls 5 [(0, .ref m0), (1, .int (nI row)), (2, .int (nI len)), (3, .int (nI (q_fst σ len row r))), (4, .int (nI r))] → W p l e_ (headSpec wsX3_isFirst ({ frames := 0, cells := 0, slots := 0, locals := 0 })).room s m (([.ref m0, .int (nI row), .int (nI len)] : List Value).toArray) below meth c s.heap [] 0 0 (MQ below (vp_Si (fun r => r = nI (q_fst σ len row row))) ([.ref m0, .int (nI row), .int (nI len)] : List Value).toArray s 0 0 (fun _ => False)) (F0 m 5 ls []) := by
    intro d
    induction d with
    | zero =>
      intro r hr1 hr2 ls hl
      exact absurd hr2 (by omega)
    | succ d ih =>
      intro r hr1 hr2 ls hl
      have hz_01 := q_fst_01 σ len row r
      refine lv_iload hx hb dX3_isFirst_5 (lv_at hl 4 rfl) ?_
      refine lv_iload_n hx hb dX3_isFirst_7 rfl (lv_at hl 1 rfl) ?_
      refine nv_ge (tgt := 63) hx hb dX3_isFirst_8 (by decide) (by omega) (by omega) (fun c_8 => ?_) (fun c_8 => ?_)
      · have hre : r = row := by omega
        subst hre
        have hl : lv_has ls 5 [(0, .ref m0), (1, .int (nI r)), (2, .int (nI len)), (3, .int (nI (q_fst σ len r r)))] := lv_sub hl [0, 1, 2, 3] rfl
        refine lv_iload_n hx hb dX3_isFirst_63 rfl (lv_at hl 3 rfl) ?_
        exact W.zret (v := nI (q_fst σ len r r)) hx hb hr (nz_01 (q_fst_01 σ len r r)) (fun u9 hu9 hW => ⟨nI (q_fst σ len r r), rfl, rfl, hu9⟩) (fun q h => absurd h List.not_mem_nil) dX3_isFirst_64
      · have hz_r : r < s_n σ := by omega
        obtain ⟨hz_1, hz_2, hz_3, hz_4⟩ := i_row r hz_r
        have hz_d1 : s_ev σ r / len ≤ s_ev σ r := Nat.div_le_self _ _
        have hz_d2 : s_ev σ row / len ≤ s_ev σ row := Nat.div_le_self _ _
        refine lv_iload_n hx hb dX3_isFirst_11 rfl (lv_at hl 3 rfl) ?_
        refine nv_if_eq (tgt := 55) hx hb dX3_isFirst_12 (by decide) (by omega) (fun c_12 => ?_) (fun c_12 => ?_)
        · refine lv_iconst (v := nI 0) hx hb dX3_isFirst_55 (by decide +kernel) ?_
          refine lv_istore_n (lv' := [(3, .int (nI 0)), (0, .ref m0), (1, .int (nI row)), (2, .int (nI len)), (4, .int (nI r))]) hx hb dX3_isFirst_56 rfl hl (by decide) rfl (fun ls hl => ?_)
          refine lv_iinc (v := nI (r + 1)) (lv' := [(4, .int (nI (r + 1))), (3, .int (nI 0)), (0, .ref m0), (1, .int (nI row)), (2, .int (nI len))]) hx hb dX3_isFirst_57 hl (k := 4) rfl (nv_inc _ 1) (by decide) rfl (fun ls hl => ?_)
          refine lv_goto (tgt := 5) hx hb dX3_isFirst_60 (by decide) ?_
          exact ih (r + 1) (by omega) (by omega) ls (by rw [show q_fst σ len row (r + 1) = 0 from by simp only [q_fst]; split <;> omega]; exact lv_sub hl [2, 3, 4, 1, 0] rfl)
        · refine lv_aload_n hx hb dX3_isFirst_15 rfl (lv_at hl 0 rfl) ?_
          refine va_get (D := dD) (ci := 3) (v := .ref (a 1)) (C := RX3) (T := TX3) (N := 14) hx hb hts hinX3 hown hK hP 0 rfl rfl 4 (by decide) (hts (.fieldLink RX3 13 "FeatureStoreModel" "pair" "[I") (by decide +kernel)) (fun _ h9 => h9) rfl dX3_isFirst_16 ?_
          refine lv_iload hx hb dX3_isFirst_19 (lv_at hl 4 rfl) ?_
          refine nv_iald (q0 := 2) (t0 := 0) (s_pr σ) hx hb hK hP rfl rfl (by omega) (by decide) dX3_isFirst_21 ?_
          refine lv_aload_n hx hb dX3_isFirst_22 rfl (lv_at hl 0 rfl) ?_
          refine va_get (D := dD) (ci := 3) (v := .ref (a 1)) (C := RX3) (T := TX3) (N := 14) hx hb hts hinX3 hown hK hP 0 rfl rfl 4 (by decide) (hts (.fieldLink RX3 13 "FeatureStoreModel" "pair" "[I") (by decide +kernel)) (fun _ h9 => h9) rfl dX3_isFirst_23 ?_
          refine lv_iload_n hx hb dX3_isFirst_26 rfl (lv_at hl 1 rfl) ?_
          refine nv_iald (q0 := 2) (t0 := 0) (s_pr σ) hx hb hK hP rfl rfl (by omega) (by decide) dX3_isFirst_27 ?_
          refine nv_ne (tgt := 51) hx hb dX3_isFirst_28 (by decide) (by omega) (by omega) (fun c_28 => ?_) (fun c_28 => ?_)
          · refine lv_iconst (v := nI 1) hx hb dX3_isFirst_51 (by decide +kernel) ?_
            refine lv_goto (tgt := 56) hx hb dX3_isFirst_52 (by decide) ?_
            refine lv_istore_n (lv' := [(3, .int (nI 1)), (0, .ref m0), (1, .int (nI row)), (2, .int (nI len)), (4, .int (nI r))]) hx hb dX3_isFirst_56 rfl hl (by decide) rfl (fun ls hl => ?_)
            refine lv_iinc (v := nI (r + 1)) (lv' := [(4, .int (nI (r + 1))), (3, .int (nI 1)), (0, .ref m0), (1, .int (nI row)), (2, .int (nI len))]) hx hb dX3_isFirst_57 hl (k := 4) rfl (nv_inc _ 1) (by decide) rfl (fun ls hl => ?_)
            refine lv_goto (tgt := 5) hx hb dX3_isFirst_60 (by decide) ?_
            exact ih (r + 1) (by omega) (by omega) ls (by rw [show q_fst σ len row (r + 1) = 1 from by simp only [q_fst]; split <;> omega]; exact lv_sub hl [2, 3, 4, 1, 0] rfl)
          · refine lv_aload_n hx hb dX3_isFirst_31 rfl (lv_at hl 0 rfl) ?_
            refine va_get (D := dD) (ci := 3) (v := .ref (a 2)) (C := RX3) (T := TX3) (N := 14) hx hb hts hinX3 hown hK hP 0 rfl rfl 5 (by decide) (hts (.fieldLink RX3 16 "FeatureStoreModel" "event" "[I") (by decide +kernel)) (fun _ h9 => h9) rfl dX3_isFirst_32 ?_
            refine lv_iload hx hb dX3_isFirst_35 (lv_at hl 4 rfl) ?_
            refine nv_iald (q0 := 3) (t0 := 0) (s_ev σ) hx hb hK hP rfl rfl (by omega) (by decide) dX3_isFirst_37 ?_
            refine lv_iload_n hx hb dX3_isFirst_38 rfl (lv_at hl 2 rfl) ?_
            refine nv_idiv hx hb dX3_isFirst_39 (by omega) (by omega) (by omega) ?_
            refine lv_aload_n hx hb dX3_isFirst_40 rfl (lv_at hl 0 rfl) ?_
            refine va_get (D := dD) (ci := 3) (v := .ref (a 2)) (C := RX3) (T := TX3) (N := 14) hx hb hts hinX3 hown hK hP 0 rfl rfl 5 (by decide) (hts (.fieldLink RX3 16 "FeatureStoreModel" "event" "[I") (by decide +kernel)) (fun _ h9 => h9) rfl dX3_isFirst_41 ?_
            refine lv_iload_n hx hb dX3_isFirst_44 rfl (lv_at hl 1 rfl) ?_
            refine nv_iald (q0 := 3) (t0 := 0) (s_ev σ) hx hb hK hP rfl rfl (by omega) (by decide) dX3_isFirst_45 ?_
            refine lv_iload_n hx hb dX3_isFirst_46 rfl (lv_at hl 2 rfl) ?_
            refine nv_idiv hx hb dX3_isFirst_47 (by omega) (by omega) (by omega) ?_
            refine nv_eq (tgt := 55) hx hb dX3_isFirst_48 (by decide) (by omega) (by omega) (fun c_48 => ?_) (fun c_48 => ?_)
            · refine lv_iconst (v := nI 0) hx hb dX3_isFirst_55 (by decide +kernel) ?_
              refine lv_istore_n (lv' := [(3, .int (nI 0)), (0, .ref m0), (1, .int (nI row)), (2, .int (nI len)), (4, .int (nI r))]) hx hb dX3_isFirst_56 rfl hl (by decide) rfl (fun ls hl => ?_)
              refine lv_iinc (v := nI (r + 1)) (lv' := [(4, .int (nI (r + 1))), (3, .int (nI 0)), (0, .ref m0), (1, .int (nI row)), (2, .int (nI len))]) hx hb dX3_isFirst_57 hl (k := 4) rfl (nv_inc _ 1) (by decide) rfl (fun ls hl => ?_)
              refine lv_goto (tgt := 5) hx hb dX3_isFirst_60 (by decide) ?_
              exact ih (r + 1) (by omega) (by omega) ls (by rw [show q_fst σ len row (r + 1) = 0 from by simp only [q_fst]; split <;> omega]; exact lv_sub hl [2, 3, 4, 1, 0] rfl)
            · refine lv_iconst (v := nI 1) hx hb dX3_isFirst_51 (by decide +kernel) ?_
              refine lv_goto (tgt := 56) hx hb dX3_isFirst_52 (by decide) ?_
              refine lv_istore_n (lv' := [(3, .int (nI 1)), (0, .ref m0), (1, .int (nI row)), (2, .int (nI len)), (4, .int (nI r))]) hx hb dX3_isFirst_56 rfl hl (by decide) rfl (fun ls hl => ?_)
              refine lv_iinc (v := nI (r + 1)) (lv' := [(4, .int (nI (r + 1))), (3, .int (nI 1)), (0, .ref m0), (1, .int (nI row)), (2, .int (nI len))]) hx hb dX3_isFirst_57 hl (k := 4) rfl (nv_inc _ 1) (by decide) rfl (fun ls hl => ?_)
              refine lv_goto (tgt := 5) hx hb dX3_isFirst_60 (by decide) ?_
              exact ih (r + 1) (by omega) (by omega) ls (by rw [show q_fst σ len row (r + 1) = 1 from by simp only [q_fst]; split <;> omega]; exact lv_sub hl [2, 3, 4, 1, 0] rfl)
  exact hlp (row + 1) 0 (Nat.zero_le _) (by omega) ls (lv_sub hl [2, 3, 4, 1, 0] rfl)

theorem q_join_le (σ : St) (q t k : Nat) : q_join σ q t k ≤ s_n σ := by
  have h := q_best_le σ q t k (s_n σ)
  simp only [q_join, q_fr]
  split
  · omega
  · split <;> omega

set_option maxHeartbeats 4000000 in
set_option maxRecDepth 100000 in
theorem c_X3_isRight (l : Launch) (dD : va_G) (cI cR cS : ClassId) (lo : Nat) (m0 : Nat) (a : Nat → Nat) (th : Nat) (σ : St) (hI : sI σ) (i : Nat) (hi : i < s_k σ) : Met l yX3_isRight wsX3_isRight ({ frames := 2, cells := 0, slots := 0, locals := 49 }) (ePc dD cI cR cS lo [.ref m0, .int (nI i)] (fun H => va_P dD vwCl (mW cI m0 a th σ) H)) (vp_Si (fun r => (r = nI 1 ∧ s_sv σ i = q_join σ (s_sp σ i) (s_sa σ i) (s_sa σ i)) ∨ (r = nI 0 ∧ ¬ s_sv σ i = q_join σ (s_sp σ i) (s_sa σ i) (s_sa σ i)))) 0 0 (fun _ => False) := by
  refine Met.ofW (cc := cX3_isRight) (maxL := 2) (ret := (some .boolean)) (by decide) rfl ?_
  intro p e_ s m args below meth c s₁ B hml hv
  obtain ⟨rfl, hE, hP⟩ := hv
  have hx := B.exec
  have hb := B.bytes
  have hr := B.returns
  have hts := atoms_spec (ws := wsX3_isRight) B.pre
  have hown : s.vm.findClass RX3 = some m.cls := findClass_of_methodNamed B.named
  have hlocks := B.notSynchronized
  have hK := hE.1.1
  have hinX3 : ∀ w ∈ u_ws RX3 TX3 14, w ∈ wsX3_isRight := by decide +kernel
  obtain ⟨i_now, i_n, i_tk, i_k, i_lt, i_row, i_cp, i_srv⟩ := id hI
  obtain ⟨hz_1, hz_2, hz_3⟩ := i_srv i hi
  have hz_j := q_join_le σ (s_sp σ i) (s_sa σ i) (s_sa σ i)
  have hl := lv_entry ([.ref m0, .int (nI i)]) (n := 2) (Nat.le_of_ble_eq_true rfl)
  rw [lg_entry_eq]
  generalize (lg_sl ([.ref m0, .int (nI i)]) ++ List.replicate (2 - (lg_sl ([.ref m0, .int (nI i)])).length) Slot.unset).toArray = ls at hl ⊢
  have hl : lv_has ls 2 [(0, .ref m0), (1, .int (nI i))] := hl
  refine lv_aload_n hx hb dX3_isRight_0 rfl (lv_at hl 0 rfl) ?_
  refine va_get (D := dD) (ci := 3) (v := .ref (a 8)) (C := RX3) (T := TX3) (N := 14) hx hb hts hinX3 hown hK hP 0 rfl rfl 13 (by decide) (hts (.fieldLink RX3 34 "FeatureStoreModel" "served" "[I") (by decide +kernel)) (fun _ h9 => h9) rfl dX3_isRight_1 ?_
  refine lv_iload_n hx hb dX3_isRight_4 rfl (lv_at hl 1 rfl) ?_
  refine nv_eald (q0 := 9) (t0 := 0) (s_sv σ) hx hb hK hP rfl rfl (by omega) (by decide) dX3_isRight_5 ?_
  refine lv_aload_n hx hb dX3_isRight_6 rfl (lv_at hl 0 rfl) ?_
  refine lv_aload_n hx hb dX3_isRight_7 rfl (lv_at hl 0 rfl) ?_
  refine va_get (D := dD) (ci := 3) (v := .ref (a 6)) (C := RX3) (T := TX3) (N := 14) hx hb hts hinX3 hown hK hP 0 rfl rfl 11 (by decide) (hts (.fieldLink RX3 28 "FeatureStoreModel" "servedPair" "[I") (by decide +kernel)) (fun _ h9 => h9) rfl dX3_isRight_8 ?_
  refine lv_iload_n hx hb dX3_isRight_11 rfl (lv_at hl 1 rfl) ?_
  refine nv_iald (q0 := 7) (t0 := 0) (s_sp σ) hx hb hK hP rfl rfl (by omega) (by decide) dX3_isRight_12 ?_
  refine lv_aload_n hx hb dX3_isRight_13 rfl (lv_at hl 0 rfl) ?_
  refine va_get (D := dD) (ci := 3) (v := .ref (a 7)) (C := RX3) (T := TX3) (N := 14) hx hb hts hinX3 hown hK hP 0 rfl rfl 12 (by decide) (hts (.fieldLink RX3 31 "FeatureStoreModel" "servedAt" "[I") (by decide +kernel)) (fun _ h9 => h9) rfl dX3_isRight_14 ?_
  refine lv_iload_n hx hb dX3_isRight_17 rfl (lv_at hl 1 rfl) ?_
  refine nv_iald (q0 := 8) (t0 := 0) (s_sa σ) hx hb hK hP rfl rfl (by omega) (by decide) dX3_isRight_18 ?_
  refine lv_aload_n hx hb dX3_isRight_19 rfl (lv_at hl 0 rfl) ?_
  refine va_get (D := dD) (ci := 3) (v := .ref (a 7)) (C := RX3) (T := TX3) (N := 14) hx hb hts hinX3 hown hK hP 0 rfl rfl 12 (by decide) (hts (.fieldLink RX3 31 "FeatureStoreModel" "servedAt" "[I") (by decide +kernel)) (fun _ h9 => h9) rfl dX3_isRight_20 ?_
  refine lv_iload_n hx hb dX3_isRight_23 rfl (lv_at hl 1 rfl) ?_
  refine nv_iald (q0 := 8) (t0 := 0) (s_sa σ) hx hb hK hP rfl rfl (by omega) (by decide) dX3_isRight_24 ?_
  refine vp_callSi (va_Run.run (va_runV (As := [.int (nI (s_sp σ i)), .int (nI (s_sa σ i)), .int (nI (s_sa σ i))]) (rest := [.int (eN (s_sv σ i))]) ⟨hx, hb, hml, hown, hts⟩ (c_X3_joins l dD cI cR cS lo m0 a th σ hI (s_sp σ i) (s_sa σ i) (s_sa σ i) hz_1 (by omega) (by omega)) (cwV 3 hts gX3_isRight_X3_joins rfl rfl rfl (by decide +kernel) ⟨Nat.le_of_ble_eq_true rfl, Nat.le_of_ble_eq_true rfl⟩) (ePreV hE va_S.rf hP (k := 0) rfl rfl hP) rfl rfl hl.1 rfl (lv_room (Nat.le_of_ble_eq_true rfl)) dX3_isRight_25 ⟨Nat.le_of_ble_eq_true rfl, Nat.le_of_ble_eq_true rfl⟩)) (fun r_25 hr_25 => ?_)
  subst hr_25
  refine nv_neN (tgt := 35) hx hb dX3_isRight_28 (by decide) (by omega) (by omega) (fun c_28 => ?_) (fun c_28 => ?_)
  · refine lv_iconst (v := nI 0) hx hb dX3_isRight_35 (by decide +kernel) ?_
    exact W.zret (v := nI 0) hx hb hr rfl (fun u9 hu9 hW => ⟨nI 0, rfl, Or.inr ⟨rfl, c_28⟩, hu9⟩) (fun q h => absurd h List.not_mem_nil) dX3_isRight_36
  · refine lv_iconst (v := nI 1) hx hb dX3_isRight_31 (by decide +kernel) ?_
    refine lv_goto (tgt := 36) hx hb dX3_isRight_32 (by decide) ?_
    exact W.zret (v := nI 1) hx hb hr rfl (fun u9 hu9 hW => ⟨nI 1, rfl, Or.inl ⟨rfl, c_28⟩, hu9⟩) (fun q h => absurd h List.not_mem_nil) dX3_isRight_36
end
section
/-! the reference: the methods that write, first half (laid by wip/whole/gen/x3wr.py) -/
set_option maxHeartbeats 4000000 in
set_option maxRecDepth 100000 in
theorem c_X3_thrown (l : Launch) (dD : va_G) (cI cR cS : ClassId) (lo : Nat) (sz : Nat) (hlo : lo ≤ sz) (m0 : Nat) (a : Nat → Nat) (th : Nat) (σ : St) (hI : sI σ)  : Met l yX3_thrown wsX3_thrown ({ frames := 0, cells := 0, slots := 0, locals := 0 }) (ePc dD cI cR cS lo [.ref m0] (fun H => H.size = sz ∧ va_P dD vwCl (mW cI m0 a th σ) H ∧ va_D (fun q => lo ≤ q) (mW cI m0 a th σ))) (va_Qi (fun (r : Int32) (u : Nat × St) => u = (th, σ) ∧ r = nI th) (fun u t => va_P dD vwCl (mW cI m0 a u.1 u.2) t.heap) (va_A (mW cI m0 a th σ) sz)) 0 0 (va_A (mW cI m0 a th σ) sz) := by
  refine Met.ofW (cc := cX3_thrown) (maxL := 1) (ret := (some .int)) (by decide) rfl ?_
  intro p e_ s m args below meth c s₁ B hml hv
  obtain ⟨rfl, hE, hsz, hP, hD0⟩ := hv
  have hx := B.exec
  have hb := B.bytes
  have hr := B.returns
  have hts := atoms_spec (ws := wsX3_thrown) B.pre
  have hown : s.vm.findClass RX3 = some m.cls := findClass_of_methodNamed B.named
  have hlocks := B.notSynchronized
  have hK := hE.1.1
  have hinX3 : ∀ w ∈ u_ws RX3 TX3 14, w ∈ wsX3_thrown := by decide +kernel
  subst hsz
  have hD := hD0.self (sz := s.heap.size)
  have hAlo : ∀ q, va_A (mW cI m0 a th σ) s.heap.size q → lo ≤ q := eA_lo hD0 hlo
  generalize hAe : va_A (mW cI m0 a th σ) s.heap.size = A at hD hAlo ⊢
  have hA : ∀ q : Nat, s.heap.size ≤ q → A q := fun q h => by rw [← hAe]; exact Or.inr h
  have hS : va_S A s.heap s.heap [] := va_S.rf
  have hP : va_P dD vwCl (mW cI m0 a th σ) s.heap := hP
  obtain ⟨i_now, i_n, i_tk, i_k, i_lt, i_row, i_cp, i_srv⟩ := id hI
  have hl := lv_entry ([.ref m0]) (n := 1) (Nat.le_of_ble_eq_true rfl)
  rw [lg_entry_eq]
  generalize (lg_sl ([.ref m0]) ++ List.replicate (1 - (lg_sl ([.ref m0])).length) Slot.unset).toArray = ls at hl ⊢
  have hl : lv_has ls 1 [(0, .ref m0)] := hl
  refine lv_aload_n hx hb dX3_thrown_0 rfl (lv_at hl 0 rfl) ?_
  refine va_get (D := dD) (ci := 3) (v := .int (nI th)) (C := RX3) (T := TX3) (N := 14) hx hb hts hinX3 hown hK hP 0 rfl rfl 0 (by decide) (hts (.fieldLink RX3 37 "FeatureStoreModel" "thrown" "I") (by decide +kernel)) (fun _ h9 => h9) rfl dX3_thrown_1 ?_
  exact W.iret (v := nI th) hx hb hr (fun u9 hu9 hW => ⟨⟨nI th, (th, σ), rfl, ⟨rfl, rfl⟩, by have h9 := hP; rw [← hu9] at h9; exact h9⟩, hS.F hu9⟩) hS.2.2 dX3_thrown_4

set_option maxHeartbeats 4000000 in
set_option maxRecDepth 100000 in
theorem c_X3_now (l : Launch) (dD : va_G) (cI cR cS : ClassId) (lo : Nat) (sz : Nat) (hlo : lo ≤ sz) (m0 : Nat) (a : Nat → Nat) (th : Nat) (σ : St) (hI : sI σ)  : Met l yX3_now wsX3_now ({ frames := 0, cells := 0, slots := 0, locals := 0 }) (ePc dD cI cR cS lo [.ref m0] (fun H => H.size = sz ∧ va_P dD vwCl (mW cI m0 a th σ) H ∧ va_D (fun q => lo ≤ q) (mW cI m0 a th σ))) (va_Qi (fun (r : Int32) (u : Nat × St) => u = (0, σ) ∧ r = nI (s_now σ)) (fun u t => va_P dD vwCl (mW cI m0 a u.1 u.2) t.heap) (va_A (mW cI m0 a th σ) sz)) 0 0 (va_A (mW cI m0 a th σ) sz) := by
  refine Met.ofW (cc := cX3_now) (maxL := 1) (ret := (some .int)) (by decide) rfl ?_
  intro p e_ s m args below meth c s₁ B hml hv
  obtain ⟨rfl, hE, hsz, hP, hD0⟩ := hv
  have hx := B.exec
  have hb := B.bytes
  have hr := B.returns
  have hts := atoms_spec (ws := wsX3_now) B.pre
  have hown : s.vm.findClass RX3 = some m.cls := findClass_of_methodNamed B.named
  have hlocks := B.notSynchronized
  have hK := hE.1.1
  have hinX3 : ∀ w ∈ u_ws RX3 TX3 14, w ∈ wsX3_now := by decide +kernel
  subst hsz
  have hD := hD0.self (sz := s.heap.size)
  have hAlo : ∀ q, va_A (mW cI m0 a th σ) s.heap.size q → lo ≤ q := eA_lo hD0 hlo
  generalize hAe : va_A (mW cI m0 a th σ) s.heap.size = A at hD hAlo ⊢
  have hA : ∀ q : Nat, s.heap.size ≤ q → A q := fun q h => by rw [← hAe]; exact Or.inr h
  have hS : va_S A s.heap s.heap [] := va_S.rf
  have hP : va_P dD vwCl (mW cI m0 a th σ) s.heap := hP
  obtain ⟨i_now, i_n, i_tk, i_k, i_lt, i_row, i_cp, i_srv⟩ := id hI
  have hl := lv_entry ([.ref m0]) (n := 1) (Nat.le_of_ble_eq_true rfl)
  rw [lg_entry_eq]
  generalize (lg_sl ([.ref m0]) ++ List.replicate (1 - (lg_sl ([.ref m0])).length) Slot.unset).toArray = ls at hl ⊢
  have hl : lv_has ls 1 [(0, .ref m0)] := hl
  refine lv_aload_n hx hb dX3_now_0 rfl (lv_at hl 0 rfl) ?_
  refine lv_iconst (v := nI 0) hx hb dX3_now_1 (by decide +kernel) ?_
  refine va_put (D := dD) (ci := 3) (v := .int (nI 0)) (ty := .int) (C := RX3) (T := TX3) (N := 14) hx hb hts hinX3 tyX3 tyX3_ok nmX3 hown hK hP hD hS 0 rfl rfl 0 (by decide) (hts (.fieldLink RX3 37 "FeatureStoreModel" "thrown" "I") (by decide +kernel)) (fun _ h9 => h9) rfl (by decide +kernel) rfl rfl (Nat.le_of_ble_eq_true rfl) dX3_now_2 (fun H locs hP hD hS => ?_)
  have hP : va_P dD vwCl [(m0, .inr (3, [.int (nI 0), .int (nI (s_now σ)), .ref (a 0), .int (nI (s_n σ)), .ref (a 1), .ref (a 2), .ref (a 3), .ref (a 4), .int (nI (s_tk σ)), .ref (a 5), .int (nI (s_k σ)), .ref (a 6), .ref (a 7), .ref (a 8)])), (a 0, .inl (cI, 6, .inl (fun j => nI (s_lt σ j)))), (a 1, .inl (cI, 200, .inl (fun j => nI (s_pr σ j)))), (a 2, .inl (cI, 200, .inl (fun j => nI (s_ev σ j)))), (a 3, .inl (cI, 200, .inl (fun j => nI (s_ar σ j)))), (a 4, .inl (cI, 200, .inl (fun j => nI (s_vl σ j)))), (a 5, .inl (cI, 60, .inl (fun j => nI (s_cp σ j)))), (a 6, .inl (cI, 200, .inl (fun j => nI (s_sp σ j)))), (a 7, .inl (cI, 200, .inl (fun j => nI (s_sa σ j)))), (a 8, .inl (cI, 200, .inl (fun j => eN (s_sv σ j))))] H := hP
  have hD : va_D A [(m0, .inr (3, [.int (nI 0), .int (nI (s_now σ)), .ref (a 0), .int (nI (s_n σ)), .ref (a 1), .ref (a 2), .ref (a 3), .ref (a 4), .int (nI (s_tk σ)), .ref (a 5), .int (nI (s_k σ)), .ref (a 6), .ref (a 7), .ref (a 8)])), (a 0, .inl (cI, 6, .inl (fun j => nI (s_lt σ j)))), (a 1, .inl (cI, 200, .inl (fun j => nI (s_pr σ j)))), (a 2, .inl (cI, 200, .inl (fun j => nI (s_ev σ j)))), (a 3, .inl (cI, 200, .inl (fun j => nI (s_ar σ j)))), (a 4, .inl (cI, 200, .inl (fun j => nI (s_vl σ j)))), (a 5, .inl (cI, 60, .inl (fun j => nI (s_cp σ j)))), (a 6, .inl (cI, 200, .inl (fun j => nI (s_sp σ j)))), (a 7, .inl (cI, 200, .inl (fun j => nI (s_sa σ j)))), (a 8, .inl (cI, 200, .inl (fun j => eN (s_sv σ j))))] := hD
  refine lv_aload_n hx hb dX3_now_5 rfl (lv_at hl 0 rfl) ?_
  refine va_get (D := dD) (ci := 3) (v := .int (nI (s_now σ))) (C := RX3) (T := TX3) (N := 14) hx hb hts hinX3 hown hK hP 0 rfl rfl 1 (by decide) (hts (.fieldLink RX3 49 "FeatureStoreModel" "now" "I") (by decide +kernel)) (fun _ h9 => h9) rfl dX3_now_6 ?_
  exact W.iret (v := nI (s_now σ)) hx hb hr (fun u9 hu9 hW => ⟨⟨nI (s_now σ), (0, σ), rfl, ⟨rfl, rfl⟩, by have h9 := hP; rw [← hu9] at h9; exact h9⟩, hS.F hu9⟩) hS.2.2 dX3_now_9

set_option maxHeartbeats 4000000 in
set_option maxRecDepth 100000 in
theorem c_X3_rows (l : Launch) (dD : va_G) (cI cR cS : ClassId) (lo : Nat) (sz : Nat) (hlo : lo ≤ sz) (m0 : Nat) (a : Nat → Nat) (th : Nat) (σ : St) (hI : sI σ)  : Met l yX3_rows wsX3_rows ({ frames := 0, cells := 0, slots := 0, locals := 0 }) (ePc dD cI cR cS lo [.ref m0] (fun H => H.size = sz ∧ va_P dD vwCl (mW cI m0 a th σ) H ∧ va_D (fun q => lo ≤ q) (mW cI m0 a th σ))) (va_Qi (fun (r : Int32) (u : Nat × St) => u = (0, σ) ∧ r = nI (s_n σ)) (fun u t => va_P dD vwCl (mW cI m0 a u.1 u.2) t.heap) (va_A (mW cI m0 a th σ) sz)) 0 0 (va_A (mW cI m0 a th σ) sz) := by
  refine Met.ofW (cc := cX3_rows) (maxL := 1) (ret := (some .int)) (by decide) rfl ?_
  intro p e_ s m args below meth c s₁ B hml hv
  obtain ⟨rfl, hE, hsz, hP, hD0⟩ := hv
  have hx := B.exec
  have hb := B.bytes
  have hr := B.returns
  have hts := atoms_spec (ws := wsX3_rows) B.pre
  have hown : s.vm.findClass RX3 = some m.cls := findClass_of_methodNamed B.named
  have hlocks := B.notSynchronized
  have hK := hE.1.1
  have hinX3 : ∀ w ∈ u_ws RX3 TX3 14, w ∈ wsX3_rows := by decide +kernel
  subst hsz
  have hD := hD0.self (sz := s.heap.size)
  have hAlo : ∀ q, va_A (mW cI m0 a th σ) s.heap.size q → lo ≤ q := eA_lo hD0 hlo
  generalize hAe : va_A (mW cI m0 a th σ) s.heap.size = A at hD hAlo ⊢
  have hA : ∀ q : Nat, s.heap.size ≤ q → A q := fun q h => by rw [← hAe]; exact Or.inr h
  have hS : va_S A s.heap s.heap [] := va_S.rf
  have hP : va_P dD vwCl (mW cI m0 a th σ) s.heap := hP
  obtain ⟨i_now, i_n, i_tk, i_k, i_lt, i_row, i_cp, i_srv⟩ := id hI
  have hl := lv_entry ([.ref m0]) (n := 1) (Nat.le_of_ble_eq_true rfl)
  rw [lg_entry_eq]
  generalize (lg_sl ([.ref m0]) ++ List.replicate (1 - (lg_sl ([.ref m0])).length) Slot.unset).toArray = ls at hl ⊢
  have hl : lv_has ls 1 [(0, .ref m0)] := hl
  refine lv_aload_n hx hb dX3_rows_0 rfl (lv_at hl 0 rfl) ?_
  refine lv_iconst (v := nI 0) hx hb dX3_rows_1 (by decide +kernel) ?_
  refine va_put (D := dD) (ci := 3) (v := .int (nI 0)) (ty := .int) (C := RX3) (T := TX3) (N := 14) hx hb hts hinX3 tyX3 tyX3_ok nmX3 hown hK hP hD hS 0 rfl rfl 0 (by decide) (hts (.fieldLink RX3 37 "FeatureStoreModel" "thrown" "I") (by decide +kernel)) (fun _ h9 => h9) rfl (by decide +kernel) rfl rfl (Nat.le_of_ble_eq_true rfl) dX3_rows_2 (fun H locs hP hD hS => ?_)
  have hP : va_P dD vwCl [(m0, .inr (3, [.int (nI 0), .int (nI (s_now σ)), .ref (a 0), .int (nI (s_n σ)), .ref (a 1), .ref (a 2), .ref (a 3), .ref (a 4), .int (nI (s_tk σ)), .ref (a 5), .int (nI (s_k σ)), .ref (a 6), .ref (a 7), .ref (a 8)])), (a 0, .inl (cI, 6, .inl (fun j => nI (s_lt σ j)))), (a 1, .inl (cI, 200, .inl (fun j => nI (s_pr σ j)))), (a 2, .inl (cI, 200, .inl (fun j => nI (s_ev σ j)))), (a 3, .inl (cI, 200, .inl (fun j => nI (s_ar σ j)))), (a 4, .inl (cI, 200, .inl (fun j => nI (s_vl σ j)))), (a 5, .inl (cI, 60, .inl (fun j => nI (s_cp σ j)))), (a 6, .inl (cI, 200, .inl (fun j => nI (s_sp σ j)))), (a 7, .inl (cI, 200, .inl (fun j => nI (s_sa σ j)))), (a 8, .inl (cI, 200, .inl (fun j => eN (s_sv σ j))))] H := hP
  have hD : va_D A [(m0, .inr (3, [.int (nI 0), .int (nI (s_now σ)), .ref (a 0), .int (nI (s_n σ)), .ref (a 1), .ref (a 2), .ref (a 3), .ref (a 4), .int (nI (s_tk σ)), .ref (a 5), .int (nI (s_k σ)), .ref (a 6), .ref (a 7), .ref (a 8)])), (a 0, .inl (cI, 6, .inl (fun j => nI (s_lt σ j)))), (a 1, .inl (cI, 200, .inl (fun j => nI (s_pr σ j)))), (a 2, .inl (cI, 200, .inl (fun j => nI (s_ev σ j)))), (a 3, .inl (cI, 200, .inl (fun j => nI (s_ar σ j)))), (a 4, .inl (cI, 200, .inl (fun j => nI (s_vl σ j)))), (a 5, .inl (cI, 60, .inl (fun j => nI (s_cp σ j)))), (a 6, .inl (cI, 200, .inl (fun j => nI (s_sp σ j)))), (a 7, .inl (cI, 200, .inl (fun j => nI (s_sa σ j)))), (a 8, .inl (cI, 200, .inl (fun j => eN (s_sv σ j))))] := hD
  refine lv_aload_n hx hb dX3_rows_5 rfl (lv_at hl 0 rfl) ?_
  refine va_get (D := dD) (ci := 3) (v := .int (nI (s_n σ))) (C := RX3) (T := TX3) (N := 14) hx hb hts hinX3 hown hK hP 0 rfl rfl 3 (by decide) (hts (.fieldLink RX3 53 "FeatureStoreModel" "rows" "I") (by decide +kernel)) (fun _ h9 => h9) rfl dX3_rows_6 ?_
  exact W.iret (v := nI (s_n σ)) hx hb hr (fun u9 hu9 hW => ⟨⟨nI (s_n σ), (0, σ), rfl, ⟨rfl, rfl⟩, by have h9 := hP; rw [← hu9] at h9; exact h9⟩, hS.F hu9⟩) hS.2.2 dX3_rows_9

set_option maxHeartbeats 4000000 in
set_option maxRecDepth 100000 in
theorem c_X3_servings (l : Launch) (dD : va_G) (cI cR cS : ClassId) (lo : Nat) (sz : Nat) (hlo : lo ≤ sz) (m0 : Nat) (a : Nat → Nat) (th : Nat) (σ : St) (hI : sI σ)  : Met l yX3_servings wsX3_servings ({ frames := 0, cells := 0, slots := 0, locals := 0 }) (ePc dD cI cR cS lo [.ref m0] (fun H => H.size = sz ∧ va_P dD vwCl (mW cI m0 a th σ) H ∧ va_D (fun q => lo ≤ q) (mW cI m0 a th σ))) (va_Qi (fun (r : Int32) (u : Nat × St) => u = (0, σ) ∧ r = nI (s_k σ)) (fun u t => va_P dD vwCl (mW cI m0 a u.1 u.2) t.heap) (va_A (mW cI m0 a th σ) sz)) 0 0 (va_A (mW cI m0 a th σ) sz) := by
  refine Met.ofW (cc := cX3_servings) (maxL := 1) (ret := (some .int)) (by decide) rfl ?_
  intro p e_ s m args below meth c s₁ B hml hv
  obtain ⟨rfl, hE, hsz, hP, hD0⟩ := hv
  have hx := B.exec
  have hb := B.bytes
  have hr := B.returns
  have hts := atoms_spec (ws := wsX3_servings) B.pre
  have hown : s.vm.findClass RX3 = some m.cls := findClass_of_methodNamed B.named
  have hlocks := B.notSynchronized
  have hK := hE.1.1
  have hinX3 : ∀ w ∈ u_ws RX3 TX3 14, w ∈ wsX3_servings := by decide +kernel
  subst hsz
  have hD := hD0.self (sz := s.heap.size)
  have hAlo : ∀ q, va_A (mW cI m0 a th σ) s.heap.size q → lo ≤ q := eA_lo hD0 hlo
  generalize hAe : va_A (mW cI m0 a th σ) s.heap.size = A at hD hAlo ⊢
  have hA : ∀ q : Nat, s.heap.size ≤ q → A q := fun q h => by rw [← hAe]; exact Or.inr h
  have hS : va_S A s.heap s.heap [] := va_S.rf
  have hP : va_P dD vwCl (mW cI m0 a th σ) s.heap := hP
  obtain ⟨i_now, i_n, i_tk, i_k, i_lt, i_row, i_cp, i_srv⟩ := id hI
  have hl := lv_entry ([.ref m0]) (n := 1) (Nat.le_of_ble_eq_true rfl)
  rw [lg_entry_eq]
  generalize (lg_sl ([.ref m0]) ++ List.replicate (1 - (lg_sl ([.ref m0])).length) Slot.unset).toArray = ls at hl ⊢
  have hl : lv_has ls 1 [(0, .ref m0)] := hl
  refine lv_aload_n hx hb dX3_servings_0 rfl (lv_at hl 0 rfl) ?_
  refine lv_iconst (v := nI 0) hx hb dX3_servings_1 (by decide +kernel) ?_
  refine va_put (D := dD) (ci := 3) (v := .int (nI 0)) (ty := .int) (C := RX3) (T := TX3) (N := 14) hx hb hts hinX3 tyX3 tyX3_ok nmX3 hown hK hP hD hS 0 rfl rfl 0 (by decide) (hts (.fieldLink RX3 37 "FeatureStoreModel" "thrown" "I") (by decide +kernel)) (fun _ h9 => h9) rfl (by decide +kernel) rfl rfl (Nat.le_of_ble_eq_true rfl) dX3_servings_2 (fun H locs hP hD hS => ?_)
  have hP : va_P dD vwCl [(m0, .inr (3, [.int (nI 0), .int (nI (s_now σ)), .ref (a 0), .int (nI (s_n σ)), .ref (a 1), .ref (a 2), .ref (a 3), .ref (a 4), .int (nI (s_tk σ)), .ref (a 5), .int (nI (s_k σ)), .ref (a 6), .ref (a 7), .ref (a 8)])), (a 0, .inl (cI, 6, .inl (fun j => nI (s_lt σ j)))), (a 1, .inl (cI, 200, .inl (fun j => nI (s_pr σ j)))), (a 2, .inl (cI, 200, .inl (fun j => nI (s_ev σ j)))), (a 3, .inl (cI, 200, .inl (fun j => nI (s_ar σ j)))), (a 4, .inl (cI, 200, .inl (fun j => nI (s_vl σ j)))), (a 5, .inl (cI, 60, .inl (fun j => nI (s_cp σ j)))), (a 6, .inl (cI, 200, .inl (fun j => nI (s_sp σ j)))), (a 7, .inl (cI, 200, .inl (fun j => nI (s_sa σ j)))), (a 8, .inl (cI, 200, .inl (fun j => eN (s_sv σ j))))] H := hP
  have hD : va_D A [(m0, .inr (3, [.int (nI 0), .int (nI (s_now σ)), .ref (a 0), .int (nI (s_n σ)), .ref (a 1), .ref (a 2), .ref (a 3), .ref (a 4), .int (nI (s_tk σ)), .ref (a 5), .int (nI (s_k σ)), .ref (a 6), .ref (a 7), .ref (a 8)])), (a 0, .inl (cI, 6, .inl (fun j => nI (s_lt σ j)))), (a 1, .inl (cI, 200, .inl (fun j => nI (s_pr σ j)))), (a 2, .inl (cI, 200, .inl (fun j => nI (s_ev σ j)))), (a 3, .inl (cI, 200, .inl (fun j => nI (s_ar σ j)))), (a 4, .inl (cI, 200, .inl (fun j => nI (s_vl σ j)))), (a 5, .inl (cI, 60, .inl (fun j => nI (s_cp σ j)))), (a 6, .inl (cI, 200, .inl (fun j => nI (s_sp σ j)))), (a 7, .inl (cI, 200, .inl (fun j => nI (s_sa σ j)))), (a 8, .inl (cI, 200, .inl (fun j => eN (s_sv σ j))))] := hD
  refine lv_aload_n hx hb dX3_servings_5 rfl (lv_at hl 0 rfl) ?_
  refine va_get (D := dD) (ci := 3) (v := .int (nI (s_k σ))) (C := RX3) (T := TX3) (N := 14) hx hb hts hinX3 hown hK hP 0 rfl rfl 10 (by decide) (hts (.fieldLink RX3 83 "FeatureStoreModel" "servings" "I") (by decide +kernel)) (fun _ h9 => h9) rfl dX3_servings_6 ?_
  exact W.iret (v := nI (s_k σ)) hx hb hr (fun u9 hu9 hW => ⟨⟨nI (s_k σ), (0, σ), rfl, ⟨rfl, rfl⟩, by have h9 := hP; rw [← hu9] at h9; exact h9⟩, hS.F hu9⟩) hS.2.2 dX3_servings_9

set_option maxHeartbeats 4000000 in
set_option maxRecDepth 100000 in
theorem c_X3_lag (l : Launch) (dD : va_G) (cI cR cS : ClassId) (lo : Nat) (sz : Nat) (hlo : lo ≤ sz) (m0 : Nat) (a : Nat → Nat) (th : Nat) (σ : St) (hI : sI σ)  : Met l yX3_lag wsX3_lag ({ frames := 0, cells := 0, slots := 0, locals := 0 }) (ePc dD cI cR cS lo [.ref m0] (fun H => H.size = sz ∧ va_P dD vwCl (mW cI m0 a th σ) H ∧ va_D (fun q => lo ≤ q) (mW cI m0 a th σ))) (va_Qi (fun (r : Int32) (u : Nat × St) => u = (0, σ) ∧ r = nI (s_n σ - s_tk σ)) (fun u t => va_P dD vwCl (mW cI m0 a u.1 u.2) t.heap) (va_A (mW cI m0 a th σ) sz)) 0 0 (va_A (mW cI m0 a th σ) sz) := by
  refine Met.ofW (cc := cX3_lag) (maxL := 1) (ret := (some .int)) (by decide) rfl ?_
  intro p e_ s m args below meth c s₁ B hml hv
  obtain ⟨rfl, hE, hsz, hP, hD0⟩ := hv
  have hx := B.exec
  have hb := B.bytes
  have hr := B.returns
  have hts := atoms_spec (ws := wsX3_lag) B.pre
  have hown : s.vm.findClass RX3 = some m.cls := findClass_of_methodNamed B.named
  have hlocks := B.notSynchronized
  have hK := hE.1.1
  have hinX3 : ∀ w ∈ u_ws RX3 TX3 14, w ∈ wsX3_lag := by decide +kernel
  subst hsz
  have hD := hD0.self (sz := s.heap.size)
  have hAlo : ∀ q, va_A (mW cI m0 a th σ) s.heap.size q → lo ≤ q := eA_lo hD0 hlo
  generalize hAe : va_A (mW cI m0 a th σ) s.heap.size = A at hD hAlo ⊢
  have hA : ∀ q : Nat, s.heap.size ≤ q → A q := fun q h => by rw [← hAe]; exact Or.inr h
  have hS : va_S A s.heap s.heap [] := va_S.rf
  have hP : va_P dD vwCl (mW cI m0 a th σ) s.heap := hP
  obtain ⟨i_now, i_n, i_tk, i_k, i_lt, i_row, i_cp, i_srv⟩ := id hI
  have hl := lv_entry ([.ref m0]) (n := 1) (Nat.le_of_ble_eq_true rfl)
  rw [lg_entry_eq]
  generalize (lg_sl ([.ref m0]) ++ List.replicate (1 - (lg_sl ([.ref m0])).length) Slot.unset).toArray = ls at hl ⊢
  have hl : lv_has ls 1 [(0, .ref m0)] := hl
  refine lv_aload_n hx hb dX3_lag_0 rfl (lv_at hl 0 rfl) ?_
  refine lv_iconst (v := nI 0) hx hb dX3_lag_1 (by decide +kernel) ?_
  refine va_put (D := dD) (ci := 3) (v := .int (nI 0)) (ty := .int) (C := RX3) (T := TX3) (N := 14) hx hb hts hinX3 tyX3 tyX3_ok nmX3 hown hK hP hD hS 0 rfl rfl 0 (by decide) (hts (.fieldLink RX3 37 "FeatureStoreModel" "thrown" "I") (by decide +kernel)) (fun _ h9 => h9) rfl (by decide +kernel) rfl rfl (Nat.le_of_ble_eq_true rfl) dX3_lag_2 (fun H locs hP hD hS => ?_)
  have hP : va_P dD vwCl [(m0, .inr (3, [.int (nI 0), .int (nI (s_now σ)), .ref (a 0), .int (nI (s_n σ)), .ref (a 1), .ref (a 2), .ref (a 3), .ref (a 4), .int (nI (s_tk σ)), .ref (a 5), .int (nI (s_k σ)), .ref (a 6), .ref (a 7), .ref (a 8)])), (a 0, .inl (cI, 6, .inl (fun j => nI (s_lt σ j)))), (a 1, .inl (cI, 200, .inl (fun j => nI (s_pr σ j)))), (a 2, .inl (cI, 200, .inl (fun j => nI (s_ev σ j)))), (a 3, .inl (cI, 200, .inl (fun j => nI (s_ar σ j)))), (a 4, .inl (cI, 200, .inl (fun j => nI (s_vl σ j)))), (a 5, .inl (cI, 60, .inl (fun j => nI (s_cp σ j)))), (a 6, .inl (cI, 200, .inl (fun j => nI (s_sp σ j)))), (a 7, .inl (cI, 200, .inl (fun j => nI (s_sa σ j)))), (a 8, .inl (cI, 200, .inl (fun j => eN (s_sv σ j))))] H := hP
  have hD : va_D A [(m0, .inr (3, [.int (nI 0), .int (nI (s_now σ)), .ref (a 0), .int (nI (s_n σ)), .ref (a 1), .ref (a 2), .ref (a 3), .ref (a 4), .int (nI (s_tk σ)), .ref (a 5), .int (nI (s_k σ)), .ref (a 6), .ref (a 7), .ref (a 8)])), (a 0, .inl (cI, 6, .inl (fun j => nI (s_lt σ j)))), (a 1, .inl (cI, 200, .inl (fun j => nI (s_pr σ j)))), (a 2, .inl (cI, 200, .inl (fun j => nI (s_ev σ j)))), (a 3, .inl (cI, 200, .inl (fun j => nI (s_ar σ j)))), (a 4, .inl (cI, 200, .inl (fun j => nI (s_vl σ j)))), (a 5, .inl (cI, 60, .inl (fun j => nI (s_cp σ j)))), (a 6, .inl (cI, 200, .inl (fun j => nI (s_sp σ j)))), (a 7, .inl (cI, 200, .inl (fun j => nI (s_sa σ j)))), (a 8, .inl (cI, 200, .inl (fun j => eN (s_sv σ j))))] := hD
  refine lv_aload_n hx hb dX3_lag_5 rfl (lv_at hl 0 rfl) ?_
  refine va_get (D := dD) (ci := 3) (v := .int (nI (s_n σ))) (C := RX3) (T := TX3) (N := 14) hx hb hts hinX3 hown hK hP 0 rfl rfl 3 (by decide) (hts (.fieldLink RX3 53 "FeatureStoreModel" "rows" "I") (by decide +kernel)) (fun _ h9 => h9) rfl dX3_lag_6 ?_
  refine lv_aload_n hx hb dX3_lag_9 rfl (lv_at hl 0 rfl) ?_
  refine va_get (D := dD) (ci := 3) (v := .int (nI (s_tk σ))) (C := RX3) (T := TX3) (N := 14) hx hb hts hinX3 hown hK hP 0 rfl rfl 8 (by decide) (hts (.fieldLink RX3 80 "FeatureStoreModel" "taken" "I") (by decide +kernel)) (fun _ h9 => h9) rfl dX3_lag_10 ?_
  refine nv_isub hx hb dX3_lag_13 (by omega) ?_
  exact W.iret (v := nI ((s_n σ) - (s_tk σ))) hx hb hr (fun u9 hu9 hW => ⟨⟨nI ((s_n σ) - (s_tk σ)), (0, σ), rfl, ⟨rfl, rfl⟩, by have h9 := hP; rw [← hu9] at h9; exact h9⟩, hS.F hu9⟩) hS.2.2 dX3_lag_14

set_option maxHeartbeats 4000000 in
set_option maxRecDepth 100000 in
theorem c_X3_pass (l : Launch) (dD : va_G) (cI cR cS : ClassId) (lo : Nat) (sz : Nat) (hlo : lo ≤ sz) (m0 : Nat) (a : Nat → Nat) (th : Nat) (σ : St) (hI : sI σ) (t : Int32) : Met l yX3_pass wsX3_pass ({ frames := 1, cells := 0, slots := 0, locals := 22 }) (ePc dD cI cR cS lo [.ref m0, .int t] (fun H => H.size = sz ∧ va_P dD vwCl (mW cI m0 a th σ) H ∧ va_D (fun q => lo ≤ q) (mW cI m0 a th σ))) (va_Qi (fun (r : Int32) (u : Nat × St) => R3 (rg t 1 10000) (s_now σ + cl t ≤ 10000) σ (g_pass σ (cl t)) (nI (s_now σ + cl t)) r u) (fun u t => va_P dD vwCl (mW cI m0 a u.1 u.2) t.heap) (va_A (mW cI m0 a th σ) sz)) 0 0 (va_A (mW cI m0 a th σ) sz) := by
  refine Met.ofW (cc := cX3_pass) (maxL := 2) (ret := (some .int)) (by decide) rfl ?_
  intro p e_ s m args below meth c s₁ B hml hv
  obtain ⟨rfl, hE, hsz, hP, hD0⟩ := hv
  have hx := B.exec
  have hb := B.bytes
  have hr := B.returns
  have hts := atoms_spec (ws := wsX3_pass) B.pre
  have hown : s.vm.findClass RX3 = some m.cls := findClass_of_methodNamed B.named
  have hlocks := B.notSynchronized
  have hK := hE.1.1
  have hinX3 : ∀ w ∈ u_ws RX3 TX3 14, w ∈ wsX3_pass := by decide +kernel
  subst hsz
  have hD := hD0.self (sz := s.heap.size)
  have hAlo : ∀ q, va_A (mW cI m0 a th σ) s.heap.size q → lo ≤ q := eA_lo hD0 hlo
  generalize hAe : va_A (mW cI m0 a th σ) s.heap.size = A at hD hAlo ⊢
  have hA : ∀ q : Nat, s.heap.size ≤ q → A q := fun q h => by rw [← hAe]; exact Or.inr h
  have hS : va_S A s.heap s.heap [] := va_S.rf
  have hP : va_P dD vwCl (mW cI m0 a th σ) s.heap := hP
  obtain ⟨i_now, i_n, i_tk, i_k, i_lt, i_row, i_cp, i_srv⟩ := id hI
  have hl := lv_entry ([.ref m0, .int t]) (n := 2) (Nat.le_of_ble_eq_true rfl)
  rw [lg_entry_eq]
  generalize (lg_sl ([.ref m0, .int t]) ++ List.replicate (2 - (lg_sl ([.ref m0, .int t])).length) Slot.unset).toArray = ls at hl ⊢
  have hl : lv_has ls 2 [(0, .ref m0), (1, .int t)] := hl
  refine lv_aload_n hx hb dX3_pass_0 rfl (lv_at hl 0 rfl) ?_
  refine lv_iload_n hx hb dX3_pass_1 rfl (lv_at hl 1 rfl) ?_
  refine lv_iconst (v := nI 1) hx hb dX3_pass_2 (by decide +kernel) ?_
  refine lv_sipush (v := nI 10000) hx hb dX3_pass_3 (by decide +kernel) ?_
  refine vp_callSi (va_Run.run (va_runS (As := [.int t, .int (nI 1), .int (nI 10000)]) (rest := [.ref m0]) ⟨hx, hb, hml, hown, hts⟩ (c_X3_in l dD cI cR cS lo t (nI 1) (nI 10000)) (va_cwS 3 hts gX3_pass_X3_in rfl rfl rfl (by decide +kernel) ⟨Nat.le_of_ble_eq_true rfl, Nat.le_of_ble_eq_true rfl⟩) (ePreS hE (hS.mono hAlo) trivial) rfl rfl hl.1 rfl (lv_room (Nat.le_of_ble_eq_true rfl)) dX3_pass_6 ⟨Nat.le_of_ble_eq_true rfl, Nat.le_of_ble_eq_true rfl⟩)) (fun r_6 hr_6 => ?_)
  rcases hr_6 with ⟨rfl, hr_6⟩ | ⟨rfl, hr_6⟩
  · obtain ⟨tn, htn1, htn2, rfl⟩ := rg_of (by decide) (by decide) (hr_6)
    refine nv_if_ne (tgt := 16) hx hb dX3_pass_9 (by decide) (by decide) (fun c_9 => ?_) (fun c_9 => absurd c_9 (by decide))
    refine lv_aload_n hx hb dX3_pass_16 rfl (lv_at hl 0 rfl) ?_
    refine va_get (D := dD) (ci := 3) (v := .int (nI (s_now σ))) (C := RX3) (T := TX3) (N := 14) hx hb hts hinX3 hown hK hP 0 rfl rfl 1 (by decide) (hts (.fieldLink RX3 49 "FeatureStoreModel" "now" "I") (by decide +kernel)) (fun _ h9 => h9) rfl dX3_pass_17 ?_
    refine lv_iload_n hx hb dX3_pass_20 rfl (lv_at hl 1 rfl) ?_
    refine nv_iadd hx hb dX3_pass_21 ?_
    refine lv_sipush (v := nI 10000) hx hb dX3_pass_22 (by decide +kernel) ?_
    refine nv_le (tgt := 32) hx hb dX3_pass_25 (by decide) (by omega) (by omega) (fun c_25 => ?_) (fun c_25 => ?_)
    · refine lv_iconst (v := nI 0) hx hb dX3_pass_32 (by decide +kernel) ?_
      refine va_put (D := dD) (ci := 3) (v := .int (nI 0)) (ty := .int) (C := RX3) (T := TX3) (N := 14) hx hb hts hinX3 tyX3 tyX3_ok nmX3 hown hK hP hD hS 0 rfl rfl 0 (by decide) (hts (.fieldLink RX3 37 "FeatureStoreModel" "thrown" "I") (by decide +kernel)) (fun _ h9 => h9) rfl (by decide +kernel) rfl rfl (Nat.le_of_ble_eq_true rfl) dX3_pass_33 (fun H locs hP hD hS => ?_)
      have hP : va_P dD vwCl [(m0, .inr (3, [.int (nI 0), .int (nI (s_now σ)), .ref (a 0), .int (nI (s_n σ)), .ref (a 1), .ref (a 2), .ref (a 3), .ref (a 4), .int (nI (s_tk σ)), .ref (a 5), .int (nI (s_k σ)), .ref (a 6), .ref (a 7), .ref (a 8)])), (a 0, .inl (cI, 6, .inl (fun j => nI (s_lt σ j)))), (a 1, .inl (cI, 200, .inl (fun j => nI (s_pr σ j)))), (a 2, .inl (cI, 200, .inl (fun j => nI (s_ev σ j)))), (a 3, .inl (cI, 200, .inl (fun j => nI (s_ar σ j)))), (a 4, .inl (cI, 200, .inl (fun j => nI (s_vl σ j)))), (a 5, .inl (cI, 60, .inl (fun j => nI (s_cp σ j)))), (a 6, .inl (cI, 200, .inl (fun j => nI (s_sp σ j)))), (a 7, .inl (cI, 200, .inl (fun j => nI (s_sa σ j)))), (a 8, .inl (cI, 200, .inl (fun j => eN (s_sv σ j))))] H := hP
      have hD : va_D A [(m0, .inr (3, [.int (nI 0), .int (nI (s_now σ)), .ref (a 0), .int (nI (s_n σ)), .ref (a 1), .ref (a 2), .ref (a 3), .ref (a 4), .int (nI (s_tk σ)), .ref (a 5), .int (nI (s_k σ)), .ref (a 6), .ref (a 7), .ref (a 8)])), (a 0, .inl (cI, 6, .inl (fun j => nI (s_lt σ j)))), (a 1, .inl (cI, 200, .inl (fun j => nI (s_pr σ j)))), (a 2, .inl (cI, 200, .inl (fun j => nI (s_ev σ j)))), (a 3, .inl (cI, 200, .inl (fun j => nI (s_ar σ j)))), (a 4, .inl (cI, 200, .inl (fun j => nI (s_vl σ j)))), (a 5, .inl (cI, 60, .inl (fun j => nI (s_cp σ j)))), (a 6, .inl (cI, 200, .inl (fun j => nI (s_sp σ j)))), (a 7, .inl (cI, 200, .inl (fun j => nI (s_sa σ j)))), (a 8, .inl (cI, 200, .inl (fun j => eN (s_sv σ j))))] := hD
      refine lv_aload_n hx hb dX3_pass_36 rfl (lv_at hl 0 rfl) ?_
      refine va_get (D := dD) (ci := 3) (v := .int (nI 0)) (C := RX3) (T := TX3) (N := 14) hx hb hts hinX3 hown hK hP 0 rfl rfl 0 (by decide) (hts (.fieldLink RX3 37 "FeatureStoreModel" "thrown" "I") (by decide +kernel)) (fun _ h9 => h9) rfl dX3_pass_37 ?_
      refine nv_if_le (tgt := 45) hx hb dX3_pass_40 (by decide) (by decide) (fun c_40 => ?_) (fun c_40 => absurd c_40 (by decide))
      refine lv_aload_n hx hb dX3_pass_45 rfl (lv_at hl 0 rfl) ?_
      refine lv_dup hx hb dX3_pass_46 rfl ?_
      refine va_get (D := dD) (ci := 3) (v := .int (nI (s_now σ))) (C := RX3) (T := TX3) (N := 14) hx hb hts hinX3 hown hK hP 0 rfl rfl 1 (by decide) (hts (.fieldLink RX3 49 "FeatureStoreModel" "now" "I") (by decide +kernel)) (fun _ h9 => h9) rfl dX3_pass_47 ?_
      refine lv_iload_n hx hb dX3_pass_50 rfl (lv_at hl 1 rfl) ?_
      refine nv_iadd hx hb dX3_pass_51 ?_
      refine va_put (D := dD) (ci := 3) (v := .int (nI ((s_now σ) + tn))) (ty := .int) (C := RX3) (T := TX3) (N := 14) hx hb hts hinX3 tyX3 tyX3_ok nmX3 hown hK hP hD hS 0 rfl rfl 1 (by decide) (hts (.fieldLink RX3 49 "FeatureStoreModel" "now" "I") (by decide +kernel)) (fun _ h9 => h9) rfl (by decide +kernel) rfl rfl (Nat.le_of_ble_eq_true rfl) dX3_pass_52 (fun H locs hP hD hS => ?_)
      have hP : va_P dD vwCl [(m0, .inr (3, [.int (nI 0), .int (nI ((s_now σ) + tn)), .ref (a 0), .int (nI (s_n σ)), .ref (a 1), .ref (a 2), .ref (a 3), .ref (a 4), .int (nI (s_tk σ)), .ref (a 5), .int (nI (s_k σ)), .ref (a 6), .ref (a 7), .ref (a 8)])), (a 0, .inl (cI, 6, .inl (fun j => nI (s_lt σ j)))), (a 1, .inl (cI, 200, .inl (fun j => nI (s_pr σ j)))), (a 2, .inl (cI, 200, .inl (fun j => nI (s_ev σ j)))), (a 3, .inl (cI, 200, .inl (fun j => nI (s_ar σ j)))), (a 4, .inl (cI, 200, .inl (fun j => nI (s_vl σ j)))), (a 5, .inl (cI, 60, .inl (fun j => nI (s_cp σ j)))), (a 6, .inl (cI, 200, .inl (fun j => nI (s_sp σ j)))), (a 7, .inl (cI, 200, .inl (fun j => nI (s_sa σ j)))), (a 8, .inl (cI, 200, .inl (fun j => eN (s_sv σ j))))] H := hP
      have hD : va_D A [(m0, .inr (3, [.int (nI 0), .int (nI ((s_now σ) + tn)), .ref (a 0), .int (nI (s_n σ)), .ref (a 1), .ref (a 2), .ref (a 3), .ref (a 4), .int (nI (s_tk σ)), .ref (a 5), .int (nI (s_k σ)), .ref (a 6), .ref (a 7), .ref (a 8)])), (a 0, .inl (cI, 6, .inl (fun j => nI (s_lt σ j)))), (a 1, .inl (cI, 200, .inl (fun j => nI (s_pr σ j)))), (a 2, .inl (cI, 200, .inl (fun j => nI (s_ev σ j)))), (a 3, .inl (cI, 200, .inl (fun j => nI (s_ar σ j)))), (a 4, .inl (cI, 200, .inl (fun j => nI (s_vl σ j)))), (a 5, .inl (cI, 60, .inl (fun j => nI (s_cp σ j)))), (a 6, .inl (cI, 200, .inl (fun j => nI (s_sp σ j)))), (a 7, .inl (cI, 200, .inl (fun j => nI (s_sa σ j)))), (a 8, .inl (cI, 200, .inl (fun j => eN (s_sv σ j))))] := hD
      refine lv_aload_n hx hb dX3_pass_55 rfl (lv_at hl 0 rfl) ?_
      refine va_get (D := dD) (ci := 3) (v := .int (nI ((s_now σ) + tn))) (C := RX3) (T := TX3) (N := 14) hx hb hts hinX3 hown hK hP 0 rfl rfl 1 (by decide) (hts (.fieldLink RX3 49 "FeatureStoreModel" "now" "I") (by decide +kernel)) (fun _ h9 => h9) rfl dX3_pass_56 ?_
      exact W.iret (v := nI ((s_now σ) + tn)) hx hb hr (fun u9 hu9 hW => ⟨⟨nI ((s_now σ) + tn), (0, g_pass σ tn), rfl, Or.inl ⟨hr_6, by rw [cl_nI (by omega)]; omega, by rw [cl_nI (by omega)], by rw [cl_nI (by omega)]⟩, by have h9 := hP; rw [← hu9] at h9; exact h9⟩, hS.F hu9⟩) hS.2.2 dX3_pass_59
    · refine lv_iconst (v := nI 2) hx hb dX3_pass_28 (by decide +kernel) ?_
      refine lv_goto (tgt := 33) hx hb dX3_pass_29 (by decide) ?_
      refine va_put (D := dD) (ci := 3) (v := .int (nI 2)) (ty := .int) (C := RX3) (T := TX3) (N := 14) hx hb hts hinX3 tyX3 tyX3_ok nmX3 hown hK hP hD hS 0 rfl rfl 0 (by decide) (hts (.fieldLink RX3 37 "FeatureStoreModel" "thrown" "I") (by decide +kernel)) (fun _ h9 => h9) rfl (by decide +kernel) rfl rfl (Nat.le_of_ble_eq_true rfl) dX3_pass_33 (fun H locs hP hD hS => ?_)
      have hP : va_P dD vwCl [(m0, .inr (3, [.int (nI 2), .int (nI (s_now σ)), .ref (a 0), .int (nI (s_n σ)), .ref (a 1), .ref (a 2), .ref (a 3), .ref (a 4), .int (nI (s_tk σ)), .ref (a 5), .int (nI (s_k σ)), .ref (a 6), .ref (a 7), .ref (a 8)])), (a 0, .inl (cI, 6, .inl (fun j => nI (s_lt σ j)))), (a 1, .inl (cI, 200, .inl (fun j => nI (s_pr σ j)))), (a 2, .inl (cI, 200, .inl (fun j => nI (s_ev σ j)))), (a 3, .inl (cI, 200, .inl (fun j => nI (s_ar σ j)))), (a 4, .inl (cI, 200, .inl (fun j => nI (s_vl σ j)))), (a 5, .inl (cI, 60, .inl (fun j => nI (s_cp σ j)))), (a 6, .inl (cI, 200, .inl (fun j => nI (s_sp σ j)))), (a 7, .inl (cI, 200, .inl (fun j => nI (s_sa σ j)))), (a 8, .inl (cI, 200, .inl (fun j => eN (s_sv σ j))))] H := hP
      have hD : va_D A [(m0, .inr (3, [.int (nI 2), .int (nI (s_now σ)), .ref (a 0), .int (nI (s_n σ)), .ref (a 1), .ref (a 2), .ref (a 3), .ref (a 4), .int (nI (s_tk σ)), .ref (a 5), .int (nI (s_k σ)), .ref (a 6), .ref (a 7), .ref (a 8)])), (a 0, .inl (cI, 6, .inl (fun j => nI (s_lt σ j)))), (a 1, .inl (cI, 200, .inl (fun j => nI (s_pr σ j)))), (a 2, .inl (cI, 200, .inl (fun j => nI (s_ev σ j)))), (a 3, .inl (cI, 200, .inl (fun j => nI (s_ar σ j)))), (a 4, .inl (cI, 200, .inl (fun j => nI (s_vl σ j)))), (a 5, .inl (cI, 60, .inl (fun j => nI (s_cp σ j)))), (a 6, .inl (cI, 200, .inl (fun j => nI (s_sp σ j)))), (a 7, .inl (cI, 200, .inl (fun j => nI (s_sa σ j)))), (a 8, .inl (cI, 200, .inl (fun j => eN (s_sv σ j))))] := hD
      refine lv_aload_n hx hb dX3_pass_36 rfl (lv_at hl 0 rfl) ?_
      refine va_get (D := dD) (ci := 3) (v := .int (nI 2)) (C := RX3) (T := TX3) (N := 14) hx hb hts hinX3 hown hK hP 0 rfl rfl 0 (by decide) (hts (.fieldLink RX3 37 "FeatureStoreModel" "thrown" "I") (by decide +kernel)) (fun _ h9 => h9) rfl dX3_pass_37 ?_
      refine nv_if_le (tgt := 45) hx hb dX3_pass_40 (by decide) (by decide) (fun c_40 => absurd c_40 (by decide)) (fun c_40 => ?_)
      refine lv_iconst (v := nI 0) hx hb dX3_pass_43 (by decide +kernel) ?_
      exact W.iret (v := nI 0) hx hb hr (fun u9 hu9 hW => ⟨⟨nI 0, (2, σ), rfl, Or.inr (Or.inr ⟨hr_6, by rw [cl_nI (by omega)]; omega, rfl⟩), by have h9 := hP; rw [← hu9] at h9; exact h9⟩, hS.F hu9⟩) hS.2.2 dX3_pass_44
  · refine nv_if_ne (tgt := 16) hx hb dX3_pass_9 (by decide) (by decide) (fun c_9 => absurd c_9 (by decide)) (fun c_9 => ?_)
    refine lv_iconst (v := nI 1) hx hb dX3_pass_12 (by decide +kernel) ?_
    refine lv_goto (tgt := 33) hx hb dX3_pass_13 (by decide) ?_
    refine va_put (D := dD) (ci := 3) (v := .int (nI 1)) (ty := .int) (C := RX3) (T := TX3) (N := 14) hx hb hts hinX3 tyX3 tyX3_ok nmX3 hown hK hP hD hS 0 rfl rfl 0 (by decide) (hts (.fieldLink RX3 37 "FeatureStoreModel" "thrown" "I") (by decide +kernel)) (fun _ h9 => h9) rfl (by decide +kernel) rfl rfl (Nat.le_of_ble_eq_true rfl) dX3_pass_33 (fun H locs hP hD hS => ?_)
    have hP : va_P dD vwCl [(m0, .inr (3, [.int (nI 1), .int (nI (s_now σ)), .ref (a 0), .int (nI (s_n σ)), .ref (a 1), .ref (a 2), .ref (a 3), .ref (a 4), .int (nI (s_tk σ)), .ref (a 5), .int (nI (s_k σ)), .ref (a 6), .ref (a 7), .ref (a 8)])), (a 0, .inl (cI, 6, .inl (fun j => nI (s_lt σ j)))), (a 1, .inl (cI, 200, .inl (fun j => nI (s_pr σ j)))), (a 2, .inl (cI, 200, .inl (fun j => nI (s_ev σ j)))), (a 3, .inl (cI, 200, .inl (fun j => nI (s_ar σ j)))), (a 4, .inl (cI, 200, .inl (fun j => nI (s_vl σ j)))), (a 5, .inl (cI, 60, .inl (fun j => nI (s_cp σ j)))), (a 6, .inl (cI, 200, .inl (fun j => nI (s_sp σ j)))), (a 7, .inl (cI, 200, .inl (fun j => nI (s_sa σ j)))), (a 8, .inl (cI, 200, .inl (fun j => eN (s_sv σ j))))] H := hP
    have hD : va_D A [(m0, .inr (3, [.int (nI 1), .int (nI (s_now σ)), .ref (a 0), .int (nI (s_n σ)), .ref (a 1), .ref (a 2), .ref (a 3), .ref (a 4), .int (nI (s_tk σ)), .ref (a 5), .int (nI (s_k σ)), .ref (a 6), .ref (a 7), .ref (a 8)])), (a 0, .inl (cI, 6, .inl (fun j => nI (s_lt σ j)))), (a 1, .inl (cI, 200, .inl (fun j => nI (s_pr σ j)))), (a 2, .inl (cI, 200, .inl (fun j => nI (s_ev σ j)))), (a 3, .inl (cI, 200, .inl (fun j => nI (s_ar σ j)))), (a 4, .inl (cI, 200, .inl (fun j => nI (s_vl σ j)))), (a 5, .inl (cI, 60, .inl (fun j => nI (s_cp σ j)))), (a 6, .inl (cI, 200, .inl (fun j => nI (s_sp σ j)))), (a 7, .inl (cI, 200, .inl (fun j => nI (s_sa σ j)))), (a 8, .inl (cI, 200, .inl (fun j => eN (s_sv σ j))))] := hD
    refine lv_aload_n hx hb dX3_pass_36 rfl (lv_at hl 0 rfl) ?_
    refine va_get (D := dD) (ci := 3) (v := .int (nI 1)) (C := RX3) (T := TX3) (N := 14) hx hb hts hinX3 hown hK hP 0 rfl rfl 0 (by decide) (hts (.fieldLink RX3 37 "FeatureStoreModel" "thrown" "I") (by decide +kernel)) (fun _ h9 => h9) rfl dX3_pass_37 ?_
    refine nv_if_le (tgt := 45) hx hb dX3_pass_40 (by decide) (by decide) (fun c_40 => absurd c_40 (by decide)) (fun c_40 => ?_)
    refine lv_iconst (v := nI 0) hx hb dX3_pass_43 (by decide +kernel) ?_
    exact W.iret (v := nI 0) hx hb hr (fun u9 hu9 hW => ⟨⟨nI 0, (1, σ), rfl, Or.inr (Or.inl ⟨hr_6, rfl⟩), by have h9 := hP; rw [← hu9] at h9; exact h9⟩, hS.F hu9⟩) hS.2.2 dX3_pass_44

set_option maxHeartbeats 4000000 in
set_option maxRecDepth 100000 in
theorem c_X3_setLifetime (l : Launch) (dD : va_G) (cI cR cS : ClassId) (lo : Nat) (sz : Nat) (hlo : lo ≤ sz) (m0 : Nat) (a : Nat → Nat) (th : Nat) (σ : St) (hI : sI σ) (f t : Int32) : Met l yX3_setLifetime wsX3_setLifetime ({ frames := 1, cells := 0, slots := 0, locals := 22 }) (ePc dD cI cR cS lo [.ref m0, .int f, .int t] (fun H => H.size = sz ∧ va_P dD vwCl (mW cI m0 a th σ) H ∧ va_D (fun q => lo ≤ q) (mW cI m0 a th σ))) (va_Qi (fun (r : Int32) (u : Nat × St) => R3 (rg f 0 5 ∧ rg t 0 10000) True σ (g_setL σ (cl f) (cl t)) (nI (s_lt σ (cl f))) r u) (fun u t => va_P dD vwCl (mW cI m0 a u.1 u.2) t.heap) (va_A (mW cI m0 a th σ) sz)) 0 0 (va_A (mW cI m0 a th σ) sz) := by
  refine Met.ofW (cc := cX3_setLifetime) (maxL := 4) (ret := (some .int)) (by decide) rfl ?_
  intro p e_ s m args below meth c s₁ B hml hv
  obtain ⟨rfl, hE, hsz, hP, hD0⟩ := hv
  have hx := B.exec
  have hb := B.bytes
  have hr := B.returns
  have hts := atoms_spec (ws := wsX3_setLifetime) B.pre
  have hown : s.vm.findClass RX3 = some m.cls := findClass_of_methodNamed B.named
  have hlocks := B.notSynchronized
  have hK := hE.1.1
  have hinX3 : ∀ w ∈ u_ws RX3 TX3 14, w ∈ wsX3_setLifetime := by decide +kernel
  subst hsz
  have hD := hD0.self (sz := s.heap.size)
  have hAlo : ∀ q, va_A (mW cI m0 a th σ) s.heap.size q → lo ≤ q := eA_lo hD0 hlo
  generalize hAe : va_A (mW cI m0 a th σ) s.heap.size = A at hD hAlo ⊢
  have hA : ∀ q : Nat, s.heap.size ≤ q → A q := fun q h => by rw [← hAe]; exact Or.inr h
  have hS : va_S A s.heap s.heap [] := va_S.rf
  have hP : va_P dD vwCl (mW cI m0 a th σ) s.heap := hP
  obtain ⟨i_now, i_n, i_tk, i_k, i_lt, i_row, i_cp, i_srv⟩ := id hI
  have hl := lv_entry ([.ref m0, .int f, .int t]) (n := 4) (Nat.le_of_ble_eq_true rfl)
  rw [lg_entry_eq]
  generalize (lg_sl ([.ref m0, .int f, .int t]) ++ List.replicate (4 - (lg_sl ([.ref m0, .int f, .int t])).length) Slot.unset).toArray = ls at hl ⊢
  have hl : lv_has ls 4 [(0, .ref m0), (1, .int f), (2, .int t)] := hl
  refine lv_aload_n hx hb dX3_setLifetime_0 rfl (lv_at hl 0 rfl) ?_
  refine lv_iload_n hx hb dX3_setLifetime_1 rfl (lv_at hl 1 rfl) ?_
  refine lv_iconst (v := nI 0) hx hb dX3_setLifetime_2 (by decide +kernel) ?_
  refine lv_iconst (v := nI 5) hx hb dX3_setLifetime_3 (by decide +kernel) ?_
  refine vp_callSi (va_Run.run (va_runS (As := [.int f, .int (nI 0), .int (nI 5)]) (rest := [.ref m0]) ⟨hx, hb, hml, hown, hts⟩ (c_X3_in l dD cI cR cS lo f (nI 0) (nI 5)) (va_cwS 3 hts gX3_setLifetime_X3_in rfl rfl rfl (by decide +kernel) ⟨Nat.le_of_ble_eq_true rfl, Nat.le_of_ble_eq_true rfl⟩) (ePreS hE (hS.mono hAlo) trivial) rfl rfl hl.1 rfl (lv_room (Nat.le_of_ble_eq_true rfl)) dX3_setLifetime_4 ⟨Nat.le_of_ble_eq_true rfl, Nat.le_of_ble_eq_true rfl⟩)) (fun r_4 hr_4 => ?_)
  rcases hr_4 with ⟨rfl, hr_4⟩ | ⟨rfl, hr_4⟩
  · refine nv_if_eq (tgt := 25) hx hb dX3_setLifetime_7 (by decide) (by decide) (fun c_7 => absurd c_7 (by decide)) (fun c_7 => ?_)
    refine lv_iload_n hx hb dX3_setLifetime_10 rfl (lv_at hl 2 rfl) ?_
    refine lv_iconst (v := nI 0) hx hb dX3_setLifetime_11 (by decide +kernel) ?_
    refine lv_sipush (v := nI 10000) hx hb dX3_setLifetime_12 (by decide +kernel) ?_
    refine vp_callSi (va_Run.run (va_runS (As := [.int t, .int (nI 0), .int (nI 10000)]) (rest := [.ref m0]) ⟨hx, hb, hml, hown, hts⟩ (c_X3_in l dD cI cR cS lo t (nI 0) (nI 10000)) (va_cwS 3 hts gX3_setLifetime_X3_in rfl rfl rfl (by decide +kernel) ⟨Nat.le_of_ble_eq_true rfl, Nat.le_of_ble_eq_true rfl⟩) (ePreS hE (hS.mono hAlo) trivial) rfl rfl hl.1 rfl (lv_room (Nat.le_of_ble_eq_true rfl)) dX3_setLifetime_15 ⟨Nat.le_of_ble_eq_true rfl, Nat.le_of_ble_eq_true rfl⟩)) (fun r_15 hr_15 => ?_)
    rcases hr_15 with ⟨rfl, hr_15⟩ | ⟨rfl, hr_15⟩
    · obtain ⟨fn, hfn1, hfn2, rfl⟩ := rg_of (by decide) (by decide) (hr_4)
      obtain ⟨tn, htn1, htn2, rfl⟩ := rg_of (by decide) (by decide) (hr_15)
      refine nv_if_eq (tgt := 25) hx hb dX3_setLifetime_18 (by decide) (by decide) (fun c_18 => absurd c_18 (by decide)) (fun c_18 => ?_)
      refine lv_iconst (v := nI 0) hx hb dX3_setLifetime_21 (by decide +kernel) ?_
      refine lv_goto (tgt := 26) hx hb dX3_setLifetime_22 (by decide) ?_
      refine va_put (D := dD) (ci := 3) (v := .int (nI 0)) (ty := .int) (C := RX3) (T := TX3) (N := 14) hx hb hts hinX3 tyX3 tyX3_ok nmX3 hown hK hP hD hS 0 rfl rfl 0 (by decide) (hts (.fieldLink RX3 37 "FeatureStoreModel" "thrown" "I") (by decide +kernel)) (fun _ h9 => h9) rfl (by decide +kernel) rfl rfl (Nat.le_of_ble_eq_true rfl) dX3_setLifetime_26 (fun H locs hP hD hS => ?_)
      have hP : va_P dD vwCl [(m0, .inr (3, [.int (nI 0), .int (nI (s_now σ)), .ref (a 0), .int (nI (s_n σ)), .ref (a 1), .ref (a 2), .ref (a 3), .ref (a 4), .int (nI (s_tk σ)), .ref (a 5), .int (nI (s_k σ)), .ref (a 6), .ref (a 7), .ref (a 8)])), (a 0, .inl (cI, 6, .inl (fun j => nI (s_lt σ j)))), (a 1, .inl (cI, 200, .inl (fun j => nI (s_pr σ j)))), (a 2, .inl (cI, 200, .inl (fun j => nI (s_ev σ j)))), (a 3, .inl (cI, 200, .inl (fun j => nI (s_ar σ j)))), (a 4, .inl (cI, 200, .inl (fun j => nI (s_vl σ j)))), (a 5, .inl (cI, 60, .inl (fun j => nI (s_cp σ j)))), (a 6, .inl (cI, 200, .inl (fun j => nI (s_sp σ j)))), (a 7, .inl (cI, 200, .inl (fun j => nI (s_sa σ j)))), (a 8, .inl (cI, 200, .inl (fun j => eN (s_sv σ j))))] H := hP
      have hD : va_D A [(m0, .inr (3, [.int (nI 0), .int (nI (s_now σ)), .ref (a 0), .int (nI (s_n σ)), .ref (a 1), .ref (a 2), .ref (a 3), .ref (a 4), .int (nI (s_tk σ)), .ref (a 5), .int (nI (s_k σ)), .ref (a 6), .ref (a 7), .ref (a 8)])), (a 0, .inl (cI, 6, .inl (fun j => nI (s_lt σ j)))), (a 1, .inl (cI, 200, .inl (fun j => nI (s_pr σ j)))), (a 2, .inl (cI, 200, .inl (fun j => nI (s_ev σ j)))), (a 3, .inl (cI, 200, .inl (fun j => nI (s_ar σ j)))), (a 4, .inl (cI, 200, .inl (fun j => nI (s_vl σ j)))), (a 5, .inl (cI, 60, .inl (fun j => nI (s_cp σ j)))), (a 6, .inl (cI, 200, .inl (fun j => nI (s_sp σ j)))), (a 7, .inl (cI, 200, .inl (fun j => nI (s_sa σ j)))), (a 8, .inl (cI, 200, .inl (fun j => eN (s_sv σ j))))] := hD
      refine lv_aload_n hx hb dX3_setLifetime_29 rfl (lv_at hl 0 rfl) ?_
      refine va_get (D := dD) (ci := 3) (v := .int (nI 0)) (C := RX3) (T := TX3) (N := 14) hx hb hts hinX3 hown hK hP 0 rfl rfl 0 (by decide) (hts (.fieldLink RX3 37 "FeatureStoreModel" "thrown" "I") (by decide +kernel)) (fun _ h9 => h9) rfl dX3_setLifetime_30 ?_
      refine nv_if_le (tgt := 38) hx hb dX3_setLifetime_33 (by decide) (by decide) (fun c_33 => ?_) (fun c_33 => absurd c_33 (by decide))
      refine lv_aload_n hx hb dX3_setLifetime_38 rfl (lv_at hl 0 rfl) ?_
      refine va_get (D := dD) (ci := 3) (v := .ref (a 0)) (C := RX3) (T := TX3) (N := 14) hx hb hts hinX3 hown hK hP 0 rfl rfl 2 (by decide) (hts (.fieldLink RX3 7 "FeatureStoreModel" "lifetime" "[I") (by decide +kernel)) (fun _ h9 => h9) rfl dX3_setLifetime_39 ?_
      refine lv_iload_n hx hb dX3_setLifetime_42 rfl (lv_at hl 1 rfl) ?_
      refine nv_iald (q0 := 1) (t0 := 0) (s_lt σ) hx hb hK hP rfl rfl (by omega) (by decide) dX3_setLifetime_43 ?_
      refine lv_istore_n (lv' := [(3, .int (nI (s_lt σ fn))), (0, .ref m0), (1, .int (nI fn)), (2, .int (nI tn))]) hx hb dX3_setLifetime_44 rfl hl (by decide) rfl (fun ls hl => ?_)
      refine lv_aload_n hx hb dX3_setLifetime_45 rfl (lv_at hl 1 rfl) ?_
      refine va_get (D := dD) (ci := 3) (v := .ref (a 0)) (C := RX3) (T := TX3) (N := 14) hx hb hts hinX3 hown hK hP 0 rfl rfl 2 (by decide) (hts (.fieldLink RX3 7 "FeatureStoreModel" "lifetime" "[I") (by decide +kernel)) (fun _ h9 => h9) rfl dX3_setLifetime_46 ?_
      refine lv_iload_n hx hb dX3_setLifetime_49 rfl (lv_at hl 2 rfl) ?_
      refine lv_iload_n hx hb dX3_setLifetime_50 rfl (lv_at hl 3 rfl) ?_
      refine nv_iast (q0 := 1) (t0 := 0) (s_lt σ) hx hb hK hP hD hS rfl rfl (by omega) (by decide) dX3_setLifetime_51 (fun H locs hP hD hS => ?_)
      have hP : va_P dD vwCl [(m0, .inr (3, [.int (nI 0), .int (nI (s_now σ)), .ref (a 0), .int (nI (s_n σ)), .ref (a 1), .ref (a 2), .ref (a 3), .ref (a 4), .int (nI (s_tk σ)), .ref (a 5), .int (nI (s_k σ)), .ref (a 6), .ref (a 7), .ref (a 8)])), (a 0, .inl (cI, 6, .inl (fun j => nI ((uN (s_lt σ) fn tn) j)))), (a 1, .inl (cI, 200, .inl (fun j => nI (s_pr σ j)))), (a 2, .inl (cI, 200, .inl (fun j => nI (s_ev σ j)))), (a 3, .inl (cI, 200, .inl (fun j => nI (s_ar σ j)))), (a 4, .inl (cI, 200, .inl (fun j => nI (s_vl σ j)))), (a 5, .inl (cI, 60, .inl (fun j => nI (s_cp σ j)))), (a 6, .inl (cI, 200, .inl (fun j => nI (s_sp σ j)))), (a 7, .inl (cI, 200, .inl (fun j => nI (s_sa σ j)))), (a 8, .inl (cI, 200, .inl (fun j => eN (s_sv σ j))))] H := hP
      have hD : va_D A [(m0, .inr (3, [.int (nI 0), .int (nI (s_now σ)), .ref (a 0), .int (nI (s_n σ)), .ref (a 1), .ref (a 2), .ref (a 3), .ref (a 4), .int (nI (s_tk σ)), .ref (a 5), .int (nI (s_k σ)), .ref (a 6), .ref (a 7), .ref (a 8)])), (a 0, .inl (cI, 6, .inl (fun j => nI ((uN (s_lt σ) fn tn) j)))), (a 1, .inl (cI, 200, .inl (fun j => nI (s_pr σ j)))), (a 2, .inl (cI, 200, .inl (fun j => nI (s_ev σ j)))), (a 3, .inl (cI, 200, .inl (fun j => nI (s_ar σ j)))), (a 4, .inl (cI, 200, .inl (fun j => nI (s_vl σ j)))), (a 5, .inl (cI, 60, .inl (fun j => nI (s_cp σ j)))), (a 6, .inl (cI, 200, .inl (fun j => nI (s_sp σ j)))), (a 7, .inl (cI, 200, .inl (fun j => nI (s_sa σ j)))), (a 8, .inl (cI, 200, .inl (fun j => eN (s_sv σ j))))] := hD
      refine lv_iload_n hx hb dX3_setLifetime_52 rfl (lv_at hl 0 rfl) ?_
      exact W.iret (v := nI (s_lt σ fn)) hx hb hr (fun u9 hu9 hW => ⟨⟨nI (s_lt σ fn), (0, g_setL σ fn tn), rfl, Or.inl ⟨⟨hr_4, hr_15⟩, trivial, by rw [cl_nI (by omega), cl_nI (by omega)], by rw [cl_nI (by omega)]⟩, by have h9 := hP; rw [← hu9] at h9; exact h9⟩, hS.F hu9⟩) hS.2.2 dX3_setLifetime_53
    · refine nv_if_eq (tgt := 25) hx hb dX3_setLifetime_18 (by decide) (by decide) (fun c_18 => ?_) (fun c_18 => absurd c_18 (by decide))
      refine lv_iconst (v := nI 1) hx hb dX3_setLifetime_25 (by decide +kernel) ?_
      refine va_put (D := dD) (ci := 3) (v := .int (nI 1)) (ty := .int) (C := RX3) (T := TX3) (N := 14) hx hb hts hinX3 tyX3 tyX3_ok nmX3 hown hK hP hD hS 0 rfl rfl 0 (by decide) (hts (.fieldLink RX3 37 "FeatureStoreModel" "thrown" "I") (by decide +kernel)) (fun _ h9 => h9) rfl (by decide +kernel) rfl rfl (Nat.le_of_ble_eq_true rfl) dX3_setLifetime_26 (fun H locs hP hD hS => ?_)
      have hP : va_P dD vwCl [(m0, .inr (3, [.int (nI 1), .int (nI (s_now σ)), .ref (a 0), .int (nI (s_n σ)), .ref (a 1), .ref (a 2), .ref (a 3), .ref (a 4), .int (nI (s_tk σ)), .ref (a 5), .int (nI (s_k σ)), .ref (a 6), .ref (a 7), .ref (a 8)])), (a 0, .inl (cI, 6, .inl (fun j => nI (s_lt σ j)))), (a 1, .inl (cI, 200, .inl (fun j => nI (s_pr σ j)))), (a 2, .inl (cI, 200, .inl (fun j => nI (s_ev σ j)))), (a 3, .inl (cI, 200, .inl (fun j => nI (s_ar σ j)))), (a 4, .inl (cI, 200, .inl (fun j => nI (s_vl σ j)))), (a 5, .inl (cI, 60, .inl (fun j => nI (s_cp σ j)))), (a 6, .inl (cI, 200, .inl (fun j => nI (s_sp σ j)))), (a 7, .inl (cI, 200, .inl (fun j => nI (s_sa σ j)))), (a 8, .inl (cI, 200, .inl (fun j => eN (s_sv σ j))))] H := hP
      have hD : va_D A [(m0, .inr (3, [.int (nI 1), .int (nI (s_now σ)), .ref (a 0), .int (nI (s_n σ)), .ref (a 1), .ref (a 2), .ref (a 3), .ref (a 4), .int (nI (s_tk σ)), .ref (a 5), .int (nI (s_k σ)), .ref (a 6), .ref (a 7), .ref (a 8)])), (a 0, .inl (cI, 6, .inl (fun j => nI (s_lt σ j)))), (a 1, .inl (cI, 200, .inl (fun j => nI (s_pr σ j)))), (a 2, .inl (cI, 200, .inl (fun j => nI (s_ev σ j)))), (a 3, .inl (cI, 200, .inl (fun j => nI (s_ar σ j)))), (a 4, .inl (cI, 200, .inl (fun j => nI (s_vl σ j)))), (a 5, .inl (cI, 60, .inl (fun j => nI (s_cp σ j)))), (a 6, .inl (cI, 200, .inl (fun j => nI (s_sp σ j)))), (a 7, .inl (cI, 200, .inl (fun j => nI (s_sa σ j)))), (a 8, .inl (cI, 200, .inl (fun j => eN (s_sv σ j))))] := hD
      refine lv_aload_n hx hb dX3_setLifetime_29 rfl (lv_at hl 0 rfl) ?_
      refine va_get (D := dD) (ci := 3) (v := .int (nI 1)) (C := RX3) (T := TX3) (N := 14) hx hb hts hinX3 hown hK hP 0 rfl rfl 0 (by decide) (hts (.fieldLink RX3 37 "FeatureStoreModel" "thrown" "I") (by decide +kernel)) (fun _ h9 => h9) rfl dX3_setLifetime_30 ?_
      refine nv_if_le (tgt := 38) hx hb dX3_setLifetime_33 (by decide) (by decide) (fun c_33 => absurd c_33 (by decide)) (fun c_33 => ?_)
      refine lv_iconst (v := nI 0) hx hb dX3_setLifetime_36 (by decide +kernel) ?_
      exact W.iret (v := nI 0) hx hb hr (fun u9 hu9 hW => ⟨⟨nI 0, (1, σ), rfl, Or.inr (Or.inl ⟨fun h => hr_15 h.2, rfl⟩), by have h9 := hP; rw [← hu9] at h9; exact h9⟩, hS.F hu9⟩) hS.2.2 dX3_setLifetime_37
  · refine nv_if_eq (tgt := 25) hx hb dX3_setLifetime_7 (by decide) (by decide) (fun c_7 => ?_) (fun c_7 => absurd c_7 (by decide))
    refine lv_iconst (v := nI 1) hx hb dX3_setLifetime_25 (by decide +kernel) ?_
    refine va_put (D := dD) (ci := 3) (v := .int (nI 1)) (ty := .int) (C := RX3) (T := TX3) (N := 14) hx hb hts hinX3 tyX3 tyX3_ok nmX3 hown hK hP hD hS 0 rfl rfl 0 (by decide) (hts (.fieldLink RX3 37 "FeatureStoreModel" "thrown" "I") (by decide +kernel)) (fun _ h9 => h9) rfl (by decide +kernel) rfl rfl (Nat.le_of_ble_eq_true rfl) dX3_setLifetime_26 (fun H locs hP hD hS => ?_)
    have hP : va_P dD vwCl [(m0, .inr (3, [.int (nI 1), .int (nI (s_now σ)), .ref (a 0), .int (nI (s_n σ)), .ref (a 1), .ref (a 2), .ref (a 3), .ref (a 4), .int (nI (s_tk σ)), .ref (a 5), .int (nI (s_k σ)), .ref (a 6), .ref (a 7), .ref (a 8)])), (a 0, .inl (cI, 6, .inl (fun j => nI (s_lt σ j)))), (a 1, .inl (cI, 200, .inl (fun j => nI (s_pr σ j)))), (a 2, .inl (cI, 200, .inl (fun j => nI (s_ev σ j)))), (a 3, .inl (cI, 200, .inl (fun j => nI (s_ar σ j)))), (a 4, .inl (cI, 200, .inl (fun j => nI (s_vl σ j)))), (a 5, .inl (cI, 60, .inl (fun j => nI (s_cp σ j)))), (a 6, .inl (cI, 200, .inl (fun j => nI (s_sp σ j)))), (a 7, .inl (cI, 200, .inl (fun j => nI (s_sa σ j)))), (a 8, .inl (cI, 200, .inl (fun j => eN (s_sv σ j))))] H := hP
    have hD : va_D A [(m0, .inr (3, [.int (nI 1), .int (nI (s_now σ)), .ref (a 0), .int (nI (s_n σ)), .ref (a 1), .ref (a 2), .ref (a 3), .ref (a 4), .int (nI (s_tk σ)), .ref (a 5), .int (nI (s_k σ)), .ref (a 6), .ref (a 7), .ref (a 8)])), (a 0, .inl (cI, 6, .inl (fun j => nI (s_lt σ j)))), (a 1, .inl (cI, 200, .inl (fun j => nI (s_pr σ j)))), (a 2, .inl (cI, 200, .inl (fun j => nI (s_ev σ j)))), (a 3, .inl (cI, 200, .inl (fun j => nI (s_ar σ j)))), (a 4, .inl (cI, 200, .inl (fun j => nI (s_vl σ j)))), (a 5, .inl (cI, 60, .inl (fun j => nI (s_cp σ j)))), (a 6, .inl (cI, 200, .inl (fun j => nI (s_sp σ j)))), (a 7, .inl (cI, 200, .inl (fun j => nI (s_sa σ j)))), (a 8, .inl (cI, 200, .inl (fun j => eN (s_sv σ j))))] := hD
    refine lv_aload_n hx hb dX3_setLifetime_29 rfl (lv_at hl 0 rfl) ?_
    refine va_get (D := dD) (ci := 3) (v := .int (nI 1)) (C := RX3) (T := TX3) (N := 14) hx hb hts hinX3 hown hK hP 0 rfl rfl 0 (by decide) (hts (.fieldLink RX3 37 "FeatureStoreModel" "thrown" "I") (by decide +kernel)) (fun _ h9 => h9) rfl dX3_setLifetime_30 ?_
    refine nv_if_le (tgt := 38) hx hb dX3_setLifetime_33 (by decide) (by decide) (fun c_33 => absurd c_33 (by decide)) (fun c_33 => ?_)
    refine lv_iconst (v := nI 0) hx hb dX3_setLifetime_36 (by decide +kernel) ?_
    exact W.iret (v := nI 0) hx hb hr (fun u9 hu9 hW => ⟨⟨nI 0, (1, σ), rfl, Or.inr (Or.inl ⟨fun h => hr_4 h.1, rfl⟩), by have h9 := hP; rw [← hu9] at h9; exact h9⟩, hS.F hu9⟩) hS.2.2 dX3_setLifetime_37

set_option maxHeartbeats 4000000 in
set_option maxRecDepth 100000 in
theorem c_X3_arrive (l : Launch) (dD : va_G) (cI cR cS : ClassId) (lo : Nat) (sz : Nat) (hlo : lo ≤ sz) (m0 : Nat) (a : Nat → Nat) (th : Nat) (σ : St) (hI : sI σ) (f e v x : Int32) : Met l yX3_arrive wsX3_arrive ({ frames := 2, cells := 0, slots := 0, locals := 43 }) (ePc dD cI cR cS lo [.ref m0, .int f, .int e, .int v, .int x] (fun H => H.size = sz ∧ va_P dD vwCl (mW cI m0 a th σ) H ∧ va_D (fun q => lo ≤ q) (mW cI m0 a th σ))) (va_Qi (fun (r : Int32) (u : Nat × St) => R3 (okP f e ∧ rg v 0 (s_now σ) ∧ rg x 0 100000) (s_n σ < 200) σ (g_arrive σ (plN f e) (cl v) (cl x)) (nI (s_n σ)) r u) (fun u t => va_P dD vwCl (mW cI m0 a u.1 u.2) t.heap) (va_A (mW cI m0 a th σ) sz)) 0 0 (va_A (mW cI m0 a th σ) sz) := by
  refine Met.ofW (cc := cX3_arrive) (maxL := 6) (ret := (some .int)) (by decide) rfl ?_
  intro p e_ s m args below meth c s₁ B hml hv
  obtain ⟨rfl, hE, hsz, hP, hD0⟩ := hv
  have hx := B.exec
  have hb := B.bytes
  have hr := B.returns
  have hts := atoms_spec (ws := wsX3_arrive) B.pre
  have hown : s.vm.findClass RX3 = some m.cls := findClass_of_methodNamed B.named
  have hlocks := B.notSynchronized
  have hK := hE.1.1
  have hinX3 : ∀ w ∈ u_ws RX3 TX3 14, w ∈ wsX3_arrive := by decide +kernel
  subst hsz
  have hD := hD0.self (sz := s.heap.size)
  have hAlo : ∀ q, va_A (mW cI m0 a th σ) s.heap.size q → lo ≤ q := eA_lo hD0 hlo
  generalize hAe : va_A (mW cI m0 a th σ) s.heap.size = A at hD hAlo ⊢
  have hA : ∀ q : Nat, s.heap.size ≤ q → A q := fun q h => by rw [← hAe]; exact Or.inr h
  have hS : va_S A s.heap s.heap [] := va_S.rf
  have hP : va_P dD vwCl (mW cI m0 a th σ) s.heap := hP
  obtain ⟨i_now, i_n, i_tk, i_k, i_lt, i_row, i_cp, i_srv⟩ := id hI
  have hl := lv_entry ([.ref m0, .int f, .int e, .int v, .int x]) (n := 6) (Nat.le_of_ble_eq_true rfl)
  rw [lg_entry_eq]
  generalize (lg_sl ([.ref m0, .int f, .int e, .int v, .int x]) ++ List.replicate (6 - (lg_sl ([.ref m0, .int f, .int e, .int v, .int x])).length) Slot.unset).toArray = ls at hl ⊢
  have hl : lv_has ls 6 [(0, .ref m0), (1, .int f), (2, .int e), (3, .int v), (4, .int x)] := hl
  refine lv_iload_n hx hb dX3_arrive_0 rfl (lv_at hl 1 rfl) ?_
  refine lv_iload_n hx hb dX3_arrive_1 rfl (lv_at hl 2 rfl) ?_
  refine vp_callSi (va_Run.run (va_runS (As := [.int f, .int e]) (rest := []) ⟨hx, hb, hml, hown, hts⟩ (c_X3_isPair l dD cI cR cS lo f e) (va_cwS 2 hts gX3_arrive_X3_isPair rfl rfl rfl (by decide +kernel) ⟨Nat.le_of_ble_eq_true rfl, Nat.le_of_ble_eq_true rfl⟩) (ePreS hE (hS.mono hAlo) trivial) rfl rfl hl.1 rfl (lv_room (Nat.le_of_ble_eq_true rfl)) dX3_arrive_2 ⟨Nat.le_of_ble_eq_true rfl, Nat.le_of_ble_eq_true rfl⟩)) (fun r_2 hr_2 => ?_)
  rcases hr_2 with ⟨rfl, hr_2⟩ | ⟨rfl, hr_2⟩
  · refine nv_if_eq (tgt := 35) hx hb dX3_arrive_5 (by decide) (by decide) (fun c_5 => absurd c_5 (by decide)) (fun c_5 => ?_)
    refine lv_iload_n hx hb dX3_arrive_8 rfl (lv_at hl 3 rfl) ?_
    refine lv_iconst (v := nI 0) hx hb dX3_arrive_9 (by decide +kernel) ?_
    refine lv_aload_n hx hb dX3_arrive_10 rfl (lv_at hl 0 rfl) ?_
    refine va_get (D := dD) (ci := 3) (v := .int (nI (s_now σ))) (C := RX3) (T := TX3) (N := 14) hx hb hts hinX3 hown hK hP 0 rfl rfl 1 (by decide) (hts (.fieldLink RX3 49 "FeatureStoreModel" "now" "I") (by decide +kernel)) (fun _ h9 => h9) rfl dX3_arrive_11 ?_
    refine vp_callSi (va_Run.run (va_runS (As := [.int v, .int (nI 0), .int (nI (s_now σ))]) (rest := []) ⟨hx, hb, hml, hown, hts⟩ (c_X3_in l dD cI cR cS lo v (nI 0) (nI (s_now σ))) (va_cwS 3 hts gX3_arrive_X3_in rfl rfl rfl (by decide +kernel) ⟨Nat.le_of_ble_eq_true rfl, Nat.le_of_ble_eq_true rfl⟩) (ePreS hE (hS.mono hAlo) trivial) rfl rfl hl.1 rfl (lv_room (Nat.le_of_ble_eq_true rfl)) dX3_arrive_14 ⟨Nat.le_of_ble_eq_true rfl, Nat.le_of_ble_eq_true rfl⟩)) (fun r_14 hr_14 => ?_)
    rcases hr_14 with ⟨rfl, hr_14⟩ | ⟨rfl, hr_14⟩
    · refine nv_if_eq (tgt := 35) hx hb dX3_arrive_17 (by decide) (by decide) (fun c_17 => absurd c_17 (by decide)) (fun c_17 => ?_)
      refine lv_iload hx hb dX3_arrive_20 (lv_at hl 4 rfl) ?_
      refine lv_iconst (v := nI 0) hx hb dX3_arrive_22 (by decide +kernel) ?_
      refine lv_ldc (v := nI 100000) hx hb hown (hts (.constant RX3 52 100000) (by decide +kernel)) dX3_arrive_23 ?_
      refine vp_callSi (va_Run.run (va_runS (As := [.int x, .int (nI 0), .int (nI 100000)]) (rest := []) ⟨hx, hb, hml, hown, hts⟩ (c_X3_in l dD cI cR cS lo x (nI 0) (nI 100000)) (va_cwS 3 hts gX3_arrive_X3_in rfl rfl rfl (by decide +kernel) ⟨Nat.le_of_ble_eq_true rfl, Nat.le_of_ble_eq_true rfl⟩) (ePreS hE (hS.mono hAlo) trivial) rfl rfl hl.1 rfl (lv_room (Nat.le_of_ble_eq_true rfl)) dX3_arrive_25 ⟨Nat.le_of_ble_eq_true rfl, Nat.le_of_ble_eq_true rfl⟩)) (fun r_25 hr_25 => ?_)
      rcases hr_25 with ⟨rfl, hr_25⟩ | ⟨rfl, hr_25⟩
      · obtain ⟨fn, hfn1, hfn2, rfl⟩ := rg_of (by decide) (by decide) (hr_2.1)
        obtain ⟨en, hen1, hen2, rfl⟩ := rg_of (by decide) (by decide) (hr_2.2)
        obtain ⟨vn, hvn1, hvn2, rfl⟩ := rg_of (by decide) (by omega) (hr_14)
        obtain ⟨xn, hxn1, hxn2, rfl⟩ := rg_of (by decide) (by decide) (hr_25)
        refine nv_if_eq (tgt := 35) hx hb dX3_arrive_28 (by decide) (by decide) (fun c_28 => absurd c_28 (by decide)) (fun c_28 => ?_)
        refine lv_iconst (v := nI 1) hx hb dX3_arrive_31 (by decide +kernel) ?_
        refine lv_goto (tgt := 36) hx hb dX3_arrive_32 (by decide) ?_
        refine lv_istore (lv' := [(5, .int (nI 1)), (0, .ref m0), (1, .int (nI fn)), (2, .int (nI en)), (3, .int (nI vn)), (4, .int (nI xn))]) hx hb dX3_arrive_36 hl (by decide) rfl (fun ls hl => ?_)
        refine lv_aload_n hx hb dX3_arrive_38 rfl (lv_at hl 1 rfl) ?_
        refine lv_iload hx hb dX3_arrive_39 (lv_at hl 0 rfl) ?_
        refine nv_if_ne (tgt := 48) hx hb dX3_arrive_41 (by decide) (by decide) (fun c_41 => ?_) (fun c_41 => absurd c_41 (by decide))
        refine lv_aload_n hx hb dX3_arrive_48 rfl (lv_at hl 1 rfl) ?_
        refine va_get (D := dD) (ci := 3) (v := .int (nI (s_n σ))) (C := RX3) (T := TX3) (N := 14) hx hb hts hinX3 hown hK hP 0 rfl rfl 3 (by decide) (hts (.fieldLink RX3 53 "FeatureStoreModel" "rows" "I") (by decide +kernel)) (fun _ h9 => h9) rfl dX3_arrive_49 ?_
        refine lv_sipush (v := nI 200) hx hb dX3_arrive_52 (by decide +kernel) ?_
        refine nv_ne (tgt := 62) hx hb dX3_arrive_55 (by decide) (by omega) (by omega) (fun c_55 => ?_) (fun c_55 => ?_)
        · refine lv_iconst (v := nI 0) hx hb dX3_arrive_62 (by decide +kernel) ?_
          refine va_put (D := dD) (ci := 3) (v := .int (nI 0)) (ty := .int) (C := RX3) (T := TX3) (N := 14) hx hb hts hinX3 tyX3 tyX3_ok nmX3 hown hK hP hD hS 0 rfl rfl 0 (by decide) (hts (.fieldLink RX3 37 "FeatureStoreModel" "thrown" "I") (by decide +kernel)) (fun _ h9 => h9) rfl (by decide +kernel) rfl rfl (Nat.le_of_ble_eq_true rfl) dX3_arrive_63 (fun H locs hP hD hS => ?_)
          have hP : va_P dD vwCl [(m0, .inr (3, [.int (nI 0), .int (nI (s_now σ)), .ref (a 0), .int (nI (s_n σ)), .ref (a 1), .ref (a 2), .ref (a 3), .ref (a 4), .int (nI (s_tk σ)), .ref (a 5), .int (nI (s_k σ)), .ref (a 6), .ref (a 7), .ref (a 8)])), (a 0, .inl (cI, 6, .inl (fun j => nI (s_lt σ j)))), (a 1, .inl (cI, 200, .inl (fun j => nI (s_pr σ j)))), (a 2, .inl (cI, 200, .inl (fun j => nI (s_ev σ j)))), (a 3, .inl (cI, 200, .inl (fun j => nI (s_ar σ j)))), (a 4, .inl (cI, 200, .inl (fun j => nI (s_vl σ j)))), (a 5, .inl (cI, 60, .inl (fun j => nI (s_cp σ j)))), (a 6, .inl (cI, 200, .inl (fun j => nI (s_sp σ j)))), (a 7, .inl (cI, 200, .inl (fun j => nI (s_sa σ j)))), (a 8, .inl (cI, 200, .inl (fun j => eN (s_sv σ j))))] H := hP
          have hD : va_D A [(m0, .inr (3, [.int (nI 0), .int (nI (s_now σ)), .ref (a 0), .int (nI (s_n σ)), .ref (a 1), .ref (a 2), .ref (a 3), .ref (a 4), .int (nI (s_tk σ)), .ref (a 5), .int (nI (s_k σ)), .ref (a 6), .ref (a 7), .ref (a 8)])), (a 0, .inl (cI, 6, .inl (fun j => nI (s_lt σ j)))), (a 1, .inl (cI, 200, .inl (fun j => nI (s_pr σ j)))), (a 2, .inl (cI, 200, .inl (fun j => nI (s_ev σ j)))), (a 3, .inl (cI, 200, .inl (fun j => nI (s_ar σ j)))), (a 4, .inl (cI, 200, .inl (fun j => nI (s_vl σ j)))), (a 5, .inl (cI, 60, .inl (fun j => nI (s_cp σ j)))), (a 6, .inl (cI, 200, .inl (fun j => nI (s_sp σ j)))), (a 7, .inl (cI, 200, .inl (fun j => nI (s_sa σ j)))), (a 8, .inl (cI, 200, .inl (fun j => eN (s_sv σ j))))] := hD
          refine lv_aload_n hx hb dX3_arrive_66 rfl (lv_at hl 1 rfl) ?_
          refine va_get (D := dD) (ci := 3) (v := .int (nI 0)) (C := RX3) (T := TX3) (N := 14) hx hb hts hinX3 hown hK hP 0 rfl rfl 0 (by decide) (hts (.fieldLink RX3 37 "FeatureStoreModel" "thrown" "I") (by decide +kernel)) (fun _ h9 => h9) rfl dX3_arrive_67 ?_
          refine nv_if_le (tgt := 75) hx hb dX3_arrive_70 (by decide) (by decide) (fun c_70 => ?_) (fun c_70 => absurd c_70 (by decide))
          refine lv_aload_n hx hb dX3_arrive_75 rfl (lv_at hl 1 rfl) ?_
          refine va_get (D := dD) (ci := 3) (v := .ref (a 1)) (C := RX3) (T := TX3) (N := 14) hx hb hts hinX3 hown hK hP 0 rfl rfl 4 (by decide) (hts (.fieldLink RX3 13 "FeatureStoreModel" "pair" "[I") (by decide +kernel)) (fun _ h9 => h9) rfl dX3_arrive_76 ?_
          refine lv_aload_n hx hb dX3_arrive_79 rfl (lv_at hl 1 rfl) ?_
          refine va_get (D := dD) (ci := 3) (v := .int (nI (s_n σ))) (C := RX3) (T := TX3) (N := 14) hx hb hts hinX3 hown hK hP 0 rfl rfl 3 (by decide) (hts (.fieldLink RX3 53 "FeatureStoreModel" "rows" "I") (by decide +kernel)) (fun _ h9 => h9) rfl dX3_arrive_80 ?_
          refine lv_iload_n hx hb dX3_arrive_83 rfl (lv_at hl 2 rfl) ?_
          refine lv_iload_n hx hb dX3_arrive_84 rfl (lv_at hl 3 rfl) ?_
          refine vp_callSi (va_Run.run (va_runS (As := [.int (nI fn), .int (nI en)]) (rest := [.int (nI (s_n σ)), .ref (a 1)]) ⟨hx, hb, hml, hown, hts⟩ (c_X3_pairOf l dD cI cR cS lo fn en) (va_cwS 2 hts gX3_arrive_X3_pairOf rfl rfl rfl (by decide +kernel) ⟨Nat.le_of_ble_eq_true rfl, Nat.le_of_ble_eq_true rfl⟩) (ePreS hE (hS.mono hAlo) trivial) rfl rfl hl.1 rfl (lv_room (Nat.le_of_ble_eq_true rfl)) dX3_arrive_85 ⟨Nat.le_of_ble_eq_true rfl, Nat.le_of_ble_eq_true rfl⟩)) (fun r_85 hr_85 => ?_)
          subst hr_85
          refine nv_iast (q0 := 2) (t0 := 0) (s_pr σ) hx hb hK hP hD hS rfl rfl (by omega) (by decide) dX3_arrive_88 (fun H locs hP hD hS => ?_)
          have hP : va_P dD vwCl [(m0, .inr (3, [.int (nI 0), .int (nI (s_now σ)), .ref (a 0), .int (nI (s_n σ)), .ref (a 1), .ref (a 2), .ref (a 3), .ref (a 4), .int (nI (s_tk σ)), .ref (a 5), .int (nI (s_k σ)), .ref (a 6), .ref (a 7), .ref (a 8)])), (a 0, .inl (cI, 6, .inl (fun j => nI (s_lt σ j)))), (a 1, .inl (cI, 200, .inl (fun j => nI ((uN (s_pr σ) (s_n σ) (10 * fn + en)) j)))), (a 2, .inl (cI, 200, .inl (fun j => nI (s_ev σ j)))), (a 3, .inl (cI, 200, .inl (fun j => nI (s_ar σ j)))), (a 4, .inl (cI, 200, .inl (fun j => nI (s_vl σ j)))), (a 5, .inl (cI, 60, .inl (fun j => nI (s_cp σ j)))), (a 6, .inl (cI, 200, .inl (fun j => nI (s_sp σ j)))), (a 7, .inl (cI, 200, .inl (fun j => nI (s_sa σ j)))), (a 8, .inl (cI, 200, .inl (fun j => eN (s_sv σ j))))] H := hP
          have hD : va_D A [(m0, .inr (3, [.int (nI 0), .int (nI (s_now σ)), .ref (a 0), .int (nI (s_n σ)), .ref (a 1), .ref (a 2), .ref (a 3), .ref (a 4), .int (nI (s_tk σ)), .ref (a 5), .int (nI (s_k σ)), .ref (a 6), .ref (a 7), .ref (a 8)])), (a 0, .inl (cI, 6, .inl (fun j => nI (s_lt σ j)))), (a 1, .inl (cI, 200, .inl (fun j => nI ((uN (s_pr σ) (s_n σ) (10 * fn + en)) j)))), (a 2, .inl (cI, 200, .inl (fun j => nI (s_ev σ j)))), (a 3, .inl (cI, 200, .inl (fun j => nI (s_ar σ j)))), (a 4, .inl (cI, 200, .inl (fun j => nI (s_vl σ j)))), (a 5, .inl (cI, 60, .inl (fun j => nI (s_cp σ j)))), (a 6, .inl (cI, 200, .inl (fun j => nI (s_sp σ j)))), (a 7, .inl (cI, 200, .inl (fun j => nI (s_sa σ j)))), (a 8, .inl (cI, 200, .inl (fun j => eN (s_sv σ j))))] := hD
          refine lv_aload_n hx hb dX3_arrive_89 rfl (lv_at hl 1 rfl) ?_
          refine va_get (D := dD) (ci := 3) (v := .ref (a 2)) (C := RX3) (T := TX3) (N := 14) hx hb hts hinX3 hown hK hP 0 rfl rfl 5 (by decide) (hts (.fieldLink RX3 16 "FeatureStoreModel" "event" "[I") (by decide +kernel)) (fun _ h9 => h9) rfl dX3_arrive_90 ?_
          refine lv_aload_n hx hb dX3_arrive_93 rfl (lv_at hl 1 rfl) ?_
          refine va_get (D := dD) (ci := 3) (v := .int (nI (s_n σ))) (C := RX3) (T := TX3) (N := 14) hx hb hts hinX3 hown hK hP 0 rfl rfl 3 (by decide) (hts (.fieldLink RX3 53 "FeatureStoreModel" "rows" "I") (by decide +kernel)) (fun _ h9 => h9) rfl dX3_arrive_94 ?_
          refine lv_iload_n hx hb dX3_arrive_97 rfl (lv_at hl 4 rfl) ?_
          refine nv_iast (q0 := 3) (t0 := 0) (s_ev σ) hx hb hK hP hD hS rfl rfl (by omega) (by decide) dX3_arrive_98 (fun H locs hP hD hS => ?_)
          have hP : va_P dD vwCl [(m0, .inr (3, [.int (nI 0), .int (nI (s_now σ)), .ref (a 0), .int (nI (s_n σ)), .ref (a 1), .ref (a 2), .ref (a 3), .ref (a 4), .int (nI (s_tk σ)), .ref (a 5), .int (nI (s_k σ)), .ref (a 6), .ref (a 7), .ref (a 8)])), (a 0, .inl (cI, 6, .inl (fun j => nI (s_lt σ j)))), (a 1, .inl (cI, 200, .inl (fun j => nI ((uN (s_pr σ) (s_n σ) (10 * fn + en)) j)))), (a 2, .inl (cI, 200, .inl (fun j => nI ((uN (s_ev σ) (s_n σ) vn) j)))), (a 3, .inl (cI, 200, .inl (fun j => nI (s_ar σ j)))), (a 4, .inl (cI, 200, .inl (fun j => nI (s_vl σ j)))), (a 5, .inl (cI, 60, .inl (fun j => nI (s_cp σ j)))), (a 6, .inl (cI, 200, .inl (fun j => nI (s_sp σ j)))), (a 7, .inl (cI, 200, .inl (fun j => nI (s_sa σ j)))), (a 8, .inl (cI, 200, .inl (fun j => eN (s_sv σ j))))] H := hP
          have hD : va_D A [(m0, .inr (3, [.int (nI 0), .int (nI (s_now σ)), .ref (a 0), .int (nI (s_n σ)), .ref (a 1), .ref (a 2), .ref (a 3), .ref (a 4), .int (nI (s_tk σ)), .ref (a 5), .int (nI (s_k σ)), .ref (a 6), .ref (a 7), .ref (a 8)])), (a 0, .inl (cI, 6, .inl (fun j => nI (s_lt σ j)))), (a 1, .inl (cI, 200, .inl (fun j => nI ((uN (s_pr σ) (s_n σ) (10 * fn + en)) j)))), (a 2, .inl (cI, 200, .inl (fun j => nI ((uN (s_ev σ) (s_n σ) vn) j)))), (a 3, .inl (cI, 200, .inl (fun j => nI (s_ar σ j)))), (a 4, .inl (cI, 200, .inl (fun j => nI (s_vl σ j)))), (a 5, .inl (cI, 60, .inl (fun j => nI (s_cp σ j)))), (a 6, .inl (cI, 200, .inl (fun j => nI (s_sp σ j)))), (a 7, .inl (cI, 200, .inl (fun j => nI (s_sa σ j)))), (a 8, .inl (cI, 200, .inl (fun j => eN (s_sv σ j))))] := hD
          refine lv_aload_n hx hb dX3_arrive_99 rfl (lv_at hl 1 rfl) ?_
          refine va_get (D := dD) (ci := 3) (v := .ref (a 3)) (C := RX3) (T := TX3) (N := 14) hx hb hts hinX3 hown hK hP 0 rfl rfl 6 (by decide) (hts (.fieldLink RX3 19 "FeatureStoreModel" "arrival" "[I") (by decide +kernel)) (fun _ h9 => h9) rfl dX3_arrive_100 ?_
          refine lv_aload_n hx hb dX3_arrive_103 rfl (lv_at hl 1 rfl) ?_
          refine va_get (D := dD) (ci := 3) (v := .int (nI (s_n σ))) (C := RX3) (T := TX3) (N := 14) hx hb hts hinX3 hown hK hP 0 rfl rfl 3 (by decide) (hts (.fieldLink RX3 53 "FeatureStoreModel" "rows" "I") (by decide +kernel)) (fun _ h9 => h9) rfl dX3_arrive_104 ?_
          refine lv_aload_n hx hb dX3_arrive_107 rfl (lv_at hl 1 rfl) ?_
          refine va_get (D := dD) (ci := 3) (v := .int (nI (s_now σ))) (C := RX3) (T := TX3) (N := 14) hx hb hts hinX3 hown hK hP 0 rfl rfl 1 (by decide) (hts (.fieldLink RX3 49 "FeatureStoreModel" "now" "I") (by decide +kernel)) (fun _ h9 => h9) rfl dX3_arrive_108 ?_
          refine nv_iast (q0 := 4) (t0 := 0) (s_ar σ) hx hb hK hP hD hS rfl rfl (by omega) (by decide) dX3_arrive_111 (fun H locs hP hD hS => ?_)
          have hP : va_P dD vwCl [(m0, .inr (3, [.int (nI 0), .int (nI (s_now σ)), .ref (a 0), .int (nI (s_n σ)), .ref (a 1), .ref (a 2), .ref (a 3), .ref (a 4), .int (nI (s_tk σ)), .ref (a 5), .int (nI (s_k σ)), .ref (a 6), .ref (a 7), .ref (a 8)])), (a 0, .inl (cI, 6, .inl (fun j => nI (s_lt σ j)))), (a 1, .inl (cI, 200, .inl (fun j => nI ((uN (s_pr σ) (s_n σ) (10 * fn + en)) j)))), (a 2, .inl (cI, 200, .inl (fun j => nI ((uN (s_ev σ) (s_n σ) vn) j)))), (a 3, .inl (cI, 200, .inl (fun j => nI ((uN (s_ar σ) (s_n σ) (s_now σ)) j)))), (a 4, .inl (cI, 200, .inl (fun j => nI (s_vl σ j)))), (a 5, .inl (cI, 60, .inl (fun j => nI (s_cp σ j)))), (a 6, .inl (cI, 200, .inl (fun j => nI (s_sp σ j)))), (a 7, .inl (cI, 200, .inl (fun j => nI (s_sa σ j)))), (a 8, .inl (cI, 200, .inl (fun j => eN (s_sv σ j))))] H := hP
          have hD : va_D A [(m0, .inr (3, [.int (nI 0), .int (nI (s_now σ)), .ref (a 0), .int (nI (s_n σ)), .ref (a 1), .ref (a 2), .ref (a 3), .ref (a 4), .int (nI (s_tk σ)), .ref (a 5), .int (nI (s_k σ)), .ref (a 6), .ref (a 7), .ref (a 8)])), (a 0, .inl (cI, 6, .inl (fun j => nI (s_lt σ j)))), (a 1, .inl (cI, 200, .inl (fun j => nI ((uN (s_pr σ) (s_n σ) (10 * fn + en)) j)))), (a 2, .inl (cI, 200, .inl (fun j => nI ((uN (s_ev σ) (s_n σ) vn) j)))), (a 3, .inl (cI, 200, .inl (fun j => nI ((uN (s_ar σ) (s_n σ) (s_now σ)) j)))), (a 4, .inl (cI, 200, .inl (fun j => nI (s_vl σ j)))), (a 5, .inl (cI, 60, .inl (fun j => nI (s_cp σ j)))), (a 6, .inl (cI, 200, .inl (fun j => nI (s_sp σ j)))), (a 7, .inl (cI, 200, .inl (fun j => nI (s_sa σ j)))), (a 8, .inl (cI, 200, .inl (fun j => eN (s_sv σ j))))] := hD
          refine lv_aload_n hx hb dX3_arrive_112 rfl (lv_at hl 1 rfl) ?_
          refine va_get (D := dD) (ci := 3) (v := .ref (a 4)) (C := RX3) (T := TX3) (N := 14) hx hb hts hinX3 hown hK hP 0 rfl rfl 7 (by decide) (hts (.fieldLink RX3 22 "FeatureStoreModel" "value" "[I") (by decide +kernel)) (fun _ h9 => h9) rfl dX3_arrive_113 ?_
          refine lv_aload_n hx hb dX3_arrive_116 rfl (lv_at hl 1 rfl) ?_
          refine va_get (D := dD) (ci := 3) (v := .int (nI (s_n σ))) (C := RX3) (T := TX3) (N := 14) hx hb hts hinX3 hown hK hP 0 rfl rfl 3 (by decide) (hts (.fieldLink RX3 53 "FeatureStoreModel" "rows" "I") (by decide +kernel)) (fun _ h9 => h9) rfl dX3_arrive_117 ?_
          refine lv_iload hx hb dX3_arrive_120 (lv_at hl 5 rfl) ?_
          refine nv_iast (q0 := 5) (t0 := 0) (s_vl σ) hx hb hK hP hD hS rfl rfl (by omega) (by decide) dX3_arrive_122 (fun H locs hP hD hS => ?_)
          have hP : va_P dD vwCl [(m0, .inr (3, [.int (nI 0), .int (nI (s_now σ)), .ref (a 0), .int (nI (s_n σ)), .ref (a 1), .ref (a 2), .ref (a 3), .ref (a 4), .int (nI (s_tk σ)), .ref (a 5), .int (nI (s_k σ)), .ref (a 6), .ref (a 7), .ref (a 8)])), (a 0, .inl (cI, 6, .inl (fun j => nI (s_lt σ j)))), (a 1, .inl (cI, 200, .inl (fun j => nI ((uN (s_pr σ) (s_n σ) (10 * fn + en)) j)))), (a 2, .inl (cI, 200, .inl (fun j => nI ((uN (s_ev σ) (s_n σ) vn) j)))), (a 3, .inl (cI, 200, .inl (fun j => nI ((uN (s_ar σ) (s_n σ) (s_now σ)) j)))), (a 4, .inl (cI, 200, .inl (fun j => nI ((uN (s_vl σ) (s_n σ) xn) j)))), (a 5, .inl (cI, 60, .inl (fun j => nI (s_cp σ j)))), (a 6, .inl (cI, 200, .inl (fun j => nI (s_sp σ j)))), (a 7, .inl (cI, 200, .inl (fun j => nI (s_sa σ j)))), (a 8, .inl (cI, 200, .inl (fun j => eN (s_sv σ j))))] H := hP
          have hD : va_D A [(m0, .inr (3, [.int (nI 0), .int (nI (s_now σ)), .ref (a 0), .int (nI (s_n σ)), .ref (a 1), .ref (a 2), .ref (a 3), .ref (a 4), .int (nI (s_tk σ)), .ref (a 5), .int (nI (s_k σ)), .ref (a 6), .ref (a 7), .ref (a 8)])), (a 0, .inl (cI, 6, .inl (fun j => nI (s_lt σ j)))), (a 1, .inl (cI, 200, .inl (fun j => nI ((uN (s_pr σ) (s_n σ) (10 * fn + en)) j)))), (a 2, .inl (cI, 200, .inl (fun j => nI ((uN (s_ev σ) (s_n σ) vn) j)))), (a 3, .inl (cI, 200, .inl (fun j => nI ((uN (s_ar σ) (s_n σ) (s_now σ)) j)))), (a 4, .inl (cI, 200, .inl (fun j => nI ((uN (s_vl σ) (s_n σ) xn) j)))), (a 5, .inl (cI, 60, .inl (fun j => nI (s_cp σ j)))), (a 6, .inl (cI, 200, .inl (fun j => nI (s_sp σ j)))), (a 7, .inl (cI, 200, .inl (fun j => nI (s_sa σ j)))), (a 8, .inl (cI, 200, .inl (fun j => eN (s_sv σ j))))] := hD
          refine lv_aload_n hx hb dX3_arrive_123 rfl (lv_at hl 1 rfl) ?_
          refine lv_dup hx hb dX3_arrive_124 rfl ?_
          refine va_get (D := dD) (ci := 3) (v := .int (nI (s_n σ))) (C := RX3) (T := TX3) (N := 14) hx hb hts hinX3 hown hK hP 0 rfl rfl 3 (by decide) (hts (.fieldLink RX3 53 "FeatureStoreModel" "rows" "I") (by decide +kernel)) (fun _ h9 => h9) rfl dX3_arrive_125 ?_
          refine lv_iconst (v := nI 1) hx hb dX3_arrive_128 (by decide +kernel) ?_
          refine nv_iadd hx hb dX3_arrive_129 ?_
          refine va_put (D := dD) (ci := 3) (v := .int (nI ((s_n σ) + 1))) (ty := .int) (C := RX3) (T := TX3) (N := 14) hx hb hts hinX3 tyX3 tyX3_ok nmX3 hown hK hP hD hS 0 rfl rfl 3 (by decide) (hts (.fieldLink RX3 53 "FeatureStoreModel" "rows" "I") (by decide +kernel)) (fun _ h9 => h9) rfl (by decide +kernel) rfl rfl (Nat.le_of_ble_eq_true rfl) dX3_arrive_130 (fun H locs hP hD hS => ?_)
          have hP : va_P dD vwCl [(m0, .inr (3, [.int (nI 0), .int (nI (s_now σ)), .ref (a 0), .int (nI ((s_n σ) + 1)), .ref (a 1), .ref (a 2), .ref (a 3), .ref (a 4), .int (nI (s_tk σ)), .ref (a 5), .int (nI (s_k σ)), .ref (a 6), .ref (a 7), .ref (a 8)])), (a 0, .inl (cI, 6, .inl (fun j => nI (s_lt σ j)))), (a 1, .inl (cI, 200, .inl (fun j => nI ((uN (s_pr σ) (s_n σ) (10 * fn + en)) j)))), (a 2, .inl (cI, 200, .inl (fun j => nI ((uN (s_ev σ) (s_n σ) vn) j)))), (a 3, .inl (cI, 200, .inl (fun j => nI ((uN (s_ar σ) (s_n σ) (s_now σ)) j)))), (a 4, .inl (cI, 200, .inl (fun j => nI ((uN (s_vl σ) (s_n σ) xn) j)))), (a 5, .inl (cI, 60, .inl (fun j => nI (s_cp σ j)))), (a 6, .inl (cI, 200, .inl (fun j => nI (s_sp σ j)))), (a 7, .inl (cI, 200, .inl (fun j => nI (s_sa σ j)))), (a 8, .inl (cI, 200, .inl (fun j => eN (s_sv σ j))))] H := hP
          have hD : va_D A [(m0, .inr (3, [.int (nI 0), .int (nI (s_now σ)), .ref (a 0), .int (nI ((s_n σ) + 1)), .ref (a 1), .ref (a 2), .ref (a 3), .ref (a 4), .int (nI (s_tk σ)), .ref (a 5), .int (nI (s_k σ)), .ref (a 6), .ref (a 7), .ref (a 8)])), (a 0, .inl (cI, 6, .inl (fun j => nI (s_lt σ j)))), (a 1, .inl (cI, 200, .inl (fun j => nI ((uN (s_pr σ) (s_n σ) (10 * fn + en)) j)))), (a 2, .inl (cI, 200, .inl (fun j => nI ((uN (s_ev σ) (s_n σ) vn) j)))), (a 3, .inl (cI, 200, .inl (fun j => nI ((uN (s_ar σ) (s_n σ) (s_now σ)) j)))), (a 4, .inl (cI, 200, .inl (fun j => nI ((uN (s_vl σ) (s_n σ) xn) j)))), (a 5, .inl (cI, 60, .inl (fun j => nI (s_cp σ j)))), (a 6, .inl (cI, 200, .inl (fun j => nI (s_sp σ j)))), (a 7, .inl (cI, 200, .inl (fun j => nI (s_sa σ j)))), (a 8, .inl (cI, 200, .inl (fun j => eN (s_sv σ j))))] := hD
          refine lv_aload_n hx hb dX3_arrive_133 rfl (lv_at hl 1 rfl) ?_
          refine va_get (D := dD) (ci := 3) (v := .int (nI ((s_n σ) + 1))) (C := RX3) (T := TX3) (N := 14) hx hb hts hinX3 hown hK hP 0 rfl rfl 3 (by decide) (hts (.fieldLink RX3 53 "FeatureStoreModel" "rows" "I") (by decide +kernel)) (fun _ h9 => h9) rfl dX3_arrive_134 ?_
          refine lv_iconst (v := nI 1) hx hb dX3_arrive_137 (by decide +kernel) ?_
          refine nv_isub hx hb dX3_arrive_138 (by omega) ?_
          exact W.iret (v := nI (((s_n σ) + 1) - 1)) hx hb hr (fun u9 hu9 hW => ⟨⟨nI (((s_n σ) + 1) - 1), (0, g_arrive σ (10 * fn + en) vn xn), rfl, Or.inl ⟨⟨hr_2, hr_14, hr_25⟩, by omega, by rw [plN, cl_nI (by omega), cl_nI (by omega), cl_nI (by omega), cl_nI (by omega)], by show nI (s_n σ + 1 - 1) = _; rw [Nat.add_sub_cancel]⟩, by have h9 := hP; rw [← hu9] at h9; exact h9⟩, hS.F hu9⟩) hS.2.2 dX3_arrive_139
        · refine lv_iconst (v := nI 2) hx hb dX3_arrive_58 (by decide +kernel) ?_
          refine lv_goto (tgt := 63) hx hb dX3_arrive_59 (by decide) ?_
          refine va_put (D := dD) (ci := 3) (v := .int (nI 2)) (ty := .int) (C := RX3) (T := TX3) (N := 14) hx hb hts hinX3 tyX3 tyX3_ok nmX3 hown hK hP hD hS 0 rfl rfl 0 (by decide) (hts (.fieldLink RX3 37 "FeatureStoreModel" "thrown" "I") (by decide +kernel)) (fun _ h9 => h9) rfl (by decide +kernel) rfl rfl (Nat.le_of_ble_eq_true rfl) dX3_arrive_63 (fun H locs hP hD hS => ?_)
          have hP : va_P dD vwCl [(m0, .inr (3, [.int (nI 2), .int (nI (s_now σ)), .ref (a 0), .int (nI (s_n σ)), .ref (a 1), .ref (a 2), .ref (a 3), .ref (a 4), .int (nI (s_tk σ)), .ref (a 5), .int (nI (s_k σ)), .ref (a 6), .ref (a 7), .ref (a 8)])), (a 0, .inl (cI, 6, .inl (fun j => nI (s_lt σ j)))), (a 1, .inl (cI, 200, .inl (fun j => nI (s_pr σ j)))), (a 2, .inl (cI, 200, .inl (fun j => nI (s_ev σ j)))), (a 3, .inl (cI, 200, .inl (fun j => nI (s_ar σ j)))), (a 4, .inl (cI, 200, .inl (fun j => nI (s_vl σ j)))), (a 5, .inl (cI, 60, .inl (fun j => nI (s_cp σ j)))), (a 6, .inl (cI, 200, .inl (fun j => nI (s_sp σ j)))), (a 7, .inl (cI, 200, .inl (fun j => nI (s_sa σ j)))), (a 8, .inl (cI, 200, .inl (fun j => eN (s_sv σ j))))] H := hP
          have hD : va_D A [(m0, .inr (3, [.int (nI 2), .int (nI (s_now σ)), .ref (a 0), .int (nI (s_n σ)), .ref (a 1), .ref (a 2), .ref (a 3), .ref (a 4), .int (nI (s_tk σ)), .ref (a 5), .int (nI (s_k σ)), .ref (a 6), .ref (a 7), .ref (a 8)])), (a 0, .inl (cI, 6, .inl (fun j => nI (s_lt σ j)))), (a 1, .inl (cI, 200, .inl (fun j => nI (s_pr σ j)))), (a 2, .inl (cI, 200, .inl (fun j => nI (s_ev σ j)))), (a 3, .inl (cI, 200, .inl (fun j => nI (s_ar σ j)))), (a 4, .inl (cI, 200, .inl (fun j => nI (s_vl σ j)))), (a 5, .inl (cI, 60, .inl (fun j => nI (s_cp σ j)))), (a 6, .inl (cI, 200, .inl (fun j => nI (s_sp σ j)))), (a 7, .inl (cI, 200, .inl (fun j => nI (s_sa σ j)))), (a 8, .inl (cI, 200, .inl (fun j => eN (s_sv σ j))))] := hD
          refine lv_aload_n hx hb dX3_arrive_66 rfl (lv_at hl 1 rfl) ?_
          refine va_get (D := dD) (ci := 3) (v := .int (nI 2)) (C := RX3) (T := TX3) (N := 14) hx hb hts hinX3 hown hK hP 0 rfl rfl 0 (by decide) (hts (.fieldLink RX3 37 "FeatureStoreModel" "thrown" "I") (by decide +kernel)) (fun _ h9 => h9) rfl dX3_arrive_67 ?_
          refine nv_if_le (tgt := 75) hx hb dX3_arrive_70 (by decide) (by decide) (fun c_70 => absurd c_70 (by decide)) (fun c_70 => ?_)
          refine lv_iconst (v := nI 0) hx hb dX3_arrive_73 (by decide +kernel) ?_
          exact W.iret (v := nI 0) hx hb hr (fun u9 hu9 hW => ⟨⟨nI 0, (2, σ), rfl, Or.inr (Or.inr ⟨⟨hr_2, hr_14, hr_25⟩, by omega, rfl⟩), by have h9 := hP; rw [← hu9] at h9; exact h9⟩, hS.F hu9⟩) hS.2.2 dX3_arrive_74
      · refine nv_if_eq (tgt := 35) hx hb dX3_arrive_28 (by decide) (by decide) (fun c_28 => ?_) (fun c_28 => absurd c_28 (by decide))
        refine lv_iconst (v := nI 0) hx hb dX3_arrive_35 (by decide +kernel) ?_
        refine lv_istore (lv' := [(5, .int (nI 0)), (0, .ref m0), (1, .int f), (2, .int e), (3, .int v), (4, .int x)]) hx hb dX3_arrive_36 hl (by decide) rfl (fun ls hl => ?_)
        refine lv_aload_n hx hb dX3_arrive_38 rfl (lv_at hl 1 rfl) ?_
        refine lv_iload hx hb dX3_arrive_39 (lv_at hl 0 rfl) ?_
        refine nv_if_ne (tgt := 48) hx hb dX3_arrive_41 (by decide) (by decide) (fun c_41 => absurd c_41 (by decide)) (fun c_41 => ?_)
        refine lv_iconst (v := nI 1) hx hb dX3_arrive_44 (by decide +kernel) ?_
        refine lv_goto (tgt := 63) hx hb dX3_arrive_45 (by decide) ?_
        refine va_put (D := dD) (ci := 3) (v := .int (nI 1)) (ty := .int) (C := RX3) (T := TX3) (N := 14) hx hb hts hinX3 tyX3 tyX3_ok nmX3 hown hK hP hD hS 0 rfl rfl 0 (by decide) (hts (.fieldLink RX3 37 "FeatureStoreModel" "thrown" "I") (by decide +kernel)) (fun _ h9 => h9) rfl (by decide +kernel) rfl rfl (Nat.le_of_ble_eq_true rfl) dX3_arrive_63 (fun H locs hP hD hS => ?_)
        have hP : va_P dD vwCl [(m0, .inr (3, [.int (nI 1), .int (nI (s_now σ)), .ref (a 0), .int (nI (s_n σ)), .ref (a 1), .ref (a 2), .ref (a 3), .ref (a 4), .int (nI (s_tk σ)), .ref (a 5), .int (nI (s_k σ)), .ref (a 6), .ref (a 7), .ref (a 8)])), (a 0, .inl (cI, 6, .inl (fun j => nI (s_lt σ j)))), (a 1, .inl (cI, 200, .inl (fun j => nI (s_pr σ j)))), (a 2, .inl (cI, 200, .inl (fun j => nI (s_ev σ j)))), (a 3, .inl (cI, 200, .inl (fun j => nI (s_ar σ j)))), (a 4, .inl (cI, 200, .inl (fun j => nI (s_vl σ j)))), (a 5, .inl (cI, 60, .inl (fun j => nI (s_cp σ j)))), (a 6, .inl (cI, 200, .inl (fun j => nI (s_sp σ j)))), (a 7, .inl (cI, 200, .inl (fun j => nI (s_sa σ j)))), (a 8, .inl (cI, 200, .inl (fun j => eN (s_sv σ j))))] H := hP
        have hD : va_D A [(m0, .inr (3, [.int (nI 1), .int (nI (s_now σ)), .ref (a 0), .int (nI (s_n σ)), .ref (a 1), .ref (a 2), .ref (a 3), .ref (a 4), .int (nI (s_tk σ)), .ref (a 5), .int (nI (s_k σ)), .ref (a 6), .ref (a 7), .ref (a 8)])), (a 0, .inl (cI, 6, .inl (fun j => nI (s_lt σ j)))), (a 1, .inl (cI, 200, .inl (fun j => nI (s_pr σ j)))), (a 2, .inl (cI, 200, .inl (fun j => nI (s_ev σ j)))), (a 3, .inl (cI, 200, .inl (fun j => nI (s_ar σ j)))), (a 4, .inl (cI, 200, .inl (fun j => nI (s_vl σ j)))), (a 5, .inl (cI, 60, .inl (fun j => nI (s_cp σ j)))), (a 6, .inl (cI, 200, .inl (fun j => nI (s_sp σ j)))), (a 7, .inl (cI, 200, .inl (fun j => nI (s_sa σ j)))), (a 8, .inl (cI, 200, .inl (fun j => eN (s_sv σ j))))] := hD
        refine lv_aload_n hx hb dX3_arrive_66 rfl (lv_at hl 1 rfl) ?_
        refine va_get (D := dD) (ci := 3) (v := .int (nI 1)) (C := RX3) (T := TX3) (N := 14) hx hb hts hinX3 hown hK hP 0 rfl rfl 0 (by decide) (hts (.fieldLink RX3 37 "FeatureStoreModel" "thrown" "I") (by decide +kernel)) (fun _ h9 => h9) rfl dX3_arrive_67 ?_
        refine nv_if_le (tgt := 75) hx hb dX3_arrive_70 (by decide) (by decide) (fun c_70 => absurd c_70 (by decide)) (fun c_70 => ?_)
        refine lv_iconst (v := nI 0) hx hb dX3_arrive_73 (by decide +kernel) ?_
        exact W.iret (v := nI 0) hx hb hr (fun u9 hu9 hW => ⟨⟨nI 0, (1, σ), rfl, Or.inr (Or.inl ⟨fun h => hr_25 h.2.2, rfl⟩), by have h9 := hP; rw [← hu9] at h9; exact h9⟩, hS.F hu9⟩) hS.2.2 dX3_arrive_74
    · refine nv_if_eq (tgt := 35) hx hb dX3_arrive_17 (by decide) (by decide) (fun c_17 => ?_) (fun c_17 => absurd c_17 (by decide))
      refine lv_iconst (v := nI 0) hx hb dX3_arrive_35 (by decide +kernel) ?_
      refine lv_istore (lv' := [(5, .int (nI 0)), (0, .ref m0), (1, .int f), (2, .int e), (3, .int v), (4, .int x)]) hx hb dX3_arrive_36 hl (by decide) rfl (fun ls hl => ?_)
      refine lv_aload_n hx hb dX3_arrive_38 rfl (lv_at hl 1 rfl) ?_
      refine lv_iload hx hb dX3_arrive_39 (lv_at hl 0 rfl) ?_
      refine nv_if_ne (tgt := 48) hx hb dX3_arrive_41 (by decide) (by decide) (fun c_41 => absurd c_41 (by decide)) (fun c_41 => ?_)
      refine lv_iconst (v := nI 1) hx hb dX3_arrive_44 (by decide +kernel) ?_
      refine lv_goto (tgt := 63) hx hb dX3_arrive_45 (by decide) ?_
      refine va_put (D := dD) (ci := 3) (v := .int (nI 1)) (ty := .int) (C := RX3) (T := TX3) (N := 14) hx hb hts hinX3 tyX3 tyX3_ok nmX3 hown hK hP hD hS 0 rfl rfl 0 (by decide) (hts (.fieldLink RX3 37 "FeatureStoreModel" "thrown" "I") (by decide +kernel)) (fun _ h9 => h9) rfl (by decide +kernel) rfl rfl (Nat.le_of_ble_eq_true rfl) dX3_arrive_63 (fun H locs hP hD hS => ?_)
      have hP : va_P dD vwCl [(m0, .inr (3, [.int (nI 1), .int (nI (s_now σ)), .ref (a 0), .int (nI (s_n σ)), .ref (a 1), .ref (a 2), .ref (a 3), .ref (a 4), .int (nI (s_tk σ)), .ref (a 5), .int (nI (s_k σ)), .ref (a 6), .ref (a 7), .ref (a 8)])), (a 0, .inl (cI, 6, .inl (fun j => nI (s_lt σ j)))), (a 1, .inl (cI, 200, .inl (fun j => nI (s_pr σ j)))), (a 2, .inl (cI, 200, .inl (fun j => nI (s_ev σ j)))), (a 3, .inl (cI, 200, .inl (fun j => nI (s_ar σ j)))), (a 4, .inl (cI, 200, .inl (fun j => nI (s_vl σ j)))), (a 5, .inl (cI, 60, .inl (fun j => nI (s_cp σ j)))), (a 6, .inl (cI, 200, .inl (fun j => nI (s_sp σ j)))), (a 7, .inl (cI, 200, .inl (fun j => nI (s_sa σ j)))), (a 8, .inl (cI, 200, .inl (fun j => eN (s_sv σ j))))] H := hP
      have hD : va_D A [(m0, .inr (3, [.int (nI 1), .int (nI (s_now σ)), .ref (a 0), .int (nI (s_n σ)), .ref (a 1), .ref (a 2), .ref (a 3), .ref (a 4), .int (nI (s_tk σ)), .ref (a 5), .int (nI (s_k σ)), .ref (a 6), .ref (a 7), .ref (a 8)])), (a 0, .inl (cI, 6, .inl (fun j => nI (s_lt σ j)))), (a 1, .inl (cI, 200, .inl (fun j => nI (s_pr σ j)))), (a 2, .inl (cI, 200, .inl (fun j => nI (s_ev σ j)))), (a 3, .inl (cI, 200, .inl (fun j => nI (s_ar σ j)))), (a 4, .inl (cI, 200, .inl (fun j => nI (s_vl σ j)))), (a 5, .inl (cI, 60, .inl (fun j => nI (s_cp σ j)))), (a 6, .inl (cI, 200, .inl (fun j => nI (s_sp σ j)))), (a 7, .inl (cI, 200, .inl (fun j => nI (s_sa σ j)))), (a 8, .inl (cI, 200, .inl (fun j => eN (s_sv σ j))))] := hD
      refine lv_aload_n hx hb dX3_arrive_66 rfl (lv_at hl 1 rfl) ?_
      refine va_get (D := dD) (ci := 3) (v := .int (nI 1)) (C := RX3) (T := TX3) (N := 14) hx hb hts hinX3 hown hK hP 0 rfl rfl 0 (by decide) (hts (.fieldLink RX3 37 "FeatureStoreModel" "thrown" "I") (by decide +kernel)) (fun _ h9 => h9) rfl dX3_arrive_67 ?_
      refine nv_if_le (tgt := 75) hx hb dX3_arrive_70 (by decide) (by decide) (fun c_70 => absurd c_70 (by decide)) (fun c_70 => ?_)
      refine lv_iconst (v := nI 0) hx hb dX3_arrive_73 (by decide +kernel) ?_
      exact W.iret (v := nI 0) hx hb hr (fun u9 hu9 hW => ⟨⟨nI 0, (1, σ), rfl, Or.inr (Or.inl ⟨fun h => hr_14 h.2.1, rfl⟩), by have h9 := hP; rw [← hu9] at h9; exact h9⟩, hS.F hu9⟩) hS.2.2 dX3_arrive_74
  · refine nv_if_eq (tgt := 35) hx hb dX3_arrive_5 (by decide) (by decide) (fun c_5 => ?_) (fun c_5 => absurd c_5 (by decide))
    refine lv_iconst (v := nI 0) hx hb dX3_arrive_35 (by decide +kernel) ?_
    refine lv_istore (lv' := [(5, .int (nI 0)), (0, .ref m0), (1, .int f), (2, .int e), (3, .int v), (4, .int x)]) hx hb dX3_arrive_36 hl (by decide) rfl (fun ls hl => ?_)
    refine lv_aload_n hx hb dX3_arrive_38 rfl (lv_at hl 1 rfl) ?_
    refine lv_iload hx hb dX3_arrive_39 (lv_at hl 0 rfl) ?_
    refine nv_if_ne (tgt := 48) hx hb dX3_arrive_41 (by decide) (by decide) (fun c_41 => absurd c_41 (by decide)) (fun c_41 => ?_)
    refine lv_iconst (v := nI 1) hx hb dX3_arrive_44 (by decide +kernel) ?_
    refine lv_goto (tgt := 63) hx hb dX3_arrive_45 (by decide) ?_
    refine va_put (D := dD) (ci := 3) (v := .int (nI 1)) (ty := .int) (C := RX3) (T := TX3) (N := 14) hx hb hts hinX3 tyX3 tyX3_ok nmX3 hown hK hP hD hS 0 rfl rfl 0 (by decide) (hts (.fieldLink RX3 37 "FeatureStoreModel" "thrown" "I") (by decide +kernel)) (fun _ h9 => h9) rfl (by decide +kernel) rfl rfl (Nat.le_of_ble_eq_true rfl) dX3_arrive_63 (fun H locs hP hD hS => ?_)
    have hP : va_P dD vwCl [(m0, .inr (3, [.int (nI 1), .int (nI (s_now σ)), .ref (a 0), .int (nI (s_n σ)), .ref (a 1), .ref (a 2), .ref (a 3), .ref (a 4), .int (nI (s_tk σ)), .ref (a 5), .int (nI (s_k σ)), .ref (a 6), .ref (a 7), .ref (a 8)])), (a 0, .inl (cI, 6, .inl (fun j => nI (s_lt σ j)))), (a 1, .inl (cI, 200, .inl (fun j => nI (s_pr σ j)))), (a 2, .inl (cI, 200, .inl (fun j => nI (s_ev σ j)))), (a 3, .inl (cI, 200, .inl (fun j => nI (s_ar σ j)))), (a 4, .inl (cI, 200, .inl (fun j => nI (s_vl σ j)))), (a 5, .inl (cI, 60, .inl (fun j => nI (s_cp σ j)))), (a 6, .inl (cI, 200, .inl (fun j => nI (s_sp σ j)))), (a 7, .inl (cI, 200, .inl (fun j => nI (s_sa σ j)))), (a 8, .inl (cI, 200, .inl (fun j => eN (s_sv σ j))))] H := hP
    have hD : va_D A [(m0, .inr (3, [.int (nI 1), .int (nI (s_now σ)), .ref (a 0), .int (nI (s_n σ)), .ref (a 1), .ref (a 2), .ref (a 3), .ref (a 4), .int (nI (s_tk σ)), .ref (a 5), .int (nI (s_k σ)), .ref (a 6), .ref (a 7), .ref (a 8)])), (a 0, .inl (cI, 6, .inl (fun j => nI (s_lt σ j)))), (a 1, .inl (cI, 200, .inl (fun j => nI (s_pr σ j)))), (a 2, .inl (cI, 200, .inl (fun j => nI (s_ev σ j)))), (a 3, .inl (cI, 200, .inl (fun j => nI (s_ar σ j)))), (a 4, .inl (cI, 200, .inl (fun j => nI (s_vl σ j)))), (a 5, .inl (cI, 60, .inl (fun j => nI (s_cp σ j)))), (a 6, .inl (cI, 200, .inl (fun j => nI (s_sp σ j)))), (a 7, .inl (cI, 200, .inl (fun j => nI (s_sa σ j)))), (a 8, .inl (cI, 200, .inl (fun j => eN (s_sv σ j))))] := hD
    refine lv_aload_n hx hb dX3_arrive_66 rfl (lv_at hl 1 rfl) ?_
    refine va_get (D := dD) (ci := 3) (v := .int (nI 1)) (C := RX3) (T := TX3) (N := 14) hx hb hts hinX3 hown hK hP 0 rfl rfl 0 (by decide) (hts (.fieldLink RX3 37 "FeatureStoreModel" "thrown" "I") (by decide +kernel)) (fun _ h9 => h9) rfl dX3_arrive_67 ?_
    refine nv_if_le (tgt := 75) hx hb dX3_arrive_70 (by decide) (by decide) (fun c_70 => absurd c_70 (by decide)) (fun c_70 => ?_)
    refine lv_iconst (v := nI 0) hx hb dX3_arrive_73 (by decide +kernel) ?_
    exact W.iret (v := nI 0) hx hb hr (fun u9 hu9 hW => ⟨⟨nI 0, (1, σ), rfl, Or.inr (Or.inl ⟨fun h => hr_2 h.1, rfl⟩), by have h9 := hP; rw [← hu9] at h9; exact h9⟩, hS.F hu9⟩) hS.2.2 dX3_arrive_74

set_option maxHeartbeats 4000000 in
set_option maxRecDepth 100000 in
theorem c_X3_asksRow (l : Launch) (dD : va_G) (cI cR cS : ClassId) (lo : Nat) (sz : Nat) (hlo : lo ≤ sz) (m0 : Nat) (a : Nat → Nat) (th : Nat) (σ : St) (hI : sI σ) (x : Int32) : Met l yX3_asksRow wsX3_asksRow ({ frames := 1, cells := 0, slots := 0, locals := 22 }) (ePc dD cI cR cS lo [.ref m0, .int x] (fun H => H.size = sz ∧ va_P dD vwCl (mW cI m0 a th σ) H ∧ va_D (fun q => lo ≤ q) (mW cI m0 a th σ))) (va_Qi (fun (r : Int32) (u : Nat × St) => (ri x (s_n σ) ∧ u = (0, σ) ∧ r = nI 1) ∨ (¬ ri x (s_n σ) ∧ u = (1, σ) ∧ r = nI 0)) (fun u t => va_P dD vwCl (mW cI m0 a u.1 u.2) t.heap) (va_A (mW cI m0 a th σ) sz)) 0 0 (va_A (mW cI m0 a th σ) sz) := by
  refine Met.ofW (cc := cX3_asksRow) (maxL := 2) (ret := (some .boolean)) (by decide) rfl ?_
  intro p e_ s m args below meth c s₁ B hml hv
  obtain ⟨rfl, hE, hsz, hP, hD0⟩ := hv
  have hx := B.exec
  have hb := B.bytes
  have hr := B.returns
  have hts := atoms_spec (ws := wsX3_asksRow) B.pre
  have hown : s.vm.findClass RX3 = some m.cls := findClass_of_methodNamed B.named
  have hlocks := B.notSynchronized
  have hK := hE.1.1
  have hinX3 : ∀ w ∈ u_ws RX3 TX3 14, w ∈ wsX3_asksRow := by decide +kernel
  subst hsz
  have hD := hD0.self (sz := s.heap.size)
  have hAlo : ∀ q, va_A (mW cI m0 a th σ) s.heap.size q → lo ≤ q := eA_lo hD0 hlo
  generalize hAe : va_A (mW cI m0 a th σ) s.heap.size = A at hD hAlo ⊢
  have hA : ∀ q : Nat, s.heap.size ≤ q → A q := fun q h => by rw [← hAe]; exact Or.inr h
  have hS : va_S A s.heap s.heap [] := va_S.rf
  have hP : va_P dD vwCl (mW cI m0 a th σ) s.heap := hP
  obtain ⟨i_now, i_n, i_tk, i_k, i_lt, i_row, i_cp, i_srv⟩ := id hI
  have hl := lv_entry ([.ref m0, .int x]) (n := 2) (Nat.le_of_ble_eq_true rfl)
  rw [lg_entry_eq]
  generalize (lg_sl ([.ref m0, .int x]) ++ List.replicate (2 - (lg_sl ([.ref m0, .int x])).length) Slot.unset).toArray = ls at hl ⊢
  have hl : lv_has ls 2 [(0, .ref m0), (1, .int x)] := hl
  refine lv_aload_n hx hb dX3_asksRow_0 rfl (lv_at hl 0 rfl) ?_
  refine lv_iload_n hx hb dX3_asksRow_1 rfl (lv_at hl 1 rfl) ?_
  refine lv_iconst (v := nI 0) hx hb dX3_asksRow_2 (by decide +kernel) ?_
  refine lv_aload_n hx hb dX3_asksRow_3 rfl (lv_at hl 0 rfl) ?_
  refine va_get (D := dD) (ci := 3) (v := .int (nI (s_n σ))) (C := RX3) (T := TX3) (N := 14) hx hb hts hinX3 hown hK hP 0 rfl rfl 3 (by decide) (hts (.fieldLink RX3 53 "FeatureStoreModel" "rows" "I") (by decide +kernel)) (fun _ h9 => h9) rfl dX3_asksRow_4 ?_
  refine lv_iconst (v := nI 1) hx hb dX3_asksRow_7 (by decide +kernel) ?_
  refine lv_isub hx hb dX3_asksRow_8 ?_
  refine vp_callSi (va_Run.run (va_runS (As := [.int x, .int (nI 0), .int ((nI (s_n σ)) - (nI 1))]) (rest := [.ref m0]) ⟨hx, hb, hml, hown, hts⟩ (c_X3_in l dD cI cR cS lo x (nI 0) ((nI (s_n σ)) - (nI 1))) (va_cwS 3 hts gX3_asksRow_X3_in rfl rfl rfl (by decide +kernel) ⟨Nat.le_of_ble_eq_true rfl, Nat.le_of_ble_eq_true rfl⟩) (ePreS hE (hS.mono hAlo) trivial) rfl rfl hl.1 rfl (lv_room (Nat.le_of_ble_eq_true rfl)) dX3_asksRow_9 ⟨Nat.le_of_ble_eq_true rfl, Nat.le_of_ble_eq_true rfl⟩)) (fun r_9 hr_9 => ?_)
  rcases hr_9 with ⟨rfl, hr_9⟩ | ⟨rfl, hr_9⟩
  · rw [ri_in (by omega)] at hr_9
    refine nv_if_eq (tgt := 19) hx hb dX3_asksRow_12 (by decide) (by decide) (fun c_12 => absurd c_12 (by decide)) (fun c_12 => ?_)
    refine lv_iconst (v := nI 0) hx hb dX3_asksRow_15 (by decide +kernel) ?_
    refine lv_goto (tgt := 20) hx hb dX3_asksRow_16 (by decide) ?_
    refine va_put (D := dD) (ci := 3) (v := .int (nI 0)) (ty := .int) (C := RX3) (T := TX3) (N := 14) hx hb hts hinX3 tyX3 tyX3_ok nmX3 hown hK hP hD hS 0 rfl rfl 0 (by decide) (hts (.fieldLink RX3 37 "FeatureStoreModel" "thrown" "I") (by decide +kernel)) (fun _ h9 => h9) rfl (by decide +kernel) rfl rfl (Nat.le_of_ble_eq_true rfl) dX3_asksRow_20 (fun H locs hP hD hS => ?_)
    have hP : va_P dD vwCl [(m0, .inr (3, [.int (nI 0), .int (nI (s_now σ)), .ref (a 0), .int (nI (s_n σ)), .ref (a 1), .ref (a 2), .ref (a 3), .ref (a 4), .int (nI (s_tk σ)), .ref (a 5), .int (nI (s_k σ)), .ref (a 6), .ref (a 7), .ref (a 8)])), (a 0, .inl (cI, 6, .inl (fun j => nI (s_lt σ j)))), (a 1, .inl (cI, 200, .inl (fun j => nI (s_pr σ j)))), (a 2, .inl (cI, 200, .inl (fun j => nI (s_ev σ j)))), (a 3, .inl (cI, 200, .inl (fun j => nI (s_ar σ j)))), (a 4, .inl (cI, 200, .inl (fun j => nI (s_vl σ j)))), (a 5, .inl (cI, 60, .inl (fun j => nI (s_cp σ j)))), (a 6, .inl (cI, 200, .inl (fun j => nI (s_sp σ j)))), (a 7, .inl (cI, 200, .inl (fun j => nI (s_sa σ j)))), (a 8, .inl (cI, 200, .inl (fun j => eN (s_sv σ j))))] H := hP
    have hD : va_D A [(m0, .inr (3, [.int (nI 0), .int (nI (s_now σ)), .ref (a 0), .int (nI (s_n σ)), .ref (a 1), .ref (a 2), .ref (a 3), .ref (a 4), .int (nI (s_tk σ)), .ref (a 5), .int (nI (s_k σ)), .ref (a 6), .ref (a 7), .ref (a 8)])), (a 0, .inl (cI, 6, .inl (fun j => nI (s_lt σ j)))), (a 1, .inl (cI, 200, .inl (fun j => nI (s_pr σ j)))), (a 2, .inl (cI, 200, .inl (fun j => nI (s_ev σ j)))), (a 3, .inl (cI, 200, .inl (fun j => nI (s_ar σ j)))), (a 4, .inl (cI, 200, .inl (fun j => nI (s_vl σ j)))), (a 5, .inl (cI, 60, .inl (fun j => nI (s_cp σ j)))), (a 6, .inl (cI, 200, .inl (fun j => nI (s_sp σ j)))), (a 7, .inl (cI, 200, .inl (fun j => nI (s_sa σ j)))), (a 8, .inl (cI, 200, .inl (fun j => eN (s_sv σ j))))] := hD
    refine lv_aload_n hx hb dX3_asksRow_23 rfl (lv_at hl 0 rfl) ?_
    refine va_get (D := dD) (ci := 3) (v := .int (nI 0)) (C := RX3) (T := TX3) (N := 14) hx hb hts hinX3 hown hK hP 0 rfl rfl 0 (by decide) (hts (.fieldLink RX3 37 "FeatureStoreModel" "thrown" "I") (by decide +kernel)) (fun _ h9 => h9) rfl dX3_asksRow_24 ?_
    refine nv_if_ne (tgt := 34) hx hb dX3_asksRow_27 (by decide) (by decide) (fun c_27 => absurd c_27 (by decide)) (fun c_27 => ?_)
    refine lv_iconst (v := nI 1) hx hb dX3_asksRow_30 (by decide +kernel) ?_
    refine lv_goto (tgt := 35) hx hb dX3_asksRow_31 (by decide) ?_
    exact W.zret (v := nI 1) hx hb hr rfl (fun u9 hu9 hW => ⟨⟨nI 1, (0, σ), rfl, Or.inl ⟨hr_9, rfl, rfl⟩, by have h9 := hP; rw [← hu9] at h9; exact h9⟩, hS.F hu9⟩) hS.2.2 dX3_asksRow_35
  · rw [ri_in (by omega)] at hr_9
    refine nv_if_eq (tgt := 19) hx hb dX3_asksRow_12 (by decide) (by decide) (fun c_12 => ?_) (fun c_12 => absurd c_12 (by decide))
    refine lv_iconst (v := nI 1) hx hb dX3_asksRow_19 (by decide +kernel) ?_
    refine va_put (D := dD) (ci := 3) (v := .int (nI 1)) (ty := .int) (C := RX3) (T := TX3) (N := 14) hx hb hts hinX3 tyX3 tyX3_ok nmX3 hown hK hP hD hS 0 rfl rfl 0 (by decide) (hts (.fieldLink RX3 37 "FeatureStoreModel" "thrown" "I") (by decide +kernel)) (fun _ h9 => h9) rfl (by decide +kernel) rfl rfl (Nat.le_of_ble_eq_true rfl) dX3_asksRow_20 (fun H locs hP hD hS => ?_)
    have hP : va_P dD vwCl [(m0, .inr (3, [.int (nI 1), .int (nI (s_now σ)), .ref (a 0), .int (nI (s_n σ)), .ref (a 1), .ref (a 2), .ref (a 3), .ref (a 4), .int (nI (s_tk σ)), .ref (a 5), .int (nI (s_k σ)), .ref (a 6), .ref (a 7), .ref (a 8)])), (a 0, .inl (cI, 6, .inl (fun j => nI (s_lt σ j)))), (a 1, .inl (cI, 200, .inl (fun j => nI (s_pr σ j)))), (a 2, .inl (cI, 200, .inl (fun j => nI (s_ev σ j)))), (a 3, .inl (cI, 200, .inl (fun j => nI (s_ar σ j)))), (a 4, .inl (cI, 200, .inl (fun j => nI (s_vl σ j)))), (a 5, .inl (cI, 60, .inl (fun j => nI (s_cp σ j)))), (a 6, .inl (cI, 200, .inl (fun j => nI (s_sp σ j)))), (a 7, .inl (cI, 200, .inl (fun j => nI (s_sa σ j)))), (a 8, .inl (cI, 200, .inl (fun j => eN (s_sv σ j))))] H := hP
    have hD : va_D A [(m0, .inr (3, [.int (nI 1), .int (nI (s_now σ)), .ref (a 0), .int (nI (s_n σ)), .ref (a 1), .ref (a 2), .ref (a 3), .ref (a 4), .int (nI (s_tk σ)), .ref (a 5), .int (nI (s_k σ)), .ref (a 6), .ref (a 7), .ref (a 8)])), (a 0, .inl (cI, 6, .inl (fun j => nI (s_lt σ j)))), (a 1, .inl (cI, 200, .inl (fun j => nI (s_pr σ j)))), (a 2, .inl (cI, 200, .inl (fun j => nI (s_ev σ j)))), (a 3, .inl (cI, 200, .inl (fun j => nI (s_ar σ j)))), (a 4, .inl (cI, 200, .inl (fun j => nI (s_vl σ j)))), (a 5, .inl (cI, 60, .inl (fun j => nI (s_cp σ j)))), (a 6, .inl (cI, 200, .inl (fun j => nI (s_sp σ j)))), (a 7, .inl (cI, 200, .inl (fun j => nI (s_sa σ j)))), (a 8, .inl (cI, 200, .inl (fun j => eN (s_sv σ j))))] := hD
    refine lv_aload_n hx hb dX3_asksRow_23 rfl (lv_at hl 0 rfl) ?_
    refine va_get (D := dD) (ci := 3) (v := .int (nI 1)) (C := RX3) (T := TX3) (N := 14) hx hb hts hinX3 hown hK hP 0 rfl rfl 0 (by decide) (hts (.fieldLink RX3 37 "FeatureStoreModel" "thrown" "I") (by decide +kernel)) (fun _ h9 => h9) rfl dX3_asksRow_24 ?_
    refine nv_if_ne (tgt := 34) hx hb dX3_asksRow_27 (by decide) (by decide) (fun c_27 => ?_) (fun c_27 => absurd c_27 (by decide))
    refine lv_iconst (v := nI 0) hx hb dX3_asksRow_34 (by decide +kernel) ?_
    exact W.zret (v := nI 0) hx hb hr rfl (fun u9 hu9 hW => ⟨⟨nI 0, (1, σ), rfl, Or.inr ⟨hr_9, rfl, rfl⟩, by have h9 := hP; rw [← hu9] at h9; exact h9⟩, hS.F hu9⟩) hS.2.2 dX3_asksRow_35

set_option maxHeartbeats 4000000 in
set_option maxRecDepth 100000 in
theorem c_X3_asksServing (l : Launch) (dD : va_G) (cI cR cS : ClassId) (lo : Nat) (sz : Nat) (hlo : lo ≤ sz) (m0 : Nat) (a : Nat → Nat) (th : Nat) (σ : St) (hI : sI σ) (x : Int32) : Met l yX3_asksServing wsX3_asksServing ({ frames := 1, cells := 0, slots := 0, locals := 22 }) (ePc dD cI cR cS lo [.ref m0, .int x] (fun H => H.size = sz ∧ va_P dD vwCl (mW cI m0 a th σ) H ∧ va_D (fun q => lo ≤ q) (mW cI m0 a th σ))) (va_Qi (fun (r : Int32) (u : Nat × St) => (ri x (s_k σ) ∧ u = (0, σ) ∧ r = nI 1) ∨ (¬ ri x (s_k σ) ∧ u = (1, σ) ∧ r = nI 0)) (fun u t => va_P dD vwCl (mW cI m0 a u.1 u.2) t.heap) (va_A (mW cI m0 a th σ) sz)) 0 0 (va_A (mW cI m0 a th σ) sz) := by
  refine Met.ofW (cc := cX3_asksServing) (maxL := 2) (ret := (some .boolean)) (by decide) rfl ?_
  intro p e_ s m args below meth c s₁ B hml hv
  obtain ⟨rfl, hE, hsz, hP, hD0⟩ := hv
  have hx := B.exec
  have hb := B.bytes
  have hr := B.returns
  have hts := atoms_spec (ws := wsX3_asksServing) B.pre
  have hown : s.vm.findClass RX3 = some m.cls := findClass_of_methodNamed B.named
  have hlocks := B.notSynchronized
  have hK := hE.1.1
  have hinX3 : ∀ w ∈ u_ws RX3 TX3 14, w ∈ wsX3_asksServing := by decide +kernel
  subst hsz
  have hD := hD0.self (sz := s.heap.size)
  have hAlo : ∀ q, va_A (mW cI m0 a th σ) s.heap.size q → lo ≤ q := eA_lo hD0 hlo
  generalize hAe : va_A (mW cI m0 a th σ) s.heap.size = A at hD hAlo ⊢
  have hA : ∀ q : Nat, s.heap.size ≤ q → A q := fun q h => by rw [← hAe]; exact Or.inr h
  have hS : va_S A s.heap s.heap [] := va_S.rf
  have hP : va_P dD vwCl (mW cI m0 a th σ) s.heap := hP
  obtain ⟨i_now, i_n, i_tk, i_k, i_lt, i_row, i_cp, i_srv⟩ := id hI
  have hl := lv_entry ([.ref m0, .int x]) (n := 2) (Nat.le_of_ble_eq_true rfl)
  rw [lg_entry_eq]
  generalize (lg_sl ([.ref m0, .int x]) ++ List.replicate (2 - (lg_sl ([.ref m0, .int x])).length) Slot.unset).toArray = ls at hl ⊢
  have hl : lv_has ls 2 [(0, .ref m0), (1, .int x)] := hl
  refine lv_aload_n hx hb dX3_asksServing_0 rfl (lv_at hl 0 rfl) ?_
  refine lv_iload_n hx hb dX3_asksServing_1 rfl (lv_at hl 1 rfl) ?_
  refine lv_iconst (v := nI 0) hx hb dX3_asksServing_2 (by decide +kernel) ?_
  refine lv_aload_n hx hb dX3_asksServing_3 rfl (lv_at hl 0 rfl) ?_
  refine va_get (D := dD) (ci := 3) (v := .int (nI (s_k σ))) (C := RX3) (T := TX3) (N := 14) hx hb hts hinX3 hown hK hP 0 rfl rfl 10 (by decide) (hts (.fieldLink RX3 83 "FeatureStoreModel" "servings" "I") (by decide +kernel)) (fun _ h9 => h9) rfl dX3_asksServing_4 ?_
  refine lv_iconst (v := nI 1) hx hb dX3_asksServing_7 (by decide +kernel) ?_
  refine lv_isub hx hb dX3_asksServing_8 ?_
  refine vp_callSi (va_Run.run (va_runS (As := [.int x, .int (nI 0), .int ((nI (s_k σ)) - (nI 1))]) (rest := [.ref m0]) ⟨hx, hb, hml, hown, hts⟩ (c_X3_in l dD cI cR cS lo x (nI 0) ((nI (s_k σ)) - (nI 1))) (va_cwS 3 hts gX3_asksServing_X3_in rfl rfl rfl (by decide +kernel) ⟨Nat.le_of_ble_eq_true rfl, Nat.le_of_ble_eq_true rfl⟩) (ePreS hE (hS.mono hAlo) trivial) rfl rfl hl.1 rfl (lv_room (Nat.le_of_ble_eq_true rfl)) dX3_asksServing_9 ⟨Nat.le_of_ble_eq_true rfl, Nat.le_of_ble_eq_true rfl⟩)) (fun r_9 hr_9 => ?_)
  rcases hr_9 with ⟨rfl, hr_9⟩ | ⟨rfl, hr_9⟩
  · rw [ri_in (by omega)] at hr_9
    refine nv_if_eq (tgt := 19) hx hb dX3_asksServing_12 (by decide) (by decide) (fun c_12 => absurd c_12 (by decide)) (fun c_12 => ?_)
    refine lv_iconst (v := nI 0) hx hb dX3_asksServing_15 (by decide +kernel) ?_
    refine lv_goto (tgt := 20) hx hb dX3_asksServing_16 (by decide) ?_
    refine va_put (D := dD) (ci := 3) (v := .int (nI 0)) (ty := .int) (C := RX3) (T := TX3) (N := 14) hx hb hts hinX3 tyX3 tyX3_ok nmX3 hown hK hP hD hS 0 rfl rfl 0 (by decide) (hts (.fieldLink RX3 37 "FeatureStoreModel" "thrown" "I") (by decide +kernel)) (fun _ h9 => h9) rfl (by decide +kernel) rfl rfl (Nat.le_of_ble_eq_true rfl) dX3_asksServing_20 (fun H locs hP hD hS => ?_)
    have hP : va_P dD vwCl [(m0, .inr (3, [.int (nI 0), .int (nI (s_now σ)), .ref (a 0), .int (nI (s_n σ)), .ref (a 1), .ref (a 2), .ref (a 3), .ref (a 4), .int (nI (s_tk σ)), .ref (a 5), .int (nI (s_k σ)), .ref (a 6), .ref (a 7), .ref (a 8)])), (a 0, .inl (cI, 6, .inl (fun j => nI (s_lt σ j)))), (a 1, .inl (cI, 200, .inl (fun j => nI (s_pr σ j)))), (a 2, .inl (cI, 200, .inl (fun j => nI (s_ev σ j)))), (a 3, .inl (cI, 200, .inl (fun j => nI (s_ar σ j)))), (a 4, .inl (cI, 200, .inl (fun j => nI (s_vl σ j)))), (a 5, .inl (cI, 60, .inl (fun j => nI (s_cp σ j)))), (a 6, .inl (cI, 200, .inl (fun j => nI (s_sp σ j)))), (a 7, .inl (cI, 200, .inl (fun j => nI (s_sa σ j)))), (a 8, .inl (cI, 200, .inl (fun j => eN (s_sv σ j))))] H := hP
    have hD : va_D A [(m0, .inr (3, [.int (nI 0), .int (nI (s_now σ)), .ref (a 0), .int (nI (s_n σ)), .ref (a 1), .ref (a 2), .ref (a 3), .ref (a 4), .int (nI (s_tk σ)), .ref (a 5), .int (nI (s_k σ)), .ref (a 6), .ref (a 7), .ref (a 8)])), (a 0, .inl (cI, 6, .inl (fun j => nI (s_lt σ j)))), (a 1, .inl (cI, 200, .inl (fun j => nI (s_pr σ j)))), (a 2, .inl (cI, 200, .inl (fun j => nI (s_ev σ j)))), (a 3, .inl (cI, 200, .inl (fun j => nI (s_ar σ j)))), (a 4, .inl (cI, 200, .inl (fun j => nI (s_vl σ j)))), (a 5, .inl (cI, 60, .inl (fun j => nI (s_cp σ j)))), (a 6, .inl (cI, 200, .inl (fun j => nI (s_sp σ j)))), (a 7, .inl (cI, 200, .inl (fun j => nI (s_sa σ j)))), (a 8, .inl (cI, 200, .inl (fun j => eN (s_sv σ j))))] := hD
    refine lv_aload_n hx hb dX3_asksServing_23 rfl (lv_at hl 0 rfl) ?_
    refine va_get (D := dD) (ci := 3) (v := .int (nI 0)) (C := RX3) (T := TX3) (N := 14) hx hb hts hinX3 hown hK hP 0 rfl rfl 0 (by decide) (hts (.fieldLink RX3 37 "FeatureStoreModel" "thrown" "I") (by decide +kernel)) (fun _ h9 => h9) rfl dX3_asksServing_24 ?_
    refine nv_if_ne (tgt := 34) hx hb dX3_asksServing_27 (by decide) (by decide) (fun c_27 => absurd c_27 (by decide)) (fun c_27 => ?_)
    refine lv_iconst (v := nI 1) hx hb dX3_asksServing_30 (by decide +kernel) ?_
    refine lv_goto (tgt := 35) hx hb dX3_asksServing_31 (by decide) ?_
    exact W.zret (v := nI 1) hx hb hr rfl (fun u9 hu9 hW => ⟨⟨nI 1, (0, σ), rfl, Or.inl ⟨hr_9, rfl, rfl⟩, by have h9 := hP; rw [← hu9] at h9; exact h9⟩, hS.F hu9⟩) hS.2.2 dX3_asksServing_35
  · rw [ri_in (by omega)] at hr_9
    refine nv_if_eq (tgt := 19) hx hb dX3_asksServing_12 (by decide) (by decide) (fun c_12 => ?_) (fun c_12 => absurd c_12 (by decide))
    refine lv_iconst (v := nI 1) hx hb dX3_asksServing_19 (by decide +kernel) ?_
    refine va_put (D := dD) (ci := 3) (v := .int (nI 1)) (ty := .int) (C := RX3) (T := TX3) (N := 14) hx hb hts hinX3 tyX3 tyX3_ok nmX3 hown hK hP hD hS 0 rfl rfl 0 (by decide) (hts (.fieldLink RX3 37 "FeatureStoreModel" "thrown" "I") (by decide +kernel)) (fun _ h9 => h9) rfl (by decide +kernel) rfl rfl (Nat.le_of_ble_eq_true rfl) dX3_asksServing_20 (fun H locs hP hD hS => ?_)
    have hP : va_P dD vwCl [(m0, .inr (3, [.int (nI 1), .int (nI (s_now σ)), .ref (a 0), .int (nI (s_n σ)), .ref (a 1), .ref (a 2), .ref (a 3), .ref (a 4), .int (nI (s_tk σ)), .ref (a 5), .int (nI (s_k σ)), .ref (a 6), .ref (a 7), .ref (a 8)])), (a 0, .inl (cI, 6, .inl (fun j => nI (s_lt σ j)))), (a 1, .inl (cI, 200, .inl (fun j => nI (s_pr σ j)))), (a 2, .inl (cI, 200, .inl (fun j => nI (s_ev σ j)))), (a 3, .inl (cI, 200, .inl (fun j => nI (s_ar σ j)))), (a 4, .inl (cI, 200, .inl (fun j => nI (s_vl σ j)))), (a 5, .inl (cI, 60, .inl (fun j => nI (s_cp σ j)))), (a 6, .inl (cI, 200, .inl (fun j => nI (s_sp σ j)))), (a 7, .inl (cI, 200, .inl (fun j => nI (s_sa σ j)))), (a 8, .inl (cI, 200, .inl (fun j => eN (s_sv σ j))))] H := hP
    have hD : va_D A [(m0, .inr (3, [.int (nI 1), .int (nI (s_now σ)), .ref (a 0), .int (nI (s_n σ)), .ref (a 1), .ref (a 2), .ref (a 3), .ref (a 4), .int (nI (s_tk σ)), .ref (a 5), .int (nI (s_k σ)), .ref (a 6), .ref (a 7), .ref (a 8)])), (a 0, .inl (cI, 6, .inl (fun j => nI (s_lt σ j)))), (a 1, .inl (cI, 200, .inl (fun j => nI (s_pr σ j)))), (a 2, .inl (cI, 200, .inl (fun j => nI (s_ev σ j)))), (a 3, .inl (cI, 200, .inl (fun j => nI (s_ar σ j)))), (a 4, .inl (cI, 200, .inl (fun j => nI (s_vl σ j)))), (a 5, .inl (cI, 60, .inl (fun j => nI (s_cp σ j)))), (a 6, .inl (cI, 200, .inl (fun j => nI (s_sp σ j)))), (a 7, .inl (cI, 200, .inl (fun j => nI (s_sa σ j)))), (a 8, .inl (cI, 200, .inl (fun j => eN (s_sv σ j))))] := hD
    refine lv_aload_n hx hb dX3_asksServing_23 rfl (lv_at hl 0 rfl) ?_
    refine va_get (D := dD) (ci := 3) (v := .int (nI 1)) (C := RX3) (T := TX3) (N := 14) hx hb hts hinX3 hown hK hP 0 rfl rfl 0 (by decide) (hts (.fieldLink RX3 37 "FeatureStoreModel" "thrown" "I") (by decide +kernel)) (fun _ h9 => h9) rfl dX3_asksServing_24 ?_
    refine nv_if_ne (tgt := 34) hx hb dX3_asksServing_27 (by decide) (by decide) (fun c_27 => ?_) (fun c_27 => absurd c_27 (by decide))
    refine lv_iconst (v := nI 0) hx hb dX3_asksServing_34 (by decide +kernel) ?_
    exact W.zret (v := nI 0) hx hb hr rfl (fun u9 hu9 hW => ⟨⟨nI 0, (1, σ), rfl, Or.inr ⟨hr_9, rfl, rfl⟩, by have h9 := hP; rw [← hu9] at h9; exact h9⟩, hS.F hu9⟩) hS.2.2 dX3_asksServing_35
end
section
/-! the reference: the methods that write, second half (laid by wip/whole/gen/x3wr2.py) -/
set_option maxHeartbeats 4000000 in
set_option maxRecDepth 100000 in
theorem c_X3_value (l : Launch) (dD : va_G) (cI cR cS : ClassId) (lo : Nat) (sz : Nat) (hlo : lo ≤ sz) (m0 : Nat) (a : Nat → Nat) (th : Nat) (σ : St) (hI : sI σ) (x : Int32) : Met l yX3_value wsX3_value ({ frames := 2, cells := 0, slots := 0, locals := 43 }) (ePc dD cI cR cS lo [.ref m0, .int x] (fun H => H.size = sz ∧ va_P dD vwCl (mW cI m0 a th σ) H ∧ va_D (fun q => lo ≤ q) (mW cI m0 a th σ))) (va_Qi (fun (r : Int32) (u : Nat × St) => R3 (ri x (s_n σ)) True σ σ (nI (s_vl σ (cl x))) r u) (fun u t => va_P dD vwCl (mW cI m0 a u.1 u.2) t.heap) (va_A (mW cI m0 a th σ) sz)) 0 0 (va_A (mW cI m0 a th σ) sz) := by
  refine Met.ofW (cc := cX3_value) (maxL := 2) (ret := (some .int)) (by decide) rfl ?_
  intro p e_ s m args below meth c s₁ B hml hv
  obtain ⟨rfl, hE, hsz, hP, hD0⟩ := hv
  have hx := B.exec
  have hb := B.bytes
  have hr := B.returns
  have hts := atoms_spec (ws := wsX3_value) B.pre
  have hown : s.vm.findClass RX3 = some m.cls := findClass_of_methodNamed B.named
  have hlocks := B.notSynchronized
  have hK := hE.1.1
  have hinX3 : ∀ w ∈ u_ws RX3 TX3 14, w ∈ wsX3_value := by decide +kernel
  subst hsz
  have hD := hD0.self (sz := s.heap.size)
  have hAlo : ∀ q, va_A (mW cI m0 a th σ) s.heap.size q → lo ≤ q := eA_lo hD0 hlo
  generalize hAe : va_A (mW cI m0 a th σ) s.heap.size = A at hD hAlo ⊢
  have hA : ∀ q : Nat, s.heap.size ≤ q → A q := fun q h => by rw [← hAe]; exact Or.inr h
  have hS : va_S A s.heap s.heap [] := va_S.rf
  have hP : va_P dD vwCl (mW cI m0 a th σ) s.heap := hP
  obtain ⟨i_now, i_n, i_tk, i_k, i_lt, i_row, i_cp, i_srv⟩ := id hI
  have hl := lv_entry ([.ref m0, .int x]) (n := 2) (Nat.le_of_ble_eq_true rfl)
  rw [lg_entry_eq]
  generalize (lg_sl ([.ref m0, .int x]) ++ List.replicate (2 - (lg_sl ([.ref m0, .int x])).length) Slot.unset).toArray = ls at hl ⊢
  have hl : lv_has ls 2 [(0, .ref m0), (1, .int x)] := hl
  refine lv_aload_n hx hb dX3_value_0 rfl (lv_at hl 0 rfl) ?_
  refine lv_iload_n hx hb dX3_value_1 rfl (lv_at hl 1 rfl) ?_
  have hFc := va_free (wc := (mW cI m0 a th σ)) hD hS hA [0, 1, 2, 3, 4, 5, 6, 7, 8, 9] rfl
  refine va_calli (va_runV (As := [.int x]) (rest := []) ⟨hx, hb, hml, hown, hts⟩ (c_X3_asksRow l dD cI cR cS lo s.heap.size (Nat.le_trans hlo hS.1) m0 a th σ hI x) (cwV 1 hts gX3_value_X3_asksRow rfl rfl rfl (by decide +kernel) ⟨Nat.le_of_ble_eq_true rfl, Nat.le_of_ble_eq_true rfl⟩) (ePreV hE (hS.mono hAlo) hP (k := 0) rfl rfl ⟨rfl, hP, va_D_fst hD0 rfl⟩) rfl rfl hl.1 rfl (lv_room (Nat.le_of_ble_eq_true rfl)) dX3_value_2 ⟨Nat.le_of_ble_eq_true rfl, Nat.le_of_ble_eq_true rfl⟩) hS (fun q _ h => hFc q h) hFc (fun r_2 u_ t_ H1 locs ht_ hvm_ hw_2 hB_ hz_ hk_ hS => ?_)
  obtain ⟨th_, σ_⟩ := u_
  rcases hw_2 with ⟨hc_, e_1, rfl⟩ | ⟨hc_, e_1, rfl⟩
  · cases e_1
    have hP : va_P dD vwCl (mW cI m0 a 0 σ) H1 := by rw [← ht_]; exact hB_
    have hD : va_D A (mW cI m0 a 0 σ) := va_D_fst hD rfl
    obtain ⟨i, hi_, rfl⟩ := ri_of (n := s_n σ) (by omega) hc_
    refine nv_if_eq (tgt := 17) hx hb dX3_value_5 (by decide) (by decide) (fun c_5 => absurd c_5 (by decide)) (fun c_5 => ?_)
    refine lv_aload_n hx hb dX3_value_8 rfl (lv_at hl 0 rfl) ?_
    refine va_get (D := dD) (ci := 3) (v := .ref (a 4)) (C := RX3) (T := TX3) (N := 14) hx hb hts hinX3 hown hK hP 0 rfl rfl 7 (by decide) (hts (.fieldLink RX3 22 "FeatureStoreModel" "value" "[I") (by decide +kernel)) (fun _ h9 => h9) rfl dX3_value_9 ?_
    refine lv_iload_n hx hb dX3_value_12 rfl (lv_at hl 1 rfl) ?_
    refine nv_iald (q0 := 5) (t0 := 0) (s_vl σ) hx hb hK hP rfl rfl (by omega) (by decide) dX3_value_13 ?_
    refine lv_goto (tgt := 18) hx hb dX3_value_14 (by decide) ?_
    exact W.iret (v := nI (s_vl σ i)) hx hb hr (fun u9 hu9 hW => ⟨⟨nI (s_vl σ i), (0, σ), rfl, Or.inl ⟨hc_, trivial, rfl, by rw [cl_nI (by omega)]⟩, by have h9 := hP; rw [← hu9] at h9; exact h9⟩, hS.F hu9⟩) hS.2.2 dX3_value_18
  · cases e_1
    have hP : va_P dD vwCl (mW cI m0 a 1 σ) H1 := by rw [← ht_]; exact hB_
    have hD : va_D A (mW cI m0 a 1 σ) := va_D_fst hD rfl
    refine nv_if_eq (tgt := 17) hx hb dX3_value_5 (by decide) (by decide) (fun c_5 => ?_) (fun c_5 => absurd c_5 (by decide))
    refine lv_iconst (v := nI 0) hx hb dX3_value_17 (by decide +kernel) ?_
    exact W.iret (v := nI 0) hx hb hr (fun u9 hu9 hW => ⟨⟨nI 0, (1, σ), rfl, Or.inr (Or.inl ⟨hc_, rfl⟩), by have h9 := hP; rw [← hu9] at h9; exact h9⟩, hS.F hu9⟩) hS.2.2 dX3_value_18

set_option maxHeartbeats 4000000 in
set_option maxRecDepth 100000 in
theorem c_X3_late (l : Launch) (dD : va_G) (cI cR cS : ClassId) (lo : Nat) (sz : Nat) (hlo : lo ≤ sz) (m0 : Nat) (a : Nat → Nat) (th : Nat) (σ : St) (hI : sI σ) (x : Int32) : Met l yX3_late wsX3_late ({ frames := 2, cells := 0, slots := 0, locals := 43 }) (ePc dD cI cR cS lo [.ref m0, .int x] (fun H => H.size = sz ∧ va_P dD vwCl (mW cI m0 a th σ) H ∧ va_D (fun q => lo ≤ q) (mW cI m0 a th σ))) (va_Qi (fun (r : Int32) (u : Nat × St) => R3 (ri x (s_n σ)) True σ σ (nI (s_ar σ (cl x) - s_ev σ (cl x))) r u) (fun u t => va_P dD vwCl (mW cI m0 a u.1 u.2) t.heap) (va_A (mW cI m0 a th σ) sz)) 0 0 (va_A (mW cI m0 a th σ) sz) := by
  refine Met.ofW (cc := cX3_late) (maxL := 2) (ret := (some .int)) (by decide) rfl ?_
  intro p e_ s m args below meth c s₁ B hml hv
  obtain ⟨rfl, hE, hsz, hP, hD0⟩ := hv
  have hx := B.exec
  have hb := B.bytes
  have hr := B.returns
  have hts := atoms_spec (ws := wsX3_late) B.pre
  have hown : s.vm.findClass RX3 = some m.cls := findClass_of_methodNamed B.named
  have hlocks := B.notSynchronized
  have hK := hE.1.1
  have hinX3 : ∀ w ∈ u_ws RX3 TX3 14, w ∈ wsX3_late := by decide +kernel
  subst hsz
  have hD := hD0.self (sz := s.heap.size)
  have hAlo : ∀ q, va_A (mW cI m0 a th σ) s.heap.size q → lo ≤ q := eA_lo hD0 hlo
  generalize hAe : va_A (mW cI m0 a th σ) s.heap.size = A at hD hAlo ⊢
  have hA : ∀ q : Nat, s.heap.size ≤ q → A q := fun q h => by rw [← hAe]; exact Or.inr h
  have hS : va_S A s.heap s.heap [] := va_S.rf
  have hP : va_P dD vwCl (mW cI m0 a th σ) s.heap := hP
  obtain ⟨i_now, i_n, i_tk, i_k, i_lt, i_row, i_cp, i_srv⟩ := id hI
  have hl := lv_entry ([.ref m0, .int x]) (n := 2) (Nat.le_of_ble_eq_true rfl)
  rw [lg_entry_eq]
  generalize (lg_sl ([.ref m0, .int x]) ++ List.replicate (2 - (lg_sl ([.ref m0, .int x])).length) Slot.unset).toArray = ls at hl ⊢
  have hl : lv_has ls 2 [(0, .ref m0), (1, .int x)] := hl
  refine lv_aload_n hx hb dX3_late_0 rfl (lv_at hl 0 rfl) ?_
  refine lv_iload_n hx hb dX3_late_1 rfl (lv_at hl 1 rfl) ?_
  have hFc := va_free (wc := (mW cI m0 a th σ)) hD hS hA [0, 1, 2, 3, 4, 5, 6, 7, 8, 9] rfl
  refine va_calli (va_runV (As := [.int x]) (rest := []) ⟨hx, hb, hml, hown, hts⟩ (c_X3_asksRow l dD cI cR cS lo s.heap.size (Nat.le_trans hlo hS.1) m0 a th σ hI x) (cwV 1 hts gX3_late_X3_asksRow rfl rfl rfl (by decide +kernel) ⟨Nat.le_of_ble_eq_true rfl, Nat.le_of_ble_eq_true rfl⟩) (ePreV hE (hS.mono hAlo) hP (k := 0) rfl rfl ⟨rfl, hP, va_D_fst hD0 rfl⟩) rfl rfl hl.1 rfl (lv_room (Nat.le_of_ble_eq_true rfl)) dX3_late_2 ⟨Nat.le_of_ble_eq_true rfl, Nat.le_of_ble_eq_true rfl⟩) hS (fun q _ h => hFc q h) hFc (fun r_2 u_ t_ H1 locs ht_ hvm_ hw_2 hB_ hz_ hk_ hS => ?_)
  obtain ⟨th_, σ_⟩ := u_
  rcases hw_2 with ⟨hc_, e_1, rfl⟩ | ⟨hc_, e_1, rfl⟩
  · cases e_1
    have hP : va_P dD vwCl (mW cI m0 a 0 σ) H1 := by rw [← ht_]; exact hB_
    have hD : va_D A (mW cI m0 a 0 σ) := va_D_fst hD rfl
    obtain ⟨i, hi_, rfl⟩ := ri_of (n := s_n σ) (by omega) hc_
    obtain ⟨hz_1, hz_2, hz_3, hz_4⟩ := i_row i hi_
    refine nv_if_eq (tgt := 24) hx hb dX3_late_5 (by decide) (by decide) (fun c_5 => absurd c_5 (by decide)) (fun c_5 => ?_)
    refine lv_aload_n hx hb dX3_late_8 rfl (lv_at hl 0 rfl) ?_
    refine va_get (D := dD) (ci := 3) (v := .ref (a 3)) (C := RX3) (T := TX3) (N := 14) hx hb hts hinX3 hown hK hP 0 rfl rfl 6 (by decide) (hts (.fieldLink RX3 19 "FeatureStoreModel" "arrival" "[I") (by decide +kernel)) (fun _ h9 => h9) rfl dX3_late_9 ?_
    refine lv_iload_n hx hb dX3_late_12 rfl (lv_at hl 1 rfl) ?_
    refine nv_iald (q0 := 4) (t0 := 0) (s_ar σ) hx hb hK hP rfl rfl (by omega) (by decide) dX3_late_13 ?_
    refine lv_aload_n hx hb dX3_late_14 rfl (lv_at hl 0 rfl) ?_
    refine va_get (D := dD) (ci := 3) (v := .ref (a 2)) (C := RX3) (T := TX3) (N := 14) hx hb hts hinX3 hown hK hP 0 rfl rfl 5 (by decide) (hts (.fieldLink RX3 16 "FeatureStoreModel" "event" "[I") (by decide +kernel)) (fun _ h9 => h9) rfl dX3_late_15 ?_
    refine lv_iload_n hx hb dX3_late_18 rfl (lv_at hl 1 rfl) ?_
    refine nv_iald (q0 := 3) (t0 := 0) (s_ev σ) hx hb hK hP rfl rfl (by omega) (by decide) dX3_late_19 ?_
    refine nv_isub hx hb dX3_late_20 (by omega) ?_
    refine lv_goto (tgt := 25) hx hb dX3_late_21 (by decide) ?_
    exact W.iret (v := nI ((s_ar σ i) - (s_ev σ i))) hx hb hr (fun u9 hu9 hW => ⟨⟨nI ((s_ar σ i) - (s_ev σ i)), (0, σ), rfl, Or.inl ⟨hc_, trivial, rfl, by rw [cl_nI (by omega)]⟩, by have h9 := hP; rw [← hu9] at h9; exact h9⟩, hS.F hu9⟩) hS.2.2 dX3_late_25
  · cases e_1
    have hP : va_P dD vwCl (mW cI m0 a 1 σ) H1 := by rw [← ht_]; exact hB_
    have hD : va_D A (mW cI m0 a 1 σ) := va_D_fst hD rfl
    refine nv_if_eq (tgt := 24) hx hb dX3_late_5 (by decide) (by decide) (fun c_5 => ?_) (fun c_5 => absurd c_5 (by decide))
    refine lv_iconst (v := nI 0) hx hb dX3_late_24 (by decide +kernel) ?_
    exact W.iret (v := nI 0) hx hb hr (fun u9 hu9 hW => ⟨⟨nI 0, (1, σ), rfl, Or.inr (Or.inl ⟨hc_, rfl⟩), by have h9 := hP; rw [← hu9] at h9; exact h9⟩, hS.F hu9⟩) hS.2.2 dX3_late_25

set_option maxHeartbeats 4000000 in
set_option maxRecDepth 100000 in
theorem c_X3_served (l : Launch) (dD : va_G) (cI cR cS : ClassId) (lo : Nat) (sz : Nat) (hlo : lo ≤ sz) (m0 : Nat) (a : Nat → Nat) (th : Nat) (σ : St) (hI : sI σ) (x : Int32) : Met l yX3_served wsX3_served ({ frames := 2, cells := 0, slots := 0, locals := 43 }) (ePc dD cI cR cS lo [.ref m0, .int x] (fun H => H.size = sz ∧ va_P dD vwCl (mW cI m0 a th σ) H ∧ va_D (fun q => lo ≤ q) (mW cI m0 a th σ))) (va_Qi (fun (r : Int32) (u : Nat × St) => R3 (ri x (s_k σ)) True σ σ (eN (s_sv σ (cl x))) r u) (fun u t => va_P dD vwCl (mW cI m0 a u.1 u.2) t.heap) (va_A (mW cI m0 a th σ) sz)) 0 0 (va_A (mW cI m0 a th σ) sz) := by
  refine Met.ofW (cc := cX3_served) (maxL := 2) (ret := (some .int)) (by decide) rfl ?_
  intro p e_ s m args below meth c s₁ B hml hv
  obtain ⟨rfl, hE, hsz, hP, hD0⟩ := hv
  have hx := B.exec
  have hb := B.bytes
  have hr := B.returns
  have hts := atoms_spec (ws := wsX3_served) B.pre
  have hown : s.vm.findClass RX3 = some m.cls := findClass_of_methodNamed B.named
  have hlocks := B.notSynchronized
  have hK := hE.1.1
  have hinX3 : ∀ w ∈ u_ws RX3 TX3 14, w ∈ wsX3_served := by decide +kernel
  subst hsz
  have hD := hD0.self (sz := s.heap.size)
  have hAlo : ∀ q, va_A (mW cI m0 a th σ) s.heap.size q → lo ≤ q := eA_lo hD0 hlo
  generalize hAe : va_A (mW cI m0 a th σ) s.heap.size = A at hD hAlo ⊢
  have hA : ∀ q : Nat, s.heap.size ≤ q → A q := fun q h => by rw [← hAe]; exact Or.inr h
  have hS : va_S A s.heap s.heap [] := va_S.rf
  have hP : va_P dD vwCl (mW cI m0 a th σ) s.heap := hP
  obtain ⟨i_now, i_n, i_tk, i_k, i_lt, i_row, i_cp, i_srv⟩ := id hI
  have hl := lv_entry ([.ref m0, .int x]) (n := 2) (Nat.le_of_ble_eq_true rfl)
  rw [lg_entry_eq]
  generalize (lg_sl ([.ref m0, .int x]) ++ List.replicate (2 - (lg_sl ([.ref m0, .int x])).length) Slot.unset).toArray = ls at hl ⊢
  have hl : lv_has ls 2 [(0, .ref m0), (1, .int x)] := hl
  refine lv_aload_n hx hb dX3_served_0 rfl (lv_at hl 0 rfl) ?_
  refine lv_iload_n hx hb dX3_served_1 rfl (lv_at hl 1 rfl) ?_
  have hFc := va_free (wc := (mW cI m0 a th σ)) hD hS hA [0, 1, 2, 3, 4, 5, 6, 7, 8, 9] rfl
  refine va_calli (va_runV (As := [.int x]) (rest := []) ⟨hx, hb, hml, hown, hts⟩ (c_X3_asksServing l dD cI cR cS lo s.heap.size (Nat.le_trans hlo hS.1) m0 a th σ hI x) (cwV 1 hts gX3_served_X3_asksServing rfl rfl rfl (by decide +kernel) ⟨Nat.le_of_ble_eq_true rfl, Nat.le_of_ble_eq_true rfl⟩) (ePreV hE (hS.mono hAlo) hP (k := 0) rfl rfl ⟨rfl, hP, va_D_fst hD0 rfl⟩) rfl rfl hl.1 rfl (lv_room (Nat.le_of_ble_eq_true rfl)) dX3_served_2 ⟨Nat.le_of_ble_eq_true rfl, Nat.le_of_ble_eq_true rfl⟩) hS (fun q _ h => hFc q h) hFc (fun r_2 u_ t_ H1 locs ht_ hvm_ hw_2 hB_ hz_ hk_ hS => ?_)
  obtain ⟨th_, σ_⟩ := u_
  rcases hw_2 with ⟨hc_, e_1, rfl⟩ | ⟨hc_, e_1, rfl⟩
  · cases e_1
    have hP : va_P dD vwCl (mW cI m0 a 0 σ) H1 := by rw [← ht_]; exact hB_
    have hD : va_D A (mW cI m0 a 0 σ) := va_D_fst hD rfl
    obtain ⟨i, hi_, rfl⟩ := ri_of (n := s_k σ) (by omega) hc_
    refine nv_if_eq (tgt := 17) hx hb dX3_served_5 (by decide) (by decide) (fun c_5 => absurd c_5 (by decide)) (fun c_5 => ?_)
    refine lv_aload_n hx hb dX3_served_8 rfl (lv_at hl 0 rfl) ?_
    refine va_get (D := dD) (ci := 3) (v := .ref (a 8)) (C := RX3) (T := TX3) (N := 14) hx hb hts hinX3 hown hK hP 0 rfl rfl 13 (by decide) (hts (.fieldLink RX3 34 "FeatureStoreModel" "served" "[I") (by decide +kernel)) (fun _ h9 => h9) rfl dX3_served_9 ?_
    refine lv_iload_n hx hb dX3_served_12 rfl (lv_at hl 1 rfl) ?_
    refine nv_eald (q0 := 9) (t0 := 0) (s_sv σ) hx hb hK hP rfl rfl (by omega) (by decide) dX3_served_13 ?_
    refine lv_goto (tgt := 18) hx hb dX3_served_14 (by decide) ?_
    exact W.iret (v := eN (s_sv σ i)) hx hb hr (fun u9 hu9 hW => ⟨⟨eN (s_sv σ i), (0, σ), rfl, Or.inl ⟨hc_, trivial, rfl, by rw [cl_nI (by omega)]⟩, by have h9 := hP; rw [← hu9] at h9; exact h9⟩, hS.F hu9⟩) hS.2.2 dX3_served_18
  · cases e_1
    have hP : va_P dD vwCl (mW cI m0 a 1 σ) H1 := by rw [← ht_]; exact hB_
    have hD : va_D A (mW cI m0 a 1 σ) := va_D_fst hD rfl
    refine nv_if_eq (tgt := 17) hx hb dX3_served_5 (by decide) (by decide) (fun c_5 => ?_) (fun c_5 => absurd c_5 (by decide))
    refine lv_iconst (v := nI 0) hx hb dX3_served_17 (by decide +kernel) ?_
    exact W.iret (v := nI 0) hx hb hr (fun u9 hu9 hW => ⟨⟨nI 0, (1, σ), rfl, Or.inr (Or.inl ⟨hc_, rfl⟩), by have h9 := hP; rw [← hu9] at h9; exact h9⟩, hS.F hu9⟩) hS.2.2 dX3_served_18

/-- 1 for a sound serving -/
def q_snd (σ : St) (i : Nat) : Nat := if s_sv σ i = q_join σ (s_sp σ i) (s_sa σ i) (s_sa σ i) then 1 else 0

set_option maxHeartbeats 4000000 in
set_option maxRecDepth 100000 in
theorem c_X3_isSound (l : Launch) (dD : va_G) (cI cR cS : ClassId) (lo : Nat) (sz : Nat) (hlo : lo ≤ sz) (m0 : Nat) (a : Nat → Nat) (th : Nat) (σ : St) (hI : sI σ) (x : Int32) : Met l yX3_isSound wsX3_isSound ({ frames := 3, cells := 0, slots := 0, locals := 70 }) (ePc dD cI cR cS lo [.ref m0, .int x] (fun H => H.size = sz ∧ va_P dD vwCl (mW cI m0 a th σ) H ∧ va_D (fun q => lo ≤ q) (mW cI m0 a th σ))) (va_Qi (fun (r : Int32) (u : Nat × St) => R3 (ri x (s_k σ)) True σ σ (nI (q_snd σ (cl x))) r u) (fun u t => va_P dD vwCl (mW cI m0 a u.1 u.2) t.heap) (va_A (mW cI m0 a th σ) sz)) 0 0 (va_A (mW cI m0 a th σ) sz) := by
  refine Met.ofW (cc := cX3_isSound) (maxL := 2) (ret := (some .boolean)) (by decide) rfl ?_
  intro p e_ s m args below meth c s₁ B hml hv
  obtain ⟨rfl, hE, hsz, hP, hD0⟩ := hv
  have hx := B.exec
  have hb := B.bytes
  have hr := B.returns
  have hts := atoms_spec (ws := wsX3_isSound) B.pre
  have hown : s.vm.findClass RX3 = some m.cls := findClass_of_methodNamed B.named
  have hlocks := B.notSynchronized
  have hK := hE.1.1
  subst hsz
  have hD := hD0.self (sz := s.heap.size)
  have hAlo : ∀ q, va_A (mW cI m0 a th σ) s.heap.size q → lo ≤ q := eA_lo hD0 hlo
  generalize hAe : va_A (mW cI m0 a th σ) s.heap.size = A at hD hAlo ⊢
  have hA : ∀ q : Nat, s.heap.size ≤ q → A q := fun q h => by rw [← hAe]; exact Or.inr h
  have hS : va_S A s.heap s.heap [] := va_S.rf
  have hP : va_P dD vwCl (mW cI m0 a th σ) s.heap := hP
  obtain ⟨i_now, i_n, i_tk, i_k, i_lt, i_row, i_cp, i_srv⟩ := id hI
  have hl := lv_entry ([.ref m0, .int x]) (n := 2) (Nat.le_of_ble_eq_true rfl)
  rw [lg_entry_eq]
  generalize (lg_sl ([.ref m0, .int x]) ++ List.replicate (2 - (lg_sl ([.ref m0, .int x])).length) Slot.unset).toArray = ls at hl ⊢
  have hl : lv_has ls 2 [(0, .ref m0), (1, .int x)] := hl
  refine lv_aload_n hx hb dX3_isSound_0 rfl (lv_at hl 0 rfl) ?_
  refine lv_iload_n hx hb dX3_isSound_1 rfl (lv_at hl 1 rfl) ?_
  have hFc := va_free (wc := (mW cI m0 a th σ)) hD hS hA [0, 1, 2, 3, 4, 5, 6, 7, 8, 9] rfl
  refine va_calli (va_runV (As := [.int x]) (rest := []) ⟨hx, hb, hml, hown, hts⟩ (c_X3_asksServing l dD cI cR cS lo s.heap.size (Nat.le_trans hlo hS.1) m0 a th σ hI x) (cwV 1 hts gX3_isSound_X3_asksServing rfl rfl rfl (by decide +kernel) ⟨Nat.le_of_ble_eq_true rfl, Nat.le_of_ble_eq_true rfl⟩) (ePreV hE (hS.mono hAlo) hP (k := 0) rfl rfl ⟨rfl, hP, va_D_fst hD0 rfl⟩) rfl rfl hl.1 rfl (lv_room (Nat.le_of_ble_eq_true rfl)) dX3_isSound_2 ⟨Nat.le_of_ble_eq_true rfl, Nat.le_of_ble_eq_true rfl⟩) hS (fun q _ h => hFc q h) hFc (fun r_2 u_ t_ H1 locs ht_ hvm_ hw_2 hB_ hz_ hk_ hS => ?_)
  obtain ⟨th_, σ_⟩ := u_
  rcases hw_2 with ⟨hc_, e_1, rfl⟩ | ⟨hc_, e_1, rfl⟩
  · cases e_1
    have hP : va_P dD vwCl (mW cI m0 a 0 σ) H1 := by rw [← ht_]; exact hB_
    have hD : va_D A (mW cI m0 a 0 σ) := va_D_fst hD rfl
    obtain ⟨i, hi_, rfl⟩ := ri_of (n := s_k σ) (by omega) hc_
    refine nv_if_eq (tgt := 20) hx hb dX3_isSound_5 (by decide) (by decide) (fun c_5 => absurd c_5 (by decide)) (fun c_5 => ?_)
    refine lv_aload_n hx hb dX3_isSound_8 rfl (lv_at hl 0 rfl) ?_
    refine lv_iload_n hx hb dX3_isSound_9 rfl (lv_at hl 1 rfl) ?_
    refine vp_callSi (va_Run.run (va_runV (As := [.int (nI i)]) (rest := []) ⟨hx, hb, hml, hown, hts⟩ (c_X3_isRight l dD cI cR cS lo m0 a 0 σ hI i hi_) (cwV 1 hts gX3_isSound_X3_isRight rfl rfl rfl (by decide +kernel) ⟨Nat.le_of_ble_eq_true rfl, Nat.le_of_ble_eq_true rfl⟩) (ePreV hE (hS.mono hAlo) hP (k := 0) rfl rfl hP) rfl rfl hl.1 rfl (lv_room (Nat.le_of_ble_eq_true rfl)) dX3_isSound_10 ⟨Nat.le_of_ble_eq_true rfl, Nat.le_of_ble_eq_true rfl⟩)) (fun r_10 hr_10 => ?_)
    rcases hr_10 with ⟨rfl, hr_10⟩ | ⟨rfl, hr_10⟩
    · refine nv_if_eq (tgt := 20) hx hb dX3_isSound_13 (by decide) (by decide) (fun c_13 => absurd c_13 (by decide)) (fun c_13 => ?_)
      refine lv_iconst (v := nI 1) hx hb dX3_isSound_16 (by decide +kernel) ?_
      refine lv_goto (tgt := 21) hx hb dX3_isSound_17 (by decide) ?_
      exact W.zret (v := nI 1) hx hb hr rfl (fun u9 hu9 hW => ⟨⟨nI 1, (0, σ), rfl, Or.inl ⟨hc_, trivial, rfl, by rw [cl_nI (by omega), q_snd, if_pos hr_10]⟩, by have h9 := hP; rw [← hu9] at h9; exact h9⟩, hS.F hu9⟩) hS.2.2 dX3_isSound_21
    · refine nv_if_eq (tgt := 20) hx hb dX3_isSound_13 (by decide) (by decide) (fun c_13 => ?_) (fun c_13 => absurd c_13 (by decide))
      refine lv_iconst (v := nI 0) hx hb dX3_isSound_20 (by decide +kernel) ?_
      exact W.zret (v := nI 0) hx hb hr rfl (fun u9 hu9 hW => ⟨⟨nI 0, (0, σ), rfl, Or.inl ⟨hc_, trivial, rfl, by rw [cl_nI (by omega), q_snd, if_neg hr_10]⟩, by have h9 := hP; rw [← hu9] at h9; exact h9⟩, hS.F hu9⟩) hS.2.2 dX3_isSound_21
  · cases e_1
    have hP : va_P dD vwCl (mW cI m0 a 1 σ) H1 := by rw [← ht_]; exact hB_
    have hD : va_D A (mW cI m0 a 1 σ) := va_D_fst hD rfl
    refine nv_if_eq (tgt := 20) hx hb dX3_isSound_5 (by decide) (by decide) (fun c_5 => ?_) (fun c_5 => absurd c_5 (by decide))
    refine lv_iconst (v := nI 0) hx hb dX3_isSound_20 (by decide +kernel) ?_
    exact W.zret (v := nI 0) hx hb hr rfl (fun u9 hu9 hW => ⟨⟨nI 0, (1, σ), rfl, Or.inr (Or.inl ⟨hc_, rfl⟩), by have h9 := hP; rw [← hu9] at h9; exact h9⟩, hS.F hu9⟩) hS.2.2 dX3_isSound_21

set_option maxHeartbeats 4000000 in
set_option maxRecDepth 100000 in
theorem c_X3_asksTiles (l : Launch) (dD : va_G) (cI cR cS : ClassId) (lo : Nat) (sz : Nat) (hlo : lo ≤ sz) (m0 : Nat) (a : Nat → Nat) (th : Nat) (σ : St) (hI : sI σ) (f e x : Int32) : Met l yX3_asksTiles wsX3_asksTiles ({ frames := 2, cells := 0, slots := 0, locals := 43 }) (ePc dD cI cR cS lo [.ref m0, .int f, .int e, .int x] (fun H => H.size = sz ∧ va_P dD vwCl (mW cI m0 a th σ) H ∧ va_D (fun q => lo ≤ q) (mW cI m0 a th σ))) (va_Qi (fun (r : Int32) (u : Nat × St) => ((okP f e ∧ rg x 1 10000) ∧ u = (0, σ) ∧ r = nI 1) ∨ (¬ (okP f e ∧ rg x 1 10000) ∧ u = (1, σ) ∧ r = nI 0)) (fun u t => va_P dD vwCl (mW cI m0 a u.1 u.2) t.heap) (va_A (mW cI m0 a th σ) sz)) 0 0 (va_A (mW cI m0 a th σ) sz) := by
  refine Met.ofW (cc := cX3_asksTiles) (maxL := 4) (ret := (some .boolean)) (by decide) rfl ?_
  intro p e_ s m args below meth c s₁ B hml hv
  obtain ⟨rfl, hE, hsz, hP, hD0⟩ := hv
  have hx := B.exec
  have hb := B.bytes
  have hr := B.returns
  have hts := atoms_spec (ws := wsX3_asksTiles) B.pre
  have hown : s.vm.findClass RX3 = some m.cls := findClass_of_methodNamed B.named
  have hlocks := B.notSynchronized
  have hK := hE.1.1
  have hinX3 : ∀ w ∈ u_ws RX3 TX3 14, w ∈ wsX3_asksTiles := by decide +kernel
  subst hsz
  have hD := hD0.self (sz := s.heap.size)
  have hAlo : ∀ q, va_A (mW cI m0 a th σ) s.heap.size q → lo ≤ q := eA_lo hD0 hlo
  generalize hAe : va_A (mW cI m0 a th σ) s.heap.size = A at hD hAlo ⊢
  have hA : ∀ q : Nat, s.heap.size ≤ q → A q := fun q h => by rw [← hAe]; exact Or.inr h
  have hS : va_S A s.heap s.heap [] := va_S.rf
  have hP : va_P dD vwCl (mW cI m0 a th σ) s.heap := hP
  obtain ⟨i_now, i_n, i_tk, i_k, i_lt, i_row, i_cp, i_srv⟩ := id hI
  have hl := lv_entry ([.ref m0, .int f, .int e, .int x]) (n := 4) (Nat.le_of_ble_eq_true rfl)
  rw [lg_entry_eq]
  generalize (lg_sl ([.ref m0, .int f, .int e, .int x]) ++ List.replicate (4 - (lg_sl ([.ref m0, .int f, .int e, .int x])).length) Slot.unset).toArray = ls at hl ⊢
  have hl : lv_has ls 4 [(0, .ref m0), (1, .int f), (2, .int e), (3, .int x)] := hl
  refine lv_aload_n hx hb dX3_asksTiles_0 rfl (lv_at hl 0 rfl) ?_
  refine lv_iload_n hx hb dX3_asksTiles_1 rfl (lv_at hl 1 rfl) ?_
  refine lv_iload_n hx hb dX3_asksTiles_2 rfl (lv_at hl 2 rfl) ?_
  refine vp_callSi (va_Run.run (va_runS (As := [.int f, .int e]) (rest := [.ref m0]) ⟨hx, hb, hml, hown, hts⟩ (c_X3_isPair l dD cI cR cS lo f e) (va_cwS 2 hts gX3_asksTiles_X3_isPair rfl rfl rfl (by decide +kernel) ⟨Nat.le_of_ble_eq_true rfl, Nat.le_of_ble_eq_true rfl⟩) (ePreS hE (hS.mono hAlo) trivial) rfl rfl hl.1 rfl (lv_room (Nat.le_of_ble_eq_true rfl)) dX3_asksTiles_3 ⟨Nat.le_of_ble_eq_true rfl, Nat.le_of_ble_eq_true rfl⟩)) (fun r_3 hr_3 => ?_)
  rcases hr_3 with ⟨rfl, hr_3⟩ | ⟨rfl, hr_3⟩
  · refine nv_if_eq (tgt := 24) hx hb dX3_asksTiles_6 (by decide) (by decide) (fun c_6 => absurd c_6 (by decide)) (fun c_6 => ?_)
    refine lv_iload_n hx hb dX3_asksTiles_9 rfl (lv_at hl 3 rfl) ?_
    refine lv_iconst (v := nI 1) hx hb dX3_asksTiles_10 (by decide +kernel) ?_
    refine lv_sipush (v := nI 10000) hx hb dX3_asksTiles_11 (by decide +kernel) ?_
    refine vp_callSi (va_Run.run (va_runS (As := [.int x, .int (nI 1), .int (nI 10000)]) (rest := [.ref m0]) ⟨hx, hb, hml, hown, hts⟩ (c_X3_in l dD cI cR cS lo x (nI 1) (nI 10000)) (va_cwS 3 hts gX3_asksTiles_X3_in rfl rfl rfl (by decide +kernel) ⟨Nat.le_of_ble_eq_true rfl, Nat.le_of_ble_eq_true rfl⟩) (ePreS hE (hS.mono hAlo) trivial) rfl rfl hl.1 rfl (lv_room (Nat.le_of_ble_eq_true rfl)) dX3_asksTiles_14 ⟨Nat.le_of_ble_eq_true rfl, Nat.le_of_ble_eq_true rfl⟩)) (fun r_14 hr_14 => ?_)
    rcases hr_14 with ⟨rfl, hr_14⟩ | ⟨rfl, hr_14⟩
    · refine nv_if_eq (tgt := 24) hx hb dX3_asksTiles_17 (by decide) (by decide) (fun c_17 => absurd c_17 (by decide)) (fun c_17 => ?_)
      refine lv_iconst (v := nI 0) hx hb dX3_asksTiles_20 (by decide +kernel) ?_
      refine lv_goto (tgt := 25) hx hb dX3_asksTiles_21 (by decide) ?_
      refine va_put (D := dD) (ci := 3) (v := .int (nI 0)) (ty := .int) (C := RX3) (T := TX3) (N := 14) hx hb hts hinX3 tyX3 tyX3_ok nmX3 hown hK hP hD hS 0 rfl rfl 0 (by decide) (hts (.fieldLink RX3 37 "FeatureStoreModel" "thrown" "I") (by decide +kernel)) (fun _ h9 => h9) rfl (by decide +kernel) rfl rfl (Nat.le_of_ble_eq_true rfl) dX3_asksTiles_25 (fun H locs hP hD hS => ?_)
      have hP : va_P dD vwCl [(m0, .inr (3, [.int (nI 0), .int (nI (s_now σ)), .ref (a 0), .int (nI (s_n σ)), .ref (a 1), .ref (a 2), .ref (a 3), .ref (a 4), .int (nI (s_tk σ)), .ref (a 5), .int (nI (s_k σ)), .ref (a 6), .ref (a 7), .ref (a 8)])), (a 0, .inl (cI, 6, .inl (fun j => nI (s_lt σ j)))), (a 1, .inl (cI, 200, .inl (fun j => nI (s_pr σ j)))), (a 2, .inl (cI, 200, .inl (fun j => nI (s_ev σ j)))), (a 3, .inl (cI, 200, .inl (fun j => nI (s_ar σ j)))), (a 4, .inl (cI, 200, .inl (fun j => nI (s_vl σ j)))), (a 5, .inl (cI, 60, .inl (fun j => nI (s_cp σ j)))), (a 6, .inl (cI, 200, .inl (fun j => nI (s_sp σ j)))), (a 7, .inl (cI, 200, .inl (fun j => nI (s_sa σ j)))), (a 8, .inl (cI, 200, .inl (fun j => eN (s_sv σ j))))] H := hP
      have hD : va_D A [(m0, .inr (3, [.int (nI 0), .int (nI (s_now σ)), .ref (a 0), .int (nI (s_n σ)), .ref (a 1), .ref (a 2), .ref (a 3), .ref (a 4), .int (nI (s_tk σ)), .ref (a 5), .int (nI (s_k σ)), .ref (a 6), .ref (a 7), .ref (a 8)])), (a 0, .inl (cI, 6, .inl (fun j => nI (s_lt σ j)))), (a 1, .inl (cI, 200, .inl (fun j => nI (s_pr σ j)))), (a 2, .inl (cI, 200, .inl (fun j => nI (s_ev σ j)))), (a 3, .inl (cI, 200, .inl (fun j => nI (s_ar σ j)))), (a 4, .inl (cI, 200, .inl (fun j => nI (s_vl σ j)))), (a 5, .inl (cI, 60, .inl (fun j => nI (s_cp σ j)))), (a 6, .inl (cI, 200, .inl (fun j => nI (s_sp σ j)))), (a 7, .inl (cI, 200, .inl (fun j => nI (s_sa σ j)))), (a 8, .inl (cI, 200, .inl (fun j => eN (s_sv σ j))))] := hD
      refine lv_aload_n hx hb dX3_asksTiles_28 rfl (lv_at hl 0 rfl) ?_
      refine va_get (D := dD) (ci := 3) (v := .int (nI 0)) (C := RX3) (T := TX3) (N := 14) hx hb hts hinX3 hown hK hP 0 rfl rfl 0 (by decide) (hts (.fieldLink RX3 37 "FeatureStoreModel" "thrown" "I") (by decide +kernel)) (fun _ h9 => h9) rfl dX3_asksTiles_29 ?_
      refine nv_if_ne (tgt := 39) hx hb dX3_asksTiles_32 (by decide) (by decide) (fun c_32 => absurd c_32 (by decide)) (fun c_32 => ?_)
      refine lv_iconst (v := nI 1) hx hb dX3_asksTiles_35 (by decide +kernel) ?_
      refine lv_goto (tgt := 40) hx hb dX3_asksTiles_36 (by decide) ?_
      exact W.zret (v := nI 1) hx hb hr rfl (fun u9 hu9 hW => ⟨⟨nI 1, (0, σ), rfl, Or.inl ⟨⟨hr_3, hr_14⟩, rfl, rfl⟩, by have h9 := hP; rw [← hu9] at h9; exact h9⟩, hS.F hu9⟩) hS.2.2 dX3_asksTiles_40
    · refine nv_if_eq (tgt := 24) hx hb dX3_asksTiles_17 (by decide) (by decide) (fun c_17 => ?_) (fun c_17 => absurd c_17 (by decide))
      refine lv_iconst (v := nI 1) hx hb dX3_asksTiles_24 (by decide +kernel) ?_
      refine va_put (D := dD) (ci := 3) (v := .int (nI 1)) (ty := .int) (C := RX3) (T := TX3) (N := 14) hx hb hts hinX3 tyX3 tyX3_ok nmX3 hown hK hP hD hS 0 rfl rfl 0 (by decide) (hts (.fieldLink RX3 37 "FeatureStoreModel" "thrown" "I") (by decide +kernel)) (fun _ h9 => h9) rfl (by decide +kernel) rfl rfl (Nat.le_of_ble_eq_true rfl) dX3_asksTiles_25 (fun H locs hP hD hS => ?_)
      have hP : va_P dD vwCl [(m0, .inr (3, [.int (nI 1), .int (nI (s_now σ)), .ref (a 0), .int (nI (s_n σ)), .ref (a 1), .ref (a 2), .ref (a 3), .ref (a 4), .int (nI (s_tk σ)), .ref (a 5), .int (nI (s_k σ)), .ref (a 6), .ref (a 7), .ref (a 8)])), (a 0, .inl (cI, 6, .inl (fun j => nI (s_lt σ j)))), (a 1, .inl (cI, 200, .inl (fun j => nI (s_pr σ j)))), (a 2, .inl (cI, 200, .inl (fun j => nI (s_ev σ j)))), (a 3, .inl (cI, 200, .inl (fun j => nI (s_ar σ j)))), (a 4, .inl (cI, 200, .inl (fun j => nI (s_vl σ j)))), (a 5, .inl (cI, 60, .inl (fun j => nI (s_cp σ j)))), (a 6, .inl (cI, 200, .inl (fun j => nI (s_sp σ j)))), (a 7, .inl (cI, 200, .inl (fun j => nI (s_sa σ j)))), (a 8, .inl (cI, 200, .inl (fun j => eN (s_sv σ j))))] H := hP
      have hD : va_D A [(m0, .inr (3, [.int (nI 1), .int (nI (s_now σ)), .ref (a 0), .int (nI (s_n σ)), .ref (a 1), .ref (a 2), .ref (a 3), .ref (a 4), .int (nI (s_tk σ)), .ref (a 5), .int (nI (s_k σ)), .ref (a 6), .ref (a 7), .ref (a 8)])), (a 0, .inl (cI, 6, .inl (fun j => nI (s_lt σ j)))), (a 1, .inl (cI, 200, .inl (fun j => nI (s_pr σ j)))), (a 2, .inl (cI, 200, .inl (fun j => nI (s_ev σ j)))), (a 3, .inl (cI, 200, .inl (fun j => nI (s_ar σ j)))), (a 4, .inl (cI, 200, .inl (fun j => nI (s_vl σ j)))), (a 5, .inl (cI, 60, .inl (fun j => nI (s_cp σ j)))), (a 6, .inl (cI, 200, .inl (fun j => nI (s_sp σ j)))), (a 7, .inl (cI, 200, .inl (fun j => nI (s_sa σ j)))), (a 8, .inl (cI, 200, .inl (fun j => eN (s_sv σ j))))] := hD
      refine lv_aload_n hx hb dX3_asksTiles_28 rfl (lv_at hl 0 rfl) ?_
      refine va_get (D := dD) (ci := 3) (v := .int (nI 1)) (C := RX3) (T := TX3) (N := 14) hx hb hts hinX3 hown hK hP 0 rfl rfl 0 (by decide) (hts (.fieldLink RX3 37 "FeatureStoreModel" "thrown" "I") (by decide +kernel)) (fun _ h9 => h9) rfl dX3_asksTiles_29 ?_
      refine nv_if_ne (tgt := 39) hx hb dX3_asksTiles_32 (by decide) (by decide) (fun c_32 => ?_) (fun c_32 => absurd c_32 (by decide))
      refine lv_iconst (v := nI 0) hx hb dX3_asksTiles_39 (by decide +kernel) ?_
      exact W.zret (v := nI 0) hx hb hr rfl (fun u9 hu9 hW => ⟨⟨nI 0, (1, σ), rfl, Or.inr ⟨fun h => hr_14 h.2, rfl, rfl⟩, by have h9 := hP; rw [← hu9] at h9; exact h9⟩, hS.F hu9⟩) hS.2.2 dX3_asksTiles_40
  · refine nv_if_eq (tgt := 24) hx hb dX3_asksTiles_6 (by decide) (by decide) (fun c_6 => ?_) (fun c_6 => absurd c_6 (by decide))
    refine lv_iconst (v := nI 1) hx hb dX3_asksTiles_24 (by decide +kernel) ?_
    refine va_put (D := dD) (ci := 3) (v := .int (nI 1)) (ty := .int) (C := RX3) (T := TX3) (N := 14) hx hb hts hinX3 tyX3 tyX3_ok nmX3 hown hK hP hD hS 0 rfl rfl 0 (by decide) (hts (.fieldLink RX3 37 "FeatureStoreModel" "thrown" "I") (by decide +kernel)) (fun _ h9 => h9) rfl (by decide +kernel) rfl rfl (Nat.le_of_ble_eq_true rfl) dX3_asksTiles_25 (fun H locs hP hD hS => ?_)
    have hP : va_P dD vwCl [(m0, .inr (3, [.int (nI 1), .int (nI (s_now σ)), .ref (a 0), .int (nI (s_n σ)), .ref (a 1), .ref (a 2), .ref (a 3), .ref (a 4), .int (nI (s_tk σ)), .ref (a 5), .int (nI (s_k σ)), .ref (a 6), .ref (a 7), .ref (a 8)])), (a 0, .inl (cI, 6, .inl (fun j => nI (s_lt σ j)))), (a 1, .inl (cI, 200, .inl (fun j => nI (s_pr σ j)))), (a 2, .inl (cI, 200, .inl (fun j => nI (s_ev σ j)))), (a 3, .inl (cI, 200, .inl (fun j => nI (s_ar σ j)))), (a 4, .inl (cI, 200, .inl (fun j => nI (s_vl σ j)))), (a 5, .inl (cI, 60, .inl (fun j => nI (s_cp σ j)))), (a 6, .inl (cI, 200, .inl (fun j => nI (s_sp σ j)))), (a 7, .inl (cI, 200, .inl (fun j => nI (s_sa σ j)))), (a 8, .inl (cI, 200, .inl (fun j => eN (s_sv σ j))))] H := hP
    have hD : va_D A [(m0, .inr (3, [.int (nI 1), .int (nI (s_now σ)), .ref (a 0), .int (nI (s_n σ)), .ref (a 1), .ref (a 2), .ref (a 3), .ref (a 4), .int (nI (s_tk σ)), .ref (a 5), .int (nI (s_k σ)), .ref (a 6), .ref (a 7), .ref (a 8)])), (a 0, .inl (cI, 6, .inl (fun j => nI (s_lt σ j)))), (a 1, .inl (cI, 200, .inl (fun j => nI (s_pr σ j)))), (a 2, .inl (cI, 200, .inl (fun j => nI (s_ev σ j)))), (a 3, .inl (cI, 200, .inl (fun j => nI (s_ar σ j)))), (a 4, .inl (cI, 200, .inl (fun j => nI (s_vl σ j)))), (a 5, .inl (cI, 60, .inl (fun j => nI (s_cp σ j)))), (a 6, .inl (cI, 200, .inl (fun j => nI (s_sp σ j)))), (a 7, .inl (cI, 200, .inl (fun j => nI (s_sa σ j)))), (a 8, .inl (cI, 200, .inl (fun j => eN (s_sv σ j))))] := hD
    refine lv_aload_n hx hb dX3_asksTiles_28 rfl (lv_at hl 0 rfl) ?_
    refine va_get (D := dD) (ci := 3) (v := .int (nI 1)) (C := RX3) (T := TX3) (N := 14) hx hb hts hinX3 hown hK hP 0 rfl rfl 0 (by decide) (hts (.fieldLink RX3 37 "FeatureStoreModel" "thrown" "I") (by decide +kernel)) (fun _ h9 => h9) rfl dX3_asksTiles_29 ?_
    refine nv_if_ne (tgt := 39) hx hb dX3_asksTiles_32 (by decide) (by decide) (fun c_32 => ?_) (fun c_32 => absurd c_32 (by decide))
    refine lv_iconst (v := nI 0) hx hb dX3_asksTiles_39 (by decide +kernel) ?_
    exact W.zret (v := nI 0) hx hb hr rfl (fun u9 hu9 hW => ⟨⟨nI 0, (1, σ), rfl, Or.inr ⟨fun h => hr_3 h.1, rfl, rfl⟩, by have h9 := hP; rw [← hu9] at h9; exact h9⟩, hS.F hu9⟩) hS.2.2 dX3_asksTiles_40

set_option maxHeartbeats 4000000 in
set_option maxRecDepth 100000 in
theorem c_X3_join (l : Launch) (dD : va_G) (cI cR cS : ClassId) (lo : Nat) (sz : Nat) (hlo : lo ≤ sz) (m0 : Nat) (a : Nat → Nat) (th : Nat) (σ : St) (hI : sI σ) (f e t k : Int32) : Met l yX3_join wsX3_join ({ frames := 2, cells := 0, slots := 0, locals := 49 }) (ePc dD cI cR cS lo [.ref m0, .int f, .int e, .int t, .int k] (fun H => H.size = sz ∧ va_P dD vwCl (mW cI m0 a th σ) H ∧ va_D (fun q => lo ≤ q) (mW cI m0 a th σ))) (va_Qi (fun (r : Int32) (u : Nat × St) => R3 (okP f e ∧ rg t 0 10000 ∧ rg k 0 (s_now σ)) True σ σ (eN (q_join σ (plN f e) (cl t) (cl k))) r u) (fun u t => va_P dD vwCl (mW cI m0 a u.1 u.2) t.heap) (va_A (mW cI m0 a th σ) sz)) 0 0 (va_A (mW cI m0 a th σ) sz) := by
  refine Met.ofW (cc := cX3_join) (maxL := 5) (ret := (some .int)) (by decide) rfl ?_
  intro p e_ s m args below meth c s₁ B hml hv
  obtain ⟨rfl, hE, hsz, hP, hD0⟩ := hv
  have hx := B.exec
  have hb := B.bytes
  have hr := B.returns
  have hts := atoms_spec (ws := wsX3_join) B.pre
  have hown : s.vm.findClass RX3 = some m.cls := findClass_of_methodNamed B.named
  have hlocks := B.notSynchronized
  have hK := hE.1.1
  have hinX3 : ∀ w ∈ u_ws RX3 TX3 14, w ∈ wsX3_join := by decide +kernel
  subst hsz
  have hD := hD0.self (sz := s.heap.size)
  have hAlo : ∀ q, va_A (mW cI m0 a th σ) s.heap.size q → lo ≤ q := eA_lo hD0 hlo
  generalize hAe : va_A (mW cI m0 a th σ) s.heap.size = A at hD hAlo ⊢
  have hA : ∀ q : Nat, s.heap.size ≤ q → A q := fun q h => by rw [← hAe]; exact Or.inr h
  have hS : va_S A s.heap s.heap [] := va_S.rf
  have hP : va_P dD vwCl (mW cI m0 a th σ) s.heap := hP
  obtain ⟨i_now, i_n, i_tk, i_k, i_lt, i_row, i_cp, i_srv⟩ := id hI
  have hl := lv_entry ([.ref m0, .int f, .int e, .int t, .int k]) (n := 5) (Nat.le_of_ble_eq_true rfl)
  rw [lg_entry_eq]
  generalize (lg_sl ([.ref m0, .int f, .int e, .int t, .int k]) ++ List.replicate (5 - (lg_sl ([.ref m0, .int f, .int e, .int t, .int k])).length) Slot.unset).toArray = ls at hl ⊢
  have hl : lv_has ls 5 [(0, .ref m0), (1, .int f), (2, .int e), (3, .int t), (4, .int k)] := hl
  refine lv_aload_n hx hb dX3_join_0 rfl (lv_at hl 0 rfl) ?_
  refine lv_iload_n hx hb dX3_join_1 rfl (lv_at hl 1 rfl) ?_
  refine lv_iload_n hx hb dX3_join_2 rfl (lv_at hl 2 rfl) ?_
  refine vp_callSi (va_Run.run (va_runS (As := [.int f, .int e]) (rest := [.ref m0]) ⟨hx, hb, hml, hown, hts⟩ (c_X3_isPair l dD cI cR cS lo f e) (va_cwS 2 hts gX3_join_X3_isPair rfl rfl rfl (by decide +kernel) ⟨Nat.le_of_ble_eq_true rfl, Nat.le_of_ble_eq_true rfl⟩) (ePreS hE (hS.mono hAlo) trivial) rfl rfl hl.1 rfl (lv_room (Nat.le_of_ble_eq_true rfl)) dX3_join_3 ⟨Nat.le_of_ble_eq_true rfl, Nat.le_of_ble_eq_true rfl⟩)) (fun r_3 hr_3 => ?_)
  rcases hr_3 with ⟨rfl, hr_3⟩ | ⟨rfl, hr_3⟩
  · refine nv_if_eq (tgt := 37) hx hb dX3_join_6 (by decide) (by decide) (fun c_6 => absurd c_6 (by decide)) (fun c_6 => ?_)
    refine lv_iload_n hx hb dX3_join_9 rfl (lv_at hl 3 rfl) ?_
    refine lv_iconst (v := nI 0) hx hb dX3_join_10 (by decide +kernel) ?_
    refine lv_sipush (v := nI 10000) hx hb dX3_join_11 (by decide +kernel) ?_
    refine vp_callSi (va_Run.run (va_runS (As := [.int t, .int (nI 0), .int (nI 10000)]) (rest := [.ref m0]) ⟨hx, hb, hml, hown, hts⟩ (c_X3_in l dD cI cR cS lo t (nI 0) (nI 10000)) (va_cwS 3 hts gX3_join_X3_in rfl rfl rfl (by decide +kernel) ⟨Nat.le_of_ble_eq_true rfl, Nat.le_of_ble_eq_true rfl⟩) (ePreS hE (hS.mono hAlo) trivial) rfl rfl hl.1 rfl (lv_room (Nat.le_of_ble_eq_true rfl)) dX3_join_14 ⟨Nat.le_of_ble_eq_true rfl, Nat.le_of_ble_eq_true rfl⟩)) (fun r_14 hr_14 => ?_)
    rcases hr_14 with ⟨rfl, hr_14⟩ | ⟨rfl, hr_14⟩
    · refine nv_if_eq (tgt := 37) hx hb dX3_join_17 (by decide) (by decide) (fun c_17 => absurd c_17 (by decide)) (fun c_17 => ?_)
      refine lv_iload hx hb dX3_join_20 (lv_at hl 4 rfl) ?_
      refine lv_iconst (v := nI 0) hx hb dX3_join_22 (by decide +kernel) ?_
      refine lv_aload_n hx hb dX3_join_23 rfl (lv_at hl 0 rfl) ?_
      refine va_get (D := dD) (ci := 3) (v := .int (nI (s_now σ))) (C := RX3) (T := TX3) (N := 14) hx hb hts hinX3 hown hK hP 0 rfl rfl 1 (by decide) (hts (.fieldLink RX3 49 "FeatureStoreModel" "now" "I") (by decide +kernel)) (fun _ h9 => h9) rfl dX3_join_24 ?_
      refine vp_callSi (va_Run.run (va_runS (As := [.int k, .int (nI 0), .int (nI (s_now σ))]) (rest := [.ref m0]) ⟨hx, hb, hml, hown, hts⟩ (c_X3_in l dD cI cR cS lo k (nI 0) (nI (s_now σ))) (va_cwS 3 hts gX3_join_X3_in rfl rfl rfl (by decide +kernel) ⟨Nat.le_of_ble_eq_true rfl, Nat.le_of_ble_eq_true rfl⟩) (ePreS hE (hS.mono hAlo) trivial) rfl rfl hl.1 rfl (lv_room (Nat.le_of_ble_eq_true rfl)) dX3_join_27 ⟨Nat.le_of_ble_eq_true rfl, Nat.le_of_ble_eq_true rfl⟩)) (fun r_27 hr_27 => ?_)
      rcases hr_27 with ⟨rfl, hr_27⟩ | ⟨rfl, hr_27⟩
      · obtain ⟨fn, hfn1, hfn2, rfl⟩ := rg_of (by decide) (by decide) (hr_3.1)
        obtain ⟨en, hen1, hen2, rfl⟩ := rg_of (by decide) (by decide) (hr_3.2)
        obtain ⟨tn, htn1, htn2, rfl⟩ := rg_of (by decide) (by decide) (hr_14)
        obtain ⟨kn, hkn1, hkn2, rfl⟩ := rg_of (by decide) (by omega) (hr_27)
        refine nv_if_eq (tgt := 37) hx hb dX3_join_30 (by decide) (by decide) (fun c_30 => absurd c_30 (by decide)) (fun c_30 => ?_)
        refine lv_iconst (v := nI 0) hx hb dX3_join_33 (by decide +kernel) ?_
        refine lv_goto (tgt := 38) hx hb dX3_join_34 (by decide) ?_
        refine va_put (D := dD) (ci := 3) (v := .int (nI 0)) (ty := .int) (C := RX3) (T := TX3) (N := 14) hx hb hts hinX3 tyX3 tyX3_ok nmX3 hown hK hP hD hS 0 rfl rfl 0 (by decide) (hts (.fieldLink RX3 37 "FeatureStoreModel" "thrown" "I") (by decide +kernel)) (fun _ h9 => h9) rfl (by decide +kernel) rfl rfl (Nat.le_of_ble_eq_true rfl) dX3_join_38 (fun H locs hP hD hS => ?_)
        have hP : va_P dD vwCl [(m0, .inr (3, [.int (nI 0), .int (nI (s_now σ)), .ref (a 0), .int (nI (s_n σ)), .ref (a 1), .ref (a 2), .ref (a 3), .ref (a 4), .int (nI (s_tk σ)), .ref (a 5), .int (nI (s_k σ)), .ref (a 6), .ref (a 7), .ref (a 8)])), (a 0, .inl (cI, 6, .inl (fun j => nI (s_lt σ j)))), (a 1, .inl (cI, 200, .inl (fun j => nI (s_pr σ j)))), (a 2, .inl (cI, 200, .inl (fun j => nI (s_ev σ j)))), (a 3, .inl (cI, 200, .inl (fun j => nI (s_ar σ j)))), (a 4, .inl (cI, 200, .inl (fun j => nI (s_vl σ j)))), (a 5, .inl (cI, 60, .inl (fun j => nI (s_cp σ j)))), (a 6, .inl (cI, 200, .inl (fun j => nI (s_sp σ j)))), (a 7, .inl (cI, 200, .inl (fun j => nI (s_sa σ j)))), (a 8, .inl (cI, 200, .inl (fun j => eN (s_sv σ j))))] H := hP
        have hD : va_D A [(m0, .inr (3, [.int (nI 0), .int (nI (s_now σ)), .ref (a 0), .int (nI (s_n σ)), .ref (a 1), .ref (a 2), .ref (a 3), .ref (a 4), .int (nI (s_tk σ)), .ref (a 5), .int (nI (s_k σ)), .ref (a 6), .ref (a 7), .ref (a 8)])), (a 0, .inl (cI, 6, .inl (fun j => nI (s_lt σ j)))), (a 1, .inl (cI, 200, .inl (fun j => nI (s_pr σ j)))), (a 2, .inl (cI, 200, .inl (fun j => nI (s_ev σ j)))), (a 3, .inl (cI, 200, .inl (fun j => nI (s_ar σ j)))), (a 4, .inl (cI, 200, .inl (fun j => nI (s_vl σ j)))), (a 5, .inl (cI, 60, .inl (fun j => nI (s_cp σ j)))), (a 6, .inl (cI, 200, .inl (fun j => nI (s_sp σ j)))), (a 7, .inl (cI, 200, .inl (fun j => nI (s_sa σ j)))), (a 8, .inl (cI, 200, .inl (fun j => eN (s_sv σ j))))] := hD
        refine lv_aload_n hx hb dX3_join_41 rfl (lv_at hl 0 rfl) ?_
        refine va_get (D := dD) (ci := 3) (v := .int (nI 0)) (C := RX3) (T := TX3) (N := 14) hx hb hts hinX3 hown hK hP 0 rfl rfl 0 (by decide) (hts (.fieldLink RX3 37 "FeatureStoreModel" "thrown" "I") (by decide +kernel)) (fun _ h9 => h9) rfl dX3_join_42 ?_
        refine nv_if_le (tgt := 52) hx hb dX3_join_45 (by decide) (by decide) (fun c_45 => ?_) (fun c_45 => absurd c_45 (by decide))
        refine lv_aload_n hx hb dX3_join_52 rfl (lv_at hl 0 rfl) ?_
        refine lv_iload_n hx hb dX3_join_53 rfl (lv_at hl 1 rfl) ?_
        refine lv_iload_n hx hb dX3_join_54 rfl (lv_at hl 2 rfl) ?_
        refine vp_callSi (va_Run.run (va_runS (As := [.int (nI fn), .int (nI en)]) (rest := [.ref m0]) ⟨hx, hb, hml, hown, hts⟩ (c_X3_pairOf l dD cI cR cS lo fn en) (va_cwS 2 hts gX3_join_X3_pairOf rfl rfl rfl (by decide +kernel) ⟨Nat.le_of_ble_eq_true rfl, Nat.le_of_ble_eq_true rfl⟩) (ePreS hE (hS.mono hAlo) trivial) rfl rfl hl.1 rfl (lv_room (Nat.le_of_ble_eq_true rfl)) dX3_join_55 ⟨Nat.le_of_ble_eq_true rfl, Nat.le_of_ble_eq_true rfl⟩)) (fun r_55 hr_55 => ?_)
        subst hr_55
        refine lv_iload_n hx hb dX3_join_58 rfl (lv_at hl 3 rfl) ?_
        refine lv_iload hx hb dX3_join_59 (lv_at hl 4 rfl) ?_
        refine vp_callSi (va_Run.run (va_runV (As := [.int (nI (10 * fn + en)), .int (nI tn), .int (nI kn)]) (rest := []) ⟨hx, hb, hml, hown, hts⟩ (c_X3_joins l dD cI cR cS lo m0 a 0 σ hI (10 * fn + en) (tn) (kn) (by omega) (by omega) (by omega)) (cwV 3 hts gX3_join_X3_joins rfl rfl rfl (by decide +kernel) ⟨Nat.le_of_ble_eq_true rfl, Nat.le_of_ble_eq_true rfl⟩) (ePreV hE (hS.mono hAlo) hP (k := 0) rfl rfl hP) rfl rfl hl.1 rfl (lv_room (Nat.le_of_ble_eq_true rfl)) dX3_join_61 ⟨Nat.le_of_ble_eq_true rfl, Nat.le_of_ble_eq_true rfl⟩)) (fun r_61 hr_61 => ?_)
        subst hr_61
        exact W.iret (v := eN (q_join σ (10 * fn + en) (tn) (kn))) hx hb hr (fun u9 hu9 hW => ⟨⟨eN (q_join σ (10 * fn + en) (tn) (kn)), (0, σ), rfl, Or.inl ⟨⟨hr_3, hr_14, hr_27⟩, trivial, rfl, by rw [plN, cl_nI (by omega), cl_nI (by omega), cl_nI (by omega), cl_nI (by omega)]⟩, by have h9 := hP; rw [← hu9] at h9; exact h9⟩, hS.F hu9⟩) hS.2.2 dX3_join_64
      · refine nv_if_eq (tgt := 37) hx hb dX3_join_30 (by decide) (by decide) (fun c_30 => ?_) (fun c_30 => absurd c_30 (by decide))
        refine lv_iconst (v := nI 1) hx hb dX3_join_37 (by decide +kernel) ?_
        refine va_put (D := dD) (ci := 3) (v := .int (nI 1)) (ty := .int) (C := RX3) (T := TX3) (N := 14) hx hb hts hinX3 tyX3 tyX3_ok nmX3 hown hK hP hD hS 0 rfl rfl 0 (by decide) (hts (.fieldLink RX3 37 "FeatureStoreModel" "thrown" "I") (by decide +kernel)) (fun _ h9 => h9) rfl (by decide +kernel) rfl rfl (Nat.le_of_ble_eq_true rfl) dX3_join_38 (fun H locs hP hD hS => ?_)
        have hP : va_P dD vwCl [(m0, .inr (3, [.int (nI 1), .int (nI (s_now σ)), .ref (a 0), .int (nI (s_n σ)), .ref (a 1), .ref (a 2), .ref (a 3), .ref (a 4), .int (nI (s_tk σ)), .ref (a 5), .int (nI (s_k σ)), .ref (a 6), .ref (a 7), .ref (a 8)])), (a 0, .inl (cI, 6, .inl (fun j => nI (s_lt σ j)))), (a 1, .inl (cI, 200, .inl (fun j => nI (s_pr σ j)))), (a 2, .inl (cI, 200, .inl (fun j => nI (s_ev σ j)))), (a 3, .inl (cI, 200, .inl (fun j => nI (s_ar σ j)))), (a 4, .inl (cI, 200, .inl (fun j => nI (s_vl σ j)))), (a 5, .inl (cI, 60, .inl (fun j => nI (s_cp σ j)))), (a 6, .inl (cI, 200, .inl (fun j => nI (s_sp σ j)))), (a 7, .inl (cI, 200, .inl (fun j => nI (s_sa σ j)))), (a 8, .inl (cI, 200, .inl (fun j => eN (s_sv σ j))))] H := hP
        have hD : va_D A [(m0, .inr (3, [.int (nI 1), .int (nI (s_now σ)), .ref (a 0), .int (nI (s_n σ)), .ref (a 1), .ref (a 2), .ref (a 3), .ref (a 4), .int (nI (s_tk σ)), .ref (a 5), .int (nI (s_k σ)), .ref (a 6), .ref (a 7), .ref (a 8)])), (a 0, .inl (cI, 6, .inl (fun j => nI (s_lt σ j)))), (a 1, .inl (cI, 200, .inl (fun j => nI (s_pr σ j)))), (a 2, .inl (cI, 200, .inl (fun j => nI (s_ev σ j)))), (a 3, .inl (cI, 200, .inl (fun j => nI (s_ar σ j)))), (a 4, .inl (cI, 200, .inl (fun j => nI (s_vl σ j)))), (a 5, .inl (cI, 60, .inl (fun j => nI (s_cp σ j)))), (a 6, .inl (cI, 200, .inl (fun j => nI (s_sp σ j)))), (a 7, .inl (cI, 200, .inl (fun j => nI (s_sa σ j)))), (a 8, .inl (cI, 200, .inl (fun j => eN (s_sv σ j))))] := hD
        refine lv_aload_n hx hb dX3_join_41 rfl (lv_at hl 0 rfl) ?_
        refine va_get (D := dD) (ci := 3) (v := .int (nI 1)) (C := RX3) (T := TX3) (N := 14) hx hb hts hinX3 hown hK hP 0 rfl rfl 0 (by decide) (hts (.fieldLink RX3 37 "FeatureStoreModel" "thrown" "I") (by decide +kernel)) (fun _ h9 => h9) rfl dX3_join_42 ?_
        refine nv_if_le (tgt := 52) hx hb dX3_join_45 (by decide) (by decide) (fun c_45 => absurd c_45 (by decide)) (fun c_45 => ?_)
        refine lv_iconst (v := nI 0) hx hb dX3_join_48 (by decide +kernel) ?_
        refine lv_goto (tgt := 64) hx hb dX3_join_49 (by decide) ?_
        exact W.iret (v := nI 0) hx hb hr (fun u9 hu9 hW => ⟨⟨nI 0, (1, σ), rfl, Or.inr (Or.inl ⟨fun h => hr_27 h.2.2, rfl⟩), by have h9 := hP; rw [← hu9] at h9; exact h9⟩, hS.F hu9⟩) hS.2.2 dX3_join_64
    · refine nv_if_eq (tgt := 37) hx hb dX3_join_17 (by decide) (by decide) (fun c_17 => ?_) (fun c_17 => absurd c_17 (by decide))
      refine lv_iconst (v := nI 1) hx hb dX3_join_37 (by decide +kernel) ?_
      refine va_put (D := dD) (ci := 3) (v := .int (nI 1)) (ty := .int) (C := RX3) (T := TX3) (N := 14) hx hb hts hinX3 tyX3 tyX3_ok nmX3 hown hK hP hD hS 0 rfl rfl 0 (by decide) (hts (.fieldLink RX3 37 "FeatureStoreModel" "thrown" "I") (by decide +kernel)) (fun _ h9 => h9) rfl (by decide +kernel) rfl rfl (Nat.le_of_ble_eq_true rfl) dX3_join_38 (fun H locs hP hD hS => ?_)
      have hP : va_P dD vwCl [(m0, .inr (3, [.int (nI 1), .int (nI (s_now σ)), .ref (a 0), .int (nI (s_n σ)), .ref (a 1), .ref (a 2), .ref (a 3), .ref (a 4), .int (nI (s_tk σ)), .ref (a 5), .int (nI (s_k σ)), .ref (a 6), .ref (a 7), .ref (a 8)])), (a 0, .inl (cI, 6, .inl (fun j => nI (s_lt σ j)))), (a 1, .inl (cI, 200, .inl (fun j => nI (s_pr σ j)))), (a 2, .inl (cI, 200, .inl (fun j => nI (s_ev σ j)))), (a 3, .inl (cI, 200, .inl (fun j => nI (s_ar σ j)))), (a 4, .inl (cI, 200, .inl (fun j => nI (s_vl σ j)))), (a 5, .inl (cI, 60, .inl (fun j => nI (s_cp σ j)))), (a 6, .inl (cI, 200, .inl (fun j => nI (s_sp σ j)))), (a 7, .inl (cI, 200, .inl (fun j => nI (s_sa σ j)))), (a 8, .inl (cI, 200, .inl (fun j => eN (s_sv σ j))))] H := hP
      have hD : va_D A [(m0, .inr (3, [.int (nI 1), .int (nI (s_now σ)), .ref (a 0), .int (nI (s_n σ)), .ref (a 1), .ref (a 2), .ref (a 3), .ref (a 4), .int (nI (s_tk σ)), .ref (a 5), .int (nI (s_k σ)), .ref (a 6), .ref (a 7), .ref (a 8)])), (a 0, .inl (cI, 6, .inl (fun j => nI (s_lt σ j)))), (a 1, .inl (cI, 200, .inl (fun j => nI (s_pr σ j)))), (a 2, .inl (cI, 200, .inl (fun j => nI (s_ev σ j)))), (a 3, .inl (cI, 200, .inl (fun j => nI (s_ar σ j)))), (a 4, .inl (cI, 200, .inl (fun j => nI (s_vl σ j)))), (a 5, .inl (cI, 60, .inl (fun j => nI (s_cp σ j)))), (a 6, .inl (cI, 200, .inl (fun j => nI (s_sp σ j)))), (a 7, .inl (cI, 200, .inl (fun j => nI (s_sa σ j)))), (a 8, .inl (cI, 200, .inl (fun j => eN (s_sv σ j))))] := hD
      refine lv_aload_n hx hb dX3_join_41 rfl (lv_at hl 0 rfl) ?_
      refine va_get (D := dD) (ci := 3) (v := .int (nI 1)) (C := RX3) (T := TX3) (N := 14) hx hb hts hinX3 hown hK hP 0 rfl rfl 0 (by decide) (hts (.fieldLink RX3 37 "FeatureStoreModel" "thrown" "I") (by decide +kernel)) (fun _ h9 => h9) rfl dX3_join_42 ?_
      refine nv_if_le (tgt := 52) hx hb dX3_join_45 (by decide) (by decide) (fun c_45 => absurd c_45 (by decide)) (fun c_45 => ?_)
      refine lv_iconst (v := nI 0) hx hb dX3_join_48 (by decide +kernel) ?_
      refine lv_goto (tgt := 64) hx hb dX3_join_49 (by decide) ?_
      exact W.iret (v := nI 0) hx hb hr (fun u9 hu9 hW => ⟨⟨nI 0, (1, σ), rfl, Or.inr (Or.inl ⟨fun h => hr_14 h.2.1, rfl⟩), by have h9 := hP; rw [← hu9] at h9; exact h9⟩, hS.F hu9⟩) hS.2.2 dX3_join_64
  · refine nv_if_eq (tgt := 37) hx hb dX3_join_6 (by decide) (by decide) (fun c_6 => ?_) (fun c_6 => absurd c_6 (by decide))
    refine lv_iconst (v := nI 1) hx hb dX3_join_37 (by decide +kernel) ?_
    refine va_put (D := dD) (ci := 3) (v := .int (nI 1)) (ty := .int) (C := RX3) (T := TX3) (N := 14) hx hb hts hinX3 tyX3 tyX3_ok nmX3 hown hK hP hD hS 0 rfl rfl 0 (by decide) (hts (.fieldLink RX3 37 "FeatureStoreModel" "thrown" "I") (by decide +kernel)) (fun _ h9 => h9) rfl (by decide +kernel) rfl rfl (Nat.le_of_ble_eq_true rfl) dX3_join_38 (fun H locs hP hD hS => ?_)
    have hP : va_P dD vwCl [(m0, .inr (3, [.int (nI 1), .int (nI (s_now σ)), .ref (a 0), .int (nI (s_n σ)), .ref (a 1), .ref (a 2), .ref (a 3), .ref (a 4), .int (nI (s_tk σ)), .ref (a 5), .int (nI (s_k σ)), .ref (a 6), .ref (a 7), .ref (a 8)])), (a 0, .inl (cI, 6, .inl (fun j => nI (s_lt σ j)))), (a 1, .inl (cI, 200, .inl (fun j => nI (s_pr σ j)))), (a 2, .inl (cI, 200, .inl (fun j => nI (s_ev σ j)))), (a 3, .inl (cI, 200, .inl (fun j => nI (s_ar σ j)))), (a 4, .inl (cI, 200, .inl (fun j => nI (s_vl σ j)))), (a 5, .inl (cI, 60, .inl (fun j => nI (s_cp σ j)))), (a 6, .inl (cI, 200, .inl (fun j => nI (s_sp σ j)))), (a 7, .inl (cI, 200, .inl (fun j => nI (s_sa σ j)))), (a 8, .inl (cI, 200, .inl (fun j => eN (s_sv σ j))))] H := hP
    have hD : va_D A [(m0, .inr (3, [.int (nI 1), .int (nI (s_now σ)), .ref (a 0), .int (nI (s_n σ)), .ref (a 1), .ref (a 2), .ref (a 3), .ref (a 4), .int (nI (s_tk σ)), .ref (a 5), .int (nI (s_k σ)), .ref (a 6), .ref (a 7), .ref (a 8)])), (a 0, .inl (cI, 6, .inl (fun j => nI (s_lt σ j)))), (a 1, .inl (cI, 200, .inl (fun j => nI (s_pr σ j)))), (a 2, .inl (cI, 200, .inl (fun j => nI (s_ev σ j)))), (a 3, .inl (cI, 200, .inl (fun j => nI (s_ar σ j)))), (a 4, .inl (cI, 200, .inl (fun j => nI (s_vl σ j)))), (a 5, .inl (cI, 60, .inl (fun j => nI (s_cp σ j)))), (a 6, .inl (cI, 200, .inl (fun j => nI (s_sp σ j)))), (a 7, .inl (cI, 200, .inl (fun j => nI (s_sa σ j)))), (a 8, .inl (cI, 200, .inl (fun j => eN (s_sv σ j))))] := hD
    refine lv_aload_n hx hb dX3_join_41 rfl (lv_at hl 0 rfl) ?_
    refine va_get (D := dD) (ci := 3) (v := .int (nI 1)) (C := RX3) (T := TX3) (N := 14) hx hb hts hinX3 hown hK hP 0 rfl rfl 0 (by decide) (hts (.fieldLink RX3 37 "FeatureStoreModel" "thrown" "I") (by decide +kernel)) (fun _ h9 => h9) rfl dX3_join_42 ?_
    refine nv_if_le (tgt := 52) hx hb dX3_join_45 (by decide) (by decide) (fun c_45 => absurd c_45 (by decide)) (fun c_45 => ?_)
    refine lv_iconst (v := nI 0) hx hb dX3_join_48 (by decide +kernel) ?_
    refine lv_goto (tgt := 64) hx hb dX3_join_49 (by decide) ?_
    exact W.iret (v := nI 0) hx hb hr (fun u9 hu9 hW => ⟨⟨nI 0, (1, σ), rfl, Or.inr (Or.inl ⟨fun h => hr_3 h.1, rfl⟩), by have h9 := hP; rw [← hu9] at h9; exact h9⟩, hS.F hu9⟩) hS.2.2 dX3_join_64

set_option maxHeartbeats 4000000 in
set_option maxRecDepth 100000 in
theorem c_X3_window (l : Launch) (dD : va_G) (cI cR cS : ClassId) (lo : Nat) (sz : Nat) (hlo : lo ≤ sz) (m0 : Nat) (a : Nat → Nat) (th : Nat) (σ : St) (hI : sI σ) (f e x y : Int32) : Met l yX3_window wsX3_window ({ frames := 2, cells := 0, slots := 0, locals := 47 }) (ePc dD cI cR cS lo [.ref m0, .int f, .int e, .int x, .int y] (fun H => H.size = sz ∧ va_P dD vwCl (mW cI m0 a th σ) H ∧ va_D (fun q => lo ≤ q) (mW cI m0 a th σ))) (va_Qi (fun (r : Int32) (u : Nat × St) => R3 (okP f e ∧ rg x 0 10000 ∧ rg y (cl x) 10000) True σ σ (nI (q_sum σ (plN f e) (cl x) (cl y) (s_n σ))) r u) (fun u t => va_P dD vwCl (mW cI m0 a u.1 u.2) t.heap) (va_A (mW cI m0 a th σ) sz)) 0 0 (va_A (mW cI m0 a th σ) sz) := by
  refine Met.ofW (cc := cX3_window) (maxL := 5) (ret := (some .int)) (by decide) rfl ?_
  intro p e_ s m args below meth c s₁ B hml hv
  obtain ⟨rfl, hE, hsz, hP, hD0⟩ := hv
  have hx := B.exec
  have hb := B.bytes
  have hr := B.returns
  have hts := atoms_spec (ws := wsX3_window) B.pre
  have hown : s.vm.findClass RX3 = some m.cls := findClass_of_methodNamed B.named
  have hlocks := B.notSynchronized
  have hK := hE.1.1
  have hinX3 : ∀ w ∈ u_ws RX3 TX3 14, w ∈ wsX3_window := by decide +kernel
  subst hsz
  have hD := hD0.self (sz := s.heap.size)
  have hAlo : ∀ q, va_A (mW cI m0 a th σ) s.heap.size q → lo ≤ q := eA_lo hD0 hlo
  generalize hAe : va_A (mW cI m0 a th σ) s.heap.size = A at hD hAlo ⊢
  have hA : ∀ q : Nat, s.heap.size ≤ q → A q := fun q h => by rw [← hAe]; exact Or.inr h
  have hS : va_S A s.heap s.heap [] := va_S.rf
  have hP : va_P dD vwCl (mW cI m0 a th σ) s.heap := hP
  obtain ⟨i_now, i_n, i_tk, i_k, i_lt, i_row, i_cp, i_srv⟩ := id hI
  have hl := lv_entry ([.ref m0, .int f, .int e, .int x, .int y]) (n := 5) (Nat.le_of_ble_eq_true rfl)
  rw [lg_entry_eq]
  generalize (lg_sl ([.ref m0, .int f, .int e, .int x, .int y]) ++ List.replicate (5 - (lg_sl ([.ref m0, .int f, .int e, .int x, .int y])).length) Slot.unset).toArray = ls at hl ⊢
  have hl : lv_has ls 5 [(0, .ref m0), (1, .int f), (2, .int e), (3, .int x), (4, .int y)] := hl
  refine lv_aload_n hx hb dX3_window_0 rfl (lv_at hl 0 rfl) ?_
  refine lv_iload_n hx hb dX3_window_1 rfl (lv_at hl 1 rfl) ?_
  refine lv_iload_n hx hb dX3_window_2 rfl (lv_at hl 2 rfl) ?_
  refine vp_callSi (va_Run.run (va_runS (As := [.int f, .int e]) (rest := [.ref m0]) ⟨hx, hb, hml, hown, hts⟩ (c_X3_isPair l dD cI cR cS lo f e) (va_cwS 2 hts gX3_window_X3_isPair rfl rfl rfl (by decide +kernel) ⟨Nat.le_of_ble_eq_true rfl, Nat.le_of_ble_eq_true rfl⟩) (ePreS hE (hS.mono hAlo) trivial) rfl rfl hl.1 rfl (lv_room (Nat.le_of_ble_eq_true rfl)) dX3_window_3 ⟨Nat.le_of_ble_eq_true rfl, Nat.le_of_ble_eq_true rfl⟩)) (fun r_3 hr_3 => ?_)
  rcases hr_3 with ⟨rfl, hr_3⟩ | ⟨rfl, hr_3⟩
  · refine nv_if_eq (tgt := 36) hx hb dX3_window_6 (by decide) (by decide) (fun c_6 => absurd c_6 (by decide)) (fun c_6 => ?_)
    refine lv_iload_n hx hb dX3_window_9 rfl (lv_at hl 3 rfl) ?_
    refine lv_iconst (v := nI 0) hx hb dX3_window_10 (by decide +kernel) ?_
    refine lv_sipush (v := nI 10000) hx hb dX3_window_11 (by decide +kernel) ?_
    refine vp_callSi (va_Run.run (va_runS (As := [.int x, .int (nI 0), .int (nI 10000)]) (rest := [.ref m0]) ⟨hx, hb, hml, hown, hts⟩ (c_X3_in l dD cI cR cS lo x (nI 0) (nI 10000)) (va_cwS 3 hts gX3_window_X3_in rfl rfl rfl (by decide +kernel) ⟨Nat.le_of_ble_eq_true rfl, Nat.le_of_ble_eq_true rfl⟩) (ePreS hE (hS.mono hAlo) trivial) rfl rfl hl.1 rfl (lv_room (Nat.le_of_ble_eq_true rfl)) dX3_window_14 ⟨Nat.le_of_ble_eq_true rfl, Nat.le_of_ble_eq_true rfl⟩)) (fun r_14 hr_14 => ?_)
    rcases hr_14 with ⟨rfl, hr_14⟩ | ⟨rfl, hr_14⟩
    · obtain ⟨xn, hxn1, hxn2, rfl⟩ := rg_of (by decide) (by decide) (hr_14)
      refine nv_if_eq (tgt := 36) hx hb dX3_window_17 (by decide) (by decide) (fun c_17 => absurd c_17 (by decide)) (fun c_17 => ?_)
      refine lv_iload hx hb dX3_window_20 (lv_at hl 4 rfl) ?_
      refine lv_iload_n hx hb dX3_window_22 rfl (lv_at hl 3 rfl) ?_
      refine lv_sipush (v := nI 10000) hx hb dX3_window_23 (by decide +kernel) ?_
      refine vp_callSi (va_Run.run (va_runS (As := [.int y, .int (nI xn), .int (nI 10000)]) (rest := [.ref m0]) ⟨hx, hb, hml, hown, hts⟩ (c_X3_in l dD cI cR cS lo y (nI xn) (nI 10000)) (va_cwS 3 hts gX3_window_X3_in rfl rfl rfl (by decide +kernel) ⟨Nat.le_of_ble_eq_true rfl, Nat.le_of_ble_eq_true rfl⟩) (ePreS hE (hS.mono hAlo) trivial) rfl rfl hl.1 rfl (lv_room (Nat.le_of_ble_eq_true rfl)) dX3_window_26 ⟨Nat.le_of_ble_eq_true rfl, Nat.le_of_ble_eq_true rfl⟩)) (fun r_26 hr_26 => ?_)
      rcases hr_26 with ⟨rfl, hr_26⟩ | ⟨rfl, hr_26⟩
      · obtain ⟨fn, hfn1, hfn2, rfl⟩ := rg_of (by decide) (by decide) (hr_3.1)
        obtain ⟨en, hen1, hen2, rfl⟩ := rg_of (by decide) (by decide) (hr_3.2)
        obtain ⟨yn, hyn1, hyn2, rfl⟩ := rg_of (by omega) (by decide) (hr_26)
        refine nv_if_eq (tgt := 36) hx hb dX3_window_29 (by decide) (by decide) (fun c_29 => absurd c_29 (by decide)) (fun c_29 => ?_)
        refine lv_iconst (v := nI 0) hx hb dX3_window_32 (by decide +kernel) ?_
        refine lv_goto (tgt := 37) hx hb dX3_window_33 (by decide) ?_
        refine va_put (D := dD) (ci := 3) (v := .int (nI 0)) (ty := .int) (C := RX3) (T := TX3) (N := 14) hx hb hts hinX3 tyX3 tyX3_ok nmX3 hown hK hP hD hS 0 rfl rfl 0 (by decide) (hts (.fieldLink RX3 37 "FeatureStoreModel" "thrown" "I") (by decide +kernel)) (fun _ h9 => h9) rfl (by decide +kernel) rfl rfl (Nat.le_of_ble_eq_true rfl) dX3_window_37 (fun H locs hP hD hS => ?_)
        have hP : va_P dD vwCl [(m0, .inr (3, [.int (nI 0), .int (nI (s_now σ)), .ref (a 0), .int (nI (s_n σ)), .ref (a 1), .ref (a 2), .ref (a 3), .ref (a 4), .int (nI (s_tk σ)), .ref (a 5), .int (nI (s_k σ)), .ref (a 6), .ref (a 7), .ref (a 8)])), (a 0, .inl (cI, 6, .inl (fun j => nI (s_lt σ j)))), (a 1, .inl (cI, 200, .inl (fun j => nI (s_pr σ j)))), (a 2, .inl (cI, 200, .inl (fun j => nI (s_ev σ j)))), (a 3, .inl (cI, 200, .inl (fun j => nI (s_ar σ j)))), (a 4, .inl (cI, 200, .inl (fun j => nI (s_vl σ j)))), (a 5, .inl (cI, 60, .inl (fun j => nI (s_cp σ j)))), (a 6, .inl (cI, 200, .inl (fun j => nI (s_sp σ j)))), (a 7, .inl (cI, 200, .inl (fun j => nI (s_sa σ j)))), (a 8, .inl (cI, 200, .inl (fun j => eN (s_sv σ j))))] H := hP
        have hD : va_D A [(m0, .inr (3, [.int (nI 0), .int (nI (s_now σ)), .ref (a 0), .int (nI (s_n σ)), .ref (a 1), .ref (a 2), .ref (a 3), .ref (a 4), .int (nI (s_tk σ)), .ref (a 5), .int (nI (s_k σ)), .ref (a 6), .ref (a 7), .ref (a 8)])), (a 0, .inl (cI, 6, .inl (fun j => nI (s_lt σ j)))), (a 1, .inl (cI, 200, .inl (fun j => nI (s_pr σ j)))), (a 2, .inl (cI, 200, .inl (fun j => nI (s_ev σ j)))), (a 3, .inl (cI, 200, .inl (fun j => nI (s_ar σ j)))), (a 4, .inl (cI, 200, .inl (fun j => nI (s_vl σ j)))), (a 5, .inl (cI, 60, .inl (fun j => nI (s_cp σ j)))), (a 6, .inl (cI, 200, .inl (fun j => nI (s_sp σ j)))), (a 7, .inl (cI, 200, .inl (fun j => nI (s_sa σ j)))), (a 8, .inl (cI, 200, .inl (fun j => eN (s_sv σ j))))] := hD
        refine lv_aload_n hx hb dX3_window_40 rfl (lv_at hl 0 rfl) ?_
        refine va_get (D := dD) (ci := 3) (v := .int (nI 0)) (C := RX3) (T := TX3) (N := 14) hx hb hts hinX3 hown hK hP 0 rfl rfl 0 (by decide) (hts (.fieldLink RX3 37 "FeatureStoreModel" "thrown" "I") (by decide +kernel)) (fun _ h9 => h9) rfl dX3_window_41 ?_
        refine nv_if_le (tgt := 51) hx hb dX3_window_44 (by decide) (by decide) (fun c_44 => ?_) (fun c_44 => absurd c_44 (by decide))
        refine lv_aload_n hx hb dX3_window_51 rfl (lv_at hl 0 rfl) ?_
        refine lv_iload_n hx hb dX3_window_52 rfl (lv_at hl 1 rfl) ?_
        refine lv_iload_n hx hb dX3_window_53 rfl (lv_at hl 2 rfl) ?_
        refine vp_callSi (va_Run.run (va_runS (As := [.int (nI fn), .int (nI en)]) (rest := [.ref m0]) ⟨hx, hb, hml, hown, hts⟩ (c_X3_pairOf l dD cI cR cS lo fn en) (va_cwS 2 hts gX3_window_X3_pairOf rfl rfl rfl (by decide +kernel) ⟨Nat.le_of_ble_eq_true rfl, Nat.le_of_ble_eq_true rfl⟩) (ePreS hE (hS.mono hAlo) trivial) rfl rfl hl.1 rfl (lv_room (Nat.le_of_ble_eq_true rfl)) dX3_window_54 ⟨Nat.le_of_ble_eq_true rfl, Nat.le_of_ble_eq_true rfl⟩)) (fun r_54 hr_54 => ?_)
        subst hr_54
        refine lv_iload_n hx hb dX3_window_57 rfl (lv_at hl 3 rfl) ?_
        refine lv_iload hx hb dX3_window_58 (lv_at hl 4 rfl) ?_
        refine vp_callSi (va_Run.run (va_runV (As := [.int (nI (10 * fn + en)), .int (nI xn), .int (nI yn)]) (rest := []) ⟨hx, hb, hml, hown, hts⟩ (c_X3_sums l dD cI cR cS lo m0 a 0 σ hI (10 * fn + en) (xn) (yn) (by omega) (by omega) (by omega)) (cwV 3 hts gX3_window_X3_sums rfl rfl rfl (by decide +kernel) ⟨Nat.le_of_ble_eq_true rfl, Nat.le_of_ble_eq_true rfl⟩) (ePreV hE (hS.mono hAlo) hP (k := 0) rfl rfl hP) rfl rfl hl.1 rfl (lv_room (Nat.le_of_ble_eq_true rfl)) dX3_window_60 ⟨Nat.le_of_ble_eq_true rfl, Nat.le_of_ble_eq_true rfl⟩)) (fun r_60 hr_60 => ?_)
        subst hr_60
        exact W.iret (v := nI (q_sum σ (10 * fn + en) (xn) (yn) (s_n σ))) hx hb hr (fun u9 hu9 hW => ⟨⟨nI (q_sum σ (10 * fn + en) (xn) (yn) (s_n σ)), (0, σ), rfl, Or.inl ⟨⟨hr_3, hr_14, by rw [cl_nI (n := xn) (by omega)]; exact hr_26⟩, trivial, rfl, by rw [plN, cl_nI (by omega), cl_nI (by omega), cl_nI (by omega), cl_nI (by omega)]⟩, by have h9 := hP; rw [← hu9] at h9; exact h9⟩, hS.F hu9⟩) hS.2.2 dX3_window_63
      · refine nv_if_eq (tgt := 36) hx hb dX3_window_29 (by decide) (by decide) (fun c_29 => ?_) (fun c_29 => absurd c_29 (by decide))
        refine lv_iconst (v := nI 1) hx hb dX3_window_36 (by decide +kernel) ?_
        refine va_put (D := dD) (ci := 3) (v := .int (nI 1)) (ty := .int) (C := RX3) (T := TX3) (N := 14) hx hb hts hinX3 tyX3 tyX3_ok nmX3 hown hK hP hD hS 0 rfl rfl 0 (by decide) (hts (.fieldLink RX3 37 "FeatureStoreModel" "thrown" "I") (by decide +kernel)) (fun _ h9 => h9) rfl (by decide +kernel) rfl rfl (Nat.le_of_ble_eq_true rfl) dX3_window_37 (fun H locs hP hD hS => ?_)
        have hP : va_P dD vwCl [(m0, .inr (3, [.int (nI 1), .int (nI (s_now σ)), .ref (a 0), .int (nI (s_n σ)), .ref (a 1), .ref (a 2), .ref (a 3), .ref (a 4), .int (nI (s_tk σ)), .ref (a 5), .int (nI (s_k σ)), .ref (a 6), .ref (a 7), .ref (a 8)])), (a 0, .inl (cI, 6, .inl (fun j => nI (s_lt σ j)))), (a 1, .inl (cI, 200, .inl (fun j => nI (s_pr σ j)))), (a 2, .inl (cI, 200, .inl (fun j => nI (s_ev σ j)))), (a 3, .inl (cI, 200, .inl (fun j => nI (s_ar σ j)))), (a 4, .inl (cI, 200, .inl (fun j => nI (s_vl σ j)))), (a 5, .inl (cI, 60, .inl (fun j => nI (s_cp σ j)))), (a 6, .inl (cI, 200, .inl (fun j => nI (s_sp σ j)))), (a 7, .inl (cI, 200, .inl (fun j => nI (s_sa σ j)))), (a 8, .inl (cI, 200, .inl (fun j => eN (s_sv σ j))))] H := hP
        have hD : va_D A [(m0, .inr (3, [.int (nI 1), .int (nI (s_now σ)), .ref (a 0), .int (nI (s_n σ)), .ref (a 1), .ref (a 2), .ref (a 3), .ref (a 4), .int (nI (s_tk σ)), .ref (a 5), .int (nI (s_k σ)), .ref (a 6), .ref (a 7), .ref (a 8)])), (a 0, .inl (cI, 6, .inl (fun j => nI (s_lt σ j)))), (a 1, .inl (cI, 200, .inl (fun j => nI (s_pr σ j)))), (a 2, .inl (cI, 200, .inl (fun j => nI (s_ev σ j)))), (a 3, .inl (cI, 200, .inl (fun j => nI (s_ar σ j)))), (a 4, .inl (cI, 200, .inl (fun j => nI (s_vl σ j)))), (a 5, .inl (cI, 60, .inl (fun j => nI (s_cp σ j)))), (a 6, .inl (cI, 200, .inl (fun j => nI (s_sp σ j)))), (a 7, .inl (cI, 200, .inl (fun j => nI (s_sa σ j)))), (a 8, .inl (cI, 200, .inl (fun j => eN (s_sv σ j))))] := hD
        refine lv_aload_n hx hb dX3_window_40 rfl (lv_at hl 0 rfl) ?_
        refine va_get (D := dD) (ci := 3) (v := .int (nI 1)) (C := RX3) (T := TX3) (N := 14) hx hb hts hinX3 hown hK hP 0 rfl rfl 0 (by decide) (hts (.fieldLink RX3 37 "FeatureStoreModel" "thrown" "I") (by decide +kernel)) (fun _ h9 => h9) rfl dX3_window_41 ?_
        refine nv_if_le (tgt := 51) hx hb dX3_window_44 (by decide) (by decide) (fun c_44 => absurd c_44 (by decide)) (fun c_44 => ?_)
        refine lv_iconst (v := nI 0) hx hb dX3_window_47 (by decide +kernel) ?_
        refine lv_goto (tgt := 63) hx hb dX3_window_48 (by decide) ?_
        exact W.iret (v := nI 0) hx hb hr (fun u9 hu9 hW => ⟨⟨nI 0, (1, σ), rfl, Or.inr (Or.inl ⟨fun h => hr_26 (by have h9 := h.2.2; rw [cl_nI (by omega)] at h9; exact h9), rfl⟩), by have h9 := hP; rw [← hu9] at h9; exact h9⟩, hS.F hu9⟩) hS.2.2 dX3_window_63
    · refine nv_if_eq (tgt := 36) hx hb dX3_window_17 (by decide) (by decide) (fun c_17 => ?_) (fun c_17 => absurd c_17 (by decide))
      refine lv_iconst (v := nI 1) hx hb dX3_window_36 (by decide +kernel) ?_
      refine va_put (D := dD) (ci := 3) (v := .int (nI 1)) (ty := .int) (C := RX3) (T := TX3) (N := 14) hx hb hts hinX3 tyX3 tyX3_ok nmX3 hown hK hP hD hS 0 rfl rfl 0 (by decide) (hts (.fieldLink RX3 37 "FeatureStoreModel" "thrown" "I") (by decide +kernel)) (fun _ h9 => h9) rfl (by decide +kernel) rfl rfl (Nat.le_of_ble_eq_true rfl) dX3_window_37 (fun H locs hP hD hS => ?_)
      have hP : va_P dD vwCl [(m0, .inr (3, [.int (nI 1), .int (nI (s_now σ)), .ref (a 0), .int (nI (s_n σ)), .ref (a 1), .ref (a 2), .ref (a 3), .ref (a 4), .int (nI (s_tk σ)), .ref (a 5), .int (nI (s_k σ)), .ref (a 6), .ref (a 7), .ref (a 8)])), (a 0, .inl (cI, 6, .inl (fun j => nI (s_lt σ j)))), (a 1, .inl (cI, 200, .inl (fun j => nI (s_pr σ j)))), (a 2, .inl (cI, 200, .inl (fun j => nI (s_ev σ j)))), (a 3, .inl (cI, 200, .inl (fun j => nI (s_ar σ j)))), (a 4, .inl (cI, 200, .inl (fun j => nI (s_vl σ j)))), (a 5, .inl (cI, 60, .inl (fun j => nI (s_cp σ j)))), (a 6, .inl (cI, 200, .inl (fun j => nI (s_sp σ j)))), (a 7, .inl (cI, 200, .inl (fun j => nI (s_sa σ j)))), (a 8, .inl (cI, 200, .inl (fun j => eN (s_sv σ j))))] H := hP
      have hD : va_D A [(m0, .inr (3, [.int (nI 1), .int (nI (s_now σ)), .ref (a 0), .int (nI (s_n σ)), .ref (a 1), .ref (a 2), .ref (a 3), .ref (a 4), .int (nI (s_tk σ)), .ref (a 5), .int (nI (s_k σ)), .ref (a 6), .ref (a 7), .ref (a 8)])), (a 0, .inl (cI, 6, .inl (fun j => nI (s_lt σ j)))), (a 1, .inl (cI, 200, .inl (fun j => nI (s_pr σ j)))), (a 2, .inl (cI, 200, .inl (fun j => nI (s_ev σ j)))), (a 3, .inl (cI, 200, .inl (fun j => nI (s_ar σ j)))), (a 4, .inl (cI, 200, .inl (fun j => nI (s_vl σ j)))), (a 5, .inl (cI, 60, .inl (fun j => nI (s_cp σ j)))), (a 6, .inl (cI, 200, .inl (fun j => nI (s_sp σ j)))), (a 7, .inl (cI, 200, .inl (fun j => nI (s_sa σ j)))), (a 8, .inl (cI, 200, .inl (fun j => eN (s_sv σ j))))] := hD
      refine lv_aload_n hx hb dX3_window_40 rfl (lv_at hl 0 rfl) ?_
      refine va_get (D := dD) (ci := 3) (v := .int (nI 1)) (C := RX3) (T := TX3) (N := 14) hx hb hts hinX3 hown hK hP 0 rfl rfl 0 (by decide) (hts (.fieldLink RX3 37 "FeatureStoreModel" "thrown" "I") (by decide +kernel)) (fun _ h9 => h9) rfl dX3_window_41 ?_
      refine nv_if_le (tgt := 51) hx hb dX3_window_44 (by decide) (by decide) (fun c_44 => absurd c_44 (by decide)) (fun c_44 => ?_)
      refine lv_iconst (v := nI 0) hx hb dX3_window_47 (by decide +kernel) ?_
      refine lv_goto (tgt := 63) hx hb dX3_window_48 (by decide) ?_
      exact W.iret (v := nI 0) hx hb hr (fun u9 hu9 hW => ⟨⟨nI 0, (1, σ), rfl, Or.inr (Or.inl ⟨fun h => hr_14 h.2.1, rfl⟩), by have h9 := hP; rw [← hu9] at h9; exact h9⟩, hS.F hu9⟩) hS.2.2 dX3_window_63
  · refine nv_if_eq (tgt := 36) hx hb dX3_window_6 (by decide) (by decide) (fun c_6 => ?_) (fun c_6 => absurd c_6 (by decide))
    refine lv_iconst (v := nI 1) hx hb dX3_window_36 (by decide +kernel) ?_
    refine va_put (D := dD) (ci := 3) (v := .int (nI 1)) (ty := .int) (C := RX3) (T := TX3) (N := 14) hx hb hts hinX3 tyX3 tyX3_ok nmX3 hown hK hP hD hS 0 rfl rfl 0 (by decide) (hts (.fieldLink RX3 37 "FeatureStoreModel" "thrown" "I") (by decide +kernel)) (fun _ h9 => h9) rfl (by decide +kernel) rfl rfl (Nat.le_of_ble_eq_true rfl) dX3_window_37 (fun H locs hP hD hS => ?_)
    have hP : va_P dD vwCl [(m0, .inr (3, [.int (nI 1), .int (nI (s_now σ)), .ref (a 0), .int (nI (s_n σ)), .ref (a 1), .ref (a 2), .ref (a 3), .ref (a 4), .int (nI (s_tk σ)), .ref (a 5), .int (nI (s_k σ)), .ref (a 6), .ref (a 7), .ref (a 8)])), (a 0, .inl (cI, 6, .inl (fun j => nI (s_lt σ j)))), (a 1, .inl (cI, 200, .inl (fun j => nI (s_pr σ j)))), (a 2, .inl (cI, 200, .inl (fun j => nI (s_ev σ j)))), (a 3, .inl (cI, 200, .inl (fun j => nI (s_ar σ j)))), (a 4, .inl (cI, 200, .inl (fun j => nI (s_vl σ j)))), (a 5, .inl (cI, 60, .inl (fun j => nI (s_cp σ j)))), (a 6, .inl (cI, 200, .inl (fun j => nI (s_sp σ j)))), (a 7, .inl (cI, 200, .inl (fun j => nI (s_sa σ j)))), (a 8, .inl (cI, 200, .inl (fun j => eN (s_sv σ j))))] H := hP
    have hD : va_D A [(m0, .inr (3, [.int (nI 1), .int (nI (s_now σ)), .ref (a 0), .int (nI (s_n σ)), .ref (a 1), .ref (a 2), .ref (a 3), .ref (a 4), .int (nI (s_tk σ)), .ref (a 5), .int (nI (s_k σ)), .ref (a 6), .ref (a 7), .ref (a 8)])), (a 0, .inl (cI, 6, .inl (fun j => nI (s_lt σ j)))), (a 1, .inl (cI, 200, .inl (fun j => nI (s_pr σ j)))), (a 2, .inl (cI, 200, .inl (fun j => nI (s_ev σ j)))), (a 3, .inl (cI, 200, .inl (fun j => nI (s_ar σ j)))), (a 4, .inl (cI, 200, .inl (fun j => nI (s_vl σ j)))), (a 5, .inl (cI, 60, .inl (fun j => nI (s_cp σ j)))), (a 6, .inl (cI, 200, .inl (fun j => nI (s_sp σ j)))), (a 7, .inl (cI, 200, .inl (fun j => nI (s_sa σ j)))), (a 8, .inl (cI, 200, .inl (fun j => eN (s_sv σ j))))] := hD
    refine lv_aload_n hx hb dX3_window_40 rfl (lv_at hl 0 rfl) ?_
    refine va_get (D := dD) (ci := 3) (v := .int (nI 1)) (C := RX3) (T := TX3) (N := 14) hx hb hts hinX3 hown hK hP 0 rfl rfl 0 (by decide) (hts (.fieldLink RX3 37 "FeatureStoreModel" "thrown" "I") (by decide +kernel)) (fun _ h9 => h9) rfl dX3_window_41 ?_
    refine nv_if_le (tgt := 51) hx hb dX3_window_44 (by decide) (by decide) (fun c_44 => absurd c_44 (by decide)) (fun c_44 => ?_)
    refine lv_iconst (v := nI 0) hx hb dX3_window_47 (by decide +kernel) ?_
    refine lv_goto (tgt := 63) hx hb dX3_window_48 (by decide) ?_
    exact W.iret (v := nI 0) hx hb hr (fun u9 hu9 hW => ⟨⟨nI 0, (1, σ), rfl, Or.inr (Or.inl ⟨fun h => hr_3 h.1, rfl⟩), by have h9 := hP; rw [← hu9] at h9; exact h9⟩, hS.F hu9⟩) hS.2.2 dX3_window_63

set_option maxHeartbeats 4000000 in
set_option maxRecDepth 100000 in
theorem c_X3_online (l : Launch) (dD : va_G) (cI cR cS : ClassId) (lo : Nat) (sz : Nat) (hlo : lo ≤ sz) (m0 : Nat) (a : Nat → Nat) (th : Nat) (σ : St) (hI : sI σ) (f e : Int32) : Met l yX3_online wsX3_online ({ frames := 2, cells := 0, slots := 0, locals := 43 }) (ePc dD cI cR cS lo [.ref m0, .int f, .int e] (fun H => H.size = sz ∧ va_P dD vwCl (mW cI m0 a th σ) H ∧ va_D (fun q => lo ≤ q) (mW cI m0 a th σ))) (va_Qi (fun (r : Int32) (u : Nat × St) => R3 (okP f e) True σ σ (eN (q_fr σ (s_cp σ (plN f e)) (s_now σ))) r u) (fun u t => va_P dD vwCl (mW cI m0 a u.1 u.2) t.heap) (va_A (mW cI m0 a th σ) sz)) 0 0 (va_A (mW cI m0 a th σ) sz) := by
  refine Met.ofW (cc := cX3_online) (maxL := 3) (ret := (some .int)) (by decide) rfl ?_
  intro p e_ s m args below meth c s₁ B hml hv
  obtain ⟨rfl, hE, hsz, hP, hD0⟩ := hv
  have hx := B.exec
  have hb := B.bytes
  have hr := B.returns
  have hts := atoms_spec (ws := wsX3_online) B.pre
  have hown : s.vm.findClass RX3 = some m.cls := findClass_of_methodNamed B.named
  have hlocks := B.notSynchronized
  have hK := hE.1.1
  have hinX3 : ∀ w ∈ u_ws RX3 TX3 14, w ∈ wsX3_online := by decide +kernel
  subst hsz
  have hD := hD0.self (sz := s.heap.size)
  have hAlo : ∀ q, va_A (mW cI m0 a th σ) s.heap.size q → lo ≤ q := eA_lo hD0 hlo
  generalize hAe : va_A (mW cI m0 a th σ) s.heap.size = A at hD hAlo ⊢
  have hA : ∀ q : Nat, s.heap.size ≤ q → A q := fun q h => by rw [← hAe]; exact Or.inr h
  have hS : va_S A s.heap s.heap [] := va_S.rf
  have hP : va_P dD vwCl (mW cI m0 a th σ) s.heap := hP
  obtain ⟨i_now, i_n, i_tk, i_k, i_lt, i_row, i_cp, i_srv⟩ := id hI
  have hl := lv_entry ([.ref m0, .int f, .int e]) (n := 3) (Nat.le_of_ble_eq_true rfl)
  rw [lg_entry_eq]
  generalize (lg_sl ([.ref m0, .int f, .int e]) ++ List.replicate (3 - (lg_sl ([.ref m0, .int f, .int e])).length) Slot.unset).toArray = ls at hl ⊢
  have hl : lv_has ls 3 [(0, .ref m0), (1, .int f), (2, .int e)] := hl
  refine lv_aload_n hx hb dX3_online_0 rfl (lv_at hl 0 rfl) ?_
  refine lv_iload_n hx hb dX3_online_1 rfl (lv_at hl 1 rfl) ?_
  refine lv_iload_n hx hb dX3_online_2 rfl (lv_at hl 2 rfl) ?_
  refine vp_callSi (va_Run.run (va_runS (As := [.int f, .int e]) (rest := [.ref m0]) ⟨hx, hb, hml, hown, hts⟩ (c_X3_isPair l dD cI cR cS lo f e) (va_cwS 2 hts gX3_online_X3_isPair rfl rfl rfl (by decide +kernel) ⟨Nat.le_of_ble_eq_true rfl, Nat.le_of_ble_eq_true rfl⟩) (ePreS hE (hS.mono hAlo) trivial) rfl rfl hl.1 rfl (lv_room (Nat.le_of_ble_eq_true rfl)) dX3_online_3 ⟨Nat.le_of_ble_eq_true rfl, Nat.le_of_ble_eq_true rfl⟩)) (fun r_3 hr_3 => ?_)
  rcases hr_3 with ⟨rfl, hr_3⟩ | ⟨rfl, hr_3⟩
  · obtain ⟨fn, hfn1, hfn2, rfl⟩ := rg_of (by decide) (by decide) (hr_3.1)
    obtain ⟨en, hen1, hen2, rfl⟩ := rg_of (by decide) (by decide) (hr_3.2)
    obtain ⟨hz_1, hz_2⟩ := i_cp (10 * fn + en) (by omega)
    refine nv_if_eq (tgt := 13) hx hb dX3_online_6 (by decide) (by decide) (fun c_6 => absurd c_6 (by decide)) (fun c_6 => ?_)
    refine lv_iconst (v := nI 0) hx hb dX3_online_9 (by decide +kernel) ?_
    refine lv_goto (tgt := 14) hx hb dX3_online_10 (by decide) ?_
    refine va_put (D := dD) (ci := 3) (v := .int (nI 0)) (ty := .int) (C := RX3) (T := TX3) (N := 14) hx hb hts hinX3 tyX3 tyX3_ok nmX3 hown hK hP hD hS 0 rfl rfl 0 (by decide) (hts (.fieldLink RX3 37 "FeatureStoreModel" "thrown" "I") (by decide +kernel)) (fun _ h9 => h9) rfl (by decide +kernel) rfl rfl (Nat.le_of_ble_eq_true rfl) dX3_online_14 (fun H locs hP hD hS => ?_)
    have hP : va_P dD vwCl [(m0, .inr (3, [.int (nI 0), .int (nI (s_now σ)), .ref (a 0), .int (nI (s_n σ)), .ref (a 1), .ref (a 2), .ref (a 3), .ref (a 4), .int (nI (s_tk σ)), .ref (a 5), .int (nI (s_k σ)), .ref (a 6), .ref (a 7), .ref (a 8)])), (a 0, .inl (cI, 6, .inl (fun j => nI (s_lt σ j)))), (a 1, .inl (cI, 200, .inl (fun j => nI (s_pr σ j)))), (a 2, .inl (cI, 200, .inl (fun j => nI (s_ev σ j)))), (a 3, .inl (cI, 200, .inl (fun j => nI (s_ar σ j)))), (a 4, .inl (cI, 200, .inl (fun j => nI (s_vl σ j)))), (a 5, .inl (cI, 60, .inl (fun j => nI (s_cp σ j)))), (a 6, .inl (cI, 200, .inl (fun j => nI (s_sp σ j)))), (a 7, .inl (cI, 200, .inl (fun j => nI (s_sa σ j)))), (a 8, .inl (cI, 200, .inl (fun j => eN (s_sv σ j))))] H := hP
    have hD : va_D A [(m0, .inr (3, [.int (nI 0), .int (nI (s_now σ)), .ref (a 0), .int (nI (s_n σ)), .ref (a 1), .ref (a 2), .ref (a 3), .ref (a 4), .int (nI (s_tk σ)), .ref (a 5), .int (nI (s_k σ)), .ref (a 6), .ref (a 7), .ref (a 8)])), (a 0, .inl (cI, 6, .inl (fun j => nI (s_lt σ j)))), (a 1, .inl (cI, 200, .inl (fun j => nI (s_pr σ j)))), (a 2, .inl (cI, 200, .inl (fun j => nI (s_ev σ j)))), (a 3, .inl (cI, 200, .inl (fun j => nI (s_ar σ j)))), (a 4, .inl (cI, 200, .inl (fun j => nI (s_vl σ j)))), (a 5, .inl (cI, 60, .inl (fun j => nI (s_cp σ j)))), (a 6, .inl (cI, 200, .inl (fun j => nI (s_sp σ j)))), (a 7, .inl (cI, 200, .inl (fun j => nI (s_sa σ j)))), (a 8, .inl (cI, 200, .inl (fun j => eN (s_sv σ j))))] := hD
    refine lv_aload_n hx hb dX3_online_17 rfl (lv_at hl 0 rfl) ?_
    refine va_get (D := dD) (ci := 3) (v := .int (nI 0)) (C := RX3) (T := TX3) (N := 14) hx hb hts hinX3 hown hK hP 0 rfl rfl 0 (by decide) (hts (.fieldLink RX3 37 "FeatureStoreModel" "thrown" "I") (by decide +kernel)) (fun _ h9 => h9) rfl dX3_online_18 ?_
    refine nv_if_le (tgt := 28) hx hb dX3_online_21 (by decide) (by decide) (fun c_21 => ?_) (fun c_21 => absurd c_21 (by decide))
    refine lv_aload_n hx hb dX3_online_28 rfl (lv_at hl 0 rfl) ?_
    refine lv_aload_n hx hb dX3_online_29 rfl (lv_at hl 0 rfl) ?_
    refine va_get (D := dD) (ci := 3) (v := .ref (a 5)) (C := RX3) (T := TX3) (N := 14) hx hb hts hinX3 hown hK hP 0 rfl rfl 9 (by decide) (hts (.fieldLink RX3 25 "FeatureStoreModel" "copy" "[I") (by decide +kernel)) (fun _ h9 => h9) rfl dX3_online_30 ?_
    refine lv_iload_n hx hb dX3_online_33 rfl (lv_at hl 1 rfl) ?_
    refine lv_iload_n hx hb dX3_online_34 rfl (lv_at hl 2 rfl) ?_
    refine vp_callSi (va_Run.run (va_runS (As := [.int (nI fn), .int (nI en)]) (rest := [.ref (a 5), .ref m0]) ⟨hx, hb, hml, hown, hts⟩ (c_X3_pairOf l dD cI cR cS lo fn en) (va_cwS 2 hts gX3_online_X3_pairOf rfl rfl rfl (by decide +kernel) ⟨Nat.le_of_ble_eq_true rfl, Nat.le_of_ble_eq_true rfl⟩) (ePreS hE (hS.mono hAlo) trivial) rfl rfl hl.1 rfl (lv_room (Nat.le_of_ble_eq_true rfl)) dX3_online_35 ⟨Nat.le_of_ble_eq_true rfl, Nat.le_of_ble_eq_true rfl⟩)) (fun r_35 hr_35 => ?_)
    subst hr_35
    refine nv_iald (q0 := 6) (t0 := 0) (s_cp σ) hx hb hK hP rfl rfl (by omega) (by decide) dX3_online_38 ?_
    refine lv_iconst (v := nI 1) hx hb dX3_online_39 (by decide +kernel) ?_
    refine nv_isubN hx hb dX3_online_40 ?_
    refine lv_aload_n hx hb dX3_online_41 rfl (lv_at hl 0 rfl) ?_
    refine va_get (D := dD) (ci := 3) (v := .int (nI (s_now σ))) (C := RX3) (T := TX3) (N := 14) hx hb hts hinX3 hown hK hP 0 rfl rfl 1 (by decide) (hts (.fieldLink RX3 49 "FeatureStoreModel" "now" "I") (by decide +kernel)) (fun _ h9 => h9) rfl dX3_online_42 ?_
    refine vp_callSi (va_Run.run (va_runV (As := [.int (eN (s_cp σ (10 * fn + en))), .int (nI (s_now σ))]) (rest := []) ⟨hx, hb, hml, hown, hts⟩ (c_X3_fresh l dD cI cR cS lo m0 a 0 σ hI (s_cp σ (10 * fn + en)) (s_now σ) (by omega) (by omega)) (cwV 2 hts gX3_online_X3_fresh rfl rfl rfl (by decide +kernel) ⟨Nat.le_of_ble_eq_true rfl, Nat.le_of_ble_eq_true rfl⟩) (ePreV hE (hS.mono hAlo) hP (k := 0) rfl rfl hP) rfl rfl hl.1 rfl (lv_room (Nat.le_of_ble_eq_true rfl)) dX3_online_45 ⟨Nat.le_of_ble_eq_true rfl, Nat.le_of_ble_eq_true rfl⟩)) (fun r_45 hr_45 => ?_)
    subst hr_45
    exact W.iret (v := eN (q_fr σ (s_cp σ (10 * fn + en)) (s_now σ))) hx hb hr (fun u9 hu9 hW => ⟨⟨eN (q_fr σ (s_cp σ (10 * fn + en)) (s_now σ)), (0, σ), rfl, Or.inl ⟨hr_3, trivial, rfl, by rw [plN, cl_nI (by omega), cl_nI (by omega)]⟩, by have h9 := hP; rw [← hu9] at h9; exact h9⟩, hS.F hu9⟩) hS.2.2 dX3_online_48
  · refine nv_if_eq (tgt := 13) hx hb dX3_online_6 (by decide) (by decide) (fun c_6 => ?_) (fun c_6 => absurd c_6 (by decide))
    refine lv_iconst (v := nI 1) hx hb dX3_online_13 (by decide +kernel) ?_
    refine va_put (D := dD) (ci := 3) (v := .int (nI 1)) (ty := .int) (C := RX3) (T := TX3) (N := 14) hx hb hts hinX3 tyX3 tyX3_ok nmX3 hown hK hP hD hS 0 rfl rfl 0 (by decide) (hts (.fieldLink RX3 37 "FeatureStoreModel" "thrown" "I") (by decide +kernel)) (fun _ h9 => h9) rfl (by decide +kernel) rfl rfl (Nat.le_of_ble_eq_true rfl) dX3_online_14 (fun H locs hP hD hS => ?_)
    have hP : va_P dD vwCl [(m0, .inr (3, [.int (nI 1), .int (nI (s_now σ)), .ref (a 0), .int (nI (s_n σ)), .ref (a 1), .ref (a 2), .ref (a 3), .ref (a 4), .int (nI (s_tk σ)), .ref (a 5), .int (nI (s_k σ)), .ref (a 6), .ref (a 7), .ref (a 8)])), (a 0, .inl (cI, 6, .inl (fun j => nI (s_lt σ j)))), (a 1, .inl (cI, 200, .inl (fun j => nI (s_pr σ j)))), (a 2, .inl (cI, 200, .inl (fun j => nI (s_ev σ j)))), (a 3, .inl (cI, 200, .inl (fun j => nI (s_ar σ j)))), (a 4, .inl (cI, 200, .inl (fun j => nI (s_vl σ j)))), (a 5, .inl (cI, 60, .inl (fun j => nI (s_cp σ j)))), (a 6, .inl (cI, 200, .inl (fun j => nI (s_sp σ j)))), (a 7, .inl (cI, 200, .inl (fun j => nI (s_sa σ j)))), (a 8, .inl (cI, 200, .inl (fun j => eN (s_sv σ j))))] H := hP
    have hD : va_D A [(m0, .inr (3, [.int (nI 1), .int (nI (s_now σ)), .ref (a 0), .int (nI (s_n σ)), .ref (a 1), .ref (a 2), .ref (a 3), .ref (a 4), .int (nI (s_tk σ)), .ref (a 5), .int (nI (s_k σ)), .ref (a 6), .ref (a 7), .ref (a 8)])), (a 0, .inl (cI, 6, .inl (fun j => nI (s_lt σ j)))), (a 1, .inl (cI, 200, .inl (fun j => nI (s_pr σ j)))), (a 2, .inl (cI, 200, .inl (fun j => nI (s_ev σ j)))), (a 3, .inl (cI, 200, .inl (fun j => nI (s_ar σ j)))), (a 4, .inl (cI, 200, .inl (fun j => nI (s_vl σ j)))), (a 5, .inl (cI, 60, .inl (fun j => nI (s_cp σ j)))), (a 6, .inl (cI, 200, .inl (fun j => nI (s_sp σ j)))), (a 7, .inl (cI, 200, .inl (fun j => nI (s_sa σ j)))), (a 8, .inl (cI, 200, .inl (fun j => eN (s_sv σ j))))] := hD
    refine lv_aload_n hx hb dX3_online_17 rfl (lv_at hl 0 rfl) ?_
    refine va_get (D := dD) (ci := 3) (v := .int (nI 1)) (C := RX3) (T := TX3) (N := 14) hx hb hts hinX3 hown hK hP 0 rfl rfl 0 (by decide) (hts (.fieldLink RX3 37 "FeatureStoreModel" "thrown" "I") (by decide +kernel)) (fun _ h9 => h9) rfl dX3_online_18 ?_
    refine nv_if_le (tgt := 28) hx hb dX3_online_21 (by decide) (by decide) (fun c_21 => absurd c_21 (by decide)) (fun c_21 => ?_)
    refine lv_iconst (v := nI 0) hx hb dX3_online_24 (by decide +kernel) ?_
    refine lv_goto (tgt := 48) hx hb dX3_online_25 (by decide) ?_
    exact W.iret (v := nI 0) hx hb hr (fun u9 hu9 hW => ⟨⟨nI 0, (1, σ), rfl, Or.inr (Or.inl ⟨hr_3, rfl⟩), by have h9 := hP; rw [← hu9] at h9; exact h9⟩, hS.F hu9⟩) hS.2.2 dX3_online_48

set_option maxHeartbeats 4000000 in
set_option maxRecDepth 100000 in
theorem c_X3_greatestTile (l : Launch) (dD : va_G) (cI cR cS : ClassId) (lo : Nat) (sz : Nat) (hlo : lo ≤ sz) (m0 : Nat) (a : Nat → Nat) (th : Nat) (σ : St) (hI : sI σ) (f e x : Int32) : Met l yX3_greatestTile wsX3_greatestTile ({ frames := 3, cells := 0, slots := 0, locals := 66 }) (ePc dD cI cR cS lo [.ref m0, .int f, .int e, .int x] (fun H => H.size = sz ∧ va_P dD vwCl (mW cI m0 a th σ) H ∧ va_D (fun q => lo ≤ q) (mW cI m0 a th σ))) (va_Qi (fun (r : Int32) (u : Nat × St) => R3 (okP f e ∧ rg x 1 10000) True σ σ (nI (q_gt σ (plN f e) (cl x) (s_n σ))) r u) (fun u t => va_P dD vwCl (mW cI m0 a u.1 u.2) t.heap) (va_A (mW cI m0 a th σ) sz)) 0 0 (va_A (mW cI m0 a th σ) sz) := by
  refine Met.ofW (cc := cX3_greatestTile) (maxL := 9) (ret := (some .int)) (by decide) rfl ?_
  intro p e_ s m args below meth c s₁ B hml hv
  obtain ⟨rfl, hE, hsz, hP, hD0⟩ := hv
  have hx := B.exec
  have hb := B.bytes
  have hr := B.returns
  have hts := atoms_spec (ws := wsX3_greatestTile) B.pre
  have hown : s.vm.findClass RX3 = some m.cls := findClass_of_methodNamed B.named
  have hlocks := B.notSynchronized
  have hK := hE.1.1
  have hinX3 : ∀ w ∈ u_ws RX3 TX3 14, w ∈ wsX3_greatestTile := by decide +kernel
  subst hsz
  have hD := hD0.self (sz := s.heap.size)
  have hAlo : ∀ q, va_A (mW cI m0 a th σ) s.heap.size q → lo ≤ q := eA_lo hD0 hlo
  generalize hAe : va_A (mW cI m0 a th σ) s.heap.size = A at hD hAlo ⊢
  have hA : ∀ q : Nat, s.heap.size ≤ q → A q := fun q h => by rw [← hAe]; exact Or.inr h
  have hS : va_S A s.heap s.heap [] := va_S.rf
  have hP : va_P dD vwCl (mW cI m0 a th σ) s.heap := hP
  obtain ⟨i_now, i_n, i_tk, i_k, i_lt, i_row, i_cp, i_srv⟩ := id hI
  have hl := lv_entry ([.ref m0, .int f, .int e, .int x]) (n := 9) (Nat.le_of_ble_eq_true rfl)
  rw [lg_entry_eq]
  generalize (lg_sl ([.ref m0, .int f, .int e, .int x]) ++ List.replicate (9 - (lg_sl ([.ref m0, .int f, .int e, .int x])).length) Slot.unset).toArray = ls at hl ⊢
  have hl : lv_has ls 9 [(0, .ref m0), (1, .int f), (2, .int e), (3, .int x)] := hl
  refine lv_iconst (v := nI 0) hx hb dX3_greatestTile_0 (by decide +kernel) ?_
  refine lv_istore (lv' := [(4, .int (nI 0)), (0, .ref m0), (1, .int f), (2, .int e), (3, .int x)]) hx hb dX3_greatestTile_1 hl (by decide) rfl (fun ls hl => ?_)
  refine lv_aload_n hx hb dX3_greatestTile_3 rfl (lv_at hl 1 rfl) ?_
  refine lv_iload_n hx hb dX3_greatestTile_4 rfl (lv_at hl 2 rfl) ?_
  refine lv_iload_n hx hb dX3_greatestTile_5 rfl (lv_at hl 3 rfl) ?_
  refine lv_iload_n hx hb dX3_greatestTile_6 rfl (lv_at hl 4 rfl) ?_
  have hFc := va_free (wc := (mW cI m0 a th σ)) hD hS hA [0, 1, 2, 3, 4, 5, 6, 7, 8, 9] rfl
  refine va_calli (va_runV (As := [.int f, .int e, .int x]) (rest := []) ⟨hx, hb, hml, hown, hts⟩ (c_X3_asksTiles l dD cI cR cS lo s.heap.size (Nat.le_trans hlo hS.1) m0 a th σ hI f e x) (cwV 3 hts gX3_greatestTile_X3_asksTiles rfl rfl rfl (by decide +kernel) ⟨Nat.le_of_ble_eq_true rfl, Nat.le_of_ble_eq_true rfl⟩) (ePreV hE (hS.mono hAlo) hP (k := 0) rfl rfl ⟨rfl, hP, va_D_fst hD0 rfl⟩) rfl rfl hl.1 rfl (lv_room (Nat.le_of_ble_eq_true rfl)) dX3_greatestTile_7 ⟨Nat.le_of_ble_eq_true rfl, Nat.le_of_ble_eq_true rfl⟩) hS (fun q _ h => hFc q h) hFc (fun r_7 u_ t_ H1 locs ht_ hvm_ hw_7 hB_ hz_ hk_ hS => ?_)
  obtain ⟨th_, σ_⟩ := u_
  rcases hw_7 with ⟨hc_, e_1, rfl⟩ | ⟨hc_, e_1, rfl⟩
  · cases e_1
    have hP : va_P dD vwCl (mW cI m0 a 0 σ) H1 := by rw [← ht_]; exact hB_
    have hD : va_D A (mW cI m0 a 0 σ) := va_D_fst hD rfl
    obtain ⟨fn, hfn1, hfn2, rfl⟩ := rg_of (by decide) (by decide) (hc_.1.1)
    obtain ⟨en, hen1, hen2, rfl⟩ := rg_of (by decide) (by decide) (hc_.1.2)
    obtain ⟨len, hlen1, hlen2, rfl⟩ := rg_of (by decide) (by decide) (hc_.2)
    refine nv_if_eq (tgt := 109) hx hb dX3_greatestTile_10 (by decide) (by decide) (fun c_10 => absurd c_10 (by decide)) (fun c_10 => ?_)
    refine lv_iload_n hx hb dX3_greatestTile_13 rfl (lv_at hl 2 rfl) ?_
    refine lv_iload_n hx hb dX3_greatestTile_14 rfl (lv_at hl 3 rfl) ?_
    refine vp_callSi (va_Run.run (va_runS (As := [.int (nI fn), .int (nI en)]) (rest := []) ⟨hx, hb, hml, hown, hts⟩ (c_X3_pairOf l dD cI cR cS lo fn en) (va_cwS 2 hts gX3_greatestTile_X3_pairOf rfl rfl rfl (by decide +kernel) ⟨Nat.le_of_ble_eq_true rfl, Nat.le_of_ble_eq_true rfl⟩) (ePreS hE (hS.mono hAlo) trivial) rfl rfl hl.1 rfl (lv_room (Nat.le_of_ble_eq_true rfl)) dX3_greatestTile_15 ⟨Nat.le_of_ble_eq_true rfl, Nat.le_of_ble_eq_true rfl⟩)) (fun r_15 hr_15 => ?_)
    subst hr_15
    refine lv_istore (lv' := [(5, .int (nI (10 * fn + en))), (4, .int (nI 0)), (0, .ref m0), (1, .int (nI fn)), (2, .int (nI en)), (3, .int (nI len))]) hx hb dX3_greatestTile_18 hl (by decide) rfl (fun ls hl => ?_)
    refine lv_iconst (v := nI 0) hx hb dX3_greatestTile_20 (by decide +kernel) ?_
    refine lv_istore (lv' := [(6, .int (nI 0)), (5, .int (nI (10 * fn + en))), (4, .int (nI 0)), (0, .ref m0), (1, .int (nI fn)), (2, .int (nI en)), (3, .int (nI len))]) hx hb dX3_greatestTile_21 hl (by decide) rfl (fun ls hl => ?_)
    have hlp : ∀ (d : Nat) (r : Nat), r ≤ s_n σ → s_n σ < r + d → ∀ (ls : Array Slot), lv_has ls 9 [(0, .ref m0), (1, .int (nI fn)), (2, .int (nI en)), (3, .int (nI len)), (4, .int (nI (q_gt σ (10 * fn + en) len r))), (5, .int (nI (10 * fn + en))), (6, .int (nI r))] → W p l e_ (headSpec wsX3_greatestTile ({ frames := 3, cells := 0, slots := 0, locals := 66 })).room s m (([.ref m0, .int (nI fn), .int (nI en), .int (nI len)] : List Value).toArray) below meth c H1 locs 0 0 (MQ below (va_Qi (fun (r : Int32) (u : Nat × St) => R3 (okP (nI fn) (nI en) ∧ rg (nI len) 1 10000) True σ σ (nI (q_gt σ (plN (nI fn) (nI en)) (cl (nI len)) (s_n σ))) r u) (fun u t => va_P dD vwCl (mW cI m0 a u.1 u.2) t.heap) A) (([.ref m0, .int (nI fn), .int (nI en), .int (nI len)] : List Value).toArray) s 0 0 A) (F0 m 23 ls []) := by
      intro d
      induction d with
      | zero =>
        intro r hr1 hr2 ls hl
        exact absurd hr2 (by omega)
      | succ d ih =>
        intro r hr1 hr2 ls hl
        refine lv_iload hx hb dX3_greatestTile_23 (lv_at hl 6 rfl) ?_
        refine lv_aload_n hx hb dX3_greatestTile_25 rfl (lv_at hl 0 rfl) ?_
        refine va_get (D := dD) (ci := 3) (v := .int (nI (s_n σ))) (C := RX3) (T := TX3) (N := 14) hx hb hts hinX3 hown hK hP 0 rfl rfl 3 (by decide) (hts (.fieldLink RX3 53 "FeatureStoreModel" "rows" "I") (by decide +kernel)) (fun _ h9 => h9) rfl dX3_greatestTile_26 ?_
        refine nv_ge (tgt := 109) hx hb dX3_greatestTile_29 (by decide) (by omega) (by omega) (fun c_29 => ?_) (fun c_29 => ?_)
        · have hre : r = s_n σ := by omega
          subst hre
          have hl : lv_has ls 9 [(4, .int (nI (q_gt σ (10 * fn + en) len (s_n σ))))] := lv_sub hl [4] rfl
          refine lv_iload hx hb dX3_greatestTile_109 (lv_at hl 0 rfl) ?_
          exact W.iret (v := nI (q_gt σ (10 * fn + en) len (s_n σ))) hx hb hr (fun u9 hu9 hW => ⟨⟨nI (q_gt σ (10 * fn + en) len (s_n σ)), (0, σ), rfl, Or.inl ⟨hc_, trivial, rfl, by rw [plN, cl_nI (by omega), cl_nI (by omega), cl_nI (by omega)]⟩, by have h9 := hP; rw [← hu9] at h9; exact h9⟩, hS.F hu9⟩) hS.2.2 dX3_greatestTile_111
        · have hz_r : r < s_n σ := by omega
          obtain ⟨hz_1, hz_2, hz_3, hz_4⟩ := i_row r hz_r
          have hz_d := Nat.div_mul_le_self (s_ev σ r) len
          have hz_d1 : s_ev σ r / len ≤ s_ev σ r := Nat.div_le_self _ _
          have hz_f := q_fst_01 σ len r r
          have hz_g := q_gt_le hI (10 * fn + en) len r
          have hz_s := q_sum_le hI (10 * fn + en) (s_ev σ r / len * len) (s_ev σ r / len * len + len - 1) (s_n σ) (Nat.le_refl _)
          refine lv_aload_n hx hb dX3_greatestTile_32 rfl (lv_at hl 0 rfl) ?_
          refine va_get (D := dD) (ci := 3) (v := .ref (a 2)) (C := RX3) (T := TX3) (N := 14) hx hb hts hinX3 hown hK hP 0 rfl rfl 5 (by decide) (hts (.fieldLink RX3 16 "FeatureStoreModel" "event" "[I") (by decide +kernel)) (fun _ h9 => h9) rfl dX3_greatestTile_33 ?_
          refine lv_iload hx hb dX3_greatestTile_36 (lv_at hl 6 rfl) ?_
          refine nv_iald (q0 := 3) (t0 := 0) (s_ev σ) hx hb hK hP rfl rfl (by omega) (by decide) dX3_greatestTile_38 ?_
          refine lv_iload_n hx hb dX3_greatestTile_39 rfl (lv_at hl 3 rfl) ?_
          refine nv_idiv hx hb dX3_greatestTile_40 (by omega) (by omega) (by omega) ?_
          refine lv_iload_n hx hb dX3_greatestTile_41 rfl (lv_at hl 3 rfl) ?_
          refine nv_imul hx hb dX3_greatestTile_42 ?_
          refine lv_istore (lv' := [(7, .int (nI (((s_ev σ r) / len) * len))), (0, .ref m0), (1, .int (nI fn)), (2, .int (nI en)), (3, .int (nI len)), (4, .int (nI (q_gt σ (10 * fn + en) len r))), (5, .int (nI (10 * fn + en))), (6, .int (nI r))]) hx hb dX3_greatestTile_43 hl (by decide) rfl (fun ls hl => ?_)
          refine lv_aload_n hx hb dX3_greatestTile_45 rfl (lv_at hl 1 rfl) ?_
          refine va_get (D := dD) (ci := 3) (v := .ref (a 1)) (C := RX3) (T := TX3) (N := 14) hx hb hts hinX3 hown hK hP 0 rfl rfl 4 (by decide) (hts (.fieldLink RX3 13 "FeatureStoreModel" "pair" "[I") (by decide +kernel)) (fun _ h9 => h9) rfl dX3_greatestTile_46 ?_
          refine lv_iload hx hb dX3_greatestTile_49 (lv_at hl 7 rfl) ?_
          refine nv_iald (q0 := 2) (t0 := 0) (s_pr σ) hx hb hK hP rfl rfl (by omega) (by decide) dX3_greatestTile_51 ?_
          refine lv_iload hx hb dX3_greatestTile_52 (lv_at hl 6 rfl) ?_
          refine nv_ne (tgt := 84) hx hb dX3_greatestTile_54 (by decide) (by omega) (by omega) (fun c_54 => ?_) (fun c_54 => ?_)
          · refine lv_iconst (v := nI 0) hx hb dX3_greatestTile_84 (by decide +kernel) ?_
            refine lv_istore (lv' := [(8, .int (nI 0)), (7, .int (nI (((s_ev σ r) / len) * len))), (0, .ref m0), (1, .int (nI fn)), (2, .int (nI en)), (3, .int (nI len)), (4, .int (nI (q_gt σ (10 * fn + en) len r))), (5, .int (nI (10 * fn + en))), (6, .int (nI r))]) hx hb dX3_greatestTile_85 hl (by decide) rfl (fun ls hl => ?_)
            refine lv_iload hx hb dX3_greatestTile_87 (lv_at hl 0 rfl) ?_
            refine lv_iload hx hb dX3_greatestTile_89 (lv_at hl 6 rfl) ?_
            refine nv_le (tgt := 99) hx hb dX3_greatestTile_91 (by decide) (by omega) (by omega) (fun c_91 => ?_) (fun c_91 => ?_)
            · refine lv_iload hx hb dX3_greatestTile_99 (lv_at hl 6 rfl) ?_
              refine lv_istore (lv' := [(4, .int (nI (q_gt σ (10 * fn + en) len r))), (8, .int (nI 0)), (7, .int (nI (((s_ev σ r) / len) * len))), (0, .ref m0), (1, .int (nI fn)), (2, .int (nI en)), (3, .int (nI len)), (5, .int (nI (10 * fn + en))), (6, .int (nI r))]) hx hb dX3_greatestTile_101 hl (by decide) rfl (fun ls hl => ?_)
              refine lv_iinc (v := nI (r + 1)) (lv' := [(6, .int (nI (r + 1))), (4, .int (nI (q_gt σ (10 * fn + en) len r))), (8, .int (nI 0)), (7, .int (nI (((s_ev σ r) / len) * len))), (0, .ref m0), (1, .int (nI fn)), (2, .int (nI en)), (3, .int (nI len)), (5, .int (nI (10 * fn + en)))]) hx hb dX3_greatestTile_103 hl (k := 8) rfl (nv_inc _ 1) (by decide) rfl (fun ls hl => ?_)
              refine lv_goto (tgt := 23) hx hb dX3_greatestTile_106 (by decide) ?_
              exact ih (r + 1) (by omega) (by omega) ls (by rw [show q_gt σ (10 * fn + en) len (r + 1) = q_gt σ (10 * fn + en) len r from by simp only [q_gt, show q_its σ (10 * fn + en) len r = 0 from by simp only [q_its]; split <;> first | rfl | omega]; split <;> omega]; exact lv_sub hl [4, 5, 6, 7, 1, 8, 0] rfl)
            · refine lv_iload hx hb dX3_greatestTile_94 (lv_at hl 0 rfl) ?_
              refine lv_goto (tgt := 101) hx hb dX3_greatestTile_96 (by decide) ?_
              refine lv_istore (lv' := [(4, .int (nI 0)), (8, .int (nI 0)), (7, .int (nI (((s_ev σ r) / len) * len))), (0, .ref m0), (1, .int (nI fn)), (2, .int (nI en)), (3, .int (nI len)), (5, .int (nI (10 * fn + en))), (6, .int (nI r))]) hx hb dX3_greatestTile_101 hl (by decide) rfl (fun ls hl => ?_)
              refine lv_iinc (v := nI (r + 1)) (lv' := [(6, .int (nI (r + 1))), (4, .int (nI 0)), (8, .int (nI 0)), (7, .int (nI (((s_ev σ r) / len) * len))), (0, .ref m0), (1, .int (nI fn)), (2, .int (nI en)), (3, .int (nI len)), (5, .int (nI (10 * fn + en)))]) hx hb dX3_greatestTile_103 hl (k := 8) rfl (nv_inc _ 1) (by decide) rfl (fun ls hl => ?_)
              refine lv_goto (tgt := 23) hx hb dX3_greatestTile_106 (by decide) ?_
              exact ih (r + 1) (by omega) (by omega) ls (by rw [show q_gt σ (10 * fn + en) len (r + 1) = 0 from by simp only [q_gt, show q_its σ (10 * fn + en) len r = 0 from by simp only [q_its]; split <;> first | rfl | omega]; split <;> omega]; exact lv_sub hl [4, 5, 6, 7, 1, 8, 0] rfl)
          · refine lv_aload_n hx hb dX3_greatestTile_57 rfl (lv_at hl 1 rfl) ?_
            refine lv_iload hx hb dX3_greatestTile_58 (lv_at hl 7 rfl) ?_
            refine lv_iload_n hx hb dX3_greatestTile_60 rfl (lv_at hl 4 rfl) ?_
            refine vp_callSi (va_Run.run (va_runV (As := [.int (nI r), .int (nI len)]) (rest := []) ⟨hx, hb, hml, hown, hts⟩ (c_X3_isFirst l dD cI cR cS lo m0 a 0 σ hI (r) (len) (by omega) (by omega) (by omega)) (cwV 2 hts gX3_greatestTile_X3_isFirst rfl rfl rfl (by decide +kernel) ⟨Nat.le_of_ble_eq_true rfl, Nat.le_of_ble_eq_true rfl⟩) (ePreV hE (hS.mono hAlo) hP (k := 0) rfl rfl hP) rfl rfl hl.1 rfl (lv_room (Nat.le_of_ble_eq_true rfl)) dX3_greatestTile_61 ⟨Nat.le_of_ble_eq_true rfl, Nat.le_of_ble_eq_true rfl⟩)) (fun r_61 hr_61 => ?_)
            subst hr_61
            refine nv_if_eq (tgt := 84) hx hb dX3_greatestTile_64 (by decide) (by omega) (fun c_64 => ?_) (fun c_64 => ?_)
            · refine lv_iconst (v := nI 0) hx hb dX3_greatestTile_84 (by decide +kernel) ?_
              refine lv_istore (lv' := [(8, .int (nI 0)), (7, .int (nI (((s_ev σ r) / len) * len))), (0, .ref m0), (1, .int (nI fn)), (2, .int (nI en)), (3, .int (nI len)), (4, .int (nI (q_gt σ (10 * fn + en) len r))), (5, .int (nI (10 * fn + en))), (6, .int (nI r))]) hx hb dX3_greatestTile_85 hl (by decide) rfl (fun ls hl => ?_)
              refine lv_iload hx hb dX3_greatestTile_87 (lv_at hl 0 rfl) ?_
              refine lv_iload hx hb dX3_greatestTile_89 (lv_at hl 6 rfl) ?_
              refine nv_le (tgt := 99) hx hb dX3_greatestTile_91 (by decide) (by omega) (by omega) (fun c_91 => ?_) (fun c_91 => ?_)
              · refine lv_iload hx hb dX3_greatestTile_99 (lv_at hl 6 rfl) ?_
                refine lv_istore (lv' := [(4, .int (nI (q_gt σ (10 * fn + en) len r))), (8, .int (nI 0)), (7, .int (nI (((s_ev σ r) / len) * len))), (0, .ref m0), (1, .int (nI fn)), (2, .int (nI en)), (3, .int (nI len)), (5, .int (nI (10 * fn + en))), (6, .int (nI r))]) hx hb dX3_greatestTile_101 hl (by decide) rfl (fun ls hl => ?_)
                refine lv_iinc (v := nI (r + 1)) (lv' := [(6, .int (nI (r + 1))), (4, .int (nI (q_gt σ (10 * fn + en) len r))), (8, .int (nI 0)), (7, .int (nI (((s_ev σ r) / len) * len))), (0, .ref m0), (1, .int (nI fn)), (2, .int (nI en)), (3, .int (nI len)), (5, .int (nI (10 * fn + en)))]) hx hb dX3_greatestTile_103 hl (k := 8) rfl (nv_inc _ 1) (by decide) rfl (fun ls hl => ?_)
                refine lv_goto (tgt := 23) hx hb dX3_greatestTile_106 (by decide) ?_
                exact ih (r + 1) (by omega) (by omega) ls (by rw [show q_gt σ (10 * fn + en) len (r + 1) = q_gt σ (10 * fn + en) len r from by simp only [q_gt, show q_its σ (10 * fn + en) len r = 0 from by simp only [q_its]; split <;> first | rfl | omega]; split <;> omega]; exact lv_sub hl [4, 5, 6, 7, 1, 8, 0] rfl)
              · refine lv_iload hx hb dX3_greatestTile_94 (lv_at hl 0 rfl) ?_
                refine lv_goto (tgt := 101) hx hb dX3_greatestTile_96 (by decide) ?_
                refine lv_istore (lv' := [(4, .int (nI 0)), (8, .int (nI 0)), (7, .int (nI (((s_ev σ r) / len) * len))), (0, .ref m0), (1, .int (nI fn)), (2, .int (nI en)), (3, .int (nI len)), (5, .int (nI (10 * fn + en))), (6, .int (nI r))]) hx hb dX3_greatestTile_101 hl (by decide) rfl (fun ls hl => ?_)
                refine lv_iinc (v := nI (r + 1)) (lv' := [(6, .int (nI (r + 1))), (4, .int (nI 0)), (8, .int (nI 0)), (7, .int (nI (((s_ev σ r) / len) * len))), (0, .ref m0), (1, .int (nI fn)), (2, .int (nI en)), (3, .int (nI len)), (5, .int (nI (10 * fn + en)))]) hx hb dX3_greatestTile_103 hl (k := 8) rfl (nv_inc _ 1) (by decide) rfl (fun ls hl => ?_)
                refine lv_goto (tgt := 23) hx hb dX3_greatestTile_106 (by decide) ?_
                exact ih (r + 1) (by omega) (by omega) ls (by rw [show q_gt σ (10 * fn + en) len (r + 1) = 0 from by simp only [q_gt, show q_its σ (10 * fn + en) len r = 0 from by simp only [q_its]; split <;> first | rfl | omega]; split <;> omega]; exact lv_sub hl [4, 5, 6, 7, 1, 8, 0] rfl)
            · refine lv_aload_n hx hb dX3_greatestTile_67 rfl (lv_at hl 1 rfl) ?_
              refine lv_iload hx hb dX3_greatestTile_68 (lv_at hl 6 rfl) ?_
              refine lv_iload hx hb dX3_greatestTile_70 (lv_at hl 0 rfl) ?_
              refine lv_iload hx hb dX3_greatestTile_72 (lv_at hl 0 rfl) ?_
              refine lv_iload_n hx hb dX3_greatestTile_74 rfl (lv_at hl 4 rfl) ?_
              refine nv_iadd hx hb dX3_greatestTile_75 ?_
              refine lv_iconst (v := nI 1) hx hb dX3_greatestTile_76 (by decide +kernel) ?_
              refine nv_isub hx hb dX3_greatestTile_77 (by omega) ?_
              refine vp_callSi (va_Run.run (va_runV (As := [.int (nI (10 * fn + en)), .int (nI (((s_ev σ r) / len) * len)), .int (nI (((((s_ev σ r) / len) * len) + len) - 1))]) (rest := []) ⟨hx, hb, hml, hown, hts⟩ (c_X3_sums l dD cI cR cS lo m0 a 0 σ hI (10 * fn + en) (((s_ev σ r) / len) * len) (((((s_ev σ r) / len) * len) + len) - 1) (by omega) (by omega) (by omega)) (cwV 3 hts gX3_greatestTile_X3_sums rfl rfl rfl (by decide +kernel) ⟨Nat.le_of_ble_eq_true rfl, Nat.le_of_ble_eq_true rfl⟩) (ePreV hE (hS.mono hAlo) hP (k := 0) rfl rfl hP) rfl rfl hl.1 rfl (lv_room (Nat.le_of_ble_eq_true rfl)) dX3_greatestTile_78 ⟨Nat.le_of_ble_eq_true rfl, Nat.le_of_ble_eq_true rfl⟩)) (fun r_78 hr_78 => ?_)
              subst hr_78
              refine lv_goto (tgt := 85) hx hb dX3_greatestTile_81 (by decide) ?_
              refine lv_istore (lv' := [(8, .int (nI (q_sum σ (10 * fn + en) (((s_ev σ r) / len) * len) (((((s_ev σ r) / len) * len) + len) - 1) (s_n σ)))), (7, .int (nI (((s_ev σ r) / len) * len))), (0, .ref m0), (1, .int (nI fn)), (2, .int (nI en)), (3, .int (nI len)), (4, .int (nI (q_gt σ (10 * fn + en) len r))), (5, .int (nI (10 * fn + en))), (6, .int (nI r))]) hx hb dX3_greatestTile_85 hl (by decide) rfl (fun ls hl => ?_)
              refine lv_iload hx hb dX3_greatestTile_87 (lv_at hl 0 rfl) ?_
              refine lv_iload hx hb dX3_greatestTile_89 (lv_at hl 6 rfl) ?_
              refine nv_le (tgt := 99) hx hb dX3_greatestTile_91 (by decide) (by omega) (by omega) (fun c_91 => ?_) (fun c_91 => ?_)
              · refine lv_iload hx hb dX3_greatestTile_99 (lv_at hl 6 rfl) ?_
                refine lv_istore (lv' := [(4, .int (nI (q_gt σ (10 * fn + en) len r))), (8, .int (nI (q_sum σ (10 * fn + en) (((s_ev σ r) / len) * len) (((((s_ev σ r) / len) * len) + len) - 1) (s_n σ)))), (7, .int (nI (((s_ev σ r) / len) * len))), (0, .ref m0), (1, .int (nI fn)), (2, .int (nI en)), (3, .int (nI len)), (5, .int (nI (10 * fn + en))), (6, .int (nI r))]) hx hb dX3_greatestTile_101 hl (by decide) rfl (fun ls hl => ?_)
                refine lv_iinc (v := nI (r + 1)) (lv' := [(6, .int (nI (r + 1))), (4, .int (nI (q_gt σ (10 * fn + en) len r))), (8, .int (nI (q_sum σ (10 * fn + en) (((s_ev σ r) / len) * len) (((((s_ev σ r) / len) * len) + len) - 1) (s_n σ)))), (7, .int (nI (((s_ev σ r) / len) * len))), (0, .ref m0), (1, .int (nI fn)), (2, .int (nI en)), (3, .int (nI len)), (5, .int (nI (10 * fn + en)))]) hx hb dX3_greatestTile_103 hl (k := 8) rfl (nv_inc _ 1) (by decide) rfl (fun ls hl => ?_)
                refine lv_goto (tgt := 23) hx hb dX3_greatestTile_106 (by decide) ?_
                exact ih (r + 1) (by omega) (by omega) ls (by rw [show q_gt σ (10 * fn + en) len (r + 1) = q_gt σ (10 * fn + en) len r from by simp only [q_gt, show q_its σ (10 * fn + en) len r = q_sum σ (10 * fn + en) (((s_ev σ r) / len) * len) (((((s_ev σ r) / len) * len) + len) - 1) (s_n σ) from by simp only [q_its]; split <;> first | rfl | omega]; split <;> omega]; exact lv_sub hl [4, 5, 6, 7, 1, 8, 0] rfl)
              · refine lv_iload hx hb dX3_greatestTile_94 (lv_at hl 0 rfl) ?_
                refine lv_goto (tgt := 101) hx hb dX3_greatestTile_96 (by decide) ?_
                refine lv_istore (lv' := [(4, .int (nI (q_sum σ (10 * fn + en) (((s_ev σ r) / len) * len) (((((s_ev σ r) / len) * len) + len) - 1) (s_n σ)))), (8, .int (nI (q_sum σ (10 * fn + en) (((s_ev σ r) / len) * len) (((((s_ev σ r) / len) * len) + len) - 1) (s_n σ)))), (7, .int (nI (((s_ev σ r) / len) * len))), (0, .ref m0), (1, .int (nI fn)), (2, .int (nI en)), (3, .int (nI len)), (5, .int (nI (10 * fn + en))), (6, .int (nI r))]) hx hb dX3_greatestTile_101 hl (by decide) rfl (fun ls hl => ?_)
                refine lv_iinc (v := nI (r + 1)) (lv' := [(6, .int (nI (r + 1))), (4, .int (nI (q_sum σ (10 * fn + en) (((s_ev σ r) / len) * len) (((((s_ev σ r) / len) * len) + len) - 1) (s_n σ)))), (8, .int (nI (q_sum σ (10 * fn + en) (((s_ev σ r) / len) * len) (((((s_ev σ r) / len) * len) + len) - 1) (s_n σ)))), (7, .int (nI (((s_ev σ r) / len) * len))), (0, .ref m0), (1, .int (nI fn)), (2, .int (nI en)), (3, .int (nI len)), (5, .int (nI (10 * fn + en)))]) hx hb dX3_greatestTile_103 hl (k := 8) rfl (nv_inc _ 1) (by decide) rfl (fun ls hl => ?_)
                refine lv_goto (tgt := 23) hx hb dX3_greatestTile_106 (by decide) ?_
                exact ih (r + 1) (by omega) (by omega) ls (by rw [show q_gt σ (10 * fn + en) len (r + 1) = q_sum σ (10 * fn + en) (((s_ev σ r) / len) * len) (((((s_ev σ r) / len) * len) + len) - 1) (s_n σ) from by simp only [q_gt, show q_its σ (10 * fn + en) len r = q_sum σ (10 * fn + en) (((s_ev σ r) / len) * len) (((((s_ev σ r) / len) * len) + len) - 1) (s_n σ) from by simp only [q_its]; split <;> first | rfl | omega]; split <;> omega]; exact lv_sub hl [4, 5, 6, 7, 1, 8, 0] rfl)
    exact hlp (s_n σ + 1) 0 (Nat.zero_le _) (by omega) ls (lv_sub hl [3, 4, 5, 6, 2, 1, 0] rfl)
  · cases e_1
    have hP : va_P dD vwCl (mW cI m0 a 1 σ) H1 := by rw [← ht_]; exact hB_
    have hD : va_D A (mW cI m0 a 1 σ) := va_D_fst hD rfl
    refine nv_if_eq (tgt := 109) hx hb dX3_greatestTile_10 (by decide) (by decide) (fun c_10 => ?_) (fun c_10 => absurd c_10 (by decide))
    refine lv_iload hx hb dX3_greatestTile_109 (lv_at hl 0 rfl) ?_
    exact W.iret (v := nI 0) hx hb hr (fun u9 hu9 hW => ⟨⟨nI 0, (1, σ), rfl, Or.inr (Or.inl ⟨hc_, rfl⟩), by have h9 := hP; rw [← hu9] at h9; exact h9⟩, hS.F hu9⟩) hS.2.2 dX3_greatestTile_111

set_option maxHeartbeats 4000000 in
set_option maxRecDepth 100000 in
theorem c_X3_tiles (l : Launch) (dD : va_G) (cI cR cS : ClassId) (lo : Nat) (sz : Nat) (hlo : lo ≤ sz) (m0 : Nat) (a : Nat → Nat) (th : Nat) (σ : St) (hI : sI σ) (f e x : Int32) : Met l yX3_tiles wsX3_tiles ({ frames := 3, cells := 0, slots := 0, locals := 66 }) (ePc dD cI cR cS lo [.ref m0, .int f, .int e, .int x] (fun H => H.size = sz ∧ va_P dD vwCl (mW cI m0 a th σ) H ∧ va_D (fun q => lo ≤ q) (mW cI m0 a th σ))) (va_Qi (fun (r : Int32) (u : Nat × St) => R3 (okP f e ∧ rg x 1 10000) True σ σ (nI (q_tl σ (plN f e) (cl x) (s_n σ))) r u) (fun u t => va_P dD vwCl (mW cI m0 a u.1 u.2) t.heap) (va_A (mW cI m0 a th σ) sz)) 0 0 (va_A (mW cI m0 a th σ) sz) := by
  refine Met.ofW (cc := cX3_tiles) (maxL := 6) (ret := (some .int)) (by decide) rfl ?_
  intro p e_ s m args below meth c s₁ B hml hv
  obtain ⟨rfl, hE, hsz, hP, hD0⟩ := hv
  have hx := B.exec
  have hb := B.bytes
  have hr := B.returns
  have hts := atoms_spec (ws := wsX3_tiles) B.pre
  have hown : s.vm.findClass RX3 = some m.cls := findClass_of_methodNamed B.named
  have hlocks := B.notSynchronized
  have hK := hE.1.1
  have hinX3 : ∀ w ∈ u_ws RX3 TX3 14, w ∈ wsX3_tiles := by decide +kernel
  subst hsz
  have hD := hD0.self (sz := s.heap.size)
  have hAlo : ∀ q, va_A (mW cI m0 a th σ) s.heap.size q → lo ≤ q := eA_lo hD0 hlo
  generalize hAe : va_A (mW cI m0 a th σ) s.heap.size = A at hD hAlo ⊢
  have hA : ∀ q : Nat, s.heap.size ≤ q → A q := fun q h => by rw [← hAe]; exact Or.inr h
  have hS : va_S A s.heap s.heap [] := va_S.rf
  have hP : va_P dD vwCl (mW cI m0 a th σ) s.heap := hP
  obtain ⟨i_now, i_n, i_tk, i_k, i_lt, i_row, i_cp, i_srv⟩ := id hI
  have hl := lv_entry ([.ref m0, .int f, .int e, .int x]) (n := 6) (Nat.le_of_ble_eq_true rfl)
  rw [lg_entry_eq]
  generalize (lg_sl ([.ref m0, .int f, .int e, .int x]) ++ List.replicate (6 - (lg_sl ([.ref m0, .int f, .int e, .int x])).length) Slot.unset).toArray = ls at hl ⊢
  have hl : lv_has ls 6 [(0, .ref m0), (1, .int f), (2, .int e), (3, .int x)] := hl
  refine lv_iconst (v := nI 0) hx hb dX3_tiles_0 (by decide +kernel) ?_
  refine lv_istore (lv' := [(4, .int (nI 0)), (0, .ref m0), (1, .int f), (2, .int e), (3, .int x)]) hx hb dX3_tiles_1 hl (by decide) rfl (fun ls hl => ?_)
  refine lv_aload_n hx hb dX3_tiles_3 rfl (lv_at hl 1 rfl) ?_
  refine lv_iload_n hx hb dX3_tiles_4 rfl (lv_at hl 2 rfl) ?_
  refine lv_iload_n hx hb dX3_tiles_5 rfl (lv_at hl 3 rfl) ?_
  refine lv_iload_n hx hb dX3_tiles_6 rfl (lv_at hl 4 rfl) ?_
  have hFc := va_free (wc := (mW cI m0 a th σ)) hD hS hA [0, 1, 2, 3, 4, 5, 6, 7, 8, 9] rfl
  refine va_calli (va_runV (As := [.int f, .int e, .int x]) (rest := []) ⟨hx, hb, hml, hown, hts⟩ (c_X3_asksTiles l dD cI cR cS lo s.heap.size (Nat.le_trans hlo hS.1) m0 a th σ hI f e x) (cwV 3 hts gX3_tiles_X3_asksTiles rfl rfl rfl (by decide +kernel) ⟨Nat.le_of_ble_eq_true rfl, Nat.le_of_ble_eq_true rfl⟩) (ePreV hE (hS.mono hAlo) hP (k := 0) rfl rfl ⟨rfl, hP, va_D_fst hD0 rfl⟩) rfl rfl hl.1 rfl (lv_room (Nat.le_of_ble_eq_true rfl)) dX3_tiles_7 ⟨Nat.le_of_ble_eq_true rfl, Nat.le_of_ble_eq_true rfl⟩) hS (fun q _ h => hFc q h) hFc (fun r_7 u_ t_ H1 locs ht_ hvm_ hw_7 hB_ hz_ hk_ hS => ?_)
  obtain ⟨th_, σ_⟩ := u_
  rcases hw_7 with ⟨hc_, e_1, rfl⟩ | ⟨hc_, e_1, rfl⟩
  · cases e_1
    have hP : va_P dD vwCl (mW cI m0 a 0 σ) H1 := by rw [← ht_]; exact hB_
    have hD : va_D A (mW cI m0 a 0 σ) := va_D_fst hD rfl
    obtain ⟨fn, hfn1, hfn2, rfl⟩ := rg_of (by decide) (by decide) (hc_.1.1)
    obtain ⟨en, hen1, hen2, rfl⟩ := rg_of (by decide) (by decide) (hc_.1.2)
    obtain ⟨len, hlen1, hlen2, rfl⟩ := rg_of (by decide) (by decide) (hc_.2)
    refine nv_if_eq (tgt := 66) hx hb dX3_tiles_10 (by decide) (by decide) (fun c_10 => absurd c_10 (by decide)) (fun c_10 => ?_)
    refine lv_iconst (v := nI 0) hx hb dX3_tiles_13 (by decide +kernel) ?_
    refine lv_istore (lv' := [(5, .int (nI 0)), (4, .int (nI 0)), (0, .ref m0), (1, .int (nI fn)), (2, .int (nI en)), (3, .int (nI len))]) hx hb dX3_tiles_14 hl (by decide) rfl (fun ls hl => ?_)
    have hlp : ∀ (d : Nat) (r : Nat), r ≤ s_n σ → s_n σ < r + d → ∀ (ls : Array Slot), lv_has ls 6 [(0, .ref m0), (1, .int (nI fn)), (2, .int (nI en)), (3, .int (nI len)), (4, .int (nI (q_tl σ (10 * fn + en) len r))), (5, .int (nI r))] → W p l e_ (headSpec wsX3_tiles ({ frames := 3, cells := 0, slots := 0, locals := 66 })).room s m (([.ref m0, .int (nI fn), .int (nI en), .int (nI len)] : List Value).toArray) below meth c H1 locs 0 0 (MQ below (va_Qi (fun (r : Int32) (u : Nat × St) => R3 (okP (nI fn) (nI en) ∧ rg (nI len) 1 10000) True σ σ (nI (q_tl σ (plN (nI fn) (nI en)) (cl (nI len)) (s_n σ))) r u) (fun u t => va_P dD vwCl (mW cI m0 a u.1 u.2) t.heap) A) (([.ref m0, .int (nI fn), .int (nI en), .int (nI len)] : List Value).toArray) s 0 0 A) (F0 m 16 ls []) := by
      intro d
      induction d with
      | zero =>
        intro r hr1 hr2 ls hl
        exact absurd hr2 (by omega)
      | succ d ih =>
        intro r hr1 hr2 ls hl
        refine lv_iload hx hb dX3_tiles_16 (lv_at hl 5 rfl) ?_
        refine lv_aload_n hx hb dX3_tiles_18 rfl (lv_at hl 0 rfl) ?_
        refine va_get (D := dD) (ci := 3) (v := .int (nI (s_n σ))) (C := RX3) (T := TX3) (N := 14) hx hb hts hinX3 hown hK hP 0 rfl rfl 3 (by decide) (hts (.fieldLink RX3 53 "FeatureStoreModel" "rows" "I") (by decide +kernel)) (fun _ h9 => h9) rfl dX3_tiles_19 ?_
        refine nv_ge (tgt := 66) hx hb dX3_tiles_22 (by decide) (by omega) (by omega) (fun c_22 => ?_) (fun c_22 => ?_)
        · have hre : r = s_n σ := by omega
          subst hre
          have hl : lv_has ls 6 [(4, .int (nI (q_tl σ (10 * fn + en) len (s_n σ))))] := lv_sub hl [4] rfl
          refine lv_iload hx hb dX3_tiles_66 (lv_at hl 0 rfl) ?_
          exact W.iret (v := nI (q_tl σ (10 * fn + en) len (s_n σ))) hx hb hr (fun u9 hu9 hW => ⟨⟨nI (q_tl σ (10 * fn + en) len (s_n σ)), (0, σ), rfl, Or.inl ⟨hc_, trivial, rfl, by rw [plN, cl_nI (by omega), cl_nI (by omega), cl_nI (by omega)]⟩, by have h9 := hP; rw [← hu9] at h9; exact h9⟩, hS.F hu9⟩) hS.2.2 dX3_tiles_68
        · have hz_r : r < s_n σ := by omega
          obtain ⟨hz_1, hz_2, hz_3, hz_4⟩ := i_row r hz_r
          have hz_f := q_fst_01 σ len r r
          refine lv_iload hx hb dX3_tiles_25 (lv_at hl 4 rfl) ?_
          refine lv_aload_n hx hb dX3_tiles_27 rfl (lv_at hl 0 rfl) ?_
          refine va_get (D := dD) (ci := 3) (v := .ref (a 1)) (C := RX3) (T := TX3) (N := 14) hx hb hts hinX3 hown hK hP 0 rfl rfl 4 (by decide) (hts (.fieldLink RX3 13 "FeatureStoreModel" "pair" "[I") (by decide +kernel)) (fun _ h9 => h9) rfl dX3_tiles_28 ?_
          refine lv_iload hx hb dX3_tiles_31 (lv_at hl 5 rfl) ?_
          refine nv_iald (q0 := 2) (t0 := 0) (s_pr σ) hx hb hK hP rfl rfl (by omega) (by decide) dX3_tiles_33 ?_
          refine lv_iload_n hx hb dX3_tiles_34 rfl (lv_at hl 1 rfl) ?_
          refine lv_iload_n hx hb dX3_tiles_35 rfl (lv_at hl 2 rfl) ?_
          refine vp_callSi (va_Run.run (va_runS (As := [.int (nI fn), .int (nI en)]) (rest := [.int (nI (s_pr σ r)), .int (nI (q_tl σ (10 * fn + en) len r))]) ⟨hx, hb, hml, hown, hts⟩ (c_X3_pairOf l dD cI cR cS lo fn en) (va_cwS 2 hts gX3_tiles_X3_pairOf rfl rfl rfl (by decide +kernel) ⟨Nat.le_of_ble_eq_true rfl, Nat.le_of_ble_eq_true rfl⟩) (ePreS hE (hS.mono hAlo) trivial) rfl rfl hl.1 rfl (lv_room (Nat.le_of_ble_eq_true rfl)) dX3_tiles_36 ⟨Nat.le_of_ble_eq_true rfl, Nat.le_of_ble_eq_true rfl⟩)) (fun r_36 hr_36 => ?_)
          subst hr_36
          refine nv_ne (tgt := 56) hx hb dX3_tiles_39 (by decide) (by omega) (by omega) (fun c_39 => ?_) (fun c_39 => ?_)
          · refine lv_iconst (v := nI 0) hx hb dX3_tiles_56 (by decide +kernel) ?_
            refine nv_iadd hx hb dX3_tiles_57 ?_
            refine lv_istore (lv' := [(4, .int (nI ((q_tl σ (10 * fn + en) len r) + 0))), (0, .ref m0), (1, .int (nI fn)), (2, .int (nI en)), (3, .int (nI len)), (5, .int (nI r))]) hx hb dX3_tiles_58 hl (by decide) rfl (fun ls hl => ?_)
            refine lv_iinc (v := nI (r + 1)) (lv' := [(5, .int (nI (r + 1))), (4, .int (nI ((q_tl σ (10 * fn + en) len r) + 0))), (0, .ref m0), (1, .int (nI fn)), (2, .int (nI en)), (3, .int (nI len))]) hx hb dX3_tiles_60 hl (k := 5) rfl (nv_inc _ 1) (by decide) rfl (fun ls hl => ?_)
            refine lv_goto (tgt := 16) hx hb dX3_tiles_63 (by decide) ?_
            exact ih (r + 1) (by omega) (by omega) ls (by rw [show q_tl σ (10 * fn + en) len (r + 1) = (q_tl σ (10 * fn + en) len r) + 0 from by simp only [q_tl]; split <;> omega]; exact lv_sub hl [2, 3, 4, 5, 1, 0] rfl)
          · refine lv_aload_n hx hb dX3_tiles_42 rfl (lv_at hl 0 rfl) ?_
            refine lv_iload hx hb dX3_tiles_43 (lv_at hl 5 rfl) ?_
            refine lv_iload_n hx hb dX3_tiles_45 rfl (lv_at hl 3 rfl) ?_
            refine vp_callSi (va_Run.run (va_runV (As := [.int (nI r), .int (nI len)]) (rest := [.int (nI (q_tl σ (10 * fn + en) len r))]) ⟨hx, hb, hml, hown, hts⟩ (c_X3_isFirst l dD cI cR cS lo m0 a 0 σ hI (r) (len) (by omega) (by omega) (by omega)) (cwV 2 hts gX3_tiles_X3_isFirst rfl rfl rfl (by decide +kernel) ⟨Nat.le_of_ble_eq_true rfl, Nat.le_of_ble_eq_true rfl⟩) (ePreV hE (hS.mono hAlo) hP (k := 0) rfl rfl hP) rfl rfl hl.1 rfl (lv_room (Nat.le_of_ble_eq_true rfl)) dX3_tiles_46 ⟨Nat.le_of_ble_eq_true rfl, Nat.le_of_ble_eq_true rfl⟩)) (fun r_46 hr_46 => ?_)
            subst hr_46
            refine nv_if_eq (tgt := 56) hx hb dX3_tiles_49 (by decide) (by omega) (fun c_49 => ?_) (fun c_49 => ?_)
            · refine lv_iconst (v := nI 0) hx hb dX3_tiles_56 (by decide +kernel) ?_
              refine nv_iadd hx hb dX3_tiles_57 ?_
              refine lv_istore (lv' := [(4, .int (nI ((q_tl σ (10 * fn + en) len r) + 0))), (0, .ref m0), (1, .int (nI fn)), (2, .int (nI en)), (3, .int (nI len)), (5, .int (nI r))]) hx hb dX3_tiles_58 hl (by decide) rfl (fun ls hl => ?_)
              refine lv_iinc (v := nI (r + 1)) (lv' := [(5, .int (nI (r + 1))), (4, .int (nI ((q_tl σ (10 * fn + en) len r) + 0))), (0, .ref m0), (1, .int (nI fn)), (2, .int (nI en)), (3, .int (nI len))]) hx hb dX3_tiles_60 hl (k := 5) rfl (nv_inc _ 1) (by decide) rfl (fun ls hl => ?_)
              refine lv_goto (tgt := 16) hx hb dX3_tiles_63 (by decide) ?_
              exact ih (r + 1) (by omega) (by omega) ls (by rw [show q_tl σ (10 * fn + en) len (r + 1) = (q_tl σ (10 * fn + en) len r) + 0 from by simp only [q_tl]; split <;> omega]; exact lv_sub hl [2, 3, 4, 5, 1, 0] rfl)
            · refine lv_iconst (v := nI 1) hx hb dX3_tiles_52 (by decide +kernel) ?_
              refine lv_goto (tgt := 57) hx hb dX3_tiles_53 (by decide) ?_
              refine nv_iadd hx hb dX3_tiles_57 ?_
              refine lv_istore (lv' := [(4, .int (nI ((q_tl σ (10 * fn + en) len r) + 1))), (0, .ref m0), (1, .int (nI fn)), (2, .int (nI en)), (3, .int (nI len)), (5, .int (nI r))]) hx hb dX3_tiles_58 hl (by decide) rfl (fun ls hl => ?_)
              refine lv_iinc (v := nI (r + 1)) (lv' := [(5, .int (nI (r + 1))), (4, .int (nI ((q_tl σ (10 * fn + en) len r) + 1))), (0, .ref m0), (1, .int (nI fn)), (2, .int (nI en)), (3, .int (nI len))]) hx hb dX3_tiles_60 hl (k := 5) rfl (nv_inc _ 1) (by decide) rfl (fun ls hl => ?_)
              refine lv_goto (tgt := 16) hx hb dX3_tiles_63 (by decide) ?_
              exact ih (r + 1) (by omega) (by omega) ls (by rw [show q_tl σ (10 * fn + en) len (r + 1) = (q_tl σ (10 * fn + en) len r) + 1 from by simp only [q_tl]; split <;> omega]; exact lv_sub hl [2, 3, 4, 5, 1, 0] rfl)
    exact hlp (s_n σ + 1) 0 (Nat.zero_le _) (by omega) ls (lv_sub hl [2, 3, 4, 5, 1, 0] rfl)
  · cases e_1
    have hP : va_P dD vwCl (mW cI m0 a 1 σ) H1 := by rw [← ht_]; exact hB_
    have hD : va_D A (mW cI m0 a 1 σ) := va_D_fst hD rfl
    refine nv_if_eq (tgt := 66) hx hb dX3_tiles_10 (by decide) (by decide) (fun c_10 => ?_) (fun c_10 => absurd c_10 (by decide))
    refine lv_iload hx hb dX3_tiles_66 (lv_at hl 0 rfl) ?_
    exact W.iret (v := nI 0) hx hb hr (fun u9 hu9 hW => ⟨⟨nI 0, (1, σ), rfl, Or.inr (Or.inl ⟨hc_, rfl⟩), by have h9 := hP; rw [← hu9] at h9; exact h9⟩, hS.F hu9⟩) hS.2.2 dX3_tiles_68
end
section
/-! the reference: revised, skew, unsound, serve (laid by wip/whole/gen/x3wr3.py) -/
theorem q_fr_le {σ : St} {o t n : Nat} (h : o ≤ n) : q_fr σ o t ≤ n := by
  simp only [q_fr]
  split
  · omega
  · split <;> omega
theorem tk1_k (σ : St) (k : Nat) (h9 : ¬ k = 9) (h2 : ¬ k = 2) : q_take1 σ k = σ k := by
  unfold q_take1
  show (if k = 2 then _ else _) = _
  rw [if_neg h2]
  split
  · show (if k = 9 then _ else _) = _
    rw [if_neg h9]
  · rfl
theorem tk1_0 (σ : St) : s_now (q_take1 σ) = s_now σ := congrFun (tk1_k σ 0 (by decide) (by decide)) 0
theorem tk1_1 (σ : St) : s_n (q_take1 σ) = s_n σ := congrFun (tk1_k σ 1 (by decide) (by decide)) 0
theorem tk1_2 (σ : St) : s_tk (q_take1 σ) = s_tk σ + 1 := rfl
theorem tk1_3 (σ : St) : s_k (q_take1 σ) = s_k σ := congrFun (tk1_k σ 3 (by decide) (by decide)) 0
theorem tk1_4 (σ : St) : s_lt (q_take1 σ) = s_lt σ := tk1_k σ 4 (by decide) (by decide)
theorem tk1_5 (σ : St) : s_pr (q_take1 σ) = s_pr σ := tk1_k σ 5 (by decide) (by decide)
theorem tk1_6 (σ : St) : s_ev (q_take1 σ) = s_ev σ := tk1_k σ 6 (by decide) (by decide)
theorem tk1_7 (σ : St) : s_ar (q_take1 σ) = s_ar σ := tk1_k σ 7 (by decide) (by decide)
theorem tk1_8 (σ : St) : s_vl (q_take1 σ) = s_vl σ := tk1_k σ 8 (by decide) (by decide)
theorem tk1_10 (σ : St) : s_sp (q_take1 σ) = s_sp σ := tk1_k σ 10 (by decide) (by decide)
theorem tk1_11 (σ : St) : s_sa (q_take1 σ) = s_sa σ := tk1_k σ 11 (by decide) (by decide)
theorem tk1_12 (σ : St) : s_sv (q_take1 σ) = s_sv σ := tk1_k σ 12 (by decide) (by decide)
theorem tk1_9 (σ : St) : s_cp (q_take1 σ) = if s_cp σ (s_pr σ (s_tk σ)) = 0 ∨ s_ev σ (s_cp σ (s_pr σ (s_tk σ)) - 1) ≤ s_ev σ (s_tk σ) then uN (s_cp σ) (s_pr σ (s_tk σ)) (s_tk σ + 1) else s_cp σ := by
  by_cases h : s_cp σ (s_pr σ (s_tk σ)) = 0 ∨ s_ev σ (s_cp σ (s_pr σ (s_tk σ)) - 1) ≤ s_ev σ (s_tk σ)
  · rw [if_pos h]; unfold q_take1; rw [if_pos h]; rfl
  · rw [if_neg h]; unfold q_take1; rw [if_neg h]; rfl
theorem sI_take1 {σ : St} (hI : sI σ) (h : s_tk σ < s_n σ) : sI (q_take1 σ) := by
  obtain ⟨i_now, i_n, i_tk, i_k, i_lt, i_row, i_cp, i_srv⟩ := hI
  unfold sI
  rw [tk1_0, tk1_1, tk1_2, tk1_3, tk1_4, tk1_5, tk1_6, tk1_7, tk1_8, tk1_9, tk1_10, tk1_11, tk1_12]
  refine ⟨i_now, i_n, h, i_k, i_lt, i_row, ?_, i_srv⟩
  intro q hq
  obtain ⟨h1, h2⟩ := i_cp q hq
  split
  · by_cases e : q = s_pr σ (s_tk σ)
    · subst e
      rw [uN_s]
      exact ⟨Nat.le_refl _, fun r hr => by
        have : r = s_tk σ := by omega
        rw [this]⟩
    · rw [uN_n e]
      exact ⟨by omega, h2⟩
  · exact ⟨by omega, h2⟩

set_option maxHeartbeats 4000000 in
set_option maxRecDepth 100000 in
theorem c_X3_revised (l : Launch) (dD : va_G) (cI cR cS : ClassId) (lo : Nat) (sz : Nat) (hlo : lo ≤ sz) (m0 : Nat) (a : Nat → Nat) (th : Nat) (σ : St) (hI : sI σ) (f e x : Int32) : Met l yX3_revised wsX3_revised ({ frames := 2, cells := 0, slots := 0, locals := 49 }) (ePc dD cI cR cS lo [.ref m0, .int f, .int e, .int x] (fun H => H.size = sz ∧ va_P dD vwCl (mW cI m0 a th σ) H ∧ va_D (fun q => lo ≤ q) (mW cI m0 a th σ))) (va_Qi (fun (r : Int32) (u : Nat × St) => R3 (okP f e ∧ rg x 1 10000) True σ σ (nI (q_rev σ (plN f e) (cl x) (s_now σ / cl x + 1))) r u) (fun u t => va_P dD vwCl (mW cI m0 a u.1 u.2) t.heap) (va_A (mW cI m0 a th σ) sz)) 0 0 (va_A (mW cI m0 a th σ) sz) := by
  refine Met.ofW (cc := cX3_revised) (maxL := 6) (ret := (some .int)) (by decide) rfl ?_
  intro p e_ s m args below meth c s₁ B hml hv
  obtain ⟨rfl, hE, hsz, hP, hD0⟩ := hv
  have hx := B.exec
  have hb := B.bytes
  have hr := B.returns
  have hts := atoms_spec (ws := wsX3_revised) B.pre
  have hown : s.vm.findClass RX3 = some m.cls := findClass_of_methodNamed B.named
  have hlocks := B.notSynchronized
  have hK := hE.1.1
  have hinX3 : ∀ w ∈ u_ws RX3 TX3 14, w ∈ wsX3_revised := by decide +kernel
  subst hsz
  have hD := hD0.self (sz := s.heap.size)
  have hAlo : ∀ q, va_A (mW cI m0 a th σ) s.heap.size q → lo ≤ q := eA_lo hD0 hlo
  generalize hAe : va_A (mW cI m0 a th σ) s.heap.size = A at hD hAlo ⊢
  have hA : ∀ q : Nat, s.heap.size ≤ q → A q := fun q h => by rw [← hAe]; exact Or.inr h
  have hS : va_S A s.heap s.heap [] := va_S.rf
  have hP : va_P dD vwCl (mW cI m0 a th σ) s.heap := hP
  obtain ⟨i_now, i_n, i_tk, i_k, i_lt, i_row, i_cp, i_srv⟩ := id hI
  have hl := lv_entry ([.ref m0, .int f, .int e, .int x]) (n := 6) (Nat.le_of_ble_eq_true rfl)
  rw [lg_entry_eq]
  generalize (lg_sl ([.ref m0, .int f, .int e, .int x]) ++ List.replicate (6 - (lg_sl ([.ref m0, .int f, .int e, .int x])).length) Slot.unset).toArray = ls at hl ⊢
  have hl : lv_has ls 6 [(0, .ref m0), (1, .int f), (2, .int e), (3, .int x)] := hl
  refine lv_aload_n hx hb dX3_revised_0 rfl (lv_at hl 0 rfl) ?_
  refine lv_iload_n hx hb dX3_revised_1 rfl (lv_at hl 1 rfl) ?_
  refine lv_iload_n hx hb dX3_revised_2 rfl (lv_at hl 2 rfl) ?_
  refine vp_callSi (va_Run.run (va_runS (As := [.int f, .int e]) (rest := [.ref m0]) ⟨hx, hb, hml, hown, hts⟩ (c_X3_isPair l dD cI cR cS lo f e) (va_cwS 2 hts gX3_revised_X3_isPair rfl rfl rfl (by decide +kernel) ⟨Nat.le_of_ble_eq_true rfl, Nat.le_of_ble_eq_true rfl⟩) (ePreS hE (hS.mono hAlo) trivial) rfl rfl hl.1 rfl (lv_room (Nat.le_of_ble_eq_true rfl)) dX3_revised_3 ⟨Nat.le_of_ble_eq_true rfl, Nat.le_of_ble_eq_true rfl⟩)) (fun r_3 hr_3 => ?_)
  rcases hr_3 with ⟨rfl, hr_3⟩ | ⟨rfl, hr_3⟩
  · refine nv_if_eq (tgt := 24) hx hb dX3_revised_6 (by decide) (by decide) (fun c_6 => absurd c_6 (by decide)) (fun c_6 => ?_)
    refine lv_iload_n hx hb dX3_revised_9 rfl (lv_at hl 3 rfl) ?_
    refine lv_iconst (v := nI 1) hx hb dX3_revised_10 (by decide +kernel) ?_
    refine lv_sipush (v := nI 10000) hx hb dX3_revised_11 (by decide +kernel) ?_
    refine vp_callSi (va_Run.run (va_runS (As := [.int x, .int (nI 1), .int (nI 10000)]) (rest := [.ref m0]) ⟨hx, hb, hml, hown, hts⟩ (c_X3_in l dD cI cR cS lo x (nI 1) (nI 10000)) (va_cwS 3 hts gX3_revised_X3_in rfl rfl rfl (by decide +kernel) ⟨Nat.le_of_ble_eq_true rfl, Nat.le_of_ble_eq_true rfl⟩) (ePreS hE (hS.mono hAlo) trivial) rfl rfl hl.1 rfl (lv_room (Nat.le_of_ble_eq_true rfl)) dX3_revised_14 ⟨Nat.le_of_ble_eq_true rfl, Nat.le_of_ble_eq_true rfl⟩)) (fun r_14 hr_14 => ?_)
    rcases hr_14 with ⟨rfl, hr_14⟩ | ⟨rfl, hr_14⟩
    · obtain ⟨fn, hfn1, hfn2, rfl⟩ := rg_of (by decide) (by decide) (hr_3.1)
      obtain ⟨en, hen1, hen2, rfl⟩ := rg_of (by decide) (by decide) (hr_3.2)
      obtain ⟨T, hT1, hT2, rfl⟩ := rg_of (by decide) (by decide) (hr_14)
      refine nv_if_eq (tgt := 24) hx hb dX3_revised_17 (by decide) (by decide) (fun c_17 => absurd c_17 (by decide)) (fun c_17 => ?_)
      refine lv_iconst (v := nI 0) hx hb dX3_revised_20 (by decide +kernel) ?_
      refine lv_goto (tgt := 25) hx hb dX3_revised_21 (by decide) ?_
      refine va_put (D := dD) (ci := 3) (v := .int (nI 0)) (ty := .int) (C := RX3) (T := TX3) (N := 14) hx hb hts hinX3 tyX3 tyX3_ok nmX3 hown hK hP hD hS 0 rfl rfl 0 (by decide) (hts (.fieldLink RX3 37 "FeatureStoreModel" "thrown" "I") (by decide +kernel)) (fun _ h9 => h9) rfl (by decide +kernel) rfl rfl (Nat.le_of_ble_eq_true rfl) dX3_revised_25 (fun H locs hP hD hS => ?_)
      have hP : va_P dD vwCl [(m0, .inr (3, [.int (nI 0), .int (nI (s_now σ)), .ref (a 0), .int (nI (s_n σ)), .ref (a 1), .ref (a 2), .ref (a 3), .ref (a 4), .int (nI (s_tk σ)), .ref (a 5), .int (nI (s_k σ)), .ref (a 6), .ref (a 7), .ref (a 8)])), (a 0, .inl (cI, 6, .inl (fun j => nI (s_lt σ j)))), (a 1, .inl (cI, 200, .inl (fun j => nI (s_pr σ j)))), (a 2, .inl (cI, 200, .inl (fun j => nI (s_ev σ j)))), (a 3, .inl (cI, 200, .inl (fun j => nI (s_ar σ j)))), (a 4, .inl (cI, 200, .inl (fun j => nI (s_vl σ j)))), (a 5, .inl (cI, 60, .inl (fun j => nI (s_cp σ j)))), (a 6, .inl (cI, 200, .inl (fun j => nI (s_sp σ j)))), (a 7, .inl (cI, 200, .inl (fun j => nI (s_sa σ j)))), (a 8, .inl (cI, 200, .inl (fun j => eN (s_sv σ j))))] H := hP
      have hD : va_D A [(m0, .inr (3, [.int (nI 0), .int (nI (s_now σ)), .ref (a 0), .int (nI (s_n σ)), .ref (a 1), .ref (a 2), .ref (a 3), .ref (a 4), .int (nI (s_tk σ)), .ref (a 5), .int (nI (s_k σ)), .ref (a 6), .ref (a 7), .ref (a 8)])), (a 0, .inl (cI, 6, .inl (fun j => nI (s_lt σ j)))), (a 1, .inl (cI, 200, .inl (fun j => nI (s_pr σ j)))), (a 2, .inl (cI, 200, .inl (fun j => nI (s_ev σ j)))), (a 3, .inl (cI, 200, .inl (fun j => nI (s_ar σ j)))), (a 4, .inl (cI, 200, .inl (fun j => nI (s_vl σ j)))), (a 5, .inl (cI, 60, .inl (fun j => nI (s_cp σ j)))), (a 6, .inl (cI, 200, .inl (fun j => nI (s_sp σ j)))), (a 7, .inl (cI, 200, .inl (fun j => nI (s_sa σ j)))), (a 8, .inl (cI, 200, .inl (fun j => eN (s_sv σ j))))] := hD
      refine lv_iconst (v := nI 0) hx hb dX3_revised_28 (by decide +kernel) ?_
      refine lv_istore (lv' := [(4, .int (nI 0)), (0, .ref m0), (1, .int (nI fn)), (2, .int (nI en)), (3, .int (nI T))]) hx hb dX3_revised_29 hl (by decide) rfl (fun ls hl => ?_)
      refine lv_iconst (v := nI 0) hx hb dX3_revised_31 (by decide +kernel) ?_
      refine lv_istore (lv' := [(5, .int (nI 0)), (4, .int (nI 0)), (0, .ref m0), (1, .int (nI fn)), (2, .int (nI en)), (3, .int (nI T))]) hx hb dX3_revised_32 hl (by decide) rfl (fun ls hl => ?_)
      have hlp : ∀ (d : Nat) (j : Nat), j * T ≤ s_now σ + T → s_now σ + T + 1 ≤ j * T + d → ∀ (ls : Array Slot), lv_has ls 6 [(0, .ref m0), (1, .int (nI fn)), (2, .int (nI en)), (3, .int (nI T)), (4, .int (nI (q_rev σ (10 * fn + en) T j))), (5, .int (nI (j * T)))] → W p l e_ (headSpec wsX3_revised ({ frames := 2, cells := 0, slots := 0, locals := 49 })).room s m (([.ref m0, .int (nI fn), .int (nI en), .int (nI T)] : List Value).toArray) below meth c H locs 0 0 (MQ below (va_Qi (fun (r : Int32) (u : Nat × St) => R3 (okP (nI fn) (nI en) ∧ rg (nI T) 1 10000) True σ σ (nI (q_rev σ (plN (nI fn) (nI en)) (cl (nI T)) (s_now σ / cl (nI T) + 1))) r u) (fun u t => va_P dD vwCl (mW cI m0 a u.1 u.2) t.heap) A) (([.ref m0, .int (nI fn), .int (nI en), .int (nI T)] : List Value).toArray) s 0 0 A) (F0 m 34 ls []) := by
        intro d
        induction d with
        | zero =>
          intro j hr1 hr2 ls hl
          exact absurd hr2 (by omega)
        | succ d ih =>
          intro j hr1 hr2 ls hl
          refine lv_iload hx hb dX3_revised_34 (lv_at hl 5 rfl) ?_
          refine lv_aload_n hx hb dX3_revised_36 rfl (lv_at hl 0 rfl) ?_
          refine va_get (D := dD) (ci := 3) (v := .int (nI (s_now σ))) (C := RX3) (T := TX3) (N := 14) hx hb hts hinX3 hown hK hP 0 rfl rfl 1 (by decide) (hts (.fieldLink RX3 49 "FeatureStoreModel" "now" "I") (by decide +kernel)) (fun _ h9 => h9) rfl dX3_revised_37 ?_
          refine nv_gt (tgt := 100) hx hb dX3_revised_40 (by decide) (by omega) (by omega) (fun c_40 => ?_) (fun c_40 => ?_)
          · refine lv_iload hx hb dX3_revised_100 (lv_at hl 4 rfl) ?_
            exact W.iret (v := nI (q_rev σ (10 * fn + en) T j)) hx hb hr (fun u9 hu9 hW => ⟨⟨nI (q_rev σ (10 * fn + en) T j), (0, σ), rfl, Or.inl ⟨⟨hr_3, hr_14⟩, trivial, rfl, by rw [plN, cl_nI (by omega), cl_nI (by omega), cl_nI (by omega), ← rev_j hr1 c_40]⟩, by have h9 := hP; rw [← hu9] at h9; exact h9⟩, hS.F hu9⟩) hS.2.2 dX3_revised_102
          · refine lv_aload_n hx hb dX3_revised_43 rfl (lv_at hl 0 rfl) ?_
            refine va_get (D := dD) (ci := 3) (v := .int (nI 0)) (C := RX3) (T := TX3) (N := 14) hx hb hts hinX3 hown hK hP 0 rfl rfl 0 (by decide) (hts (.fieldLink RX3 37 "FeatureStoreModel" "thrown" "I") (by decide +kernel)) (fun _ h9 => h9) rfl dX3_revised_44 ?_
            refine nv_if_ne (tgt := 100) hx hb dX3_revised_47 (by decide) (by decide) (fun c_47 => absurd c_47 (by decide)) (fun c_47 => ?_)
            have hz_j1 := q_join_le σ (10 * fn + en) (j * T) (s_now σ)
            have hz_j2 := q_join_le σ (10 * fn + en) (j * T) (j * T)
            refine lv_iload hx hb dX3_revised_50 (lv_at hl 4 rfl) ?_
            refine lv_aload_n hx hb dX3_revised_52 rfl (lv_at hl 0 rfl) ?_
            refine lv_iload_n hx hb dX3_revised_53 rfl (lv_at hl 1 rfl) ?_
            refine lv_iload_n hx hb dX3_revised_54 rfl (lv_at hl 2 rfl) ?_
            refine vp_callSi (va_Run.run (va_runS (As := [.int (nI fn), .int (nI en)]) (rest := [.ref m0, .int (nI (q_rev σ (10 * fn + en) T j))]) ⟨hx, hb, hml, hown, hts⟩ (c_X3_pairOf l dD cI cR cS lo fn en) (va_cwS 2 hts gX3_revised_X3_pairOf rfl rfl rfl (by decide +kernel) ⟨Nat.le_of_ble_eq_true rfl, Nat.le_of_ble_eq_true rfl⟩) (ePreS hE (hS.mono hAlo) trivial) rfl rfl hl.1 rfl (lv_room (Nat.le_of_ble_eq_true rfl)) dX3_revised_55 ⟨Nat.le_of_ble_eq_true rfl, Nat.le_of_ble_eq_true rfl⟩)) (fun r_55 hr_55 => ?_)
            subst hr_55
            refine lv_iload hx hb dX3_revised_58 (lv_at hl 5 rfl) ?_
            refine lv_aload_n hx hb dX3_revised_60 rfl (lv_at hl 0 rfl) ?_
            refine va_get (D := dD) (ci := 3) (v := .int (nI (s_now σ))) (C := RX3) (T := TX3) (N := 14) hx hb hts hinX3 hown hK hP 0 rfl rfl 1 (by decide) (hts (.fieldLink RX3 49 "FeatureStoreModel" "now" "I") (by decide +kernel)) (fun _ h9 => h9) rfl dX3_revised_61 ?_
            refine vp_callSi (va_Run.run (va_runV (As := [.int (nI (10 * fn + en)), .int (nI (j * T)), .int (nI (s_now σ))]) (rest := [.int (nI (q_rev σ (10 * fn + en) T j))]) ⟨hx, hb, hml, hown, hts⟩ (c_X3_joins l dD cI cR cS lo m0 a 0 σ hI (10 * fn + en) (j * T) (s_now σ) (by omega) (by omega) (by omega)) (cwV 3 hts gX3_revised_X3_joins rfl rfl rfl (by decide +kernel) ⟨Nat.le_of_ble_eq_true rfl, Nat.le_of_ble_eq_true rfl⟩) (ePreV hE (hS.mono hAlo) hP (k := 0) rfl rfl hP) rfl rfl hl.1 rfl (lv_room (Nat.le_of_ble_eq_true rfl)) dX3_revised_64 ⟨Nat.le_of_ble_eq_true rfl, Nat.le_of_ble_eq_true rfl⟩)) (fun r_64 hr_64 => ?_)
            subst hr_64
            refine lv_aload_n hx hb dX3_revised_67 rfl (lv_at hl 0 rfl) ?_
            refine lv_iload_n hx hb dX3_revised_68 rfl (lv_at hl 1 rfl) ?_
            refine lv_iload_n hx hb dX3_revised_69 rfl (lv_at hl 2 rfl) ?_
            refine vp_callSi (va_Run.run (va_runS (As := [.int (nI fn), .int (nI en)]) (rest := [.ref m0, .int (eN (q_join σ (10 * fn + en) (j * T) (s_now σ))), .int (nI (q_rev σ (10 * fn + en) T j))]) ⟨hx, hb, hml, hown, hts⟩ (c_X3_pairOf l dD cI cR cS lo fn en) (va_cwS 2 hts gX3_revised_X3_pairOf rfl rfl rfl (by decide +kernel) ⟨Nat.le_of_ble_eq_true rfl, Nat.le_of_ble_eq_true rfl⟩) (ePreS hE (hS.mono hAlo) trivial) rfl rfl hl.1 rfl (lv_room (Nat.le_of_ble_eq_true rfl)) dX3_revised_70 ⟨Nat.le_of_ble_eq_true rfl, Nat.le_of_ble_eq_true rfl⟩)) (fun r_70 hr_70 => ?_)
            subst hr_70
            refine lv_iload hx hb dX3_revised_73 (lv_at hl 5 rfl) ?_
            refine lv_iload hx hb dX3_revised_75 (lv_at hl 5 rfl) ?_
            refine vp_callSi (va_Run.run (va_runV (As := [.int (nI (10 * fn + en)), .int (nI (j * T)), .int (nI (j * T))]) (rest := [.int (eN (q_join σ (10 * fn + en) (j * T) (s_now σ))), .int (nI (q_rev σ (10 * fn + en) T j))]) ⟨hx, hb, hml, hown, hts⟩ (c_X3_joins l dD cI cR cS lo m0 a 0 σ hI (10 * fn + en) (j * T) (j * T) (by omega) (by omega) (by omega)) (cwV 3 hts gX3_revised_X3_joins rfl rfl rfl (by decide +kernel) ⟨Nat.le_of_ble_eq_true rfl, Nat.le_of_ble_eq_true rfl⟩) (ePreV hE (hS.mono hAlo) hP (k := 0) rfl rfl hP) rfl rfl hl.1 rfl (lv_room (Nat.le_of_ble_eq_true rfl)) dX3_revised_77 ⟨Nat.le_of_ble_eq_true rfl, Nat.le_of_ble_eq_true rfl⟩)) (fun r_77 hr_77 => ?_)
            subst hr_77
            refine nv_eqN (tgt := 87) hx hb dX3_revised_80 (by decide) (by omega) (by omega) (fun c_80 => ?_) (fun c_80 => ?_)
            · refine lv_iconst (v := nI 0) hx hb dX3_revised_87 (by decide +kernel) ?_
              refine nv_iadd hx hb dX3_revised_88 ?_
              refine lv_istore (lv' := [(4, .int (nI ((q_rev σ (10 * fn + en) T j) + 0))), (0, .ref m0), (1, .int (nI fn)), (2, .int (nI en)), (3, .int (nI T)), (5, .int (nI (j * T)))]) hx hb dX3_revised_89 hl (by decide) rfl (fun ls hl => ?_)
              refine lv_iload hx hb dX3_revised_91 (lv_at hl 5 rfl) ?_
              refine lv_iload_n hx hb dX3_revised_93 rfl (lv_at hl 4 rfl) ?_
              refine nv_iadd hx hb dX3_revised_94 ?_
              refine lv_istore (lv' := [(5, .int (nI ((j * T) + T))), (4, .int (nI ((q_rev σ (10 * fn + en) T j) + 0))), (0, .ref m0), (1, .int (nI fn)), (2, .int (nI en)), (3, .int (nI T))]) hx hb dX3_revised_95 hl (by decide) rfl (fun ls hl => ?_)
              refine lv_goto (tgt := 34) hx hb dX3_revised_97 (by decide) ?_
              exact ih (j + 1) (by rw [Nat.succ_mul]; omega) (by rw [Nat.succ_mul]; omega) ls (by rw [Nat.succ_mul j T, show q_rev σ (10 * fn + en) T (j + 1) = (q_rev σ (10 * fn + en) T j) + 0 from by simp only [q_rev]; rw [if_pos c_80]]; exact lv_sub hl [2, 3, 4, 5, 1, 0] rfl)
            · refine lv_iconst (v := nI 1) hx hb dX3_revised_83 (by decide +kernel) ?_
              refine lv_goto (tgt := 88) hx hb dX3_revised_84 (by decide) ?_
              refine nv_iadd hx hb dX3_revised_88 ?_
              refine lv_istore (lv' := [(4, .int (nI ((q_rev σ (10 * fn + en) T j) + 1))), (0, .ref m0), (1, .int (nI fn)), (2, .int (nI en)), (3, .int (nI T)), (5, .int (nI (j * T)))]) hx hb dX3_revised_89 hl (by decide) rfl (fun ls hl => ?_)
              refine lv_iload hx hb dX3_revised_91 (lv_at hl 5 rfl) ?_
              refine lv_iload_n hx hb dX3_revised_93 rfl (lv_at hl 4 rfl) ?_
              refine nv_iadd hx hb dX3_revised_94 ?_
              refine lv_istore (lv' := [(5, .int (nI ((j * T) + T))), (4, .int (nI ((q_rev σ (10 * fn + en) T j) + 1))), (0, .ref m0), (1, .int (nI fn)), (2, .int (nI en)), (3, .int (nI T))]) hx hb dX3_revised_95 hl (by decide) rfl (fun ls hl => ?_)
              refine lv_goto (tgt := 34) hx hb dX3_revised_97 (by decide) ?_
              exact ih (j + 1) (by rw [Nat.succ_mul]; omega) (by rw [Nat.succ_mul]; omega) ls (by rw [Nat.succ_mul j T, show q_rev σ (10 * fn + en) T (j + 1) = (q_rev σ (10 * fn + en) T j) + 1 from by simp only [q_rev]; rw [if_neg c_80]]; exact lv_sub hl [2, 3, 4, 5, 1, 0] rfl)
      exact hlp (s_now σ + T + 1) 0 (by omega) (by omega) ls (by rw [show 0 * T = 0 from Nat.zero_mul T]; exact lv_sub hl [2, 3, 4, 5, 1, 0] rfl)
    · refine nv_if_eq (tgt := 24) hx hb dX3_revised_17 (by decide) (by decide) (fun c_17 => ?_) (fun c_17 => absurd c_17 (by decide))
      refine lv_iconst (v := nI 1) hx hb dX3_revised_24 (by decide +kernel) ?_
      refine va_put (D := dD) (ci := 3) (v := .int (nI 1)) (ty := .int) (C := RX3) (T := TX3) (N := 14) hx hb hts hinX3 tyX3 tyX3_ok nmX3 hown hK hP hD hS 0 rfl rfl 0 (by decide) (hts (.fieldLink RX3 37 "FeatureStoreModel" "thrown" "I") (by decide +kernel)) (fun _ h9 => h9) rfl (by decide +kernel) rfl rfl (Nat.le_of_ble_eq_true rfl) dX3_revised_25 (fun H locs hP hD hS => ?_)
      have hP : va_P dD vwCl [(m0, .inr (3, [.int (nI 1), .int (nI (s_now σ)), .ref (a 0), .int (nI (s_n σ)), .ref (a 1), .ref (a 2), .ref (a 3), .ref (a 4), .int (nI (s_tk σ)), .ref (a 5), .int (nI (s_k σ)), .ref (a 6), .ref (a 7), .ref (a 8)])), (a 0, .inl (cI, 6, .inl (fun j => nI (s_lt σ j)))), (a 1, .inl (cI, 200, .inl (fun j => nI (s_pr σ j)))), (a 2, .inl (cI, 200, .inl (fun j => nI (s_ev σ j)))), (a 3, .inl (cI, 200, .inl (fun j => nI (s_ar σ j)))), (a 4, .inl (cI, 200, .inl (fun j => nI (s_vl σ j)))), (a 5, .inl (cI, 60, .inl (fun j => nI (s_cp σ j)))), (a 6, .inl (cI, 200, .inl (fun j => nI (s_sp σ j)))), (a 7, .inl (cI, 200, .inl (fun j => nI (s_sa σ j)))), (a 8, .inl (cI, 200, .inl (fun j => eN (s_sv σ j))))] H := hP
      have hD : va_D A [(m0, .inr (3, [.int (nI 1), .int (nI (s_now σ)), .ref (a 0), .int (nI (s_n σ)), .ref (a 1), .ref (a 2), .ref (a 3), .ref (a 4), .int (nI (s_tk σ)), .ref (a 5), .int (nI (s_k σ)), .ref (a 6), .ref (a 7), .ref (a 8)])), (a 0, .inl (cI, 6, .inl (fun j => nI (s_lt σ j)))), (a 1, .inl (cI, 200, .inl (fun j => nI (s_pr σ j)))), (a 2, .inl (cI, 200, .inl (fun j => nI (s_ev σ j)))), (a 3, .inl (cI, 200, .inl (fun j => nI (s_ar σ j)))), (a 4, .inl (cI, 200, .inl (fun j => nI (s_vl σ j)))), (a 5, .inl (cI, 60, .inl (fun j => nI (s_cp σ j)))), (a 6, .inl (cI, 200, .inl (fun j => nI (s_sp σ j)))), (a 7, .inl (cI, 200, .inl (fun j => nI (s_sa σ j)))), (a 8, .inl (cI, 200, .inl (fun j => eN (s_sv σ j))))] := hD
      refine lv_iconst (v := nI 0) hx hb dX3_revised_28 (by decide +kernel) ?_
      refine lv_istore (lv' := [(4, .int (nI 0)), (0, .ref m0), (1, .int f), (2, .int e), (3, .int x)]) hx hb dX3_revised_29 hl (by decide) rfl (fun ls hl => ?_)
      refine lv_iconst (v := nI 0) hx hb dX3_revised_31 (by decide +kernel) ?_
      refine lv_istore (lv' := [(5, .int (nI 0)), (4, .int (nI 0)), (0, .ref m0), (1, .int f), (2, .int e), (3, .int x)]) hx hb dX3_revised_32 hl (by decide) rfl (fun ls hl => ?_)
      refine lv_iload hx hb dX3_revised_34 (lv_at hl 0 rfl) ?_
      refine lv_aload_n hx hb dX3_revised_36 rfl (lv_at hl 2 rfl) ?_
      refine va_get (D := dD) (ci := 3) (v := .int (nI (s_now σ))) (C := RX3) (T := TX3) (N := 14) hx hb hts hinX3 hown hK hP 0 rfl rfl 1 (by decide) (hts (.fieldLink RX3 49 "FeatureStoreModel" "now" "I") (by decide +kernel)) (fun _ h9 => h9) rfl dX3_revised_37 ?_
      refine nv_gt (tgt := 100) hx hb dX3_revised_40 (by decide) (by omega) (by omega) (fun c_40 => absurd c_40 (by omega)) (fun c_40 => ?_)
      refine lv_aload_n hx hb dX3_revised_43 rfl (lv_at hl 2 rfl) ?_
      refine va_get (D := dD) (ci := 3) (v := .int (nI 1)) (C := RX3) (T := TX3) (N := 14) hx hb hts hinX3 hown hK hP 0 rfl rfl 0 (by decide) (hts (.fieldLink RX3 37 "FeatureStoreModel" "thrown" "I") (by decide +kernel)) (fun _ h9 => h9) rfl dX3_revised_44 ?_
      refine nv_if_ne (tgt := 100) hx hb dX3_revised_47 (by decide) (by decide) (fun c_47 => ?_) (fun c_47 => absurd c_47 (by decide))
      refine lv_iload hx hb dX3_revised_100 (lv_at hl 1 rfl) ?_
      exact W.iret (v := nI 0) hx hb hr (fun u9 hu9 hW => ⟨⟨nI 0, (1, σ), rfl, Or.inr (Or.inl ⟨fun h => hr_14 h.2, rfl⟩), by have h9 := hP; rw [← hu9] at h9; exact h9⟩, hS.F hu9⟩) hS.2.2 dX3_revised_102
  · refine nv_if_eq (tgt := 24) hx hb dX3_revised_6 (by decide) (by decide) (fun c_6 => ?_) (fun c_6 => absurd c_6 (by decide))
    refine lv_iconst (v := nI 1) hx hb dX3_revised_24 (by decide +kernel) ?_
    refine va_put (D := dD) (ci := 3) (v := .int (nI 1)) (ty := .int) (C := RX3) (T := TX3) (N := 14) hx hb hts hinX3 tyX3 tyX3_ok nmX3 hown hK hP hD hS 0 rfl rfl 0 (by decide) (hts (.fieldLink RX3 37 "FeatureStoreModel" "thrown" "I") (by decide +kernel)) (fun _ h9 => h9) rfl (by decide +kernel) rfl rfl (Nat.le_of_ble_eq_true rfl) dX3_revised_25 (fun H locs hP hD hS => ?_)
    have hP : va_P dD vwCl [(m0, .inr (3, [.int (nI 1), .int (nI (s_now σ)), .ref (a 0), .int (nI (s_n σ)), .ref (a 1), .ref (a 2), .ref (a 3), .ref (a 4), .int (nI (s_tk σ)), .ref (a 5), .int (nI (s_k σ)), .ref (a 6), .ref (a 7), .ref (a 8)])), (a 0, .inl (cI, 6, .inl (fun j => nI (s_lt σ j)))), (a 1, .inl (cI, 200, .inl (fun j => nI (s_pr σ j)))), (a 2, .inl (cI, 200, .inl (fun j => nI (s_ev σ j)))), (a 3, .inl (cI, 200, .inl (fun j => nI (s_ar σ j)))), (a 4, .inl (cI, 200, .inl (fun j => nI (s_vl σ j)))), (a 5, .inl (cI, 60, .inl (fun j => nI (s_cp σ j)))), (a 6, .inl (cI, 200, .inl (fun j => nI (s_sp σ j)))), (a 7, .inl (cI, 200, .inl (fun j => nI (s_sa σ j)))), (a 8, .inl (cI, 200, .inl (fun j => eN (s_sv σ j))))] H := hP
    have hD : va_D A [(m0, .inr (3, [.int (nI 1), .int (nI (s_now σ)), .ref (a 0), .int (nI (s_n σ)), .ref (a 1), .ref (a 2), .ref (a 3), .ref (a 4), .int (nI (s_tk σ)), .ref (a 5), .int (nI (s_k σ)), .ref (a 6), .ref (a 7), .ref (a 8)])), (a 0, .inl (cI, 6, .inl (fun j => nI (s_lt σ j)))), (a 1, .inl (cI, 200, .inl (fun j => nI (s_pr σ j)))), (a 2, .inl (cI, 200, .inl (fun j => nI (s_ev σ j)))), (a 3, .inl (cI, 200, .inl (fun j => nI (s_ar σ j)))), (a 4, .inl (cI, 200, .inl (fun j => nI (s_vl σ j)))), (a 5, .inl (cI, 60, .inl (fun j => nI (s_cp σ j)))), (a 6, .inl (cI, 200, .inl (fun j => nI (s_sp σ j)))), (a 7, .inl (cI, 200, .inl (fun j => nI (s_sa σ j)))), (a 8, .inl (cI, 200, .inl (fun j => eN (s_sv σ j))))] := hD
    refine lv_iconst (v := nI 0) hx hb dX3_revised_28 (by decide +kernel) ?_
    refine lv_istore (lv' := [(4, .int (nI 0)), (0, .ref m0), (1, .int f), (2, .int e), (3, .int x)]) hx hb dX3_revised_29 hl (by decide) rfl (fun ls hl => ?_)
    refine lv_iconst (v := nI 0) hx hb dX3_revised_31 (by decide +kernel) ?_
    refine lv_istore (lv' := [(5, .int (nI 0)), (4, .int (nI 0)), (0, .ref m0), (1, .int f), (2, .int e), (3, .int x)]) hx hb dX3_revised_32 hl (by decide) rfl (fun ls hl => ?_)
    refine lv_iload hx hb dX3_revised_34 (lv_at hl 0 rfl) ?_
    refine lv_aload_n hx hb dX3_revised_36 rfl (lv_at hl 2 rfl) ?_
    refine va_get (D := dD) (ci := 3) (v := .int (nI (s_now σ))) (C := RX3) (T := TX3) (N := 14) hx hb hts hinX3 hown hK hP 0 rfl rfl 1 (by decide) (hts (.fieldLink RX3 49 "FeatureStoreModel" "now" "I") (by decide +kernel)) (fun _ h9 => h9) rfl dX3_revised_37 ?_
    refine nv_gt (tgt := 100) hx hb dX3_revised_40 (by decide) (by omega) (by omega) (fun c_40 => absurd c_40 (by omega)) (fun c_40 => ?_)
    refine lv_aload_n hx hb dX3_revised_43 rfl (lv_at hl 2 rfl) ?_
    refine va_get (D := dD) (ci := 3) (v := .int (nI 1)) (C := RX3) (T := TX3) (N := 14) hx hb hts hinX3 hown hK hP 0 rfl rfl 0 (by decide) (hts (.fieldLink RX3 37 "FeatureStoreModel" "thrown" "I") (by decide +kernel)) (fun _ h9 => h9) rfl dX3_revised_44 ?_
    refine nv_if_ne (tgt := 100) hx hb dX3_revised_47 (by decide) (by decide) (fun c_47 => ?_) (fun c_47 => absurd c_47 (by decide))
    refine lv_iload hx hb dX3_revised_100 (lv_at hl 1 rfl) ?_
    exact W.iret (v := nI 0) hx hb hr (fun u9 hu9 hW => ⟨⟨nI 0, (1, σ), rfl, Or.inr (Or.inl ⟨fun h => hr_3 h.1, rfl⟩), by have h9 := hP; rw [← hu9] at h9; exact h9⟩, hS.F hu9⟩) hS.2.2 dX3_revised_102

set_option maxHeartbeats 4000000 in
set_option maxRecDepth 100000 in
theorem c_X3_skew (l : Launch) (dD : va_G) (cI cR cS : ClassId) (lo : Nat) (sz : Nat) (hlo : lo ≤ sz) (m0 : Nat) (a : Nat → Nat) (th : Nat) (σ : St) (hI : sI σ)  : Met l yX3_skew wsX3_skew ({ frames := 2, cells := 0, slots := 0, locals := 49 }) (ePc dD cI cR cS lo [.ref m0] (fun H => H.size = sz ∧ va_P dD vwCl (mW cI m0 a th σ) H ∧ va_D (fun q => lo ≤ q) (mW cI m0 a th σ))) (va_Qi (fun (r : Int32) (u : Nat × St) => u = (0, σ) ∧ r = nI (q_skew σ 60)) (fun u t => va_P dD vwCl (mW cI m0 a u.1 u.2) t.heap) (va_A (mW cI m0 a th σ) sz)) 0 0 (va_A (mW cI m0 a th σ) sz) := by
  refine Met.ofW (cc := cX3_skew) (maxL := 3) (ret := (some .int)) (by decide) rfl ?_
  intro p e_ s m args below meth c s₁ B hml hv
  obtain ⟨rfl, hE, hsz, hP, hD0⟩ := hv
  have hx := B.exec
  have hb := B.bytes
  have hr := B.returns
  have hts := atoms_spec (ws := wsX3_skew) B.pre
  have hown : s.vm.findClass RX3 = some m.cls := findClass_of_methodNamed B.named
  have hlocks := B.notSynchronized
  have hK := hE.1.1
  have hinX3 : ∀ w ∈ u_ws RX3 TX3 14, w ∈ wsX3_skew := by decide +kernel
  subst hsz
  have hD := hD0.self (sz := s.heap.size)
  have hAlo : ∀ q, va_A (mW cI m0 a th σ) s.heap.size q → lo ≤ q := eA_lo hD0 hlo
  generalize hAe : va_A (mW cI m0 a th σ) s.heap.size = A at hD hAlo ⊢
  have hA : ∀ q : Nat, s.heap.size ≤ q → A q := fun q h => by rw [← hAe]; exact Or.inr h
  have hS : va_S A s.heap s.heap [] := va_S.rf
  have hP : va_P dD vwCl (mW cI m0 a th σ) s.heap := hP
  obtain ⟨i_now, i_n, i_tk, i_k, i_lt, i_row, i_cp, i_srv⟩ := id hI
  have hl := lv_entry ([.ref m0]) (n := 3) (Nat.le_of_ble_eq_true rfl)
  rw [lg_entry_eq]
  generalize (lg_sl ([.ref m0]) ++ List.replicate (3 - (lg_sl ([.ref m0])).length) Slot.unset).toArray = ls at hl ⊢
  have hl : lv_has ls 3 [(0, .ref m0)] := hl
  refine lv_aload_n hx hb dX3_skew_0 rfl (lv_at hl 0 rfl) ?_
  refine lv_iconst (v := nI 0) hx hb dX3_skew_1 (by decide +kernel) ?_
  refine va_put (D := dD) (ci := 3) (v := .int (nI 0)) (ty := .int) (C := RX3) (T := TX3) (N := 14) hx hb hts hinX3 tyX3 tyX3_ok nmX3 hown hK hP hD hS 0 rfl rfl 0 (by decide) (hts (.fieldLink RX3 37 "FeatureStoreModel" "thrown" "I") (by decide +kernel)) (fun _ h9 => h9) rfl (by decide +kernel) rfl rfl (Nat.le_of_ble_eq_true rfl) dX3_skew_2 (fun H locs hP hD hS => ?_)
  have hP : va_P dD vwCl [(m0, .inr (3, [.int (nI 0), .int (nI (s_now σ)), .ref (a 0), .int (nI (s_n σ)), .ref (a 1), .ref (a 2), .ref (a 3), .ref (a 4), .int (nI (s_tk σ)), .ref (a 5), .int (nI (s_k σ)), .ref (a 6), .ref (a 7), .ref (a 8)])), (a 0, .inl (cI, 6, .inl (fun j => nI (s_lt σ j)))), (a 1, .inl (cI, 200, .inl (fun j => nI (s_pr σ j)))), (a 2, .inl (cI, 200, .inl (fun j => nI (s_ev σ j)))), (a 3, .inl (cI, 200, .inl (fun j => nI (s_ar σ j)))), (a 4, .inl (cI, 200, .inl (fun j => nI (s_vl σ j)))), (a 5, .inl (cI, 60, .inl (fun j => nI (s_cp σ j)))), (a 6, .inl (cI, 200, .inl (fun j => nI (s_sp σ j)))), (a 7, .inl (cI, 200, .inl (fun j => nI (s_sa σ j)))), (a 8, .inl (cI, 200, .inl (fun j => eN (s_sv σ j))))] H := hP
  have hD : va_D A [(m0, .inr (3, [.int (nI 0), .int (nI (s_now σ)), .ref (a 0), .int (nI (s_n σ)), .ref (a 1), .ref (a 2), .ref (a 3), .ref (a 4), .int (nI (s_tk σ)), .ref (a 5), .int (nI (s_k σ)), .ref (a 6), .ref (a 7), .ref (a 8)])), (a 0, .inl (cI, 6, .inl (fun j => nI (s_lt σ j)))), (a 1, .inl (cI, 200, .inl (fun j => nI (s_pr σ j)))), (a 2, .inl (cI, 200, .inl (fun j => nI (s_ev σ j)))), (a 3, .inl (cI, 200, .inl (fun j => nI (s_ar σ j)))), (a 4, .inl (cI, 200, .inl (fun j => nI (s_vl σ j)))), (a 5, .inl (cI, 60, .inl (fun j => nI (s_cp σ j)))), (a 6, .inl (cI, 200, .inl (fun j => nI (s_sp σ j)))), (a 7, .inl (cI, 200, .inl (fun j => nI (s_sa σ j)))), (a 8, .inl (cI, 200, .inl (fun j => eN (s_sv σ j))))] := hD
  refine lv_iconst (v := nI 0) hx hb dX3_skew_5 (by decide +kernel) ?_
  refine lv_istore_n (lv' := [(1, .int (nI 0)), (0, .ref m0)]) hx hb dX3_skew_6 rfl hl (by decide) rfl (fun ls hl => ?_)
  refine lv_iconst (v := nI 0) hx hb dX3_skew_7 (by decide +kernel) ?_
  refine lv_istore_n (lv' := [(2, .int (nI 0)), (1, .int (nI 0)), (0, .ref m0)]) hx hb dX3_skew_8 rfl hl (by decide) rfl (fun ls hl => ?_)
  have hlp : ∀ (d : Nat) (q : Nat), q ≤ 60 → 60 < q + d → ∀ (ls : Array Slot), lv_has ls 3 [(0, .ref m0), (1, .int (nI (q_skew σ q))), (2, .int (nI q))] → W p l e_ (headSpec wsX3_skew ({ frames := 2, cells := 0, slots := 0, locals := 49 })).room s m (([.ref m0] : List Value).toArray) below meth c H locs 0 0 (MQ below (va_Qi (fun (r : Int32) (u : Nat × St) => u = (0, σ) ∧ r = nI (q_skew σ 60)) (fun u t => va_P dD vwCl (mW cI m0 a u.1 u.2) t.heap) A) (([.ref m0] : List Value).toArray) s 0 0 A) (F0 m 9 ls []) := by
    intro d
    induction d with
    | zero =>
      intro q hr1 hr2 ls hl
      exact absurd hr2 (by omega)
    | succ d ih =>
      intro q hr1 hr2 ls hl
      refine lv_iload_n hx hb dX3_skew_9 rfl (lv_at hl 2 rfl) ?_
      refine lv_bipush (v := nI 60) hx hb dX3_skew_10 (by decide +kernel) ?_
      refine nv_ge (tgt := 61) hx hb dX3_skew_12 (by decide) (by omega) (by omega) (fun c_12 => ?_) (fun c_12 => ?_)
      · have hre : q = 60 := by omega
        subst hre
        have hl : lv_has ls 3 [(1, .int (nI (q_skew σ 60)))] := lv_sub hl [1] rfl
        refine lv_iload_n hx hb dX3_skew_61 rfl (lv_at hl 0 rfl) ?_
        exact W.iret (v := nI (q_skew σ 60)) hx hb hr (fun u9 hu9 hW => ⟨⟨nI (q_skew σ 60), (0, σ), rfl, ⟨rfl, rfl⟩, by have h9 := hP; rw [← hu9] at h9; exact h9⟩, hS.F hu9⟩) hS.2.2 dX3_skew_62
      · have hz_q : q < 60 := by omega
        obtain ⟨hz_1, hz_2⟩ := i_cp q hz_q
        have hz_3 := q_join_le σ q (s_now σ) (s_now σ)
        have hz_4 : q_fr σ (s_cp σ q) (s_now σ) ≤ s_n σ := q_fr_le (by omega)
        refine lv_iload_n hx hb dX3_skew_15 rfl (lv_at hl 1 rfl) ?_
        refine lv_aload_n hx hb dX3_skew_16 rfl (lv_at hl 0 rfl) ?_
        refine lv_aload_n hx hb dX3_skew_17 rfl (lv_at hl 0 rfl) ?_
        refine va_get (D := dD) (ci := 3) (v := .ref (a 5)) (C := RX3) (T := TX3) (N := 14) hx hb hts hinX3 hown hK hP 0 rfl rfl 9 (by decide) (hts (.fieldLink RX3 25 "FeatureStoreModel" "copy" "[I") (by decide +kernel)) (fun _ h9 => h9) rfl dX3_skew_18 ?_
        refine lv_iload_n hx hb dX3_skew_21 rfl (lv_at hl 2 rfl) ?_
        refine nv_iald (q0 := 6) (t0 := 0) (s_cp σ) hx hb hK hP rfl rfl (by omega) (by decide) dX3_skew_22 ?_
        refine lv_iconst (v := nI 1) hx hb dX3_skew_23 (by decide +kernel) ?_
        refine nv_isubN hx hb dX3_skew_24 ?_
        refine lv_aload_n hx hb dX3_skew_25 rfl (lv_at hl 0 rfl) ?_
        refine va_get (D := dD) (ci := 3) (v := .int (nI (s_now σ))) (C := RX3) (T := TX3) (N := 14) hx hb hts hinX3 hown hK hP 0 rfl rfl 1 (by decide) (hts (.fieldLink RX3 49 "FeatureStoreModel" "now" "I") (by decide +kernel)) (fun _ h9 => h9) rfl dX3_skew_26 ?_
        refine vp_callSi (va_Run.run (va_runV (As := [.int (eN (s_cp σ q)), .int (nI (s_now σ))]) (rest := [.int (nI (q_skew σ q))]) ⟨hx, hb, hml, hown, hts⟩ (c_X3_fresh l dD cI cR cS lo m0 a 0 σ hI (s_cp σ q) (s_now σ) (by omega) (by omega)) (cwV 2 hts gX3_skew_X3_fresh rfl rfl rfl (by decide +kernel) ⟨Nat.le_of_ble_eq_true rfl, Nat.le_of_ble_eq_true rfl⟩) (ePreV hE (hS.mono hAlo) hP (k := 0) rfl rfl hP) rfl rfl hl.1 rfl (lv_room (Nat.le_of_ble_eq_true rfl)) dX3_skew_29 ⟨Nat.le_of_ble_eq_true rfl, Nat.le_of_ble_eq_true rfl⟩)) (fun r_29 hr_29 => ?_)
        subst hr_29
        refine lv_aload_n hx hb dX3_skew_32 rfl (lv_at hl 0 rfl) ?_
        refine lv_iload_n hx hb dX3_skew_33 rfl (lv_at hl 2 rfl) ?_
        refine lv_aload_n hx hb dX3_skew_34 rfl (lv_at hl 0 rfl) ?_
        refine va_get (D := dD) (ci := 3) (v := .int (nI (s_now σ))) (C := RX3) (T := TX3) (N := 14) hx hb hts hinX3 hown hK hP 0 rfl rfl 1 (by decide) (hts (.fieldLink RX3 49 "FeatureStoreModel" "now" "I") (by decide +kernel)) (fun _ h9 => h9) rfl dX3_skew_35 ?_
        refine lv_aload_n hx hb dX3_skew_38 rfl (lv_at hl 0 rfl) ?_
        refine va_get (D := dD) (ci := 3) (v := .int (nI (s_now σ))) (C := RX3) (T := TX3) (N := 14) hx hb hts hinX3 hown hK hP 0 rfl rfl 1 (by decide) (hts (.fieldLink RX3 49 "FeatureStoreModel" "now" "I") (by decide +kernel)) (fun _ h9 => h9) rfl dX3_skew_39 ?_
        refine vp_callSi (va_Run.run (va_runV (As := [.int (nI q), .int (nI (s_now σ)), .int (nI (s_now σ))]) (rest := [.int (eN (q_fr σ (s_cp σ q) (s_now σ))), .int (nI (q_skew σ q))]) ⟨hx, hb, hml, hown, hts⟩ (c_X3_joins l dD cI cR cS lo m0 a 0 σ hI (q) (s_now σ) (s_now σ) (by omega) (by omega) (by omega)) (cwV 3 hts gX3_skew_X3_joins rfl rfl rfl (by decide +kernel) ⟨Nat.le_of_ble_eq_true rfl, Nat.le_of_ble_eq_true rfl⟩) (ePreV hE (hS.mono hAlo) hP (k := 0) rfl rfl hP) rfl rfl hl.1 rfl (lv_room (Nat.le_of_ble_eq_true rfl)) dX3_skew_42 ⟨Nat.le_of_ble_eq_true rfl, Nat.le_of_ble_eq_true rfl⟩)) (fun r_42 hr_42 => ?_)
        subst hr_42
        refine nv_eqN (tgt := 52) hx hb dX3_skew_45 (by decide) (by omega) (by omega) (fun c_45 => ?_) (fun c_45 => ?_)
        · refine lv_iconst (v := nI 0) hx hb dX3_skew_52 (by decide +kernel) ?_
          refine nv_iadd hx hb dX3_skew_53 ?_
          refine lv_istore_n (lv' := [(1, .int (nI ((q_skew σ q) + 0))), (0, .ref m0), (2, .int (nI q))]) hx hb dX3_skew_54 rfl hl (by decide) rfl (fun ls hl => ?_)
          refine lv_iinc (v := nI (q + 1)) (lv' := [(2, .int (nI (q + 1))), (1, .int (nI ((q_skew σ q) + 0))), (0, .ref m0)]) hx hb dX3_skew_55 hl (k := 2) rfl (nv_inc _ 1) (by decide) rfl (fun ls hl => ?_)
          refine lv_goto (tgt := 9) hx hb dX3_skew_58 (by decide) ?_
          exact ih (q + 1) (by omega) (by omega) ls (by rw [show q_skew σ (q + 1) = (q_skew σ q) + 0 from by simp only [q_skew]; rw [if_pos c_45]]; exact lv_sub hl [2, 1, 0] rfl)
        · refine lv_iconst (v := nI 1) hx hb dX3_skew_48 (by decide +kernel) ?_
          refine lv_goto (tgt := 53) hx hb dX3_skew_49 (by decide) ?_
          refine nv_iadd hx hb dX3_skew_53 ?_
          refine lv_istore_n (lv' := [(1, .int (nI ((q_skew σ q) + 1))), (0, .ref m0), (2, .int (nI q))]) hx hb dX3_skew_54 rfl hl (by decide) rfl (fun ls hl => ?_)
          refine lv_iinc (v := nI (q + 1)) (lv' := [(2, .int (nI (q + 1))), (1, .int (nI ((q_skew σ q) + 1))), (0, .ref m0)]) hx hb dX3_skew_55 hl (k := 2) rfl (nv_inc _ 1) (by decide) rfl (fun ls hl => ?_)
          refine lv_goto (tgt := 9) hx hb dX3_skew_58 (by decide) ?_
          exact ih (q + 1) (by omega) (by omega) ls (by rw [show q_skew σ (q + 1) = (q_skew σ q) + 1 from by simp only [q_skew]; rw [if_neg c_45]]; exact lv_sub hl [2, 1, 0] rfl)
  exact hlp 61 0 (Nat.zero_le _) (by omega) ls (lv_sub hl [2, 1, 0] rfl)

set_option maxHeartbeats 4000000 in
set_option maxRecDepth 100000 in
theorem c_X3_unsound (l : Launch) (dD : va_G) (cI cR cS : ClassId) (lo : Nat) (sz : Nat) (hlo : lo ≤ sz) (m0 : Nat) (a : Nat → Nat) (th : Nat) (σ : St) (hI : sI σ)  : Met l yX3_unsound wsX3_unsound ({ frames := 3, cells := 0, slots := 0, locals := 70 }) (ePc dD cI cR cS lo [.ref m0] (fun H => H.size = sz ∧ va_P dD vwCl (mW cI m0 a th σ) H ∧ va_D (fun q => lo ≤ q) (mW cI m0 a th σ))) (va_Qi (fun (r : Int32) (u : Nat × St) => u = (0, σ) ∧ r = nI (q_uns σ (s_k σ))) (fun u t => va_P dD vwCl (mW cI m0 a u.1 u.2) t.heap) (va_A (mW cI m0 a th σ) sz)) 0 0 (va_A (mW cI m0 a th σ) sz) := by
  refine Met.ofW (cc := cX3_unsound) (maxL := 3) (ret := (some .int)) (by decide) rfl ?_
  intro p e_ s m args below meth c s₁ B hml hv
  obtain ⟨rfl, hE, hsz, hP, hD0⟩ := hv
  have hx := B.exec
  have hb := B.bytes
  have hr := B.returns
  have hts := atoms_spec (ws := wsX3_unsound) B.pre
  have hown : s.vm.findClass RX3 = some m.cls := findClass_of_methodNamed B.named
  have hlocks := B.notSynchronized
  have hK := hE.1.1
  have hinX3 : ∀ w ∈ u_ws RX3 TX3 14, w ∈ wsX3_unsound := by decide +kernel
  subst hsz
  have hD := hD0.self (sz := s.heap.size)
  have hAlo : ∀ q, va_A (mW cI m0 a th σ) s.heap.size q → lo ≤ q := eA_lo hD0 hlo
  generalize hAe : va_A (mW cI m0 a th σ) s.heap.size = A at hD hAlo ⊢
  have hA : ∀ q : Nat, s.heap.size ≤ q → A q := fun q h => by rw [← hAe]; exact Or.inr h
  have hS : va_S A s.heap s.heap [] := va_S.rf
  have hP : va_P dD vwCl (mW cI m0 a th σ) s.heap := hP
  obtain ⟨i_now, i_n, i_tk, i_k, i_lt, i_row, i_cp, i_srv⟩ := id hI
  have hl := lv_entry ([.ref m0]) (n := 3) (Nat.le_of_ble_eq_true rfl)
  rw [lg_entry_eq]
  generalize (lg_sl ([.ref m0]) ++ List.replicate (3 - (lg_sl ([.ref m0])).length) Slot.unset).toArray = ls at hl ⊢
  have hl : lv_has ls 3 [(0, .ref m0)] := hl
  refine lv_aload_n hx hb dX3_unsound_0 rfl (lv_at hl 0 rfl) ?_
  refine lv_iconst (v := nI 0) hx hb dX3_unsound_1 (by decide +kernel) ?_
  refine va_put (D := dD) (ci := 3) (v := .int (nI 0)) (ty := .int) (C := RX3) (T := TX3) (N := 14) hx hb hts hinX3 tyX3 tyX3_ok nmX3 hown hK hP hD hS 0 rfl rfl 0 (by decide) (hts (.fieldLink RX3 37 "FeatureStoreModel" "thrown" "I") (by decide +kernel)) (fun _ h9 => h9) rfl (by decide +kernel) rfl rfl (Nat.le_of_ble_eq_true rfl) dX3_unsound_2 (fun H locs hP hD hS => ?_)
  have hP : va_P dD vwCl [(m0, .inr (3, [.int (nI 0), .int (nI (s_now σ)), .ref (a 0), .int (nI (s_n σ)), .ref (a 1), .ref (a 2), .ref (a 3), .ref (a 4), .int (nI (s_tk σ)), .ref (a 5), .int (nI (s_k σ)), .ref (a 6), .ref (a 7), .ref (a 8)])), (a 0, .inl (cI, 6, .inl (fun j => nI (s_lt σ j)))), (a 1, .inl (cI, 200, .inl (fun j => nI (s_pr σ j)))), (a 2, .inl (cI, 200, .inl (fun j => nI (s_ev σ j)))), (a 3, .inl (cI, 200, .inl (fun j => nI (s_ar σ j)))), (a 4, .inl (cI, 200, .inl (fun j => nI (s_vl σ j)))), (a 5, .inl (cI, 60, .inl (fun j => nI (s_cp σ j)))), (a 6, .inl (cI, 200, .inl (fun j => nI (s_sp σ j)))), (a 7, .inl (cI, 200, .inl (fun j => nI (s_sa σ j)))), (a 8, .inl (cI, 200, .inl (fun j => eN (s_sv σ j))))] H := hP
  have hD : va_D A [(m0, .inr (3, [.int (nI 0), .int (nI (s_now σ)), .ref (a 0), .int (nI (s_n σ)), .ref (a 1), .ref (a 2), .ref (a 3), .ref (a 4), .int (nI (s_tk σ)), .ref (a 5), .int (nI (s_k σ)), .ref (a 6), .ref (a 7), .ref (a 8)])), (a 0, .inl (cI, 6, .inl (fun j => nI (s_lt σ j)))), (a 1, .inl (cI, 200, .inl (fun j => nI (s_pr σ j)))), (a 2, .inl (cI, 200, .inl (fun j => nI (s_ev σ j)))), (a 3, .inl (cI, 200, .inl (fun j => nI (s_ar σ j)))), (a 4, .inl (cI, 200, .inl (fun j => nI (s_vl σ j)))), (a 5, .inl (cI, 60, .inl (fun j => nI (s_cp σ j)))), (a 6, .inl (cI, 200, .inl (fun j => nI (s_sp σ j)))), (a 7, .inl (cI, 200, .inl (fun j => nI (s_sa σ j)))), (a 8, .inl (cI, 200, .inl (fun j => eN (s_sv σ j))))] := hD
  refine lv_iconst (v := nI 0) hx hb dX3_unsound_5 (by decide +kernel) ?_
  refine lv_istore_n (lv' := [(1, .int (nI 0)), (0, .ref m0)]) hx hb dX3_unsound_6 rfl hl (by decide) rfl (fun ls hl => ?_)
  refine lv_iconst (v := nI 0) hx hb dX3_unsound_7 (by decide +kernel) ?_
  refine lv_istore_n (lv' := [(2, .int (nI 0)), (1, .int (nI 0)), (0, .ref m0)]) hx hb dX3_unsound_8 rfl hl (by decide) rfl (fun ls hl => ?_)
  have hlp : ∀ (d : Nat) (i : Nat), i ≤ s_k σ → s_k σ < i + d → ∀ (ls : Array Slot), lv_has ls 3 [(0, .ref m0), (1, .int (nI (q_uns σ i))), (2, .int (nI i))] → W p l e_ (headSpec wsX3_unsound ({ frames := 3, cells := 0, slots := 0, locals := 70 })).room s m (([.ref m0] : List Value).toArray) below meth c H locs 0 0 (MQ below (va_Qi (fun (r : Int32) (u : Nat × St) => u = (0, σ) ∧ r = nI (q_uns σ (s_k σ))) (fun u t => va_P dD vwCl (mW cI m0 a u.1 u.2) t.heap) A) (([.ref m0] : List Value).toArray) s 0 0 A) (F0 m 9 ls []) := by
    intro d
    induction d with
    | zero =>
      intro i hr1 hr2 ls hl
      exact absurd hr2 (by omega)
    | succ d ih =>
      intro i hr1 hr2 ls hl
      refine lv_iload_n hx hb dX3_unsound_9 rfl (lv_at hl 2 rfl) ?_
      refine lv_aload_n hx hb dX3_unsound_10 rfl (lv_at hl 0 rfl) ?_
      refine va_get (D := dD) (ci := 3) (v := .int (nI (s_k σ))) (C := RX3) (T := TX3) (N := 14) hx hb hts hinX3 hown hK hP 0 rfl rfl 10 (by decide) (hts (.fieldLink RX3 83 "FeatureStoreModel" "servings" "I") (by decide +kernel)) (fun _ h9 => h9) rfl dX3_unsound_11 ?_
      refine nv_ge (tgt := 39) hx hb dX3_unsound_14 (by decide) (by omega) (by omega) (fun c_14 => ?_) (fun c_14 => ?_)
      · have hre : i = s_k σ := by omega
        subst hre
        have hl : lv_has ls 3 [(1, .int (nI (q_uns σ (s_k σ))))] := lv_sub hl [1] rfl
        refine lv_iload_n hx hb dX3_unsound_39 rfl (lv_at hl 0 rfl) ?_
        exact W.iret (v := nI (q_uns σ (s_k σ))) hx hb hr (fun u9 hu9 hW => ⟨⟨nI (q_uns σ (s_k σ)), (0, σ), rfl, ⟨rfl, rfl⟩, by have h9 := hP; rw [← hu9] at h9; exact h9⟩, hS.F hu9⟩) hS.2.2 dX3_unsound_40
      · refine lv_iload_n hx hb dX3_unsound_17 rfl (lv_at hl 1 rfl) ?_
        refine lv_aload_n hx hb dX3_unsound_18 rfl (lv_at hl 0 rfl) ?_
        refine lv_iload_n hx hb dX3_unsound_19 rfl (lv_at hl 2 rfl) ?_
        have hi_ : i < s_k σ := by omega
        refine vp_callSi (va_Run.run (va_runV (As := [.int (nI i)]) (rest := [.int (nI (q_uns σ i))]) ⟨hx, hb, hml, hown, hts⟩ (c_X3_isRight l dD cI cR cS lo m0 a 0 σ hI i hi_) (cwV 1 hts gX3_unsound_X3_isRight rfl rfl rfl (by decide +kernel) ⟨Nat.le_of_ble_eq_true rfl, Nat.le_of_ble_eq_true rfl⟩) (ePreV hE (hS.mono hAlo) hP (k := 0) rfl rfl hP) rfl rfl hl.1 rfl (lv_room (Nat.le_of_ble_eq_true rfl)) dX3_unsound_20 ⟨Nat.le_of_ble_eq_true rfl, Nat.le_of_ble_eq_true rfl⟩)) (fun r_20 hr_20 => ?_)
        rcases hr_20 with ⟨rfl, hr_20⟩ | ⟨rfl, hr_20⟩
        · refine nv_if_eq (tgt := 30) hx hb dX3_unsound_23 (by decide) (by decide) (fun c_23 => absurd c_23 (by decide)) (fun c_23 => ?_)
          refine lv_iconst (v := nI 0) hx hb dX3_unsound_26 (by decide +kernel) ?_
          refine lv_goto (tgt := 31) hx hb dX3_unsound_27 (by decide) ?_
          refine nv_iadd hx hb dX3_unsound_31 ?_
          refine lv_istore_n (lv' := [(1, .int (nI ((q_uns σ i) + 0))), (0, .ref m0), (2, .int (nI i))]) hx hb dX3_unsound_32 rfl hl (by decide) rfl (fun ls hl => ?_)
          refine lv_iinc (v := nI (i + 1)) (lv' := [(2, .int (nI (i + 1))), (1, .int (nI ((q_uns σ i) + 0))), (0, .ref m0)]) hx hb dX3_unsound_33 hl (k := 2) rfl (nv_inc _ 1) (by decide) rfl (fun ls hl => ?_)
          refine lv_goto (tgt := 9) hx hb dX3_unsound_36 (by decide) ?_
          exact ih (i + 1) (by omega) (by omega) ls (by rw [show q_uns σ (i + 1) = (q_uns σ i) + 0 from by simp only [q_uns]; rw [if_pos hr_20]]; exact lv_sub hl [2, 1, 0] rfl)
        · refine nv_if_eq (tgt := 30) hx hb dX3_unsound_23 (by decide) (by decide) (fun c_23 => ?_) (fun c_23 => absurd c_23 (by decide))
          refine lv_iconst (v := nI 1) hx hb dX3_unsound_30 (by decide +kernel) ?_
          refine nv_iadd hx hb dX3_unsound_31 ?_
          refine lv_istore_n (lv' := [(1, .int (nI ((q_uns σ i) + 1))), (0, .ref m0), (2, .int (nI i))]) hx hb dX3_unsound_32 rfl hl (by decide) rfl (fun ls hl => ?_)
          refine lv_iinc (v := nI (i + 1)) (lv' := [(2, .int (nI (i + 1))), (1, .int (nI ((q_uns σ i) + 1))), (0, .ref m0)]) hx hb dX3_unsound_33 hl (k := 2) rfl (nv_inc _ 1) (by decide) rfl (fun ls hl => ?_)
          refine lv_goto (tgt := 9) hx hb dX3_unsound_36 (by decide) ?_
          exact ih (i + 1) (by omega) (by omega) ls (by rw [show q_uns σ (i + 1) = (q_uns σ i) + 1 from by simp only [q_uns]; rw [if_neg hr_20]]; exact lv_sub hl [2, 1, 0] rfl)
  exact hlp (s_k σ + 1) 0 (Nat.zero_le _) (by omega) ls (lv_sub hl [2, 1, 0] rfl)

theorem sI_half {σ : St} {q n x : Nat} (h : ∀ i, i < s_k σ → s_sp σ i < 60 ∧ s_sa σ i ≤ n ∧ s_sv σ i ≤ s_n σ) : ∀ i, i < s_k σ → uN (s_sp σ) (s_k σ) q i < 60 ∧ uN (s_sa σ) (s_k σ) x i ≤ n ∧ s_sv σ i ≤ s_n σ := by
  intro i hi
  rw [uN_n (by omega), uN_n (by omega)]
  exact h i hi

set_option maxHeartbeats 4000000 in
set_option maxRecDepth 100000 in
theorem c_X3_serve (l : Launch) (dD : va_G) (cI cR cS : ClassId) (lo : Nat) (sz : Nat) (hlo : lo ≤ sz) (m0 : Nat) (a : Nat → Nat) (th : Nat) (σ : St) (hI : sI σ) (f e : Int32) : Met l yX3_serve wsX3_serve ({ frames := 2, cells := 0, slots := 0, locals := 43 }) (ePc dD cI cR cS lo [.ref m0, .int f, .int e] (fun H => H.size = sz ∧ va_P dD vwCl (mW cI m0 a th σ) H ∧ va_D (fun q => lo ≤ q) (mW cI m0 a th σ))) (va_Qi (fun (r : Int32) (u : Nat × St) => R3 (okP f e) (s_k σ < 200) σ (g_serve σ (plN f e)) (eN (q_fr σ (s_cp σ (plN f e)) (s_now σ))) r u) (fun u t => va_P dD vwCl (mW cI m0 a u.1 u.2) t.heap) (va_A (mW cI m0 a th σ) sz)) 0 0 (va_A (mW cI m0 a th σ) sz) := by
  refine Met.ofW (cc := cX3_serve) (maxL := 4) (ret := (some .int)) (by decide) rfl ?_
  intro p e_ s m args below meth c s₁ B hml hv
  obtain ⟨rfl, hE, hsz, hP, hD0⟩ := hv
  have hx := B.exec
  have hb := B.bytes
  have hr := B.returns
  have hts := atoms_spec (ws := wsX3_serve) B.pre
  have hown : s.vm.findClass RX3 = some m.cls := findClass_of_methodNamed B.named
  have hlocks := B.notSynchronized
  have hK := hE.1.1
  have hinX3 : ∀ w ∈ u_ws RX3 TX3 14, w ∈ wsX3_serve := by decide +kernel
  subst hsz
  have hD := hD0.self (sz := s.heap.size)
  have hAlo : ∀ q, va_A (mW cI m0 a th σ) s.heap.size q → lo ≤ q := eA_lo hD0 hlo
  generalize hAe : va_A (mW cI m0 a th σ) s.heap.size = A at hD hAlo ⊢
  have hA : ∀ q : Nat, s.heap.size ≤ q → A q := fun q h => by rw [← hAe]; exact Or.inr h
  have hS : va_S A s.heap s.heap [] := va_S.rf
  have hP : va_P dD vwCl (mW cI m0 a th σ) s.heap := hP
  obtain ⟨i_now, i_n, i_tk, i_k, i_lt, i_row, i_cp, i_srv⟩ := id hI
  have hl := lv_entry ([.ref m0, .int f, .int e]) (n := 4) (Nat.le_of_ble_eq_true rfl)
  rw [lg_entry_eq]
  generalize (lg_sl ([.ref m0, .int f, .int e]) ++ List.replicate (4 - (lg_sl ([.ref m0, .int f, .int e])).length) Slot.unset).toArray = ls at hl ⊢
  have hl : lv_has ls 4 [(0, .ref m0), (1, .int f), (2, .int e)] := hl
  refine lv_aload_n hx hb dX3_serve_0 rfl (lv_at hl 0 rfl) ?_
  refine lv_iload_n hx hb dX3_serve_1 rfl (lv_at hl 1 rfl) ?_
  refine lv_iload_n hx hb dX3_serve_2 rfl (lv_at hl 2 rfl) ?_
  refine vp_callSi (va_Run.run (va_runS (As := [.int f, .int e]) (rest := [.ref m0]) ⟨hx, hb, hml, hown, hts⟩ (c_X3_isPair l dD cI cR cS lo f e) (va_cwS 2 hts gX3_serve_X3_isPair rfl rfl rfl (by decide +kernel) ⟨Nat.le_of_ble_eq_true rfl, Nat.le_of_ble_eq_true rfl⟩) (ePreS hE (hS.mono hAlo) trivial) rfl rfl hl.1 rfl (lv_room (Nat.le_of_ble_eq_true rfl)) dX3_serve_3 ⟨Nat.le_of_ble_eq_true rfl, Nat.le_of_ble_eq_true rfl⟩)) (fun r_3 hr_3 => ?_)
  rcases hr_3 with ⟨rfl, hr_3⟩ | ⟨rfl, hr_3⟩
  · obtain ⟨fn, hfn1, hfn2, rfl⟩ := rg_of (by decide) (by decide) (hr_3.1)
    obtain ⟨en, hen1, hen2, rfl⟩ := rg_of (by decide) (by decide) (hr_3.2)
    obtain ⟨hz_1, hz_2⟩ := i_cp (10 * fn + en) (by omega)
    refine nv_if_ne (tgt := 13) hx hb dX3_serve_6 (by decide) (by decide) (fun c_6 => ?_) (fun c_6 => absurd c_6 (by decide))
    refine lv_aload_n hx hb dX3_serve_13 rfl (lv_at hl 0 rfl) ?_
    refine va_get (D := dD) (ci := 3) (v := .int (nI (s_k σ))) (C := RX3) (T := TX3) (N := 14) hx hb hts hinX3 hown hK hP 0 rfl rfl 10 (by decide) (hts (.fieldLink RX3 83 "FeatureStoreModel" "servings" "I") (by decide +kernel)) (fun _ h9 => h9) rfl dX3_serve_14 ?_
    refine lv_sipush (v := nI 200) hx hb dX3_serve_17 (by decide +kernel) ?_
    refine nv_ne (tgt := 27) hx hb dX3_serve_20 (by decide) (by omega) (by omega) (fun c_20 => ?_) (fun c_20 => ?_)
    · refine lv_iconst (v := nI 0) hx hb dX3_serve_27 (by decide +kernel) ?_
      refine va_put (D := dD) (ci := 3) (v := .int (nI 0)) (ty := .int) (C := RX3) (T := TX3) (N := 14) hx hb hts hinX3 tyX3 tyX3_ok nmX3 hown hK hP hD hS 0 rfl rfl 0 (by decide) (hts (.fieldLink RX3 37 "FeatureStoreModel" "thrown" "I") (by decide +kernel)) (fun _ h9 => h9) rfl (by decide +kernel) rfl rfl (Nat.le_of_ble_eq_true rfl) dX3_serve_28 (fun H locs hP hD hS => ?_)
      have hP : va_P dD vwCl [(m0, .inr (3, [.int (nI 0), .int (nI (s_now σ)), .ref (a 0), .int (nI (s_n σ)), .ref (a 1), .ref (a 2), .ref (a 3), .ref (a 4), .int (nI (s_tk σ)), .ref (a 5), .int (nI (s_k σ)), .ref (a 6), .ref (a 7), .ref (a 8)])), (a 0, .inl (cI, 6, .inl (fun j => nI (s_lt σ j)))), (a 1, .inl (cI, 200, .inl (fun j => nI (s_pr σ j)))), (a 2, .inl (cI, 200, .inl (fun j => nI (s_ev σ j)))), (a 3, .inl (cI, 200, .inl (fun j => nI (s_ar σ j)))), (a 4, .inl (cI, 200, .inl (fun j => nI (s_vl σ j)))), (a 5, .inl (cI, 60, .inl (fun j => nI (s_cp σ j)))), (a 6, .inl (cI, 200, .inl (fun j => nI (s_sp σ j)))), (a 7, .inl (cI, 200, .inl (fun j => nI (s_sa σ j)))), (a 8, .inl (cI, 200, .inl (fun j => eN (s_sv σ j))))] H := hP
      have hD : va_D A [(m0, .inr (3, [.int (nI 0), .int (nI (s_now σ)), .ref (a 0), .int (nI (s_n σ)), .ref (a 1), .ref (a 2), .ref (a 3), .ref (a 4), .int (nI (s_tk σ)), .ref (a 5), .int (nI (s_k σ)), .ref (a 6), .ref (a 7), .ref (a 8)])), (a 0, .inl (cI, 6, .inl (fun j => nI (s_lt σ j)))), (a 1, .inl (cI, 200, .inl (fun j => nI (s_pr σ j)))), (a 2, .inl (cI, 200, .inl (fun j => nI (s_ev σ j)))), (a 3, .inl (cI, 200, .inl (fun j => nI (s_ar σ j)))), (a 4, .inl (cI, 200, .inl (fun j => nI (s_vl σ j)))), (a 5, .inl (cI, 60, .inl (fun j => nI (s_cp σ j)))), (a 6, .inl (cI, 200, .inl (fun j => nI (s_sp σ j)))), (a 7, .inl (cI, 200, .inl (fun j => nI (s_sa σ j)))), (a 8, .inl (cI, 200, .inl (fun j => eN (s_sv σ j))))] := hD
      refine lv_aload_n hx hb dX3_serve_31 rfl (lv_at hl 0 rfl) ?_
      refine va_get (D := dD) (ci := 3) (v := .int (nI 0)) (C := RX3) (T := TX3) (N := 14) hx hb hts hinX3 hown hK hP 0 rfl rfl 0 (by decide) (hts (.fieldLink RX3 37 "FeatureStoreModel" "thrown" "I") (by decide +kernel)) (fun _ h9 => h9) rfl dX3_serve_32 ?_
      refine nv_if_le (tgt := 40) hx hb dX3_serve_35 (by decide) (by decide) (fun c_35 => ?_) (fun c_35 => absurd c_35 (by decide))
      refine lv_iload_n hx hb dX3_serve_40 rfl (lv_at hl 1 rfl) ?_
      refine lv_iload_n hx hb dX3_serve_41 rfl (lv_at hl 2 rfl) ?_
      refine vp_callSi (va_Run.run (va_runS (As := [.int (nI fn), .int (nI en)]) (rest := []) ⟨hx, hb, hml, hown, hts⟩ (c_X3_pairOf l dD cI cR cS lo fn en) (va_cwS 2 hts gX3_serve_X3_pairOf rfl rfl rfl (by decide +kernel) ⟨Nat.le_of_ble_eq_true rfl, Nat.le_of_ble_eq_true rfl⟩) (ePreS hE (hS.mono hAlo) trivial) rfl rfl hl.1 rfl (lv_room (Nat.le_of_ble_eq_true rfl)) dX3_serve_42 ⟨Nat.le_of_ble_eq_true rfl, Nat.le_of_ble_eq_true rfl⟩)) (fun r_42 hr_42 => ?_)
      subst hr_42
      refine lv_istore_n (lv' := [(3, .int (nI (10 * fn + en))), (0, .ref m0), (1, .int (nI fn)), (2, .int (nI en))]) hx hb dX3_serve_45 rfl hl (by decide) rfl (fun ls hl => ?_)
      refine lv_aload_n hx hb dX3_serve_46 rfl (lv_at hl 1 rfl) ?_
      refine va_get (D := dD) (ci := 3) (v := .ref (a 6)) (C := RX3) (T := TX3) (N := 14) hx hb hts hinX3 hown hK hP 0 rfl rfl 11 (by decide) (hts (.fieldLink RX3 28 "FeatureStoreModel" "servedPair" "[I") (by decide +kernel)) (fun _ h9 => h9) rfl dX3_serve_47 ?_
      refine lv_aload_n hx hb dX3_serve_50 rfl (lv_at hl 1 rfl) ?_
      refine va_get (D := dD) (ci := 3) (v := .int (nI (s_k σ))) (C := RX3) (T := TX3) (N := 14) hx hb hts hinX3 hown hK hP 0 rfl rfl 10 (by decide) (hts (.fieldLink RX3 83 "FeatureStoreModel" "servings" "I") (by decide +kernel)) (fun _ h9 => h9) rfl dX3_serve_51 ?_
      refine lv_iload_n hx hb dX3_serve_54 rfl (lv_at hl 0 rfl) ?_
      refine nv_iast (q0 := 7) (t0 := 0) (s_sp σ) hx hb hK hP hD hS rfl rfl (by omega) (by decide) dX3_serve_55 (fun H locs hP hD hS => ?_)
      have hP : va_P dD vwCl [(m0, .inr (3, [.int (nI 0), .int (nI (s_now σ)), .ref (a 0), .int (nI (s_n σ)), .ref (a 1), .ref (a 2), .ref (a 3), .ref (a 4), .int (nI (s_tk σ)), .ref (a 5), .int (nI (s_k σ)), .ref (a 6), .ref (a 7), .ref (a 8)])), (a 0, .inl (cI, 6, .inl (fun j => nI (s_lt σ j)))), (a 1, .inl (cI, 200, .inl (fun j => nI (s_pr σ j)))), (a 2, .inl (cI, 200, .inl (fun j => nI (s_ev σ j)))), (a 3, .inl (cI, 200, .inl (fun j => nI (s_ar σ j)))), (a 4, .inl (cI, 200, .inl (fun j => nI (s_vl σ j)))), (a 5, .inl (cI, 60, .inl (fun j => nI (s_cp σ j)))), (a 6, .inl (cI, 200, .inl (fun j => nI ((uN (s_sp σ) (s_k σ) (10 * fn + en)) j)))), (a 7, .inl (cI, 200, .inl (fun j => nI (s_sa σ j)))), (a 8, .inl (cI, 200, .inl (fun j => eN (s_sv σ j))))] H := hP
      have hD : va_D A [(m0, .inr (3, [.int (nI 0), .int (nI (s_now σ)), .ref (a 0), .int (nI (s_n σ)), .ref (a 1), .ref (a 2), .ref (a 3), .ref (a 4), .int (nI (s_tk σ)), .ref (a 5), .int (nI (s_k σ)), .ref (a 6), .ref (a 7), .ref (a 8)])), (a 0, .inl (cI, 6, .inl (fun j => nI (s_lt σ j)))), (a 1, .inl (cI, 200, .inl (fun j => nI (s_pr σ j)))), (a 2, .inl (cI, 200, .inl (fun j => nI (s_ev σ j)))), (a 3, .inl (cI, 200, .inl (fun j => nI (s_ar σ j)))), (a 4, .inl (cI, 200, .inl (fun j => nI (s_vl σ j)))), (a 5, .inl (cI, 60, .inl (fun j => nI (s_cp σ j)))), (a 6, .inl (cI, 200, .inl (fun j => nI ((uN (s_sp σ) (s_k σ) (10 * fn + en)) j)))), (a 7, .inl (cI, 200, .inl (fun j => nI (s_sa σ j)))), (a 8, .inl (cI, 200, .inl (fun j => eN (s_sv σ j))))] := hD
      refine lv_aload_n hx hb dX3_serve_56 rfl (lv_at hl 1 rfl) ?_
      refine va_get (D := dD) (ci := 3) (v := .ref (a 7)) (C := RX3) (T := TX3) (N := 14) hx hb hts hinX3 hown hK hP 0 rfl rfl 12 (by decide) (hts (.fieldLink RX3 31 "FeatureStoreModel" "servedAt" "[I") (by decide +kernel)) (fun _ h9 => h9) rfl dX3_serve_57 ?_
      refine lv_aload_n hx hb dX3_serve_60 rfl (lv_at hl 1 rfl) ?_
      refine va_get (D := dD) (ci := 3) (v := .int (nI (s_k σ))) (C := RX3) (T := TX3) (N := 14) hx hb hts hinX3 hown hK hP 0 rfl rfl 10 (by decide) (hts (.fieldLink RX3 83 "FeatureStoreModel" "servings" "I") (by decide +kernel)) (fun _ h9 => h9) rfl dX3_serve_61 ?_
      refine lv_aload_n hx hb dX3_serve_64 rfl (lv_at hl 1 rfl) ?_
      refine va_get (D := dD) (ci := 3) (v := .int (nI (s_now σ))) (C := RX3) (T := TX3) (N := 14) hx hb hts hinX3 hown hK hP 0 rfl rfl 1 (by decide) (hts (.fieldLink RX3 49 "FeatureStoreModel" "now" "I") (by decide +kernel)) (fun _ h9 => h9) rfl dX3_serve_65 ?_
      refine nv_iast (q0 := 8) (t0 := 0) (s_sa σ) hx hb hK hP hD hS rfl rfl (by omega) (by decide) dX3_serve_68 (fun H locs hP hD hS => ?_)
      have hP : va_P dD vwCl [(m0, .inr (3, [.int (nI 0), .int (nI (s_now σ)), .ref (a 0), .int (nI (s_n σ)), .ref (a 1), .ref (a 2), .ref (a 3), .ref (a 4), .int (nI (s_tk σ)), .ref (a 5), .int (nI (s_k σ)), .ref (a 6), .ref (a 7), .ref (a 8)])), (a 0, .inl (cI, 6, .inl (fun j => nI (s_lt σ j)))), (a 1, .inl (cI, 200, .inl (fun j => nI (s_pr σ j)))), (a 2, .inl (cI, 200, .inl (fun j => nI (s_ev σ j)))), (a 3, .inl (cI, 200, .inl (fun j => nI (s_ar σ j)))), (a 4, .inl (cI, 200, .inl (fun j => nI (s_vl σ j)))), (a 5, .inl (cI, 60, .inl (fun j => nI (s_cp σ j)))), (a 6, .inl (cI, 200, .inl (fun j => nI ((uN (s_sp σ) (s_k σ) (10 * fn + en)) j)))), (a 7, .inl (cI, 200, .inl (fun j => nI ((uN (s_sa σ) (s_k σ) (s_now σ)) j)))), (a 8, .inl (cI, 200, .inl (fun j => eN (s_sv σ j))))] H := hP
      have hD : va_D A [(m0, .inr (3, [.int (nI 0), .int (nI (s_now σ)), .ref (a 0), .int (nI (s_n σ)), .ref (a 1), .ref (a 2), .ref (a 3), .ref (a 4), .int (nI (s_tk σ)), .ref (a 5), .int (nI (s_k σ)), .ref (a 6), .ref (a 7), .ref (a 8)])), (a 0, .inl (cI, 6, .inl (fun j => nI (s_lt σ j)))), (a 1, .inl (cI, 200, .inl (fun j => nI (s_pr σ j)))), (a 2, .inl (cI, 200, .inl (fun j => nI (s_ev σ j)))), (a 3, .inl (cI, 200, .inl (fun j => nI (s_ar σ j)))), (a 4, .inl (cI, 200, .inl (fun j => nI (s_vl σ j)))), (a 5, .inl (cI, 60, .inl (fun j => nI (s_cp σ j)))), (a 6, .inl (cI, 200, .inl (fun j => nI ((uN (s_sp σ) (s_k σ) (10 * fn + en)) j)))), (a 7, .inl (cI, 200, .inl (fun j => nI ((uN (s_sa σ) (s_k σ) (s_now σ)) j)))), (a 8, .inl (cI, 200, .inl (fun j => eN (s_sv σ j))))] := hD
      refine lv_aload_n hx hb dX3_serve_69 rfl (lv_at hl 1 rfl) ?_
      refine va_get (D := dD) (ci := 3) (v := .ref (a 8)) (C := RX3) (T := TX3) (N := 14) hx hb hts hinX3 hown hK hP 0 rfl rfl 13 (by decide) (hts (.fieldLink RX3 34 "FeatureStoreModel" "served" "[I") (by decide +kernel)) (fun _ h9 => h9) rfl dX3_serve_70 ?_
      refine lv_aload_n hx hb dX3_serve_73 rfl (lv_at hl 1 rfl) ?_
      refine va_get (D := dD) (ci := 3) (v := .int (nI (s_k σ))) (C := RX3) (T := TX3) (N := 14) hx hb hts hinX3 hown hK hP 0 rfl rfl 10 (by decide) (hts (.fieldLink RX3 83 "FeatureStoreModel" "servings" "I") (by decide +kernel)) (fun _ h9 => h9) rfl dX3_serve_74 ?_
      refine lv_aload_n hx hb dX3_serve_77 rfl (lv_at hl 1 rfl) ?_
      refine lv_aload_n hx hb dX3_serve_78 rfl (lv_at hl 1 rfl) ?_
      refine va_get (D := dD) (ci := 3) (v := .ref (a 5)) (C := RX3) (T := TX3) (N := 14) hx hb hts hinX3 hown hK hP 0 rfl rfl 9 (by decide) (hts (.fieldLink RX3 25 "FeatureStoreModel" "copy" "[I") (by decide +kernel)) (fun _ h9 => h9) rfl dX3_serve_79 ?_
      refine lv_iload_n hx hb dX3_serve_82 rfl (lv_at hl 0 rfl) ?_
      refine nv_iald (q0 := 6) (t0 := 0) (s_cp σ) hx hb hK hP rfl rfl (by omega) (by decide) dX3_serve_83 ?_
      refine lv_iconst (v := nI 1) hx hb dX3_serve_84 (by decide +kernel) ?_
      refine nv_isubN hx hb dX3_serve_85 ?_
      refine lv_aload_n hx hb dX3_serve_86 rfl (lv_at hl 1 rfl) ?_
      refine va_get (D := dD) (ci := 3) (v := .int (nI (s_now σ))) (C := RX3) (T := TX3) (N := 14) hx hb hts hinX3 hown hK hP 0 rfl rfl 1 (by decide) (hts (.fieldLink RX3 49 "FeatureStoreModel" "now" "I") (by decide +kernel)) (fun _ h9 => h9) rfl dX3_serve_87 ?_
      have hI2 : sI (setS (setS σ 10 (uN (s_sp σ) (s_k σ) (10 * fn + en))) 11 (uN (s_sa σ) (s_k σ) (s_now σ))) := ⟨i_now, i_n, i_tk, i_k, i_lt, i_row, i_cp, sI_half i_srv⟩
      refine vp_callSi (va_Run.run (va_runV (As := [.int (eN (s_cp σ (10 * fn + en))), .int (nI (s_now σ))]) (rest := [.int (nI (s_k σ)), .ref (a 8)]) ⟨hx, hb, hml, hown, hts⟩ (c_X3_fresh l dD cI cR cS lo m0 a 0 (setS (setS σ 10 (uN (s_sp σ) (s_k σ) (10 * fn + en))) 11 (uN (s_sa σ) (s_k σ) (s_now σ))) hI2 (s_cp σ (10 * fn + en)) (s_now σ) (show s_cp σ (10 * fn + en) ≤ s_n σ by omega) (by omega)) (cwV 2 hts gX3_serve_X3_fresh rfl rfl rfl (by decide +kernel) ⟨Nat.le_of_ble_eq_true rfl, Nat.le_of_ble_eq_true rfl⟩) (ePreV hE (hS.mono hAlo) hP (k := 0) rfl rfl hP) rfl rfl hl.1 rfl (lv_room (Nat.le_of_ble_eq_true rfl)) dX3_serve_90 ⟨Nat.le_of_ble_eq_true rfl, Nat.le_of_ble_eq_true rfl⟩)) (fun r_90 hr_90 => ?_)
      have hr_90 : r_90 = eN (q_fr σ (s_cp σ (10 * fn + en)) (s_now σ)) := hr_90
      subst hr_90
      refine nv_east (q0 := 9) (t0 := 0) (s_sv σ) hx hb hK hP hD hS rfl rfl (by omega) (by decide) dX3_serve_93 (fun H locs hP hD hS => ?_)
      have hP : va_P dD vwCl [(m0, .inr (3, [.int (nI 0), .int (nI (s_now σ)), .ref (a 0), .int (nI (s_n σ)), .ref (a 1), .ref (a 2), .ref (a 3), .ref (a 4), .int (nI (s_tk σ)), .ref (a 5), .int (nI (s_k σ)), .ref (a 6), .ref (a 7), .ref (a 8)])), (a 0, .inl (cI, 6, .inl (fun j => nI (s_lt σ j)))), (a 1, .inl (cI, 200, .inl (fun j => nI (s_pr σ j)))), (a 2, .inl (cI, 200, .inl (fun j => nI (s_ev σ j)))), (a 3, .inl (cI, 200, .inl (fun j => nI (s_ar σ j)))), (a 4, .inl (cI, 200, .inl (fun j => nI (s_vl σ j)))), (a 5, .inl (cI, 60, .inl (fun j => nI (s_cp σ j)))), (a 6, .inl (cI, 200, .inl (fun j => nI ((uN (s_sp σ) (s_k σ) (10 * fn + en)) j)))), (a 7, .inl (cI, 200, .inl (fun j => nI ((uN (s_sa σ) (s_k σ) (s_now σ)) j)))), (a 8, .inl (cI, 200, .inl (fun j => eN ((uN (s_sv σ) (s_k σ) (q_fr σ (s_cp σ (10 * fn + en)) (s_now σ))) j))))] H := hP
      have hD : va_D A [(m0, .inr (3, [.int (nI 0), .int (nI (s_now σ)), .ref (a 0), .int (nI (s_n σ)), .ref (a 1), .ref (a 2), .ref (a 3), .ref (a 4), .int (nI (s_tk σ)), .ref (a 5), .int (nI (s_k σ)), .ref (a 6), .ref (a 7), .ref (a 8)])), (a 0, .inl (cI, 6, .inl (fun j => nI (s_lt σ j)))), (a 1, .inl (cI, 200, .inl (fun j => nI (s_pr σ j)))), (a 2, .inl (cI, 200, .inl (fun j => nI (s_ev σ j)))), (a 3, .inl (cI, 200, .inl (fun j => nI (s_ar σ j)))), (a 4, .inl (cI, 200, .inl (fun j => nI (s_vl σ j)))), (a 5, .inl (cI, 60, .inl (fun j => nI (s_cp σ j)))), (a 6, .inl (cI, 200, .inl (fun j => nI ((uN (s_sp σ) (s_k σ) (10 * fn + en)) j)))), (a 7, .inl (cI, 200, .inl (fun j => nI ((uN (s_sa σ) (s_k σ) (s_now σ)) j)))), (a 8, .inl (cI, 200, .inl (fun j => eN ((uN (s_sv σ) (s_k σ) (q_fr σ (s_cp σ (10 * fn + en)) (s_now σ))) j))))] := hD
      refine lv_aload_n hx hb dX3_serve_94 rfl (lv_at hl 1 rfl) ?_
      refine lv_dup hx hb dX3_serve_95 rfl ?_
      refine va_get (D := dD) (ci := 3) (v := .int (nI (s_k σ))) (C := RX3) (T := TX3) (N := 14) hx hb hts hinX3 hown hK hP 0 rfl rfl 10 (by decide) (hts (.fieldLink RX3 83 "FeatureStoreModel" "servings" "I") (by decide +kernel)) (fun _ h9 => h9) rfl dX3_serve_96 ?_
      refine lv_iconst (v := nI 1) hx hb dX3_serve_99 (by decide +kernel) ?_
      refine nv_iadd hx hb dX3_serve_100 ?_
      refine va_put (D := dD) (ci := 3) (v := .int (nI ((s_k σ) + 1))) (ty := .int) (C := RX3) (T := TX3) (N := 14) hx hb hts hinX3 tyX3 tyX3_ok nmX3 hown hK hP hD hS 0 rfl rfl 10 (by decide) (hts (.fieldLink RX3 83 "FeatureStoreModel" "servings" "I") (by decide +kernel)) (fun _ h9 => h9) rfl (by decide +kernel) rfl rfl (Nat.le_of_ble_eq_true rfl) dX3_serve_101 (fun H locs hP hD hS => ?_)
      have hP : va_P dD vwCl [(m0, .inr (3, [.int (nI 0), .int (nI (s_now σ)), .ref (a 0), .int (nI (s_n σ)), .ref (a 1), .ref (a 2), .ref (a 3), .ref (a 4), .int (nI (s_tk σ)), .ref (a 5), .int (nI ((s_k σ) + 1)), .ref (a 6), .ref (a 7), .ref (a 8)])), (a 0, .inl (cI, 6, .inl (fun j => nI (s_lt σ j)))), (a 1, .inl (cI, 200, .inl (fun j => nI (s_pr σ j)))), (a 2, .inl (cI, 200, .inl (fun j => nI (s_ev σ j)))), (a 3, .inl (cI, 200, .inl (fun j => nI (s_ar σ j)))), (a 4, .inl (cI, 200, .inl (fun j => nI (s_vl σ j)))), (a 5, .inl (cI, 60, .inl (fun j => nI (s_cp σ j)))), (a 6, .inl (cI, 200, .inl (fun j => nI ((uN (s_sp σ) (s_k σ) (10 * fn + en)) j)))), (a 7, .inl (cI, 200, .inl (fun j => nI ((uN (s_sa σ) (s_k σ) (s_now σ)) j)))), (a 8, .inl (cI, 200, .inl (fun j => eN ((uN (s_sv σ) (s_k σ) (q_fr σ (s_cp σ (10 * fn + en)) (s_now σ))) j))))] H := hP
      have hD : va_D A [(m0, .inr (3, [.int (nI 0), .int (nI (s_now σ)), .ref (a 0), .int (nI (s_n σ)), .ref (a 1), .ref (a 2), .ref (a 3), .ref (a 4), .int (nI (s_tk σ)), .ref (a 5), .int (nI ((s_k σ) + 1)), .ref (a 6), .ref (a 7), .ref (a 8)])), (a 0, .inl (cI, 6, .inl (fun j => nI (s_lt σ j)))), (a 1, .inl (cI, 200, .inl (fun j => nI (s_pr σ j)))), (a 2, .inl (cI, 200, .inl (fun j => nI (s_ev σ j)))), (a 3, .inl (cI, 200, .inl (fun j => nI (s_ar σ j)))), (a 4, .inl (cI, 200, .inl (fun j => nI (s_vl σ j)))), (a 5, .inl (cI, 60, .inl (fun j => nI (s_cp σ j)))), (a 6, .inl (cI, 200, .inl (fun j => nI ((uN (s_sp σ) (s_k σ) (10 * fn + en)) j)))), (a 7, .inl (cI, 200, .inl (fun j => nI ((uN (s_sa σ) (s_k σ) (s_now σ)) j)))), (a 8, .inl (cI, 200, .inl (fun j => eN ((uN (s_sv σ) (s_k σ) (q_fr σ (s_cp σ (10 * fn + en)) (s_now σ))) j))))] := hD
      refine lv_aload_n hx hb dX3_serve_104 rfl (lv_at hl 1 rfl) ?_
      refine va_get (D := dD) (ci := 3) (v := .ref (a 8)) (C := RX3) (T := TX3) (N := 14) hx hb hts hinX3 hown hK hP 0 rfl rfl 13 (by decide) (hts (.fieldLink RX3 34 "FeatureStoreModel" "served" "[I") (by decide +kernel)) (fun _ h9 => h9) rfl dX3_serve_105 ?_
      refine lv_aload_n hx hb dX3_serve_108 rfl (lv_at hl 1 rfl) ?_
      refine va_get (D := dD) (ci := 3) (v := .int (nI ((s_k σ) + 1))) (C := RX3) (T := TX3) (N := 14) hx hb hts hinX3 hown hK hP 0 rfl rfl 10 (by decide) (hts (.fieldLink RX3 83 "FeatureStoreModel" "servings" "I") (by decide +kernel)) (fun _ h9 => h9) rfl dX3_serve_109 ?_
      refine lv_iconst (v := nI 1) hx hb dX3_serve_112 (by decide +kernel) ?_
      refine nv_isub hx hb dX3_serve_113 (by omega) ?_
      refine nv_eald (q0 := 9) (t0 := 0) (uN (s_sv σ) (s_k σ) (q_fr σ (s_cp σ (10 * fn + en)) (s_now σ))) hx hb hK hP rfl rfl (by omega) (by decide) dX3_serve_114 ?_
      exact W.iret (v := eN (uN (s_sv σ) (s_k σ) (q_fr σ (s_cp σ (10 * fn + en)) (s_now σ)) (((s_k σ) + 1) - 1))) hx hb hr (fun u9 hu9 hW => ⟨⟨eN (uN (s_sv σ) (s_k σ) (q_fr σ (s_cp σ (10 * fn + en)) (s_now σ)) (((s_k σ) + 1) - 1)), (0, g_serve σ (10 * fn + en)), rfl, Or.inl ⟨hr_3, by omega, by rw [plN, cl_nI (by omega), cl_nI (by omega)], by rw [plN, cl_nI (by omega), cl_nI (by omega), show s_k σ + 1 - 1 = s_k σ from Nat.add_sub_cancel .., uN_s]⟩, by have h9 := hP; rw [← hu9] at h9; exact h9⟩, hS.F hu9⟩) hS.2.2 dX3_serve_115
    · refine lv_iconst (v := nI 2) hx hb dX3_serve_23 (by decide +kernel) ?_
      refine lv_goto (tgt := 28) hx hb dX3_serve_24 (by decide) ?_
      refine va_put (D := dD) (ci := 3) (v := .int (nI 2)) (ty := .int) (C := RX3) (T := TX3) (N := 14) hx hb hts hinX3 tyX3 tyX3_ok nmX3 hown hK hP hD hS 0 rfl rfl 0 (by decide) (hts (.fieldLink RX3 37 "FeatureStoreModel" "thrown" "I") (by decide +kernel)) (fun _ h9 => h9) rfl (by decide +kernel) rfl rfl (Nat.le_of_ble_eq_true rfl) dX3_serve_28 (fun H locs hP hD hS => ?_)
      have hP : va_P dD vwCl [(m0, .inr (3, [.int (nI 2), .int (nI (s_now σ)), .ref (a 0), .int (nI (s_n σ)), .ref (a 1), .ref (a 2), .ref (a 3), .ref (a 4), .int (nI (s_tk σ)), .ref (a 5), .int (nI (s_k σ)), .ref (a 6), .ref (a 7), .ref (a 8)])), (a 0, .inl (cI, 6, .inl (fun j => nI (s_lt σ j)))), (a 1, .inl (cI, 200, .inl (fun j => nI (s_pr σ j)))), (a 2, .inl (cI, 200, .inl (fun j => nI (s_ev σ j)))), (a 3, .inl (cI, 200, .inl (fun j => nI (s_ar σ j)))), (a 4, .inl (cI, 200, .inl (fun j => nI (s_vl σ j)))), (a 5, .inl (cI, 60, .inl (fun j => nI (s_cp σ j)))), (a 6, .inl (cI, 200, .inl (fun j => nI (s_sp σ j)))), (a 7, .inl (cI, 200, .inl (fun j => nI (s_sa σ j)))), (a 8, .inl (cI, 200, .inl (fun j => eN (s_sv σ j))))] H := hP
      have hD : va_D A [(m0, .inr (3, [.int (nI 2), .int (nI (s_now σ)), .ref (a 0), .int (nI (s_n σ)), .ref (a 1), .ref (a 2), .ref (a 3), .ref (a 4), .int (nI (s_tk σ)), .ref (a 5), .int (nI (s_k σ)), .ref (a 6), .ref (a 7), .ref (a 8)])), (a 0, .inl (cI, 6, .inl (fun j => nI (s_lt σ j)))), (a 1, .inl (cI, 200, .inl (fun j => nI (s_pr σ j)))), (a 2, .inl (cI, 200, .inl (fun j => nI (s_ev σ j)))), (a 3, .inl (cI, 200, .inl (fun j => nI (s_ar σ j)))), (a 4, .inl (cI, 200, .inl (fun j => nI (s_vl σ j)))), (a 5, .inl (cI, 60, .inl (fun j => nI (s_cp σ j)))), (a 6, .inl (cI, 200, .inl (fun j => nI (s_sp σ j)))), (a 7, .inl (cI, 200, .inl (fun j => nI (s_sa σ j)))), (a 8, .inl (cI, 200, .inl (fun j => eN (s_sv σ j))))] := hD
      refine lv_aload_n hx hb dX3_serve_31 rfl (lv_at hl 0 rfl) ?_
      refine va_get (D := dD) (ci := 3) (v := .int (nI 2)) (C := RX3) (T := TX3) (N := 14) hx hb hts hinX3 hown hK hP 0 rfl rfl 0 (by decide) (hts (.fieldLink RX3 37 "FeatureStoreModel" "thrown" "I") (by decide +kernel)) (fun _ h9 => h9) rfl dX3_serve_32 ?_
      refine nv_if_le (tgt := 40) hx hb dX3_serve_35 (by decide) (by decide) (fun c_35 => absurd c_35 (by decide)) (fun c_35 => ?_)
      refine lv_iconst (v := nI 0) hx hb dX3_serve_38 (by decide +kernel) ?_
      exact W.iret (v := nI 0) hx hb hr (fun u9 hu9 hW => ⟨⟨nI 0, (2, σ), rfl, Or.inr (Or.inr ⟨hr_3, by omega, rfl⟩), by have h9 := hP; rw [← hu9] at h9; exact h9⟩, hS.F hu9⟩) hS.2.2 dX3_serve_39
  · refine nv_if_ne (tgt := 13) hx hb dX3_serve_6 (by decide) (by decide) (fun c_6 => absurd c_6 (by decide)) (fun c_6 => ?_)
    refine lv_iconst (v := nI 1) hx hb dX3_serve_9 (by decide +kernel) ?_
    refine lv_goto (tgt := 28) hx hb dX3_serve_10 (by decide) ?_
    refine va_put (D := dD) (ci := 3) (v := .int (nI 1)) (ty := .int) (C := RX3) (T := TX3) (N := 14) hx hb hts hinX3 tyX3 tyX3_ok nmX3 hown hK hP hD hS 0 rfl rfl 0 (by decide) (hts (.fieldLink RX3 37 "FeatureStoreModel" "thrown" "I") (by decide +kernel)) (fun _ h9 => h9) rfl (by decide +kernel) rfl rfl (Nat.le_of_ble_eq_true rfl) dX3_serve_28 (fun H locs hP hD hS => ?_)
    have hP : va_P dD vwCl [(m0, .inr (3, [.int (nI 1), .int (nI (s_now σ)), .ref (a 0), .int (nI (s_n σ)), .ref (a 1), .ref (a 2), .ref (a 3), .ref (a 4), .int (nI (s_tk σ)), .ref (a 5), .int (nI (s_k σ)), .ref (a 6), .ref (a 7), .ref (a 8)])), (a 0, .inl (cI, 6, .inl (fun j => nI (s_lt σ j)))), (a 1, .inl (cI, 200, .inl (fun j => nI (s_pr σ j)))), (a 2, .inl (cI, 200, .inl (fun j => nI (s_ev σ j)))), (a 3, .inl (cI, 200, .inl (fun j => nI (s_ar σ j)))), (a 4, .inl (cI, 200, .inl (fun j => nI (s_vl σ j)))), (a 5, .inl (cI, 60, .inl (fun j => nI (s_cp σ j)))), (a 6, .inl (cI, 200, .inl (fun j => nI (s_sp σ j)))), (a 7, .inl (cI, 200, .inl (fun j => nI (s_sa σ j)))), (a 8, .inl (cI, 200, .inl (fun j => eN (s_sv σ j))))] H := hP
    have hD : va_D A [(m0, .inr (3, [.int (nI 1), .int (nI (s_now σ)), .ref (a 0), .int (nI (s_n σ)), .ref (a 1), .ref (a 2), .ref (a 3), .ref (a 4), .int (nI (s_tk σ)), .ref (a 5), .int (nI (s_k σ)), .ref (a 6), .ref (a 7), .ref (a 8)])), (a 0, .inl (cI, 6, .inl (fun j => nI (s_lt σ j)))), (a 1, .inl (cI, 200, .inl (fun j => nI (s_pr σ j)))), (a 2, .inl (cI, 200, .inl (fun j => nI (s_ev σ j)))), (a 3, .inl (cI, 200, .inl (fun j => nI (s_ar σ j)))), (a 4, .inl (cI, 200, .inl (fun j => nI (s_vl σ j)))), (a 5, .inl (cI, 60, .inl (fun j => nI (s_cp σ j)))), (a 6, .inl (cI, 200, .inl (fun j => nI (s_sp σ j)))), (a 7, .inl (cI, 200, .inl (fun j => nI (s_sa σ j)))), (a 8, .inl (cI, 200, .inl (fun j => eN (s_sv σ j))))] := hD
    refine lv_aload_n hx hb dX3_serve_31 rfl (lv_at hl 0 rfl) ?_
    refine va_get (D := dD) (ci := 3) (v := .int (nI 1)) (C := RX3) (T := TX3) (N := 14) hx hb hts hinX3 hown hK hP 0 rfl rfl 0 (by decide) (hts (.fieldLink RX3 37 "FeatureStoreModel" "thrown" "I") (by decide +kernel)) (fun _ h9 => h9) rfl dX3_serve_32 ?_
    refine nv_if_le (tgt := 40) hx hb dX3_serve_35 (by decide) (by decide) (fun c_35 => absurd c_35 (by decide)) (fun c_35 => ?_)
    refine lv_iconst (v := nI 0) hx hb dX3_serve_38 (by decide +kernel) ?_
    exact W.iret (v := nI 0) hx hb hr (fun u9 hu9 hW => ⟨⟨nI 0, (1, σ), rfl, Or.inr (Or.inl ⟨hr_3, rfl⟩), by have h9 := hP; rw [← hu9] at h9; exact h9⟩, hS.F hu9⟩) hS.2.2 dX3_serve_39
end
section
/-! the reference: take (laid by wip/whole/gen/x3wr4.py) -/
set_option maxHeartbeats 4000000 in
set_option maxRecDepth 100000 in
theorem c_X3_take (l : Launch) (dD : va_G) (cI cR cS : ClassId) (lo : Nat) (sz : Nat) (hlo : lo ≤ sz) (m0 : Nat) (a : Nat → Nat) (th : Nat) (σ : St) (hI : sI σ) (x : Int32) : Met l yX3_take wsX3_take ({ frames := 1, cells := 0, slots := 0, locals := 22 }) (ePc dD cI cR cS lo [.ref m0, .int x] (fun H => H.size = sz ∧ va_P dD vwCl (mW cI m0 a th σ) H ∧ va_D (fun q => lo ≤ q) (mW cI m0 a th σ))) (va_Qi (fun (r : Int32) (u : Nat × St) => R3 (rg x 1 200) True σ (q_take σ (g_m σ (cl x))) (nI (g_m σ (cl x))) r u) (fun u t => va_P dD vwCl (mW cI m0 a u.1 u.2) t.heap) (va_A (mW cI m0 a th σ) sz)) 0 0 (va_A (mW cI m0 a th σ) sz) := by
  refine Met.ofW (cc := cX3_take) (maxL := 4) (ret := (some .int)) (by decide) rfl ?_
  intro p e_ s m args below meth c s₁ B hml hv
  obtain ⟨rfl, hE, hsz, hP, hD0⟩ := hv
  have hx := B.exec
  have hb := B.bytes
  have hr := B.returns
  have hts := atoms_spec (ws := wsX3_take) B.pre
  have hown : s.vm.findClass RX3 = some m.cls := findClass_of_methodNamed B.named
  have hlocks := B.notSynchronized
  have hK := hE.1.1
  have hinX3 : ∀ w ∈ u_ws RX3 TX3 14, w ∈ wsX3_take := by decide +kernel
  subst hsz
  have hD := hD0.self (sz := s.heap.size)
  have hAlo : ∀ q, va_A (mW cI m0 a th σ) s.heap.size q → lo ≤ q := eA_lo hD0 hlo
  generalize hAe : va_A (mW cI m0 a th σ) s.heap.size = A at hD hAlo ⊢
  have hA : ∀ q : Nat, s.heap.size ≤ q → A q := fun q h => by rw [← hAe]; exact Or.inr h
  have hS : va_S A s.heap s.heap [] := va_S.rf
  have hP : va_P dD vwCl (mW cI m0 a th σ) s.heap := hP
  obtain ⟨i_now, i_n, i_tk, i_k, i_lt, i_row, i_cp, i_srv⟩ := id hI
  have hl := lv_entry ([.ref m0, .int x]) (n := 4) (Nat.le_of_ble_eq_true rfl)
  rw [lg_entry_eq]
  generalize (lg_sl ([.ref m0, .int x]) ++ List.replicate (4 - (lg_sl ([.ref m0, .int x])).length) Slot.unset).toArray = ls at hl ⊢
  have hl : lv_has ls 4 [(0, .ref m0), (1, .int x)] := hl
  refine lv_aload_n hx hb dX3_take_0 rfl (lv_at hl 0 rfl) ?_
  refine lv_iload_n hx hb dX3_take_1 rfl (lv_at hl 1 rfl) ?_
  refine lv_iconst (v := nI 1) hx hb dX3_take_2 (by decide +kernel) ?_
  refine lv_sipush (v := nI 200) hx hb dX3_take_3 (by decide +kernel) ?_
  refine vp_callSi (va_Run.run (va_runS (As := [.int x, .int (nI 1), .int (nI 200)]) (rest := [.ref m0]) ⟨hx, hb, hml, hown, hts⟩ (c_X3_in l dD cI cR cS lo x (nI 1) (nI 200)) (va_cwS 3 hts gX3_take_X3_in rfl rfl rfl (by decide +kernel) ⟨Nat.le_of_ble_eq_true rfl, Nat.le_of_ble_eq_true rfl⟩) (ePreS hE (hS.mono hAlo) trivial) rfl rfl hl.1 rfl (lv_room (Nat.le_of_ble_eq_true rfl)) dX3_take_6 ⟨Nat.le_of_ble_eq_true rfl, Nat.le_of_ble_eq_true rfl⟩)) (fun r_6 hr_6 => ?_)
  rcases hr_6 with ⟨rfl, hr_6⟩ | ⟨rfl, hr_6⟩
  · obtain ⟨cn, hcn1, hcn2, rfl⟩ := rg_of (by decide) (by decide) (hr_6)
    refine nv_if_eq (tgt := 16) hx hb dX3_take_9 (by decide) (by decide) (fun c_9 => absurd c_9 (by decide)) (fun c_9 => ?_)
    refine lv_iconst (v := nI 0) hx hb dX3_take_12 (by decide +kernel) ?_
    refine lv_goto (tgt := 17) hx hb dX3_take_13 (by decide) ?_
    refine va_put (D := dD) (ci := 3) (v := .int (nI 0)) (ty := .int) (C := RX3) (T := TX3) (N := 14) hx hb hts hinX3 tyX3 tyX3_ok nmX3 hown hK hP hD hS 0 rfl rfl 0 (by decide) (hts (.fieldLink RX3 37 "FeatureStoreModel" "thrown" "I") (by decide +kernel)) (fun _ h9 => h9) rfl (by decide +kernel) rfl rfl (Nat.le_of_ble_eq_true rfl) dX3_take_17 (fun H locs hP hD hS => ?_)
    have hP : va_P dD vwCl [(m0, .inr (3, [.int (nI 0), .int (nI (s_now σ)), .ref (a 0), .int (nI (s_n σ)), .ref (a 1), .ref (a 2), .ref (a 3), .ref (a 4), .int (nI (s_tk σ)), .ref (a 5), .int (nI (s_k σ)), .ref (a 6), .ref (a 7), .ref (a 8)])), (a 0, .inl (cI, 6, .inl (fun j => nI (s_lt σ j)))), (a 1, .inl (cI, 200, .inl (fun j => nI (s_pr σ j)))), (a 2, .inl (cI, 200, .inl (fun j => nI (s_ev σ j)))), (a 3, .inl (cI, 200, .inl (fun j => nI (s_ar σ j)))), (a 4, .inl (cI, 200, .inl (fun j => nI (s_vl σ j)))), (a 5, .inl (cI, 60, .inl (fun j => nI (s_cp σ j)))), (a 6, .inl (cI, 200, .inl (fun j => nI (s_sp σ j)))), (a 7, .inl (cI, 200, .inl (fun j => nI (s_sa σ j)))), (a 8, .inl (cI, 200, .inl (fun j => eN (s_sv σ j))))] H := hP
    have hD : va_D A [(m0, .inr (3, [.int (nI 0), .int (nI (s_now σ)), .ref (a 0), .int (nI (s_n σ)), .ref (a 1), .ref (a 2), .ref (a 3), .ref (a 4), .int (nI (s_tk σ)), .ref (a 5), .int (nI (s_k σ)), .ref (a 6), .ref (a 7), .ref (a 8)])), (a 0, .inl (cI, 6, .inl (fun j => nI (s_lt σ j)))), (a 1, .inl (cI, 200, .inl (fun j => nI (s_pr σ j)))), (a 2, .inl (cI, 200, .inl (fun j => nI (s_ev σ j)))), (a 3, .inl (cI, 200, .inl (fun j => nI (s_ar σ j)))), (a 4, .inl (cI, 200, .inl (fun j => nI (s_vl σ j)))), (a 5, .inl (cI, 60, .inl (fun j => nI (s_cp σ j)))), (a 6, .inl (cI, 200, .inl (fun j => nI (s_sp σ j)))), (a 7, .inl (cI, 200, .inl (fun j => nI (s_sa σ j)))), (a 8, .inl (cI, 200, .inl (fun j => eN (s_sv σ j))))] := hD
    refine lv_iconst (v := nI 0) hx hb dX3_take_20 (by decide +kernel) ?_
    refine lv_istore_n (lv' := [(2, .int (nI 0)), (0, .ref m0), (1, .int (nI cn))]) hx hb dX3_take_21 rfl hl (by decide) rfl (fun ls hl => ?_)
    have hlp : ∀ (d c_ : Nat) (σ2 : St), σ2 = q_take σ c_ → sI σ2 → s_tk σ2 = s_tk σ + c_ → s_n σ2 = s_n σ → c_ ≤ cn → s_n σ + 1 ≤ s_tk σ + c_ + d → ∀ (H : Heap) (locs : List Loc), va_P dD vwCl (mW cI m0 a 0 σ2) H → va_D A (mW cI m0 a 0 σ2) → va_S A s.heap H locs → ∀ (ls : Array Slot), lv_has ls 4 [(0, .ref m0), (1, .int (nI cn)), (2, .int (nI c_))] → W p l e_ (headSpec wsX3_take ({ frames := 1, cells := 0, slots := 0, locals := 22 })).room s m (([.ref m0, .int (nI cn)] : List Value).toArray) below meth c H locs 0 0 (MQ below (va_Qi (fun (r : Int32) (u : Nat × St) => R3 (rg (nI cn) 1 200) True σ (q_take σ (g_m σ (cl (nI cn)))) (nI (g_m σ (cl (nI cn)))) r u) (fun u t => va_P dD vwCl (mW cI m0 a u.1 u.2) t.heap) A) (([.ref m0, .int (nI cn)] : List Value).toArray) s 0 0 A) (F0 m 22 ls []) := by
      intro d
      induction d with
      | zero =>
        intro c_ σ2 hq_ hI2 ht_ hn_ hc_ hd_ H locs hP hD hS ls hl
        exact absurd hI2.2.2.1 (by omega)
      | succ d ih =>
        intro c_ σ2 hq_ hI2 ht_ hn_ hc_ hd_ H locs hP hD hS ls hl
        obtain ⟨i_now, i_n, i_tk, i_k, i_lt, i_row, i_cp, i_srv⟩ := id hI2
        refine lv_aload_n hx hb dX3_take_22 rfl (lv_at hl 0 rfl) ?_
        refine va_get (D := dD) (ci := 3) (v := .int (nI 0)) (C := RX3) (T := TX3) (N := 14) hx hb hts hinX3 hown hK hP 0 rfl rfl 0 (by decide) (hts (.fieldLink RX3 37 "FeatureStoreModel" "thrown" "I") (by decide +kernel)) (fun _ h9 => h9) rfl dX3_take_23 ?_
        refine nv_if_ne (tgt := 121) hx hb dX3_take_26 (by decide) (by decide) (fun c_26 => absurd c_26 (by decide)) (fun c_26 => ?_)
        refine lv_iload_n hx hb dX3_take_29 rfl (lv_at hl 2 rfl) ?_
        refine lv_iload_n hx hb dX3_take_30 rfl (lv_at hl 1 rfl) ?_
        refine nv_ge (tgt := 121) hx hb dX3_take_31 (by decide) (by omega) (by omega) (fun c_31 => ?_) (fun c_31 => ?_)
        · refine lv_iload_n hx hb dX3_take_121 rfl (lv_at hl 2 rfl) ?_
          exact W.iret (v := nI c_) hx hb hr (fun u9 hu9 hW => ⟨⟨nI c_, (0, σ2), rfl, Or.inl ⟨hr_6, trivial, by rw [cl_nI (by omega), show g_m σ cn = c_ from by unfold g_m; omega, ← hq_], by rw [cl_nI (by omega), show g_m σ cn = c_ from by unfold g_m; omega]⟩, by have h9 := hP; rw [← hu9] at h9; exact h9⟩, hS.F hu9⟩) hS.2.2 dX3_take_122
        · refine lv_aload_n hx hb dX3_take_34 rfl (lv_at hl 0 rfl) ?_
          refine va_get (D := dD) (ci := 3) (v := .int (nI (s_tk σ2))) (C := RX3) (T := TX3) (N := 14) hx hb hts hinX3 hown hK hP 0 rfl rfl 8 (by decide) (hts (.fieldLink RX3 80 "FeatureStoreModel" "taken" "I") (by decide +kernel)) (fun _ h9 => h9) rfl dX3_take_35 ?_
          refine lv_aload_n hx hb dX3_take_38 rfl (lv_at hl 0 rfl) ?_
          refine va_get (D := dD) (ci := 3) (v := .int (nI (s_n σ2))) (C := RX3) (T := TX3) (N := 14) hx hb hts hinX3 hown hK hP 0 rfl rfl 3 (by decide) (hts (.fieldLink RX3 53 "FeatureStoreModel" "rows" "I") (by decide +kernel)) (fun _ h9 => h9) rfl dX3_take_39 ?_
          refine nv_ge (tgt := 121) hx hb dX3_take_42 (by decide) (by omega) (by omega) (fun c_42 => ?_) (fun c_42 => ?_)
          · refine lv_iload_n hx hb dX3_take_121 rfl (lv_at hl 2 rfl) ?_
            exact W.iret (v := nI c_) hx hb hr (fun u9 hu9 hW => ⟨⟨nI c_, (0, σ2), rfl, Or.inl ⟨hr_6, trivial, by rw [cl_nI (by omega), show g_m σ cn = c_ from by unfold g_m; omega, ← hq_], by rw [cl_nI (by omega), show g_m σ cn = c_ from by unfold g_m; omega]⟩, by have h9 := hP; rw [← hu9] at h9; exact h9⟩, hS.F hu9⟩) hS.2.2 dX3_take_122
          · have hz_t : s_tk σ2 < s_n σ2 := by omega
            obtain ⟨hz_1, hz_2, hz_3, hz_4⟩ := i_row (s_tk σ2) hz_t
            obtain ⟨hz_5, hz_6⟩ := i_cp (s_pr σ2 (s_tk σ2)) hz_1
            refine lv_aload_n hx hb dX3_take_45 rfl (lv_at hl 0 rfl) ?_
            refine va_get (D := dD) (ci := 3) (v := .ref (a 5)) (C := RX3) (T := TX3) (N := 14) hx hb hts hinX3 hown hK hP 0 rfl rfl 9 (by decide) (hts (.fieldLink RX3 25 "FeatureStoreModel" "copy" "[I") (by decide +kernel)) (fun _ h9 => h9) rfl dX3_take_46 ?_
            refine lv_aload_n hx hb dX3_take_49 rfl (lv_at hl 0 rfl) ?_
            refine va_get (D := dD) (ci := 3) (v := .ref (a 1)) (C := RX3) (T := TX3) (N := 14) hx hb hts hinX3 hown hK hP 0 rfl rfl 4 (by decide) (hts (.fieldLink RX3 13 "FeatureStoreModel" "pair" "[I") (by decide +kernel)) (fun _ h9 => h9) rfl dX3_take_50 ?_
            refine lv_aload_n hx hb dX3_take_53 rfl (lv_at hl 0 rfl) ?_
            refine va_get (D := dD) (ci := 3) (v := .int (nI (s_tk σ2))) (C := RX3) (T := TX3) (N := 14) hx hb hts hinX3 hown hK hP 0 rfl rfl 8 (by decide) (hts (.fieldLink RX3 80 "FeatureStoreModel" "taken" "I") (by decide +kernel)) (fun _ h9 => h9) rfl dX3_take_54 ?_
            refine nv_iald (q0 := 2) (t0 := 0) (s_pr σ2) hx hb hK hP rfl rfl (by omega) (by decide) dX3_take_57 ?_
            refine nv_iald (q0 := 6) (t0 := 0) (s_cp σ2) hx hb hK hP rfl rfl (by omega) (by decide) dX3_take_58 ?_
            refine lv_iconst (v := nI 1) hx hb dX3_take_59 (by decide +kernel) ?_
            refine nv_isubN hx hb dX3_take_60 ?_
            refine lv_istore_n (lv' := [(3, .int (eN (s_cp σ2 (s_pr σ2 (s_tk σ2))))), (0, .ref m0), (1, .int (nI cn)), (2, .int (nI c_))]) hx hb dX3_take_61 rfl hl (by decide) rfl (fun ls hl => ?_)
            refine lv_iload_n hx hb dX3_take_62 rfl (lv_at hl 0 rfl) ?_
            refine lv_iconst (v := (-1)) hx hb dX3_take_63 (by decide +kernel) ?_
            refine nv_eqNone (tgt := 85) hx hb dX3_take_64 (by decide) (by omega) (fun c_64 => ?_) (fun c_64 => ?_)
            · refine lv_aload_n hx hb dX3_take_85 rfl (lv_at hl 1 rfl) ?_
              refine va_get (D := dD) (ci := 3) (v := .ref (a 5)) (C := RX3) (T := TX3) (N := 14) hx hb hts hinX3 hown hK hP 0 rfl rfl 9 (by decide) (hts (.fieldLink RX3 25 "FeatureStoreModel" "copy" "[I") (by decide +kernel)) (fun _ h9 => h9) rfl dX3_take_86 ?_
              refine lv_aload_n hx hb dX3_take_89 rfl (lv_at hl 1 rfl) ?_
              refine va_get (D := dD) (ci := 3) (v := .ref (a 1)) (C := RX3) (T := TX3) (N := 14) hx hb hts hinX3 hown hK hP 0 rfl rfl 4 (by decide) (hts (.fieldLink RX3 13 "FeatureStoreModel" "pair" "[I") (by decide +kernel)) (fun _ h9 => h9) rfl dX3_take_90 ?_
              refine lv_aload_n hx hb dX3_take_93 rfl (lv_at hl 1 rfl) ?_
              refine va_get (D := dD) (ci := 3) (v := .int (nI (s_tk σ2))) (C := RX3) (T := TX3) (N := 14) hx hb hts hinX3 hown hK hP 0 rfl rfl 8 (by decide) (hts (.fieldLink RX3 80 "FeatureStoreModel" "taken" "I") (by decide +kernel)) (fun _ h9 => h9) rfl dX3_take_94 ?_
              refine nv_iald (q0 := 2) (t0 := 0) (s_pr σ2) hx hb hK hP rfl rfl (by omega) (by decide) dX3_take_97 ?_
              refine lv_aload_n hx hb dX3_take_98 rfl (lv_at hl 1 rfl) ?_
              refine va_get (D := dD) (ci := 3) (v := .int (nI (s_tk σ2))) (C := RX3) (T := TX3) (N := 14) hx hb hts hinX3 hown hK hP 0 rfl rfl 8 (by decide) (hts (.fieldLink RX3 80 "FeatureStoreModel" "taken" "I") (by decide +kernel)) (fun _ h9 => h9) rfl dX3_take_99 ?_
              refine lv_iconst (v := nI 1) hx hb dX3_take_102 (by decide +kernel) ?_
              refine nv_iadd hx hb dX3_take_103 ?_
              refine nv_iast (q0 := 6) (t0 := 0) (s_cp σ2) hx hb hK hP hD hS rfl rfl (by omega) (by decide) dX3_take_104 (fun H locs hP hD hS => ?_)
              have hP : va_P dD vwCl [(m0, .inr (3, [.int (nI 0), .int (nI (s_now σ2)), .ref (a 0), .int (nI (s_n σ2)), .ref (a 1), .ref (a 2), .ref (a 3), .ref (a 4), .int (nI (s_tk σ2)), .ref (a 5), .int (nI (s_k σ2)), .ref (a 6), .ref (a 7), .ref (a 8)])), (a 0, .inl (cI, 6, .inl (fun j => nI (s_lt σ2 j)))), (a 1, .inl (cI, 200, .inl (fun j => nI (s_pr σ2 j)))), (a 2, .inl (cI, 200, .inl (fun j => nI (s_ev σ2 j)))), (a 3, .inl (cI, 200, .inl (fun j => nI (s_ar σ2 j)))), (a 4, .inl (cI, 200, .inl (fun j => nI (s_vl σ2 j)))), (a 5, .inl (cI, 60, .inl (fun j => nI ((uN (s_cp σ2) (s_pr σ2 (s_tk σ2)) ((s_tk σ2) + 1)) j)))), (a 6, .inl (cI, 200, .inl (fun j => nI (s_sp σ2 j)))), (a 7, .inl (cI, 200, .inl (fun j => nI (s_sa σ2 j)))), (a 8, .inl (cI, 200, .inl (fun j => eN (s_sv σ2 j))))] H := hP
              have hD : va_D A [(m0, .inr (3, [.int (nI 0), .int (nI (s_now σ2)), .ref (a 0), .int (nI (s_n σ2)), .ref (a 1), .ref (a 2), .ref (a 3), .ref (a 4), .int (nI (s_tk σ2)), .ref (a 5), .int (nI (s_k σ2)), .ref (a 6), .ref (a 7), .ref (a 8)])), (a 0, .inl (cI, 6, .inl (fun j => nI (s_lt σ2 j)))), (a 1, .inl (cI, 200, .inl (fun j => nI (s_pr σ2 j)))), (a 2, .inl (cI, 200, .inl (fun j => nI (s_ev σ2 j)))), (a 3, .inl (cI, 200, .inl (fun j => nI (s_ar σ2 j)))), (a 4, .inl (cI, 200, .inl (fun j => nI (s_vl σ2 j)))), (a 5, .inl (cI, 60, .inl (fun j => nI ((uN (s_cp σ2) (s_pr σ2 (s_tk σ2)) ((s_tk σ2) + 1)) j)))), (a 6, .inl (cI, 200, .inl (fun j => nI (s_sp σ2 j)))), (a 7, .inl (cI, 200, .inl (fun j => nI (s_sa σ2 j)))), (a 8, .inl (cI, 200, .inl (fun j => eN (s_sv σ2 j))))] := hD
              refine lv_aload_n hx hb dX3_take_105 rfl (lv_at hl 1 rfl) ?_
              refine lv_dup hx hb dX3_take_106 rfl ?_
              refine va_get (D := dD) (ci := 3) (v := .int (nI (s_tk σ2))) (C := RX3) (T := TX3) (N := 14) hx hb hts hinX3 hown hK hP 0 rfl rfl 8 (by decide) (hts (.fieldLink RX3 80 "FeatureStoreModel" "taken" "I") (by decide +kernel)) (fun _ h9 => h9) rfl dX3_take_107 ?_
              refine lv_iconst (v := nI 1) hx hb dX3_take_110 (by decide +kernel) ?_
              refine nv_iadd hx hb dX3_take_111 ?_
              refine va_put (D := dD) (ci := 3) (v := .int (nI ((s_tk σ2) + 1))) (ty := .int) (C := RX3) (T := TX3) (N := 14) hx hb hts hinX3 tyX3 tyX3_ok nmX3 hown hK hP hD hS 0 rfl rfl 8 (by decide) (hts (.fieldLink RX3 80 "FeatureStoreModel" "taken" "I") (by decide +kernel)) (fun _ h9 => h9) rfl (by decide +kernel) rfl rfl (Nat.le_of_ble_eq_true rfl) dX3_take_112 (fun H locs hP hD hS => ?_)
              have hP : va_P dD vwCl [(m0, .inr (3, [.int (nI 0), .int (nI (s_now σ2)), .ref (a 0), .int (nI (s_n σ2)), .ref (a 1), .ref (a 2), .ref (a 3), .ref (a 4), .int (nI ((s_tk σ2) + 1)), .ref (a 5), .int (nI (s_k σ2)), .ref (a 6), .ref (a 7), .ref (a 8)])), (a 0, .inl (cI, 6, .inl (fun j => nI (s_lt σ2 j)))), (a 1, .inl (cI, 200, .inl (fun j => nI (s_pr σ2 j)))), (a 2, .inl (cI, 200, .inl (fun j => nI (s_ev σ2 j)))), (a 3, .inl (cI, 200, .inl (fun j => nI (s_ar σ2 j)))), (a 4, .inl (cI, 200, .inl (fun j => nI (s_vl σ2 j)))), (a 5, .inl (cI, 60, .inl (fun j => nI ((uN (s_cp σ2) (s_pr σ2 (s_tk σ2)) ((s_tk σ2) + 1)) j)))), (a 6, .inl (cI, 200, .inl (fun j => nI (s_sp σ2 j)))), (a 7, .inl (cI, 200, .inl (fun j => nI (s_sa σ2 j)))), (a 8, .inl (cI, 200, .inl (fun j => eN (s_sv σ2 j))))] H := hP
              have hD : va_D A [(m0, .inr (3, [.int (nI 0), .int (nI (s_now σ2)), .ref (a 0), .int (nI (s_n σ2)), .ref (a 1), .ref (a 2), .ref (a 3), .ref (a 4), .int (nI ((s_tk σ2) + 1)), .ref (a 5), .int (nI (s_k σ2)), .ref (a 6), .ref (a 7), .ref (a 8)])), (a 0, .inl (cI, 6, .inl (fun j => nI (s_lt σ2 j)))), (a 1, .inl (cI, 200, .inl (fun j => nI (s_pr σ2 j)))), (a 2, .inl (cI, 200, .inl (fun j => nI (s_ev σ2 j)))), (a 3, .inl (cI, 200, .inl (fun j => nI (s_ar σ2 j)))), (a 4, .inl (cI, 200, .inl (fun j => nI (s_vl σ2 j)))), (a 5, .inl (cI, 60, .inl (fun j => nI ((uN (s_cp σ2) (s_pr σ2 (s_tk σ2)) ((s_tk σ2) + 1)) j)))), (a 6, .inl (cI, 200, .inl (fun j => nI (s_sp σ2 j)))), (a 7, .inl (cI, 200, .inl (fun j => nI (s_sa σ2 j)))), (a 8, .inl (cI, 200, .inl (fun j => eN (s_sv σ2 j))))] := hD
              refine lv_iinc (v := nI (c_ + 1)) (lv' := [(2, .int (nI (c_ + 1))), (3, .int (eN (s_cp σ2 (s_pr σ2 (s_tk σ2))))), (0, .ref m0), (1, .int (nI cn))]) hx hb dX3_take_115 hl (k := 3) rfl (nv_inc _ 1) (by decide) rfl (fun ls hl => ?_)
              refine lv_goto (tgt := 22) hx hb dX3_take_118 (by decide) ?_
              have e1 : q_take1 σ2 = setS (setS σ2 9 (uN (s_cp σ2) (s_pr σ2 (s_tk σ2)) (s_tk σ2 + 1))) 2 (fun _ => s_tk σ2 + 1) := by unfold q_take1; rw [if_pos (Or.inl c_64)]
              exact ih (c_ + 1) (q_take1 σ2) (congrArg q_take1 hq_) (sI_take1 hI2 hz_t) (by rw [tk1_2]; omega) (by rw [tk1_1]; omega) (by omega) (by omega) H locs (by rw [e1]; exact hP) (va_D_fst hD rfl) hS ls (lv_sub hl [2, 3, 0] rfl)
            · have hl : lv_has ls 4 [(3, .int (nI (s_cp σ2 (s_pr σ2 (s_tk σ2)) - 1))), (0, .ref m0), (1, .int (nI cn)), (2, .int (nI c_))] := by rw [← eN_pos c_64]; exact hl
              obtain ⟨hy_1, hy_2, hy_3, hy_4⟩ := i_row (s_cp σ2 (s_pr σ2 (s_tk σ2)) - 1) (by omega)
              refine lv_aload_n hx hb dX3_take_67 rfl (lv_at hl 1 rfl) ?_
              refine va_get (D := dD) (ci := 3) (v := .ref (a 2)) (C := RX3) (T := TX3) (N := 14) hx hb hts hinX3 hown hK hP 0 rfl rfl 5 (by decide) (hts (.fieldLink RX3 16 "FeatureStoreModel" "event" "[I") (by decide +kernel)) (fun _ h9 => h9) rfl dX3_take_68 ?_
              refine lv_iload_n hx hb dX3_take_71 rfl (lv_at hl 0 rfl) ?_
              refine nv_iald (q0 := 3) (t0 := 0) (s_ev σ2) hx hb hK hP rfl rfl (by omega) (by decide) dX3_take_72 ?_
              refine lv_aload_n hx hb dX3_take_73 rfl (lv_at hl 1 rfl) ?_
              refine va_get (D := dD) (ci := 3) (v := .ref (a 2)) (C := RX3) (T := TX3) (N := 14) hx hb hts hinX3 hown hK hP 0 rfl rfl 5 (by decide) (hts (.fieldLink RX3 16 "FeatureStoreModel" "event" "[I") (by decide +kernel)) (fun _ h9 => h9) rfl dX3_take_74 ?_
              refine lv_aload_n hx hb dX3_take_77 rfl (lv_at hl 1 rfl) ?_
              refine va_get (D := dD) (ci := 3) (v := .int (nI (s_tk σ2))) (C := RX3) (T := TX3) (N := 14) hx hb hts hinX3 hown hK hP 0 rfl rfl 8 (by decide) (hts (.fieldLink RX3 80 "FeatureStoreModel" "taken" "I") (by decide +kernel)) (fun _ h9 => h9) rfl dX3_take_78 ?_
              refine nv_iald (q0 := 3) (t0 := 0) (s_ev σ2) hx hb hK hP rfl rfl (by omega) (by decide) dX3_take_81 ?_
              refine nv_gt (tgt := 105) hx hb dX3_take_82 (by decide) (by omega) (by omega) (fun c_82 => ?_) (fun c_82 => ?_)
              · refine lv_aload_n hx hb dX3_take_105 rfl (lv_at hl 1 rfl) ?_
                refine lv_dup hx hb dX3_take_106 rfl ?_
                refine va_get (D := dD) (ci := 3) (v := .int (nI (s_tk σ2))) (C := RX3) (T := TX3) (N := 14) hx hb hts hinX3 hown hK hP 0 rfl rfl 8 (by decide) (hts (.fieldLink RX3 80 "FeatureStoreModel" "taken" "I") (by decide +kernel)) (fun _ h9 => h9) rfl dX3_take_107 ?_
                refine lv_iconst (v := nI 1) hx hb dX3_take_110 (by decide +kernel) ?_
                refine nv_iadd hx hb dX3_take_111 ?_
                refine va_put (D := dD) (ci := 3) (v := .int (nI ((s_tk σ2) + 1))) (ty := .int) (C := RX3) (T := TX3) (N := 14) hx hb hts hinX3 tyX3 tyX3_ok nmX3 hown hK hP hD hS 0 rfl rfl 8 (by decide) (hts (.fieldLink RX3 80 "FeatureStoreModel" "taken" "I") (by decide +kernel)) (fun _ h9 => h9) rfl (by decide +kernel) rfl rfl (Nat.le_of_ble_eq_true rfl) dX3_take_112 (fun H locs hP hD hS => ?_)
                have hP : va_P dD vwCl [(m0, .inr (3, [.int (nI 0), .int (nI (s_now σ2)), .ref (a 0), .int (nI (s_n σ2)), .ref (a 1), .ref (a 2), .ref (a 3), .ref (a 4), .int (nI ((s_tk σ2) + 1)), .ref (a 5), .int (nI (s_k σ2)), .ref (a 6), .ref (a 7), .ref (a 8)])), (a 0, .inl (cI, 6, .inl (fun j => nI (s_lt σ2 j)))), (a 1, .inl (cI, 200, .inl (fun j => nI (s_pr σ2 j)))), (a 2, .inl (cI, 200, .inl (fun j => nI (s_ev σ2 j)))), (a 3, .inl (cI, 200, .inl (fun j => nI (s_ar σ2 j)))), (a 4, .inl (cI, 200, .inl (fun j => nI (s_vl σ2 j)))), (a 5, .inl (cI, 60, .inl (fun j => nI (s_cp σ2 j)))), (a 6, .inl (cI, 200, .inl (fun j => nI (s_sp σ2 j)))), (a 7, .inl (cI, 200, .inl (fun j => nI (s_sa σ2 j)))), (a 8, .inl (cI, 200, .inl (fun j => eN (s_sv σ2 j))))] H := hP
                have hD : va_D A [(m0, .inr (3, [.int (nI 0), .int (nI (s_now σ2)), .ref (a 0), .int (nI (s_n σ2)), .ref (a 1), .ref (a 2), .ref (a 3), .ref (a 4), .int (nI ((s_tk σ2) + 1)), .ref (a 5), .int (nI (s_k σ2)), .ref (a 6), .ref (a 7), .ref (a 8)])), (a 0, .inl (cI, 6, .inl (fun j => nI (s_lt σ2 j)))), (a 1, .inl (cI, 200, .inl (fun j => nI (s_pr σ2 j)))), (a 2, .inl (cI, 200, .inl (fun j => nI (s_ev σ2 j)))), (a 3, .inl (cI, 200, .inl (fun j => nI (s_ar σ2 j)))), (a 4, .inl (cI, 200, .inl (fun j => nI (s_vl σ2 j)))), (a 5, .inl (cI, 60, .inl (fun j => nI (s_cp σ2 j)))), (a 6, .inl (cI, 200, .inl (fun j => nI (s_sp σ2 j)))), (a 7, .inl (cI, 200, .inl (fun j => nI (s_sa σ2 j)))), (a 8, .inl (cI, 200, .inl (fun j => eN (s_sv σ2 j))))] := hD
                refine lv_iinc (v := nI (c_ + 1)) (lv' := [(2, .int (nI (c_ + 1))), (3, .int (nI (s_cp σ2 (s_pr σ2 (s_tk σ2)) - 1))), (0, .ref m0), (1, .int (nI cn))]) hx hb dX3_take_115 hl (k := 3) rfl (nv_inc _ 1) (by decide) rfl (fun ls hl => ?_)
                refine lv_goto (tgt := 22) hx hb dX3_take_118 (by decide) ?_
                have e1 : q_take1 σ2 = setS σ2 2 (fun _ => s_tk σ2 + 1) := by unfold q_take1; rw [if_neg (by omega)]
                exact ih (c_ + 1) (q_take1 σ2) (congrArg q_take1 hq_) (sI_take1 hI2 hz_t) (by rw [tk1_2]; omega) (by rw [tk1_1]; omega) (by omega) (by omega) H locs (by rw [e1]; exact hP) (va_D_fst hD rfl) hS ls (lv_sub hl [2, 3, 0] rfl)
              · refine lv_aload_n hx hb dX3_take_85 rfl (lv_at hl 1 rfl) ?_
                refine va_get (D := dD) (ci := 3) (v := .ref (a 5)) (C := RX3) (T := TX3) (N := 14) hx hb hts hinX3 hown hK hP 0 rfl rfl 9 (by decide) (hts (.fieldLink RX3 25 "FeatureStoreModel" "copy" "[I") (by decide +kernel)) (fun _ h9 => h9) rfl dX3_take_86 ?_
                refine lv_aload_n hx hb dX3_take_89 rfl (lv_at hl 1 rfl) ?_
                refine va_get (D := dD) (ci := 3) (v := .ref (a 1)) (C := RX3) (T := TX3) (N := 14) hx hb hts hinX3 hown hK hP 0 rfl rfl 4 (by decide) (hts (.fieldLink RX3 13 "FeatureStoreModel" "pair" "[I") (by decide +kernel)) (fun _ h9 => h9) rfl dX3_take_90 ?_
                refine lv_aload_n hx hb dX3_take_93 rfl (lv_at hl 1 rfl) ?_
                refine va_get (D := dD) (ci := 3) (v := .int (nI (s_tk σ2))) (C := RX3) (T := TX3) (N := 14) hx hb hts hinX3 hown hK hP 0 rfl rfl 8 (by decide) (hts (.fieldLink RX3 80 "FeatureStoreModel" "taken" "I") (by decide +kernel)) (fun _ h9 => h9) rfl dX3_take_94 ?_
                refine nv_iald (q0 := 2) (t0 := 0) (s_pr σ2) hx hb hK hP rfl rfl (by omega) (by decide) dX3_take_97 ?_
                refine lv_aload_n hx hb dX3_take_98 rfl (lv_at hl 1 rfl) ?_
                refine va_get (D := dD) (ci := 3) (v := .int (nI (s_tk σ2))) (C := RX3) (T := TX3) (N := 14) hx hb hts hinX3 hown hK hP 0 rfl rfl 8 (by decide) (hts (.fieldLink RX3 80 "FeatureStoreModel" "taken" "I") (by decide +kernel)) (fun _ h9 => h9) rfl dX3_take_99 ?_
                refine lv_iconst (v := nI 1) hx hb dX3_take_102 (by decide +kernel) ?_
                refine nv_iadd hx hb dX3_take_103 ?_
                refine nv_iast (q0 := 6) (t0 := 0) (s_cp σ2) hx hb hK hP hD hS rfl rfl (by omega) (by decide) dX3_take_104 (fun H locs hP hD hS => ?_)
                have hP : va_P dD vwCl [(m0, .inr (3, [.int (nI 0), .int (nI (s_now σ2)), .ref (a 0), .int (nI (s_n σ2)), .ref (a 1), .ref (a 2), .ref (a 3), .ref (a 4), .int (nI (s_tk σ2)), .ref (a 5), .int (nI (s_k σ2)), .ref (a 6), .ref (a 7), .ref (a 8)])), (a 0, .inl (cI, 6, .inl (fun j => nI (s_lt σ2 j)))), (a 1, .inl (cI, 200, .inl (fun j => nI (s_pr σ2 j)))), (a 2, .inl (cI, 200, .inl (fun j => nI (s_ev σ2 j)))), (a 3, .inl (cI, 200, .inl (fun j => nI (s_ar σ2 j)))), (a 4, .inl (cI, 200, .inl (fun j => nI (s_vl σ2 j)))), (a 5, .inl (cI, 60, .inl (fun j => nI ((uN (s_cp σ2) (s_pr σ2 (s_tk σ2)) ((s_tk σ2) + 1)) j)))), (a 6, .inl (cI, 200, .inl (fun j => nI (s_sp σ2 j)))), (a 7, .inl (cI, 200, .inl (fun j => nI (s_sa σ2 j)))), (a 8, .inl (cI, 200, .inl (fun j => eN (s_sv σ2 j))))] H := hP
                have hD : va_D A [(m0, .inr (3, [.int (nI 0), .int (nI (s_now σ2)), .ref (a 0), .int (nI (s_n σ2)), .ref (a 1), .ref (a 2), .ref (a 3), .ref (a 4), .int (nI (s_tk σ2)), .ref (a 5), .int (nI (s_k σ2)), .ref (a 6), .ref (a 7), .ref (a 8)])), (a 0, .inl (cI, 6, .inl (fun j => nI (s_lt σ2 j)))), (a 1, .inl (cI, 200, .inl (fun j => nI (s_pr σ2 j)))), (a 2, .inl (cI, 200, .inl (fun j => nI (s_ev σ2 j)))), (a 3, .inl (cI, 200, .inl (fun j => nI (s_ar σ2 j)))), (a 4, .inl (cI, 200, .inl (fun j => nI (s_vl σ2 j)))), (a 5, .inl (cI, 60, .inl (fun j => nI ((uN (s_cp σ2) (s_pr σ2 (s_tk σ2)) ((s_tk σ2) + 1)) j)))), (a 6, .inl (cI, 200, .inl (fun j => nI (s_sp σ2 j)))), (a 7, .inl (cI, 200, .inl (fun j => nI (s_sa σ2 j)))), (a 8, .inl (cI, 200, .inl (fun j => eN (s_sv σ2 j))))] := hD
                refine lv_aload_n hx hb dX3_take_105 rfl (lv_at hl 1 rfl) ?_
                refine lv_dup hx hb dX3_take_106 rfl ?_
                refine va_get (D := dD) (ci := 3) (v := .int (nI (s_tk σ2))) (C := RX3) (T := TX3) (N := 14) hx hb hts hinX3 hown hK hP 0 rfl rfl 8 (by decide) (hts (.fieldLink RX3 80 "FeatureStoreModel" "taken" "I") (by decide +kernel)) (fun _ h9 => h9) rfl dX3_take_107 ?_
                refine lv_iconst (v := nI 1) hx hb dX3_take_110 (by decide +kernel) ?_
                refine nv_iadd hx hb dX3_take_111 ?_
                refine va_put (D := dD) (ci := 3) (v := .int (nI ((s_tk σ2) + 1))) (ty := .int) (C := RX3) (T := TX3) (N := 14) hx hb hts hinX3 tyX3 tyX3_ok nmX3 hown hK hP hD hS 0 rfl rfl 8 (by decide) (hts (.fieldLink RX3 80 "FeatureStoreModel" "taken" "I") (by decide +kernel)) (fun _ h9 => h9) rfl (by decide +kernel) rfl rfl (Nat.le_of_ble_eq_true rfl) dX3_take_112 (fun H locs hP hD hS => ?_)
                have hP : va_P dD vwCl [(m0, .inr (3, [.int (nI 0), .int (nI (s_now σ2)), .ref (a 0), .int (nI (s_n σ2)), .ref (a 1), .ref (a 2), .ref (a 3), .ref (a 4), .int (nI ((s_tk σ2) + 1)), .ref (a 5), .int (nI (s_k σ2)), .ref (a 6), .ref (a 7), .ref (a 8)])), (a 0, .inl (cI, 6, .inl (fun j => nI (s_lt σ2 j)))), (a 1, .inl (cI, 200, .inl (fun j => nI (s_pr σ2 j)))), (a 2, .inl (cI, 200, .inl (fun j => nI (s_ev σ2 j)))), (a 3, .inl (cI, 200, .inl (fun j => nI (s_ar σ2 j)))), (a 4, .inl (cI, 200, .inl (fun j => nI (s_vl σ2 j)))), (a 5, .inl (cI, 60, .inl (fun j => nI ((uN (s_cp σ2) (s_pr σ2 (s_tk σ2)) ((s_tk σ2) + 1)) j)))), (a 6, .inl (cI, 200, .inl (fun j => nI (s_sp σ2 j)))), (a 7, .inl (cI, 200, .inl (fun j => nI (s_sa σ2 j)))), (a 8, .inl (cI, 200, .inl (fun j => eN (s_sv σ2 j))))] H := hP
                have hD : va_D A [(m0, .inr (3, [.int (nI 0), .int (nI (s_now σ2)), .ref (a 0), .int (nI (s_n σ2)), .ref (a 1), .ref (a 2), .ref (a 3), .ref (a 4), .int (nI ((s_tk σ2) + 1)), .ref (a 5), .int (nI (s_k σ2)), .ref (a 6), .ref (a 7), .ref (a 8)])), (a 0, .inl (cI, 6, .inl (fun j => nI (s_lt σ2 j)))), (a 1, .inl (cI, 200, .inl (fun j => nI (s_pr σ2 j)))), (a 2, .inl (cI, 200, .inl (fun j => nI (s_ev σ2 j)))), (a 3, .inl (cI, 200, .inl (fun j => nI (s_ar σ2 j)))), (a 4, .inl (cI, 200, .inl (fun j => nI (s_vl σ2 j)))), (a 5, .inl (cI, 60, .inl (fun j => nI ((uN (s_cp σ2) (s_pr σ2 (s_tk σ2)) ((s_tk σ2) + 1)) j)))), (a 6, .inl (cI, 200, .inl (fun j => nI (s_sp σ2 j)))), (a 7, .inl (cI, 200, .inl (fun j => nI (s_sa σ2 j)))), (a 8, .inl (cI, 200, .inl (fun j => eN (s_sv σ2 j))))] := hD
                refine lv_iinc (v := nI (c_ + 1)) (lv' := [(2, .int (nI (c_ + 1))), (3, .int (nI (s_cp σ2 (s_pr σ2 (s_tk σ2)) - 1))), (0, .ref m0), (1, .int (nI cn))]) hx hb dX3_take_115 hl (k := 3) rfl (nv_inc _ 1) (by decide) rfl (fun ls hl => ?_)
                refine lv_goto (tgt := 22) hx hb dX3_take_118 (by decide) ?_
                have e1 : q_take1 σ2 = setS (setS σ2 9 (uN (s_cp σ2) (s_pr σ2 (s_tk σ2)) (s_tk σ2 + 1))) 2 (fun _ => s_tk σ2 + 1) := by unfold q_take1; rw [if_pos (Or.inr (by omega))]
                exact ih (c_ + 1) (q_take1 σ2) (congrArg q_take1 hq_) (sI_take1 hI2 hz_t) (by rw [tk1_2]; omega) (by rw [tk1_1]; omega) (by omega) (by omega) H locs (by rw [e1]; exact hP) (va_D_fst hD rfl) hS ls (lv_sub hl [2, 3, 0] rfl)
    exact hlp (s_n σ + 1) 0 σ rfl hI rfl rfl (Nat.zero_le _) (by omega) H locs hP (va_D_fst hD rfl) hS ls (lv_sub hl [1, 2, 0] rfl)
  · refine nv_if_eq (tgt := 16) hx hb dX3_take_9 (by decide) (by decide) (fun c_9 => ?_) (fun c_9 => absurd c_9 (by decide))
    refine lv_iconst (v := nI 1) hx hb dX3_take_16 (by decide +kernel) ?_
    refine va_put (D := dD) (ci := 3) (v := .int (nI 1)) (ty := .int) (C := RX3) (T := TX3) (N := 14) hx hb hts hinX3 tyX3 tyX3_ok nmX3 hown hK hP hD hS 0 rfl rfl 0 (by decide) (hts (.fieldLink RX3 37 "FeatureStoreModel" "thrown" "I") (by decide +kernel)) (fun _ h9 => h9) rfl (by decide +kernel) rfl rfl (Nat.le_of_ble_eq_true rfl) dX3_take_17 (fun H locs hP hD hS => ?_)
    have hP : va_P dD vwCl [(m0, .inr (3, [.int (nI 1), .int (nI (s_now σ)), .ref (a 0), .int (nI (s_n σ)), .ref (a 1), .ref (a 2), .ref (a 3), .ref (a 4), .int (nI (s_tk σ)), .ref (a 5), .int (nI (s_k σ)), .ref (a 6), .ref (a 7), .ref (a 8)])), (a 0, .inl (cI, 6, .inl (fun j => nI (s_lt σ j)))), (a 1, .inl (cI, 200, .inl (fun j => nI (s_pr σ j)))), (a 2, .inl (cI, 200, .inl (fun j => nI (s_ev σ j)))), (a 3, .inl (cI, 200, .inl (fun j => nI (s_ar σ j)))), (a 4, .inl (cI, 200, .inl (fun j => nI (s_vl σ j)))), (a 5, .inl (cI, 60, .inl (fun j => nI (s_cp σ j)))), (a 6, .inl (cI, 200, .inl (fun j => nI (s_sp σ j)))), (a 7, .inl (cI, 200, .inl (fun j => nI (s_sa σ j)))), (a 8, .inl (cI, 200, .inl (fun j => eN (s_sv σ j))))] H := hP
    have hD : va_D A [(m0, .inr (3, [.int (nI 1), .int (nI (s_now σ)), .ref (a 0), .int (nI (s_n σ)), .ref (a 1), .ref (a 2), .ref (a 3), .ref (a 4), .int (nI (s_tk σ)), .ref (a 5), .int (nI (s_k σ)), .ref (a 6), .ref (a 7), .ref (a 8)])), (a 0, .inl (cI, 6, .inl (fun j => nI (s_lt σ j)))), (a 1, .inl (cI, 200, .inl (fun j => nI (s_pr σ j)))), (a 2, .inl (cI, 200, .inl (fun j => nI (s_ev σ j)))), (a 3, .inl (cI, 200, .inl (fun j => nI (s_ar σ j)))), (a 4, .inl (cI, 200, .inl (fun j => nI (s_vl σ j)))), (a 5, .inl (cI, 60, .inl (fun j => nI (s_cp σ j)))), (a 6, .inl (cI, 200, .inl (fun j => nI (s_sp σ j)))), (a 7, .inl (cI, 200, .inl (fun j => nI (s_sa σ j)))), (a 8, .inl (cI, 200, .inl (fun j => eN (s_sv σ j))))] := hD
    refine lv_iconst (v := nI 0) hx hb dX3_take_20 (by decide +kernel) ?_
    refine lv_istore_n (lv' := [(2, .int (nI 0)), (0, .ref m0), (1, .int x)]) hx hb dX3_take_21 rfl hl (by decide) rfl (fun ls hl => ?_)
    refine lv_aload_n hx hb dX3_take_22 rfl (lv_at hl 1 rfl) ?_
    refine va_get (D := dD) (ci := 3) (v := .int (nI 1)) (C := RX3) (T := TX3) (N := 14) hx hb hts hinX3 hown hK hP 0 rfl rfl 0 (by decide) (hts (.fieldLink RX3 37 "FeatureStoreModel" "thrown" "I") (by decide +kernel)) (fun _ h9 => h9) rfl dX3_take_23 ?_
    refine nv_if_ne (tgt := 121) hx hb dX3_take_26 (by decide) (by decide) (fun c_26 => ?_) (fun c_26 => absurd c_26 (by decide))
    refine lv_iload_n hx hb dX3_take_121 rfl (lv_at hl 0 rfl) ?_
    exact W.iret (v := nI 0) hx hb hr (fun u9 hu9 hW => ⟨⟨nI 0, (1, σ), rfl, Or.inr (Or.inl ⟨hr_6, rfl⟩), by have h9 := hP; rw [← hu9] at h9; exact h9⟩, hS.F hu9⟩) hS.2.2 dX3_take_122
end
section
/-! the class's walks over its chains, as functions of lists; rows over references that may be null -/
def c_first (σ : St) (t k : Nat) : List Nat → Nat
  | [] => 0
  | x :: l => if s_ev σ x ≤ t ∧ s_ar σ x ≤ k then x + 1 else c_first σ t k l
def c_sum (σ : St) (a b : Nat) : List Nat → Nat
  | [] => 0
  | x :: l => (if a ≤ s_ev σ x ∧ s_ev σ x ≤ b then s_vl σ x else 0) + c_sum σ a b l
/-- what stands in the running sum behind a row -/
def c_s (σ : St) (len x s tl : Nat) : Nat := (if s_ev σ x / len + 1 = tl then s else 0) + s_vl σ x
def c_gt (σ : St) (len : Nat) : List Nat → Nat → Nat → Nat → Nat
  | [], g, _, _ => g
  | x :: l, g, s, tl => c_gt σ len l (max g (c_s σ len x s tl)) (c_s σ len x s tl) (s_ev σ x / len + 1)
def c_tl (σ : St) (len : Nat) : List Nat → Nat → Nat
  | [], _ => 0
  | x :: l, tl => (if s_ev σ x / len + 1 = tl then 0 else 1) + c_tl σ len l (s_ev σ x / len + 1)
def c_mb (e T : Nat) : Nat := (e + T - 1) / T
def c_ru (σ : St) (f x later : Nat) : Nat := min (min later (s_ev σ x + s_lt σ f + 1)) (s_ar σ x)
def c_rev (σ : St) (f T : Nat) : List Nat → Nat → Nat
  | [], _ => 0
  | x :: l, later => (if s_ev σ x < c_ru σ f x later then c_mb (c_ru σ f x later) T - c_mb (s_ev σ x) T else 0) + c_rev σ f T l (s_ev σ x)
section NVC
variable {p : Program} {l : Launch} {e : Env} {R : Room} {s : State} {m : MethodId} {args : Array Value} {below : List Frame} {meth : Method} {c : Code} {H : Heap} {locs : List Loc} {cells slots : Nat} {Q : State → Prop}
variable {cc : ByteArray} {pc : Nat} {ls : Array Slot} {rest st0 : List Value} {a : Array Value} {mc ms : Nat} {D : va_G} {cl : List vw_C} {tys : List (ClassId × FieldType)} {ws : va_W} {A : Nat → Prop} {H0 : Heap}
theorem nq_astore_n {o : Option Nat} {k : Fin 4} {i nL : Nat} {lv lv' : List (Nat × Value)} (hx : p.tables.exec = Jvm.exec) (hb : c.code = cc) (hdg : decode cc pc = .ok (.astore_n k, 1)) (hi : (k : Nat) = i) (h : lv_has ls nL lv) (hn : i < nL) (hl : (i, va_rf o) :: lv.filter (fun q => !(q.1 == i) && !(q.1 + 1 == i && q.2.category == 2)) = lv')
    (kk : ∀ ls' : Array Slot, lv_has ls' nL lv' → W p l e R s m args below meth c H locs cells slots Q (F0 m (pc + 1) ls' rest)) : W p l e R s m args below meth c H locs cells slots Q (F0 m pc ls (va_rf o :: rest)) := by
  cases o with
  | none => exact lv_astore_nN hx hb hdg hi h hn hl kk
  | some q => exact lv_astore_n hx hb hdg hi h hn hl kk
theorem nq_astore {o : Option Nat} {i nL : Nat} {lv lv' : List (Nat × Value)} (hx : p.tables.exec = Jvm.exec) (hb : c.code = cc) (hdg : decode cc pc = .ok (.astore i, 2)) (h : lv_has ls nL lv) (hn : i < nL) (hl : (i, va_rf o) :: lv.filter (fun q => !(q.1 == i) && !(q.1 + 1 == i && q.2.category == 2)) = lv')
    (kk : ∀ ls' : Array Slot, lv_has ls' nL lv' → W p l e R s m args below meth c H locs cells slots Q (F0 m (pc + 2) ls' rest)) : W p l e R s m args below meth c H locs cells slots Q (F0 m pc ls (va_rf o :: rest)) := by
  cases o with
  | none => exact lv_astoreN hx hb hdg h hn hl kk
  | some q => exact lv_astore hx hb hdg h hn hl kk
theorem nq_aald {q0 t0 q : Nat} {cA : ClassId} {C : String} {n i : Nat} (f : Nat → Option Nat) (hx : p.tables.exec = Jvm.exec) (hb : c.code = cc) (hK : va_K D cl tys s) (hP : va_P D cl ws H) (ha : ws[q0]? = some (q, .inl (cA, n, .inr (.inr (.inr (.inr f)))))) (ht : tys[t0]? = some (cA, .object C)) (hin : i < n) (hn : n < 2 ^ 31) (hdg : decode cc pc = .ok (.aaload, 1))
    (kk : W p l e R s m args below meth c H locs cells slots Q (F0 m (pc + 1) ls (va_rf (f i) :: rest))) : W p l e R s m args below meth c H locs cells slots Q (F0 m pc ls (.int (nI i) :: .ref q :: rest)) :=
  va_aldq hx hb hK hP q0 t0 ha ht (vp_in_nI hin hn) hdg (by rw [nI_clamp (Nat.lt_trans hin hn)]; exact kk)
theorem nq_aaldP {q0 t0 q : Nat} {cA : ClassId} {C : String} {n i z : Nat} (f : Nat → Nat) (hx : p.tables.exec = Jvm.exec) (hb : c.code = cc) (hK : va_K D cl tys s) (hP : va_P D cl ws H) (ha : ws[q0]? = some (q, .inl (cA, n, .inr (.inr (.inr (.inr (fun j => if j < z then some (f j) else none))))))) (ht : tys[t0]? = some (cA, .object C)) (hin : i < n) (hn : n < 2 ^ 31) (hz : i < z) (hdg : decode cc pc = .ok (.aaload, 1))
    (kk : W p l e R s m args below meth c H locs cells slots Q (F0 m (pc + 1) ls (.ref (f i) :: rest))) : W p l e R s m args below meth c H locs cells slots Q (F0 m pc ls (.int (nI i) :: .ref q :: rest)) :=
  nq_aald _ hx hb hK hP ha ht hin hn hdg (by simp only [if_pos hz]; exact kk)
theorem nv_max {own : String} {index : Nat} {x y : Nat} (hx : p.tables.exec = Jvm.exec) (hb : c.code = cc) (hml : c.maxLocals = ls.size) (hown : s.vm.findClass own = some m.cls) (hlink : (Cond.methodLink own index Lib.Math.max.name).before args s = true) (hstat : (Cond.static Lib.Math.max.name).before args s = true) (hini : (Cond.initialized "java/lang/Math").before args s = true) (hcode : (Cond.code Lib.Math.max.name Lib.Math.max.code 2 (some .int)).before args s = true)
    (hframes : 1 ≤ R.frames) (hlocals : (rest.map fun v => v.category).sum + 13 ≤ R.locals) (hc : cells ≤ R.cells) (hs : slots ≤ R.slots) (h1 : x < 2 ^ 31) (h2 : y < 2 ^ 31) (hdg : decode cc pc = .ok (.invokestatic index, 3))
    (kk : W p l e R s m args below meth c H locs cells slots Q (F0 m (pc + 3) ls (.int (nI (max x y)) :: rest))) : W p l e R s m args below meth c H locs cells slots Q (F0 m pc ls (.int (nI y) :: .int (nI x) :: rest)) :=
  va_mmax hx hb hml hown hlink hstat hini hcode hframes hlocals hc hs hdg (by
    by_cases h : nI x < nI y
    · rw [if_pos h]; rw [nI_ltI h1 h2] at h; rw [Nat.max_eq_right (Nat.le_of_lt h)] at kk; exact kk
    · rw [if_neg h]; rw [nI_ltI h1 h2] at h; rw [Nat.max_eq_left (Nat.not_lt.mp h)] at kk; exact kk)
theorem nv_min {own : String} {index : Nat} {x y : Nat} (hx : p.tables.exec = Jvm.exec) (hb : c.code = cc) (hml : c.maxLocals = ls.size) (hown : s.vm.findClass own = some m.cls) (hlink : (Cond.methodLink own index Lib.Math.min.name).before args s = true) (hstat : (Cond.static Lib.Math.min.name).before args s = true) (hini : (Cond.initialized "java/lang/Math").before args s = true) (hcode : (Cond.code Lib.Math.min.name Lib.Math.min.code 2 (some .int)).before args s = true)
    (hframes : 1 ≤ R.frames) (hlocals : (rest.map fun v => v.category).sum + 13 ≤ R.locals) (hc : cells ≤ R.cells) (hs : slots ≤ R.slots) (h1 : x < 2 ^ 31) (h2 : y < 2 ^ 31) (hdg : decode cc pc = .ok (.invokestatic index, 3))
    (kk : W p l e R s m args below meth c H locs cells slots Q (F0 m (pc + 3) ls (.int (nI (min x y)) :: rest))) : W p l e R s m args below meth c H locs cells slots Q (F0 m pc ls (.int (nI y) :: .int (nI x) :: rest)) :=
  va_mmin hx hb hml hown hlink hstat hini hcode hframes hlocals hc hs hdg (by
    by_cases h : nI y < nI x
    · rw [if_pos h]; rw [nI_ltI h2 h1] at h; rw [Nat.min_eq_right (Nat.le_of_lt h)] at kk; exact kk
    · rw [if_neg h]; rw [nI_ltI h2 h1] at h; rw [Nat.min_eq_left (Nat.not_lt.mp h)] at kk; exact kk)
end NVC
end
section
/-! the chains against the tables: what a walk over a chain finds is what the look through all rows finds -/
/-- events fall, rows differ -/
def srt (σ : St) (l : List Nat) : Prop := l.Pairwise (fun a b => s_ev σ b ≤ s_ev σ a ∧ a ≠ b)
theorem srt_ins {σ : St} {x : Nat} : ∀ {l : List Nat}, srt σ l → x ∉ l → srt σ (ins (s_ev σ) x l)
  | [], _, _ => by simp [ins, srt]
  | y :: l, h, hx => by
    have h1 := List.pairwise_cons.mp h
    have hxy : x ≠ y := fun e => hx (by rw [e]; exact List.mem_cons_self)
    have hxl : x ∉ l := fun e => hx (List.mem_cons_of_mem _ e)
    simp only [ins]
    split
    · rename_i hlt
      refine List.pairwise_cons.mpr ⟨fun z hz => ?_, srt_ins h1.2 hxl⟩
      rcases mem_ins.mp hz with rfl | hz
      · exact ⟨Nat.le_of_lt hlt, fun e => hxy e.symm⟩
      · exact h1.1 z hz
    · rename_i hge
      refine List.pairwise_cons.mpr ⟨fun z hz => ?_, h⟩
      rcases List.mem_cons.mp hz with rfl | hz2
      · exact ⟨Nat.not_lt.mp hge, hxy⟩
      · exact ⟨Nat.le_trans (h1.1 z hz2).1 (Nat.not_lt.mp hge), fun e => hxl (by rw [e]; exact hz2)⟩
theorem srt_chn (σ : St) (q : Nat) : ∀ n : Nat, srt σ (chn σ q n)
  | 0 => List.Pairwise.nil
  | n + 1 => by
    simp only [chn]
    split
    · exact srt_ins (srt_chn σ q n) (fun h => absurd (mem_chn.mp h).1 (Nat.lt_irrefl n))
    · exact srt_chn σ q n
theorem c_first_mem {σ : St} {t k r : Nat} : ∀ {l : List Nat}, c_first σ t k l = r + 1 → r ∈ l ∧ s_ev σ r ≤ t ∧ s_ar σ r ≤ k
  | [], h => by simp [c_first] at h
  | x :: l, h => by
    simp only [c_first] at h
    split at h
    · rename_i hx
      have : x = r := by omega
      subst this
      exact ⟨List.mem_cons_self, hx⟩
    · have := c_first_mem h
      exact ⟨List.mem_cons_of_mem _ this.1, this.2⟩
theorem c_first_ins {σ : St} {t k x : Nat} : ∀ {l : List Nat}, srt σ l → c_first σ t k (ins (s_ev σ) x l) = if s_ev σ x ≤ t ∧ s_ar σ x ≤ k ∧ (c_first σ t k l = 0 ∨ s_ev σ (c_first σ t k l - 1) ≤ s_ev σ x) then x + 1 else c_first σ t k l
  | [], _ => by
    simp only [ins, c_first]
    by_cases h : s_ev σ x ≤ t ∧ s_ar σ x ≤ k
    · rw [if_pos h, if_pos ⟨h.1, h.2, Or.inl trivial⟩]
    · rw [if_neg h, if_neg (fun z => h ⟨z.1, z.2.1⟩)]
  | y :: l, hs => by
    have h1 := List.pairwise_cons.mp hs
    simp only [ins]
    split
    · rename_i hlt
      simp only [c_first]
      by_cases hy : s_ev σ y ≤ t ∧ s_ar σ y ≤ k
      · simp only [if_pos hy]
        rw [if_neg]
        rintro ⟨-, -, h | h⟩
        · omega
        · rw [Nat.add_sub_cancel] at h; omega
      · simp only [if_neg hy]
        exact c_first_ins h1.2
    · rename_i hge
      by_cases hx : s_ev σ x ≤ t ∧ s_ar σ x ≤ k
      · rw [if_pos]
        · show (if _ then _ else _) = _
          rw [if_pos hx]
        · refine ⟨hx.1, hx.2, ?_⟩
          cases hc : c_first σ t k (y :: l) with
          | zero => exact Or.inl rfl
          | succ r =>
            refine Or.inr ?_
            rw [Nat.add_sub_cancel]
            rcases List.mem_cons.mp (c_first_mem hc).1 with e | e
            · rw [e]; omega
            · have := (h1.1 r e).1; omega
      · rw [if_neg (fun z => hx ⟨z.1, z.2.1⟩)]
        show (if _ then _ else _) = _
        rw [if_neg hx]
theorem c_first_best {σ : St} (q t k : Nat) : ∀ n : Nat, c_first σ t k (chn σ q n) = q_best σ q t k n
  | 0 => rfl
  | n + 1 => by
    have ih := c_first_best (σ := σ) q t k n
    simp only [chn, q_best]
    by_cases h : s_pr σ n = q
    · rw [if_pos h, c_first_ins (srt_chn σ q n), ih]
      by_cases h2 : s_ev σ n ≤ t ∧ s_ar σ n ≤ k ∧ (q_best σ q t k n = 0 ∨ s_ev σ (q_best σ q t k n - 1) ≤ s_ev σ n)
      · rw [if_pos h2, if_pos ⟨h, h2⟩]
      · rw [if_neg h2, if_neg (fun z => h2 z.2)]
    · rw [if_neg h, ih, if_neg (fun z => h z.1)]
theorem c_sum_ins {σ : St} (x y z : Nat) : ∀ l : List Nat, c_sum σ x y (ins (s_ev σ) z l) = (if x ≤ s_ev σ z ∧ s_ev σ z ≤ y then s_vl σ z else 0) + c_sum σ x y l
  | [] => rfl
  | w :: l => by
    simp only [ins]
    split
    · simp only [c_sum]
      rw [c_sum_ins x y z l]
      omega
    · rfl
theorem c_sum_sum {σ : St} (q x y : Nat) : ∀ n : Nat, c_sum σ x y (chn σ q n) = q_sum σ q x y n
  | 0 => rfl
  | n + 1 => by
    have ih := c_sum_sum (σ := σ) q x y n
    simp only [chn, q_sum]
    by_cases h : s_pr σ n = q
    · rw [if_pos h, c_sum_ins, ih]
      by_cases h2 : x ≤ s_ev σ n ∧ s_ev σ n ≤ y
      · rw [if_pos h2, if_pos ⟨h, h2⟩]; omega
      · rw [if_neg h2, if_neg (fun z => h2 z.2)]; omega
    · rw [if_neg h, ih, if_neg (fun z => h z.1)]
      rfl
-- tiles
theorem q_fst_iff {σ : St} {len row : Nat} : ∀ {r : Nat}, q_fst σ len row r = 1 ↔ ∀ j, j < r → ¬ (s_pr σ j = s_pr σ row ∧ s_ev σ j / len = s_ev σ row / len)
  | 0 => ⟨fun _ j hj => absurd hj (Nat.not_lt_zero j), fun _ => rfl⟩
  | r + 1 => by
    have ih := q_fst_iff (σ := σ) (len := len) (row := row) (r := r)
    simp only [q_fst]
    by_cases h : q_fst σ len row r = 1 ∧ (¬ s_pr σ r = s_pr σ row ∨ ¬ s_ev σ r / len = s_ev σ row / len)
    · rw [if_pos h]
      refine ⟨fun _ j hj => ?_, fun _ => rfl⟩
      rcases Nat.lt_or_ge j r with h1 | h1
      · exact ih.mp h.1 j h1
      · have : j = r := by omega
        subst this
        rintro ⟨e1, e2⟩
        rcases h.2 with h2 | h2
        · exact h2 e1
        · exact h2 e2
    · rw [if_neg h]
      refine ⟨fun z => absurd z (by decide), fun z => absurd ⟨ih.mpr (fun j hj => z j (by omega)), ?_⟩ h⟩
      have := z r (Nat.lt_succ_self r)
      by_cases e1 : s_pr σ r = s_pr σ row
      · exact Or.inr (fun e2 => this ⟨e1, e2⟩)
      · exact Or.inl e1
theorem tile_le {σ : St} {len a b : Nat} (h : s_ev σ a ≤ s_ev σ b) : s_ev σ a / len ≤ s_ev σ b / len := Nat.div_le_div_right h
theorem c_tl_ins {σ : St} {len x : Nat} : ∀ {l : List Nat} (tl : Nat), srt σ l → (tl = 0 ∨ ((∀ y ∈ l, s_ev σ y / len + 1 ≤ tl) ∧ s_ev σ x / len + 1 ≤ tl)) →
    ∀ (e : Nat), ((s_ev σ x / len + 1 = tl ∨ ∃ y ∈ l, s_ev σ y / len = s_ev σ x / len) → e = 0) → (¬ (s_ev σ x / len + 1 = tl ∨ ∃ y ∈ l, s_ev σ y / len = s_ev σ x / len) → e = 1) → c_tl σ len (ins (s_ev σ) x l) tl = c_tl σ len l tl + e
  | [], tl, _, _, e, h0, h1 => by
    simp only [ins, c_tl]
    by_cases h : s_ev σ x / len + 1 = tl
    · rw [if_pos h, h0 (Or.inl h)]
    · rw [if_neg h, h1 (by rintro (z | ⟨y, hy, -⟩); exact h z; cases hy)]
  | y :: l, tl, hs, hb, e, h0, h1 => by
    have hp := List.pairwise_cons.mp hs
    have hle : ∀ z ∈ l, s_ev σ z / len ≤ s_ev σ y / len := fun z hz => tile_le (hp.1 z hz).1
    simp only [ins]
    split
    · rename_i hlt
      have hxy : s_ev σ x / len ≤ s_ev σ y / len := tile_le (Nat.le_of_lt hlt)
      simp only [c_tl]
      rw [c_tl_ins (s_ev σ y / len + 1) hp.2 (Or.inr ⟨fun z hz => Nat.succ_le_succ (hle z hz), Nat.succ_le_succ hxy⟩) e (fun z => h0 ?_) (fun z => h1 (fun w => z ?_))]
      · omega
      · rcases z with z | ⟨w, hw, e2⟩
        · exact Or.inr ⟨y, List.mem_cons_self, by omega⟩
        · exact Or.inr ⟨w, List.mem_cons_of_mem _ hw, e2⟩
      · rcases w with w | ⟨w, hw, e2⟩
        · rcases hb with hb | ⟨hb1, hb2⟩
          · exact absurd (w.trans hb) (Nat.succ_ne_zero _)
          · have := hb1 y List.mem_cons_self
            exact Or.inl (by omega)
        · rcases List.mem_cons.mp hw with rfl | hw
          · exact Or.inl (by omega)
          · exact Or.inr ⟨w, hw, e2⟩
    · rename_i hge
      have hyx : s_ev σ y / len ≤ s_ev σ x / len := tile_le (Nat.not_lt.mp hge)
      simp only [c_tl]
      have hex : (∃ z ∈ y :: l, s_ev σ z / len = s_ev σ x / len) ↔ s_ev σ y / len = s_ev σ x / len := by
        constructor
        · rintro ⟨z, hz, e2⟩
          rcases List.mem_cons.mp hz with rfl | hz
          · exact e2
          · have := hle z hz; omega
        · intro e2; exact ⟨y, List.mem_cons_self, e2⟩
      rw [hex] at h0 h1
      by_cases h2 : s_ev σ x / len + 1 = tl
      · rw [h0 (Or.inl h2), if_pos h2]
        by_cases h3 : s_ev σ y / len = s_ev σ x / len
        · rw [if_pos (by omega), if_pos (by omega)]; omega
        · rw [if_neg (by omega), if_neg (by omega)]; omega
      · rw [if_neg h2]
        by_cases h3 : s_ev σ y / len = s_ev σ x / len
        · rw [h0 (Or.inr h3), if_pos (by omega), if_neg (by omega)]; omega
        · rw [h1 (by rintro (z | z); exact h2 z; exact h3 z), if_neg (by omega), if_neg (by
            intro h4
            rcases hb with hb | ⟨hb1, hb2⟩
            · exact absurd (h4.trans hb) (Nat.succ_ne_zero _)
            · omega)]; omega
theorem c_tl_n {σ : St} (q len : Nat) : ∀ n : Nat, c_tl σ len (chn σ q n) 0 = q_tl σ q len n
  | 0 => rfl
  | n + 1 => by
    have ih := c_tl_n (σ := σ) q len n
    simp only [chn, q_tl]
    by_cases h : s_pr σ n = q
    · rw [if_pos h]
      have hiff : (∃ y ∈ chn σ q n, s_ev σ y / len = s_ev σ n / len) ↔ ¬ q_fst σ len n n = 1 := by
        rw [q_fst_iff]
        constructor
        · rintro ⟨y, hy, e⟩ hall
          exact hall y (mem_chn.mp hy).1 ⟨by rw [(mem_chn.mp hy).2, h], e⟩
        · intro hn
          by_cases hq : ∃ y ∈ chn σ q n, s_ev σ y / len = s_ev σ n / len
          · exact hq
          · exact absurd (fun j hj hh => hq ⟨j, mem_chn.mpr ⟨hj, by rw [hh.1, h]⟩, hh.2⟩) hn
      rw [c_tl_ins 0 (srt_chn σ q n) (Or.inl rfl) (if s_pr σ n = q ∧ q_fst σ len n n = 1 then 1 else 0), ih]
      · rintro (z | z)
        · exact absurd z (Nat.succ_ne_zero _)
        · rw [if_neg (fun w => hiff.mp z w.2)]
      · intro z
        rw [if_pos ⟨h, by
          by_cases hq : q_fst σ len n n = 1
          · exact hq
          · exact absurd (Or.inr (hiff.mpr hq)) z⟩]
    · rw [if_neg h, ih, if_neg (fun z => h z.1)]
      rfl
theorem c_tl_tl {σ : St} (q len : Nat) (_ : 1 ≤ len) : c_tl σ len (chn σ q (s_n σ)) 0 = q_tl σ q len (s_n σ) := c_tl_n q len _
-- the greatest tile
/-- the sum of a tile's rows in a list -/
def tS (σ : St) (len : Nat) (l : List Nat) (t : Nat) : Nat := c_sum σ (t * len) (t * len + len - 1) l
theorem in_tile {len ev t : Nat} (hl : 1 ≤ len) : (t * len ≤ ev ∧ ev ≤ t * len + len - 1) ↔ ev / len = t := by
  constructor
  · rintro ⟨h1, h2⟩
    exact Nat.div_eq_of_lt_le h1 (by rw [Nat.succ_mul]; omega)
  · rintro rfl
    have h1 := Nat.div_mul_le_self ev len
    have h2 := Nat.lt_div_mul_add (a := ev) (b := len) (by omega)
    omega
theorem tS_cons {σ : St} {len x t : Nat} {l : List Nat} (hl : 1 ≤ len) : tS σ len (x :: l) t = (if s_ev σ x / len = t then s_vl σ x else 0) + tS σ len l t := by
  unfold tS
  simp only [c_sum]
  by_cases h : s_ev σ x / len = t
  · rw [if_pos h, if_pos ((in_tile hl).mpr h)]
  · rw [if_neg h, if_neg (fun z => h ((in_tile hl).mp z))]
theorem tS_none {σ : St} {len t : Nat} (hl : 1 ≤ len) : ∀ {l : List Nat}, (∀ y ∈ l, ¬ s_ev σ y / len = t) → tS σ len l t = 0
  | [], _ => rfl
  | x :: l, h => by
    rw [tS_cons hl, if_neg (h x List.mem_cons_self), tS_none hl (fun y hy => h y (List.mem_cons_of_mem _ hy))]
theorem c_gt_spec {σ : St} {len : Nat} (hl : 1 ≤ len) : ∀ {l : List Nat} (g s tl : Nat), srt σ l → (tl = 0 ∨ ∀ y ∈ l, s_ev σ y / len + 1 ≤ tl) →
    g ≤ c_gt σ len l g s tl ∧ (∀ y ∈ l, tS σ len l (s_ev σ y / len) + (if s_ev σ y / len + 1 = tl then s else 0) ≤ c_gt σ len l g s tl) ∧
    (c_gt σ len l g s tl ≤ g ∨ ∃ y ∈ l, c_gt σ len l g s tl ≤ tS σ len l (s_ev σ y / len) + (if s_ev σ y / len + 1 = tl then s else 0))
  | [], g, s, tl, _, _ => ⟨Nat.le_refl _, fun y hy => absurd hy List.not_mem_nil, Or.inl (Nat.le_refl _)⟩
  | x :: l, g, s, tl, hs, hb => by
    have hp := List.pairwise_cons.mp hs
    have hle : ∀ z ∈ l, s_ev σ z / len ≤ s_ev σ x / len := fun z hz => tile_le (hp.1 z hz).1
    obtain ⟨h1, h2, h3⟩ := c_gt_spec hl (l := l) (max g (c_s σ len x s tl)) (c_s σ len x s tl) (s_ev σ x / len + 1) hp.2 (Or.inr (fun y hy => Nat.succ_le_succ (hle y hy)))
    have hV : c_gt σ len (x :: l) g s tl = c_gt σ len l (max g (c_s σ len x s tl)) (c_s σ len x s tl) (s_ev σ x / len + 1) := rfl
    rw [hV]
    have hx0 : tS σ len (x :: l) (s_ev σ x / len) = s_vl σ x + tS σ len l (s_ev σ x / len) := by rw [tS_cons hl, if_pos rfl]
    have hsx : c_s σ len x s tl = (if s_ev σ x / len + 1 = tl then s else 0) + s_vl σ x := rfl
    have htot : tS σ len (x :: l) (s_ev σ x / len) + (if s_ev σ x / len + 1 = tl then s else 0) = tS σ len l (s_ev σ x / len) + c_s σ len x s tl := by rw [hx0, hsx]; omega
    have hne : ∀ y ∈ l, ¬ s_ev σ y / len = s_ev σ x / len → (if s_ev σ y / len + 1 = tl then s else 0) = 0 := by
      intro y hy hn
      rw [if_neg]
      intro h4
      have := hle y hy
      rcases hb with hb | hb
      · exact absurd (h4.trans hb) (Nat.succ_ne_zero _)
      · have := hb x List.mem_cons_self
        omega
    have hother : ∀ y ∈ l, ¬ s_ev σ y / len = s_ev σ x / len → tS σ len (x :: l) (s_ev σ y / len) = tS σ len l (s_ev σ y / len) := by
      intro y hy hn
      rw [tS_cons hl, if_neg (fun z => hn z.symm), Nat.zero_add]
    have hX : tS σ len l (s_ev σ x / len) + c_s σ len x s tl ≤ c_gt σ len l (max g (c_s σ len x s tl)) (c_s σ len x s tl) (s_ev σ x / len + 1) := by
      by_cases hq : ∃ z ∈ l, s_ev σ z / len = s_ev σ x / len
      · obtain ⟨z, hz, e⟩ := hq
        have := h2 z hz
        rw [e, if_pos rfl] at this
        exact this
      · rw [tS_none hl (fun y hy e => hq ⟨y, hy, e⟩), Nat.zero_add]
        omega
    refine ⟨by omega, ?_, ?_⟩
    · intro y hy
      by_cases e : s_ev σ y / len = s_ev σ x / len
      · rw [e, htot]; exact hX
      · rcases List.mem_cons.mp hy with rfl | hy
        · exact absurd rfl e
        · rw [hother y hy e, hne y hy e]
          have := h2 y hy
          rw [if_neg (by omega)] at this
          exact this
    · rcases h3 with h3 | ⟨y, hy, h3⟩
      · rcases Nat.le_total (c_s σ len x s tl) g with hg | hg
        · exact Or.inl (by rw [Nat.max_eq_left hg] at h3 ⊢; exact h3)
        · refine Or.inr ⟨x, List.mem_cons_self, ?_⟩
          rw [htot]
          rw [Nat.max_eq_right hg] at h3 ⊢
          omega
      · by_cases e : s_ev σ y / len = s_ev σ x / len
        · refine Or.inr ⟨x, List.mem_cons_self, ?_⟩
          rw [e, if_pos rfl] at h3
          rw [htot]; exact h3
        · refine Or.inr ⟨y, List.mem_cons_of_mem _ hy, ?_⟩
          rw [hother y hy e, hne y hy e]
          rw [if_neg (by omega)] at h3
          exact h3
theorem q_its_pos {σ : St} {q len r : Nat} (h1 : s_pr σ r = q) (h2 : q_fst σ len r r = 1) : q_its σ q len r = tS σ len (chn σ q (s_n σ)) (s_ev σ r / len) := by
  unfold q_its tS
  rw [if_pos ⟨h1, h2⟩, c_sum_sum]
theorem q_gt_spec {σ : St} {q len : Nat} : ∀ r : Nat, (∀ y, y < r → s_pr σ y = q → q_fst σ len y y = 1 → tS σ len (chn σ q (s_n σ)) (s_ev σ y / len) ≤ q_gt σ q len r) ∧
    (q_gt σ q len r = 0 ∨ ∃ y, y < r ∧ s_pr σ y = q ∧ q_gt σ q len r = tS σ len (chn σ q (s_n σ)) (s_ev σ y / len))
  | 0 => ⟨fun y hy => absurd hy (Nat.not_lt_zero y), Or.inl rfl⟩
  | r + 1 => by
    obtain ⟨h1, h2⟩ := q_gt_spec (σ := σ) (q := q) (len := len) r
    have hge : q_gt σ q len r ≤ q_gt σ q len (r + 1) ∧ q_its σ q len r ≤ q_gt σ q len (r + 1) := by
      simp only [q_gt]
      split <;> omega
    refine ⟨fun y hy e1 e2 => ?_, ?_⟩
    · rcases Nat.lt_or_ge y r with h3 | h3
      · exact Nat.le_trans (h1 y h3 e1 e2) hge.1
      · have : y = r := by omega
        subst this
        rw [← q_its_pos e1 e2]
        exact hge.2
    · by_cases h3 : q_gt σ q len r < q_its σ q len r
      · have h4 : q_gt σ q len (r + 1) = q_its σ q len r := by simp only [q_gt]; rw [if_pos h3]
        by_cases h5 : s_pr σ r = q ∧ q_fst σ len r r = 1
        · exact Or.inr ⟨r, Nat.lt_succ_self r, h5.1, by rw [h4, q_its_pos h5.1 h5.2]⟩
        · have : q_its σ q len r = 0 := by unfold q_its; rw [if_neg h5]
          omega
      · have h4 : q_gt σ q len (r + 1) = q_gt σ q len r := by simp only [q_gt]; rw [if_neg h3]
        rw [h4]
        rcases h2 with h2 | ⟨y, hy, h5, h6⟩
        · exact Or.inl h2
        · exact Or.inr ⟨y, by omega, h5, h6⟩
/-- every row has a first one in its tile -/
theorem q_fst_ex {σ : St} {len : Nat} (y : Nat) : ∃ j, j ≤ y ∧ s_pr σ j = s_pr σ y ∧ s_ev σ j / len = s_ev σ y / len ∧ q_fst σ len j j = 1 := by
  induction y using Nat.strongRecOn with
  | ind y ih =>
    by_cases h : q_fst σ len y y = 1
    · exact ⟨y, Nat.le_refl _, rfl, rfl, h⟩
    · have h2 : ∃ j, j < y ∧ s_pr σ j = s_pr σ y ∧ s_ev σ j / len = s_ev σ y / len := by
        by_cases hq : ∃ j, j < y ∧ s_pr σ j = s_pr σ y ∧ s_ev σ j / len = s_ev σ y / len
        · exact hq
        · exact absurd (q_fst_iff.mpr (fun j hj hh => hq ⟨j, hj, hh.1, hh.2⟩)) h
      obtain ⟨j, hj, e1, e2⟩ := h2
      obtain ⟨i, hi, e3, e4, e5⟩ := ih j hj
      exact ⟨i, by omega, e3.trans e1, e4.trans e2, e5⟩
theorem c_gt_gt {σ : St} (q len : Nat) (hl : 1 ≤ len) : c_gt σ len (chn σ q (s_n σ)) 0 0 0 = q_gt σ q len (s_n σ) := by
  obtain ⟨-, h2, h3⟩ := c_gt_spec (σ := σ) hl (l := chn σ q (s_n σ)) 0 0 0 (srt_chn σ q _) (Or.inl rfl)
  obtain ⟨g1, g2⟩ := q_gt_spec (σ := σ) (q := q) (len := len) (s_n σ)
  apply Nat.le_antisymm
  · rcases h3 with h3 | ⟨y, hy, h3⟩
    · omega
    · rw [if_neg (Nat.succ_ne_zero _), Nat.add_zero] at h3
      obtain ⟨hy1, hy2⟩ := mem_chn.mp hy
      obtain ⟨j, hj, e1, e2, e3⟩ := q_fst_ex (σ := σ) (len := len) y
      have := g1 j (by omega) (by rw [e1, hy2]) e3
      rw [e2] at this
      omega
  · rcases g2 with g2 | ⟨y, hy, e1, g2⟩
    · omega
    · have := h2 y (mem_chn.mpr ⟨hy, e1⟩)
      rw [if_neg (Nat.succ_ne_zero _)] at this
      omega
-- revised
def sumD (D : Nat → Nat) (T : Nat) : Nat → Nat
  | 0 => 0
  | j + 1 => sumD D T j + D (j * T)
theorem sumD_congr {D D' : Nat → Nat} {T : Nat} : ∀ {n : Nat}, (∀ j, j < n → D (j * T) = D' (j * T)) → sumD D T n = sumD D' T n
  | 0, _ => rfl
  | n + 1, h => by
    simp only [sumD]
    rw [sumD_congr (fun j hj => h j (by omega)), h n (Nat.lt_succ_self n)]
theorem mb_lt {e T j : Nat} (hT : 1 ≤ T) : j < c_mb e T ↔ j * T < e := by
  unfold c_mb
  rw [Nat.lt_iff_add_one_le, Nat.le_div_iff_mul_le (by omega), Nat.succ_mul]
  omega
theorem c_mb_le {x y T : Nat} (h : x ≤ y) : c_mb x T ≤ c_mb y T := Nat.div_le_div_right (by omega)
theorem sumD_range {D : Nat → Nat} {T a b m : Nat} (hT : 1 ≤ T) : ∀ i : Nat, c_mb a T + i ≤ m → (∀ j, c_mb a T ≤ j → j < m → D (j * T) = if j * T < b then 1 else 0) → sumD D T (c_mb a T + i) = sumD D T (c_mb a T) + (min (c_mb a T + i) (c_mb b T) - c_mb a T)
  | 0, _, _ => by
    show sumD D T (c_mb a T) = sumD D T (c_mb a T) + (min (c_mb a T) (c_mb b T) - c_mb a T)
    omega
  | i + 1, h, hD => by
    have ih := sumD_range (b := b) hT i (by omega) hD
    show sumD D T (c_mb a T + i) + D ((c_mb a T + i) * T) = _
    rw [ih, hD (c_mb a T + i) (by omega) (by omega)]
    by_cases hb : (c_mb a T + i) * T < b
    · rw [if_pos hb]
      have := (mb_lt hT).mpr hb
      omega
    · rw [if_neg hb]
      have : ¬ c_mb a T + i < c_mb b T := fun z => hb ((mb_lt hT).mp z)
      omega
/-- whether the answer at t was revised, over a chain -/
def dL (σ : St) (l : List Nat) (t : Nat) : Nat := if q_fr σ (c_first σ t (s_now σ) l) t = q_fr σ (c_first σ t t l) t then 0 else 1
theorem dL_low {σ : St} {x t : Nat} {l : List Nat} (h : t < s_ev σ x) : dL σ (x :: l) t = dL σ l t := by
  have a1 : ∀ k, c_first σ t k (x :: l) = c_first σ t k l := fun k => by
    simp only [c_first]
    rw [if_neg (by omega)]
  unfold dL
  rw [a1, a1]
theorem dL_high {σ : St} {x t f : Nat} {l : List Nat} (hs : srt σ (x :: l)) (hf : s_pr σ x / 10 = f) (hfl : ∀ y ∈ l, s_pr σ y / 10 = f) (har : s_ar σ x ≤ s_now σ) (h : s_ev σ x ≤ t) : dL σ (x :: l) t = if t < min (s_ev σ x + s_lt σ f + 1) (s_ar σ x) then 1 else 0 := by
  have hp := List.pairwise_cons.mp hs
  have a1 : c_first σ t (s_now σ) (x :: l) = x + 1 := by
    simp only [c_first]
    rw [if_pos ⟨h, har⟩]
  unfold dL
  rw [a1]
  by_cases h1 : s_ar σ x ≤ t
  · have a2 : c_first σ t t (x :: l) = x + 1 := by
      simp only [c_first]
      rw [if_pos ⟨h, h1⟩]
    rw [a2, if_pos rfl, if_neg (by omega)]
  · have a2 : c_first σ t t (x :: l) = c_first σ t t l := by
      simp only [c_first]
      rw [if_neg (by omega)]
    rw [a2]
    have hx : q_fr σ (x + 1) t = if t ≤ s_ev σ x + s_lt σ f then x + 1 else 0 := by
      unfold q_fr
      rw [if_neg (Nat.succ_ne_zero x), Nat.add_sub_cancel, hf]
    have ho : q_fr σ (c_first σ t t l) t ≠ x + 1 ∧ (¬ t ≤ s_ev σ x + s_lt σ f → q_fr σ (c_first σ t t l) t = 0) := by
      cases hc : c_first σ t t l with
      | zero => exact ⟨by simp [q_fr], fun _ => by simp [q_fr]⟩
      | succ r =>
        obtain ⟨hm, -, -⟩ := c_first_mem hc
        have hr := hp.1 r hm
        unfold q_fr
        rw [if_neg (Nat.succ_ne_zero r), Nat.add_sub_cancel, hfl r hm]
        constructor
        · split
          · have := hr.2; omega
          · omega
        · intro hn
          rw [if_neg (by omega)]
    rw [hx]
    by_cases h2 : t ≤ s_ev σ x + s_lt σ f
    · rw [if_pos h2, if_neg (fun z => ho.1 z.symm), if_pos (by omega)]
    · rw [if_neg h2, ho.2 h2, if_pos rfl, if_neg (by omega)]
theorem c_rev_sum {σ : St} {f T : Nat} (hT : 1 ≤ T) : ∀ {l : List Nat} (later : Nat), srt σ l → (∀ y ∈ l, s_pr σ y / 10 = f ∧ s_ar σ y ≤ s_now σ ∧ s_ev σ y ≤ later) → c_rev σ f T l later = sumD (dL σ l) T (c_mb later T)
  | [], later, _, _ => by
    show 0 = _
    have : ∀ n, sumD (dL σ []) T n = 0 := by
      intro n
      induction n with
      | zero => rfl
      | succ n ih => simp only [sumD, ih]; simp [dL, c_first]
    rw [this]
  | x :: l, later, hs, hb => by
    have hp := List.pairwise_cons.mp hs
    obtain ⟨hf, har, hev⟩ := hb x List.mem_cons_self
    have hfl : ∀ y ∈ l, s_pr σ y / 10 = f := fun y hy => (hb y (List.mem_cons_of_mem _ hy)).1
    have ih := c_rev_sum (σ := σ) (f := f) hT (l := l) (s_ev σ x) hp.2 (fun y hy => ⟨hfl y hy, (hb y (List.mem_cons_of_mem _ hy)).2.1, (hp.1 y hy).1⟩)
    have hm := c_mb_le (T := T) hev
    have hr := sumD_range (D := dL σ (x :: l)) (a := s_ev σ x) (b := min (s_ev σ x + s_lt σ f + 1) (s_ar σ x)) (m := c_mb later T) hT (c_mb later T - c_mb (s_ev σ x) T) (by omega) (fun j h1 h2 => dL_high hs hf hfl har (by
      have : ¬ j < c_mb (s_ev σ x) T := by omega
      rw [mb_lt hT] at this
      omega))
    rw [show c_mb (s_ev σ x) T + (c_mb later T - c_mb (s_ev σ x) T) = c_mb later T from by omega] at hr
    rw [hr, sumD_congr (D' := dL σ l) (fun j hj => dL_low ((mb_lt hT).mp hj)), ← ih]
    simp only [c_rev]
    have hru : c_ru σ f x later = min later (min (s_ev σ x + s_lt σ f + 1) (s_ar σ x)) := by unfold c_ru; omega
    rw [hru]
    have hmin : c_mb (min later (min (s_ev σ x + s_lt σ f + 1) (s_ar σ x))) T = min (c_mb later T) (c_mb (min (s_ev σ x + s_lt σ f + 1) (s_ar σ x)) T) := by
      rcases Nat.le_total later (min (s_ev σ x + s_lt σ f + 1) (s_ar σ x)) with h | h
      · rw [Nat.min_eq_left h, Nat.min_eq_left (c_mb_le h)]
      · rw [Nat.min_eq_right h, Nat.min_eq_right (c_mb_le h)]
    rw [hmin]
    split
    · omega
    · rename_i hn
      have := c_mb_le (T := T) (Nat.not_lt.mp hn)
      rw [hmin] at this
      omega
theorem q_rev_sum {σ : St} (q T : Nat) : ∀ j : Nat, q_rev σ q T j = sumD (dL σ (chn σ q (s_n σ))) T j
  | 0 => rfl
  | j + 1 => by
    simp only [q_rev, sumD]
    rw [q_rev_sum q T j]
    unfold dL q_join
    rw [c_first_best, c_first_best]
theorem c_rev_rev {σ : St} (hI : sI σ) (q T : Nat) (hT : 1 ≤ T) : c_rev σ (q / 10) T (chn σ q (s_n σ)) (s_now σ + 1) = q_rev σ q T (s_now σ / T + 1) := by
  rw [q_rev_sum, c_rev_sum hT (s_now σ + 1) (srt_chn σ q _)]
  · rw [show c_mb (s_now σ + 1) T = s_now σ / T + 1 from by
      unfold c_mb
      rw [show s_now σ + 1 + T - 1 = s_now σ + T from by omega, Nat.add_div_right _ (by omega)]]
  · intro y hy
    obtain ⟨h1, h2⟩ := mem_chn.mp hy
    obtain ⟨h3, h4, h5, h6⟩ := hI.2.2.2.2.2.1 y h1
    exact ⟨by rw [h2], h5, by omega⟩
end
