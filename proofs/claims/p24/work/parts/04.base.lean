/-! the numbers, the environment, calls that leave the heap as it was -/
/-- a row's number, or -1: 0 is none, r + 1 is row r -/
def eN : Nat → Int32
  | 0 => -1
  | r + 1 => nI r
/-- a reference to a row, or null -/
def rfN (ra : Nat → Nat) : Nat → Option Nat
  | 0 => none
  | r + 1 => some (ra r)
def uN (f : Nat → Nat) (i v : Nat) : Nat → Nat := fun j => if j = i then v else f j
theorem uN_s {f : Nat → Nat} {i v : Nat} : uN f i v i = v := by simp [uN]
theorem uN_n {f : Nat → Nat} {i v j : Nat} (h : j ≠ i) : uN f i v j = f j := by simp [uN, h]
theorem uN_upd {f : Nat → Nat} {i v : Nat} : upd (fun j => nI (f j)) i (nI v) = fun j => nI (uN f i v j) := by
  funext j
  by_cases h : j = i
  · subst h; rw [pk_us, uN_s]
  · rw [pk_un h, uN_n h]
/-- an Int32 in a range of numbers -/
def rg (x : Int32) (lo hi : Nat) : Prop := nI lo ≤ x ∧ x ≤ nI hi
theorem rg_of {x : Int32} {lo hi : Nat} (hl : lo < 2 ^ 31) (hh : hi < 2 ^ 31) (h : rg x lo hi) : ∃ n : Nat, lo ≤ n ∧ n ≤ hi ∧ x = nI n := by
  obtain ⟨h1, h2⟩ := h
  rw [Int32.le_iff_toInt_le, nI_toInt hl] at h1
  rw [Int32.le_iff_toInt_le, nI_toInt hh] at h2
  refine ⟨x.toInt.toNat, by omega, by omega, ?_⟩
  apply Int32.toInt_inj.mp
  rw [nI_toInt (by omega)]
  omega
theorem rg_iff {n lo hi : Nat} (hn : n < 2 ^ 31) (hl : lo < 2 ^ 31) (hh : hi < 2 ^ 31) : rg (nI n) lo hi ↔ lo ≤ n ∧ n ≤ hi := by
  unfold rg
  rw [nI_leI hl hn, nI_leI hn hh]
theorem eN_eq {a b : Nat} (ha : a < 2 ^ 31) (hb : b < 2 ^ 31) : eN a = eN b ↔ a = b := by
  cases a with
  | zero => cases b with
    | zero => simp
    | succ b =>
      refine ⟨fun h => ?_, fun h => by omega⟩
      have h2 : (-1 : Int32).toInt = (nI b).toInt := congrArg Int32.toInt h
      rw [nI_toInt (by omega)] at h2
      have h3 : (-1 : Int32).toInt = -1 := by decide
      omega
  | succ a => cases b with
    | zero =>
      refine ⟨fun h => ?_, fun h => by omega⟩
      have h2 : (nI a).toInt = (-1 : Int32).toInt := congrArg Int32.toInt h
      rw [nI_toInt (by omega)] at h2
      have h3 : (-1 : Int32).toInt = -1 := by decide
      omega
    | succ b =>
      show nI a = nI b ↔ _
      rw [nI_eq (by omega) (by omega)]
      omega
theorem eN_none {a : Nat} (ha : a < 2 ^ 31) : eN a = -1 ↔ a = 0 := eN_eq (b := 0) ha (by decide)
abbrev nIAE : String := "java/lang/IllegalArgumentException"
abbrev nISE : String := "java/lang/IllegalStateException"
abbrev nIOB : String := "java/lang/IndexOutOfBoundsException"
/-- words of the tables that a throw and a catch rest on -/
def eWs : List Cond := [.declares (Bundle.initS "java/lang/RuntimeException"), .declares (Bundle.initS "java/lang/Exception"), .declares (Bundle.initS Bundle.tN), .castable nIAE nIAE, .castable nISE nISE, .castable nIOB nIOB]
theorem eWs_t : ∀ w ∈ eWs, w.onTables = true := by decide +kernel
theorem eWs_warm {s U : State} (hW : s.WarmedH U.vm) (h : ∀ w ∈ eWs, va_Nw w s) : ∀ w ∈ eWs, va_Nw w U := by
  intro w hw
  have h1 := h w hw
  simp only [eWs, List.mem_cons, List.not_mem_nil, or_false] at hw
  rcases hw with rfl | rfl | rfl | rfl | rfl | rfl
  · exact va_Nw.warmD hW h1
  · exact va_Nw.warmD hW h1
  · exact va_Nw.warmD hW h1
  · exact va_Nw.warmC hW h1
  · exact va_Nw.warmC hW h1
  · exact va_Nw.warmC hW h1
/-- what every method is told: the classes, the texts of the throws, the statics of Throwable; nothing below lo is ours -/
def eE (D : va_G) (cI cR cS : ClassId) (lo : Nat) (U : State) (H : Heap) : Prop :=
  (va_K D vwCl [(cI, .int), (cR, .object RX0), (cS, .object RX1)] U ∧
  ((∃ a, vk_R RX2 49 "there are 200 rows" a U) ∧ (∃ a, vk_R RX2 64 "now would be above 10000" a U) ∧ (∃ a, vk_R RX2 117 "there are 200 servings" a U) ∧ (∃ a, vk_R RX2 144 "an argument is out of range" a U) ∧ (∃ a, vk_R RX2 149 "there is no such row" a U) ∧ (∃ a, vk_R RX2 152 "there is no such serving" a U) ∧ (∀ w ∈ eWs, va_Nw w U) ∧ va_Nc nISE nIAE U)) ∧
  vx_Zq Bundle.tN "UNASSIGNED_STACK" Bundle.steD (fun q => lo ≤ q) U H ∧ vx_Zq Bundle.tN "SUPPRESSED_SENTINEL" Bundle.listD (fun q => lo ≤ q) U H
theorem eE.same {D : va_G} {cI cR cS : ClassId} {lo : Nat} {U V : State} {H : Heap} (hv : V.vm = U.vm) (h : eE D cI cR cS lo U H) : eE D cI cR cS lo V H := by
  have ha : U.vm.Alike V.vm := by rw [hv]; exact Vm.Alike.refl _
  obtain ⟨⟨h1, ⟨a1, g1⟩, ⟨a2, g2⟩, ⟨a3, g3⟩, ⟨a4, g4⟩, ⟨a5, g5⟩, ⟨a6, g6⟩, g7, g8⟩, h2, h3⟩ := h
  exact ⟨⟨va_K.moved ha h1, ⟨a1, g1.same hv⟩, ⟨a2, g2.same hv⟩, ⟨a3, g3.same hv⟩, ⟨a4, g4.same hv⟩, ⟨a5, g5.same hv⟩, ⟨a6, g6.same hv⟩, fun w hw => va_Nw.same (eWs_t w hw) hv.symm (g7 w hw), g8.moved ha⟩, h2.moved ha, h3.moved ha⟩
theorem eE.to {D : va_G} {cI cR cS : ClassId} {lo : Nat} {s U : State} {H : Heap} {locs : List Loc} (h : eE D cI cR cS lo s s.heap) (hS : va_S (fun q => lo ≤ q) s.heap H locs) (hU : U.heap = H) (hW : s.WarmedH U.vm) : eE D cI cR cS lo U U.heap := by
  have ha : s.vm.Alike U.vm := hW.alike
  obtain ⟨⟨h1, ⟨a1, g1⟩, ⟨a2, g2⟩, ⟨a3, g3⟩, ⟨a4, g4⟩, ⟨a5, g5⟩, ⟨a6, g6⟩, g7, g8⟩, h2, h3⟩ := h
  rw [hU]
  exact ⟨⟨va_K.moved ha h1, ⟨a1, g1.warm hW⟩, ⟨a2, g2.warm hW⟩, ⟨a3, g3.warm hW⟩, ⟨a4, g4.warm hW⟩, ⟨a5, g5.warm hW⟩, ⟨a6, g6.warm hW⟩, eWs_warm hW g7, g8.moved ha⟩, (h2.moved ha).kept hS.2.1, (h3.moved ha).kept hS.2.1⟩
/-- a contract's start: the arguments, the environment, what the heap holds -/
def ePc (D : va_G) (cI cR cS : ClassId) (lo : Nat) (av : List Value) (G : Heap → Prop) : Array Value → State → Prop := va_Pc av (fun U => eE D cI cR cS lo U U.heap ∧ G U.heap)
theorem ePc_blind {D : va_G} {cI cR cS : ClassId} {lo : Nat} {av : List Value} {G : Heap → Prop} : FrameBlind (ePc D cI cR cS lo av G) := by
  intro a U g mk h
  exact ⟨h.1, eE.same (U := U) (V := U.calling g mk a) rfl h.2.1, h.2.2⟩
theorem ePreS {D : va_G} {cI cR cS : ClassId} {lo : Nat} {s : State} {H : Heap} {locs : List Loc} {G : Heap → Prop} {As : List Value} (hE : eE D cI cR cS lo s s.heap) (hS : va_S (fun q => lo ≤ q) s.heap H locs) (hG : G H) : PreS s H (ePc D cI cR cS lo As G) As :=
  ⟨ePc_blind, fun U hU hW => ⟨rfl, hE.to hS hU hW, by rw [hU]; exact hG⟩⟩
theorem ePreV {D : va_G} {cI cR cS : ClassId} {lo : Nat} {s : State} {H : Heap} {locs : List Loc} {G : Heap → Prop} {As : List Value} {b ci k : Nat} {fs : List Value} {C : String} {T : u_T} {N : Nat} {ws : va_W} (hE : eE D cI cR cS lo s s.heap) (hS : va_S (fun q => lo ≤ q) s.heap H locs) (hP : va_P D vwCl ws H) (hk : ws[k]? = some (b, .inr (ci, fs))) (hc : vwCl[ci]? = some (C, T, N)) (hG : G H) : PreV s H C b (ePc D cI cR cS lo (.ref b :: As) G) As :=
  ⟨ePc_blind, va_recv hE.1.1 hP hc hk, fun U hU hW => ⟨rfl, hE.to hS hU hW, by rw [hU]; exact hG⟩⟩
/-- a throw: the class's name as X says, no old cell changed -/
def eX (X : String → Prop) : String → State → State → Prop := fun E st t => X E ∧ va_F (fun _ => False) st t
section NVR
variable {p : Program} {l : Launch} {e : Env} {R : Room} {s : State} {m : MethodId} {args : Array Value} {below : List Frame} {meth : Method} {c : Code} {H : Heap} {locs : List Loc} {cells slots : Nat} {Q : State → Prop}
variable {cc : ByteArray} {pc : Nat} {ls : Array Slot} {rest st0 : List Value} {a : Array Value} {mc ms : Nat} {D : va_G} {cl : List vw_C} {tys : List (ClassId × FieldType)} {ws : va_W} {A : Nat → Prop} {H0 : Heap}
theorem nx_calli {post : Int32 → Prop} {X : String → Prop} (hr : vx_Run p l e R s m args below meth c H locs cells slots mc ms (F0 m pc ls st0) rest (vp_Si post a) (eX X) (fun _ => False))
    (kx : ∀ (E : String) (ce : Cell) (q9 : Addr) (H1 : Heap), X E → H.size ≤ H1.size → (∀ q : Nat, q < H.size → H1[q]? = H[q]?) → H1[q9]? = some ce → ce.vm = .none → s.vm.findClass E = some ce.cls → vx_W p l e R s m args below meth c H1 locs (cells + mc) (slots + ms) Q (F0 m pc ls rest) q9)
    (kk : ∀ r : Int32, post r → W p l e R s m args below meth c H locs (cells + mc) (slots + ms) Q (F0 m (pc + 3) ls (.int r :: rest))) : W p l e R s m args below meth c H locs cells slots Q (F0 m pc ls st0) := by
  intro T hT X
  rcases hr T hT X with ⟨v, st₀, t, T', L, h0, X', hL, e1, e2, ⟨r, hv, hp, hh⟩, st⟩ | ⟨q, st₀, t, T', L, E, ce, h0, X', hL, e1, e2, ⟨hx, hF⟩, hce, hcv, hcl, st⟩
  · cases hv
    obtain ⟨t2, a1, b1⟩ := kk r hp T' (by rw [e1, hh, h0]) (Stand.forget X' (fun q h => (hL q h).elim))
    exact ⟨t2, st t2 a1, b1⟩
  · obtain ⟨hz, hk⟩ := hF
    rw [h0] at hz hk
    obtain ⟨t2, a1, b1⟩ := kx E ce q T'.heap hx (by rw [e1]; exact hz) (fun q h => by rw [e1]; exact hk q h (fun z => z)) (by rw [e1]; exact hce) hcv hcl T' rfl (Stand.forget X' (fun q h => (hL q h).elim))
    exact ⟨t2, st.trans a1, b1⟩
theorem nx_callv {post : Unit → Prop} {X : String → Prop} (hr : vx_Run p l e R s m args below meth c H locs cells slots mc ms (F0 m pc ls st0) rest (va_Sv post a) (eX X) (fun _ => False))
    (kx : ∀ (E : String) (ce : Cell) (q9 : Addr) (H1 : Heap), X E → H.size ≤ H1.size → (∀ q : Nat, q < H.size → H1[q]? = H[q]?) → H1[q9]? = some ce → ce.vm = .none → s.vm.findClass E = some ce.cls → vx_W p l e R s m args below meth c H1 locs (cells + mc) (slots + ms) Q (F0 m pc ls rest) q9)
    (kk : post () → W p l e R s m args below meth c H locs (cells + mc) (slots + ms) Q (F0 m (pc + 3) ls rest)) : W p l e R s m args below meth c H locs cells slots Q (F0 m pc ls st0) := by
  intro T hT X
  rcases hr T hT X with ⟨v, st₀, t, T', L, h0, X', hL, e1, e2, ⟨hv, hp, hh⟩, st⟩ | ⟨q, st₀, t, T', L, E, ce, h0, X', hL, e1, e2, ⟨hx, hF⟩, hce, hcv, hcl, st⟩
  · cases hv
    obtain ⟨t2, a1, b1⟩ := kk hp T' (by rw [e1, hh, h0]) (Stand.forget X' (fun q h => (hL q h).elim))
    exact ⟨t2, st t2 a1, b1⟩
  · obtain ⟨hz, hk⟩ := hF
    rw [h0] at hz hk
    obtain ⟨t2, a1, b1⟩ := kx E ce q T'.heap hx (by rw [e1]; exact hz) (fun q h => by rw [e1]; exact hk q h (fun z => z)) (by rw [e1]; exact hce) hcv hcl T' rfl (Stand.forget X' (fun q h => (hL q h).elim))
    exact ⟨t2, st.trans a1, b1⟩
/-- a reference comes back (a row, a serving), the heap stays -/
def eSr (post : Nat → Prop) : Array Value → State → Outcome → State → Prop := fun _ st oc t => ∃ q : Nat, oc = .returned (some (.ref q)) ∧ post q ∧ t.heap = st.heap
theorem nx_callr {post : Nat → Prop} {X : String → Prop} (hr : vx_Run p l e R s m args below meth c H locs cells slots mc ms (F0 m pc ls st0) rest (eSr post a) (eX X) (fun _ => False))
    (kx : ∀ (E : String) (ce : Cell) (q9 : Addr) (H1 : Heap), X E → H.size ≤ H1.size → (∀ q : Nat, q < H.size → H1[q]? = H[q]?) → H1[q9]? = some ce → ce.vm = .none → s.vm.findClass E = some ce.cls → vx_W p l e R s m args below meth c H1 locs (cells + mc) (slots + ms) Q (F0 m pc ls rest) q9)
    (kk : ∀ q : Nat, post q → W p l e R s m args below meth c H locs (cells + mc) (slots + ms) Q (F0 m (pc + 3) ls (.ref q :: rest))) : W p l e R s m args below meth c H locs cells slots Q (F0 m pc ls st0) := by
  intro T hT X
  rcases hr T hT X with ⟨v, st₀, t, T', L, h0, X', hL, e1, e2, ⟨r, hv, hp, hh⟩, st⟩ | ⟨q, st₀, t, T', L, E, ce, h0, X', hL, e1, e2, ⟨hx, hF⟩, hce, hcv, hcl, st⟩
  · cases hv
    obtain ⟨t2, a1, b1⟩ := kk r hp T' (by rw [e1, hh, h0]) (Stand.forget X' (fun q h => (hL q h).elim))
    exact ⟨t2, st t2 a1, b1⟩
  · obtain ⟨hz, hk⟩ := hF
    rw [h0] at hz hk
    obtain ⟨t2, a1, b1⟩ := kx E ce q T'.heap hx (by rw [e1]; exact hz) (fun q h => by rw [e1]; exact hk q h (fun z => z)) (by rw [e1]; exact hce) hcv hcl T' rfl (Stand.forget X' (fun q h => (hL q h).elim))
    exact ⟨t2, st.trans a1, b1⟩
/-- a call that writes: what it answers and what it leaves, or a throw before any write -/
theorem nx_callw {S : Type} {post : Int32 → S → Prop} {B : S → State → Prop} {A1 : Nat → Prop} {X : String → Prop} {free : Addr → Prop} (hr : vx_Run p l e R s m args below meth c H locs cells slots mc ms (F0 m pc ls st0) rest (va_Qi post B A1 a) (eX X) free) (hS : va_S A H0 H locs) (hA : ∀ q, q < H.size → A1 q → A q) (hf : ∀ q, free q → A q)
    (kx : ∀ (E : String) (ce : Cell) (q9 : Addr) (H1 : Heap) (locs1 : List Loc), X E → H.size ≤ H1.size → (∀ q : Nat, q < H.size → H1[q]? = H[q]?) → va_S A H0 H1 locs1 → H1[q9]? = some ce → ce.vm = .none → s.vm.findClass E = some ce.cls → vx_W p l e R s m args below meth c H1 locs1 (cells + mc) (slots + ms) Q (F0 m pc ls rest) q9)
    (kk : ∀ (r : Int32) (u : S) (t : State) (H1 : Heap) (locs1 : List Loc), t.heap = H1 → s.vm.Alike t.vm → post r u → B u t → H.size ≤ H1.size → (∀ q : Nat, q < H.size → ¬ A1 q → H1[q]? = H[q]?) → va_S A H0 H1 locs1 → W p l e R s m args below meth c H1 locs1 (cells + mc) (slots + ms) Q (F0 m (pc + 3) ls (.int r :: rest))) : W p l e R s m args below meth c H locs cells slots Q (F0 m pc ls st0) := by
  intro T hT X
  rcases hr T hT X with ⟨v, st₀, t, T', L, h0, X', hL, e1, e2, ⟨⟨r, u, hv, hp, hb⟩, hF⟩, st⟩ | ⟨q, st₀, t, T', L, E, ce, h0, X', hL, e1, e2, ⟨hx, hF⟩, hce, hcv, hcl, st⟩
  · cases hv
    obtain ⟨k1, k2, k3⟩ := vx_keep h0 e1 hS hA hf hL hF
    obtain ⟨t2, a1, b1⟩ := kk r u t T'.heap (locs ++ L) e1.symm (by rw [← e2]; exact X'.warmed.alike) hp hb k1 k2 k3 T' rfl X'
    exact ⟨t2, st t2 a1, b1⟩
  · obtain ⟨k1, k2, k3⟩ := vx_keep (A1 := fun _ => False) h0 e1 hS (fun q _ h => h.elim) hf hL hF
    obtain ⟨t2, a1, b1⟩ := kx E ce q T'.heap (locs ++ L) hx k1 (fun q h => k2 q h (fun z => z)) k3 (by rw [e1]; exact hce) hcv hcl T' rfl X'
    exact ⟨t2, st.trans a1, b1⟩
-- numbers
theorem nv_iadd {x y : Nat} (hx : p.tables.exec = Jvm.exec) (hb : c.code = cc) (hdg : decode cc pc = .ok (.iadd, 1)) (k : W p l e R s m args below meth c H locs cells slots Q (F0 m (pc + 1) ls (.int (nI (x + y)) :: rest))) : W p l e R s m args below meth c H locs cells slots Q (F0 m pc ls (.int (nI y) :: .int (nI x) :: rest)) := lv_iadd hx hb hdg (by rw [nI_add]; exact k)
theorem nv_isub {x y : Nat} (hx : p.tables.exec = Jvm.exec) (hb : c.code = cc) (hdg : decode cc pc = .ok (.isub, 1)) (h : y ≤ x) (k : W p l e R s m args below meth c H locs cells slots Q (F0 m (pc + 1) ls (.int (nI (x - y)) :: rest))) : W p l e R s m args below meth c H locs cells slots Q (F0 m pc ls (.int (nI y) :: .int (nI x) :: rest)) := lv_isub hx hb hdg (by rw [pk_sub h]; exact k)
theorem nv_imul {x y : Nat} (hx : p.tables.exec = Jvm.exec) (hb : c.code = cc) (hdg : decode cc pc = .ok (.imul, 1)) (k : W p l e R s m args below meth c H locs cells slots Q (F0 m (pc + 1) ls (.int (nI (x * y)) :: rest))) : W p l e R s m args below meth c H locs cells slots Q (F0 m pc ls (.int (nI y) :: .int (nI x) :: rest)) := lv_imul hx hb hdg (by rw [pk_mul]; exact k)
theorem nv_idiv {x y : Nat} (hx : p.tables.exec = Jvm.exec) (hb : c.code = cc) (hdg : decode cc pc = .ok (.idiv, 1)) (h1 : x < 2 ^ 31) (h0 : 0 < y) (h2 : y < 2 ^ 31) (k : W p l e R s m args below meth c H locs cells slots Q (F0 m (pc + 1) ls (.int (nI (x / y)) :: rest))) : W p l e R s m args below meth c H locs cells slots Q (F0 m pc ls (.int (nI y) :: .int (nI x) :: rest)) := lv_idiv hx hb hdg (nI_ne0 h0 h2) (by rw [pk_div h1 h0 h2]; exact k)
theorem nv_eq {x y : Nat} {off : Int} {tgt : Nat} (hx : p.tables.exec = Jvm.exec) (hb : c.code = cc) (hdg : decode cc pc = .ok (.if_icmp .eq off, 3)) (ht : (pc : Int) + off = (tgt : Int)) (h1 : x < 2 ^ 31) (h2 : y < 2 ^ 31)
    (kt : x = y → W p l e R s m args below meth c H locs cells slots Q (F0 m tgt ls rest)) (kf : ¬ x = y → W p l e R s m args below meth c H locs cells slots Q (F0 m (pc + 3) ls rest)) : W p l e R s m args below meth c H locs cells slots Q (F0 m pc ls (.int (nI y) :: .int (nI x) :: rest)) := lv_icmp_eq hx hb hdg ht (fun h => kt ((nI_eq h1 h2).mp h)) (fun h => kf (fun z => h ((nI_eq h1 h2).mpr z)))
theorem nv_ne {x y : Nat} {off : Int} {tgt : Nat} (hx : p.tables.exec = Jvm.exec) (hb : c.code = cc) (hdg : decode cc pc = .ok (.if_icmp .ne off, 3)) (ht : (pc : Int) + off = (tgt : Int)) (h1 : x < 2 ^ 31) (h2 : y < 2 ^ 31)
    (kt : ¬ x = y → W p l e R s m args below meth c H locs cells slots Q (F0 m tgt ls rest)) (kf : x = y → W p l e R s m args below meth c H locs cells slots Q (F0 m (pc + 3) ls rest)) : W p l e R s m args below meth c H locs cells slots Q (F0 m pc ls (.int (nI y) :: .int (nI x) :: rest)) := lv_icmp_ne hx hb hdg ht (fun h => kt (fun z => h ((nI_eq h1 h2).mpr z))) (fun h => kf ((nI_eq h1 h2).mp h))
theorem nv_lt {x y : Nat} {off : Int} {tgt : Nat} (hx : p.tables.exec = Jvm.exec) (hb : c.code = cc) (hdg : decode cc pc = .ok (.if_icmp .lt off, 3)) (ht : (pc : Int) + off = (tgt : Int)) (h1 : x < 2 ^ 31) (h2 : y < 2 ^ 31)
    (kt : x < y → W p l e R s m args below meth c H locs cells slots Q (F0 m tgt ls rest)) (kf : ¬ x < y → W p l e R s m args below meth c H locs cells slots Q (F0 m (pc + 3) ls rest)) : W p l e R s m args below meth c H locs cells slots Q (F0 m pc ls (.int (nI y) :: .int (nI x) :: rest)) := lv_icmp_lt hx hb hdg ht (fun h => kt ((nI_ltI h1 h2).mp h)) (fun h => kf (fun z => h ((nI_ltI h1 h2).mpr z)))
theorem nv_ge {x y : Nat} {off : Int} {tgt : Nat} (hx : p.tables.exec = Jvm.exec) (hb : c.code = cc) (hdg : decode cc pc = .ok (.if_icmp .ge off, 3)) (ht : (pc : Int) + off = (tgt : Int)) (h1 : x < 2 ^ 31) (h2 : y < 2 ^ 31)
    (kt : y ≤ x → W p l e R s m args below meth c H locs cells slots Q (F0 m tgt ls rest)) (kf : ¬ y ≤ x → W p l e R s m args below meth c H locs cells slots Q (F0 m (pc + 3) ls rest)) : W p l e R s m args below meth c H locs cells slots Q (F0 m pc ls (.int (nI y) :: .int (nI x) :: rest)) := lv_icmp_ge hx hb hdg ht (fun h => kt ((nI_leI h2 h1).mp h)) (fun h => kf (fun z => h ((nI_leI h2 h1).mpr z)))
theorem nv_gt {x y : Nat} {off : Int} {tgt : Nat} (hx : p.tables.exec = Jvm.exec) (hb : c.code = cc) (hdg : decode cc pc = .ok (.if_icmp .gt off, 3)) (ht : (pc : Int) + off = (tgt : Int)) (h1 : x < 2 ^ 31) (h2 : y < 2 ^ 31)
    (kt : y < x → W p l e R s m args below meth c H locs cells slots Q (F0 m tgt ls rest)) (kf : ¬ y < x → W p l e R s m args below meth c H locs cells slots Q (F0 m (pc + 3) ls rest)) : W p l e R s m args below meth c H locs cells slots Q (F0 m pc ls (.int (nI y) :: .int (nI x) :: rest)) := lv_icmp_gt hx hb hdg ht (fun h => kt ((nI_ltI h2 h1).mp h)) (fun h => kf (fun z => h ((nI_ltI h2 h1).mpr z)))
theorem nv_le {x y : Nat} {off : Int} {tgt : Nat} (hx : p.tables.exec = Jvm.exec) (hb : c.code = cc) (hdg : decode cc pc = .ok (.if_icmp .le off, 3)) (ht : (pc : Int) + off = (tgt : Int)) (h1 : x < 2 ^ 31) (h2 : y < 2 ^ 31)
    (kt : x ≤ y → W p l e R s m args below meth c H locs cells slots Q (F0 m tgt ls rest)) (kf : ¬ x ≤ y → W p l e R s m args below meth c H locs cells slots Q (F0 m (pc + 3) ls rest)) : W p l e R s m args below meth c H locs cells slots Q (F0 m pc ls (.int (nI y) :: .int (nI x) :: rest)) := lv_icmp_le hx hb hdg ht (fun h => kt ((nI_leI h1 h2).mp h)) (fun h => kf (fun z => h ((nI_leI h1 h2).mpr z)))
theorem nv_iald {q0 t0 q : Nat} {cA : ClassId} {n i : Nat} (f : Nat → Nat) (hx : p.tables.exec = Jvm.exec) (hb : c.code = cc) (hK : va_K D cl tys s) (hP : va_P D cl ws H) (ha : ws[q0]? = some (q, .inl (cA, n, .inl (fun j => nI (f j))))) (ht : tys[t0]? = some (cA, .int)) (hin : i < n) (hn : n < 2 ^ 31) (hdg : decode cc pc = .ok (.iaload, 1))
    (kk : W p l e R s m args below meth c H locs cells slots Q (F0 m (pc + 1) ls (.int (nI (f i)) :: rest))) : W p l e R s m args below meth c H locs cells slots Q (F0 m pc ls (.int (nI i) :: .ref q :: rest)) :=
  va_iald hx hb hK hP q0 t0 ha ht (vp_in_nI hin hn) hdg (by rw [nI_clamp (Nat.lt_trans hin hn)]; exact kk)
theorem nv_iast {q0 t0 q : Nat} {cA : ClassId} {n i v : Nat} (f : Nat → Nat) (hx : p.tables.exec = Jvm.exec) (hb : c.code = cc) (hK : va_K D cl tys s) (hP : va_P D cl ws H) (hD : va_D A ws) (hS : va_S A H0 H locs) (ha : ws[q0]? = some (q, .inl (cA, n, .inl (fun j => nI (f j))))) (ht : tys[t0]? = some (cA, .int)) (hin : i < n) (hn : n < 2 ^ 31) (hdg : decode cc pc = .ok (.iastore, 1))
    (kk : ∀ (H1 : Heap) (locs1 : List Loc), va_P D cl (ws.set q0 (q, .inl (cA, n, .inl (fun j => nI (uN f i v j))))) H1 → va_D A (ws.set q0 (q, .inl (cA, n, .inl (fun j => nI (uN f i v j))))) → va_S A H0 H1 locs1 → W p l e R s m args below meth c H1 locs1 cells slots Q (F0 m (pc + 1) ls rest)) : W p l e R s m args below meth c H locs cells slots Q (F0 m pc ls (.int (nI v) :: .int (nI i) :: .ref q :: rest)) :=
  va_iast hx hb hK hP hD hS q0 t0 ha ht (vp_in_nI hin hn) hdg (fun H1 locs1 h1 h2 h3 => by
    rw [nI_clamp (Nat.lt_trans hin hn), uN_upd] at h1 h2
    exact kk H1 locs1 h1 h2 h3)
end NVR
