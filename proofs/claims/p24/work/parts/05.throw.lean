/-! throws: the words of the three exceptions, and a throw out of a method that has changed nothing -/
abbrev nmX : List String := ["java/lang/RuntimeException", "java/lang/Exception"]
theorem bad_iae : ∀ w ∈ (vx_atS RX2 146 nIAE nmX).filter (fun w => !goodWord w), w ∈ eWs := by decide +kernel
theorem ot_iae : ∀ w ∈ Cond.classLink RX2 142 nIAE :: Cond.initialized nIAE :: vx_atS RX2 146 nIAE nmX, vx_ot w = true := by decide +kernel
theorem bad_ise : ∀ w ∈ (vx_atS RX2 51 nISE nmX).filter (fun w => !goodWord w), w ∈ eWs := by decide +kernel
theorem ot_ise : ∀ w ∈ Cond.classLink RX2 47 nISE :: Cond.initialized nISE :: vx_atS RX2 51 nISE nmX, vx_ot w = true := by decide +kernel
theorem bad_iob : ∀ w ∈ (vx_atS RX2 151 nIOB nmX).filter (fun w => !goodWord w), w ∈ eWs := by decide +kernel
theorem ot_iob : ∀ w ∈ Cond.classLink RX2 147 nIOB :: Cond.initialized nIOB :: vx_atS RX2 151 nIOB nmX, vx_ot w = true := by decide +kernel
theorem nx_throw {p : Program} {l : Launch} {e : Env} {R : Room} {s : State} {m : MethodId} {args : Array Value} {below : List Frame} {meth : Method} {c : Code} {cells slots : Nat} {cc : ByteArray} {pc : Nat} {ls : Array Slot} {nL mc ms : Nat} {D : va_G} {cI cR cS : ClassId} {lo : Nat} {cls text : String} {ik is ic : Nat} {Ts : List Cond} {Qc : Array Value → State → Outcome → State → Prop} {X : String → Prop} {lv : List (Nat × Value)} {free : Addr → Prop}
    (hx : p.tables.exec = Jvm.exec) (hb : c.code = cc) (hfl : l.stackTraces = false) (hown : s.vm.findClass RX2 = some m.cls) (hml : c.maxLocals = nL) (hnt : ∀ x ∈ c.exceptionTable.toList, False) (hlocks : meth.locks = false) (hts : ∀ w ∈ Ts, w.before args s = true)
    (hcls : Bundle.fit cls = true) (hinl : ∀ w ∈ Cond.classLink RX2 ik cls :: Cond.initialized cls :: (vx_atS RX2 ic cls nmX).filter goodWord, w ∈ Ts)
    (hbad : ∀ w ∈ (vx_atS RX2 ic cls nmX).filter (fun w => !goodWord w), w ∈ eWs) (hot : ∀ w ∈ Cond.classLink RX2 ik cls :: Cond.initialized cls :: vx_atS RX2 ic cls nmX, vx_ot w = true)
    (hE : eE D cI cR cS lo s s.heap) (hstr : ∃ sa, vk_R RX2 is text sa s) (hl : lv_has ls nL lv)
    (d0 : decode cc pc = .ok (.new ik, 3)) (d3 : decode cc (pc + 3) = .ok (.dup, 1)) (d4 : decode cc (pc + 4) = .ok (.ldc is, 2)) (d6 : decode cc (pc + 6) = .ok (.invokespecial ic, 3)) (d9 : decode cc (pc + 9) = .ok (.athrow, 1))
    (hRf : 5 < R.frames) (hRl : 82 ≤ R.locals) (hRc : cells + 1 ≤ R.cells) (hRs : slots + 6 ≤ R.slots) (hX : X cls) (hc : cells + 1 ≤ mc) (hs : slots + 6 ≤ ms) :
    W p l e R s m args below meth c s.heap [] cells slots (vx_MQ below Qc (eX X) args s mc ms free) (F0 m pc ls []) := by
  obtain ⟨sa, hstr⟩ := hstr
  have hq := hE
  obtain ⟨⟨-, -, -, -, -, -, -, g7, -⟩, h2, h3⟩ := hq
  refine vx_throwS (A := fun q => lo ≤ q) (names := nmX) hx hb hfl hown hcls (by decide +kernel) (hts _ (hinl _ List.mem_cons_self)) (hts _ (hinl _ (List.mem_cons_of_mem _ List.mem_cons_self))) hstr ?_ hot h2 h3 va_S.rf (hl.1.trans hml.symm) d0 d3 d4 d6 d9 (fun x hx => (hnt x hx).elim) hRf hRl hRc hRs hlocks ?_ (fun z hz => absurd hz List.not_mem_nil) hc hs
  · exact vx_hat (fun w hw => hts w (hinl w (List.mem_cons_of_mem _ (List.mem_cons_of_mem _ hw)))) hbad (fun w hw => va_Nw.use (eWs_t w hw) (g7 w hw))
  · intro t _ h1 h2
    exact ⟨hX, h1, fun q hq _ => h2 q hq⟩
