/-! what each call answers, when it throws, what it leaves: over the arguments as they come -/
def cl (x : Int32) : Nat := x.toNatClampNeg
theorem cl_nI {n : Nat} (h : n < 2 ^ 31) : cl (nI n) = n := nI_clamp h
def okP (f e : Int32) : Prop := rg f 0 5 ∧ rg e 0 9
def plN (f e : Int32) : Nat := 10 * cl f + cl e
/-- a number of one of n things -/
def ri (x : Int32) (n : Nat) : Prop := nI 0 ≤ x ∧ x < nI n
theorem ri_of {x : Int32} {n : Nat} (hn : n < 2 ^ 31) (h : ri x n) : ∃ i : Nat, i < n ∧ x = nI i := by
  obtain ⟨h1, h2⟩ := h
  rw [Int32.le_iff_toInt_le, nI_toInt (by decide)] at h1
  rw [Int32.lt_iff_toInt_lt, nI_toInt hn] at h2
  refine ⟨x.toInt.toNat, by omega, ?_⟩
  apply Int32.toInt_inj.mp
  rw [nI_toInt (by omega)]
  omega
theorem ri_in {x : Int32} {n : Nat} (hn : n < 2 ^ 30) : (nI 0 ≤ x ∧ x ≤ nI n - nI 1) ↔ ri x n := by
  unfold ri
  rw [Int32.le_iff_toInt_le (y := nI n - nI 1), Int32.lt_iff_toInt_lt, pk_sub_toInt hn (by decide), nI_toInt (n := n) (by omega)]
  constructor <;> (rintro ⟨h1, h2⟩; exact ⟨h1, by omega⟩)
theorem eN_sub (v : Nat) : nI v - nI 1 = eN v := by
  cases v with
  | zero => decide
  | succ v => exact pk_sub (by omega)
def R3 (ok1 ok2 : Prop) (σ σ' : St) (an r : Int32) (u : Nat × St) : Prop := (ok1 ∧ ok2 ∧ u = (0, σ') ∧ r = an) ∨ (¬ ok1 ∧ u = (1, σ)) ∨ (ok1 ∧ ¬ ok2 ∧ u = (2, σ))
def g_arrive (σ : St) (q v w : Nat) : St := setS (setS (setS (setS (setS σ 1 (fun _ => s_n σ + 1)) 5 (uN (s_pr σ) (s_n σ) q)) 6 (uN (s_ev σ) (s_n σ) v)) 7 (uN (s_ar σ) (s_n σ) (s_now σ))) 8 (uN (s_vl σ) (s_n σ) w)
def g_pass (σ : St) (t : Nat) : St := setS σ 0 (fun _ => s_now σ + t)
def g_setL (σ : St) (f t : Nat) : St := setS σ 4 (uN (s_lt σ) f t)
def g_serve (σ : St) (q : Nat) : St := setS (setS (setS (setS σ 3 (fun _ => s_k σ + 1)) 10 (uN (s_sp σ) (s_k σ) q)) 11 (uN (s_sa σ) (s_k σ) (s_now σ))) 12 (uN (s_sv σ) (s_k σ) (q_fr σ (s_cp σ q) (s_now σ)))
/-- how many changes a take of c takes in -/
def g_m (σ : St) (c : Nat) : Nat := min c (s_n σ - s_tk σ)
theorem q_sum_le {σ : St} (hI : sI σ) (q x y : Nat) : ∀ r : Nat, r ≤ s_n σ → q_sum σ q x y r ≤ 100000 * r
  | 0, _ => Nat.zero_le _
  | r + 1, h => by
    have h1 := q_sum_le hI q x y r (by omega)
    have h2 := (hI.2.2.2.2.2.1 r (by omega)).2.2.2
    simp only [q_sum]
    split <;> omega
theorem q_its_le {σ : St} (hI : sI σ) (q len r : Nat) : q_its σ q len r ≤ 20000000 := by
  have h1 := hI.2.1
  simp only [q_its]
  split
  · have := q_sum_le hI q (s_ev σ r / len * len) (s_ev σ r / len * len + len - 1) (s_n σ) (Nat.le_refl _)
    omega
  · omega
theorem q_gt_le {σ : St} (hI : sI σ) (q len : Nat) : ∀ r : Nat, q_gt σ q len r ≤ 20000000
  | 0 => Nat.zero_le _
  | r + 1 => by
    have h1 := q_gt_le hI q len r
    have h2 := q_its_le hI q len r
    simp only [q_gt]
    split <;> omega
theorem rev_j {T j now : Nat} (h1 : j * T ≤ now + T) (h2 : now < j * T) : j = now / T + 1 := by
  cases j with
  | zero => omega
  | succ i =>
    rw [Nat.succ_mul] at h1
    rw [Nat.div_eq_of_lt_le (k := i) (by omega) (by omega)]
section NVT
variable {p : Program} {l : Launch} {e : Env} {R : Room} {s : State} {m : MethodId} {args : Array Value} {below : List Frame} {meth : Method} {c : Code} {H : Heap} {locs : List Loc} {cells slots : Nat} {Q : State → Prop}
variable {cc : ByteArray} {pc : Nat} {ls : Array Slot} {rest : List Value}
theorem nv_isubN {x : Nat} (hx : p.tables.exec = Jvm.exec) (hb : c.code = cc) (hdg : decode cc pc = .ok (.isub, 1)) (k : W p l e R s m args below meth c H locs cells slots Q (F0 m (pc + 1) ls (.int (eN x) :: rest))) : W p l e R s m args below meth c H locs cells slots Q (F0 m pc ls (.int (nI 1) :: .int (nI x) :: rest)) := lv_isub hx hb hdg (by rw [eN_sub]; exact k)
end NVT
