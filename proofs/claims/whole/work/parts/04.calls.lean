/-! ===== contracts out of J, calls ===== -/
theorem jad_D {ws : va_W} (h : va_D (fun _ => True) ws) : va_D (jad ws) ws := ⟨h.1, fun k q hk => List.mem_map.mpr ⟨q, List.mem_of_getElem? hk, rfl⟩⟩
theorem va_D_addr {A : Nat → Prop} {ws ws' : va_W} (ha : ws'.map Prod.fst = ws.map Prod.fst) (h : va_D A ws) : va_D A ws' := by
  have key : ∀ (k : Nat) (q : Nat × va_E), ws'[k]? = some q → ∃ q2, ws[k]? = some q2 ∧ q2.1 = q.1 := by
    intro k q hk
    have h1 : (ws'.map Prod.fst)[k]? = some q.1 := by rw [List.getElem?_map, hk]; rfl
    rw [ha, List.getElem?_map] at h1
    obtain ⟨q2, e1, e2⟩ := Option.map_eq_some_iff.mp h1
    exact ⟨q2, e1, e2⟩
  refine ⟨fun i j p q hi hj hpq => ?_, fun k q hk => ?_⟩
  · obtain ⟨p2, a1, a2⟩ := key i p hi
    obtain ⟨q2, b1, b2⟩ := key j q hj
    exact h.1 i j p2 q2 a1 b1 (by rw [a2, b2]; exact hpq)
  · obtain ⟨q2, b1, b2⟩ := key k q hk
    rw [← b2]
    exact h.2 k q2 b1
theorem jC.hts {p : Program} {l : Launch} {e : Env} {R : Room} {s : State} {m : MethodId} {args : Array Value} {below : List Frame} {meth : Method} {c : Code} {G : jG} {A : Nat → Prop} {rw : Prop} {Q : State → Prop} {kc ks : Nat} {cc : ByteArray} {nL : Nat} {own : String} {h : Nat} (K : jC (p, l, e, R, s, m, args, below, meth, c, G, A, rw, Q, kc, ks) cc nL own h) : ∀ w ∈ UW, w.before args s = true := K.1.2.2.2.2
/-- what a return needs -/
def jRI (E : jE) (cc : ByteArray) (n : Nat) (ws' : va_W) (r : Int32) : Prop := ∀ (pc : Nat) (lv : List (Nat × Value)), decode cc pc = .ok (.ireturn, 1) → J E n ws' pc lv [.int r]
def jRZ (E : jE) (cc : ByteArray) (n : Nat) (ws' : va_W) (r : Int32) : Prop := ∀ (pc : Nat) (lv : List (Nat × Value)), (r = 0 ∨ r = 1) → decode cc pc = .ok (.ireturn, 1) → J E n ws' pc lv [.int r]
def jRL (E : jE) (cc : ByteArray) (n : Nat) (ws' : va_W) (r : Int64) : Prop := ∀ (pc : Nat) (lv : List (Nat × Value)), decode cc pc = .ok (.lreturn, 1) → J E n ws' pc lv [.long r]
def jRV (E : jE) (cc : ByteArray) (n : Nat) (ws' : va_W) : Prop := ∀ (pc : Nat) (lv : List (Nat × Value)), decode cc pc = .ok (.return_, 1) → J E n ws' pc lv []
theorem jMet {l : Launch} {y : MethodName} {cc : ByteArray} {n : Nat} {ret : Option FieldType} {h : Nat} {Pc : Array Value → State → Prop} {Qc : Array Value → State → Outcome → State → Prop} {A : Nat → Prop} (hy : plainFor y = true)
    (body : ∀ p e s m args below meth c s₁, BodyLoose p l y (headSpec (Cond.code y cc n ret :: UW) (jR h)) cc n ret e s m args below meth c s₁ → c.maxLocals = n → Pc args s → W p l e (jR h) s m args below meth c s.heap [] 0 0 (MQ below Qc args s 0 0 A) (entryFrame m args n)) : Met l y (Cond.code y cc n ret :: UW) (jR h) Pc Qc 0 0 A := by
  refine MetFree.of_bodySF (code := cc) (maxLocals := n) (ret := ret) hy (fun args s m h9 hn => ?_) (fun p e s m args below meth c s₁ B hml hP _ => ?_)
  · obtain ⟨meth, c, h1, h2, h3, h4, h5, h6, -, -⟩ := Cond.code_spec hn (atoms_spec (ws := Cond.code y cc n ret :: UW) h9 _ List.mem_cons_self)
    exact ⟨meth, c, h1, h2, h3, h4, h5, h6⟩
  · have hh0 : s₁.heap = s.heap := by rw [B.state]; rfl
    obtain ⟨t, a1, o, b1, b2, b3⟩ := body p e s m args below meth c s₁ B hml hP s₁ hh0 (Stand.of_body B)
    exact ⟨t, o, a1, b1, b2, ⟨b3.1, b3.2⟩⟩
section MCof
variable {l : Launch} {y : MethodName} {cc : ByteArray} {n h : Nat} {G : jG} {A : Nat → Prop} {rw : Prop} {ws ws' : va_W} {av : List Value}
theorem mc_of {ret : Option FieldType} {o : Option Value} (hy : plainFor y = true) (hn : (lg_sl av).length ≤ n)
    (body : ∀ (p : Program) (e : Env) (s : State) (m : MethodId) (below : List Frame) (meth : Method) (c : Code),
      jC (p, l, e, jR h, s, m, av.toArray, below, meth, c, G, A, rw, MQ below (fun _ st oc t => oc = .returned o ∧ va_P G.1 vwCl ws' t.heap ∧ va_F A st t) av.toArray s 0 0 A, 0, 0) cc n y.cls h →
      meth.sig.returnType = ret → meth.locks = false →
      J (p, l, e, jR h, s, m, av.toArray, below, meth, c, G, A, rw, MQ below (fun _ st oc t => oc = .returned o ∧ va_P G.1 vwCl ws' t.heap ∧ va_F A st t) av.toArray s 0 0 A, 0, 0) n ws 0 (lv_args 0 av) []) :
    MC l y cc n ret h G A rw ws ws' av o := by
  refine jMet hy ?_
  intro p e s m args below meth c s₁ B hml hv
  obtain ⟨rfl, hP, hD, hU, hF⟩ := hv
  have hx := B.exec
  have hb := B.bytes
  have hr := B.returns
  have hts := atoms_spec (ws := Cond.code y cc n ret :: UW) B.pre
  have hown : s.vm.findClass y.cls = some m.cls := findClass_of_methodNamed B.named
  have hl := lv_entry av (n := n) hn
  rw [lg_entry_eq]
  generalize (lg_sl av ++ List.replicate (n - (lg_sl av).length) Slot.unset).toArray = ls at hl ⊢
  exact body p e s m below meth c ⟨⟨hx, hb, hml, hown, fun w hw => hts w (List.mem_cons_of_mem _ hw)⟩, hU, hF, Nat.le_refl _, Nat.le_refl _, Nat.le_refl _, Nat.le_refl _⟩ hr B.notSynchronized s.heap [] ls hP hD va_S.rf hl
theorem mc_int {r : Int32} (hy : plainFor y = true) (hn : (lg_sl av).length ≤ n)
    (body : ∀ E : jE, jl E = l → jg E = G → jA E = A → jrw E = rw → jC E cc n y.cls h → jRI E cc n ws' r → J E n ws 0 (lv_args 0 av) []) : MC l y cc n (some .int) h G A rw ws ws' av (some (.int r)) := by
  refine mc_of hy hn fun p e s m below meth c K hr hlocks => body _ rfl rfl rfl rfl K ?_
  intro pc lv hd H locs ls hP hD hS hl
  exact W.iret K.1.1 K.1.2.1 hr (fun t ht hW => ⟨rfl, by rw [ht]; exact hP, hS.F ht⟩) hS.2.2 hd hlocks
theorem mc_bool {r : Int32} (hy : plainFor y = true) (hn : (lg_sl av).length ≤ n)
    (body : ∀ E : jE, jl E = l → jg E = G → jA E = A → jrw E = rw → jC E cc n y.cls h → jRZ E cc n ws' r → J E n ws 0 (lv_args 0 av) []) : MC l y cc n (some .boolean) h G A rw ws ws' av (some (.int r)) := by
  refine mc_of hy hn fun p e s m below meth c K hr hlocks => body _ rfl rfl rfl rfl K ?_
  intro pc lv hz hd H locs ls hP hD hS hl
  exact W.zret K.1.1 K.1.2.1 hr (jzb_n hz) (fun t ht hW => ⟨rfl, by rw [ht]; exact hP, hS.F ht⟩) hS.2.2 hd hlocks
theorem mc_long {r : Int64} (hy : plainFor y = true) (hn : (lg_sl av).length ≤ n)
    (body : ∀ E : jE, jl E = l → jg E = G → jA E = A → jrw E = rw → jC E cc n y.cls h → jRL E cc n ws' r → J E n ws 0 (lv_args 0 av) []) : MC l y cc n (some .long) h G A rw ws ws' av (some (.long r)) := by
  refine mc_of hy hn fun p e s m below meth c K hr hlocks => body _ rfl rfl rfl rfl K ?_
  intro pc lv hd H locs ls hP hD hS hl
  exact W.lret K.1.1 K.1.2.1 hr (fun t ht hW => ⟨rfl, by rw [ht]; exact hP, hS.F ht⟩) hS.2.2 hd hlocks
theorem mc_void (hy : plainFor y = true) (hn : (lg_sl av).length ≤ n)
    (body : ∀ E : jE, jl E = l → jg E = G → jA E = A → jrw E = rw → jC E cc n y.cls h → jRV E cc n ws' → J E n ws 0 (lv_args 0 av) []) : MC l y cc n none h G A rw ws ws' av none := by
  refine mc_of hy hn fun p e s m below meth c K hr hlocks => body _ rfl rfl rfl rfl K ?_
  intro pc lv hd H locs ls hP hD hS hl
  exact W.vret K.1.1 K.1.2.1 hr (fun t ht hW => ⟨rfl, by rw [ht]; exact hP, hS.F ht⟩) hS.2.2 hd hlocks
end MCof
/-! behind a call -/
theorem j_after {p : Program} {l : Launch} {e : Env} {R : Room} {s : State} {m : MethodId} {args : Array Value} {below : List Frame} {meth : Method} {c : Code} {H : Heap} {locs : List Loc} {cells slots : Nat} {Q : State → Prop} {pc : Nat} {ls : Array Slot} {rest st0 : List Value} {A0 A2 : Nat → Prop} {H0 : Heap} {D : va_G} {cl : List vw_C} {ws2 : va_W} {o : Option Value}
    (hr : va_Run p l e R s m args below meth c H locs cells slots 0 0 (F0 m pc ls st0) rest (fun st oc t => oc = .returned o ∧ va_P D cl ws2 t.heap ∧ va_F A2 st t) A2) (hS : va_S A0 H0 H locs) (hA : ∀ q, A2 q → A0 q)
    (kk : ∀ (H1 : Heap) (locs1 : List Loc), va_P D cl ws2 H1 → H.size ≤ H1.size → (∀ q : Nat, q < H.size → ¬ A2 q → H1[q]? = H[q]?) → va_S A0 H0 H1 locs1 → W p l e R s m args below meth c H1 locs1 cells slots Q (F0 m (pc + 3) ls (o.toList ++ rest))) : W p l e R s m args below meth c H locs cells slots Q (F0 m pc ls st0) := by
  intro T hT X
  obtain ⟨v, st₀, t, T', L, h0, X', hL, e1, e2, ⟨hv, hp, hz, hk⟩, st⟩ := hr T hT X
  cases hv
  rw [h0] at hz hk
  obtain ⟨t2, a1, b1⟩ := kk T'.heap (locs ++ L) (by rw [e1]; exact hp) (by rw [e1]; exact hz) (fun q h1 h2 => by rw [e1]; exact hk q h1 h2)
    ⟨Nat.le_trans hS.1 (by rw [e1]; exact hz), fun q h1 h2 => by rw [e1, hk q (Nat.lt_of_lt_of_le h1 hS.1) (fun z => h2 (hA q z))]; exact hS.2.1 q h1 h2, fun q hq => by
      rcases List.mem_append.mp hq with h | h
      · exact hS.2.2 q h
      · exact hA _ (hL q h)⟩ T' rfl X'
  exact ⟨t2, st t2 a1, b1⟩
/-- cells of ws at the places is replaced by those of w2 -/
def jmrg (ws : va_W) : List Nat → va_W → va_W
  | i :: is, q :: w2 => (jmrg ws is w2).set i q
  | _, _ => ws
theorem jmrg_at {ws : va_W} : ∀ {is : List Nat} {w2 : va_W} {k : Nat} {q : Nat × va_E}, (jmrg ws is w2)[k]? = some q → q ∈ w2 ∨ (k ∉ is.take w2.length ∧ ws[k]? = some q)
  | [], w2, k, q, h => Or.inr ⟨by simp, by cases w2 <;> exact h⟩
  | i :: is, [], k, q, h => Or.inr ⟨by simp, h⟩
  | i :: is, q0 :: w2, k, q, h => by
    have h1 : ((jmrg ws is w2).set i q0)[k]? = some q := h
    by_cases c : i = k
    · subst c
      rw [List.getElem?_set] at h1
      simp only [if_true] at h1
      split at h1
      · left
        rw [← Option.some.inj h1]
        exact List.mem_cons_self
      · cases h1
    · rw [List.getElem?_set_ne c] at h1
      rcases jmrg_at h1 with z | ⟨z1, z2⟩
      · exact Or.inl (List.mem_cons_of_mem _ z)
      · refine Or.inr ⟨?_, z2⟩
        simp only [List.length_cons, List.take_succ_cons, List.mem_cons, not_or]
        exact ⟨fun e => c e.symm, z1⟩
theorem j_mrgP {A : Nat → Prop} {D : va_G} {cl : List vw_C} {ws ws2 ws2' : va_W} {H H1 : Heap} {is : List Nat} (hP : va_P D cl ws H) (hD : va_D A ws) (hs : is.map (fun i => ws[i]?) = ws2.map some) (hlen : ws2'.length = ws2.length) (hP2 : va_P D cl ws2' H1)
    (hk : ∀ q : Nat, q < H.size → ¬ jad ws2 q → H1[q]? = H[q]?) : va_P D cl (jmrg ws is ws2') H1 := by
  have hll : is.length = ws2.length := by have h := congrArg List.length hs; simpa using h
  intro k q hq
  rcases jmrg_at hq with z | ⟨z1, z2⟩
  · obtain ⟨j, hj⟩ := List.getElem?_of_mem z
    exact hP2 j q hj
  · refine (hP k q z2).kept (hk _ (hP k q z2).lt fun hmem => ?_)
    obtain ⟨q2, m1, m2⟩ := List.mem_map.mp hmem
    obtain ⟨j, hj⟩ := List.getElem?_of_mem m1
    have h1 : (ws2.map some)[j]? = some (some q2) := by rw [List.getElem?_map, hj]; rfl
    rw [← hs, List.getElem?_map] at h1
    obtain ⟨i, e1, e2⟩ := Option.map_eq_some_iff.mp h1
    have := hD.1 i k q2 q e2 z2 m2
    subst this
    rw [hlen, ← hll, List.take_length] at z1
    exact z1 (List.mem_of_getElem? e1)
section JCALL
variable {E : jE} {cc : ByteArray} {nL : Nat} {own : String} {h : Nat} {ws : va_W} {pc pc' : Nat} {lv : List (Nat × Value)} {st st0 : List Value}
variable {y : MethodName} {cc2 : ByteArray} {n2 h2 index b ci : Nat} {ret : Option FieldType} {ws2 ws2' : va_W} {av : List Value} {o : Option Value} {fs : List Value} {C : String} {T : u_T} {N : Nat}
theorem goodUW (hc : Cond.code y cc2 n2 ret ∈ UW) : GoodIn UW (Cond.code y cc2 n2 ret :: UW) := fun w hw => by
  rcases List.mem_cons.mp hw with rfl | hw
  · exact ⟨hc, UW_good _ hc⟩
  · exact ⟨hw, UW_good _ hw⟩
def jOk (y : MethodName) (n2 h2 h k : Nat) : Prop := (y.cls ≠ "java/lang/invoke/MethodHandle" ∧ y.cls ≠ "java/lang/invoke/VarHandle" ∧ (parseMethodDescriptor y.desc).map (fun d => d.parameters.length) = some k) ∧ h2 + 1 ≤ h ∧ n2 ≤ 17
theorem jroom {n2 h2 h L : Nat} (h1 : h2 + 1 ≤ h) (h3 : n2 ≤ 17) (hL : 36 * h ≤ L) : 8 + (n2 + 11) + (jR h2).locals ≤ L := by
  show 8 + (n2 + 11) + 36 * h2 ≤ L
  omega
/-- the four ways of a call, as one: what the machine does, given the callee's contract and what it asks -/
def jRun (E : jE) (pc : Nat) (nL : Nat) (st0 rest : List Value) (Pc : Array Value → State → Prop) (Qc : Array Value → State → Outcome → State → Prop) (A2 : Nat → Prop) (as : List Value) (H : Heap) : Prop := match E with
  | (p, l, e, R, s, m, args, below, meth, c, _, _, _, _, kc, ks) => (∀ U : State, U.heap = H → s.WarmedH U.vm → Pc as.toArray U) → ∀ (locs : List Loc) (ls : Array Slot), ls.size = nL → va_Run p l e R s m args below meth c H locs kc ks 0 0 (F0 m pc ls st0) rest (Qc as.toArray) A2
theorem mc_blind {G : jG} {A : Nat → Prop} {rw : Prop} {ws : va_W} {av : List Value} : FrameBlind (va_Pc av (fun U => va_P G.1 vwCl ws U.heap ∧ (rw → va_D A ws) ∧ jU G U ∧ jF A G U U.heap)) := fun a U g mk q =>
  ⟨q.1, q.2.1, q.2.2.1, q.2.2.2.1.vm rfl, q.2.2.2.2.moved (u := U) (U := U.calling g mk a) (Vm.Alike.refl U.vm)⟩
abbrev jP (G : jG) (A : Nat → Prop) (rw : Prop) (ws : va_W) (av : List Value) : Array Value → State → Prop := va_Pc av (fun U => va_P G.1 vwCl ws U.heap ∧ (rw → va_D A ws) ∧ jU G U ∧ jF A G U U.heap)
abbrev jQ (G : jG) (A : Nat → Prop) (ws' : va_W) (o : Option Value) : Array Value → State → Outcome → State → Prop := fun _ st oc t => oc = .returned o ∧ va_P G.1 vwCl ws' t.heap ∧ va_F A st t
variable {A2 : Nat → Prop} {rw2 : Prop}
theorem jrun_S (K : jC E cc nL own h) (hd : decode cc pc = .ok (.invokestatic index, 3)) (hM : MC (jl E) y cc2 n2 ret h2 (jg E) A2 rw2 ws2 ws2' av o) (hc : Cond.code y cc2 n2 ret ∈ UW) (hlk : Cond.methodLink own index y ∈ UW) (hst : Cond.static y ∈ UW) (hini : Cond.initialized y.cls ∈ UW) (hok : jOk y n2 h2 h av.length) (hstk : st0 = av.reverse ++ st) (hroom : (st.map fun v => v.category).sum ≤ 8) (H : Heap) :
    jRun E pc nL st0 st (jP (jg E) A2 rw2 ws2 av) (jQ (jg E) A2 ws2' o) A2 av H := by
  obtain ⟨p, l, e, R, s, m, args, below, meth, c, G, A, rw, Q, kc, ks⟩ := E
  intro hPc locs ls hls
  refine va_runS K.1 hM ⟨callB_of (ws := Cond.code y cc2 n2 ret :: UW) av.length K.hts (goodUW hc) rfl rfl rfl (K.hts _ hini) (K.hts _ hlk) hok.1 ⟨Nat.le_trans hok.2.1 K.2.2.2.1, jroom hok.2.1 hok.2.2 K.2.2.2.2.1⟩, K.hts _ hst⟩ ⟨mc_blind, hPc⟩ rfl rfl hls hstk (lv_room hroom) hd ⟨K.2.2.2.2.2.1, K.2.2.2.2.2.2⟩
theorem jrun_SN (K : jC E cc nL own h) (hd : decode cc pc = .ok (.invokestatic index, 3)) {host : String} (hM : MC (jl E) y cc2 n2 ret h2 (jg E) A2 rw2 ws2 ws2' av o) (hc : Cond.code y cc2 n2 ret ∈ UW) (hlk : (own, index, y, host) ∈ jNM) (hst : Cond.static y ∈ UW) (hini : Cond.initialized y.cls ∈ UW) (hok : jOk y n2 h2 h av.length) (hstk : st0 = av.reverse ++ st) (hroom : (st.map fun v => v.category).sum ≤ 8) (H : Heap) :
    jRun E pc nL st0 st (jP (jg E) A2 rw2 ws2 av) (jQ (jg E) A2 ws2' o) A2 av H := by
  obtain ⟨p, l, e, R, s, m, args, below, meth, c, G, A, rw, Q, kc, ks⟩ := E
  intro hPc locs ls hls
  refine va_runSN (host := host) K.1 hM ⟨va_cnB (ws := Cond.code y cc2 n2 ret :: UW) av.length K.hts (goodUW hc) rfl rfl rfl (K.2.1.2.2.1 _ hlk) (K.hts _ hini) hok.1 ⟨Nat.le_trans hok.2.1 K.2.2.2.1, jroom hok.2.1 hok.2.2 K.2.2.2.2.1⟩, K.hts _ hst, trivial⟩ ⟨mc_blind, hPc⟩ rfl rfl hls hstk (lv_room hroom) hd ⟨K.2.2.2.2.2.1, K.2.2.2.2.2.2⟩
theorem jrun_V (K : jC E cc nL own h) (hd : decode cc pc = .ok (.invokevirtual index, 3)) (hM : MC (jl E) y cc2 n2 ret h2 (jg E) A2 rw2 ws2 ws2' (.ref b :: av) o) (hc : Cond.code y cc2 n2 ret ∈ UW) (hlk : Cond.methodLink own index y ∈ UW) (hins : Cond.instanceMethod y ∈ UW) (hsel : Cond.selects C y y ∈ UW) (hini : Cond.initialized y.cls ∈ UW) (hok : jOk y n2 h2 h av.length) (hstk : st0 = av.reverse ++ .ref b :: st) (hroom : (st.map fun v => v.category).sum ≤ 8) (q0 : Nat) (he : ws[q0]? = some (b, .inr (ci, fs))) (hcl : vwCl[ci]? = some (C, T, N)) (H : Heap) (hP : va_P (jg E).1 vwCl ws H) :
    jRun E pc nL st0 st (jP (jg E) A2 rw2 ws2 (.ref b :: av)) (jQ (jg E) A2 ws2' o) A2 (.ref b :: av) H := by
  obtain ⟨p, l, e, R, s, m, args, below, meth, c, G, A, rw, Q, kc, ks⟩ := E
  intro hPc locs ls hls
  refine va_runV (C := C) K.1 hM ⟨callB_of (ws := Cond.code y cc2 n2 ret :: UW) av.length K.hts (goodUW hc) rfl rfl rfl (K.hts _ hini) (K.hts _ hlk) hok.1 ⟨Nat.le_trans hok.2.1 K.2.2.2.1, jroom hok.2.1 hok.2.2 K.2.2.2.2.1⟩, K.hts _ hins, K.hts _ hsel⟩ ⟨mc_blind, va_recv K.2.1.1 hP hcl he, hPc⟩ rfl rfl hls hstk (lv_room hroom) hd ⟨K.2.2.2.2.2.1, K.2.2.2.2.2.2⟩
/-- a call of an abstract method x that selects y -/
theorem jrun_A {x : MethodName} (K : jC E cc nL own h) (hd : decode cc pc = .ok (.invokevirtual index, 3)) (hM : MC (jl E) y cc2 n2 ret h2 (jg E) A2 rw2 ws2 ws2' (.ref b :: av) o) (hc : Cond.code y cc2 n2 ret ∈ UW) (hlk : Cond.methodLink own index x ∈ UW) (hsm : Cond.sameMethod x.cls x.cls x.name x.desc ∈ UW) (hins : Cond.instanceMethod y ∈ UW) (hsel : Cond.selects C x y ∈ UW) (hini : Cond.initialized y.cls ∈ UW) (hdc : x ∈ jND) (hok : jOk x n2 h2 h av.length) (hstk : st0 = av.reverse ++ .ref b :: st) (hroom : (st.map fun v => v.category).sum ≤ 8) (q0 : Nat) (he : ws[q0]? = some (b, .inr (ci, fs))) (hcl : vwCl[ci]? = some (C, T, N)) (H : Heap) (hP : va_P (jg E).1 vwCl ws H) :
    jRun E pc nL st0 st (jP (jg E) A2 rw2 ws2 (.ref b :: av)) (jQ (jg E) A2 ws2' o) A2 (.ref b :: av) H := by
  obtain ⟨p, l, e, R, s, m, args, below, meth, c, G, A, rw, Q, kc, ks⟩ := E
  intro hPc locs ls hls
  have hT : GoodIn UW (va_wsU own index C x.cls x y (Cond.code y cc2 n2 ret :: UW)) := fun w hw => by
    unfold va_wsU at hw
    rcases List.mem_append.mp hw with hw | hw
    · simp only [List.mem_cons, List.not_mem_nil, or_false] at hw
      rcases hw with rfl | rfl | rfl | rfl | rfl
      · exact ⟨hlk, UW_good _ hlk⟩
      · exact ⟨hsm, UW_good _ hsm⟩
      · exact ⟨hsel, UW_good _ hsel⟩
      · exact ⟨hins, UW_good _ hins⟩
      · exact ⟨hini, UW_good _ hini⟩
    · exact goodUW hc w hw
  refine va_runU (C := C) (owner := x.cls) K.1 hM (va_cwA (ws := Cond.code y cc2 n2 ret :: UW) av.length K.hts hT rfl rfl rfl (K.2.1.2.2.2 _ hdc) hok.1 ⟨Nat.le_trans hok.2.1 K.2.2.2.1, jroom hok.2.1 hok.2.2 K.2.2.2.2.1⟩) ⟨mc_blind, va_recv K.2.1.1 hP hcl he, hPc⟩ rfl rfl hls hstk (lv_room hroom) hd ⟨K.2.2.2.2.2.1, K.2.2.2.2.2.2⟩
/-- a callee that changes nothing -/
theorem j_ro {as : List Value} (K : jC E cc nL own h) (hr : ∀ H : Heap, va_P (jg E).1 vwCl ws H → jRun E pc nL st0 st (jP (jg E) jNo False ws2 as) (jQ (jg E) jNo ws2' o) jNo as H) (is : List Nat) (hs : is.filterMap (fun i => ws[i]?) = ws2) (hp : pc + 3 = pc') (k : J E nL ws pc' lv (o.toList ++ st)) : J E nL ws pc lv st0 := by
  obtain ⟨p, l, e, R, s, m, args, below, meth, c, G, A, rw, Q, kc, ks⟩ := E
  subst hp
  intro H locs ls hP hD hS hl
  have h1 := hr H hP (fun U hU hW => ⟨rfl, by rw [hU]; exact hP.sub is hs, fun z => z.elim, K.2.1.warm hW, by
    rw [hU]
    exact ((K.2.2.1.kept (H1 := H) (fun a h1 h2 => hS.2.1 a h1 h2)).narrow (fun q z => z.elim)).moved hW.alike⟩) locs ls hl.1
  refine j_after h1 hS (fun q z => z.elim) fun H1 locs1 hP1 hz hk hS1 => ?_
  exact k H1 locs1 ls (hP.kept fun k q hkq => hk _ (hP k q hkq).lt (fun z => z)) hD hS1 hl
/-- a callee that changes its own cells -/
theorem j_rw {as : List Value} {ws' : va_W} (K : jC E cc nL own h) (hr : ∀ H : Heap, va_P (jg E).1 vwCl ws H → jRun E pc nL st0 st (jP (jg E) (jad ws2) True ws2 as) (jQ (jg E) (jad ws2) ws2' o) (jad ws2) as H) (hrw : jrw E) (is : List Nat) (hn : va_nd is = true) (hs : is.map (fun i => ws[i]?) = ws2.map some) (hlen : ws2'.length = ws2.length) (hm : jmrg ws is ws2' = ws') (had : ws'.map Prod.fst = ws.map Prod.fst) (hp : pc + 3 = pc') (k : J E nL ws' pc' lv (o.toList ++ st)) : J E nL ws pc lv st0 := by
  obtain ⟨p, l, e, R, s, m, args, below, meth, c, G, A, rw, Q, kc, ks⟩ := E
  subst hp
  intro H locs ls hP hD hS hl
  have hD0 := hD hrw
  have hs2 : is.filterMap (fun i => ws[i]?) = ws2 := by
    have h9 : (is.map (fun i => ws[i]?)).filterMap id = (ws2.map some).filterMap id := by rw [hs]
    simpa [List.filterMap_map, Function.comp_def] using h9
  have hA2 : ∀ q, jad ws2 q → A q := fun q hq => by
    obtain ⟨q2, m1, m2⟩ := List.mem_map.mp hq
    rw [← hs2] at m1
    obtain ⟨i, -, hi⟩ := List.mem_filterMap.mp m1
    rw [← m2]
    exact hD0.2 i q2 hi
  have h1 := hr H hP (fun U hU hW => ⟨rfl, by rw [hU]; exact hP.sub is hs2, fun _ => jad_D ((hD0.sub is hn hs).weaken (fun _ _ _ _ => trivial)), K.2.1.warm hW, by
    rw [hU]
    exact ((K.2.2.1.kept (H1 := H) (fun a h1 h2 => hS.2.1 a h1 h2)).narrow hA2).moved hW.alike⟩) locs ls hl.1
  refine j_after h1 hS hA2 fun H1 locs1 hP1 hz hk hS1 => ?_
  subst hm
  exact k H1 locs1 ls (j_mrgP hP hD0 hs hlen hP1 hk) (fun _ => va_D_addr had hD0) hS1 hl
end JCALL
