/-! ===== making objects: J with the count of cells, constructors' contracts MK ===== -/
def jk (E : jE) (kc ks : Nat) : jE := (E.1, E.2.1, E.2.2.1, E.2.2.2.1, E.2.2.2.2.1, E.2.2.2.2.2.1, E.2.2.2.2.2.2.1, E.2.2.2.2.2.2.2.1, E.2.2.2.2.2.2.2.2.1, E.2.2.2.2.2.2.2.2.2.1, E.2.2.2.2.2.2.2.2.2.2.1, E.2.2.2.2.2.2.2.2.2.2.2.1, E.2.2.2.2.2.2.2.2.2.2.2.2.1, E.2.2.2.2.2.2.2.2.2.2.2.2.2.1, kc, ks)
def jNew (E : jE) : Prop := ∀ q : Nat, E.2.2.2.2.1.heap.size ≤ q → jA E q
def jInit (E : jE) : Prop := E.2.2.2.2.2.2.2.2.1.name = "<init>"
def jAO : List String := [RX2, RX5, RX8]
def jCA : List (String × String) := [(RX9, RX5), (RX0, RX5), (RX3, RX5), (RX1, RX5), (RX4, RX5)]
def jX (U : State) : Prop := (∀ C ∈ jAO, va_AO C U) ∧ ∀ q ∈ jCA, va_Nw (.castable q.1 q.2) U
theorem jX.warm {s U : State} (hW : s.WarmedH U.vm) (h : jX s) : jX U := ⟨fun C hC => (h.1 C hC).moved hW.alike, fun q hq => va_Nw.warmC hW (h.2 q hq)⟩
theorem jX.vm {s U : State} (hv : s.vm = U.vm) (h : jX s) : jX U := ⟨fun C hC => (h.1 C hC).moved (by rw [hv]; exact Vm.Alike.refl _), fun q hq => va_Nw.same rfl hv (h.2 q hq)⟩
def jXs (E : jE) : Prop := jX E.2.2.2.2.1
def jRk (h kc ks : Nat) : Room := { frames := h, cells := kc, slots := ks, locals := 36 * h }
theorem jRA_u {U : State} {c1 c2 : ClassId} {ty : FieldType} (h1 : va_RA U c1 ty) (h2 : va_RA U c2 ty) : c1 = c2 := by
  cases ty with
  | object C =>
    obtain ⟨kA, comp, -, -, -, h4⟩ := h1
    obtain ⟨kB, comp', -, -, -, h4'⟩ := h2
    exact Option.some.inj (h4.symm.trans h4')
  | _ => exact Option.some.inj (Eq.trans (Eq.symm h1) h2)
section JK
variable {E : jE} {kc ks : Nat} {cc : ByteArray} {nL : Nat} {own : String} {h : Nat} {ws : va_W} {pc pc' : Nat} {lv : List (Nat × Value)} {st : List Value}
theorem j_newa {atype : ArrayType} {ty : FieldType} {n : Int32} {N : Nat} {cA : ClassId} {a0 : vp_A} (K : jC (jk E kc ks) cc nL own h) (K2 : jC (jk E (kc + 1) (ks + N)) cc nL own h) (hrw : jrw E) (hnew : jNew E) (hd : decode cc pc = .ok (.newarray atype, 2)) (hty : newarray.typeOf atype = ty) (harr : Cond.arrayClass ty ∈ UW) (t0 : Nat) (ht : (jTY (jg E).2.1)[t0]? = some (cA, ty)) (ha : ∀ cA : ClassId, vp_cell cA a0 = arrV cA N (fun _ => defaultValue ty)) (hn : ¬ n < 0) (hN : n.toNatClampNeg = N) (hby : N * componentBytes ty ≤ 536870912) (hp : pc + 2 = pc')
    (k : ∀ q : Nat, J (jk E (kc + 1) (ks + N)) nL (ws ++ [(q, .inl (cA, a0))]) pc' lv (.ref q :: st)) : J (jk E kc ks) nL ws pc lv (.int n :: st) := by
  obtain ⟨p, l, e, R, s, m, args, below, meth, c, G, A, rw, Q, kc0, ks0⟩ := E
  subst hp
  intro H locs ls hP hD hS hl
  refine va_newa K.1.1 K.1.2.1 (by rw [hty]; exact K.1.2.2.2.2 _ harr) hty K.2.1.1 hP (hD hrw) hS hnew ha hn hN hby K2.2.2.2.2.2.1 K2.2.2.2.2.2.2 hd (fun q cA' H1 hK' hP1 hD1 hS1 => ?_)
  have e1 : cA' = cA := jRA_u (hK'.2 7 _ rfl).2 (K.2.1.1.2 t0 _ ht).2
  subst e1
  exact k q H1 locs ls hP1 (fun _ => hD1) hS1 hl
theorem j_newq {C : String} {index : Nat} {n : Int32} {N : Nat} {cA : ClassId} (K : jC (jk E kc ks) cc nL own h) (K2 : jC (jk E (kc + 1) (ks + N)) cc nL own h) (hrw : jrw E) (hnew : jNew E) (hX : jXs E) (hd : decode cc pc = .ok (.anewarray index, 3)) (hlk : Cond.classLink own index C ∈ UW) (hao : C ∈ jAO) (t0 : Nat) (ht : (jTY (jg E).2.1)[t0]? = some (cA, .object C)) (hn : ¬ n < 0) (hN : n.toNatClampNeg = N) (hby : N * 4 ≤ 536870912) (hp : pc + 3 = pc')
    (k : ∀ q : Nat, J (jk E (kc + 1) (ks + N)) nL (ws ++ [(q, .inl (cA, N, .inr (.inr (.inr (.inr (fun _ => none))))))]) pc' lv (.ref q :: st)) : J (jk E kc ks) nL ws pc lv (.int n :: st) := by
  obtain ⟨p, l, e, R, s, m, args, below, meth, c, G, A, rw, Q, kc0, ks0⟩ := E
  subst hp
  intro H locs ls hP hD hS hl
  refine va_newq K.1.1 K.1.2.1 K.1.2.2.2.1 (K.1.2.2.2.2 _ hlk) (hX.1 _ hao) K.2.1.1 hP (hD hrw) hS hnew hn hN hby K2.2.2.2.2.2.1 K2.2.2.2.2.2.2 hd (fun q cA' H1 hK' hP1 hD1 hS1 => ?_)
  have e1 : cA' = cA := jRA_u (hK'.2 7 _ rfl).2 (K.2.1.1.2 t0 _ ht).2
  subst e1
  exact k q H1 locs ls hP1 (fun _ => hD1) hS1 hl
theorem j_new {C : String} {T : u_T} {index N ci : Nat} {fs : List Value} (K : jC (jk E kc ks) cc nL own h) (K2 : jC (jk E (kc + 1) (ks + N)) cc nL own h) (hrw : jrw E) (hnew : jNew E) (hd : decode cc pc = .ok (.new index, 3)) (hin : ∀ w ∈ u_ws C T N, w ∈ UW) (ty : Nat → FieldType) (hty : ∀ k, k < N → parseFieldDescriptor (T k).2.2.1 = some (ty k)) (hcl : Cond.classLink own index C ∈ UW) (hinst : Cond.instantiable C N ∈ UW) (hini : Cond.initialized C ∈ UW) (hc : vwCl[ci]? = some (C, T, N)) (hfs : ∀ j, j < N → defaultValue (ty j) = vp_V fs j) (hp : pc + 3 = pc')
    (k : ∀ q : Nat, J (jk E (kc + 1) (ks + N)) nL (ws ++ [(q, .inr (ci, fs))]) pc' lv (.ref q :: st)) : J (jk E kc ks) nL ws pc lv st := by
  obtain ⟨p, l, e, R, s, m, args, below, meth, c, G, A, rw, Q, kc0, ks0⟩ := E
  subst hp
  intro H locs ls hP hD hS hl
  exact va_new K.1.1 K.1.2.1 K.1.2.2.2.2 hin ty hty K.1.2.2.2.1 (K.1.2.2.2.2 _ hcl) (K.1.2.2.2.2 _ hinst) (K.1.2.2.2.2 _ hini) K.2.1.1 hP (hD hrw) hS hnew hc hfs K2.2.2.2.2.2.1 K2.2.2.2.2.2.2 hd (fun q H1 hP1 hD1 hS1 => k q H1 locs ls hP1 (fun _ => hD1) hS1 hl)
theorem j_putF {ref C : String} {T : u_T} {N ci index a : Nat} {ws' : va_W} (K : jC E cc nL own h) (hd : decode cc pc = .ok (.putfield index, 3)) (hrw : jrw E) (hI : jInit E) (hin : ∀ w ∈ u_ws C T N, w ∈ UW) (ty0 : Nat → FieldType) (hty : ∀ k, k < N → parseFieldDescriptor (T k).2.2.1 = some (ty0 k)) (hnm : ∀ a, a < N → ∀ b, b < N → a ≠ b → (T a).2.1 ≠ (T b).2.1) (q0 : Nat) {fs : List Value} (he : ws[q0]? = some (a, .inr (ci, fs))) (hc : vwCl[ci]? = some (C, T, N)) (k0 : Nat) (hk : k0 < N) (hlink : Cond.fieldLink own index ref (T k0).2.1 (T k0).2.2.1 ∈ UW) (hr : ref = (T k0).1) (hfin : (T k0).2.2.2 = true) (hdc : (T k0).1 = own) {v : Value} (hn : narrow (ty0 k0) v = v) (hfit : fits (ty0 k0) v = true) (hl0 : k0 < fs.length) (hw : ws.set q0 (a, .inr (ci, fs.set k0 v)) = ws') (hp : pc + 3 = pc') (k : J E nL ws' pc' lv st) : J E nL ws pc lv (v :: .ref a :: st) := by
  obtain ⟨p, l, e, R, s, m, args, below, meth, c, G, A, rw, Q, kc, ks⟩ := E
  subst hp
  subst hr
  subst hw
  intro H locs ls hP hD hS hl
  exact va_putF K.1.1 K.1.2.1 K.1.2.2.2.2 hin ty0 hty hnm K.1.2.2.2.1 K.2.1.1 hP (hD hrw) hS q0 he hc k0 hk (K.1.2.2.2.2 _ hlink) (fun _ q => q) hfin hI hdc (hty k0 hk) hn hfit hl0 hd (fun H1 locs1 hP1 hD1 hS1 => k H1 locs1 ls hP1 (fun _ => hD1) hS1 hl)
theorem j_aast {a n v : Nat} {r : vw_C} {vs : List Value} {cA : ClassId} {f : Nat → Option Nat} {i : Int32} {ws' : va_W} (K : jC E cc nL own h) (hd : decode cc pc = .ok (.aastore, 1)) (hrw : jrw E) (q0 t0 qk ci : Nat) (ha : ws[q0]? = some (a, .inl (cA, n, .inr (.inr (.inr (.inr f)))))) (ht : (jTY (jg E).2.1)[t0]? = some (cA, .object r.1)) (hv : ws[qk]? = some (v, .inr (ci, vs))) (hc : vwCl[ci]? = some r) (hi : vp_in i n) (hw : ws.set q0 (a, .inl (cA, n, .inr (.inr (.inr (.inr (va_up f i.toNatClampNeg (some v))))))) = ws') (hp : pc + 1 = pc') (k : J E nL ws' pc' lv st) : J E nL ws pc lv (.ref v :: .int i :: .ref a :: st) := by
  obtain ⟨p, l, e, R, s, m, args, below, meth, c, G, A, rw, Q, kc, ks⟩ := E
  subst hp
  subst hw
  intro H locs ls hP hD hS hl
  exact va_astq K.1.1 K.1.2.1 K.2.1.1 hP (hD hrw) hS q0 t0 qk ci ha ht hv hc hi hd (fun H1 locs1 hP1 hD1 hS1 => k H1 locs1 ls hP1 (fun _ => hD1) hS1 hl)
theorem j_aastO {a n v : Nat} {r : vw_C} {vs : List Value} {cA : ClassId} {f : Nat → Option Nat} {i : Int32} {ws' : va_W} {B : String} (K : jC E cc nL own h) (hd : decode cc pc = .ok (.aastore, 1)) (hrw : jrw E) (hX : jXs E) (q0 t0 qk ci : Nat) (ha : ws[q0]? = some (a, .inl (cA, n, .inr (.inr (.inr (.inr f)))))) (ht : (jTY (jg E).2.1)[t0]? = some (cA, .object B)) (hca : (r.1, B) ∈ jCA) (hv : ws[qk]? = some (v, .inr (ci, vs))) (hc : vwCl[ci]? = some r) (hi : vp_in i n) (hw : ws.set q0 (a, .inl (cA, n, .inr (.inr (.inr (.inr (va_up f i.toNatClampNeg (some v))))))) = ws') (hp : pc + 1 = pc') (k : J E nL ws' pc' lv st) : J E nL ws pc lv (.ref v :: .int i :: .ref a :: st) := by
  obtain ⟨p, l, e, R, s, m, args, below, meth, c, G, A, rw, Q, kc, ks⟩ := E
  subst hp
  subst hw
  intro H locs ls hP hD hS hl
  exact va_astqO K.1.1 K.1.2.1 K.2.1.1 hP (hD hrw) hS q0 t0 qk ci ha ht (hX.2 _ hca) hv hc hi hd (fun H1 locs1 hP1 hD1 hS1 => k H1 locs1 ls hP1 (fun _ => hD1) hS1 hl)
theorem j_objInit {idx a : Nat} (K : jC E cc nL own h) (hd : decode cc pc = .ok (.invokespecial idx, 3)) (hlk : Cond.methodLink own idx objectInit ∈ UW) (hins : Cond.instanceMethod objectInit ∈ UW) (hcd : Cond.code objectInit ⟨#[0xb1]⟩ 1 none ∈ UW) (hh : 1 ≤ h) (hroom : (st.map fun v => v.category).sum ≤ 8) (hp : pc + 3 = pc') (k : J E nL ws pc' lv st) : J E nL ws pc lv (.ref a :: st) := by
  obtain ⟨p, l, e, R, s, m, args, below, meth, c, G, A, rw, Q, kc, ks⟩ := E
  subst hp
  intro H locs ls hP hD hS hl
  have h36 := K.2.2.2.2.1
  have hr := lv_room (m := m) (pc := pc) (ls := ls) (rest := .ref a :: st) hroom
  refine W.objInit K.1.1 K.1.2.1 K.1.2.2.2.1 (K.hts _ hlk) (K.hts _ hins) (K.hts _ hcd) (g := F0 m pc ls (.ref a :: st)) rfl (by rw [K.1.2.2.1]; exact hl.1) (rest := st) rfl hd (Nat.le_trans hh K.2.2.2.1) (by omega) (k H locs ls hP hD hS hl)
end JK
/-- a constructor's contract: of an object at whose place the cells ws stand, it makes what B says -/
def MK (l : Launch) (y : MethodName) (cc : ByteArray) (n h kc ks : Nat) (G : jG) (ws : va_W) (sz : Nat) (av : List Value) (B : va_W → Prop) : Prop :=
  Met l y (Cond.code y cc n none :: UW) (jRk h kc ks) (va_Pc av (fun U => U.heap.size = sz ∧ va_P G.1 vwCl ws U.heap ∧ va_D (fun _ => True) ws ∧ jU G U ∧ jX U ∧ jF (va_A ws sz) G U U.heap)) (fun _ st oc t => oc = .returned none ∧ (∃ ws' : va_W, B ws' ∧ va_P G.1 vwCl ws' t.heap ∧ va_D (va_A ws sz) ws') ∧ va_F (va_A ws sz) st t) kc ks (va_A ws sz)
def jRK (E : jE) (cc : ByteArray) (n : Nat) (B : va_W → Prop) : Prop := ∀ (ws' : va_W) (pc : Nat) (lv : List (Nat × Value)), B ws' → decode cc pc = .ok (.return_, 1) → J E n ws' pc lv []
theorem mk_of {l : Launch} {y : MethodName} {cc : ByteArray} {n h kc ks : Nat} {G : jG} {ws : va_W} {sz : Nat} {av : List Value} {B : va_W → Prop} (hy : plainName y.cls = true) (hyn : y.name = "<init>") (hn : (lg_sl av).length ≤ n)
    (body : ∀ E : jE, jl E = l → jg E = G → jA E = va_A ws sz → jrw E → jNew E → jInit E → jXs E → (∀ k2 s2, k2 ≤ kc → s2 ≤ ks → jC (jk E k2 s2) cc n y.cls h) → jRK (jk E kc ks) cc n B → J (jk E 0 0) n ws 0 (lv_args 0 av) []) : MK l y cc n h kc ks G ws sz av B := by
  refine Met.ofW (cc := cc) (maxL := n) (ret := none) hy rfl ?_
  intro p e s m args below meth c s₁ Bd hml hv
  obtain ⟨rfl, hsz, hP, hD0, hU, hX, hF⟩ := hv
  have hx := Bd.exec
  have hb := Bd.bytes
  have hr := Bd.returns
  have hts := atoms_spec (ws := Cond.code y cc n none :: UW) Bd.pre
  have hown : s.vm.findClass y.cls = some m.cls := findClass_of_methodNamed Bd.named
  have hin : meth.name = "<init>" := (name_of_methodNamed Bd.named Bd.method).1.trans hyn
  have hlocks := Bd.notSynchronized
  subst hsz
  have hD := hD0.self (sz := s.heap.size)
  have hl := lv_entry av (n := n) hn
  rw [lg_entry_eq]
  generalize (lg_sl av ++ List.replicate (n - (lg_sl av).length) Slot.unset).toArray = ls at hl ⊢
  refine body (p, l, e, jRk h kc ks, s, m, av.toArray, below, meth, c, G, va_A ws s.heap.size, True, MQ below (fun _ st oc t => oc = .returned none ∧ (∃ ws' : va_W, B ws' ∧ va_P G.1 vwCl ws' t.heap ∧ va_D (va_A ws s.heap.size) ws') ∧ va_F (va_A ws s.heap.size) st t) av.toArray s kc ks (va_A ws s.heap.size), 0, 0) rfl rfl rfl trivial (fun q hq => Or.inr hq) hin hX (fun k2 s2 h1 h2 => ⟨⟨hx, hb, hml, hown, fun w hw => hts w (List.mem_cons_of_mem _ hw)⟩, hU, hF, Nat.le_refl _, Nat.le_refl _, h1, h2⟩) ?_ s.heap [] ls hP (fun _ => hD) va_S.rf hl
  show jRK (p, l, e, jRk h kc ks, s, m, av.toArray, below, meth, c, G, va_A ws s.heap.size, True, MQ below (fun _ st oc t => oc = .returned none ∧ (∃ ws' : va_W, B ws' ∧ va_P G.1 vwCl ws' t.heap ∧ va_D (va_A ws s.heap.size) ws') ∧ va_F (va_A ws s.heap.size) st t) av.toArray s kc ks (va_A ws s.heap.size), kc, ks) cc n B
  intro ws' pc lv hB hd H locs ls hP hD hS hl
  exact W.vret hx hb hr (fun t ht hW => ⟨rfl, ⟨ws', hB, by rw [ht]; exact hP, hD trivial⟩, hS.F ht⟩) hS.2.2 hd hlocks
theorem mk_blind {G : jG} {ws : va_W} {sz : Nat} {av : List Value} : FrameBlind (va_Pc av (fun U => U.heap.size = sz ∧ va_P G.1 vwCl ws U.heap ∧ va_D (fun _ => True) ws ∧ jU G U ∧ jX U ∧ jF (va_A ws sz) G U U.heap)) := fun a U g mk q =>
  ⟨q.1, q.2.1, q.2.2.1, q.2.2.2.1, q.2.2.2.2.1.vm rfl, q.2.2.2.2.2.1.vm rfl, q.2.2.2.2.2.2.moved (u := U) (U := U.calling g mk a) (Vm.Alike.refl U.vm)⟩
theorem jctorPD {D : va_G} {cl : List vw_C} {A : Nat → Prop} {ws ws' : va_W} {c : Nat × va_E} {H H1 : Heap} (hP : va_P D cl (ws ++ [c]) H) (hD : va_D A (ws ++ [c])) (hk : ∀ q : Nat, q < H.size → ¬ va_A [c] H.size q → H1[q]? = H[q]?) (hF : ∀ q, va_A [c] H.size q → A q) (hP1 : va_P D cl ws' H1) (hD1 : va_D (va_A [c] H.size) ws') : va_P D cl (ws ++ ws') H1 ∧ va_D A (ws ++ ws') := by
  have hl : ∀ (k : Nat) (q : Nat × va_E), ws[k]? = some q → (ws ++ [c])[k]? = some q := fun k q hq => by rw [List.getElem?_append_left ((List.getElem?_eq_some_iff.mp hq).1)]; exact hq
  have apart : ∀ (k : Nat) (q : Nat × va_E), ws[k]? = some q → q.1 < H.size ∧ ¬ va_A [c] H.size q.1 := by
    intro k q hq
    have h1 := (hP k q (hl k q hq)).lt
    refine ⟨h1, fun hA => ?_⟩
    rcases hA with ⟨k2, e, h2⟩ | h2
    · have h3 : k2 = 0 ∧ c = (q.1, e) := by
        cases k2 with
        | zero => exact ⟨rfl, Option.some.inj h2⟩
        | succ k2 => simp at h2
      have h4 : (ws ++ [c])[ws.length]? = some c := by simp
      have h5 := hD.1 k ws.length q c (hl k q hq) h4 (by rw [h3.2])
      have h6 := (List.getElem?_eq_some_iff.mp hq).1
      omega
    · omega
  refine ⟨va_P.app (fun k q hq => (hP k q (hl k q hq)).kept (hk q.1 (apart k q hq).1 (apart k q hq).2)) hP1, va_D.app ⟨fun i j p q hi hj hpq => hD.1 i j p q (hl i p hi) (hl j q hj) hpq, fun k q hq => hD.2 k q (hl k q hq)⟩ (hD1.weaken (fun k q _ h => hF q.1 h)) (fun i j x y hx hy hxy => ?_)⟩
  exact (apart i x hx).2 (by rw [hxy]; exact hD1.2 j y hy)
section JKC
variable {E : jE} {kc ks mc ms : Nat} {cc : ByteArray} {nL : Nat} {own : String} {h : Nat} {ws : va_W} {pc pc' : Nat} {lv : List (Nat × Value)} {st st0 : List Value}
variable {y : MethodName} {cc2 : ByteArray} {n2 h2 index b : Nat} {av : List Value} {e0 : va_E} {B : va_W → Prop}
theorem jctor_go {p : Program} {l : Launch} {e : Env} {R : Room} {s : State} {m : MethodId} {args : Array Value} {below : List Frame} {meth : Method} {c : Code} {H : Heap} {locs : List Loc} {cells slots mc ms : Nat} {Q : State → Prop} {pc : Nat} {ls : Array Slot} {rest st0 : List Value} {A0 A2 : Nat → Prop} {H0 : Heap} {Bh : Heap → Prop}
    (hr : va_Run p l e R s m args below meth c H locs cells slots mc ms (F0 m pc ls st0) rest (fun st oc t => oc = .returned none ∧ Bh t.heap ∧ va_F A2 st t) A2) (hS : va_S A0 H0 H locs) (hA : ∀ q, A2 q → A0 q)
    (kk : ∀ (H1 : Heap) (locs1 : List Loc), Bh H1 → H.size ≤ H1.size → (∀ q : Nat, q < H.size → ¬ A2 q → H1[q]? = H[q]?) → va_S A0 H0 H1 locs1 → W p l e R s m args below meth c H1 locs1 (cells + mc) (slots + ms) Q (F0 m (pc + 3) ls rest)) : W p l e R s m args below meth c H locs cells slots Q (F0 m pc ls st0) := by
  intro T hT X
  obtain ⟨v, st₀, t, T', L, h0, X', hL, e1, e2, ⟨hv, hp, hz, hk⟩, st⟩ := hr T hT X
  cases hv
  rw [h0] at hz hk
  obtain ⟨t2, a1, b1⟩ := kk T'.heap (locs ++ L) (by rw [e1]; exact hp) (by rw [e1]; exact hz) (fun q h1 h2 => by rw [e1]; exact hk q h1 h2)
    ⟨Nat.le_trans hS.1 (by rw [e1]; exact hz), fun q h1 h2 => by rw [e1, hk q (Nat.lt_of_lt_of_le h1 hS.1) (fun z => h2 (hA q z))]; exact hS.2.1 q h1 h2, fun q hq => by
      rcases List.mem_append.mp hq with h | h
      · exact hS.2.2 q h
      · exact hA _ (hL q h)⟩ T' rfl X'
  exact ⟨t2, st t2 a1, b1⟩
theorem jctor_pre {p : Program} {l : Launch} {e : Env} {R : Room} {s : State} {m : MethodId} {args : Array Value} {below : List Frame} {meth : Method} {c : Code} {G : jG} {A : Nat → Prop} {rw : Prop} {Q : State → Prop} {kc ks : Nat} {H : Heap} {locs : List Loc} (K : jC (p, l, e, R, s, m, args, below, meth, c, G, A, rw, Q, kc, ks) cc nL own h) (hX : jX s) (hnew : ∀ q : Nat, s.heap.size ≤ q → A q) (hP : va_P G.1 vwCl (ws ++ [(b, e0)]) H) (hD : va_D A (ws ++ [(b, e0)])) (hS : va_S A s.heap H locs) :
    (∀ q, va_A [(b, e0)] H.size q → A q) ∧ ∀ U : State, U.heap = H → s.WarmedH U.vm → (va_Pc (.ref b :: av) (fun U => U.heap.size = H.size ∧ va_P G.1 vwCl [(b, e0)] U.heap ∧ va_D (fun _ => True) [(b, e0)] ∧ jU G U ∧ jX U ∧ jF (va_A [(b, e0)] H.size) G U U.heap)) (Value.ref b :: av).toArray U := by
  have hc : (ws ++ [(b, e0)])[ws.length]? = some (b, e0) := by simp
  have hF : ∀ q, va_A [(b, e0)] H.size q → A q := by
    intro q hq
    rcases hq with ⟨k2, e2, h2⟩ | h2
    · cases k2 with
      | zero =>
        have h3 : (b, e0) = (q, e2) := Option.some.inj h2
        cases h3
        exact hD.2 _ _ hc
      | succ k2 => simp at h2
    · exact hnew q (Nat.le_trans hS.1 h2)
  refine ⟨hF, fun U hU hW => ⟨rfl, by rw [hU], ?_, ?_, K.2.1.warm hW, hX.warm hW, ?_⟩⟩
  · rw [hU]
    intro k q hq
    cases k with
    | zero => cases (Option.some.inj hq); exact hP _ _ hc
    | succ k => simp at hq
  · refine ⟨fun i j p q hi hj _ => ?_, fun _ _ _ => trivial⟩
    cases i with
    | zero => cases j with
      | zero => rfl
      | succ j => simp at hj
    | succ i => simp at hi
  · rw [hU]
    exact ((K.2.2.1.kept (H1 := H) (fun a h1 h2 => hS.2.1 a h1 h2)).narrow hF).moved hW.alike
theorem j_ctor (K : jC (jk E kc ks) cc nL own h) (K2 : jC (jk E (kc + mc) (ks + ms)) cc nL own h) (hrw : jrw E) (hnew : jNew E) (hX : jXs E) (hd : decode cc pc = .ok (.invokespecial index, 3)) (hM : ∀ sz, MK (jl E) y cc2 n2 h2 mc ms (jg E) [(b, e0)] sz (.ref b :: av) B) (hc : Cond.code y cc2 n2 none ∈ UW) (hlk : Cond.methodLink own index y ∈ UW) (hins : Cond.instanceMethod y ∈ UW) (hini : Cond.initialized y.cls ∈ UW) (hyn : y.name = "<init>") (hok : jOk y n2 h2 h av.length) (hstk : st0 = av.reverse ++ .ref b :: st) (hroom : (st.map fun v => v.category).sum ≤ 8) (hp : pc + 3 = pc')
    (k : ∀ ws' : va_W, B ws' → J (jk E (kc + mc) (ks + ms)) nL (ws ++ ws') pc' lv st) : J (jk E kc ks) nL (ws ++ [(b, e0)]) pc lv st0 := by
  obtain ⟨p, l, e, R, s, m, args, below, meth, c, G, A, rw, Q, kc0, ks0⟩ := E
  subst hp
  intro H locs ls hP hD hS hl
  have K : jC (p, l, e, R, s, m, args, below, meth, c, G, A, rw, Q, kc, ks) cc nL own h := K
  have K2 : jC (p, l, e, R, s, m, args, below, meth, c, G, A, rw, Q, kc + mc, ks + ms) cc nL own h := K2
  have hX : jX s := hX
  have hrw : rw := hrw
  have hP : va_P G.1 vwCl (ws ++ [(b, e0)]) H := hP
  have hD : va_D A (ws ++ [(b, e0)]) := hD hrw
  have hS : va_S A s.heap H locs := hS
  obtain ⟨hF, hpre⟩ := jctor_pre (av := av) K hX hnew hP hD hS
  have hr : va_Run p l e R s m args below meth c H locs kc ks mc ms (F0 m pc ls st0) st (fun st oc t => oc = .returned none ∧ (∃ ws' : va_W, B ws' ∧ va_P G.1 vwCl ws' t.heap ∧ va_D (va_A [(b, e0)] H.size) ws') ∧ va_F (va_A [(b, e0)] H.size) st t) (va_A [(b, e0)] H.size) := va_runI (b := b) (As := av) (rest := st) (g := F0 m pc ls st0) (locs := locs) (cells := kc) (slots := ks) K.1 (hM H.size) ⟨callB_of (ws := Cond.code y cc2 n2 none :: UW) av.length K.hts (goodUW hc) rfl rfl rfl (K.hts _ hini) (K.hts _ hlk) hok.1 ⟨Nat.le_trans hok.2.1 K.2.2.2.1, jroom hok.2.1 hok.2.2 K.2.2.2.2.1⟩, hyn, K.hts _ hins⟩ ⟨mk_blind, hpre⟩ rfl rfl hl.1 hstk (lv_room hroom) hd ⟨K2.2.2.2.2.2.1, K2.2.2.2.2.2.2⟩
  refine jctor_go (Bh := fun X => ∃ ws' : va_W, B ws' ∧ va_P G.1 vwCl ws' X ∧ va_D (va_A [(b, e0)] H.size) ws') hr hS hF fun H1 locs1 hB hz hk hS1 => ?_
  obtain ⟨ws', hB, hP1, hD1⟩ := hB
  obtain ⟨hP2, hD2⟩ := jctorPD hP hD hk hF hP1 hD1
  exact k ws' hB H1 locs1 ls hP2 (fun _ => hD2) hS1 hl
theorem j_ctorN {host : String} (K : jC (jk E kc ks) cc nL own h) (K2 : jC (jk E (kc + mc) (ks + ms)) cc nL own h) (hrw : jrw E) (hnew : jNew E) (hX : jXs E) (hd : decode cc pc = .ok (.invokespecial index, 3)) (hM : ∀ sz, MK (jl E) y cc2 n2 h2 mc ms (jg E) [(b, e0)] sz (.ref b :: av) B) (hc : Cond.code y cc2 n2 none ∈ UW) (hlk : (own, index, y, host) ∈ jNM) (hins : Cond.instanceMethod y ∈ UW) (hini : Cond.initialized y.cls ∈ UW) (hyn : y.name = "<init>") (hok : jOk y n2 h2 h av.length) (hstk : st0 = av.reverse ++ .ref b :: st) (hroom : (st.map fun v => v.category).sum ≤ 8) (hp : pc + 3 = pc')
    (k : ∀ ws' : va_W, B ws' → J (jk E (kc + mc) (ks + ms)) nL (ws ++ ws') pc' lv st) : J (jk E kc ks) nL (ws ++ [(b, e0)]) pc lv st0 := by
  obtain ⟨p, l, e, R, s, m, args, below, meth, c, G, A, rw, Q, kc0, ks0⟩ := E
  subst hp
  intro H locs ls hP hD hS hl
  have K : jC (p, l, e, R, s, m, args, below, meth, c, G, A, rw, Q, kc, ks) cc nL own h := K
  have K2 : jC (p, l, e, R, s, m, args, below, meth, c, G, A, rw, Q, kc + mc, ks + ms) cc nL own h := K2
  have hX : jX s := hX
  have hrw : rw := hrw
  have hP : va_P G.1 vwCl (ws ++ [(b, e0)]) H := hP
  have hD : va_D A (ws ++ [(b, e0)]) := hD hrw
  have hS : va_S A s.heap H locs := hS
  obtain ⟨hF, hpre⟩ := jctor_pre (av := av) K hX hnew hP hD hS
  have hr : va_Run p l e R s m args below meth c H locs kc ks mc ms (F0 m pc ls st0) st (fun st oc t => oc = .returned none ∧ (∃ ws' : va_W, B ws' ∧ va_P G.1 vwCl ws' t.heap ∧ va_D (va_A [(b, e0)] H.size) ws') ∧ va_F (va_A [(b, e0)] H.size) st t) (va_A [(b, e0)] H.size) := va_runIN (host := host) (b := b) (As := av) (rest := st) (g := F0 m pc ls st0) (locs := locs) (cells := kc) (slots := ks) K.1 (hM H.size) ⟨va_cnB (ws := Cond.code y cc2 n2 none :: UW) av.length K.hts (goodUW hc) rfl rfl rfl (K.2.1.2.2.1 _ hlk) (K.hts _ hini) hok.1 ⟨Nat.le_trans hok.2.1 K.2.2.2.1, jroom hok.2.1 hok.2.2 K.2.2.2.2.1⟩, hyn, K.hts _ hins⟩ ⟨mk_blind, hpre⟩ rfl rfl hl.1 hstk (lv_room hroom) hd ⟨K2.2.2.2.2.2.1, K2.2.2.2.2.2.2⟩
  refine jctor_go (Bh := fun X => ∃ ws' : va_W, B ws' ∧ va_P G.1 vwCl ws' X ∧ va_D (va_A [(b, e0)] H.size) ws') hr hS hF fun H1 locs1 hB hz hk hS1 => ?_
  obtain ⟨ws', hB, hP1, hD1⟩ := hB
  obtain ⟨hP2, hD2⟩ := jctorPD hP hD hk hF hP1 hD1
  exact k ws' hB H1 locs1 ls hP2 (fun _ => hD2) hS1 hl
/-- a constructor of the class above that changes nothing -/
theorem jrun_IN {host : String} {E : jE} (K : jC E cc nL own h) (hd : decode cc pc = .ok (.invokespecial index, 3)) (hM : MC (jl E) y cc2 n2 none h2 (jg E) jNo False [] [] [.ref b] none) (hc : Cond.code y cc2 n2 none ∈ UW) (hlk : (own, index, y, host) ∈ jNM) (hins : Cond.instanceMethod y ∈ UW) (hini : Cond.initialized y.cls ∈ UW) (hyn : y.name = "<init>") (hok : jOk y n2 h2 h 0) (hroom : (st.map fun v => v.category).sum ≤ 8) (H : Heap) :
    jRun E pc nL (.ref b :: st) st (jP (jg E) jNo False [] [.ref b]) (jQ (jg E) jNo [] none) jNo [.ref b] H := by
  obtain ⟨p, l, e, R, s, m, args, below, meth, c, G, A, rw, Q, kc, ks⟩ := E
  intro hPc locs ls hls
  exact va_runIN (host := host) (As := []) K.1 hM ⟨va_cnB (ws := Cond.code y cc2 n2 none :: UW) 0 K.hts (goodUW hc) rfl rfl rfl (K.2.1.2.2.1 _ hlk) (K.hts _ hini) hok.1 ⟨Nat.le_trans hok.2.1 K.2.2.2.1, jroom hok.2.1 hok.2.2 K.2.2.2.2.1⟩, hyn, K.hts _ hins⟩ ⟨mc_blind, hPc⟩ rfl rfl hls rfl (lv_room hroom) hd ⟨K.2.2.2.2.2.1, K.2.2.2.2.2.2⟩
end JKC
