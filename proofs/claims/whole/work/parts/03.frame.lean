/-! ===== the judgement J: a walk's state with the heap hidden; contracts MC; my own text ===== -/
abbrev jG : Type := va_G × (Nat → ClassId) × Nat
abbrev jE : Type := Program × Launch × Env × Room × State × MethodId × Array Value × List Frame × Method × Code × jG × (Nat → Prop) × Prop × (State → Prop) × Nat × Nat
def jl (E : jE) : Launch := E.2.1
def jg (E : jE) : jG := E.2.2.2.2.2.2.2.2.2.2.1
def jA (E : jE) : Nat → Prop := E.2.2.2.2.2.2.2.2.2.2.2.1
def jrw (E : jE) : Prop := E.2.2.2.2.2.2.2.2.2.2.2.2.1
abbrev jTY (cy : Nat → ClassId) : List (ClassId × FieldType) := [(cy 0, .int), (cy 1, .long), (cy 2, .byte), (cy 3, .boolean), (cy 4, .object RX2), (cy 5, .object RX5), (cy 6, .object RX8)]
def jNF : List (String × Nat × String × String × String × String) := [("CountTriangles$Heights", 25, "CountTriangles", "FACTORIALS", "[I", "CountTriangles"), ("CountTriangles$Orders", 82, "CountTriangles", "FACTORIALS", "[I", "CountTriangles"), ("CountTriangles$Polynomial", 62, "CountTriangles", "FACTORIALS", "[I", "CountTriangles")]
def jNM : List (String × Nat × MethodName × String) := [("CountTriangles", 11, ⟨"CountTriangles$Text", "<init>", "()V"⟩, "CountTriangles"), ("CountTriangles", 24, ⟨"CountTriangles$Partings", "<init>", "()V"⟩, "CountTriangles"), ("CountTriangles", 43, ⟨"CountTriangles$Polynomial", "<init>", "()V"⟩, "CountTriangles"), ("CountTriangles$Falls", 22, ⟨"CountTriangles", "within", "(III)Z"⟩, "CountTriangles"), ("CountTriangles$Falls", 3, ⟨"CountTriangles$Mark", "<init>", "()V"⟩, "CountTriangles"), ("CountTriangles$Heights", 21, ⟨"CountTriangles", "within", "(III)Z"⟩, "CountTriangles"), ("CountTriangles$Heights", 3, ⟨"CountTriangles$Mark", "<init>", "()V"⟩, "CountTriangles"), ("CountTriangles$Law", 103, ⟨"CountTriangles", "isPlace", "(III)Z"⟩, "CountTriangles"), ("CountTriangles$Law", 94, ⟨"CountTriangles", "beyond", "(JJ)Z"⟩, "CountTriangles"), ("CountTriangles$LesserPairs", 23, ⟨"CountTriangles", "within", "(III)Z"⟩, "CountTriangles"), ("CountTriangles$LesserPairs", 3, ⟨"CountTriangles$Mark", "<init>", "()V"⟩, "CountTriangles"), ("CountTriangles$LongestRise", 3, ⟨"CountTriangles$Mark", "<init>", "()V"⟩, "CountTriangles"), ("CountTriangles$LongestRise", 33, ⟨"CountTriangles", "within", "(III)Z"⟩, "CountTriangles"), ("CountTriangles$Orders", 40, ⟨"CountTriangles$LongestRise", "<init>", "()V"⟩, "CountTriangles"), ("CountTriangles$Orders", 41, ⟨"CountTriangles", "hasDigitsAlone", "(II)Z"⟩, "CountTriangles"), ("CountTriangles$Orders", 45, ⟨"CountTriangles", "digitAt", "(III)I"⟩, "CountTriangles"), ("CountTriangles$Partings", 19, ⟨"CountTriangles", "within", "(III)Z"⟩, "CountTriangles"), ("CountTriangles$Partings", 31, ⟨"CountTriangles", "hasDigitsAlone", "(II)Z"⟩, "CountTriangles"), ("CountTriangles$Partings", 35, ⟨"CountTriangles", "digitAt", "(III)I"⟩, "CountTriangles"), ("CountTriangles$Polynomial", 28, ⟨"CountTriangles", "within", "(III)Z"⟩, "CountTriangles"), ("CountTriangles$Polynomial", 71, ⟨"CountTriangles", "beyond", "(JJ)Z"⟩, "CountTriangles"), ("CountTriangles$Rings", 19, ⟨"CountTriangles", "within", "(III)Z"⟩, "CountTriangles"), ("CountTriangles$Rings", 3, ⟨"CountTriangles$Mark", "<init>", "()V"⟩, "CountTriangles")]
def jND : List MethodName := [⟨"CountTriangles$Mark", "growth", "(III[II)I"⟩, ⟨"CountTriangles$Mark", "next", "(III)I"⟩, ⟨"CountTriangles$Mark", "start", "(I)I"⟩, ⟨"CountTriangles$Mark", "ways", "(III)I"⟩]
def jU (G : jG) (U : State) : Prop := va_K G.1 vwCl (jTY G.2.1) U ∧ (∀ q ∈ jNF, va_Nw (.fieldLinkNest q.1 q.2.1 q.2.2.1 q.2.2.2.1 q.2.2.2.2.1 q.2.2.2.2.2) U) ∧ (∀ q ∈ jNM, va_Nw (.methodLinkNest q.1 q.2.1 q.2.2.1 q.2.2.2) U) ∧ ∀ q ∈ jND, va_Nw (.declares q) U
theorem jU.warm {G : jG} {s U : State} (hW : s.WarmedH U.vm) (h : jU G s) : jU G U :=
  ⟨va_K.moved hW.alike h.1, fun q hq => va_Nw.warmF hW (h.2.1 q hq), fun q hq => va_Nw.warmM hW (h.2.2.1 q hq), fun q hq => va_Nw.warmD hW (h.2.2.2 q hq)⟩
theorem jU.vm {G : jG} {s U : State} (hv : s.vm = U.vm) (h : jU G s) : jU G U :=
  ⟨va_K.moved (by rw [hv]; exact Vm.Alike.refl _) h.1, fun q hq => va_Nw.same rfl hv (h.2.1 q hq), fun q hq => va_Nw.same rfl hv (h.2.2.1 q hq), fun q hq => va_Nw.same rfl hv (h.2.2.2 q hq)⟩
def jfac (j : Nat) : Int32 := ([1, 1, 2, 6, 24, 120, 720, 5040, 40320] : List Int32).getD j 0
def jF (A : Nat → Prop) (G : jG) (U : State) (H : Heap) : Prop := va_Z "CountTriangles" "FACTORIALS" "[I" (.ref G.2.2) A U H ∧ va_T .int G.2.2 9 (fun j => .int (jfac j)) A U H
theorem jF.kept {A : Nat → Prop} {G : jG} {U : State} {H H1 : Heap} (h : jF A G U H) (hq : ∀ a : Nat, a < H.size → ¬ A a → H1[a]? = H[a]?) : jF A G U H1 := ⟨h.1.kept hq, h.2.kept hq⟩
theorem jF.narrow {A B : Nat → Prop} {G : jG} {U : State} {H : Heap} (h : jF A G U H) (hAB : ∀ q, B q → A q) : jF B G U H := ⟨h.1.narrow hAB, h.2.narrow hAB⟩
theorem jF.moved {A : Nat → Prop} {G : jG} {u U : State} {H : Heap} (hv : u.vm.Alike U.vm) (h : jF A G u H) : jF A G U H := ⟨h.1.moved hv, h.2.moved hv⟩
def J (E : jE) (nL : Nat) (ws : va_W) (pc : Nat) (lv : List (Nat × Value)) (st : List Value) : Prop :=
  match E with
  | (p, l, e, R, s, m, args, below, meth, c, G, A, rw, Q, kc, ks) => ∀ (H : Heap) (locs : List Loc) (ls : Array Slot), va_P G.1 vwCl ws H → (rw → va_D A ws) → va_S A s.heap H locs → lv_has ls nL lv → W p l e R s m args below meth c H locs kc ks Q (F0 m pc ls st)
def jC (E : jE) (cc : ByteArray) (nL : Nat) (own : String) (h : Nat) : Prop :=
  match E with
  | (p, l, e, R, s, m, args, below, meth, c, G, A, rw, Q, kc, ks) => CallFix p m c cc nL s args UW own ∧ jU G s ∧ jF A G s s.heap ∧ h ≤ R.frames ∧ 36 * h ≤ R.locals ∧ kc ≤ R.cells ∧ ks ≤ R.slots
def jR (h : Nat) : Room := { frames := h, cells := 0, slots := 0, locals := 36 * h }
/-- the contract of a method: any heap that holds the cells ws (of which those that A names may change): it returns o, the heap holds ws' -/
def MC (l : Launch) (y : MethodName) (cc : ByteArray) (n : Nat) (ret : Option FieldType) (h : Nat) (G : jG) (A : Nat → Prop) (rw : Prop) (ws ws' : va_W) (av : List Value) (o : Option Value) : Prop :=
  Met l y (Cond.code y cc n ret :: UW) (jR h) (va_Pc av (fun U => va_P G.1 vwCl ws U.heap ∧ (rw → va_D A ws) ∧ jU G U ∧ jF A G U U.heap)) (fun _ st oc t => oc = .returned o ∧ va_P G.1 vwCl ws' t.heap ∧ va_F A st t) 0 0 A
def jNo : Nat → Prop := fun _ => False
def jad (ws : va_W) : Nat → Prop := fun q => q ∈ ws.map Prod.fst
/-! guards of the functions -/
def jgd {α : Type} (i : Int32) (n : Nat) (k : Option α) : Option α := if i < 0 ∨ n ≤ i.toNatClampNeg then none else k
theorem jgd_some {α : Type} {i : Int32} {n : Nat} {k : Option α} {r : α} (h : jgd i n k = some r) : vp_in i n ∧ k = some r := by
  unfold jgd at h
  by_cases c : i < 0 ∨ n ≤ i.toNatClampNeg
  · rw [if_pos c] at h; cases h
  · rw [if_neg c] at h; exact ⟨c, h⟩
theorem jgd_in {α : Type} {i : Int32} {n : Nat} {k : Option α} (h : vp_in i n) : jgd i n k = k := if_neg h
def jnz {α : Type} (y : Int32) (k : Option α) : Option α := if y = 0 then none else k
theorem jnz_some {α : Type} {y : Int32} {k : Option α} {r : α} (h : jnz y k = some r) : ¬ y = 0 ∧ k = some r := by
  unfold jnz at h
  by_cases c : y = 0
  · rw [if_pos c] at h; cases h
  · rw [if_neg c] at h; exact ⟨c, h⟩
def jnzl {α : Type} (y : Int64) (k : Option α) : Option α := if y = 0 then none else k
theorem jnzl_some {α : Type} {y : Int64} {k : Option α} {r : α} (h : jnzl y k = some r) : ¬ y = 0 ∧ k = some r := by
  unfold jnzl at h
  by_cases c : y = 0
  · rw [if_pos c] at h; cases h
  · rw [if_neg c] at h; exact ⟨c, h⟩
def jzb {α : Type} (y : Int32) (k : Option α) : Option α := if y = 0 ∨ y = 1 then k else none
theorem jzb_some {α : Type} {y : Int32} {k : Option α} {r : α} (h : jzb y k = some r) : (y = 0 ∨ y = 1) ∧ k = some r := by
  unfold jzb at h
  by_cases c : y = 0 ∨ y = 1
  · rw [if_pos c] at h; exact ⟨c, h⟩
  · rw [if_neg c] at h; cases h
theorem jzb_n {y : Int32} (h : y = 0 ∨ y = 1) : narrow .boolean (.int y) = .int y := by rcases h with rfl | rfl <;> decide +kernel
theorem jzb_f {y : Int32} (h : y = 0 ∨ y = 1) : fits .boolean (.int y) = true := by rcases h with rfl | rfl <;> decide +kernel
def jbd {α β : Type} (x : Option α) (k : α → Option β) : Option β := match x with
  | none => none
  | some r => k r
theorem jbd_some {α β : Type} {x : Option α} {k : α → Option β} {r : β} (h : jbd x k = some r) : ∃ y, x = some y ∧ k y = some r := by
  cases x with
  | none => cases h
  | some y => exact ⟨y, rfl, h⟩
theorem jit {α : Type} {c : Prop} [Decidable c] {a b : Option α} {r : α} (hc : c) (h : (if c then a else b) = some r) : a = some r := by rw [if_pos hc] at h; exact h
theorem jif {α : Type} {c : Prop} [Decidable c] {a b : Option α} {r : α} (hc : ¬ c) (h : (if c then a else b) = some r) : b = some r := by rw [if_neg hc] at h; exact h
theorem j_iconst {E : jE} {cc : ByteArray} {nL : Nat} {own : String} {h : Nat} {ws : va_W} {pc pc' : Nat} {lv : List (Nat × Value)} {st : List Value} {n : Int} {v : Int32} (K : jC E cc nL own h) (hd : decode cc pc = .ok (.iconst n, 1)) (hv : Int32.ofInt n = v) (hp : pc + 1 = pc') (k : J E nL ws pc' lv (.int v :: st)) : J E nL ws pc lv (st) := by
  obtain ⟨p, l, e, R, s, m, args, below, meth, c, G, A, rw, Q, kc, ks⟩ := E
  subst hp
  intro H locs ls hP hD hS hl
  exact lv_iconst K.1.1 K.1.2.1 hd hv (k H locs ls hP hD hS hl)
theorem j_bipush {E : jE} {cc : ByteArray} {nL : Nat} {own : String} {h : Nat} {ws : va_W} {pc pc' : Nat} {lv : List (Nat × Value)} {st : List Value} {n : Int} {v : Int32} (K : jC E cc nL own h) (hd : decode cc pc = .ok (.bipush n, 2)) (hv : (Int8.ofInt n).toInt32 = v) (hp : pc + 2 = pc') (k : J E nL ws pc' lv (.int v :: st)) : J E nL ws pc lv (st) := by
  obtain ⟨p, l, e, R, s, m, args, below, meth, c, G, A, rw, Q, kc, ks⟩ := E
  subst hp
  intro H locs ls hP hD hS hl
  exact lv_bipush K.1.1 K.1.2.1 hd hv (k H locs ls hP hD hS hl)
theorem j_sipush {E : jE} {cc : ByteArray} {nL : Nat} {own : String} {h : Nat} {ws : va_W} {pc pc' : Nat} {lv : List (Nat × Value)} {st : List Value} {n : Int} {v : Int32} (K : jC E cc nL own h) (hd : decode cc pc = .ok (.sipush n, 3)) (hv : (Int16.ofInt n).toInt32 = v) (hp : pc + 3 = pc') (k : J E nL ws pc' lv (.int v :: st)) : J E nL ws pc lv (st) := by
  obtain ⟨p, l, e, R, s, m, args, below, meth, c, G, A, rw, Q, kc, ks⟩ := E
  subst hp
  intro H locs ls hP hD hS hl
  exact lv_sipush K.1.1 K.1.2.1 hd hv (k H locs ls hP hD hS hl)
theorem j_lconst {E : jE} {cc : ByteArray} {nL : Nat} {own : String} {h : Nat} {ws : va_W} {pc pc' : Nat} {lv : List (Nat × Value)} {st : List Value} {n : Fin 2} {v : Int64} (K : jC E cc nL own h) (hd : decode cc pc = .ok (.lconst n, 1)) (hv : Int64.ofNat (n : Nat) = v) (hp : pc + 1 = pc') (k : J E nL ws pc' lv (.long v :: st)) : J E nL ws pc lv (st) := by
  obtain ⟨p, l, e, R, s, m, args, below, meth, c, G, A, rw, Q, kc, ks⟩ := E
  subst hp
  intro H locs ls hP hD hS hl
  exact lv_lconst K.1.1 K.1.2.1 hd hv (k H locs ls hP hD hS hl)
theorem j_iload_n {E : jE} {cc : ByteArray} {nL : Nat} {own : String} {h : Nat} {ws : va_W} {pc pc' : Nat} {lv : List (Nat × Value)} {st : List Value} {q : Fin 4} {i : Nat} {x : Int32} (K : jC E cc nL own h) (hd : decode cc pc = .ok (.iload_n q, 1)) (hi : (q : Nat) = i) (j : Nat) (hj : lv[j]? = some (i, .int x)) (hp : pc + 1 = pc') (k : J E nL ws pc' lv (.int x :: st)) : J E nL ws pc lv (st) := by
  obtain ⟨p, l, e, R, s, m, args, below, meth, c, G, A, rw, Q, kc, ks⟩ := E
  subst hp
  intro H locs ls hP hD hS hl
  exact lv_iload_n K.1.1 K.1.2.1 hd hi (lv_at hl j hj) (k H locs ls hP hD hS hl)
theorem j_iload {E : jE} {cc : ByteArray} {nL : Nat} {own : String} {h : Nat} {ws : va_W} {pc pc' : Nat} {lv : List (Nat × Value)} {st : List Value} {i : Nat} {x : Int32} (K : jC E cc nL own h) (hd : decode cc pc = .ok (.iload i, 2)) (j : Nat) (hj : lv[j]? = some (i, .int x)) (hp : pc + 2 = pc') (k : J E nL ws pc' lv (.int x :: st)) : J E nL ws pc lv (st) := by
  obtain ⟨p, l, e, R, s, m, args, below, meth, c, G, A, rw, Q, kc, ks⟩ := E
  subst hp
  intro H locs ls hP hD hS hl
  exact lv_iload K.1.1 K.1.2.1 hd (lv_at hl j hj) (k H locs ls hP hD hS hl)
theorem j_lload_n {E : jE} {cc : ByteArray} {nL : Nat} {own : String} {h : Nat} {ws : va_W} {pc pc' : Nat} {lv : List (Nat × Value)} {st : List Value} {q : Fin 4} {i : Nat} {x : Int64} (K : jC E cc nL own h) (hd : decode cc pc = .ok (.lload_n q, 1)) (hi : (q : Nat) = i) (j : Nat) (hj : lv[j]? = some (i, .long x)) (hp : pc + 1 = pc') (k : J E nL ws pc' lv (.long x :: st)) : J E nL ws pc lv (st) := by
  obtain ⟨p, l, e, R, s, m, args, below, meth, c, G, A, rw, Q, kc, ks⟩ := E
  subst hp
  intro H locs ls hP hD hS hl
  exact lv_lload_n K.1.1 K.1.2.1 hd hi (lv_at hl j hj) (k H locs ls hP hD hS hl)
theorem j_lload {E : jE} {cc : ByteArray} {nL : Nat} {own : String} {h : Nat} {ws : va_W} {pc pc' : Nat} {lv : List (Nat × Value)} {st : List Value} {i : Nat} {x : Int64} (K : jC E cc nL own h) (hd : decode cc pc = .ok (.lload i, 2)) (j : Nat) (hj : lv[j]? = some (i, .long x)) (hp : pc + 2 = pc') (k : J E nL ws pc' lv (.long x :: st)) : J E nL ws pc lv (st) := by
  obtain ⟨p, l, e, R, s, m, args, below, meth, c, G, A, rw, Q, kc, ks⟩ := E
  subst hp
  intro H locs ls hP hD hS hl
  exact lv_lload K.1.1 K.1.2.1 hd (lv_at hl j hj) (k H locs ls hP hD hS hl)
theorem j_aload_n {E : jE} {cc : ByteArray} {nL : Nat} {own : String} {h : Nat} {ws : va_W} {pc pc' : Nat} {lv : List (Nat × Value)} {st : List Value} {q : Fin 4} {i : Nat} {x : Nat} (K : jC E cc nL own h) (hd : decode cc pc = .ok (.aload_n q, 1)) (hi : (q : Nat) = i) (j : Nat) (hj : lv[j]? = some (i, .ref x)) (hp : pc + 1 = pc') (k : J E nL ws pc' lv (.ref x :: st)) : J E nL ws pc lv (st) := by
  obtain ⟨p, l, e, R, s, m, args, below, meth, c, G, A, rw, Q, kc, ks⟩ := E
  subst hp
  intro H locs ls hP hD hS hl
  exact lv_aload_n K.1.1 K.1.2.1 hd hi (lv_at hl j hj) (k H locs ls hP hD hS hl)
theorem j_aload {E : jE} {cc : ByteArray} {nL : Nat} {own : String} {h : Nat} {ws : va_W} {pc pc' : Nat} {lv : List (Nat × Value)} {st : List Value} {i : Nat} {x : Nat} (K : jC E cc nL own h) (hd : decode cc pc = .ok (.aload i, 2)) (j : Nat) (hj : lv[j]? = some (i, .ref x)) (hp : pc + 2 = pc') (k : J E nL ws pc' lv (.ref x :: st)) : J E nL ws pc lv (st) := by
  obtain ⟨p, l, e, R, s, m, args, below, meth, c, G, A, rw, Q, kc, ks⟩ := E
  subst hp
  intro H locs ls hP hD hS hl
  exact lv_aload K.1.1 K.1.2.1 hd (lv_at hl j hj) (k H locs ls hP hD hS hl)
theorem j_iadd {E : jE} {cc : ByteArray} {nL : Nat} {own : String} {h : Nat} {ws : va_W} {pc pc' : Nat} {lv : List (Nat × Value)} {st : List Value} {x y : Int32} (K : jC E cc nL own h) (hd : decode cc pc = .ok (.iadd, 1))  (hp : pc + 1 = pc') (k : J E nL ws pc' lv (.int (x + y) :: st)) : J E nL ws pc lv (.int y :: .int x :: st) := by
  obtain ⟨p, l, e, R, s, m, args, below, meth, c, G, A, rw, Q, kc, ks⟩ := E
  subst hp
  intro H locs ls hP hD hS hl
  exact lv_iadd K.1.1 K.1.2.1 hd  (k H locs ls hP hD hS hl)
theorem j_isub {E : jE} {cc : ByteArray} {nL : Nat} {own : String} {h : Nat} {ws : va_W} {pc pc' : Nat} {lv : List (Nat × Value)} {st : List Value} {x y : Int32} (K : jC E cc nL own h) (hd : decode cc pc = .ok (.isub, 1))  (hp : pc + 1 = pc') (k : J E nL ws pc' lv (.int (x - y) :: st)) : J E nL ws pc lv (.int y :: .int x :: st) := by
  obtain ⟨p, l, e, R, s, m, args, below, meth, c, G, A, rw, Q, kc, ks⟩ := E
  subst hp
  intro H locs ls hP hD hS hl
  exact lv_isub K.1.1 K.1.2.1 hd  (k H locs ls hP hD hS hl)
theorem j_imul {E : jE} {cc : ByteArray} {nL : Nat} {own : String} {h : Nat} {ws : va_W} {pc pc' : Nat} {lv : List (Nat × Value)} {st : List Value} {x y : Int32} (K : jC E cc nL own h) (hd : decode cc pc = .ok (.imul, 1))  (hp : pc + 1 = pc') (k : J E nL ws pc' lv (.int (x * y) :: st)) : J E nL ws pc lv (.int y :: .int x :: st) := by
  obtain ⟨p, l, e, R, s, m, args, below, meth, c, G, A, rw, Q, kc, ks⟩ := E
  subst hp
  intro H locs ls hP hD hS hl
  exact lv_imul K.1.1 K.1.2.1 hd  (k H locs ls hP hD hS hl)
theorem j_iand {E : jE} {cc : ByteArray} {nL : Nat} {own : String} {h : Nat} {ws : va_W} {pc pc' : Nat} {lv : List (Nat × Value)} {st : List Value} {x y : Int32} (K : jC E cc nL own h) (hd : decode cc pc = .ok (.iand, 1))  (hp : pc + 1 = pc') (k : J E nL ws pc' lv (.int (x &&& y) :: st)) : J E nL ws pc lv (.int y :: .int x :: st) := by
  obtain ⟨p, l, e, R, s, m, args, below, meth, c, G, A, rw, Q, kc, ks⟩ := E
  subst hp
  intro H locs ls hP hD hS hl
  exact lv_iand K.1.1 K.1.2.1 hd  (k H locs ls hP hD hS hl)
theorem j_ior {E : jE} {cc : ByteArray} {nL : Nat} {own : String} {h : Nat} {ws : va_W} {pc pc' : Nat} {lv : List (Nat × Value)} {st : List Value} {x y : Int32} (K : jC E cc nL own h) (hd : decode cc pc = .ok (.ior, 1))  (hp : pc + 1 = pc') (k : J E nL ws pc' lv (.int (x ||| y) :: st)) : J E nL ws pc lv (.int y :: .int x :: st) := by
  obtain ⟨p, l, e, R, s, m, args, below, meth, c, G, A, rw, Q, kc, ks⟩ := E
  subst hp
  intro H locs ls hP hD hS hl
  exact lv_ior K.1.1 K.1.2.1 hd  (k H locs ls hP hD hS hl)
theorem j_ixor {E : jE} {cc : ByteArray} {nL : Nat} {own : String} {h : Nat} {ws : va_W} {pc pc' : Nat} {lv : List (Nat × Value)} {st : List Value} {x y : Int32} (K : jC E cc nL own h) (hd : decode cc pc = .ok (.ixor, 1))  (hp : pc + 1 = pc') (k : J E nL ws pc' lv (.int (x ^^^ y) :: st)) : J E nL ws pc lv (.int y :: .int x :: st) := by
  obtain ⟨p, l, e, R, s, m, args, below, meth, c, G, A, rw, Q, kc, ks⟩ := E
  subst hp
  intro H locs ls hP hD hS hl
  exact lv_ixor K.1.1 K.1.2.1 hd  (k H locs ls hP hD hS hl)
theorem j_ishl {E : jE} {cc : ByteArray} {nL : Nat} {own : String} {h : Nat} {ws : va_W} {pc pc' : Nat} {lv : List (Nat × Value)} {st : List Value} {x y : Int32} (K : jC E cc nL own h) (hd : decode cc pc = .ok (.ishl, 1))  (hp : pc + 1 = pc') (k : J E nL ws pc' lv (.int (x <<< (y &&& 31)) :: st)) : J E nL ws pc lv (.int y :: .int x :: st) := by
  obtain ⟨p, l, e, R, s, m, args, below, meth, c, G, A, rw, Q, kc, ks⟩ := E
  subst hp
  intro H locs ls hP hD hS hl
  exact lv_ishl K.1.1 K.1.2.1 hd  (k H locs ls hP hD hS hl)
theorem j_ishr {E : jE} {cc : ByteArray} {nL : Nat} {own : String} {h : Nat} {ws : va_W} {pc pc' : Nat} {lv : List (Nat × Value)} {st : List Value} {x y : Int32} (K : jC E cc nL own h) (hd : decode cc pc = .ok (.ishr, 1))  (hp : pc + 1 = pc') (k : J E nL ws pc' lv (.int (x >>> (y &&& 31)) :: st)) : J E nL ws pc lv (.int y :: .int x :: st) := by
  obtain ⟨p, l, e, R, s, m, args, below, meth, c, G, A, rw, Q, kc, ks⟩ := E
  subst hp
  intro H locs ls hP hD hS hl
  exact lv_ishr K.1.1 K.1.2.1 hd  (k H locs ls hP hD hS hl)
theorem j_ladd {E : jE} {cc : ByteArray} {nL : Nat} {own : String} {h : Nat} {ws : va_W} {pc pc' : Nat} {lv : List (Nat × Value)} {st : List Value} {x y : Int64} (K : jC E cc nL own h) (hd : decode cc pc = .ok (.ladd, 1))  (hp : pc + 1 = pc') (k : J E nL ws pc' lv (.long (x + y) :: st)) : J E nL ws pc lv (.long y :: .long x :: st) := by
  obtain ⟨p, l, e, R, s, m, args, below, meth, c, G, A, rw, Q, kc, ks⟩ := E
  subst hp
  intro H locs ls hP hD hS hl
  exact lv_ladd K.1.1 K.1.2.1 hd  (k H locs ls hP hD hS hl)
theorem j_lsub {E : jE} {cc : ByteArray} {nL : Nat} {own : String} {h : Nat} {ws : va_W} {pc pc' : Nat} {lv : List (Nat × Value)} {st : List Value} {x y : Int64} (K : jC E cc nL own h) (hd : decode cc pc = .ok (.lsub, 1))  (hp : pc + 1 = pc') (k : J E nL ws pc' lv (.long (x - y) :: st)) : J E nL ws pc lv (.long y :: .long x :: st) := by
  obtain ⟨p, l, e, R, s, m, args, below, meth, c, G, A, rw, Q, kc, ks⟩ := E
  subst hp
  intro H locs ls hP hD hS hl
  exact lv_lsub K.1.1 K.1.2.1 hd  (k H locs ls hP hD hS hl)
theorem j_lmul {E : jE} {cc : ByteArray} {nL : Nat} {own : String} {h : Nat} {ws : va_W} {pc pc' : Nat} {lv : List (Nat × Value)} {st : List Value} {x y : Int64} (K : jC E cc nL own h) (hd : decode cc pc = .ok (.lmul, 1))  (hp : pc + 1 = pc') (k : J E nL ws pc' lv (.long (x * y) :: st)) : J E nL ws pc lv (.long y :: .long x :: st) := by
  obtain ⟨p, l, e, R, s, m, args, below, meth, c, G, A, rw, Q, kc, ks⟩ := E
  subst hp
  intro H locs ls hP hD hS hl
  exact lv_lmul K.1.1 K.1.2.1 hd  (k H locs ls hP hD hS hl)
theorem j_land {E : jE} {cc : ByteArray} {nL : Nat} {own : String} {h : Nat} {ws : va_W} {pc pc' : Nat} {lv : List (Nat × Value)} {st : List Value} {x y : Int64} (K : jC E cc nL own h) (hd : decode cc pc = .ok (.land, 1))  (hp : pc + 1 = pc') (k : J E nL ws pc' lv (.long (x &&& y) :: st)) : J E nL ws pc lv (.long y :: .long x :: st) := by
  obtain ⟨p, l, e, R, s, m, args, below, meth, c, G, A, rw, Q, kc, ks⟩ := E
  subst hp
  intro H locs ls hP hD hS hl
  exact lv_land K.1.1 K.1.2.1 hd  (k H locs ls hP hD hS hl)
theorem j_lor {E : jE} {cc : ByteArray} {nL : Nat} {own : String} {h : Nat} {ws : va_W} {pc pc' : Nat} {lv : List (Nat × Value)} {st : List Value} {x y : Int64} (K : jC E cc nL own h) (hd : decode cc pc = .ok (.lor, 1))  (hp : pc + 1 = pc') (k : J E nL ws pc' lv (.long (x ||| y) :: st)) : J E nL ws pc lv (.long y :: .long x :: st) := by
  obtain ⟨p, l, e, R, s, m, args, below, meth, c, G, A, rw, Q, kc, ks⟩ := E
  subst hp
  intro H locs ls hP hD hS hl
  exact lv_lor K.1.1 K.1.2.1 hd  (k H locs ls hP hD hS hl)
theorem j_idiv {E : jE} {cc : ByteArray} {nL : Nat} {own : String} {h : Nat} {ws : va_W} {pc pc' : Nat} {lv : List (Nat × Value)} {st : List Value} {x y : Int32} (K : jC E cc nL own h) (hd : decode cc pc = .ok (.idiv, 1)) (hne : ¬ y = 0) (hp : pc + 1 = pc') (k : J E nL ws pc' lv (.int (x / y) :: st)) : J E nL ws pc lv (.int y :: .int x :: st) := by
  obtain ⟨p, l, e, R, s, m, args, below, meth, c, G, A, rw, Q, kc, ks⟩ := E
  subst hp
  intro H locs ls hP hD hS hl
  exact lv_idiv K.1.1 K.1.2.1 hd hne (k H locs ls hP hD hS hl)
theorem j_irem {E : jE} {cc : ByteArray} {nL : Nat} {own : String} {h : Nat} {ws : va_W} {pc pc' : Nat} {lv : List (Nat × Value)} {st : List Value} {x y : Int32} (K : jC E cc nL own h) (hd : decode cc pc = .ok (.irem, 1)) (hne : ¬ y = 0) (hp : pc + 1 = pc') (k : J E nL ws pc' lv (.int (x - x / y * y) :: st)) : J E nL ws pc lv (.int y :: .int x :: st) := by
  obtain ⟨p, l, e, R, s, m, args, below, meth, c, G, A, rw, Q, kc, ks⟩ := E
  subst hp
  intro H locs ls hP hD hS hl
  exact lv_irem K.1.1 K.1.2.1 hd hne (k H locs ls hP hD hS hl)
theorem j_ldiv {E : jE} {cc : ByteArray} {nL : Nat} {own : String} {h : Nat} {ws : va_W} {pc pc' : Nat} {lv : List (Nat × Value)} {st : List Value} {x y : Int64} (K : jC E cc nL own h) (hd : decode cc pc = .ok (.ldiv, 1)) (hne : ¬ y = 0) (hp : pc + 1 = pc') (k : J E nL ws pc' lv (.long (x / y) :: st)) : J E nL ws pc lv (.long y :: .long x :: st) := by
  obtain ⟨p, l, e, R, s, m, args, below, meth, c, G, A, rw, Q, kc, ks⟩ := E
  subst hp
  intro H locs ls hP hD hS hl
  exact lv_ldiv K.1.1 K.1.2.1 hd hne (k H locs ls hP hD hS hl)
theorem j_lrem {E : jE} {cc : ByteArray} {nL : Nat} {own : String} {h : Nat} {ws : va_W} {pc pc' : Nat} {lv : List (Nat × Value)} {st : List Value} {x y : Int64} (K : jC E cc nL own h) (hd : decode cc pc = .ok (.lrem, 1)) (hne : ¬ y = 0) (hp : pc + 1 = pc') (k : J E nL ws pc' lv (.long (x - x / y * y) :: st)) : J E nL ws pc lv (.long y :: .long x :: st) := by
  obtain ⟨p, l, e, R, s, m, args, below, meth, c, G, A, rw, Q, kc, ks⟩ := E
  subst hp
  intro H locs ls hP hD hS hl
  exact lv_lrem K.1.1 K.1.2.1 hd hne (k H locs ls hP hD hS hl)
theorem j_ineg {E : jE} {cc : ByteArray} {nL : Nat} {own : String} {h : Nat} {ws : va_W} {pc pc' : Nat} {lv : List (Nat × Value)} {st : List Value} {x : Int32} (K : jC E cc nL own h) (hd : decode cc pc = .ok (.ineg, 1))  (hp : pc + 1 = pc') (k : J E nL ws pc' lv (.int (-x) :: st)) : J E nL ws pc lv (.int x :: st) := by
  obtain ⟨p, l, e, R, s, m, args, below, meth, c, G, A, rw, Q, kc, ks⟩ := E
  subst hp
  intro H locs ls hP hD hS hl
  exact lv_ineg K.1.1 K.1.2.1 hd  (k H locs ls hP hD hS hl)
theorem j_lneg {E : jE} {cc : ByteArray} {nL : Nat} {own : String} {h : Nat} {ws : va_W} {pc pc' : Nat} {lv : List (Nat × Value)} {st : List Value} {x : Int64} (K : jC E cc nL own h) (hd : decode cc pc = .ok (.lneg, 1))  (hp : pc + 1 = pc') (k : J E nL ws pc' lv (.long (-x) :: st)) : J E nL ws pc lv (.long x :: st) := by
  obtain ⟨p, l, e, R, s, m, args, below, meth, c, G, A, rw, Q, kc, ks⟩ := E
  subst hp
  intro H locs ls hP hD hS hl
  exact lv_lneg K.1.1 K.1.2.1 hd  (k H locs ls hP hD hS hl)
theorem j_i2l {E : jE} {cc : ByteArray} {nL : Nat} {own : String} {h : Nat} {ws : va_W} {pc pc' : Nat} {lv : List (Nat × Value)} {st : List Value} {x : Int32} (K : jC E cc nL own h) (hd : decode cc pc = .ok (.i2l, 1))  (hp : pc + 1 = pc') (k : J E nL ws pc' lv (.long x.toInt64 :: st)) : J E nL ws pc lv (.int x :: st) := by
  obtain ⟨p, l, e, R, s, m, args, below, meth, c, G, A, rw, Q, kc, ks⟩ := E
  subst hp
  intro H locs ls hP hD hS hl
  exact lv_i2l K.1.1 K.1.2.1 hd rfl (k H locs ls hP hD hS hl)
theorem j_l2i {E : jE} {cc : ByteArray} {nL : Nat} {own : String} {h : Nat} {ws : va_W} {pc pc' : Nat} {lv : List (Nat × Value)} {st : List Value} {x : Int64} (K : jC E cc nL own h) (hd : decode cc pc = .ok (.l2i, 1))  (hp : pc + 1 = pc') (k : J E nL ws pc' lv (.int x.toInt32 :: st)) : J E nL ws pc lv (.long x :: st) := by
  obtain ⟨p, l, e, R, s, m, args, below, meth, c, G, A, rw, Q, kc, ks⟩ := E
  subst hp
  intro H locs ls hP hD hS hl
  exact lv_l2i K.1.1 K.1.2.1 hd rfl (k H locs ls hP hD hS hl)
theorem j_i2b {E : jE} {cc : ByteArray} {nL : Nat} {own : String} {h : Nat} {ws : va_W} {pc pc' : Nat} {lv : List (Nat × Value)} {st : List Value} {x : Int32} (K : jC E cc nL own h) (hd : decode cc pc = .ok (.i2b, 1))  (hp : pc + 1 = pc') (k : J E nL ws pc' lv (.int x.toInt8.toInt32 :: st)) : J E nL ws pc lv (.int x :: st) := by
  obtain ⟨p, l, e, R, s, m, args, below, meth, c, G, A, rw, Q, kc, ks⟩ := E
  subst hp
  intro H locs ls hP hD hS hl
  exact lv_i2b K.1.1 K.1.2.1 hd rfl (k H locs ls hP hD hS hl)
def jushr (x y : Int32) : Int32 := (x.toUInt32 >>> (y.toUInt32 &&& Int32.toUInt32 31)).toInt32
def jlushr (x : Int64) (y : Int32) : Int64 := (x.toUInt64 >>> (y.toInt64.toUInt64 &&& Int64.toUInt64 63)).toInt64
theorem j_iushr {E : jE} {cc : ByteArray} {nL : Nat} {own : String} {h : Nat} {ws : va_W} {pc pc' : Nat} {lv : List (Nat × Value)} {st : List Value} {x y : Int32} (K : jC E cc nL own h) (hd : decode cc pc = .ok (.iushr, 1))  (hp : pc + 1 = pc') (k : J E nL ws pc' lv (.int (jushr x y) :: st)) : J E nL ws pc lv (.int y :: .int x :: st) := by
  obtain ⟨p, l, e, R, s, m, args, below, meth, c, G, A, rw, Q, kc, ks⟩ := E
  subst hp
  intro H locs ls hP hD hS hl
  exact lv_iushr K.1.1 K.1.2.1 hd rfl (k H locs ls hP hD hS hl)
theorem j_lushr {E : jE} {cc : ByteArray} {nL : Nat} {own : String} {h : Nat} {ws : va_W} {pc pc' : Nat} {lv : List (Nat × Value)} {st : List Value} {x : Int64} {y : Int32} (K : jC E cc nL own h) (hd : decode cc pc = .ok (.lushr, 1))  (hp : pc + 1 = pc') (k : J E nL ws pc' lv (.long (jlushr x y) :: st)) : J E nL ws pc lv (.int y :: .long x :: st) := by
  obtain ⟨p, l, e, R, s, m, args, below, meth, c, G, A, rw, Q, kc, ks⟩ := E
  subst hp
  intro H locs ls hP hD hS hl
  exact lv_lushr K.1.1 K.1.2.1 hd rfl (k H locs ls hP hD hS hl)
theorem j_lshl {E : jE} {cc : ByteArray} {nL : Nat} {own : String} {h : Nat} {ws : va_W} {pc pc' : Nat} {lv : List (Nat × Value)} {st : List Value} {x : Int64} {y : Int32} (K : jC E cc nL own h) (hd : decode cc pc = .ok (.lshl, 1))  (hp : pc + 1 = pc') (k : J E nL ws pc' lv (.long (x <<< (y.toInt64 &&& 63)) :: st)) : J E nL ws pc lv (.int y :: .long x :: st) := by
  obtain ⟨p, l, e, R, s, m, args, below, meth, c, G, A, rw, Q, kc, ks⟩ := E
  subst hp
  intro H locs ls hP hD hS hl
  exact lv_lshl K.1.1 K.1.2.1 hd rfl (k H locs ls hP hD hS hl)
theorem j_lshr {E : jE} {cc : ByteArray} {nL : Nat} {own : String} {h : Nat} {ws : va_W} {pc pc' : Nat} {lv : List (Nat × Value)} {st : List Value} {x : Int64} {y : Int32} (K : jC E cc nL own h) (hd : decode cc pc = .ok (.lshr, 1))  (hp : pc + 1 = pc') (k : J E nL ws pc' lv (.long (x >>> (y.toInt64 &&& 63)) :: st)) : J E nL ws pc lv (.int y :: .long x :: st) := by
  obtain ⟨p, l, e, R, s, m, args, below, meth, c, G, A, rw, Q, kc, ks⟩ := E
  subst hp
  intro H locs ls hP hD hS hl
  exact lv_lshr K.1.1 K.1.2.1 hd rfl (k H locs ls hP hD hS hl)
theorem j_dup {E : jE} {cc : ByteArray} {nL : Nat} {own : String} {h : Nat} {ws : va_W} {pc pc' : Nat} {lv : List (Nat × Value)} {st : List Value} {va : Value} (K : jC E cc nL own h) (hd : decode cc pc = .ok (.dup, 1)) (hva : va.category = 1) (hp : pc + 1 = pc') (k : J E nL ws pc' lv (va :: va :: st)) : J E nL ws pc lv (va :: st) := by
  obtain ⟨p, l, e, R, s, m, args, below, meth, c, G, A, rw, Q, kc, ks⟩ := E
  subst hp
  intro H locs ls hP hD hS hl
  exact lv_dup K.1.1 K.1.2.1 hd hva (k H locs ls hP hD hS hl)
theorem j_pop {E : jE} {cc : ByteArray} {nL : Nat} {own : String} {h : Nat} {ws : va_W} {pc pc' : Nat} {lv : List (Nat × Value)} {st : List Value} {va : Value} (K : jC E cc nL own h) (hd : decode cc pc = .ok (.pop, 1)) (hva : va.category = 1) (hp : pc + 1 = pc') (k : J E nL ws pc' lv (st)) : J E nL ws pc lv (va :: st) := by
  obtain ⟨p, l, e, R, s, m, args, below, meth, c, G, A, rw, Q, kc, ks⟩ := E
  subst hp
  intro H locs ls hP hD hS hl
  exact lv_pop K.1.1 K.1.2.1 hd hva (k H locs ls hP hD hS hl)
theorem j_dup2_11 {E : jE} {cc : ByteArray} {nL : Nat} {own : String} {h : Nat} {ws : va_W} {pc pc' : Nat} {lv : List (Nat × Value)} {st : List Value} {va vb : Value} (K : jC E cc nL own h) (hd : decode cc pc = .ok (.dup2, 1)) (hva : va.category = 1) (hvb : vb.category = 1) (hp : pc + 1 = pc') (k : J E nL ws pc' lv (va :: vb :: va :: vb :: st)) : J E nL ws pc lv (va :: vb :: st) := by
  obtain ⟨p, l, e, R, s, m, args, below, meth, c, G, A, rw, Q, kc, ks⟩ := E
  subst hp
  intro H locs ls hP hD hS hl
  exact lv_dup2_11 K.1.1 K.1.2.1 hd hva hvb (k H locs ls hP hD hS hl)
theorem j_dup2_2 {E : jE} {cc : ByteArray} {nL : Nat} {own : String} {h : Nat} {ws : va_W} {pc pc' : Nat} {lv : List (Nat × Value)} {st : List Value} {va : Value} (K : jC E cc nL own h) (hd : decode cc pc = .ok (.dup2, 1)) (hva : va.category = 2) (hp : pc + 1 = pc') (k : J E nL ws pc' lv (va :: va :: st)) : J E nL ws pc lv (va :: st) := by
  obtain ⟨p, l, e, R, s, m, args, below, meth, c, G, A, rw, Q, kc, ks⟩ := E
  subst hp
  intro H locs ls hP hD hS hl
  exact lv_dup2_2 K.1.1 K.1.2.1 hd hva (k H locs ls hP hD hS hl)
theorem j_lcmp {E : jE} {cc : ByteArray} {nL : Nat} {own : String} {h : Nat} {ws : va_W} {pc pc' : Nat} {lv : List (Nat × Value)} {st : List Value} {x y : Int64} (K : jC E cc nL own h) (hd : decode cc pc = .ok (.lcmp, 1))  (hp : pc + 1 = pc') (k : J E nL ws pc' lv (.int (lg_cmp x y) :: st)) : J E nL ws pc lv (.long y :: .long x :: st) := by
  obtain ⟨p, l, e, R, s, m, args, below, meth, c, G, A, rw, Q, kc, ks⟩ := E
  subst hp
  intro H locs ls hP hD hS hl
  exact W.lcmp K.1.1 K.1.2.1 hd  (k H locs ls hP hD hS hl)
theorem j_ldc2 {E : jE} {cc : ByteArray} {nL : Nat} {own : String} {h : Nat} {ws : va_W} {pc pc' : Nat} {lv : List (Nat × Value)} {st : List Value} {index : Nat} {v : Int64} (K : jC E cc nL own h) (hd : decode cc pc = .ok (.ldc2_w index, 3)) (hc : Cond.constantLong own index v ∈ UW) (hp : pc + 3 = pc') (k : J E nL ws pc' lv (.long v :: st)) : J E nL ws pc lv st := by
  obtain ⟨p, l, e, R, s, m, args, below, meth, c, G, A, rw, Q, kc, ks⟩ := E
  subst hp
  intro H locs ls hP hD hS hl
  exact lv_ldc2 K.1.1 K.1.2.1 K.1.2.2.2.1 (K.1.2.2.2.2 _ hc) hd (k H locs ls hP hD hS hl)
theorem j_ldc {E : jE} {cc : ByteArray} {nL : Nat} {own : String} {h : Nat} {ws : va_W} {pc pc' : Nat} {lv : List (Nat × Value)} {st : List Value} {index : Nat} {v : Int32} (K : jC E cc nL own h) (hd : decode cc pc = .ok (.ldc index, 2)) (hc : Cond.constant own index v ∈ UW) (hp : pc + 2 = pc') (k : J E nL ws pc' lv (.int v :: st)) : J E nL ws pc lv st := by
  obtain ⟨p, l, e, R, s, m, args, below, meth, c, G, A, rw, Q, kc, ks⟩ := E
  subst hp
  intro H locs ls hP hD hS hl
  exact lv_ldc K.1.1 K.1.2.1 K.1.2.2.2.1 (K.1.2.2.2.2 _ hc) hd (k H locs ls hP hD hS hl)
theorem j_ldcw {E : jE} {cc : ByteArray} {nL : Nat} {own : String} {h : Nat} {ws : va_W} {pc pc' : Nat} {lv : List (Nat × Value)} {st : List Value} {index : Nat} {v : Int32} (K : jC E cc nL own h) (hd : decode cc pc = .ok (.ldc_w index, 3)) (hc : Cond.constant own index v ∈ UW) (hp : pc + 3 = pc') (k : J E nL ws pc' lv (.int v :: st)) : J E nL ws pc lv st := by
  obtain ⟨p, l, e, R, s, m, args, below, meth, c, G, A, rw, Q, kc, ks⟩ := E
  subst hp
  intro H locs ls hP hD hS hl
  exact lv_ldcw K.1.1 K.1.2.1 K.1.2.2.2.1 (K.1.2.2.2.2 _ hc) hd (k H locs ls hP hD hS hl)
theorem j_istore_n {E : jE} {cc : ByteArray} {nL : Nat} {own : String} {h : Nat} {ws : va_W} {pc pc' : Nat} {lv : List (Nat × Value)} {st : List Value} {q : Fin 4} {i : Nat} {x : Int32} {lv' : List (Nat × Value)} (K : jC E cc nL own h) (hd : decode cc pc = .ok (.istore_n q, 1)) (hi : (q : Nat) = i) (hn : i < nL) (hl' : (i, Value.int x) :: lv.filter (fun q => !(q.1 == i) && !(q.1 + 1 == i && q.2.category == 2)) = lv') (hp : pc + 1 = pc') (k : J E nL ws pc' lv' st) : J E nL ws pc lv (.int x :: st) := by
  obtain ⟨p, l, e, R, s, m, args, below, meth, c, G, A, rw, Q, kc, ks⟩ := E
  subst hp
  intro H locs ls hP hD hS hl
  exact lv_istore_n K.1.1 K.1.2.1 hd hi hl hn hl' (fun ls2 hl2 => k H locs ls2 hP hD hS hl2)
theorem j_istore {E : jE} {cc : ByteArray} {nL : Nat} {own : String} {h : Nat} {ws : va_W} {pc pc' : Nat} {lv : List (Nat × Value)} {st : List Value} {i : Nat} {x : Int32} {lv' : List (Nat × Value)} (K : jC E cc nL own h) (hd : decode cc pc = .ok (.istore i, 2)) (hn : i < nL) (hl' : (i, Value.int x) :: lv.filter (fun q => !(q.1 == i) && !(q.1 + 1 == i && q.2.category == 2)) = lv') (hp : pc + 2 = pc') (k : J E nL ws pc' lv' st) : J E nL ws pc lv (.int x :: st) := by
  obtain ⟨p, l, e, R, s, m, args, below, meth, c, G, A, rw, Q, kc, ks⟩ := E
  subst hp
  intro H locs ls hP hD hS hl
  exact lv_istore K.1.1 K.1.2.1 hd hl hn hl' (fun ls2 hl2 => k H locs ls2 hP hD hS hl2)
theorem j_lstore_n {E : jE} {cc : ByteArray} {nL : Nat} {own : String} {h : Nat} {ws : va_W} {pc pc' : Nat} {lv : List (Nat × Value)} {st : List Value} {q : Fin 4} {i : Nat} {x : Int64} {lv' : List (Nat × Value)} (K : jC E cc nL own h) (hd : decode cc pc = .ok (.lstore_n q, 1)) (hi : (q : Nat) = i) (hn : i + 1 < nL) (hl' : (i, Value.long x) :: lv.filter (fun q => !(q.1 == i) && (!(q.1 == i + 1) && !(q.1 + 1 == i && q.2.category == 2))) = lv') (hp : pc + 1 = pc') (k : J E nL ws pc' lv' st) : J E nL ws pc lv (.long x :: st) := by
  obtain ⟨p, l, e, R, s, m, args, below, meth, c, G, A, rw, Q, kc, ks⟩ := E
  subst hp
  intro H locs ls hP hD hS hl
  exact lv_lstore_n K.1.1 K.1.2.1 hd hi hl hn hl' (fun ls2 hl2 => k H locs ls2 hP hD hS hl2)
theorem j_lstore {E : jE} {cc : ByteArray} {nL : Nat} {own : String} {h : Nat} {ws : va_W} {pc pc' : Nat} {lv : List (Nat × Value)} {st : List Value} {i : Nat} {x : Int64} {lv' : List (Nat × Value)} (K : jC E cc nL own h) (hd : decode cc pc = .ok (.lstore i, 2)) (hn : i + 1 < nL) (hl' : (i, Value.long x) :: lv.filter (fun q => !(q.1 == i) && (!(q.1 == i + 1) && !(q.1 + 1 == i && q.2.category == 2))) = lv') (hp : pc + 2 = pc') (k : J E nL ws pc' lv' st) : J E nL ws pc lv (.long x :: st) := by
  obtain ⟨p, l, e, R, s, m, args, below, meth, c, G, A, rw, Q, kc, ks⟩ := E
  subst hp
  intro H locs ls hP hD hS hl
  exact lv_lstore K.1.1 K.1.2.1 hd hl hn hl' (fun ls2 hl2 => k H locs ls2 hP hD hS hl2)
theorem j_astore_n {E : jE} {cc : ByteArray} {nL : Nat} {own : String} {h : Nat} {ws : va_W} {pc pc' : Nat} {lv : List (Nat × Value)} {st : List Value} {q : Fin 4} {i : Nat} {x : Nat} {lv' : List (Nat × Value)} (K : jC E cc nL own h) (hd : decode cc pc = .ok (.astore_n q, 1)) (hi : (q : Nat) = i) (hn : i < nL) (hl' : (i, Value.ref x) :: lv.filter (fun q => !(q.1 == i) && !(q.1 + 1 == i && q.2.category == 2)) = lv') (hp : pc + 1 = pc') (k : J E nL ws pc' lv' st) : J E nL ws pc lv (.ref x :: st) := by
  obtain ⟨p, l, e, R, s, m, args, below, meth, c, G, A, rw, Q, kc, ks⟩ := E
  subst hp
  intro H locs ls hP hD hS hl
  exact lv_astore_n K.1.1 K.1.2.1 hd hi hl hn hl' (fun ls2 hl2 => k H locs ls2 hP hD hS hl2)
theorem j_astore {E : jE} {cc : ByteArray} {nL : Nat} {own : String} {h : Nat} {ws : va_W} {pc pc' : Nat} {lv : List (Nat × Value)} {st : List Value} {i : Nat} {x : Nat} {lv' : List (Nat × Value)} (K : jC E cc nL own h) (hd : decode cc pc = .ok (.astore i, 2)) (hn : i < nL) (hl' : (i, Value.ref x) :: lv.filter (fun q => !(q.1 == i) && !(q.1 + 1 == i && q.2.category == 2)) = lv') (hp : pc + 2 = pc') (k : J E nL ws pc' lv' st) : J E nL ws pc lv (.ref x :: st) := by
  obtain ⟨p, l, e, R, s, m, args, below, meth, c, G, A, rw, Q, kc, ks⟩ := E
  subst hp
  intro H locs ls hP hD hS hl
  exact lv_astore K.1.1 K.1.2.1 hd hl hn hl' (fun ls2 hl2 => k H locs ls2 hP hD hS hl2)
theorem j_iinc {E : jE} {cc : ByteArray} {nL : Nat} {own : String} {h : Nat} {ws : va_W} {pc pc' : Nat} {lv : List (Nat × Value)} {st : List Value} {i j : Nat} {n : Int} {x v : Int32} {lv' : List (Nat × Value)} (K : jC E cc nL own h) (hd : decode cc pc = .ok (.iinc i n, 3)) (hj : lv[j]? = some (i, .int x)) (hv : x + Int32.ofInt n = v) (hn : i < nL) (hl' : (i, Value.int v) :: lv.filter (fun q => !(q.1 == i) && !(q.1 + 1 == i && q.2.category == 2)) = lv') (hp : pc + 3 = pc') (k : J E nL ws pc' lv' st) : J E nL ws pc lv st := by
  obtain ⟨p, l, e, R, s, m, args, below, meth, c, G, A, rw, Q, kc, ks⟩ := E
  subst hp
  intro H locs ls hP hD hS hl
  exact lv_iinc K.1.1 K.1.2.1 hd hl hj hv hn hl' (fun ls2 hl2 => k H locs ls2 hP hD hS hl2)
theorem j_if_eq {E : jE} {cc : ByteArray} {nL : Nat} {own : String} {h : Nat} {ws : va_W} {pc pc' : Nat} {lv : List (Nat × Value)} {st : List Value} {x : Int32} {off : Int} {tgt : Nat} (K : jC E cc nL own h) (hd : decode cc pc = .ok (.ifCond .eq off, 3)) (ht : (pc : Int) + off = (tgt : Int)) (hp : pc + 3 = pc') (kt : x = 0 → J E nL ws tgt lv st) (kf : ¬ (x = 0) → J E nL ws pc' lv st) : J E nL ws pc lv (.int x :: st) := by
  obtain ⟨p, l, e, R, s, m, args, below, meth, c, G, A, rw, Q, kc, ks⟩ := E
  subst hp
  intro H locs ls hP hD hS hl
  exact lv_if_eq K.1.1 K.1.2.1 hd ht (fun q => kt q H locs ls hP hD hS hl) (fun q => kf q H locs ls hP hD hS hl)
theorem j_icmp_eq {E : jE} {cc : ByteArray} {nL : Nat} {own : String} {h : Nat} {ws : va_W} {pc pc' : Nat} {lv : List (Nat × Value)} {st : List Value} {x y : Int32} {off : Int} {tgt : Nat} (K : jC E cc nL own h) (hd : decode cc pc = .ok (.if_icmp .eq off, 3)) (ht : (pc : Int) + off = (tgt : Int)) (hp : pc + 3 = pc') (kt : x = y → J E nL ws tgt lv st) (kf : ¬ (x = y) → J E nL ws pc' lv st) : J E nL ws pc lv (.int y :: .int x :: st) := by
  obtain ⟨p, l, e, R, s, m, args, below, meth, c, G, A, rw, Q, kc, ks⟩ := E
  subst hp
  intro H locs ls hP hD hS hl
  exact lv_icmp_eq K.1.1 K.1.2.1 hd ht (fun q => kt q H locs ls hP hD hS hl) (fun q => kf q H locs ls hP hD hS hl)
theorem j_if_ne {E : jE} {cc : ByteArray} {nL : Nat} {own : String} {h : Nat} {ws : va_W} {pc pc' : Nat} {lv : List (Nat × Value)} {st : List Value} {x : Int32} {off : Int} {tgt : Nat} (K : jC E cc nL own h) (hd : decode cc pc = .ok (.ifCond .ne off, 3)) (ht : (pc : Int) + off = (tgt : Int)) (hp : pc + 3 = pc') (kt : ¬ x = 0 → J E nL ws tgt lv st) (kf : x = 0 → J E nL ws pc' lv st) : J E nL ws pc lv (.int x :: st) := by
  obtain ⟨p, l, e, R, s, m, args, below, meth, c, G, A, rw, Q, kc, ks⟩ := E
  subst hp
  intro H locs ls hP hD hS hl
  exact lv_if_ne K.1.1 K.1.2.1 hd ht (fun q => kt q H locs ls hP hD hS hl) (fun q => kf q H locs ls hP hD hS hl)
theorem j_icmp_ne {E : jE} {cc : ByteArray} {nL : Nat} {own : String} {h : Nat} {ws : va_W} {pc pc' : Nat} {lv : List (Nat × Value)} {st : List Value} {x y : Int32} {off : Int} {tgt : Nat} (K : jC E cc nL own h) (hd : decode cc pc = .ok (.if_icmp .ne off, 3)) (ht : (pc : Int) + off = (tgt : Int)) (hp : pc + 3 = pc') (kt : ¬ x = y → J E nL ws tgt lv st) (kf : x = y → J E nL ws pc' lv st) : J E nL ws pc lv (.int y :: .int x :: st) := by
  obtain ⟨p, l, e, R, s, m, args, below, meth, c, G, A, rw, Q, kc, ks⟩ := E
  subst hp
  intro H locs ls hP hD hS hl
  exact lv_icmp_ne K.1.1 K.1.2.1 hd ht (fun q => kt q H locs ls hP hD hS hl) (fun q => kf q H locs ls hP hD hS hl)
theorem j_if_lt {E : jE} {cc : ByteArray} {nL : Nat} {own : String} {h : Nat} {ws : va_W} {pc pc' : Nat} {lv : List (Nat × Value)} {st : List Value} {x : Int32} {off : Int} {tgt : Nat} (K : jC E cc nL own h) (hd : decode cc pc = .ok (.ifCond .lt off, 3)) (ht : (pc : Int) + off = (tgt : Int)) (hp : pc + 3 = pc') (kt : x < 0 → J E nL ws tgt lv st) (kf : ¬ (x < 0) → J E nL ws pc' lv st) : J E nL ws pc lv (.int x :: st) := by
  obtain ⟨p, l, e, R, s, m, args, below, meth, c, G, A, rw, Q, kc, ks⟩ := E
  subst hp
  intro H locs ls hP hD hS hl
  exact lv_if_lt K.1.1 K.1.2.1 hd ht (fun q => kt q H locs ls hP hD hS hl) (fun q => kf q H locs ls hP hD hS hl)
theorem j_icmp_lt {E : jE} {cc : ByteArray} {nL : Nat} {own : String} {h : Nat} {ws : va_W} {pc pc' : Nat} {lv : List (Nat × Value)} {st : List Value} {x y : Int32} {off : Int} {tgt : Nat} (K : jC E cc nL own h) (hd : decode cc pc = .ok (.if_icmp .lt off, 3)) (ht : (pc : Int) + off = (tgt : Int)) (hp : pc + 3 = pc') (kt : x < y → J E nL ws tgt lv st) (kf : ¬ (x < y) → J E nL ws pc' lv st) : J E nL ws pc lv (.int y :: .int x :: st) := by
  obtain ⟨p, l, e, R, s, m, args, below, meth, c, G, A, rw, Q, kc, ks⟩ := E
  subst hp
  intro H locs ls hP hD hS hl
  exact lv_icmp_lt K.1.1 K.1.2.1 hd ht (fun q => kt q H locs ls hP hD hS hl) (fun q => kf q H locs ls hP hD hS hl)
theorem j_if_ge {E : jE} {cc : ByteArray} {nL : Nat} {own : String} {h : Nat} {ws : va_W} {pc pc' : Nat} {lv : List (Nat × Value)} {st : List Value} {x : Int32} {off : Int} {tgt : Nat} (K : jC E cc nL own h) (hd : decode cc pc = .ok (.ifCond .ge off, 3)) (ht : (pc : Int) + off = (tgt : Int)) (hp : pc + 3 = pc') (kt : 0 ≤ x → J E nL ws tgt lv st) (kf : ¬ (0 ≤ x) → J E nL ws pc' lv st) : J E nL ws pc lv (.int x :: st) := by
  obtain ⟨p, l, e, R, s, m, args, below, meth, c, G, A, rw, Q, kc, ks⟩ := E
  subst hp
  intro H locs ls hP hD hS hl
  exact lv_if_ge K.1.1 K.1.2.1 hd ht (fun q => kt q H locs ls hP hD hS hl) (fun q => kf q H locs ls hP hD hS hl)
theorem j_icmp_ge {E : jE} {cc : ByteArray} {nL : Nat} {own : String} {h : Nat} {ws : va_W} {pc pc' : Nat} {lv : List (Nat × Value)} {st : List Value} {x y : Int32} {off : Int} {tgt : Nat} (K : jC E cc nL own h) (hd : decode cc pc = .ok (.if_icmp .ge off, 3)) (ht : (pc : Int) + off = (tgt : Int)) (hp : pc + 3 = pc') (kt : y ≤ x → J E nL ws tgt lv st) (kf : ¬ (y ≤ x) → J E nL ws pc' lv st) : J E nL ws pc lv (.int y :: .int x :: st) := by
  obtain ⟨p, l, e, R, s, m, args, below, meth, c, G, A, rw, Q, kc, ks⟩ := E
  subst hp
  intro H locs ls hP hD hS hl
  exact lv_icmp_ge K.1.1 K.1.2.1 hd ht (fun q => kt q H locs ls hP hD hS hl) (fun q => kf q H locs ls hP hD hS hl)
theorem j_if_gt {E : jE} {cc : ByteArray} {nL : Nat} {own : String} {h : Nat} {ws : va_W} {pc pc' : Nat} {lv : List (Nat × Value)} {st : List Value} {x : Int32} {off : Int} {tgt : Nat} (K : jC E cc nL own h) (hd : decode cc pc = .ok (.ifCond .gt off, 3)) (ht : (pc : Int) + off = (tgt : Int)) (hp : pc + 3 = pc') (kt : 0 < x → J E nL ws tgt lv st) (kf : ¬ (0 < x) → J E nL ws pc' lv st) : J E nL ws pc lv (.int x :: st) := by
  obtain ⟨p, l, e, R, s, m, args, below, meth, c, G, A, rw, Q, kc, ks⟩ := E
  subst hp
  intro H locs ls hP hD hS hl
  exact lv_if_gt K.1.1 K.1.2.1 hd ht (fun q => kt q H locs ls hP hD hS hl) (fun q => kf q H locs ls hP hD hS hl)
theorem j_icmp_gt {E : jE} {cc : ByteArray} {nL : Nat} {own : String} {h : Nat} {ws : va_W} {pc pc' : Nat} {lv : List (Nat × Value)} {st : List Value} {x y : Int32} {off : Int} {tgt : Nat} (K : jC E cc nL own h) (hd : decode cc pc = .ok (.if_icmp .gt off, 3)) (ht : (pc : Int) + off = (tgt : Int)) (hp : pc + 3 = pc') (kt : y < x → J E nL ws tgt lv st) (kf : ¬ (y < x) → J E nL ws pc' lv st) : J E nL ws pc lv (.int y :: .int x :: st) := by
  obtain ⟨p, l, e, R, s, m, args, below, meth, c, G, A, rw, Q, kc, ks⟩ := E
  subst hp
  intro H locs ls hP hD hS hl
  exact lv_icmp_gt K.1.1 K.1.2.1 hd ht (fun q => kt q H locs ls hP hD hS hl) (fun q => kf q H locs ls hP hD hS hl)
theorem j_if_le {E : jE} {cc : ByteArray} {nL : Nat} {own : String} {h : Nat} {ws : va_W} {pc pc' : Nat} {lv : List (Nat × Value)} {st : List Value} {x : Int32} {off : Int} {tgt : Nat} (K : jC E cc nL own h) (hd : decode cc pc = .ok (.ifCond .le off, 3)) (ht : (pc : Int) + off = (tgt : Int)) (hp : pc + 3 = pc') (kt : x ≤ 0 → J E nL ws tgt lv st) (kf : ¬ (x ≤ 0) → J E nL ws pc' lv st) : J E nL ws pc lv (.int x :: st) := by
  obtain ⟨p, l, e, R, s, m, args, below, meth, c, G, A, rw, Q, kc, ks⟩ := E
  subst hp
  intro H locs ls hP hD hS hl
  exact lv_if_le K.1.1 K.1.2.1 hd ht (fun q => kt q H locs ls hP hD hS hl) (fun q => kf q H locs ls hP hD hS hl)
theorem j_icmp_le {E : jE} {cc : ByteArray} {nL : Nat} {own : String} {h : Nat} {ws : va_W} {pc pc' : Nat} {lv : List (Nat × Value)} {st : List Value} {x y : Int32} {off : Int} {tgt : Nat} (K : jC E cc nL own h) (hd : decode cc pc = .ok (.if_icmp .le off, 3)) (ht : (pc : Int) + off = (tgt : Int)) (hp : pc + 3 = pc') (kt : x ≤ y → J E nL ws tgt lv st) (kf : ¬ (x ≤ y) → J E nL ws pc' lv st) : J E nL ws pc lv (.int y :: .int x :: st) := by
  obtain ⟨p, l, e, R, s, m, args, below, meth, c, G, A, rw, Q, kc, ks⟩ := E
  subst hp
  intro H locs ls hP hD hS hl
  exact lv_icmp_le K.1.1 K.1.2.1 hd ht (fun q => kt q H locs ls hP hD hS hl) (fun q => kf q H locs ls hP hD hS hl)
theorem j_goto {E : jE} {cc : ByteArray} {nL : Nat} {own : String} {h : Nat} {ws : va_W} {pc : Nat} {lv : List (Nat × Value)} {st : List Value} {off : Int} {tgt : Nat} (K : jC E cc nL own h) (hd : decode cc pc = .ok (.goto off, 3)) (ht : (pc : Int) + off = (tgt : Int)) (k : J E nL ws tgt lv st) : J E nL ws pc lv st := by
  obtain ⟨p, l, e, R, s, m, args, below, meth, c, G, A, rw, Q, kc, ks⟩ := E
  intro H locs ls hP hD hS hl
  exact lv_goto K.1.1 K.1.2.1 hd ht (k H locs ls hP hD hS hl)
theorem j_tabOut {E : jE} {cc : ByteArray} {nL : Nat} {own : String} {h : Nat} {ws : va_W} {pc : Nat} {lv : List (Nat × Value)} {st : List Value} {dflt lo hi : Int} {offs : Array Int} {len : Nat} {x : Int32} {tgt : Nat} (K : jC E cc nL own h) (hd : decode cc pc = .ok (.tableswitch dflt lo hi offs, len)) (hx : x.toInt < lo ∨ hi < x.toInt) (ht : (pc : Int) + dflt = (tgt : Int)) (k : J E nL ws tgt lv st) : J E nL ws pc lv (.int x :: st) := by
  obtain ⟨p, l, e, R, s, m, args, below, meth, c, G, A, rw, Q, kc, ks⟩ := E
  intro H locs ls hP hD hS hl
  exact lv_tableOut K.1.1 K.1.2.1 hd hx ht (k H locs ls hP hD hS hl)
theorem j_tabIn {E : jE} {cc : ByteArray} {nL : Nat} {own : String} {h : Nat} {ws : va_W} {pc : Nat} {lv : List (Nat × Value)} {st : List Value} {dflt lo hi : Int} {offs : Array Int} {len : Nat} {x : Int32} {off : Int} {tgt : Nat} (K : jC E cc nL own h) (hd : decode cc pc = .ok (.tableswitch dflt lo hi offs, len)) (h1 : ¬ x.toInt < lo) (h2 : ¬ hi < x.toInt) (ho : offs[(x.toInt - lo).toNat]? = some off) (ht : (pc : Int) + off = (tgt : Int)) (k : J E nL ws tgt lv st) : J E nL ws pc lv (.int x :: st) := by
  obtain ⟨p, l, e, R, s, m, args, below, meth, c, G, A, rw, Q, kc, ks⟩ := E
  intro H locs ls hP hD hS hl
  exact lv_tableIn K.1.1 K.1.2.1 hd h1 h2 ho ht (k H locs ls hP hD hS hl)
theorem j_sub {E : jE} {nL : Nat} {ws : va_W} {pc : Nat} {lv lv' : List (Nat × Value)} {st : List Value} (ks : List Nat) (hl' : lv_pick lv ks = lv') (k : J E nL ws pc lv' st) : J E nL ws pc lv st := by
  obtain ⟨p, l, e, R, s, m, args, below, meth, c, G, A, rw, Q, kc, ks0⟩ := E
  intro H locs ls hP hD hS hl
  exact k H locs ls hP hD hS (lv_sub hl ks hl')
theorem j_get {E : jE} {cc : ByteArray} {nL : Nat} {own : String} {h : Nat} {ws : va_W} {pc pc' : Nat} {lv : List (Nat × Value)} {st : List Value} {ref C : String} {T : u_T} {N ci index a : Nat} (K : jC E cc nL own h) (hd : decode cc pc = .ok (.getfield index, 3)) (hin : ∀ w ∈ u_ws C T N, w ∈ UW) (q0 : Nat) {fs : List Value} (he : ws[q0]? = some (a, .inr (ci, fs))) (hc : vwCl[ci]? = some (C, T, N)) (k0 : Nat) (hk : k0 < N) (hlink : Cond.fieldLink own index ref (T k0).2.1 (T k0).2.2.1 ∈ UW) (hr : ref = (T k0).1) {v : Value} (hv : fs[k0]? = some v) (hp : pc + 3 = pc') (k : J E nL ws pc' lv (v :: st)) : J E nL ws pc lv (.ref a :: st) := by
  obtain ⟨p, l, e, R, s, m, args, below, meth, c, G, A, rw, Q, kc, ks⟩ := E
  subst hp
  subst hr
  intro H locs ls hP hD hS hl
  exact va_get K.1.1 K.1.2.1 K.1.2.2.2.2 hin K.1.2.2.2.1 K.2.1.1 hP q0 he hc k0 hk (K.1.2.2.2.2 _ hlink) (fun _ q => q) hv hd (k H locs ls hP hD hS hl)
theorem j_put {E : jE} {cc : ByteArray} {nL : Nat} {own : String} {h : Nat} {ws : va_W} {pc pc' : Nat} {lv : List (Nat × Value)} {st : List Value} {ref C : String} {T : u_T} {N ci index a : Nat} {ws' : va_W} (K : jC E cc nL own h) (hd : decode cc pc = .ok (.putfield index, 3)) (hrw : jrw E) (hin : ∀ w ∈ u_ws C T N, w ∈ UW) (ty0 : Nat → FieldType) (hty : ∀ k, k < N → parseFieldDescriptor (T k).2.2.1 = some (ty0 k)) (hnm : ∀ a, a < N → ∀ b, b < N → a ≠ b → (T a).2.1 ≠ (T b).2.1) (q0 : Nat) {fs : List Value} (he : ws[q0]? = some (a, .inr (ci, fs))) (hc : vwCl[ci]? = some (C, T, N)) (k0 : Nat) (hk : k0 < N) (hlink : Cond.fieldLink own index ref (T k0).2.1 (T k0).2.2.1 ∈ UW) (hr : ref = (T k0).1) (hfin : (T k0).2.2.2 = false) {v : Value} (hn : narrow (ty0 k0) v = v) (hfit : fits (ty0 k0) v = true) (hl0 : k0 < fs.length) (hw : ws.set q0 (a, .inr (ci, fs.set k0 v)) = ws') (hp : pc + 3 = pc') (k : J E nL ws' pc' lv st) : J E nL ws pc lv (v :: .ref a :: st) := by
  obtain ⟨p, l, e, R, s, m, args, below, meth, c, G, A, rw, Q, kc, ks⟩ := E
  subst hp
  subst hr
  subst hw
  intro H locs ls hP hD hS hl
  exact va_put K.1.1 K.1.2.1 K.1.2.2.2.2 hin ty0 hty hnm K.1.2.2.2.1 K.2.1.1 hP (hD hrw) hS q0 he hc k0 hk (K.1.2.2.2.2 _ hlink) (fun _ q => q) hfin (hty k0 hk) hn hfit hl0 hd (fun H1 locs1 hP1 hD1 hS1 => k H1 locs1 ls hP1 (fun _ => hD1) hS1 hl)
theorem j_iald {E : jE} {cc : ByteArray} {nL : Nat} {own : String} {h : Nat} {ws : va_W} {pc pc' : Nat} {lv : List (Nat × Value)} {st : List Value} {a n : Nat} {f : Nat → Int32} {i : Int32} (K : jC E cc nL own h) (hd : decode cc pc = .ok (.iaload, 1)) (q0 : Nat) (ha : ws[q0]? = some (a, .inl ((jg E).2.1 0, n, .inl f))) (hi : vp_in i n) (hp : pc + 1 = pc') (k : J E nL ws pc' lv (.int (f i.toNatClampNeg) :: st)) : J E nL ws pc lv (.int i :: .ref a :: st) := by
  obtain ⟨p, l, e, R, s, m, args, below, meth, c, G, A, rw, Q, kc, ks⟩ := E
  subst hp
  intro H locs ls hP hD hS hl
  exact va_iald K.1.1 K.1.2.1 K.2.1.1 hP q0 0 ha rfl hi hd (k H locs ls hP hD hS hl)
theorem j_bald {E : jE} {cc : ByteArray} {nL : Nat} {own : String} {h : Nat} {ws : va_W} {pc pc' : Nat} {lv : List (Nat × Value)} {st : List Value} {a n : Nat} {f : Nat → Int32} {i : Int32} (K : jC E cc nL own h) (hd : decode cc pc = .ok (.baload, 1)) (q0 : Nat) (ha : ws[q0]? = some (a, .inl ((jg E).2.1 2, n, .inl f))) (hi : vp_in i n) (hp : pc + 1 = pc') (k : J E nL ws pc' lv (.int (f i.toNatClampNeg) :: st)) : J E nL ws pc lv (.int i :: .ref a :: st) := by
  obtain ⟨p, l, e, R, s, m, args, below, meth, c, G, A, rw, Q, kc, ks⟩ := E
  subst hp
  intro H locs ls hP hD hS hl
  exact va_bald K.1.1 K.1.2.1 K.2.1.1 hP q0 2 ha rfl hi hd (k H locs ls hP hD hS hl)
theorem j_zald {E : jE} {cc : ByteArray} {nL : Nat} {own : String} {h : Nat} {ws : va_W} {pc pc' : Nat} {lv : List (Nat × Value)} {st : List Value} {a n : Nat} {f : Nat → Int32} {i : Int32} (K : jC E cc nL own h) (hd : decode cc pc = .ok (.baload, 1)) (q0 : Nat) (ha : ws[q0]? = some (a, .inl ((jg E).2.1 3, n, .inl f))) (hi : vp_in i n) (hp : pc + 1 = pc') (k : J E nL ws pc' lv (.int (f i.toNatClampNeg) :: st)) : J E nL ws pc lv (.int i :: .ref a :: st) := by
  obtain ⟨p, l, e, R, s, m, args, below, meth, c, G, A, rw, Q, kc, ks⟩ := E
  subst hp
  intro H locs ls hP hD hS hl
  exact va_zald K.1.1 K.1.2.1 K.2.1.1 hP q0 3 ha rfl hi hd (k H locs ls hP hD hS hl)
theorem j_lald {E : jE} {cc : ByteArray} {nL : Nat} {own : String} {h : Nat} {ws : va_W} {pc pc' : Nat} {lv : List (Nat × Value)} {st : List Value} {a n : Nat} {f : Nat → Int64} {i : Int32} (K : jC E cc nL own h) (hd : decode cc pc = .ok (.laload, 1)) (q0 : Nat) (ha : ws[q0]? = some (a, .inl ((jg E).2.1 1, n, .inr (.inl f)))) (hi : vp_in i n) (hp : pc + 1 = pc') (k : J E nL ws pc' lv (.long (f i.toNatClampNeg) :: st)) : J E nL ws pc lv (.int i :: .ref a :: st) := by
  obtain ⟨p, l, e, R, s, m, args, below, meth, c, G, A, rw, Q, kc, ks⟩ := E
  subst hp
  intro H locs ls hP hD hS hl
  exact va_lald K.1.1 K.1.2.1 K.2.1.1 hP q0 1 ha rfl hi hd (k H locs ls hP hD hS hl)
theorem j_iast {E : jE} {cc : ByteArray} {nL : Nat} {own : String} {h : Nat} {ws : va_W} {pc pc' : Nat} {lv : List (Nat × Value)} {st : List Value} {a n : Nat} {f : Nat → Int32} {i : Int32} {x : Int32} {ws' : va_W} (K : jC E cc nL own h) (hd : decode cc pc = .ok (.iastore, 1)) (hrw : jrw E) (q0 : Nat) (ha : ws[q0]? = some (a, .inl ((jg E).2.1 0, n, .inl f))) (hi : vp_in i n) (hw : ws.set q0 (a, .inl ((jg E).2.1 0, n, .inl (upd f i.toNatClampNeg x))) = ws') (hp : pc + 1 = pc') (k : J E nL ws' pc' lv st) : J E nL ws pc lv (.int x :: .int i :: .ref a :: st) := by
  obtain ⟨p, l, e, R, s, m, args, below, meth, c, G, A, rw, Q, kc, ks⟩ := E
  subst hp
  subst hw
  intro H locs ls hP hD hS hl
  exact va_iast K.1.1 K.1.2.1 K.2.1.1 hP (hD hrw) hS q0 0 ha rfl hi hd (fun H1 locs1 hP1 hD1 hS1 => k H1 locs1 ls hP1 (fun _ => hD1) hS1 hl)
theorem j_bast {E : jE} {cc : ByteArray} {nL : Nat} {own : String} {h : Nat} {ws : va_W} {pc pc' : Nat} {lv : List (Nat × Value)} {st : List Value} {a n : Nat} {f : Nat → Int32} {i : Int32} {x : Int32} {ws' : va_W} (K : jC E cc nL own h) (hd : decode cc pc = .ok (.bastore, 1)) (hrw : jrw E) (q0 : Nat) (ha : ws[q0]? = some (a, .inl ((jg E).2.1 2, n, .inl f))) (hi : vp_in i n) (hw : ws.set q0 (a, .inl ((jg E).2.1 2, n, .inl (upd f i.toNatClampNeg (vp_nar .byte x)))) = ws') (hp : pc + 1 = pc') (k : J E nL ws' pc' lv st) : J E nL ws pc lv (.int x :: .int i :: .ref a :: st) := by
  obtain ⟨p, l, e, R, s, m, args, below, meth, c, G, A, rw, Q, kc, ks⟩ := E
  subst hp
  subst hw
  intro H locs ls hP hD hS hl
  exact va_bast K.1.1 K.1.2.1 K.2.1.1 hP (hD hrw) hS q0 2 ha rfl hi hd (fun H1 locs1 hP1 hD1 hS1 => k H1 locs1 ls hP1 (fun _ => hD1) hS1 hl)
theorem j_zast {E : jE} {cc : ByteArray} {nL : Nat} {own : String} {h : Nat} {ws : va_W} {pc pc' : Nat} {lv : List (Nat × Value)} {st : List Value} {a n : Nat} {f : Nat → Int32} {i : Int32} {x : Int32} {ws' : va_W} (K : jC E cc nL own h) (hd : decode cc pc = .ok (.bastore, 1)) (hrw : jrw E) (q0 : Nat) (ha : ws[q0]? = some (a, .inl ((jg E).2.1 3, n, .inl f))) (hi : vp_in i n) (hw : ws.set q0 (a, .inl ((jg E).2.1 3, n, .inl (upd f i.toNatClampNeg (vp_nar .boolean x)))) = ws') (hp : pc + 1 = pc') (k : J E nL ws' pc' lv st) : J E nL ws pc lv (.int x :: .int i :: .ref a :: st) := by
  obtain ⟨p, l, e, R, s, m, args, below, meth, c, G, A, rw, Q, kc, ks⟩ := E
  subst hp
  subst hw
  intro H locs ls hP hD hS hl
  exact va_zast K.1.1 K.1.2.1 K.2.1.1 hP (hD hrw) hS q0 3 ha rfl hi hd (fun H1 locs1 hP1 hD1 hS1 => k H1 locs1 ls hP1 (fun _ => hD1) hS1 hl)
theorem j_last {E : jE} {cc : ByteArray} {nL : Nat} {own : String} {h : Nat} {ws : va_W} {pc pc' : Nat} {lv : List (Nat × Value)} {st : List Value} {a n : Nat} {f : Nat → Int64} {i : Int32} {x : Int64} {ws' : va_W} (K : jC E cc nL own h) (hd : decode cc pc = .ok (.lastore, 1)) (hrw : jrw E) (q0 : Nat) (ha : ws[q0]? = some (a, .inl ((jg E).2.1 1, n, .inr (.inl f)))) (hi : vp_in i n) (hw : ws.set q0 (a, .inl ((jg E).2.1 1, n, .inr (.inl (vp_updL f i.toNatClampNeg x)))) = ws') (hp : pc + 1 = pc') (k : J E nL ws' pc' lv st) : J E nL ws pc lv (.long x :: .int i :: .ref a :: st) := by
  obtain ⟨p, l, e, R, s, m, args, below, meth, c, G, A, rw, Q, kc, ks⟩ := E
  subst hp
  subst hw
  intro H locs ls hP hD hS hl
  exact va_last K.1.1 K.1.2.1 K.2.1.1 hP (hD hrw) hS q0 1 ha rfl hi hd (fun H1 locs1 hP1 hD1 hS1 => k H1 locs1 ls hP1 (fun _ => hD1) hS1 hl)
theorem j_alen {E : jE} {cc : ByteArray} {nL : Nat} {own : String} {h : Nat} {ws : va_W} {pc pc' : Nat} {lv : List (Nat × Value)} {st : List Value} {a : Nat} {cA : ClassId} {x : vp_A} {ty : FieldType} {v : Int32} (K : jC E cc nL own h) (hd : decode cc pc = .ok (.arraylength, 1)) (q0 t0 : Nat) (ha : ws[q0]? = some (a, .inl (cA, x))) (ht : (jTY (jg E).2.1)[t0]? = some (cA, ty)) (hv : Int32.ofNat x.1 = v) (hp : pc + 1 = pc') (k : J E nL ws pc' lv (.int v :: st)) : J E nL ws pc lv (.ref a :: st) := by
  obtain ⟨p, l, e, R, s, m, args, below, meth, c, G, A, rw, Q, kc, ks⟩ := E
  subst hp
  intro H locs ls hP hD hS hl
  exact va_alen K.1.1 K.1.2.1 K.2.1.1 hP q0 t0 ha ht hv hd (k H locs ls hP hD hS hl)
theorem j_aald {E : jE} {cc : ByteArray} {nL : Nat} {own : String} {h : Nat} {ws : va_W} {pc pc' : Nat} {lv : List (Nat × Value)} {st : List Value} {a n r : Nat} {C : String} {cA : ClassId} {f : Nat → Option Nat} {i : Int32} (K : jC E cc nL own h) (hd : decode cc pc = .ok (.aaload, 1)) (q0 t0 : Nat) (ha : ws[q0]? = some (a, .inl (cA, n, .inr (.inr (.inr (.inr f)))))) (ht : (jTY (jg E).2.1)[t0]? = some (cA, .object C)) (hi : vp_in i n) (hr : f i.toNatClampNeg = some r) (hp : pc + 1 = pc') (k : J E nL ws pc' lv (.ref r :: st)) : J E nL ws pc lv (.int i :: .ref a :: st) := by
  obtain ⟨p, l, e, R, s, m, args, below, meth, c, G, A, rw, Q, kc, ks⟩ := E
  subst hp
  intro H locs ls hP hD hS hl
  refine va_aldq K.1.1 K.1.2.1 K.2.1.1 hP q0 t0 ha ht hi hd ?_
  rw [hr]
  exact k H locs ls hP hD hS hl
theorem j_getsN {E : jE} {cc : ByteArray} {nL : Nat} {own : String} {h : Nat} {ws : va_W} {pc pc' : Nat} {lv : List (Nat × Value)} {st : List Value} {index : Nat} {host : String} (K : jC E cc nL own h) (hd : decode cc pc = .ok (.getstatic index, 3)) (hlink : (own, index, "CountTriangles", "FACTORIALS", "[I", host) ∈ jNF) (hp : pc + 3 = pc') (k : J E nL ws pc' lv (.ref (jg E).2.2 :: st)) : J E nL ws pc lv st := by
  obtain ⟨p, l, e, R, s, m, args, below, meth, c, G, A, rw, Q, kc, ks⟩ := E
  subst hp
  intro H locs ls hP hD hS hl
  exact va_getsN K.1.1 K.1.2.1 K.2.2.1.1 hS K.1.2.2.2.1 (va_Nw.use rfl (K.2.1.2.1 _ hlink)) (fun _ q => q) hd (k H locs ls hP hD hS hl)
theorem j_fald {E : jE} {cc : ByteArray} {nL : Nat} {own : String} {h : Nat} {ws : va_W} {pc pc' : Nat} {lv : List (Nat × Value)} {st : List Value} {i : Int32} (K : jC E cc nL own h) (hd : decode cc pc = .ok (.iaload, 1)) (hi : vp_in i 9) (hp : pc + 1 = pc') (k : J E nL ws pc' lv (.int (jfac i.toNatClampNeg) :: st)) : J E nL ws pc lv (.int i :: .ref (jg E).2.2 :: st) := by
  obtain ⟨p, l, e, R, s, m, args, below, meth, c, G, A, rw, Q, kc, ks⟩ := E
  subst hp
  intro H locs ls hP hD hS hl
  obtain ⟨cell, h1, h2, h3, h4, h5, h6, h7⟩ := K.2.2.1.2
  have hlt : i.toNatClampNeg < 9 := Nat.not_le.mp fun q => hi (Or.inr q)
  have hcell : H[G.2.2]? = some cell := by rw [hS.2.1 _ (Array.getElem?_eq_some_iff.mp h1).1 h7]; exact h1
  exact W.iald K.1.1 K.1.2.1 hcell h2 h3 (fun q => hi (q.imp id (fun z => Nat.le_trans h4 z))) (h6 _ hlt) rfl rfl hd (k H locs ls hP hD hS hl)
