theorem ok_J7_fill_53178 : yJ7_fill_53178.cls ≠ "java/lang/invoke/MethodHandle" ∧ yJ7_fill_53178.cls ≠ "java/lang/invoke/VarHandle" ∧ (parseMethodDescriptor yJ7_fill_53178.desc).map (fun d => d.parameters.length) = some 2 := ⟨by decide, by decide, by decide +kernel⟩
def f_J7_fill_53178_n3_5 : Nat → Int32 → Int32 → Int32 → ArrI3S → Option (ArrI3S)
  | 0, _, _, _, _ => none
  | n + 1, v1, v2, v3, s0 =>
   if v3 ≤ v2 then
   some s0
  else
   jgd v2 3 (
    (f_J7_fill_53178_n3_5 n) v1 (v2 + (1 : Int32)) v3 (upd s0 (Int32.toNatClampNeg v2) v1))
def f_J7_fill_53178_n3 (v1 : Int32) (s0 : ArrI3S) : Option (ArrI3S) :=
   f_J7_fill_53178_n3_5 jFU v1 (0 : Int32) (3 : Int32) s0
set_option maxRecDepth 100000 in
set_option maxHeartbeats 4000000 in
theorem b_J7_fill_53178_n3_5 {E : jE} (p0_0 : Nat) {res : ArrI3S} (K : jC E cJ7_fill_53178 4 RJ7 0) (hrw : jrw E) (HR : jRV E cJ7_fill_53178 4 (wArrI3 (jg E) p0_0 res)) : ∀ (n : Nat) (v1 : Int32) (v2 : Int32) (v3 : Int32) (s0 : ArrI3S), f_J7_fill_53178_n3_5 n v1 v2 v3 s0 = some res → J E 4 (wArrI3 (jg E) p0_0 s0) 5 [(0, .ref p0_0), (1, .int v1), (2, .int v2), (3, .int v3)] [] := by
  intro n
  induction n with
  | zero => intro _ _ _ _ h; cases h
  | succ n ih =>
    intro v1 v2 v3 s0 h
    rw [f_J7_fill_53178_n3_5] at h
    refine j_iload_n (pc' := 6) K dJ7_fill_53178_5 rfl 2 rfl rfl ?_
    refine j_iload_n (pc' := 7) K dJ7_fill_53178_6 rfl 3 rfl rfl ?_
    refine j_icmp_ge (pc' := 10) (tgt := 20) K dJ7_fill_53178_7 (by decide) rfl (fun hc => ?_) (fun hc => ?_)
    · have h := jit hc h
      obtain rfl := Option.some.inj h
      exact HR _ _ dJ7_fill_53178_20
    · have h := jif hc h
      refine j_aload_n (pc' := 11) K dJ7_fill_53178_10 rfl 0 rfl rfl ?_
      refine j_iload_n (pc' := 12) K dJ7_fill_53178_11 rfl 2 rfl rfl ?_
      refine j_iload_n (pc' := 13) K dJ7_fill_53178_12 rfl 1 rfl rfl ?_
      obtain ⟨hg, h⟩ := jgd_some h
      refine j_iast (pc' := 14) (ws' := (wArrI3 (jg E) p0_0 (upd s0 (Int32.toNatClampNeg v2) v1))) K dJ7_fill_53178_13 hrw 0 rfl hg (st_ArrI3_0 ..) rfl ?_
      refine j_iinc (pc' := 17) (j := 2) (v := (v2 + (1 : Int32))) (lv' := [(2, .int (v2 + (1 : Int32))), (0, .ref p0_0), (1, .int v1), (3, .int v3)]) K dJ7_fill_53178_14 rfl rfl (by decide) rfl rfl ?_
      refine j_goto (tgt := 5) K dJ7_fill_53178_17 (by decide) ?_
      refine j_sub [1, 2, 0, 3] rfl ?_
      exact ih v1 (v2 + (1 : Int32)) v3 (upd s0 (Int32.toNatClampNeg v2) v1) h
set_option maxRecDepth 100000 in
set_option maxHeartbeats 4000000 in
theorem b_J7_fill_53178_n3 {E : jE} (p0_0 : Nat) {res : ArrI3S} (K : jC E cJ7_fill_53178 4 RJ7 0) (hrw : jrw E) (HR : jRV E cJ7_fill_53178 4 (wArrI3 (jg E) p0_0 res)) : ∀ (v1 : Int32) (s0 : ArrI3S), f_J7_fill_53178_n3 v1 s0 = some res → J E 4 (wArrI3 (jg E) p0_0 s0) 0 [(0, .ref p0_0), (1, .int v1)] [] := by
  intro v1 s0 h
  unfold f_J7_fill_53178_n3 at h
  refine j_iconst (pc' := 1) (v := (0 : Int32)) K dJ7_fill_53178_0 (by decide) rfl ?_
  refine j_istore_n (pc' := 2) (lv' := [(2, .int (0 : Int32)), (0, .ref p0_0), (1, .int v1)]) K dJ7_fill_53178_1 rfl (by decide) rfl rfl ?_
  refine j_aload_n (pc' := 3) K dJ7_fill_53178_2 rfl 1 rfl rfl ?_
  refine j_alen (pc' := 4) (v := (3 : Int32)) K dJ7_fill_53178_3 0 0 rfl rfl rfl rfl ?_
  refine j_istore_n (pc' := 5) (lv' := [(3, .int (3 : Int32)), (2, .int (0 : Int32)), (0, .ref p0_0), (1, .int v1)]) K dJ7_fill_53178_4 rfl (by decide) rfl rfl ?_
  refine j_sub [2, 3, 1, 0] rfl ?_
  exact b_J7_fill_53178_n3_5 p0_0 K hrw HR jFU v1 (0 : Int32) (3 : Int32) s0 h
set_option maxRecDepth 100000 in
set_option maxHeartbeats 4000000 in
theorem M_J7_fill_53178_n3 (l : Launch) (G : jG) (p0_0 : Nat) (v1 : Int32) (s0 : ArrI3S) {r : ArrI3S} (h : f_J7_fill_53178_n3 v1 s0 = some r) : MC l yJ7_fill_53178 cJ7_fill_53178 4 none 0 G (jad (wArrI3 G p0_0 s0)) True (wArrI3 G p0_0 s0) (wArrI3 G p0_0 r) [.ref p0_0, .int v1] none := by
  refine mc_void (by decide +kernel) (Nat.le_of_ble_eq_true rfl) fun E hl hg hA hrw K HR => ?_
  subst hl
  subst hg
  have hrw : jrw E := by rw [hrw]; trivial
  exact b_J7_fill_53178_n3 p0_0 K hrw HR v1 s0 h
def f_J7_fill_53178_n61_5 : Nat → Int32 → Int32 → Int32 → ArrI61S → Option (ArrI61S)
  | 0, _, _, _, _ => none
  | n + 1, v1, v2, v3, s0 =>
   if v3 ≤ v2 then
   some s0
  else
   jgd v2 61 (
    (f_J7_fill_53178_n61_5 n) v1 (v2 + (1 : Int32)) v3 (upd s0 (Int32.toNatClampNeg v2) v1))
def f_J7_fill_53178_n61 (v1 : Int32) (s0 : ArrI61S) : Option (ArrI61S) :=
   f_J7_fill_53178_n61_5 jFU v1 (0 : Int32) (61 : Int32) s0
set_option maxRecDepth 100000 in
set_option maxHeartbeats 4000000 in
theorem b_J7_fill_53178_n61_5 {E : jE} (p0_0 : Nat) {res : ArrI61S} (K : jC E cJ7_fill_53178 4 RJ7 0) (hrw : jrw E) (HR : jRV E cJ7_fill_53178 4 (wArrI61 (jg E) p0_0 res)) : ∀ (n : Nat) (v1 : Int32) (v2 : Int32) (v3 : Int32) (s0 : ArrI61S), f_J7_fill_53178_n61_5 n v1 v2 v3 s0 = some res → J E 4 (wArrI61 (jg E) p0_0 s0) 5 [(0, .ref p0_0), (1, .int v1), (2, .int v2), (3, .int v3)] [] := by
  intro n
  induction n with
  | zero => intro _ _ _ _ h; cases h
  | succ n ih =>
    intro v1 v2 v3 s0 h
    rw [f_J7_fill_53178_n61_5] at h
    refine j_iload_n (pc' := 6) K dJ7_fill_53178_5 rfl 2 rfl rfl ?_
    refine j_iload_n (pc' := 7) K dJ7_fill_53178_6 rfl 3 rfl rfl ?_
    refine j_icmp_ge (pc' := 10) (tgt := 20) K dJ7_fill_53178_7 (by decide) rfl (fun hc => ?_) (fun hc => ?_)
    · have h := jit hc h
      obtain rfl := Option.some.inj h
      exact HR _ _ dJ7_fill_53178_20
    · have h := jif hc h
      refine j_aload_n (pc' := 11) K dJ7_fill_53178_10 rfl 0 rfl rfl ?_
      refine j_iload_n (pc' := 12) K dJ7_fill_53178_11 rfl 2 rfl rfl ?_
      refine j_iload_n (pc' := 13) K dJ7_fill_53178_12 rfl 1 rfl rfl ?_
      obtain ⟨hg, h⟩ := jgd_some h
      refine j_iast (pc' := 14) (ws' := (wArrI61 (jg E) p0_0 (upd s0 (Int32.toNatClampNeg v2) v1))) K dJ7_fill_53178_13 hrw 0 rfl hg (st_ArrI61_0 ..) rfl ?_
      refine j_iinc (pc' := 17) (j := 2) (v := (v2 + (1 : Int32))) (lv' := [(2, .int (v2 + (1 : Int32))), (0, .ref p0_0), (1, .int v1), (3, .int v3)]) K dJ7_fill_53178_14 rfl rfl (by decide) rfl rfl ?_
      refine j_goto (tgt := 5) K dJ7_fill_53178_17 (by decide) ?_
      refine j_sub [1, 2, 0, 3] rfl ?_
      exact ih v1 (v2 + (1 : Int32)) v3 (upd s0 (Int32.toNatClampNeg v2) v1) h
set_option maxRecDepth 100000 in
set_option maxHeartbeats 4000000 in
theorem b_J7_fill_53178_n61 {E : jE} (p0_0 : Nat) {res : ArrI61S} (K : jC E cJ7_fill_53178 4 RJ7 0) (hrw : jrw E) (HR : jRV E cJ7_fill_53178 4 (wArrI61 (jg E) p0_0 res)) : ∀ (v1 : Int32) (s0 : ArrI61S), f_J7_fill_53178_n61 v1 s0 = some res → J E 4 (wArrI61 (jg E) p0_0 s0) 0 [(0, .ref p0_0), (1, .int v1)] [] := by
  intro v1 s0 h
  unfold f_J7_fill_53178_n61 at h
  refine j_iconst (pc' := 1) (v := (0 : Int32)) K dJ7_fill_53178_0 (by decide) rfl ?_
  refine j_istore_n (pc' := 2) (lv' := [(2, .int (0 : Int32)), (0, .ref p0_0), (1, .int v1)]) K dJ7_fill_53178_1 rfl (by decide) rfl rfl ?_
  refine j_aload_n (pc' := 3) K dJ7_fill_53178_2 rfl 1 rfl rfl ?_
  refine j_alen (pc' := 4) (v := (61 : Int32)) K dJ7_fill_53178_3 0 0 rfl rfl rfl rfl ?_
  refine j_istore_n (pc' := 5) (lv' := [(3, .int (61 : Int32)), (2, .int (0 : Int32)), (0, .ref p0_0), (1, .int v1)]) K dJ7_fill_53178_4 rfl (by decide) rfl rfl ?_
  refine j_sub [2, 3, 1, 0] rfl ?_
  exact b_J7_fill_53178_n61_5 p0_0 K hrw HR jFU v1 (0 : Int32) (61 : Int32) s0 h
set_option maxRecDepth 100000 in
set_option maxHeartbeats 4000000 in
theorem M_J7_fill_53178_n61 (l : Launch) (G : jG) (p0_0 : Nat) (v1 : Int32) (s0 : ArrI61S) {r : ArrI61S} (h : f_J7_fill_53178_n61 v1 s0 = some r) : MC l yJ7_fill_53178 cJ7_fill_53178 4 none 0 G (jad (wArrI61 G p0_0 s0)) True (wArrI61 G p0_0 s0) (wArrI61 G p0_0 r) [.ref p0_0, .int v1] none := by
  refine mc_void (by decide +kernel) (Nat.le_of_ble_eq_true rfl) fun E hl hg hA hrw K HR => ?_
  subst hl
  subst hg
  have hrw : jrw E := by rw [hrw]; trivial
  exact b_J7_fill_53178_n61 p0_0 K hrw HR v1 s0 h
theorem ok_J7_fill_d0a16 : yJ7_fill_d0a16.cls ≠ "java/lang/invoke/MethodHandle" ∧ yJ7_fill_d0a16.cls ≠ "java/lang/invoke/VarHandle" ∧ (parseMethodDescriptor yJ7_fill_d0a16.desc).map (fun d => d.parameters.length) = some 2 := ⟨by decide, by decide, by decide +kernel⟩
def f_J7_fill_d0a16_n9_6 : Nat → Int64 → Int32 → Int32 → ArrL9S → Option (ArrL9S)
  | 0, _, _, _, _ => none
  | n + 1, v1, v3, v4, s0 =>
   if v4 ≤ v3 then
   some s0
  else
   jgd v3 9 (
    (f_J7_fill_d0a16_n9_6 n) v1 (v3 + (1 : Int32)) v4 (vp_updL s0 (Int32.toNatClampNeg v3) v1))
def f_J7_fill_d0a16_n9 (v1 : Int64) (s0 : ArrL9S) : Option (ArrL9S) :=
   f_J7_fill_d0a16_n9_6 jFU v1 (0 : Int32) (9 : Int32) s0
set_option maxRecDepth 100000 in
set_option maxHeartbeats 4000000 in
theorem b_J7_fill_d0a16_n9_6 {E : jE} (p0_0 : Nat) {res : ArrL9S} (K : jC E cJ7_fill_d0a16 5 RJ7 0) (hrw : jrw E) (HR : jRV E cJ7_fill_d0a16 5 (wArrL9 (jg E) p0_0 res)) : ∀ (n : Nat) (v1 : Int64) (v3 : Int32) (v4 : Int32) (s0 : ArrL9S), f_J7_fill_d0a16_n9_6 n v1 v3 v4 s0 = some res → J E 5 (wArrL9 (jg E) p0_0 s0) 6 [(0, .ref p0_0), (1, .long v1), (3, .int v3), (4, .int v4)] [] := by
  intro n
  induction n with
  | zero => intro _ _ _ _ h; cases h
  | succ n ih =>
    intro v1 v3 v4 s0 h
    rw [f_J7_fill_d0a16_n9_6] at h
    refine j_iload_n (pc' := 7) K dJ7_fill_d0a16_6 rfl 2 rfl rfl ?_
    refine j_iload (pc' := 9) K dJ7_fill_d0a16_7 3 rfl rfl ?_
    refine j_icmp_ge (pc' := 12) (tgt := 22) K dJ7_fill_d0a16_9 (by decide) rfl (fun hc => ?_) (fun hc => ?_)
    · have h := jit hc h
      obtain rfl := Option.some.inj h
      exact HR _ _ dJ7_fill_d0a16_22
    · have h := jif hc h
      refine j_aload_n (pc' := 13) K dJ7_fill_d0a16_12 rfl 0 rfl rfl ?_
      refine j_iload_n (pc' := 14) K dJ7_fill_d0a16_13 rfl 2 rfl rfl ?_
      refine j_lload_n (pc' := 15) K dJ7_fill_d0a16_14 rfl 1 rfl rfl ?_
      obtain ⟨hg, h⟩ := jgd_some h
      refine j_last (pc' := 16) (ws' := (wArrL9 (jg E) p0_0 (vp_updL s0 (Int32.toNatClampNeg v3) v1))) K dJ7_fill_d0a16_15 hrw 0 rfl hg (st_ArrL9_0 ..) rfl ?_
      refine j_iinc (pc' := 19) (j := 2) (v := (v3 + (1 : Int32))) (lv' := [(3, .int (v3 + (1 : Int32))), (0, .ref p0_0), (1, .long v1), (4, .int v4)]) K dJ7_fill_d0a16_16 rfl rfl (by decide) rfl rfl ?_
      refine j_goto (tgt := 6) K dJ7_fill_d0a16_19 (by decide) ?_
      refine j_sub [1, 2, 0, 3] rfl ?_
      exact ih v1 (v3 + (1 : Int32)) v4 (vp_updL s0 (Int32.toNatClampNeg v3) v1) h
set_option maxRecDepth 100000 in
set_option maxHeartbeats 4000000 in
theorem b_J7_fill_d0a16_n9 {E : jE} (p0_0 : Nat) {res : ArrL9S} (K : jC E cJ7_fill_d0a16 5 RJ7 0) (hrw : jrw E) (HR : jRV E cJ7_fill_d0a16 5 (wArrL9 (jg E) p0_0 res)) : ∀ (v1 : Int64) (s0 : ArrL9S), f_J7_fill_d0a16_n9 v1 s0 = some res → J E 5 (wArrL9 (jg E) p0_0 s0) 0 [(0, .ref p0_0), (1, .long v1)] [] := by
  intro v1 s0 h
  unfold f_J7_fill_d0a16_n9 at h
  refine j_iconst (pc' := 1) (v := (0 : Int32)) K dJ7_fill_d0a16_0 (by decide) rfl ?_
  refine j_istore_n (pc' := 2) (lv' := [(3, .int (0 : Int32)), (0, .ref p0_0), (1, .long v1)]) K dJ7_fill_d0a16_1 rfl (by decide) rfl rfl ?_
  refine j_aload_n (pc' := 3) K dJ7_fill_d0a16_2 rfl 1 rfl rfl ?_
  refine j_alen (pc' := 4) (v := (9 : Int32)) K dJ7_fill_d0a16_3 0 1 rfl rfl rfl rfl ?_
  refine j_istore (pc' := 6) (lv' := [(4, .int (9 : Int32)), (3, .int (0 : Int32)), (0, .ref p0_0), (1, .long v1)]) K dJ7_fill_d0a16_4 (by decide) rfl rfl ?_
  refine j_sub [2, 3, 1, 0] rfl ?_
  exact b_J7_fill_d0a16_n9_6 p0_0 K hrw HR jFU v1 (0 : Int32) (9 : Int32) s0 h
set_option maxRecDepth 100000 in
set_option maxHeartbeats 4000000 in
theorem M_J7_fill_d0a16_n9 (l : Launch) (G : jG) (p0_0 : Nat) (v1 : Int64) (s0 : ArrL9S) {r : ArrL9S} (h : f_J7_fill_d0a16_n9 v1 s0 = some r) : MC l yJ7_fill_d0a16 cJ7_fill_d0a16 5 none 0 G (jad (wArrL9 G p0_0 s0)) True (wArrL9 G p0_0 s0) (wArrL9 G p0_0 r) [.ref p0_0, .long v1] none := by
  refine mc_void (by decide +kernel) (Nat.le_of_ble_eq_true rfl) fun E hl hg hA hrw K HR => ?_
  subst hl
  subst hg
  have hrw : jrw E := by rw [hrw]; trivial
  exact b_J7_fill_d0a16_n9 p0_0 K hrw HR v1 s0 h
