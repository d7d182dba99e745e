theorem ok_X12_packed : yX12_packed.cls ≠ "java/lang/invoke/MethodHandle" ∧ yX12_packed.cls ≠ "java/lang/invoke/VarHandle" ∧ (parseMethodDescriptor yX12_packed.desc).map (fun d => d.parameters.length) = some 1 := ⟨by decide, by decide, by decide +kernel⟩
def f_X12_packed_4 : Nat → Int32 → Int32 → Int32 → MS → Option (Int32)
  | 0, _, _, _, _ => none
  | n + 1, v1, v2, v3, s0 =>
   if v1 ≤ v3 then
   some v2
  else
   jgd v3 8 (
    (f_X12_packed_4 n) v1 ((v2 <<< ((4 : Int32) &&& 31)) ||| ((M_digit s0) (Int32.toNatClampNeg v3))) (v3 + (1 : Int32)) s0)
def f_X12_packed (v1 : Int32) (s0 : MS) : Option (Int32) :=
   f_X12_packed_4 jFU v1 (0 : Int32) (0 : Int32) s0
set_option maxRecDepth 100000 in
set_option maxHeartbeats 4000000 in
theorem b_X12_packed_4 {E : jE} (a0 : Nat → Nat) (s0 : MS) {res : Int32} (K : jC E cX12_packed 4 RX12 0) (HR : jRI E cX12_packed 4 (wM (jg E) a0 s0) res) : ∀ (n : Nat) (v1 : Int32) (v2 : Int32) (v3 : Int32), f_X12_packed_4 n v1 v2 v3 s0 = some res → J E 4 (wM (jg E) a0 s0) 4 [(0, .ref (a0 0)), (1, .int v1), (2, .int v2), (3, .int v3)] [] := by
  intro n
  induction n with
  | zero => intro _ _ _ h; cases h
  | succ n ih =>
    intro v1 v2 v3 h
    rw [f_X12_packed_4] at h
    refine j_iload_n (pc' := 5) K dX12_packed_4 rfl 3 rfl rfl ?_
    refine j_iload_n (pc' := 6) K dX12_packed_5 rfl 1 rfl rfl ?_
    refine j_icmp_ge (pc' := 9) (tgt := 26) K dX12_packed_6 (by decide) rfl (fun hc => ?_) (fun hc => ?_)
    · have h := jit hc h
      refine j_iload_n (pc' := 27) K dX12_packed_26 rfl 2 rfl rfl ?_
      obtain rfl := Option.some.inj h
      exact HR _ _ dX12_packed_27
    · have h := jif hc h
      refine j_iload_n (pc' := 10) K dX12_packed_9 rfl 2 rfl rfl ?_
      refine j_iconst (pc' := 11) (v := (4 : Int32)) K dX12_packed_10 (by decide) rfl ?_
      refine j_ishl (pc' := 12) K dX12_packed_11 rfl ?_
      refine j_aload_n (pc' := 13) K dX12_packed_12 rfl 0 rfl rfl ?_
      refine j_get (pc' := 16) K dX12_packed_13 inX12 0 rfl rfl 13 (by decide) u_4_48 rfl rfl rfl ?_
      refine j_iload_n (pc' := 17) K dX12_packed_16 rfl 3 rfl rfl ?_
      obtain ⟨hg, h⟩ := jgd_some h
      refine j_iald (pc' := 18) K dX12_packed_17 9 rfl hg rfl ?_
      refine j_ior (pc' := 19) K dX12_packed_18 rfl ?_
      refine j_istore_n (pc' := 20) (lv' := [(2, .int ((v2 <<< ((4 : Int32) &&& 31)) ||| ((M_digit s0) (Int32.toNatClampNeg v3)))), (0, .ref (a0 0)), (1, .int v1), (3, .int v3)]) K dX12_packed_19 rfl (by decide) rfl rfl ?_
      refine j_iinc (pc' := 23) (j := 3) (v := (v3 + (1 : Int32))) (lv' := [(3, .int (v3 + (1 : Int32))), (2, .int ((v2 <<< ((4 : Int32) &&& 31)) ||| ((M_digit s0) (Int32.toNatClampNeg v3)))), (0, .ref (a0 0)), (1, .int v1)]) K dX12_packed_20 rfl rfl (by decide) rfl rfl ?_
      refine j_goto (tgt := 4) K dX12_packed_23 (by decide) ?_
      refine j_sub [2, 3, 1, 0] rfl ?_
      exact ih v1 ((v2 <<< ((4 : Int32) &&& 31)) ||| ((M_digit s0) (Int32.toNatClampNeg v3))) (v3 + (1 : Int32)) h
set_option maxRecDepth 100000 in
set_option maxHeartbeats 4000000 in
theorem b_X12_packed {E : jE} (a0 : Nat → Nat) (s0 : MS) {res : Int32} (K : jC E cX12_packed 4 RX12 0) (HR : jRI E cX12_packed 4 (wM (jg E) a0 s0) res) : ∀ (v1 : Int32), f_X12_packed v1 s0 = some res → J E 4 (wM (jg E) a0 s0) 0 [(0, .ref (a0 0)), (1, .int v1)] [] := by
  intro v1 h
  unfold f_X12_packed at h
  refine j_iconst (pc' := 1) (v := (0 : Int32)) K dX12_packed_0 (by decide) rfl ?_
  refine j_istore_n (pc' := 2) (lv' := [(2, .int (0 : Int32)), (0, .ref (a0 0)), (1, .int v1)]) K dX12_packed_1 rfl (by decide) rfl rfl ?_
  refine j_iconst (pc' := 3) (v := (0 : Int32)) K dX12_packed_2 (by decide) rfl ?_
  refine j_istore_n (pc' := 4) (lv' := [(3, .int (0 : Int32)), (2, .int (0 : Int32)), (0, .ref (a0 0)), (1, .int v1)]) K dX12_packed_3 rfl (by decide) rfl rfl ?_
  refine j_sub [2, 3, 1, 0] rfl ?_
  exact b_X12_packed_4 a0 s0 K HR jFU v1 (0 : Int32) (0 : Int32) h
set_option maxRecDepth 100000 in
set_option maxHeartbeats 4000000 in
theorem M_X12_packed (l : Launch) (G : jG) (a0 : Nat → Nat) (v1 : Int32) (s0 : MS) {r : Int32} (h : f_X12_packed v1 s0 = some r) : MC l yX12_packed cX12_packed 4 (some .int) 0 G jNo False (wM G a0 s0) (wM G a0 s0) [.ref (a0 0), .int v1] (some (.int r)) := by
  refine mc_int (by decide +kernel) (Nat.le_of_ble_eq_true rfl) fun E hl hg hA hrw K HR => ?_
  subst hl
  subst hg
  exact b_X12_packed a0 s0 K HR v1 h
theorem ok_X12_unpack : yX12_unpack.cls ≠ "java/lang/invoke/MethodHandle" ∧ yX12_unpack.cls ≠ "java/lang/invoke/VarHandle" ∧ (parseMethodDescriptor yX12_unpack.desc).map (fun d => d.parameters.length) = some 2 := ⟨by decide, by decide, by decide +kernel⟩
def f_X12_unpack_31 (v1 : Int32) (v2 : Int32) (s0 : MS) : Option (Int32 × MS) :=
   jbd (f_X12_packed v1 s0) (fun r33 =>
   if r33 = v2 then
    jzb (1 : Int32) (
     some ((1 : Int32), s0))
   else
    jzb (0 : Int32) (
     some ((0 : Int32), s0)))
def f_X12_unpack_2 : Nat → Int32 → Int32 → Int32 → MS → Option (Int32 × MS)
  | 0, _, _, _, _ => none
  | n + 1, v1, v2, v3, s0 =>
   if v1 ≤ v3 then
   f_X12_unpack_31 v1 v2 s0
  else
   jgd v3 8 (
    (f_X12_unpack_2 n) v1 v2 (v3 + (1 : Int32)) (M_digit_s s0 (upd (M_digit s0) (Int32.toNatClampNeg v3) ((v2 >>> (((4 : Int32) * ((v1 - (1 : Int32)) - v3)) &&& 31)) &&& (15 : Int32)))))
def f_X12_unpack (v1 : Int32) (v2 : Int32) (s0 : MS) : Option (Int32 × MS) :=
   f_X12_unpack_2 jFU v1 v2 (0 : Int32) s0
set_option maxRecDepth 100000 in
set_option maxHeartbeats 4000000 in
theorem b_X12_unpack_31 {E : jE} (a0 : Nat → Nat) {res : Int32 × MS} (K : jC E cX12_unpack 4 RX12 1) (hrw : jrw E) (HR : jRZ E cX12_unpack 4 (wM (jg E) a0 (res.2)) (res.1)) : ∀ (v1 : Int32) (v2 : Int32) (s0 : MS), f_X12_unpack_31 v1 v2 s0 = some res → J E 4 (wM (jg E) a0 s0) 31 [(0, .ref (a0 0)), (1, .int v1), (2, .int v2)] [] := by
  intro v1 v2 s0 h
  unfold f_X12_unpack_31 at h
  refine j_aload_n (pc' := 32) K dX12_unpack_31 rfl 0 rfl rfl ?_
  refine j_iload_n (pc' := 33) K dX12_unpack_32 rfl 1 rfl rfl ?_
  obtain ⟨r33, hr33, h⟩ := jbd_some h
  refine j_ro (pc' := 36) K (fun H hP => jrun_V K dX12_unpack_33 (M_X12_packed (jl E) (jg E) a0 v1 s0 hr33) u_4_217 u_4_214 u_4_216 u_p_28 u_1_13 ⟨ok_X12_packed, by decide, by decide⟩ rfl (Nat.le_of_ble_eq_true rfl) 0 rfl rfl H hP) [0, 1, 2, 3, 4, 5, 6, 7, 8, 9, 10, 11, 12, 13, 14, 15, 16] (cl_55_f ..) rfl ?_
  refine j_iload_n (pc' := 37) K dX12_unpack_36 rfl 2 rfl rfl ?_
  refine j_icmp_ne (pc' := 40) (tgt := 44) K dX12_unpack_37 (by decide) rfl (fun hc => ?_) (fun hc => ?_)
  · have h := jif hc h
    refine j_iconst (pc' := 45) (v := (0 : Int32)) K dX12_unpack_44 (by decide) rfl ?_
    obtain ⟨hg, h⟩ := jzb_some h
    obtain rfl := Option.some.inj h
    exact HR _ _ hg dX12_unpack_45
  · have h := jit hc h
    refine j_iconst (pc' := 41) (v := (1 : Int32)) K dX12_unpack_40 (by decide) rfl ?_
    refine j_goto (tgt := 45) K dX12_unpack_41 (by decide) ?_
    obtain ⟨hg, h⟩ := jzb_some h
    obtain rfl := Option.some.inj h
    exact HR _ _ hg dX12_unpack_45
set_option maxRecDepth 100000 in
set_option maxHeartbeats 4000000 in
theorem b_X12_unpack_2 {E : jE} (a0 : Nat → Nat) {res : Int32 × MS} (K : jC E cX12_unpack 4 RX12 1) (hrw : jrw E) (HR : jRZ E cX12_unpack 4 (wM (jg E) a0 (res.2)) (res.1)) : ∀ (n : Nat) (v1 : Int32) (v2 : Int32) (v3 : Int32) (s0 : MS), f_X12_unpack_2 n v1 v2 v3 s0 = some res → J E 4 (wM (jg E) a0 s0) 2 [(0, .ref (a0 0)), (1, .int v1), (2, .int v2), (3, .int v3)] [] := by
  intro n
  induction n with
  | zero => intro _ _ _ _ h; cases h
  | succ n ih =>
    intro v1 v2 v3 s0 h
    rw [f_X12_unpack_2] at h
    refine j_iload_n (pc' := 3) K dX12_unpack_2 rfl 3 rfl rfl ?_
    refine j_iload_n (pc' := 4) K dX12_unpack_3 rfl 1 rfl rfl ?_
    refine j_icmp_ge (pc' := 7) (tgt := 31) K dX12_unpack_4 (by decide) rfl (fun hc => ?_) (fun hc => ?_)
    · have h := jit hc h
      refine j_sub [0, 1, 2] rfl ?_
      exact b_X12_unpack_31 a0 K hrw HR v1 v2 s0 h
    · have h := jif hc h
      refine j_aload_n (pc' := 8) K dX12_unpack_7 rfl 0 rfl rfl ?_
      refine j_get (pc' := 11) K dX12_unpack_8 inX12 0 rfl rfl 13 (by decide) u_4_48 rfl rfl rfl ?_
      refine j_iload_n (pc' := 12) K dX12_unpack_11 rfl 3 rfl rfl ?_
      refine j_iload_n (pc' := 13) K dX12_unpack_12 rfl 2 rfl rfl ?_
      refine j_iconst (pc' := 14) (v := (4 : Int32)) K dX12_unpack_13 (by decide) rfl ?_
      refine j_iload_n (pc' := 15) K dX12_unpack_14 rfl 1 rfl rfl ?_
      refine j_iconst (pc' := 16) (v := (1 : Int32)) K dX12_unpack_15 (by decide) rfl ?_
      refine j_isub (pc' := 17) K dX12_unpack_16 rfl ?_
      refine j_iload_n (pc' := 18) K dX12_unpack_17 rfl 3 rfl rfl ?_
      refine j_isub (pc' := 19) K dX12_unpack_18 rfl ?_
      refine j_imul (pc' := 20) K dX12_unpack_19 rfl ?_
      refine j_ishr (pc' := 21) K dX12_unpack_20 rfl ?_
      refine j_bipush (pc' := 23) (v := (15 : Int32)) K dX12_unpack_21 (by decide) rfl ?_
      refine j_iand (pc' := 24) K dX12_unpack_23 rfl ?_
      obtain ⟨hg, h⟩ := jgd_some h
      refine j_iast (pc' := 25) (ws' := (wM (jg E) a0 (M_digit_s s0 (upd (M_digit s0) (Int32.toNatClampNeg v3) ((v2 >>> (((4 : Int32) * ((v1 - (1 : Int32)) - v3)) &&& 31)) &&& (15 : Int32)))))) K dX12_unpack_24 hrw 9 rfl hg (st_M_9 ..) rfl ?_
      refine j_iinc (pc' := 28) (j := 3) (v := (v3 + (1 : Int32))) (lv' := [(3, .int (v3 + (1 : Int32))), (0, .ref (a0 0)), (1, .int v1), (2, .int v2)]) K dX12_unpack_25 rfl rfl (by decide) rfl rfl ?_
      refine j_goto (tgt := 2) K dX12_unpack_28 (by decide) ?_
      refine j_sub [1, 2, 3, 0] rfl ?_
      exact ih v1 v2 (v3 + (1 : Int32)) (M_digit_s s0 (upd (M_digit s0) (Int32.toNatClampNeg v3) ((v2 >>> (((4 : Int32) * ((v1 - (1 : Int32)) - v3)) &&& 31)) &&& (15 : Int32)))) h
set_option maxRecDepth 100000 in
set_option maxHeartbeats 4000000 in
theorem b_X12_unpack {E : jE} (a0 : Nat → Nat) {res : Int32 × MS} (K : jC E cX12_unpack 4 RX12 1) (hrw : jrw E) (HR : jRZ E cX12_unpack 4 (wM (jg E) a0 (res.2)) (res.1)) : ∀ (v1 : Int32) (v2 : Int32) (s0 : MS), f_X12_unpack v1 v2 s0 = some res → J E 4 (wM (jg E) a0 s0) 0 [(0, .ref (a0 0)), (1, .int v1), (2, .int v2)] [] := by
  intro v1 v2 s0 h
  unfold f_X12_unpack at h
  refine j_iconst (pc' := 1) (v := (0 : Int32)) K dX12_unpack_0 (by decide) rfl ?_
  refine j_istore_n (pc' := 2) (lv' := [(3, .int (0 : Int32)), (0, .ref (a0 0)), (1, .int v1), (2, .int v2)]) K dX12_unpack_1 rfl (by decide) rfl rfl ?_
  refine j_sub [1, 2, 3, 0] rfl ?_
  exact b_X12_unpack_2 a0 K hrw HR jFU v1 v2 (0 : Int32) s0 h
set_option maxRecDepth 100000 in
set_option maxHeartbeats 4000000 in
theorem M_X12_unpack (l : Launch) (G : jG) (a0 : Nat → Nat) (v1 : Int32) (v2 : Int32) (s0 : MS) {r : Int32 × MS} (h : f_X12_unpack v1 v2 s0 = some r) : MC l yX12_unpack cX12_unpack 4 (some .boolean) 1 G (jad (wM G a0 s0)) True (wM G a0 s0) (wM G a0 (r.2)) [.ref (a0 0), .int v1, .int v2] (some (.int (r.1))) := by
  refine mc_bool (by decide +kernel) (Nat.le_of_ble_eq_true rfl) fun E hl hg hA hrw K HR => ?_
  subst hl
  subst hg
  have hrw : jrw E := by rw [hrw]; trivial
  exact b_X12_unpack a0 K hrw HR v1 v2 s0 h
theorem ok_X12_partsOf : yX12_partsOf.cls ≠ "java/lang/invoke/MethodHandle" ∧ yX12_partsOf.cls ≠ "java/lang/invoke/VarHandle" ∧ (parseMethodDescriptor yX12_partsOf.desc).map (fun d => d.parameters.length) = some 1 := ⟨by decide, by decide, by decide +kernel⟩
def f_X12_partsOf_78 (v2 : Int32) (v3 : Int32) (s0 : MS) : Option (Int32) :=
   if v3 = 0 then
   some (0 : Int32)
  else
   some (v2 + (1 : Int32))
def f_X12_partsOf_71 (k20 : Int32 → Int32 → Int32 → Int32 → MS → Option (Int32)) (v1 : Int32) (v3 : Int32) (v4 : Int32) (t0 : Int32) (s0 : MS) : Option (Int32) :=
   k20 v1 t0 v3 (v4 + (1 : Int32)) s0
def f_X12_partsOf_48 (k20 : Int32 → Int32 → Int32 → Int32 → MS → Option (Int32)) (v1 : Int32) (v2 : Int32) (v4 : Int32) (t0 : Int32) (s0 : MS) : Option (Int32) :=
   jgd v4 8 (
   if ((M_digit s0) (Int32.toNatClampNeg v4)) ≤ v2 then
    f_X12_partsOf_71 k20 v1 t0 v4 v2 s0
   else
    jgd v4 8 (
     f_X12_partsOf_71 k20 v1 t0 v4 ((M_digit s0) (Int32.toNatClampNeg v4)) s0))
def f_X12_partsOf_47 (k20 : Int32 → Int32 → Int32 → Int32 → MS → Option (Int32)) (v1 : Int32) (v2 : Int32) (v4 : Int32) (s0 : MS) : Option (Int32) :=
   f_X12_partsOf_48 k20 v1 v2 v4 (0 : Int32) s0
def f_X12_partsOf_20 : Nat → Int32 → Int32 → Int32 → Int32 → MS → Option (Int32)
  | 0, _, _, _, _, _ => none
  | n + 1, v1, v2, v3, v4, s0 =>
   if v1 ≤ v4 then
   f_X12_partsOf_78 v2 v3 s0
  else
   if v3 = 0 then
    f_X12_partsOf_47 (f_X12_partsOf_20 n) v1 v2 v4 s0
   else
    jgd v4 8 (
     if (v2 + (1 : Int32)) < ((M_digit s0) (Int32.toNatClampNeg v4)) then
      f_X12_partsOf_47 (f_X12_partsOf_20 n) v1 v2 v4 s0
     else
      f_X12_partsOf_48 (f_X12_partsOf_20 n) v1 v2 v4 (1 : Int32) s0)
def f_X12_partsOf_16 (v1 : Int32) (v2 : Int32) (t0 : Int32) (s0 : MS) : Option (Int32) :=
   f_X12_partsOf_20 jFU v1 v2 t0 (1 : Int32) s0
def f_X12_partsOf (v1 : Int32) (s0 : MS) : Option (Int32) :=
   jgd (0 : Int32) 8 (
   if ((M_digit s0) (Int32.toNatClampNeg (0 : Int32))) = 0 then
    f_X12_partsOf_16 v1 (0 : Int32) (1 : Int32) s0
   else
    f_X12_partsOf_16 v1 (0 : Int32) (0 : Int32) s0)
set_option maxRecDepth 100000 in
set_option maxHeartbeats 4000000 in
theorem b_X12_partsOf_78 {E : jE} (a0 : Nat → Nat) (s0 : MS) {res : Int32} (K : jC E cX12_partsOf 5 RX12 0) (HR : jRI E cX12_partsOf 5 (wM (jg E) a0 s0) res) : ∀ (v2 : Int32) (v3 : Int32), f_X12_partsOf_78 v2 v3 s0 = some res → J E 5 (wM (jg E) a0 s0) 78 [(2, .int v2), (3, .int v3)] [] := by
  intro v2 v3 h
  unfold f_X12_partsOf_78 at h
  refine j_iload_n (pc' := 79) K dX12_partsOf_78 rfl 1 rfl rfl ?_
  refine j_if_eq (pc' := 82) (tgt := 88) K dX12_partsOf_79 (by decide) rfl (fun hc => ?_) (fun hc => ?_)
  · have h := jit hc h
    refine j_iconst (pc' := 89) (v := (0 : Int32)) K dX12_partsOf_88 (by decide) rfl ?_
    obtain rfl := Option.some.inj h
    exact HR _ _ dX12_partsOf_89
  · have h := jif hc h
    refine j_iload_n (pc' := 83) K dX12_partsOf_82 rfl 0 rfl rfl ?_
    refine j_iconst (pc' := 84) (v := (1 : Int32)) K dX12_partsOf_83 (by decide) rfl ?_
    refine j_iadd (pc' := 85) K dX12_partsOf_84 rfl ?_
    refine j_goto (tgt := 89) K dX12_partsOf_85 (by decide) ?_
    obtain rfl := Option.some.inj h
    exact HR _ _ dX12_partsOf_89
set_option maxRecDepth 100000 in
set_option maxHeartbeats 4000000 in
theorem b_X12_partsOf_71 {E : jE} (a0 : Nat → Nat) (s0 : MS) {res : Int32} (K : jC E cX12_partsOf 5 RX12 0) (HR : jRI E cX12_partsOf 5 (wM (jg E) a0 s0) res) (k20 : Int32 → Int32 → Int32 → Int32 → MS → Option (Int32)) (hk20 : ∀ (v1 : Int32) (v2 : Int32) (v3 : Int32) (v4 : Int32), k20 v1 v2 v3 v4 s0 = some res → J E 5 (wM (jg E) a0 s0) 20 [(0, .ref (a0 0)), (1, .int v1), (2, .int v2), (3, .int v3), (4, .int v4)] []) : ∀ (v1 : Int32) (v3 : Int32) (v4 : Int32) (t0 : Int32), f_X12_partsOf_71 k20 v1 v3 v4 t0 s0 = some res → J E 5 (wM (jg E) a0 s0) 71 [(0, .ref (a0 0)), (1, .int v1), (3, .int v3), (4, .int v4)] [.int t0] := by
  intro v1 v3 v4 t0 h
  unfold f_X12_partsOf_71 at h
  refine j_istore_n (pc' := 72) (lv' := [(2, .int t0), (0, .ref (a0 0)), (1, .int v1), (3, .int v3), (4, .int v4)]) K dX12_partsOf_71 rfl (by decide) rfl rfl ?_
  refine j_iinc (pc' := 75) (j := 4) (v := (v4 + (1 : Int32))) (lv' := [(4, .int (v4 + (1 : Int32))), (2, .int t0), (0, .ref (a0 0)), (1, .int v1), (3, .int v3)]) K dX12_partsOf_72 rfl rfl (by decide) rfl rfl ?_
  refine j_goto (tgt := 20) K dX12_partsOf_75 (by decide) ?_
  refine j_sub [2, 3, 1, 4, 0] rfl ?_
  exact hk20 v1 t0 v3 (v4 + (1 : Int32)) h
set_option maxRecDepth 100000 in
set_option maxHeartbeats 4000000 in
theorem b_X12_partsOf_48 {E : jE} (a0 : Nat → Nat) (s0 : MS) {res : Int32} (K : jC E cX12_partsOf 5 RX12 0) (HR : jRI E cX12_partsOf 5 (wM (jg E) a0 s0) res) (k20 : Int32 → Int32 → Int32 → Int32 → MS → Option (Int32)) (hk20 : ∀ (v1 : Int32) (v2 : Int32) (v3 : Int32) (v4 : Int32), k20 v1 v2 v3 v4 s0 = some res → J E 5 (wM (jg E) a0 s0) 20 [(0, .ref (a0 0)), (1, .int v1), (2, .int v2), (3, .int v3), (4, .int v4)] []) : ∀ (v1 : Int32) (v2 : Int32) (v4 : Int32) (t0 : Int32), f_X12_partsOf_48 k20 v1 v2 v4 t0 s0 = some res → J E 5 (wM (jg E) a0 s0) 48 [(0, .ref (a0 0)), (1, .int v1), (2, .int v2), (4, .int v4)] [.int t0] := by
  intro v1 v2 v4 t0 h
  unfold f_X12_partsOf_48 at h
  refine j_istore_n (pc' := 49) (lv' := [(3, .int t0), (0, .ref (a0 0)), (1, .int v1), (2, .int v2), (4, .int v4)]) K dX12_partsOf_48 rfl (by decide) rfl rfl ?_
  refine j_aload_n (pc' := 50) K dX12_partsOf_49 rfl 1 rfl rfl ?_
  refine j_get (pc' := 53) K dX12_partsOf_50 inX12 0 rfl rfl 13 (by decide) u_4_48 rfl rfl rfl ?_
  refine j_iload (pc' := 55) K dX12_partsOf_53 4 rfl rfl ?_
  obtain ⟨hg, h⟩ := jgd_some h
  refine j_iald (pc' := 56) K dX12_partsOf_55 9 rfl hg rfl ?_
  refine j_iload_n (pc' := 57) K dX12_partsOf_56 rfl 3 rfl rfl ?_
  refine j_icmp_le (pc' := 60) (tgt := 70) K dX12_partsOf_57 (by decide) rfl (fun hc => ?_) (fun hc => ?_)
  · have h := jit hc h
    refine j_iload_n (pc' := 71) K dX12_partsOf_70 rfl 3 rfl rfl ?_
    refine j_sub [1, 2, 0, 4] rfl ?_
    exact b_X12_partsOf_71 a0 s0 K HR k20 hk20 v1 t0 v4 v2 h
  · have h := jif hc h
    refine j_aload_n (pc' := 61) K dX12_partsOf_60 rfl 1 rfl rfl ?_
    refine j_get (pc' := 64) K dX12_partsOf_61 inX12 0 rfl rfl 13 (by decide) u_4_48 rfl rfl rfl ?_
    refine j_iload (pc' := 66) K dX12_partsOf_64 4 rfl rfl ?_
    obtain ⟨hg, h⟩ := jgd_some h
    refine j_iald (pc' := 67) K dX12_partsOf_66 9 rfl hg rfl ?_
    refine j_goto (tgt := 71) K dX12_partsOf_67 (by decide) ?_
    refine j_sub [1, 2, 0, 4] rfl ?_
    exact b_X12_partsOf_71 a0 s0 K HR k20 hk20 v1 t0 v4 ((M_digit s0) (Int32.toNatClampNeg v4)) h
set_option maxRecDepth 100000 in
set_option maxHeartbeats 4000000 in
theorem b_X12_partsOf_47 {E : jE} (a0 : Nat → Nat) (s0 : MS) {res : Int32} (K : jC E cX12_partsOf 5 RX12 0) (HR : jRI E cX12_partsOf 5 (wM (jg E) a0 s0) res) (k20 : Int32 → Int32 → Int32 → Int32 → MS → Option (Int32)) (hk20 : ∀ (v1 : Int32) (v2 : Int32) (v3 : Int32) (v4 : Int32), k20 v1 v2 v3 v4 s0 = some res → J E 5 (wM (jg E) a0 s0) 20 [(0, .ref (a0 0)), (1, .int v1), (2, .int v2), (3, .int v3), (4, .int v4)] []) : ∀ (v1 : Int32) (v2 : Int32) (v4 : Int32), f_X12_partsOf_47 k20 v1 v2 v4 s0 = some res → J E 5 (wM (jg E) a0 s0) 47 [(0, .ref (a0 0)), (1, .int v1), (2, .int v2), (4, .int v4)] [] := by
  intro v1 v2 v4 h
  unfold f_X12_partsOf_47 at h
  refine j_iconst (pc' := 48) (v := (0 : Int32)) K dX12_partsOf_47 (by decide) rfl ?_
  refine j_sub [0, 1, 2, 3] rfl ?_
  exact b_X12_partsOf_48 a0 s0 K HR k20 hk20 v1 v2 v4 (0 : Int32) h
set_option maxRecDepth 100000 in
set_option maxHeartbeats 4000000 in
theorem b_X12_partsOf_20 {E : jE} (a0 : Nat → Nat) (s0 : MS) {res : Int32} (K : jC E cX12_partsOf 5 RX12 0) (HR : jRI E cX12_partsOf 5 (wM (jg E) a0 s0) res) : ∀ (n : Nat) (v1 : Int32) (v2 : Int32) (v3 : Int32) (v4 : Int32), f_X12_partsOf_20 n v1 v2 v3 v4 s0 = some res → J E 5 (wM (jg E) a0 s0) 20 [(0, .ref (a0 0)), (1, .int v1), (2, .int v2), (3, .int v3), (4, .int v4)] [] := by
  intro n
  induction n with
  | zero => intro _ _ _ _ h; cases h
  | succ n ih =>
    intro v1 v2 v3 v4 h
    rw [f_X12_partsOf_20] at h
    refine j_iload (pc' := 22) K dX12_partsOf_20 4 rfl rfl ?_
    refine j_iload_n (pc' := 23) K dX12_partsOf_22 rfl 1 rfl rfl ?_
    refine j_icmp_ge (pc' := 26) (tgt := 78) K dX12_partsOf_23 (by decide) rfl (fun hc => ?_) (fun hc => ?_)
    · have h := jit hc h
      refine j_sub [2, 3] rfl ?_
      exact b_X12_partsOf_78 a0 s0 K HR v2 v3 h
    · have h := jif hc h
      refine j_iload_n (pc' := 27) K dX12_partsOf_26 rfl 3 rfl rfl ?_
      refine j_if_eq (pc' := 30) (tgt := 47) K dX12_partsOf_27 (by decide) rfl (fun hc => ?_) (fun hc => ?_)
      · have h := jit hc h
        refine j_sub [0, 1, 2, 4] rfl ?_
        exact b_X12_partsOf_47 a0 s0 K HR (f_X12_partsOf_20 n) (ih) v1 v2 v4 h
      · have h := jif hc h
        refine j_aload_n (pc' := 31) K dX12_partsOf_30 rfl 0 rfl rfl ?_
        refine j_get (pc' := 34) K dX12_partsOf_31 inX12 0 rfl rfl 13 (by decide) u_4_48 rfl rfl rfl ?_
        refine j_iload (pc' := 36) K dX12_partsOf_34 4 rfl rfl ?_
        obtain ⟨hg, h⟩ := jgd_some h
        refine j_iald (pc' := 37) K dX12_partsOf_36 9 rfl hg rfl ?_
        refine j_iload_n (pc' := 38) K dX12_partsOf_37 rfl 2 rfl rfl ?_
        refine j_iconst (pc' := 39) (v := (1 : Int32)) K dX12_partsOf_38 (by decide) rfl ?_
        refine j_iadd (pc' := 40) K dX12_partsOf_39 rfl ?_
        refine j_icmp_gt (pc' := 43) (tgt := 47) K dX12_partsOf_40 (by decide) rfl (fun hc => ?_) (fun hc => ?_)
        · have h := jit hc h
          refine j_sub [0, 1, 2, 4] rfl ?_
          exact b_X12_partsOf_47 a0 s0 K HR (f_X12_partsOf_20 n) (ih) v1 v2 v4 h
        · have h := jif hc h
          refine j_iconst (pc' := 44) (v := (1 : Int32)) K dX12_partsOf_43 (by decide) rfl ?_
          refine j_goto (tgt := 48) K dX12_partsOf_44 (by decide) ?_
          refine j_sub [0, 1, 2, 4] rfl ?_
          exact b_X12_partsOf_48 a0 s0 K HR (f_X12_partsOf_20 n) (ih) v1 v2 v4 (1 : Int32) h
set_option maxRecDepth 100000 in
set_option maxHeartbeats 4000000 in
theorem b_X12_partsOf_16 {E : jE} (a0 : Nat → Nat) (s0 : MS) {res : Int32} (K : jC E cX12_partsOf 5 RX12 0) (HR : jRI E cX12_partsOf 5 (wM (jg E) a0 s0) res) : ∀ (v1 : Int32) (v2 : Int32) (t0 : Int32), f_X12_partsOf_16 v1 v2 t0 s0 = some res → J E 5 (wM (jg E) a0 s0) 16 [(0, .ref (a0 0)), (1, .int v1), (2, .int v2)] [.int t0] := by
  intro v1 v2 t0 h
  unfold f_X12_partsOf_16 at h
  refine j_istore_n (pc' := 17) (lv' := [(3, .int t0), (0, .ref (a0 0)), (1, .int v1), (2, .int v2)]) K dX12_partsOf_16 rfl (by decide) rfl rfl ?_
  refine j_iconst (pc' := 18) (v := (1 : Int32)) K dX12_partsOf_17 (by decide) rfl ?_
  refine j_istore (pc' := 20) (lv' := [(4, .int (1 : Int32)), (3, .int t0), (0, .ref (a0 0)), (1, .int v1), (2, .int v2)]) K dX12_partsOf_18 (by decide) rfl rfl ?_
  refine j_sub [2, 3, 4, 1, 0] rfl ?_
  exact b_X12_partsOf_20 a0 s0 K HR jFU v1 v2 t0 (1 : Int32) h
set_option maxRecDepth 100000 in
set_option maxHeartbeats 4000000 in
theorem b_X12_partsOf {E : jE} (a0 : Nat → Nat) (s0 : MS) {res : Int32} (K : jC E cX12_partsOf 5 RX12 0) (HR : jRI E cX12_partsOf 5 (wM (jg E) a0 s0) res) : ∀ (v1 : Int32), f_X12_partsOf v1 s0 = some res → J E 5 (wM (jg E) a0 s0) 0 [(0, .ref (a0 0)), (1, .int v1)] [] := by
  intro v1 h
  unfold f_X12_partsOf at h
  refine j_iconst (pc' := 1) (v := (0 : Int32)) K dX12_partsOf_0 (by decide) rfl ?_
  refine j_istore_n (pc' := 2) (lv' := [(2, .int (0 : Int32)), (0, .ref (a0 0)), (1, .int v1)]) K dX12_partsOf_1 rfl (by decide) rfl rfl ?_
  refine j_aload_n (pc' := 3) K dX12_partsOf_2 rfl 1 rfl rfl ?_
  refine j_get (pc' := 6) K dX12_partsOf_3 inX12 0 rfl rfl 13 (by decide) u_4_48 rfl rfl rfl ?_
  refine j_iconst (pc' := 7) (v := (0 : Int32)) K dX12_partsOf_6 (by decide) rfl ?_
  obtain ⟨hg, h⟩ := jgd_some h
  refine j_iald (pc' := 8) K dX12_partsOf_7 9 rfl hg rfl ?_
  refine j_if_ne (pc' := 11) (tgt := 15) K dX12_partsOf_8 (by decide) rfl (fun hc => ?_) (fun hc => ?_)
  · have h := jif hc h
    refine j_iconst (pc' := 16) (v := (0 : Int32)) K dX12_partsOf_15 (by decide) rfl ?_
    refine j_sub [1, 2, 0] rfl ?_
    exact b_X12_partsOf_16 a0 s0 K HR v1 (0 : Int32) (0 : Int32) h
  · have h := jit hc h
    refine j_iconst (pc' := 12) (v := (1 : Int32)) K dX12_partsOf_11 (by decide) rfl ?_
    refine j_goto (tgt := 16) K dX12_partsOf_12 (by decide) ?_
    refine j_sub [1, 2, 0] rfl ?_
    exact b_X12_partsOf_16 a0 s0 K HR v1 (0 : Int32) (1 : Int32) h
set_option maxRecDepth 100000 in
set_option maxHeartbeats 4000000 in
theorem M_X12_partsOf (l : Launch) (G : jG) (a0 : Nat → Nat) (v1 : Int32) (s0 : MS) {r : Int32} (h : f_X12_partsOf v1 s0 = some r) : MC l yX12_partsOf cX12_partsOf 5 (some .int) 0 G jNo False (wM G a0 s0) (wM G a0 s0) [.ref (a0 0), .int v1] (some (.int r)) := by
  refine mc_int (by decide +kernel) (Nat.le_of_ble_eq_true rfl) fun E hl hg hA hrw K HR => ?_
  subst hl
  subst hg
  exact b_X12_partsOf a0 s0 K HR v1 h
theorem ok_X12_turnParting : yX12_turnParting.cls ≠ "java/lang/invoke/MethodHandle" ∧ yX12_turnParting.cls ≠ "java/lang/invoke/VarHandle" ∧ (parseMethodDescriptor yX12_turnParting.desc).map (fun d => d.parameters.length) = some 1 := ⟨by decide, by decide, by decide +kernel⟩
def f_X12_turnParting_73 : Nat → Int32 → Int32 → MS → Option (Int32 × MS)
  | 0, _, _, _ => none
  | n + 1, v1, v4, s0 =>
   if v1 ≤ v4 then
   jzb (1 : Int32) (
    some ((1 : Int32), s0))
  else
   jgd v4 8 (
    (f_X12_turnParting_73 n) v1 (v4 + (1 : Int32)) (M_digit_s s0 (upd (M_digit s0) (Int32.toNatClampNeg v4) (0 : Int32))))
def f_X12_turnParting_58 (v1 : Int32) (v2 : Int32) (s0 : MS) : Option (Int32 × MS) :=
   jgd v2 8 (
   jgd v2 8 (
    f_X12_turnParting_73 jFU v1 (v2 + (1 : Int32)) (M_digit_s s0 (upd (M_digit s0) (Int32.toNatClampNeg v2) (((M_digit s0) (Int32.toNatClampNeg v2)) + (1 : Int32))))))
def f_X12_turnParting_48 (k4 : Int32 → Int32 → MS → Option (Int32 × MS)) (v1 : Int32) (v2 : Int32) (v3 : Int32) (s0 : MS) : Option (Int32 × MS) :=
   jgd v2 8 (
   if v3 < ((M_digit s0) (Int32.toNatClampNeg v2)) then
    k4 v1 (v2 + (-1 : Int32)) s0
   else
    f_X12_turnParting_58 v1 v2 s0)
def f_X12_turnParting_41 (k4 : Int32 → Int32 → MS → Option (Int32 × MS)) (k13 : Int32 → Int32 → Int32 → Int32 → MS → Option (Int32 × MS)) (v1 : Int32) (v2 : Int32) (v4 : Int32) (t0 : Int32) (s0 : MS) : Option (Int32 × MS) :=
   k13 v1 v2 t0 (v4 + (1 : Int32)) s0
def f_X12_turnParting_13 (k4 : Int32 → Int32 → MS → Option (Int32 × MS)) : Nat → Int32 → Int32 → Int32 → Int32 → MS → Option (Int32 × MS)
  | 0, _, _, _, _, _ => none
  | n + 1, v1, v2, v3, v4, s0 =>
   if v2 ≤ v4 then
   f_X12_turnParting_48 k4 v1 v2 v3 s0
  else
   jgd v4 8 (
    if ((M_digit s0) (Int32.toNatClampNeg v4)) ≤ v3 then
     f_X12_turnParting_41 k4 (f_X12_turnParting_13 k4 n) v1 v2 v4 v3 s0
    else
     jgd v4 8 (
      f_X12_turnParting_41 k4 (f_X12_turnParting_13 k4 n) v1 v2 v4 ((M_digit s0) (Int32.toNatClampNeg v4)) s0))
def f_X12_turnParting_4 : Nat → Int32 → Int32 → MS → Option (Int32 × MS)
  | 0, _, _, _ => none
  | n + 1, v1, v2, s0 =>
   if v2 ≤ 0 then
   jzb (0 : Int32) (
    some ((0 : Int32), s0))
  else
   f_X12_turnParting_13 (f_X12_turnParting_4 n) jFU v1 v2 (0 : Int32) (0 : Int32) s0
def f_X12_turnParting (v1 : Int32) (s0 : MS) : Option (Int32 × MS) :=
   f_X12_turnParting_4 jFU v1 (v1 - (1 : Int32)) s0
set_option maxRecDepth 100000 in
set_option maxHeartbeats 4000000 in
theorem b_X12_turnParting_73 {E : jE} (a0 : Nat → Nat) {res : Int32 × MS} (K : jC E cX12_turnParting 5 RX12 0) (hrw : jrw E) (HR : jRZ E cX12_turnParting 5 (wM (jg E) a0 (res.2)) (res.1)) : ∀ (n : Nat) (v1 : Int32) (v4 : Int32) (s0 : MS), f_X12_turnParting_73 n v1 v4 s0 = some res → J E 5 (wM (jg E) a0 s0) 73 [(0, .ref (a0 0)), (1, .int v1), (4, .int v4)] [] := by
  intro n
  induction n with
  | zero => intro _ _ _ h; cases h
  | succ n ih =>
    intro v1 v4 s0 h
    rw [f_X12_turnParting_73] at h
    refine j_iload (pc' := 75) K dX12_turnParting_73 2 rfl rfl ?_
    refine j_iload_n (pc' := 76) K dX12_turnParting_75 rfl 1 rfl rfl ?_
    refine j_icmp_ge (pc' := 79) (tgt := 93) K dX12_turnParting_76 (by decide) rfl (fun hc => ?_) (fun hc => ?_)
    · have h := jit hc h
      refine j_iconst (pc' := 94) (v := (1 : Int32)) K dX12_turnParting_93 (by decide) rfl ?_
      obtain ⟨hg, h⟩ := jzb_some h
      obtain rfl := Option.some.inj h
      exact HR _ _ hg dX12_turnParting_94
    · have h := jif hc h
      refine j_aload_n (pc' := 80) K dX12_turnParting_79 rfl 0 rfl rfl ?_
      refine j_get (pc' := 83) K dX12_turnParting_80 inX12 0 rfl rfl 13 (by decide) u_4_48 rfl rfl rfl ?_
      refine j_iload (pc' := 85) K dX12_turnParting_83 2 rfl rfl ?_
      refine j_iconst (pc' := 86) (v := (0 : Int32)) K dX12_turnParting_85 (by decide) rfl ?_
      obtain ⟨hg, h⟩ := jgd_some h
      refine j_iast (pc' := 87) (ws' := (wM (jg E) a0 (M_digit_s s0 (upd (M_digit s0) (Int32.toNatClampNeg v4) (0 : Int32))))) K dX12_turnParting_86 hrw 9 rfl hg (st_M_9 ..) rfl ?_
      refine j_iinc (pc' := 90) (j := 2) (v := (v4 + (1 : Int32))) (lv' := [(4, .int (v4 + (1 : Int32))), (0, .ref (a0 0)), (1, .int v1)]) K dX12_turnParting_87 rfl rfl (by decide) rfl rfl ?_
      refine j_goto (tgt := 73) K dX12_turnParting_90 (by decide) ?_
      refine j_sub [1, 2, 0] rfl ?_
      exact ih v1 (v4 + (1 : Int32)) (M_digit_s s0 (upd (M_digit s0) (Int32.toNatClampNeg v4) (0 : Int32))) h
set_option maxRecDepth 100000 in
set_option maxHeartbeats 4000000 in
theorem b_X12_turnParting_58 {E : jE} (a0 : Nat → Nat) {res : Int32 × MS} (K : jC E cX12_turnParting 5 RX12 0) (hrw : jrw E) (HR : jRZ E cX12_turnParting 5 (wM (jg E) a0 (res.2)) (res.1)) : ∀ (v1 : Int32) (v2 : Int32) (s0 : MS), f_X12_turnParting_58 v1 v2 s0 = some res → J E 5 (wM (jg E) a0 s0) 58 [(0, .ref (a0 0)), (1, .int v1), (2, .int v2)] [] := by
  intro v1 v2 s0 h
  unfold f_X12_turnParting_58 at h
  refine j_aload_n (pc' := 59) K dX12_turnParting_58 rfl 0 rfl rfl ?_
  refine j_get (pc' := 62) K dX12_turnParting_59 inX12 0 rfl rfl 13 (by decide) u_4_48 rfl rfl rfl ?_
  refine j_iload_n (pc' := 63) K dX12_turnParting_62 rfl 2 rfl rfl ?_
  refine j_dup2_11 (pc' := 64) K dX12_turnParting_63 rfl rfl rfl ?_
  obtain ⟨hg, h⟩ := jgd_some h
  refine j_iald (pc' := 65) K dX12_turnParting_64 9 rfl hg rfl ?_
  refine j_iconst (pc' := 66) (v := (1 : Int32)) K dX12_turnParting_65 (by decide) rfl ?_
  refine j_iadd (pc' := 67) K dX12_turnParting_66 rfl ?_
  obtain ⟨hg, h⟩ := jgd_some h
  refine j_iast (pc' := 68) (ws' := (wM (jg E) a0 (M_digit_s s0 (upd (M_digit s0) (Int32.toNatClampNeg v2) (((M_digit s0) (Int32.toNatClampNeg v2)) + (1 : Int32)))))) K dX12_turnParting_67 hrw 9 rfl hg (st_M_9 ..) rfl ?_
  refine j_iload_n (pc' := 69) K dX12_turnParting_68 rfl 2 rfl rfl ?_
  refine j_iconst (pc' := 70) (v := (1 : Int32)) K dX12_turnParting_69 (by decide) rfl ?_
  refine j_iadd (pc' := 71) K dX12_turnParting_70 rfl ?_
  refine j_istore (pc' := 73) (lv' := [(4, .int (v2 + (1 : Int32))), (0, .ref (a0 0)), (1, .int v1), (2, .int v2)]) K dX12_turnParting_71 (by decide) rfl rfl ?_
  refine j_sub [1, 2, 0] rfl ?_
  exact b_X12_turnParting_73 a0 K hrw HR jFU v1 (v2 + (1 : Int32)) (M_digit_s s0 (upd (M_digit s0) (Int32.toNatClampNeg v2) (((M_digit s0) (Int32.toNatClampNeg v2)) + (1 : Int32)))) h
set_option maxRecDepth 100000 in
set_option maxHeartbeats 4000000 in
theorem b_X12_turnParting_48 {E : jE} (a0 : Nat → Nat) {res : Int32 × MS} (K : jC E cX12_turnParting 5 RX12 0) (hrw : jrw E) (HR : jRZ E cX12_turnParting 5 (wM (jg E) a0 (res.2)) (res.1)) (k4 : Int32 → Int32 → MS → Option (Int32 × MS)) (hk4 : ∀ (v1 : Int32) (v2 : Int32) (s0 : MS), k4 v1 v2 s0 = some res → J E 5 (wM (jg E) a0 s0) 4 [(0, .ref (a0 0)), (1, .int v1), (2, .int v2)] []) : ∀ (v1 : Int32) (v2 : Int32) (v3 : Int32) (s0 : MS), f_X12_turnParting_48 k4 v1 v2 v3 s0 = some res → J E 5 (wM (jg E) a0 s0) 48 [(0, .ref (a0 0)), (1, .int v1), (2, .int v2), (3, .int v3)] [] := by
  intro v1 v2 v3 s0 h
  unfold f_X12_turnParting_48 at h
  refine j_aload_n (pc' := 49) K dX12_turnParting_48 rfl 0 rfl rfl ?_
  refine j_get (pc' := 52) K dX12_turnParting_49 inX12 0 rfl rfl 13 (by decide) u_4_48 rfl rfl rfl ?_
  refine j_iload_n (pc' := 53) K dX12_turnParting_52 rfl 2 rfl rfl ?_
  obtain ⟨hg, h⟩ := jgd_some h
  refine j_iald (pc' := 54) K dX12_turnParting_53 9 rfl hg rfl ?_
  refine j_iload_n (pc' := 55) K dX12_turnParting_54 rfl 3 rfl rfl ?_
  refine j_icmp_gt (pc' := 58) (tgt := 95) K dX12_turnParting_55 (by decide) rfl (fun hc => ?_) (fun hc => ?_)
  · have h := jit hc h
    refine j_iinc (pc' := 98) (j := 2) (v := (v2 + (-1 : Int32))) (lv' := [(2, .int (v2 + (-1 : Int32))), (0, .ref (a0 0)), (1, .int v1), (3, .int v3)]) K dX12_turnParting_95 rfl rfl (by decide) rfl rfl ?_
    refine j_goto (tgt := 4) K dX12_turnParting_98 (by decide) ?_
    refine j_sub [1, 2, 0] rfl ?_
    exact hk4 v1 (v2 + (-1 : Int32)) s0 h
  · have h := jif hc h
    refine j_sub [0, 1, 2] rfl ?_
    exact b_X12_turnParting_58 a0 K hrw HR v1 v2 s0 h
set_option maxRecDepth 100000 in
set_option maxHeartbeats 4000000 in
theorem b_X12_turnParting_41 {E : jE} (a0 : Nat → Nat) {res : Int32 × MS} (K : jC E cX12_turnParting 5 RX12 0) (hrw : jrw E) (HR : jRZ E cX12_turnParting 5 (wM (jg E) a0 (res.2)) (res.1)) (k4 : Int32 → Int32 → MS → Option (Int32 × MS)) (k13 : Int32 → Int32 → Int32 → Int32 → MS → Option (Int32 × MS)) (hk4 : ∀ (v1 : Int32) (v2 : Int32) (s0 : MS), k4 v1 v2 s0 = some res → J E 5 (wM (jg E) a0 s0) 4 [(0, .ref (a0 0)), (1, .int v1), (2, .int v2)] []) (hk13 : ∀ (v1 : Int32) (v2 : Int32) (v3 : Int32) (v4 : Int32) (s0 : MS), k13 v1 v2 v3 v4 s0 = some res → J E 5 (wM (jg E) a0 s0) 13 [(0, .ref (a0 0)), (1, .int v1), (2, .int v2), (3, .int v3), (4, .int v4)] []) : ∀ (v1 : Int32) (v2 : Int32) (v4 : Int32) (t0 : Int32) (s0 : MS), f_X12_turnParting_41 k4 k13 v1 v2 v4 t0 s0 = some res → J E 5 (wM (jg E) a0 s0) 41 [(0, .ref (a0 0)), (1, .int v1), (2, .int v2), (4, .int v4)] [.int t0] := by
  intro v1 v2 v4 t0 s0 h
  unfold f_X12_turnParting_41 at h
  refine j_istore_n (pc' := 42) (lv' := [(3, .int t0), (0, .ref (a0 0)), (1, .int v1), (2, .int v2), (4, .int v4)]) K dX12_turnParting_41 rfl (by decide) rfl rfl ?_
  refine j_iinc (pc' := 45) (j := 4) (v := (v4 + (1 : Int32))) (lv' := [(4, .int (v4 + (1 : Int32))), (3, .int t0), (0, .ref (a0 0)), (1, .int v1), (2, .int v2)]) K dX12_turnParting_42 rfl rfl (by decide) rfl rfl ?_
  refine j_goto (tgt := 13) K dX12_turnParting_45 (by decide) ?_
  refine j_sub [2, 3, 4, 1, 0] rfl ?_
  exact hk13 v1 v2 t0 (v4 + (1 : Int32)) s0 h
set_option maxRecDepth 100000 in
set_option maxHeartbeats 4000000 in
theorem b_X12_turnParting_13 {E : jE} (a0 : Nat → Nat) {res : Int32 × MS} (K : jC E cX12_turnParting 5 RX12 0) (hrw : jrw E) (HR : jRZ E cX12_turnParting 5 (wM (jg E) a0 (res.2)) (res.1)) (k4 : Int32 → Int32 → MS → Option (Int32 × MS)) (hk4 : ∀ (v1 : Int32) (v2 : Int32) (s0 : MS), k4 v1 v2 s0 = some res → J E 5 (wM (jg E) a0 s0) 4 [(0, .ref (a0 0)), (1, .int v1), (2, .int v2)] []) : ∀ (n : Nat) (v1 : Int32) (v2 : Int32) (v3 : Int32) (v4 : Int32) (s0 : MS), f_X12_turnParting_13 k4 n v1 v2 v3 v4 s0 = some res → J E 5 (wM (jg E) a0 s0) 13 [(0, .ref (a0 0)), (1, .int v1), (2, .int v2), (3, .int v3), (4, .int v4)] [] := by
  intro n
  induction n with
  | zero => intro _ _ _ _ _ h; cases h
  | succ n ih =>
    intro v1 v2 v3 v4 s0 h
    rw [f_X12_turnParting_13] at h
    refine j_iload (pc' := 15) K dX12_turnParting_13 4 rfl rfl ?_
    refine j_iload_n (pc' := 16) K dX12_turnParting_15 rfl 2 rfl rfl ?_
    refine j_icmp_ge (pc' := 19) (tgt := 48) K dX12_turnParting_16 (by decide) rfl (fun hc => ?_) (fun hc => ?_)
    · have h := jit hc h
      refine j_sub [0, 1, 2, 3] rfl ?_
      exact b_X12_turnParting_48 a0 K hrw HR k4 hk4 v1 v2 v3 s0 h
    · have h := jif hc h
      refine j_aload_n (pc' := 20) K dX12_turnParting_19 rfl 0 rfl rfl ?_
      refine j_get (pc' := 23) K dX12_turnParting_20 inX12 0 rfl rfl 13 (by decide) u_4_48 rfl rfl rfl ?_
      refine j_iload (pc' := 25) K dX12_turnParting_23 4 rfl rfl ?_
      obtain ⟨hg, h⟩ := jgd_some h
      refine j_iald (pc' := 26) K dX12_turnParting_25 9 rfl hg rfl ?_
      refine j_iload_n (pc' := 27) K dX12_turnParting_26 rfl 3 rfl rfl ?_
      refine j_icmp_le (pc' := 30) (tgt := 40) K dX12_turnParting_27 (by decide) rfl (fun hc => ?_) (fun hc => ?_)
      · have h := jit hc h
        refine j_iload_n (pc' := 41) K dX12_turnParting_40 rfl 3 rfl rfl ?_
        refine j_sub [0, 1, 2, 4] rfl ?_
        exact b_X12_turnParting_41 a0 K hrw HR k4 (f_X12_turnParting_13 k4 n) hk4 (ih) v1 v2 v4 v3 s0 h
      · have h := jif hc h
        refine j_aload_n (pc' := 31) K dX12_turnParting_30 rfl 0 rfl rfl ?_
        refine j_get (pc' := 34) K dX12_turnParting_31 inX12 0 rfl rfl 13 (by decide) u_4_48 rfl rfl rfl ?_
        refine j_iload (pc' := 36) K dX12_turnParting_34 4 rfl rfl ?_
        obtain ⟨hg, h⟩ := jgd_some h
        refine j_iald (pc' := 37) K dX12_turnParting_36 9 rfl hg rfl ?_
        refine j_goto (tgt := 41) K dX12_turnParting_37 (by decide) ?_
        refine j_sub [0, 1, 2, 4] rfl ?_
        exact b_X12_turnParting_41 a0 K hrw HR k4 (f_X12_turnParting_13 k4 n) hk4 (ih) v1 v2 v4 ((M_digit s0) (Int32.toNatClampNeg v4)) s0 h
set_option maxRecDepth 100000 in
set_option maxHeartbeats 4000000 in
theorem b_X12_turnParting_4 {E : jE} (a0 : Nat → Nat) {res : Int32 × MS} (K : jC E cX12_turnParting 5 RX12 0) (hrw : jrw E) (HR : jRZ E cX12_turnParting 5 (wM (jg E) a0 (res.2)) (res.1)) : ∀ (n : Nat) (v1 : Int32) (v2 : Int32) (s0 : MS), f_X12_turnParting_4 n v1 v2 s0 = some res → J E 5 (wM (jg E) a0 s0) 4 [(0, .ref (a0 0)), (1, .int v1), (2, .int v2)] [] := by
  intro n
  induction n with
  | zero => intro _ _ _ h; cases h
  | succ n ih =>
    intro v1 v2 s0 h
    rw [f_X12_turnParting_4] at h
    refine j_iload_n (pc' := 5) K dX12_turnParting_4 rfl 2 rfl rfl ?_
    refine j_if_le (pc' := 8) (tgt := 101) K dX12_turnParting_5 (by decide) rfl (fun hc => ?_) (fun hc => ?_)
    · have h := jit hc h
      refine j_iconst (pc' := 102) (v := (0 : Int32)) K dX12_turnParting_101 (by decide) rfl ?_
      obtain ⟨hg, h⟩ := jzb_some h
      obtain rfl := Option.some.inj h
      exact HR _ _ hg dX12_turnParting_102
    · have h := jif hc h
      refine j_iconst (pc' := 9) (v := (0 : Int32)) K dX12_turnParting_8 (by decide) rfl ?_
      refine j_istore_n (pc' := 10) (lv' := [(3, .int (0 : Int32)), (0, .ref (a0 0)), (1, .int v1), (2, .int v2)]) K dX12_turnParting_9 rfl (by decide) rfl rfl ?_
      refine j_iconst (pc' := 11) (v := (0 : Int32)) K dX12_turnParting_10 (by decide) rfl ?_
      refine j_istore (pc' := 13) (lv' := [(4, .int (0 : Int32)), (3, .int (0 : Int32)), (0, .ref (a0 0)), (1, .int v1), (2, .int v2)]) K dX12_turnParting_11 (by decide) rfl rfl ?_
      refine j_sub [2, 3, 4, 1, 0] rfl ?_
      exact b_X12_turnParting_13 a0 K hrw HR (f_X12_turnParting_4 n) (ih) jFU v1 v2 (0 : Int32) (0 : Int32) s0 h
set_option maxRecDepth 100000 in
set_option maxHeartbeats 4000000 in
theorem b_X12_turnParting {E : jE} (a0 : Nat → Nat) {res : Int32 × MS} (K : jC E cX12_turnParting 5 RX12 0) (hrw : jrw E) (HR : jRZ E cX12_turnParting 5 (wM (jg E) a0 (res.2)) (res.1)) : ∀ (v1 : Int32) (s0 : MS), f_X12_turnParting v1 s0 = some res → J E 5 (wM (jg E) a0 s0) 0 [(0, .ref (a0 0)), (1, .int v1)] [] := by
  intro v1 s0 h
  unfold f_X12_turnParting at h
  refine j_iload_n (pc' := 1) K dX12_turnParting_0 rfl 1 rfl rfl ?_
  refine j_iconst (pc' := 2) (v := (1 : Int32)) K dX12_turnParting_1 (by decide) rfl ?_
  refine j_isub (pc' := 3) K dX12_turnParting_2 rfl ?_
  refine j_istore_n (pc' := 4) (lv' := [(2, .int (v1 - (1 : Int32))), (0, .ref (a0 0)), (1, .int v1)]) K dX12_turnParting_3 rfl (by decide) rfl rfl ?_
  refine j_sub [1, 2, 0] rfl ?_
  exact b_X12_turnParting_4 a0 K hrw HR jFU v1 (v1 - (1 : Int32)) s0 h
set_option maxRecDepth 100000 in
set_option maxHeartbeats 4000000 in
theorem M_X12_turnParting (l : Launch) (G : jG) (a0 : Nat → Nat) (v1 : Int32) (s0 : MS) {r : Int32 × MS} (h : f_X12_turnParting v1 s0 = some r) : MC l yX12_turnParting cX12_turnParting 5 (some .boolean) 0 G (jad (wM G a0 s0)) True (wM G a0 s0) (wM G a0 (r.2)) [.ref (a0 0), .int v1] (some (.int (r.1))) := by
  refine mc_bool (by decide +kernel) (Nat.le_of_ble_eq_true rfl) fun E hl hg hA hrw K HR => ?_
  subst hl
  subst hg
  have hrw : jrw E := by rw [hrw]; trivial
  exact b_X12_turnParting a0 K hrw HR v1 s0 h
theorem ok_X12_parting : yX12_parting.cls ≠ "java/lang/invoke/MethodHandle" ∧ yX12_parting.cls ≠ "java/lang/invoke/VarHandle" ∧ (parseMethodDescriptor yX12_parting.desc).map (fun d => d.parameters.length) = some 3 := ⟨by decide, by decide, by decide +kernel⟩
def f_X12_parting_89 (v3 : Int32) (v4 : Int32) (s0 : MS) : Option (Int32 × MS) :=
   if v3 = (-1 : Int32) then
   some (v4, s0)
  else
   some ((-4 : Int32), s0)
def f_X12_parting_79 (k50 : Int32 → Int32 → Int32 → Int32 → Int32 → MS → Option (Int32 × MS)) (v1 : Int32) (v2 : Int32) (v3 : Int32) (v4 : Int32) (s0 : MS) : Option (Int32 × MS) :=
   jbd (f_X12_turnParting v1 s0) (fun r81 =>
   k50 v1 v2 v3 v4 (r81.1) (r81.2))
def f_X12_parting_70 (v1 : Int32) (s0 : MS) : Option (Int32 × MS) :=
   jbd (f_X12_packed v1 s0) (fun r72 =>
   some (r72, s0))
def f_X12_parting_50 : Nat → Int32 → Int32 → Int32 → Int32 → Int32 → MS → Option (Int32 × MS)
  | 0, _, _, _, _, _, _ => none
  | n + 1, v1, v2, v3, v4, v5, s0 =>
   if v5 = 0 then
   f_X12_parting_89 v3 v4 s0
  else
   jbd (f_X12_partsOf v1 s0) (fun r57 =>
    if r57 = v2 then
     if v4 = v3 then
      f_X12_parting_70 v1 s0
     else
      f_X12_parting_79 (f_X12_parting_50 n) v1 v2 v3 (v4 + (1 : Int32)) s0
    else
     f_X12_parting_79 (f_X12_parting_50 n) v1 v2 v3 v4 s0)
def f_X12_parting_44 (v1 : Int32) (v2 : Int32) (v3 : Int32) (s0 : MS) : Option (Int32 × MS) :=
   f_X12_parting_50 jFU v1 v2 v3 (0 : Int32) (1 : Int32) s0
def f_X12_parting_24 : Nat → Int32 → Int32 → Int32 → Int32 → MS → Option (Int32 × MS)
  | 0, _, _, _, _, _ => none
  | n + 1, v1, v2, v3, v4, s0 =>
   if v1 ≤ v4 then
   f_X12_parting_44 v1 v2 v3 s0
  else
   jgd v4 8 (
    (f_X12_parting_24 n) v1 v2 v3 (v4 + (1 : Int32)) (M_digit_s s0 (upd (M_digit s0) (Int32.toNatClampNeg v4) (0 : Int32))))
def f_X12_parting (v1 : Int32) (v2 : Int32) (v3 : Int32) (s0 : MS) : Option (Int32 × MS) :=
   jbd (f_X12_isSize v1) (fun r1 =>
   if r1 = 0 then
    some ((-1 : Int32), s0)
   else
    jbd (f_X12_isSize v2) (fun r8 =>
     if r8 = 0 then
      some ((-1 : Int32), s0)
     else
      if (-1 : Int32) ≤ v3 then
       f_X12_parting_24 jFU v1 v2 v3 (0 : Int32) s0
      else
       some ((-1 : Int32), s0)))
set_option maxRecDepth 100000 in
set_option maxHeartbeats 4000000 in
theorem b_X12_parting_89 {E : jE} (a0 : Nat → Nat) {res : Int32 × MS} (K : jC E cX12_parting 6 RX12 2) (hrw : jrw E) (HR : jRI E cX12_parting 6 (wM (jg E) a0 (res.2)) (res.1)) : ∀ (v3 : Int32) (v4 : Int32) (s0 : MS), f_X12_parting_89 v3 v4 s0 = some res → J E 6 (wM (jg E) a0 s0) 89 [(3, .int v3), (4, .int v4)] [] := by
  intro v3 v4 s0 h
  unfold f_X12_parting_89 at h
  refine j_iload_n (pc' := 90) K dX12_parting_89 rfl 0 rfl rfl ?_
  refine j_iconst (pc' := 91) (v := (-1 : Int32)) K dX12_parting_90 (by decide) rfl ?_
  refine j_icmp_ne (pc' := 94) (tgt := 99) K dX12_parting_91 (by decide) rfl (fun hc => ?_) (fun hc => ?_)
  · have h := jif hc h
    refine j_bipush (pc' := 101) (v := (-4 : Int32)) K dX12_parting_99 (by decide) rfl ?_
    obtain rfl := Option.some.inj h
    exact HR _ _ dX12_parting_101
  · have h := jit hc h
    refine j_iload (pc' := 96) K dX12_parting_94 1 rfl rfl ?_
    refine j_goto (tgt := 101) K dX12_parting_96 (by decide) ?_
    obtain rfl := Option.some.inj h
    exact HR _ _ dX12_parting_101
set_option maxRecDepth 100000 in
set_option maxHeartbeats 4000000 in
theorem b_X12_parting_79 {E : jE} (a0 : Nat → Nat) {res : Int32 × MS} (K : jC E cX12_parting 6 RX12 2) (hrw : jrw E) (HR : jRI E cX12_parting 6 (wM (jg E) a0 (res.2)) (res.1)) (k50 : Int32 → Int32 → Int32 → Int32 → Int32 → MS → Option (Int32 × MS)) (hk50 : ∀ (v1 : Int32) (v2 : Int32) (v3 : Int32) (v4 : Int32) (v5 : Int32) (s0 : MS), k50 v1 v2 v3 v4 v5 s0 = some res → J E 6 (wM (jg E) a0 s0) 50 [(0, .ref (a0 0)), (1, .int v1), (2, .int v2), (3, .int v3), (4, .int v4), (5, .int v5)] []) : ∀ (v1 : Int32) (v2 : Int32) (v3 : Int32) (v4 : Int32) (s0 : MS), f_X12_parting_79 k50 v1 v2 v3 v4 s0 = some res → J E 6 (wM (jg E) a0 s0) 79 [(0, .ref (a0 0)), (1, .int v1), (2, .int v2), (3, .int v3), (4, .int v4)] [] := by
  intro v1 v2 v3 v4 s0 h
  unfold f_X12_parting_79 at h
  refine j_aload_n (pc' := 80) K dX12_parting_79 rfl 0 rfl rfl ?_
  refine j_iload_n (pc' := 81) K dX12_parting_80 rfl 1 rfl rfl ?_
  obtain ⟨r81, hr81, h⟩ := jbd_some h
  refine j_rw (pc' := 84) (ws' := (wM (jg E) a0 (r81.2))) K (fun H hP => jrun_V K dX12_parting_81 (M_X12_turnParting (jl E) (jg E) a0 v1 s0 hr81) u_4_221 u_4_218 u_4_220 u_p_29 u_1_13 ⟨ok_X12_turnParting, by decide, by decide⟩ rfl (Nat.le_of_ble_eq_true rfl) 0 rfl rfl H hP) hrw [0, 1, 2, 3, 4, 5, 6, 7, 8, 9, 10, 11, 12, 13, 14, 15, 16] rfl (cl_56_s ..) rfl (cl_56_m ..) (ad_M ..) rfl ?_
  refine j_istore (pc' := 86) (lv' := [(5, .int (r81.1)), (0, .ref (a0 0)), (1, .int v1), (2, .int v2), (3, .int v3), (4, .int v4)]) K dX12_parting_84 (by decide) rfl rfl ?_
  refine j_goto (tgt := 50) K dX12_parting_86 (by decide) ?_
  refine j_sub [1, 2, 3, 4, 5, 0] rfl ?_
  exact hk50 v1 v2 v3 v4 (r81.1) (r81.2) h
set_option maxRecDepth 100000 in
set_option maxHeartbeats 4000000 in
theorem b_X12_parting_70 {E : jE} (a0 : Nat → Nat) {res : Int32 × MS} (K : jC E cX12_parting 6 RX12 2) (hrw : jrw E) (HR : jRI E cX12_parting 6 (wM (jg E) a0 (res.2)) (res.1)) : ∀ (v1 : Int32) (s0 : MS), f_X12_parting_70 v1 s0 = some res → J E 6 (wM (jg E) a0 s0) 70 [(0, .ref (a0 0)), (1, .int v1)] [] := by
  intro v1 s0 h
  unfold f_X12_parting_70 at h
  refine j_aload_n (pc' := 71) K dX12_parting_70 rfl 0 rfl rfl ?_
  refine j_iload_n (pc' := 72) K dX12_parting_71 rfl 1 rfl rfl ?_
  obtain ⟨r72, hr72, h⟩ := jbd_some h
  refine j_ro (pc' := 75) K (fun H hP => jrun_V K dX12_parting_72 (M_X12_packed (jl E) (jg E) a0 v1 s0 hr72) u_4_217 u_4_214 u_4_216 u_p_28 u_1_13 ⟨ok_X12_packed, by decide, by decide⟩ rfl (Nat.le_of_ble_eq_true rfl) 0 rfl rfl H hP) [0, 1, 2, 3, 4, 5, 6, 7, 8, 9, 10, 11, 12, 13, 14, 15, 16] (cl_55_f ..) rfl ?_
  obtain rfl := Option.some.inj h
  exact HR _ _ dX12_parting_75
set_option maxRecDepth 100000 in
set_option maxHeartbeats 4000000 in
theorem b_X12_parting_50 {E : jE} (a0 : Nat → Nat) {res : Int32 × MS} (K : jC E cX12_parting 6 RX12 2) (hrw : jrw E) (HR : jRI E cX12_parting 6 (wM (jg E) a0 (res.2)) (res.1)) : ∀ (n : Nat) (v1 : Int32) (v2 : Int32) (v3 : Int32) (v4 : Int32) (v5 : Int32) (s0 : MS), f_X12_parting_50 n v1 v2 v3 v4 v5 s0 = some res → J E 6 (wM (jg E) a0 s0) 50 [(0, .ref (a0 0)), (1, .int v1), (2, .int v2), (3, .int v3), (4, .int v4), (5, .int v5)] [] := by
  intro n
  induction n with
  | zero => intro _ _ _ _ _ _ h; cases h
  | succ n ih =>
    intro v1 v2 v3 v4 v5 s0 h
    rw [f_X12_parting_50] at h
    refine j_iload (pc' := 52) K dX12_parting_50 5 rfl rfl ?_
    refine j_if_eq (pc' := 55) (tgt := 89) K dX12_parting_52 (by decide) rfl (fun hc => ?_) (fun hc => ?_)
    · have h := jit hc h
      refine j_sub [3, 4] rfl ?_
      exact b_X12_parting_89 a0 K hrw HR v3 v4 s0 h
    · have h := jif hc h
      refine j_aload_n (pc' := 56) K dX12_parting_55 rfl 0 rfl rfl ?_
      refine j_iload_n (pc' := 57) K dX12_parting_56 rfl 1 rfl rfl ?_
      obtain ⟨r57, hr57, h⟩ := jbd_some h
      refine j_ro (pc' := 60) K (fun H hP => jrun_V K dX12_parting_57 (M_X12_partsOf (jl E) (jg E) a0 v1 s0 hr57) u_4_213 u_4_210 u_4_212 u_p_27 u_1_13 ⟨ok_X12_partsOf, by decide, by decide⟩ rfl (Nat.le_of_ble_eq_true rfl) 0 rfl rfl H hP) [0, 1, 2, 3, 4, 5, 6, 7, 8, 9, 10, 11, 12, 13, 14, 15, 16] (cl_55_f ..) rfl ?_
      refine j_iload_n (pc' := 61) K dX12_parting_60 rfl 2 rfl rfl ?_
      refine j_icmp_ne (pc' := 64) (tgt := 79) K dX12_parting_61 (by decide) rfl (fun hc => ?_) (fun hc => ?_)
      · have h := jif hc h
        refine j_sub [0, 1, 2, 3, 4] rfl ?_
        exact b_X12_parting_79 a0 K hrw HR (f_X12_parting_50 n) (ih) v1 v2 v3 v4 s0 h
      · have h := jit hc h
        refine j_iload (pc' := 66) K dX12_parting_64 4 rfl rfl ?_
        refine j_iload_n (pc' := 67) K dX12_parting_66 rfl 3 rfl rfl ?_
        refine j_icmp_ne (pc' := 70) (tgt := 76) K dX12_parting_67 (by decide) rfl (fun hc => ?_) (fun hc => ?_)
        · have h := jif hc h
          refine j_iinc (pc' := 79) (j := 4) (v := (v4 + (1 : Int32))) (lv' := [(4, .int (v4 + (1 : Int32))), (0, .ref (a0 0)), (1, .int v1), (2, .int v2), (3, .int v3), (5, .int v5)]) K dX12_parting_76 rfl rfl (by decide) rfl rfl ?_
          refine j_sub [1, 2, 3, 4, 0] rfl ?_
          exact b_X12_parting_79 a0 K hrw HR (f_X12_parting_50 n) (ih) v1 v2 v3 (v4 + (1 : Int32)) s0 h
        · have h := jit hc h
          refine j_sub [0, 1] rfl ?_
          exact b_X12_parting_70 a0 K hrw HR v1 s0 h
set_option maxRecDepth 100000 in
set_option maxHeartbeats 4000000 in
theorem b_X12_parting_44 {E : jE} (a0 : Nat → Nat) {res : Int32 × MS} (K : jC E cX12_parting 6 RX12 2) (hrw : jrw E) (HR : jRI E cX12_parting 6 (wM (jg E) a0 (res.2)) (res.1)) : ∀ (v1 : Int32) (v2 : Int32) (v3 : Int32) (s0 : MS), f_X12_parting_44 v1 v2 v3 s0 = some res → J E 6 (wM (jg E) a0 s0) 44 [(0, .ref (a0 0)), (1, .int v1), (2, .int v2), (3, .int v3)] [] := by
  intro v1 v2 v3 s0 h
  unfold f_X12_parting_44 at h
  refine j_iconst (pc' := 45) (v := (0 : Int32)) K dX12_parting_44 (by decide) rfl ?_
  refine j_istore (pc' := 47) (lv' := [(4, .int (0 : Int32)), (0, .ref (a0 0)), (1, .int v1), (2, .int v2), (3, .int v3)]) K dX12_parting_45 (by decide) rfl rfl ?_
  refine j_iconst (pc' := 48) (v := (1 : Int32)) K dX12_parting_47 (by decide) rfl ?_
  refine j_istore (pc' := 50) (lv' := [(5, .int (1 : Int32)), (4, .int (0 : Int32)), (0, .ref (a0 0)), (1, .int v1), (2, .int v2), (3, .int v3)]) K dX12_parting_48 (by decide) rfl rfl ?_
  refine j_sub [2, 3, 4, 5, 1, 0] rfl ?_
  exact b_X12_parting_50 a0 K hrw HR jFU v1 v2 v3 (0 : Int32) (1 : Int32) s0 h
set_option maxRecDepth 100000 in
set_option maxHeartbeats 4000000 in
theorem b_X12_parting_24 {E : jE} (a0 : Nat → Nat) {res : Int32 × MS} (K : jC E cX12_parting 6 RX12 2) (hrw : jrw E) (HR : jRI E cX12_parting 6 (wM (jg E) a0 (res.2)) (res.1)) : ∀ (n : Nat) (v1 : Int32) (v2 : Int32) (v3 : Int32) (v4 : Int32) (s0 : MS), f_X12_parting_24 n v1 v2 v3 v4 s0 = some res → J E 6 (wM (jg E) a0 s0) 24 [(0, .ref (a0 0)), (1, .int v1), (2, .int v2), (3, .int v3), (4, .int v4)] [] := by
  intro n
  induction n with
  | zero => intro _ _ _ _ _ h; cases h
  | succ n ih =>
    intro v1 v2 v3 v4 s0 h
    rw [f_X12_parting_24] at h
    refine j_iload (pc' := 26) K dX12_parting_24 4 rfl rfl ?_
    refine j_iload_n (pc' := 27) K dX12_parting_26 rfl 1 rfl rfl ?_
    refine j_icmp_ge (pc' := 30) (tgt := 44) K dX12_parting_27 (by decide) rfl (fun hc => ?_) (fun hc => ?_)
    · have h := jit hc h
      refine j_sub [0, 1, 2, 3] rfl ?_
      exact b_X12_parting_44 a0 K hrw HR v1 v2 v3 s0 h
    · have h := jif hc h
      refine j_aload_n (pc' := 31) K dX12_parting_30 rfl 0 rfl rfl ?_
      refine j_get (pc' := 34) K dX12_parting_31 inX12 0 rfl rfl 13 (by decide) u_4_48 rfl rfl rfl ?_
      refine j_iload (pc' := 36) K dX12_parting_34 4 rfl rfl ?_
      refine j_iconst (pc' := 37) (v := (0 : Int32)) K dX12_parting_36 (by decide) rfl ?_
      obtain ⟨hg, h⟩ := jgd_some h
      refine j_iast (pc' := 38) (ws' := (wM (jg E) a0 (M_digit_s s0 (upd (M_digit s0) (Int32.toNatClampNeg v4) (0 : Int32))))) K dX12_parting_37 hrw 9 rfl hg (st_M_9 ..) rfl ?_
      refine j_iinc (pc' := 41) (j := 4) (v := (v4 + (1 : Int32))) (lv' := [(4, .int (v4 + (1 : Int32))), (0, .ref (a0 0)), (1, .int v1), (2, .int v2), (3, .int v3)]) K dX12_parting_38 rfl rfl (by decide) rfl rfl ?_
      refine j_goto (tgt := 24) K dX12_parting_41 (by decide) ?_
      refine j_sub [1, 2, 3, 4, 0] rfl ?_
      exact ih v1 v2 v3 (v4 + (1 : Int32)) (M_digit_s s0 (upd (M_digit s0) (Int32.toNatClampNeg v4) (0 : Int32))) h
set_option maxRecDepth 100000 in
set_option maxHeartbeats 4000000 in
theorem b_X12_parting {E : jE} (a0 : Nat → Nat) {res : Int32 × MS} (K : jC E cX12_parting 6 RX12 2) (hrw : jrw E) (HR : jRI E cX12_parting 6 (wM (jg E) a0 (res.2)) (res.1)) : ∀ (v1 : Int32) (v2 : Int32) (v3 : Int32) (s0 : MS), f_X12_parting v1 v2 v3 s0 = some res → J E 6 (wM (jg E) a0 s0) 0 [(0, .ref (a0 0)), (1, .int v1), (2, .int v2), (3, .int v3)] [] := by
  intro v1 v2 v3 s0 h
  unfold f_X12_parting at h
  refine j_iload_n (pc' := 1) K dX12_parting_0 rfl 1 rfl rfl ?_
  obtain ⟨r1, hr1, h⟩ := jbd_some h
  refine j_ro (pc' := 4) K (fun H hP => jrun_S K dX12_parting_1 (M_X12_isSize (jl E) (jg E) v1 hr1) u_4_209 u_4_207 u_4_208 u_1_13 ⟨ok_X12_isSize, by decide, by decide⟩ rfl (Nat.le_of_ble_eq_true rfl) H) [] rfl rfl ?_
  refine j_if_eq (pc' := 7) (tgt := 19) K dX12_parting_4 (by decide) rfl (fun hc => ?_) (fun hc => ?_)
  · have h := jit hc h
    refine j_iconst (pc' := 20) (v := (-1 : Int32)) K dX12_parting_19 (by decide) rfl ?_
    obtain rfl := Option.some.inj h
    exact HR _ _ dX12_parting_20
  · have h := jif hc h
    refine j_iload_n (pc' := 8) K dX12_parting_7 rfl 2 rfl rfl ?_
    obtain ⟨r8, hr8, h⟩ := jbd_some h
    refine j_ro (pc' := 11) K (fun H hP => jrun_S K dX12_parting_8 (M_X12_isSize (jl E) (jg E) v2 hr8) u_4_209 u_4_207 u_4_208 u_1_13 ⟨ok_X12_isSize, by decide, by decide⟩ rfl (Nat.le_of_ble_eq_true rfl) H) [] rfl rfl ?_
    refine j_if_eq (pc' := 14) (tgt := 19) K dX12_parting_11 (by decide) rfl (fun hc => ?_) (fun hc => ?_)
    · have h := jit hc h
      refine j_iconst (pc' := 20) (v := (-1 : Int32)) K dX12_parting_19 (by decide) rfl ?_
      obtain rfl := Option.some.inj h
      exact HR _ _ dX12_parting_20
    · have h := jif hc h
      refine j_iload_n (pc' := 15) K dX12_parting_14 rfl 3 rfl rfl ?_
      refine j_iconst (pc' := 16) (v := (-1 : Int32)) K dX12_parting_15 (by decide) rfl ?_
      refine j_icmp_ge (pc' := 19) (tgt := 21) K dX12_parting_16 (by decide) rfl (fun hc => ?_) (fun hc => ?_)
      · have h := jit hc h
        refine j_iconst (pc' := 22) (v := (0 : Int32)) K dX12_parting_21 (by decide) rfl ?_
        refine j_istore (pc' := 24) (lv' := [(4, .int (0 : Int32)), (0, .ref (a0 0)), (1, .int v1), (2, .int v2), (3, .int v3)]) K dX12_parting_22 (by decide) rfl rfl ?_
        refine j_sub [1, 2, 3, 4, 0] rfl ?_
        exact b_X12_parting_24 a0 K hrw HR jFU v1 v2 v3 (0 : Int32) s0 h
      · have h := jif hc h
        refine j_iconst (pc' := 20) (v := (-1 : Int32)) K dX12_parting_19 (by decide) rfl ?_
        obtain rfl := Option.some.inj h
        exact HR _ _ dX12_parting_20
set_option maxRecDepth 100000 in
set_option maxHeartbeats 4000000 in
theorem M_X12_parting (l : Launch) (G : jG) (a0 : Nat → Nat) (v1 : Int32) (v2 : Int32) (v3 : Int32) (s0 : MS) {r : Int32 × MS} (h : f_X12_parting v1 v2 v3 s0 = some r) : MC l yX12_parting cX12_parting 6 (some .int) 2 G (jad (wM G a0 s0)) True (wM G a0 s0) (wM G a0 (r.2)) [.ref (a0 0), .int v1, .int v2, .int v3] (some (.int (r.1))) := by
  refine mc_int (by decide +kernel) (Nat.le_of_ble_eq_true rfl) fun E hl hg hA hrw K HR => ?_
  subst hl
  subst hg
  have hrw : jrw E := by rw [hrw]; trivial
  exact b_X12_parting a0 K hrw HR v1 v2 v3 s0 h
theorem ok_X12_partRank : yX12_partRank.cls ≠ "java/lang/invoke/MethodHandle" ∧ yX12_partRank.cls ≠ "java/lang/invoke/VarHandle" ∧ (parseMethodDescriptor yX12_partRank.desc).map (fun d => d.parameters.length) = some 2 := ⟨by decide, by decide, by decide +kernel⟩
def f_X12_partRank_83 (k58 : Int32 → Int32 → Int32 → Int32 → MS → Option (Int32 × MS)) (v1 : Int32) (v2 : Int32) (v3 : Int32) (t0 : Int32) (t1 : Int32) (s0 : MS) : Option (Int32 × MS) :=
   jbd (f_X12_turnParting v1 s0) (fun r88 =>
   k58 v1 v2 v3 (t0 + t1) (r88.2))
def f_X12_partRank_58 : Nat → Int32 → Int32 → Int32 → Int32 → MS → Option (Int32 × MS)
  | 0, _, _, _, _, _ => none
  | n + 1, v1, v2, v3, v4, s0 =>
   jbd (f_X12_packed v1 s0) (fun r60 =>
   if r60 = v2 then
    some (v4, s0)
   else
    jbd (f_X12_partsOf v1 s0) (fun r71 =>
     if r71 = v3 then
      f_X12_partRank_83 (f_X12_partRank_58 n) v1 v2 v3 v4 (1 : Int32) s0
     else
      f_X12_partRank_83 (f_X12_partRank_58 n) v1 v2 v3 v4 (0 : Int32) s0))
def f_X12_partRank_38 : Nat → Int32 → Int32 → Int32 → Int32 → Int32 → MS → Option (Int32 × MS)
  | 0, _, _, _, _, _, _ => none
  | n + 1, v1, v2, v3, v4, v5, s0 =>
   if v1 ≤ v5 then
   f_X12_partRank_58 jFU v1 v2 v3 v4 s0
  else
   jgd v5 8 (
    (f_X12_partRank_38 n) v1 v2 v3 v4 (v5 + (1 : Int32)) (M_digit_s s0 (upd (M_digit s0) (Int32.toNatClampNeg v5) (0 : Int32))))
def f_X12_partRank (v1 : Int32) (v2 : Int32) (s0 : MS) : Option (Int32 × MS) :=
   jbd (f_X12_isSize v1) (fun r1 =>
   if r1 = 0 then
    some ((-1 : Int32), s0)
   else
    jbd (f_X12_unpack v1 v2 s0) (fun r10 =>
     if (r10.1) = 0 then
      some ((-1 : Int32), (r10.2))
     else
      jbd (f_X12_partsOf v1 (r10.2)) (fun r18 =>
       if r18 = 0 then
        some ((-1 : Int32), (r10.2))
       else
        jbd (f_X12_partsOf v1 (r10.2)) (fun r28 =>
         f_X12_partRank_38 jFU v1 v2 r28 (0 : Int32) (0 : Int32) (r10.2)))))
set_option maxRecDepth 100000 in
set_option maxHeartbeats 4000000 in
theorem b_X12_partRank_83 {E : jE} (a0 : Nat → Nat) {res : Int32 × MS} (K : jC E cX12_partRank 6 RX12 2) (hrw : jrw E) (HR : jRI E cX12_partRank 6 (wM (jg E) a0 (res.2)) (res.1)) (k58 : Int32 → Int32 → Int32 → Int32 → MS → Option (Int32 × MS)) (hk58 : ∀ (v1 : Int32) (v2 : Int32) (v3 : Int32) (v4 : Int32) (s0 : MS), k58 v1 v2 v3 v4 s0 = some res → J E 6 (wM (jg E) a0 s0) 58 [(0, .ref (a0 0)), (1, .int v1), (2, .int v2), (3, .int v3), (4, .int v4)] []) : ∀ (v1 : Int32) (v2 : Int32) (v3 : Int32) (t0 : Int32) (t1 : Int32) (s0 : MS), f_X12_partRank_83 k58 v1 v2 v3 t0 t1 s0 = some res → J E 6 (wM (jg E) a0 s0) 83 [(0, .ref (a0 0)), (1, .int v1), (2, .int v2), (3, .int v3)] [.int t1, .int t0] := by
  intro v1 v2 v3 t0 t1 s0 h
  unfold f_X12_partRank_83 at h
  refine j_iadd (pc' := 84) K dX12_partRank_83 rfl ?_
  refine j_istore (pc' := 86) (lv' := [(4, .int (t0 + t1)), (0, .ref (a0 0)), (1, .int v1), (2, .int v2), (3, .int v3)]) K dX12_partRank_84 (by decide) rfl rfl ?_
  refine j_aload_n (pc' := 87) K dX12_partRank_86 rfl 1 rfl rfl ?_
  refine j_iload_n (pc' := 88) K dX12_partRank_87 rfl 2 rfl rfl ?_
  obtain ⟨r88, hr88, h⟩ := jbd_some h
  refine j_rw (pc' := 91) (ws' := (wM (jg E) a0 (r88.2))) K (fun H hP => jrun_V K dX12_partRank_88 (M_X12_turnParting (jl E) (jg E) a0 v1 s0 hr88) u_4_221 u_4_218 u_4_220 u_p_29 u_1_13 ⟨ok_X12_turnParting, by decide, by decide⟩ rfl (Nat.le_of_ble_eq_true rfl) 0 rfl rfl H hP) hrw [0, 1, 2, 3, 4, 5, 6, 7, 8, 9, 10, 11, 12, 13, 14, 15, 16] rfl (cl_56_s ..) rfl (cl_56_m ..) (ad_M ..) rfl ?_
  refine j_pop (pc' := 92) K dX12_partRank_91 rfl rfl ?_
  refine j_goto (tgt := 58) K dX12_partRank_92 (by decide) ?_
  refine j_sub [1, 2, 3, 4, 0] rfl ?_
  exact hk58 v1 v2 v3 (t0 + t1) (r88.2) h
set_option maxRecDepth 100000 in
set_option maxHeartbeats 4000000 in
theorem b_X12_partRank_58 {E : jE} (a0 : Nat → Nat) {res : Int32 × MS} (K : jC E cX12_partRank 6 RX12 2) (hrw : jrw E) (HR : jRI E cX12_partRank 6 (wM (jg E) a0 (res.2)) (res.1)) : ∀ (n : Nat) (v1 : Int32) (v2 : Int32) (v3 : Int32) (v4 : Int32) (s0 : MS), f_X12_partRank_58 n v1 v2 v3 v4 s0 = some res → J E 6 (wM (jg E) a0 s0) 58 [(0, .ref (a0 0)), (1, .int v1), (2, .int v2), (3, .int v3), (4, .int v4)] [] := by
  intro n
  induction n with
  | zero => intro _ _ _ _ _ h; cases h
  | succ n ih =>
    intro v1 v2 v3 v4 s0 h
    rw [f_X12_partRank_58] at h
    refine j_aload_n (pc' := 59) K dX12_partRank_58 rfl 0 rfl rfl ?_
    refine j_iload_n (pc' := 60) K dX12_partRank_59 rfl 1 rfl rfl ?_
    obtain ⟨r60, hr60, h⟩ := jbd_some h
    refine j_ro (pc' := 63) K (fun H hP => jrun_V K dX12_partRank_60 (M_X12_packed (jl E) (jg E) a0 v1 s0 hr60) u_4_217 u_4_214 u_4_216 u_p_28 u_1_13 ⟨ok_X12_packed, by decide, by decide⟩ rfl (Nat.le_of_ble_eq_true rfl) 0 rfl rfl H hP) [0, 1, 2, 3, 4, 5, 6, 7, 8, 9, 10, 11, 12, 13, 14, 15, 16] (cl_55_f ..) rfl ?_
    refine j_iload_n (pc' := 64) K dX12_partRank_63 rfl 2 rfl rfl ?_
    refine j_icmp_eq (pc' := 67) (tgt := 95) K dX12_partRank_64 (by decide) rfl (fun hc => ?_) (fun hc => ?_)
    · have h := jit hc h
      refine j_iload (pc' := 97) K dX12_partRank_95 4 rfl rfl ?_
      obtain rfl := Option.some.inj h
      exact HR _ _ dX12_partRank_97
    · have h := jif hc h
      refine j_iload (pc' := 69) K dX12_partRank_67 4 rfl rfl ?_
      refine j_aload_n (pc' := 70) K dX12_partRank_69 rfl 0 rfl rfl ?_
      refine j_iload_n (pc' := 71) K dX12_partRank_70 rfl 1 rfl rfl ?_
      obtain ⟨r71, hr71, h⟩ := jbd_some h
      refine j_ro (pc' := 74) K (fun H hP => jrun_V K dX12_partRank_71 (M_X12_partsOf (jl E) (jg E) a0 v1 s0 hr71) u_4_213 u_4_210 u_4_212 u_p_27 u_1_13 ⟨ok_X12_partsOf, by decide, by decide⟩ rfl (Nat.le_of_ble_eq_true rfl) 0 rfl rfl H hP) [0, 1, 2, 3, 4, 5, 6, 7, 8, 9, 10, 11, 12, 13, 14, 15, 16] (cl_55_f ..) rfl ?_
      refine j_iload_n (pc' := 75) K dX12_partRank_74 rfl 3 rfl rfl ?_
      refine j_icmp_ne (pc' := 78) (tgt := 82) K dX12_partRank_75 (by decide) rfl (fun hc => ?_) (fun hc => ?_)
      · have h := jif hc h
        refine j_iconst (pc' := 83) (v := (0 : Int32)) K dX12_partRank_82 (by decide) rfl ?_
        refine j_sub [0, 1, 2, 3] rfl ?_
        exact b_X12_partRank_83 a0 K hrw HR (f_X12_partRank_58 n) (ih) v1 v2 v3 v4 (0 : Int32) s0 h
      · have h := jit hc h
        refine j_iconst (pc' := 79) (v := (1 : Int32)) K dX12_partRank_78 (by decide) rfl ?_
        refine j_goto (tgt := 83) K dX12_partRank_79 (by decide) ?_
        refine j_sub [0, 1, 2, 3] rfl ?_
        exact b_X12_partRank_83 a0 K hrw HR (f_X12_partRank_58 n) (ih) v1 v2 v3 v4 (1 : Int32) s0 h
set_option maxRecDepth 100000 in
set_option maxHeartbeats 4000000 in
theorem b_X12_partRank_38 {E : jE} (a0 : Nat → Nat) {res : Int32 × MS} (K : jC E cX12_partRank 6 RX12 2) (hrw : jrw E) (HR : jRI E cX12_partRank 6 (wM (jg E) a0 (res.2)) (res.1)) : ∀ (n : Nat) (v1 : Int32) (v2 : Int32) (v3 : Int32) (v4 : Int32) (v5 : Int32) (s0 : MS), f_X12_partRank_38 n v1 v2 v3 v4 v5 s0 = some res → J E 6 (wM (jg E) a0 s0) 38 [(0, .ref (a0 0)), (1, .int v1), (2, .int v2), (3, .int v3), (4, .int v4), (5, .int v5)] [] := by
  intro n
  induction n with
  | zero => intro _ _ _ _ _ _ h; cases h
  | succ n ih =>
    intro v1 v2 v3 v4 v5 s0 h
    rw [f_X12_partRank_38] at h
    refine j_iload (pc' := 40) K dX12_partRank_38 5 rfl rfl ?_
    refine j_iload_n (pc' := 41) K dX12_partRank_40 rfl 1 rfl rfl ?_
    refine j_icmp_ge (pc' := 44) (tgt := 58) K dX12_partRank_41 (by decide) rfl (fun hc => ?_) (fun hc => ?_)
    · have h := jit hc h
      refine j_sub [0, 1, 2, 3, 4] rfl ?_
      exact b_X12_partRank_58 a0 K hrw HR jFU v1 v2 v3 v4 s0 h
    · have h := jif hc h
      refine j_aload_n (pc' := 45) K dX12_partRank_44 rfl 0 rfl rfl ?_
      refine j_get (pc' := 48) K dX12_partRank_45 inX12 0 rfl rfl 13 (by decide) u_4_48 rfl rfl rfl ?_
      refine j_iload (pc' := 50) K dX12_partRank_48 5 rfl rfl ?_
      refine j_iconst (pc' := 51) (v := (0 : Int32)) K dX12_partRank_50 (by decide) rfl ?_
      obtain ⟨hg, h⟩ := jgd_some h
      refine j_iast (pc' := 52) (ws' := (wM (jg E) a0 (M_digit_s s0 (upd (M_digit s0) (Int32.toNatClampNeg v5) (0 : Int32))))) K dX12_partRank_51 hrw 9 rfl hg (st_M_9 ..) rfl ?_
      refine j_iinc (pc' := 55) (j := 5) (v := (v5 + (1 : Int32))) (lv' := [(5, .int (v5 + (1 : Int32))), (0, .ref (a0 0)), (1, .int v1), (2, .int v2), (3, .int v3), (4, .int v4)]) K dX12_partRank_52 rfl rfl (by decide) rfl rfl ?_
      refine j_goto (tgt := 38) K dX12_partRank_55 (by decide) ?_
      refine j_sub [1, 2, 3, 4, 5, 0] rfl ?_
      exact ih v1 v2 v3 v4 (v5 + (1 : Int32)) (M_digit_s s0 (upd (M_digit s0) (Int32.toNatClampNeg v5) (0 : Int32))) h
set_option maxRecDepth 100000 in
set_option maxHeartbeats 4000000 in
theorem b_X12_partRank {E : jE} (a0 : Nat → Nat) {res : Int32 × MS} (K : jC E cX12_partRank 6 RX12 2) (hrw : jrw E) (HR : jRI E cX12_partRank 6 (wM (jg E) a0 (res.2)) (res.1)) : ∀ (v1 : Int32) (v2 : Int32) (s0 : MS), f_X12_partRank v1 v2 s0 = some res → J E 6 (wM (jg E) a0 s0) 0 [(0, .ref (a0 0)), (1, .int v1), (2, .int v2)] [] := by
  intro v1 v2 s0 h
  unfold f_X12_partRank at h
  refine j_iload_n (pc' := 1) K dX12_partRank_0 rfl 1 rfl rfl ?_
  obtain ⟨r1, hr1, h⟩ := jbd_some h
  refine j_ro (pc' := 4) K (fun H hP => jrun_S K dX12_partRank_1 (M_X12_isSize (jl E) (jg E) v1 hr1) u_4_209 u_4_207 u_4_208 u_1_13 ⟨ok_X12_isSize, by decide, by decide⟩ rfl (Nat.le_of_ble_eq_true rfl) H) [] rfl rfl ?_
  refine j_if_eq (pc' := 7) (tgt := 24) K dX12_partRank_4 (by decide) rfl (fun hc => ?_) (fun hc => ?_)
  · have h := jit hc h
    refine j_iconst (pc' := 25) (v := (-1 : Int32)) K dX12_partRank_24 (by decide) rfl ?_
    obtain rfl := Option.some.inj h
    exact HR _ _ dX12_partRank_25
  · have h := jif hc h
    refine j_aload_n (pc' := 8) K dX12_partRank_7 rfl 0 rfl rfl ?_
    refine j_iload_n (pc' := 9) K dX12_partRank_8 rfl 1 rfl rfl ?_
    refine j_iload_n (pc' := 10) K dX12_partRank_9 rfl 2 rfl rfl ?_
    obtain ⟨r10, hr10, h⟩ := jbd_some h
    refine j_rw (pc' := 13) (ws' := (wM (jg E) a0 (r10.2))) K (fun H hP => jrun_V K dX12_partRank_10 (M_X12_unpack (jl E) (jg E) a0 v1 v2 s0 hr10) u_4_229 u_4_226 u_4_228 u_p_30 u_1_13 ⟨ok_X12_unpack, by decide, by decide⟩ rfl (Nat.le_of_ble_eq_true rfl) 0 rfl rfl H hP) hrw [0, 1, 2, 3, 4, 5, 6, 7, 8, 9, 10, 11, 12, 13, 14, 15, 16] rfl (cl_56_s ..) rfl (cl_56_m ..) (ad_M ..) rfl ?_
    refine j_if_eq (pc' := 16) (tgt := 24) K dX12_partRank_13 (by decide) rfl (fun hc => ?_) (fun hc => ?_)
    · have h := jit hc h
      refine j_iconst (pc' := 25) (v := (-1 : Int32)) K dX12_partRank_24 (by decide) rfl ?_
      obtain rfl := Option.some.inj h
      exact HR _ _ dX12_partRank_25
    · have h := jif hc h
      refine j_aload_n (pc' := 17) K dX12_partRank_16 rfl 0 rfl rfl ?_
      refine j_iload_n (pc' := 18) K dX12_partRank_17 rfl 1 rfl rfl ?_
      obtain ⟨r18, hr18, h⟩ := jbd_some h
      refine j_ro (pc' := 21) K (fun H hP => jrun_V K dX12_partRank_18 (M_X12_partsOf (jl E) (jg E) a0 v1 (r10.2) hr18) u_4_213 u_4_210 u_4_212 u_p_27 u_1_13 ⟨ok_X12_partsOf, by decide, by decide⟩ rfl (Nat.le_of_ble_eq_true rfl) 0 rfl rfl H hP) [0, 1, 2, 3, 4, 5, 6, 7, 8, 9, 10, 11, 12, 13, 14, 15, 16] (cl_55_f ..) rfl ?_
      refine j_if_ne (pc' := 24) (tgt := 26) K dX12_partRank_21 (by decide) rfl (fun hc => ?_) (fun hc => ?_)
      · have h := jif hc h
        refine j_aload_n (pc' := 27) K dX12_partRank_26 rfl 0 rfl rfl ?_
        refine j_iload_n (pc' := 28) K dX12_partRank_27 rfl 1 rfl rfl ?_
        obtain ⟨r28, hr28, h⟩ := jbd_some h
        refine j_ro (pc' := 31) K (fun H hP => jrun_V K dX12_partRank_28 (M_X12_partsOf (jl E) (jg E) a0 v1 (r10.2) hr28) u_4_213 u_4_210 u_4_212 u_p_27 u_1_13 ⟨ok_X12_partsOf, by decide, by decide⟩ rfl (Nat.le_of_ble_eq_true rfl) 0 rfl rfl H hP) [0, 1, 2, 3, 4, 5, 6, 7, 8, 9, 10, 11, 12, 13, 14, 15, 16] (cl_55_f ..) rfl ?_
        refine j_istore_n (pc' := 32) (lv' := [(3, .int r28), (0, .ref (a0 0)), (1, .int v1), (2, .int v2)]) K dX12_partRank_31 rfl (by decide) rfl rfl ?_
        refine j_iconst (pc' := 33) (v := (0 : Int32)) K dX12_partRank_32 (by decide) rfl ?_
        refine j_istore (pc' := 35) (lv' := [(4, .int (0 : Int32)), (3, .int r28), (0, .ref (a0 0)), (1, .int v1), (2, .int v2)]) K dX12_partRank_33 (by decide) rfl rfl ?_
        refine j_iconst (pc' := 36) (v := (0 : Int32)) K dX12_partRank_35 (by decide) rfl ?_
        refine j_istore (pc' := 38) (lv' := [(5, .int (0 : Int32)), (4, .int (0 : Int32)), (3, .int r28), (0, .ref (a0 0)), (1, .int v1), (2, .int v2)]) K dX12_partRank_36 (by decide) rfl rfl ?_
        refine j_sub [3, 4, 5, 2, 1, 0] rfl ?_
        exact b_X12_partRank_38 a0 K hrw HR jFU v1 v2 r28 (0 : Int32) (0 : Int32) (r10.2) h
      · have h := jit hc h
        refine j_iconst (pc' := 25) (v := (-1 : Int32)) K dX12_partRank_24 (by decide) rfl ?_
        obtain rfl := Option.some.inj h
        exact HR _ _ dX12_partRank_25
set_option maxRecDepth 100000 in
set_option maxHeartbeats 4000000 in
theorem M_X12_partRank (l : Launch) (G : jG) (a0 : Nat → Nat) (v1 : Int32) (v2 : Int32) (s0 : MS) {r : Int32 × MS} (h : f_X12_partRank v1 v2 s0 = some r) : MC l yX12_partRank cX12_partRank 6 (some .int) 2 G (jad (wM G a0 s0)) True (wM G a0 s0) (wM G a0 (r.2)) [.ref (a0 0), .int v1, .int v2] (some (.int (r.1))) := by
  refine mc_int (by decide +kernel) (Nat.le_of_ble_eq_true rfl) fun E hl hg hA hrw K HR => ?_
  subst hl
  subst hg
  have hrw : jrw E := by rw [hrw]; trivial
  exact b_X12_partRank a0 K hrw HR v1 v2 s0 h
theorem ok_X12_isOrder : yX12_isOrder.cls ≠ "java/lang/invoke/MethodHandle" ∧ yX12_isOrder.cls ≠ "java/lang/invoke/VarHandle" ∧ (parseMethodDescriptor yX12_isOrder.desc).map (fun d => d.parameters.length) = some 1 := ⟨by decide, by decide, by decide +kernel⟩
def f_X12_isOrder_40 (v1 : Int32) (v2 : Int32) (s0 : MS) : Option (Int32) :=
   if v2 = (((1 : Int32) <<< (v1 &&& 31)) - (1 : Int32)) then
   jzb (1 : Int32) (
    some (1 : Int32))
  else
   jzb (0 : Int32) (
    some (0 : Int32))
def f_X12_isOrder_32 (k4 : Int32 → Int32 → Int32 → MS → Option (Int32)) (v1 : Int32) (v3 : Int32) (t0 : Int32) (t1 : Int32) (s0 : MS) : Option (Int32) :=
   k4 v1 (t0 ||| t1) (v3 + (1 : Int32)) s0
def f_X12_isOrder_4 : Nat → Int32 → Int32 → Int32 → MS → Option (Int32)
  | 0, _, _, _, _ => none
  | n + 1, v1, v2, v3, s0 =>
   if v1 ≤ v3 then
   f_X12_isOrder_40 v1 v2 s0
  else
   jgd v3 8 (
    if v1 ≤ ((M_digit s0) (Int32.toNatClampNeg v3)) then
     f_X12_isOrder_32 (f_X12_isOrder_4 n) v1 v3 v2 (0 : Int32) s0
    else
     jgd v3 8 (
      f_X12_isOrder_32 (f_X12_isOrder_4 n) v1 v3 v2 ((1 : Int32) <<< (((M_digit s0) (Int32.toNatClampNeg v3)) &&& 31)) s0))
def f_X12_isOrder (v1 : Int32) (s0 : MS) : Option (Int32) :=
   f_X12_isOrder_4 jFU v1 (0 : Int32) (0 : Int32) s0
set_option maxRecDepth 100000 in
set_option maxHeartbeats 4000000 in
theorem b_X12_isOrder_40 {E : jE} (a0 : Nat → Nat) (s0 : MS) {res : Int32} (K : jC E cX12_isOrder 4 RX12 0) (HR : jRZ E cX12_isOrder 4 (wM (jg E) a0 s0) res) : ∀ (v1 : Int32) (v2 : Int32), f_X12_isOrder_40 v1 v2 s0 = some res → J E 4 (wM (jg E) a0 s0) 40 [(1, .int v1), (2, .int v2)] [] := by
  intro v1 v2 h
  unfold f_X12_isOrder_40 at h
  refine j_iload_n (pc' := 41) K dX12_isOrder_40 rfl 1 rfl rfl ?_
  refine j_iconst (pc' := 42) (v := (1 : Int32)) K dX12_isOrder_41 (by decide) rfl ?_
  refine j_iload_n (pc' := 43) K dX12_isOrder_42 rfl 0 rfl rfl ?_
  refine j_ishl (pc' := 44) K dX12_isOrder_43 rfl ?_
  refine j_iconst (pc' := 45) (v := (1 : Int32)) K dX12_isOrder_44 (by decide) rfl ?_
  refine j_isub (pc' := 46) K dX12_isOrder_45 rfl ?_
  refine j_icmp_ne (pc' := 49) (tgt := 53) K dX12_isOrder_46 (by decide) rfl (fun hc => ?_) (fun hc => ?_)
  · have h := jif hc h
    refine j_iconst (pc' := 54) (v := (0 : Int32)) K dX12_isOrder_53 (by decide) rfl ?_
    obtain ⟨hg, h⟩ := jzb_some h
    obtain rfl := Option.some.inj h
    exact HR _ _ hg dX12_isOrder_54
  · have h := jit hc h
    refine j_iconst (pc' := 50) (v := (1 : Int32)) K dX12_isOrder_49 (by decide) rfl ?_
    refine j_goto (tgt := 54) K dX12_isOrder_50 (by decide) ?_
    obtain ⟨hg, h⟩ := jzb_some h
    obtain rfl := Option.some.inj h
    exact HR _ _ hg dX12_isOrder_54
set_option maxRecDepth 100000 in
set_option maxHeartbeats 4000000 in
theorem b_X12_isOrder_32 {E : jE} (a0 : Nat → Nat) (s0 : MS) {res : Int32} (K : jC E cX12_isOrder 4 RX12 0) (HR : jRZ E cX12_isOrder 4 (wM (jg E) a0 s0) res) (k4 : Int32 → Int32 → Int32 → MS → Option (Int32)) (hk4 : ∀ (v1 : Int32) (v2 : Int32) (v3 : Int32), k4 v1 v2 v3 s0 = some res → J E 4 (wM (jg E) a0 s0) 4 [(0, .ref (a0 0)), (1, .int v1), (2, .int v2), (3, .int v3)] []) : ∀ (v1 : Int32) (v3 : Int32) (t0 : Int32) (t1 : Int32), f_X12_isOrder_32 k4 v1 v3 t0 t1 s0 = some res → J E 4 (wM (jg E) a0 s0) 32 [(0, .ref (a0 0)), (1, .int v1), (3, .int v3)] [.int t1, .int t0] := by
  intro v1 v3 t0 t1 h
  unfold f_X12_isOrder_32 at h
  refine j_ior (pc' := 33) K dX12_isOrder_32 rfl ?_
  refine j_istore_n (pc' := 34) (lv' := [(2, .int (t0 ||| t1)), (0, .ref (a0 0)), (1, .int v1), (3, .int v3)]) K dX12_isOrder_33 rfl (by decide) rfl rfl ?_
  refine j_iinc (pc' := 37) (j := 3) (v := (v3 + (1 : Int32))) (lv' := [(3, .int (v3 + (1 : Int32))), (2, .int (t0 ||| t1)), (0, .ref (a0 0)), (1, .int v1)]) K dX12_isOrder_34 rfl rfl (by decide) rfl rfl ?_
  refine j_goto (tgt := 4) K dX12_isOrder_37 (by decide) ?_
  refine j_sub [2, 3, 1, 0] rfl ?_
  exact hk4 v1 (t0 ||| t1) (v3 + (1 : Int32)) h
set_option maxRecDepth 100000 in
set_option maxHeartbeats 4000000 in
theorem b_X12_isOrder_4 {E : jE} (a0 : Nat → Nat) (s0 : MS) {res : Int32} (K : jC E cX12_isOrder 4 RX12 0) (HR : jRZ E cX12_isOrder 4 (wM (jg E) a0 s0) res) : ∀ (n : Nat) (v1 : Int32) (v2 : Int32) (v3 : Int32), f_X12_isOrder_4 n v1 v2 v3 s0 = some res → J E 4 (wM (jg E) a0 s0) 4 [(0, .ref (a0 0)), (1, .int v1), (2, .int v2), (3, .int v3)] [] := by
  intro n
  induction n with
  | zero => intro _ _ _ h; cases h
  | succ n ih =>
    intro v1 v2 v3 h
    rw [f_X12_isOrder_4] at h
    refine j_iload_n (pc' := 5) K dX12_isOrder_4 rfl 3 rfl rfl ?_
    refine j_iload_n (pc' := 6) K dX12_isOrder_5 rfl 1 rfl rfl ?_
    refine j_icmp_ge (pc' := 9) (tgt := 40) K dX12_isOrder_6 (by decide) rfl (fun hc => ?_) (fun hc => ?_)
    · have h := jit hc h
      refine j_sub [1, 2] rfl ?_
      exact b_X12_isOrder_40 a0 s0 K HR v1 v2 h
    · have h := jif hc h
      refine j_iload_n (pc' := 10) K dX12_isOrder_9 rfl 2 rfl rfl ?_
      refine j_aload_n (pc' := 11) K dX12_isOrder_10 rfl 0 rfl rfl ?_
      refine j_get (pc' := 14) K dX12_isOrder_11 inX12 0 rfl rfl 13 (by decide) u_4_48 rfl rfl rfl ?_
      refine j_iload_n (pc' := 15) K dX12_isOrder_14 rfl 3 rfl rfl ?_
      obtain ⟨hg, h⟩ := jgd_some h
      refine j_iald (pc' := 16) K dX12_isOrder_15 9 rfl hg rfl ?_
      refine j_iload_n (pc' := 17) K dX12_isOrder_16 rfl 1 rfl rfl ?_
      refine j_icmp_ge (pc' := 20) (tgt := 31) K dX12_isOrder_17 (by decide) rfl (fun hc => ?_) (fun hc => ?_)
      · have h := jit hc h
        refine j_iconst (pc' := 32) (v := (0 : Int32)) K dX12_isOrder_31 (by decide) rfl ?_
        refine j_sub [0, 1, 3] rfl ?_
        exact b_X12_isOrder_32 a0 s0 K HR (f_X12_isOrder_4 n) (ih) v1 v3 v2 (0 : Int32) h
      · have h := jif hc h
        refine j_iconst (pc' := 21) (v := (1 : Int32)) K dX12_isOrder_20 (by decide) rfl ?_
        refine j_aload_n (pc' := 22) K dX12_isOrder_21 rfl 0 rfl rfl ?_
        refine j_get (pc' := 25) K dX12_isOrder_22 inX12 0 rfl rfl 13 (by decide) u_4_48 rfl rfl rfl ?_
        refine j_iload_n (pc' := 26) K dX12_isOrder_25 rfl 3 rfl rfl ?_
        obtain ⟨hg, h⟩ := jgd_some h
        refine j_iald (pc' := 27) K dX12_isOrder_26 9 rfl hg rfl ?_
        refine j_ishl (pc' := 28) K dX12_isOrder_27 rfl ?_
        refine j_goto (tgt := 32) K dX12_isOrder_28 (by decide) ?_
        refine j_sub [0, 1, 3] rfl ?_
        exact b_X12_isOrder_32 a0 s0 K HR (f_X12_isOrder_4 n) (ih) v1 v3 v2 ((1 : Int32) <<< (((M_digit s0) (Int32.toNatClampNeg v3)) &&& 31)) h
set_option maxRecDepth 100000 in
set_option maxHeartbeats 4000000 in
theorem b_X12_isOrder {E : jE} (a0 : Nat → Nat) (s0 : MS) {res : Int32} (K : jC E cX12_isOrder 4 RX12 0) (HR : jRZ E cX12_isOrder 4 (wM (jg E) a0 s0) res) : ∀ (v1 : Int32), f_X12_isOrder v1 s0 = some res → J E 4 (wM (jg E) a0 s0) 0 [(0, .ref (a0 0)), (1, .int v1)] [] := by
  intro v1 h
  unfold f_X12_isOrder at h
  refine j_iconst (pc' := 1) (v := (0 : Int32)) K dX12_isOrder_0 (by decide) rfl ?_
  refine j_istore_n (pc' := 2) (lv' := [(2, .int (0 : Int32)), (0, .ref (a0 0)), (1, .int v1)]) K dX12_isOrder_1 rfl (by decide) rfl rfl ?_
  refine j_iconst (pc' := 3) (v := (0 : Int32)) K dX12_isOrder_2 (by decide) rfl ?_
  refine j_istore_n (pc' := 4) (lv' := [(3, .int (0 : Int32)), (2, .int (0 : Int32)), (0, .ref (a0 0)), (1, .int v1)]) K dX12_isOrder_3 rfl (by decide) rfl rfl ?_
  refine j_sub [2, 3, 1, 0] rfl ?_
  exact b_X12_isOrder_4 a0 s0 K HR jFU v1 (0 : Int32) (0 : Int32) h
set_option maxRecDepth 100000 in
set_option maxHeartbeats 4000000 in
theorem M_X12_isOrder (l : Launch) (G : jG) (a0 : Nat → Nat) (v1 : Int32) (s0 : MS) {r : Int32} (h : f_X12_isOrder v1 s0 = some r) : MC l yX12_isOrder cX12_isOrder 4 (some .boolean) 0 G jNo False (wM G a0 s0) (wM G a0 s0) [.ref (a0 0), .int v1] (some (.int r)) := by
  refine mc_bool (by decide +kernel) (Nat.le_of_ble_eq_true rfl) fun E hl hg hA hrw K HR => ?_
  subst hl
  subst hg
  exact b_X12_isOrder a0 s0 K HR v1 h
theorem ok_X12_takeOrder : yX12_takeOrder.cls ≠ "java/lang/invoke/MethodHandle" ∧ yX12_takeOrder.cls ≠ "java/lang/invoke/VarHandle" ∧ (parseMethodDescriptor yX12_takeOrder.desc).map (fun d => d.parameters.length) = some 2 := ⟨by decide, by decide, by decide +kernel⟩
def f_X12_takeOrder (v1 : Int32) (v2 : Int32) (s0 : MS) : Option (Int32 × MS) :=
   jbd (f_X12_isSize v1) (fun r1 =>
   if r1 = 0 then
    jzb (0 : Int32) (
     some ((0 : Int32), s0))
   else
    jbd (f_X12_unpack v1 v2 s0) (fun r10 =>
     if (r10.1) = 0 then
      jzb (0 : Int32) (
       some ((0 : Int32), (r10.2)))
     else
      jbd (f_X12_isOrder v1 (r10.2)) (fun r18 =>
       if r18 = 0 then
        jzb (0 : Int32) (
         some ((0 : Int32), (r10.2)))
       else
        jzb (1 : Int32) (
         some ((1 : Int32), (r10.2))))))
set_option maxRecDepth 100000 in
set_option maxHeartbeats 4000000 in
theorem b_X12_takeOrder {E : jE} (a0 : Nat → Nat) {res : Int32 × MS} (K : jC E cX12_takeOrder 3 RX12 2) (hrw : jrw E) (HR : jRZ E cX12_takeOrder 3 (wM (jg E) a0 (res.2)) (res.1)) : ∀ (v1 : Int32) (v2 : Int32) (s0 : MS), f_X12_takeOrder v1 v2 s0 = some res → J E 3 (wM (jg E) a0 s0) 0 [(0, .ref (a0 0)), (1, .int v1), (2, .int v2)] [] := by
  intro v1 v2 s0 h
  unfold f_X12_takeOrder at h
  refine j_iload_n (pc' := 1) K dX12_takeOrder_0 rfl 1 rfl rfl ?_
  obtain ⟨r1, hr1, h⟩ := jbd_some h
  refine j_ro (pc' := 4) K (fun H hP => jrun_S K dX12_takeOrder_1 (M_X12_isSize (jl E) (jg E) v1 hr1) u_4_209 u_4_207 u_4_208 u_1_13 ⟨ok_X12_isSize, by decide, by decide⟩ rfl (Nat.le_of_ble_eq_true rfl) H) [] rfl rfl ?_
  refine j_if_eq (pc' := 7) (tgt := 28) K dX12_takeOrder_4 (by decide) rfl (fun hc => ?_) (fun hc => ?_)
  · have h := jit hc h
    refine j_iconst (pc' := 29) (v := (0 : Int32)) K dX12_takeOrder_28 (by decide) rfl ?_
    obtain ⟨hg, h⟩ := jzb_some h
    obtain rfl := Option.some.inj h
    exact HR _ _ hg dX12_takeOrder_29
  · have h := jif hc h
    refine j_aload_n (pc' := 8) K dX12_takeOrder_7 rfl 0 rfl rfl ?_
    refine j_iload_n (pc' := 9) K dX12_takeOrder_8 rfl 1 rfl rfl ?_
    refine j_iload_n (pc' := 10) K dX12_takeOrder_9 rfl 2 rfl rfl ?_
    obtain ⟨r10, hr10, h⟩ := jbd_some h
    refine j_rw (pc' := 13) (ws' := (wM (jg E) a0 (r10.2))) K (fun H hP => jrun_V K dX12_takeOrder_10 (M_X12_unpack (jl E) (jg E) a0 v1 v2 s0 hr10) u_4_229 u_4_226 u_4_228 u_p_30 u_1_13 ⟨ok_X12_unpack, by decide, by decide⟩ rfl (Nat.le_of_ble_eq_true rfl) 0 rfl rfl H hP) hrw [0, 1, 2, 3, 4, 5, 6, 7, 8, 9, 10, 11, 12, 13, 14, 15, 16] rfl (cl_56_s ..) rfl (cl_56_m ..) (ad_M ..) rfl ?_
    refine j_if_eq (pc' := 16) (tgt := 28) K dX12_takeOrder_13 (by decide) rfl (fun hc => ?_) (fun hc => ?_)
    · have h := jit hc h
      refine j_iconst (pc' := 29) (v := (0 : Int32)) K dX12_takeOrder_28 (by decide) rfl ?_
      obtain ⟨hg, h⟩ := jzb_some h
      obtain rfl := Option.some.inj h
      exact HR _ _ hg dX12_takeOrder_29
    · have h := jif hc h
      refine j_aload_n (pc' := 17) K dX12_takeOrder_16 rfl 0 rfl rfl ?_
      refine j_iload_n (pc' := 18) K dX12_takeOrder_17 rfl 1 rfl rfl ?_
      obtain ⟨r18, hr18, h⟩ := jbd_some h
      refine j_ro (pc' := 21) K (fun H hP => jrun_V K dX12_takeOrder_18 (M_X12_isOrder (jl E) (jg E) a0 v1 (r10.2) hr18) u_5_23 u_5_20 u_5_22 u_p_36 u_1_13 ⟨ok_X12_isOrder, by decide, by decide⟩ rfl (Nat.le_of_ble_eq_true rfl) 0 rfl rfl H hP) [0, 1, 2, 3, 4, 5, 6, 7, 8, 9, 10, 11, 12, 13, 14, 15, 16] (cl_55_f ..) rfl ?_
      refine j_if_eq (pc' := 24) (tgt := 28) K dX12_takeOrder_21 (by decide) rfl (fun hc => ?_) (fun hc => ?_)
      · have h := jit hc h
        refine j_iconst (pc' := 29) (v := (0 : Int32)) K dX12_takeOrder_28 (by decide) rfl ?_
        obtain ⟨hg, h⟩ := jzb_some h
        obtain rfl := Option.some.inj h
        exact HR _ _ hg dX12_takeOrder_29
      · have h := jif hc h
        refine j_iconst (pc' := 25) (v := (1 : Int32)) K dX12_takeOrder_24 (by decide) rfl ?_
        refine j_goto (tgt := 29) K dX12_takeOrder_25 (by decide) ?_
        obtain ⟨hg, h⟩ := jzb_some h
        obtain rfl := Option.some.inj h
        exact HR _ _ hg dX12_takeOrder_29
set_option maxRecDepth 100000 in
set_option maxHeartbeats 4000000 in
theorem M_X12_takeOrder (l : Launch) (G : jG) (a0 : Nat → Nat) (v1 : Int32) (v2 : Int32) (s0 : MS) {r : Int32 × MS} (h : f_X12_takeOrder v1 v2 s0 = some r) : MC l yX12_takeOrder cX12_takeOrder 3 (some .boolean) 2 G (jad (wM G a0 s0)) True (wM G a0 s0) (wM G a0 (r.2)) [.ref (a0 0), .int v1, .int v2] (some (.int (r.1))) := by
  refine mc_bool (by decide +kernel) (Nat.le_of_ble_eq_true rfl) fun E hl hg hA hrw K HR => ?_
  subst hl
  subst hg
  have hrw : jrw E := by rw [hrw]; trivial
  exact b_X12_takeOrder a0 K hrw HR v1 v2 s0 h
theorem ok_X12_beginOrder : yX12_beginOrder.cls ≠ "java/lang/invoke/MethodHandle" ∧ yX12_beginOrder.cls ≠ "java/lang/invoke/VarHandle" ∧ (parseMethodDescriptor yX12_beginOrder.desc).map (fun d => d.parameters.length) = some 1 := ⟨by decide, by decide, by decide +kernel⟩
def f_X12_beginOrder_2 : Nat → Int32 → Int32 → MS → Option (MS)
  | 0, _, _, _ => none
  | n + 1, v1, v2, s0 =>
   if v1 ≤ v2 then
   some s0
  else
   jgd v2 8 (
    (f_X12_beginOrder_2 n) v1 (v2 + (1 : Int32)) (M_digit_s s0 (upd (M_digit s0) (Int32.toNatClampNeg v2) v2)))
def f_X12_beginOrder (v1 : Int32) (s0 : MS) : Option (MS) :=
   f_X12_beginOrder_2 jFU v1 (0 : Int32) s0
set_option maxRecDepth 100000 in
set_option maxHeartbeats 4000000 in
theorem b_X12_beginOrder_2 {E : jE} (a0 : Nat → Nat) {res : MS} (K : jC E cX12_beginOrder 3 RX12 0) (hrw : jrw E) (HR : jRV E cX12_beginOrder 3 (wM (jg E) a0 res)) : ∀ (n : Nat) (v1 : Int32) (v2 : Int32) (s0 : MS), f_X12_beginOrder_2 n v1 v2 s0 = some res → J E 3 (wM (jg E) a0 s0) 2 [(0, .ref (a0 0)), (1, .int v1), (2, .int v2)] [] := by
  intro n
  induction n with
  | zero => intro _ _ _ h; cases h
  | succ n ih =>
    intro v1 v2 s0 h
    rw [f_X12_beginOrder_2] at h
    refine j_iload_n (pc' := 3) K dX12_beginOrder_2 rfl 2 rfl rfl ?_
    refine j_iload_n (pc' := 4) K dX12_beginOrder_3 rfl 1 rfl rfl ?_
    refine j_icmp_ge (pc' := 7) (tgt := 20) K dX12_beginOrder_4 (by decide) rfl (fun hc => ?_) (fun hc => ?_)
    · have h := jit hc h
      obtain rfl := Option.some.inj h
      exact HR _ _ dX12_beginOrder_20
    · have h := jif hc h
      refine j_aload_n (pc' := 8) K dX12_beginOrder_7 rfl 0 rfl rfl ?_
      refine j_get (pc' := 11) K dX12_beginOrder_8 inX12 0 rfl rfl 13 (by decide) u_4_48 rfl rfl rfl ?_
      refine j_iload_n (pc' := 12) K dX12_beginOrder_11 rfl 2 rfl rfl ?_
      refine j_iload_n (pc' := 13) K dX12_beginOrder_12 rfl 2 rfl rfl ?_
      obtain ⟨hg, h⟩ := jgd_some h
      refine j_iast (pc' := 14) (ws' := (wM (jg E) a0 (M_digit_s s0 (upd (M_digit s0) (Int32.toNatClampNeg v2) v2)))) K dX12_beginOrder_13 hrw 9 rfl hg (st_M_9 ..) rfl ?_
      refine j_iinc (pc' := 17) (j := 2) (v := (v2 + (1 : Int32))) (lv' := [(2, .int (v2 + (1 : Int32))), (0, .ref (a0 0)), (1, .int v1)]) K dX12_beginOrder_14 rfl rfl (by decide) rfl rfl ?_
      refine j_goto (tgt := 2) K dX12_beginOrder_17 (by decide) ?_
      refine j_sub [1, 2, 0] rfl ?_
      exact ih v1 (v2 + (1 : Int32)) (M_digit_s s0 (upd (M_digit s0) (Int32.toNatClampNeg v2) v2)) h
set_option maxRecDepth 100000 in
set_option maxHeartbeats 4000000 in
theorem b_X12_beginOrder {E : jE} (a0 : Nat → Nat) {res : MS} (K : jC E cX12_beginOrder 3 RX12 0) (hrw : jrw E) (HR : jRV E cX12_beginOrder 3 (wM (jg E) a0 res)) : ∀ (v1 : Int32) (s0 : MS), f_X12_beginOrder v1 s0 = some res → J E 3 (wM (jg E) a0 s0) 0 [(0, .ref (a0 0)), (1, .int v1)] [] := by
  intro v1 s0 h
  unfold f_X12_beginOrder at h
  refine j_iconst (pc' := 1) (v := (0 : Int32)) K dX12_beginOrder_0 (by decide) rfl ?_
  refine j_istore_n (pc' := 2) (lv' := [(2, .int (0 : Int32)), (0, .ref (a0 0)), (1, .int v1)]) K dX12_beginOrder_1 rfl (by decide) rfl rfl ?_
  refine j_sub [1, 2, 0] rfl ?_
  exact b_X12_beginOrder_2 a0 K hrw HR jFU v1 (0 : Int32) s0 h
set_option maxRecDepth 100000 in
set_option maxHeartbeats 4000000 in
theorem M_X12_beginOrder (l : Launch) (G : jG) (a0 : Nat → Nat) (v1 : Int32) (s0 : MS) {r : MS} (h : f_X12_beginOrder v1 s0 = some r) : MC l yX12_beginOrder cX12_beginOrder 3 none 0 G (jad (wM G a0 s0)) True (wM G a0 s0) (wM G a0 r) [.ref (a0 0), .int v1] none := by
  refine mc_void (by decide +kernel) (Nat.le_of_ble_eq_true rfl) fun E hl hg hA hrw K HR => ?_
  subst hl
  subst hg
  have hrw : jrw E := by rw [hrw]; trivial
  exact b_X12_beginOrder a0 K hrw HR v1 s0 h
theorem ok_X12_turnOrder : yX12_turnOrder.cls ≠ "java/lang/invoke/MethodHandle" ∧ yX12_turnOrder.cls ≠ "java/lang/invoke/VarHandle" ∧ (parseMethodDescriptor yX12_turnOrder.desc).map (fun d => d.parameters.length) = some 1 := ⟨by decide, by decide, by decide +kernel⟩
def f_X12_turnOrder_100 : Nat → Int32 → Int32 → MS → Option (Int32 × MS)
  | 0, _, _, _ => none
  | n + 1, v5, v6, s0 =>
   if v6 ≤ v5 then
   jzb (1 : Int32) (
    some ((1 : Int32), s0))
  else
   jgd v5 8 (
    jgd v6 8 (
     jgd v5 8 (
      jgd v6 8 (
       (f_X12_turnOrder_100 n) (v5 + (1 : Int32)) (v6 + (-1 : Int32)) (M_digit_s (M_digit_s s0 (upd (M_digit s0) (Int32.toNatClampNeg v5) ((M_digit s0) (Int32.toNatClampNeg v6)))) (upd (M_digit (M_digit_s s0 (upd (M_digit s0) (Int32.toNatClampNeg v5) ((M_digit s0) (Int32.toNatClampNeg v6))))) (Int32.toNatClampNeg v6) ((M_digit s0) (Int32.toNatClampNeg v5))))))))
def f_X12_turnOrder_62 (v1 : Int32) (v2 : Int32) (v3 : Int32) (s0 : MS) : Option (Int32 × MS) :=
   jgd v2 8 (
   jgd v3 8 (
    jgd v2 8 (
     jgd v3 8 (
      f_X12_turnOrder_100 jFU (v2 + (1 : Int32)) (v1 - (1 : Int32)) (M_digit_s (M_digit_s s0 (upd (M_digit s0) (Int32.toNatClampNeg v2) ((M_digit s0) (Int32.toNatClampNeg v3)))) (upd (M_digit (M_digit_s s0 (upd (M_digit s0) (Int32.toNatClampNeg v2) ((M_digit s0) (Int32.toNatClampNeg v3))))) (Int32.toNatClampNeg v3) ((M_digit s0) (Int32.toNatClampNeg v2))))))))
def f_X12_turnOrder_41 : Nat → Int32 → Int32 → Int32 → MS → Option (Int32 × MS)
  | 0, _, _, _, _ => none
  | n + 1, v1, v2, v3, s0 =>
   jgd v3 8 (
   jgd v2 8 (
    if ((M_digit s0) (Int32.toNatClampNeg v2)) ≤ ((M_digit s0) (Int32.toNatClampNeg v3)) then
     f_X12_turnOrder_62 v1 v2 v3 s0
    else
     (f_X12_turnOrder_41 n) v1 v2 (v3 + (-1 : Int32)) s0))
def f_X12_turnOrder_31 (v1 : Int32) (v2 : Int32) (s0 : MS) : Option (Int32 × MS) :=
   if 0 ≤ v2 then
   f_X12_turnOrder_41 jFU v1 v2 (v1 - (1 : Int32)) s0
  else
   jzb (0 : Int32) (
    some ((0 : Int32), s0))
def f_X12_turnOrder_4 : Nat → Int32 → Int32 → MS → Option (Int32 × MS)
  | 0, _, _, _ => none
  | n + 1, v1, v2, s0 =>
   if v2 < 0 then
   f_X12_turnOrder_31 v1 v2 s0
  else
   jgd v2 8 (
    jgd (v2 + (1 : Int32)) 8 (
     if ((M_digit s0) (Int32.toNatClampNeg v2)) ≤ ((M_digit s0) (Int32.toNatClampNeg (v2 + (1 : Int32)))) then
      f_X12_turnOrder_31 v1 v2 s0
     else
      (f_X12_turnOrder_4 n) v1 (v2 + (-1 : Int32)) s0))
def f_X12_turnOrder (v1 : Int32) (s0 : MS) : Option (Int32 × MS) :=
   f_X12_turnOrder_4 jFU v1 (v1 - (2 : Int32)) s0
set_option maxRecDepth 100000 in
set_option maxHeartbeats 4000000 in
theorem b_X12_turnOrder_100 {E : jE} (a0 : Nat → Nat) {res : Int32 × MS} (K : jC E cX12_turnOrder 7 RX12 0) (hrw : jrw E) (HR : jRZ E cX12_turnOrder 7 (wM (jg E) a0 (res.2)) (res.1)) : ∀ (n : Nat) (v5 : Int32) (v6 : Int32) (s0 : MS), f_X12_turnOrder_100 n v5 v6 s0 = some res → J E 7 (wM (jg E) a0 s0) 100 [(0, .ref (a0 0)), (5, .int v5), (6, .int v6)] [] := by
  intro n
  induction n with
  | zero => intro _ _ _ h; cases h
  | succ n ih =>
    intro v5 v6 s0 h
    rw [f_X12_turnOrder_100] at h
    refine j_iload (pc' := 102) K dX12_turnOrder_100 1 rfl rfl ?_
    refine j_iload (pc' := 104) K dX12_turnOrder_102 2 rfl rfl ?_
    refine j_icmp_ge (pc' := 107) (tgt := 148) K dX12_turnOrder_104 (by decide) rfl (fun hc => ?_) (fun hc => ?_)
    · have h := jit hc h
      refine j_iconst (pc' := 149) (v := (1 : Int32)) K dX12_turnOrder_148 (by decide) rfl ?_
      obtain ⟨hg, h⟩ := jzb_some h
      obtain rfl := Option.some.inj h
      exact HR _ _ hg dX12_turnOrder_149
    · have h := jif hc h
      refine j_aload_n (pc' := 108) K dX12_turnOrder_107 rfl 0 rfl rfl ?_
      refine j_get (pc' := 111) K dX12_turnOrder_108 inX12 0 rfl rfl 13 (by decide) u_4_48 rfl rfl rfl ?_
      refine j_iload (pc' := 113) K dX12_turnOrder_111 1 rfl rfl ?_
      obtain ⟨hg, h⟩ := jgd_some h
      refine j_iald (pc' := 114) K dX12_turnOrder_113 9 rfl hg rfl ?_
      refine j_istore (pc' := 116) (lv' := [(4, .int ((M_digit s0) (Int32.toNatClampNeg v5))), (0, .ref (a0 0)), (5, .int v5), (6, .int v6)]) K dX12_turnOrder_114 (by decide) rfl rfl ?_
      refine j_aload_n (pc' := 117) K dX12_turnOrder_116 rfl 1 rfl rfl ?_
      refine j_get (pc' := 120) K dX12_turnOrder_117 inX12 0 rfl rfl 13 (by decide) u_4_48 rfl rfl rfl ?_
      refine j_iload (pc' := 122) K dX12_turnOrder_120 2 rfl rfl ?_
      refine j_aload_n (pc' := 123) K dX12_turnOrder_122 rfl 1 rfl rfl ?_
      refine j_get (pc' := 126) K dX12_turnOrder_123 inX12 0 rfl rfl 13 (by decide) u_4_48 rfl rfl rfl ?_
      refine j_iload (pc' := 128) K dX12_turnOrder_126 3 rfl rfl ?_
      obtain ⟨hg, h⟩ := jgd_some h
      refine j_iald (pc' := 129) K dX12_turnOrder_128 9 rfl hg rfl ?_
      obtain ⟨hg, h⟩ := jgd_some h
      refine j_iast (pc' := 130) (ws' := (wM (jg E) a0 (M_digit_s s0 (upd (M_digit s0) (Int32.toNatClampNeg v5) ((M_digit s0) (Int32.toNatClampNeg v6)))))) K dX12_turnOrder_129 hrw 9 rfl hg (st_M_9 ..) rfl ?_
      refine j_aload_n (pc' := 131) K dX12_turnOrder_130 rfl 1 rfl rfl ?_
      refine j_get (pc' := 134) K dX12_turnOrder_131 inX12 0 rfl rfl 13 (by decide) u_4_48 rfl rfl rfl ?_
      refine j_iload (pc' := 136) K dX12_turnOrder_134 3 rfl rfl ?_
      refine j_iload (pc' := 138) K dX12_turnOrder_136 0 rfl rfl ?_
      obtain ⟨hg, h⟩ := jgd_some h
      refine j_iast (pc' := 139) (ws' := (wM (jg E) a0 (M_digit_s (M_digit_s s0 (upd (M_digit s0) (Int32.toNatClampNeg v5) ((M_digit s0) (Int32.toNatClampNeg v6)))) (upd (M_digit (M_digit_s s0 (upd (M_digit s0) (Int32.toNatClampNeg v5) ((M_digit s0) (Int32.toNatClampNeg v6))))) (Int32.toNatClampNeg v6) ((M_digit s0) (Int32.toNatClampNeg v5)))))) K dX12_turnOrder_138 hrw 9 rfl hg (st_M_9 ..) rfl ?_
      refine j_iinc (pc' := 142) (j := 2) (v := (v5 + (1 : Int32))) (lv' := [(5, .int (v5 + (1 : Int32))), (4, .int ((M_digit s0) (Int32.toNatClampNeg v5))), (0, .ref (a0 0)), (6, .int v6)]) K dX12_turnOrder_139 rfl rfl (by decide) rfl rfl ?_
      refine j_iinc (pc' := 145) (j := 3) (v := (v6 + (-1 : Int32))) (lv' := [(6, .int (v6 + (-1 : Int32))), (5, .int (v5 + (1 : Int32))), (4, .int ((M_digit s0) (Int32.toNatClampNeg v5))), (0, .ref (a0 0))]) K dX12_turnOrder_142 rfl rfl (by decide) rfl rfl ?_
      refine j_goto (tgt := 100) K dX12_turnOrder_145 (by decide) ?_
      refine j_sub [3, 1, 0] rfl ?_
      exact ih (v5 + (1 : Int32)) (v6 + (-1 : Int32)) (M_digit_s (M_digit_s s0 (upd (M_digit s0) (Int32.toNatClampNeg v5) ((M_digit s0) (Int32.toNatClampNeg v6)))) (upd (M_digit (M_digit_s s0 (upd (M_digit s0) (Int32.toNatClampNeg v5) ((M_digit s0) (Int32.toNatClampNeg v6))))) (Int32.toNatClampNeg v6) ((M_digit s0) (Int32.toNatClampNeg v5)))) h
set_option maxRecDepth 100000 in
set_option maxHeartbeats 4000000 in
theorem b_X12_turnOrder_62 {E : jE} (a0 : Nat → Nat) {res : Int32 × MS} (K : jC E cX12_turnOrder 7 RX12 0) (hrw : jrw E) (HR : jRZ E cX12_turnOrder 7 (wM (jg E) a0 (res.2)) (res.1)) : ∀ (v1 : Int32) (v2 : Int32) (v3 : Int32) (s0 : MS), f_X12_turnOrder_62 v1 v2 v3 s0 = some res → J E 7 (wM (jg E) a0 s0) 62 [(0, .ref (a0 0)), (1, .int v1), (2, .int v2), (3, .int v3)] [] := by
  intro v1 v2 v3 s0 h
  unfold f_X12_turnOrder_62 at h
  refine j_aload_n (pc' := 63) K dX12_turnOrder_62 rfl 0 rfl rfl ?_
  refine j_get (pc' := 66) K dX12_turnOrder_63 inX12 0 rfl rfl 13 (by decide) u_4_48 rfl rfl rfl ?_
  refine j_iload_n (pc' := 67) K dX12_turnOrder_66 rfl 2 rfl rfl ?_
  obtain ⟨hg, h⟩ := jgd_some h
  refine j_iald (pc' := 68) K dX12_turnOrder_67 9 rfl hg rfl ?_
  refine j_istore (pc' := 70) (lv' := [(4, .int ((M_digit s0) (Int32.toNatClampNeg v2))), (0, .ref (a0 0)), (1, .int v1), (2, .int v2), (3, .int v3)]) K dX12_turnOrder_68 (by decide) rfl rfl ?_
  refine j_aload_n (pc' := 71) K dX12_turnOrder_70 rfl 1 rfl rfl ?_
  refine j_get (pc' := 74) K dX12_turnOrder_71 inX12 0 rfl rfl 13 (by decide) u_4_48 rfl rfl rfl ?_
  refine j_iload_n (pc' := 75) K dX12_turnOrder_74 rfl 3 rfl rfl ?_
  refine j_aload_n (pc' := 76) K dX12_turnOrder_75 rfl 1 rfl rfl ?_
  refine j_get (pc' := 79) K dX12_turnOrder_76 inX12 0 rfl rfl 13 (by decide) u_4_48 rfl rfl rfl ?_
  refine j_iload_n (pc' := 80) K dX12_turnOrder_79 rfl 4 rfl rfl ?_
  obtain ⟨hg, h⟩ := jgd_some h
  refine j_iald (pc' := 81) K dX12_turnOrder_80 9 rfl hg rfl ?_
  obtain ⟨hg, h⟩ := jgd_some h
  refine j_iast (pc' := 82) (ws' := (wM (jg E) a0 (M_digit_s s0 (upd (M_digit s0) (Int32.toNatClampNeg v2) ((M_digit s0) (Int32.toNatClampNeg v3)))))) K dX12_turnOrder_81 hrw 9 rfl hg (st_M_9 ..) rfl ?_
  refine j_aload_n (pc' := 83) K dX12_turnOrder_82 rfl 1 rfl rfl ?_
  refine j_get (pc' := 86) K dX12_turnOrder_83 inX12 0 rfl rfl 13 (by decide) u_4_48 rfl rfl rfl ?_
  refine j_iload_n (pc' := 87) K dX12_turnOrder_86 rfl 4 rfl rfl ?_
  refine j_iload (pc' := 89) K dX12_turnOrder_87 0 rfl rfl ?_
  obtain ⟨hg, h⟩ := jgd_some h
  refine j_iast (pc' := 90) (ws' := (wM (jg E) a0 (M_digit_s (M_digit_s s0 (upd (M_digit s0) (Int32.toNatClampNeg v2) ((M_digit s0) (Int32.toNatClampNeg v3)))) (upd (M_digit (M_digit_s s0 (upd (M_digit s0) (Int32.toNatClampNeg v2) ((M_digit s0) (Int32.toNatClampNeg v3))))) (Int32.toNatClampNeg v3) ((M_digit s0) (Int32.toNatClampNeg v2)))))) K dX12_turnOrder_89 hrw 9 rfl hg (st_M_9 ..) rfl ?_
  refine j_iload_n (pc' := 91) K dX12_turnOrder_90 rfl 3 rfl rfl ?_
  refine j_iconst (pc' := 92) (v := (1 : Int32)) K dX12_turnOrder_91 (by decide) rfl ?_
  refine j_iadd (pc' := 93) K dX12_turnOrder_92 rfl ?_
  refine j_istore (pc' := 95) (lv' := [(5, .int (v2 + (1 : Int32))), (4, .int ((M_digit s0) (Int32.toNatClampNeg v2))), (0, .ref (a0 0)), (1, .int v1), (2, .int v2), (3, .int v3)]) K dX12_turnOrder_93 (by decide) rfl rfl ?_
  refine j_iload_n (pc' := 96) K dX12_turnOrder_95 rfl 3 rfl rfl ?_
  refine j_iconst (pc' := 97) (v := (1 : Int32)) K dX12_turnOrder_96 (by decide) rfl ?_
  refine j_isub (pc' := 98) K dX12_turnOrder_97 rfl ?_
  refine j_istore (pc' := 100) (lv' := [(6, .int (v1 - (1 : Int32))), (5, .int (v2 + (1 : Int32))), (4, .int ((M_digit s0) (Int32.toNatClampNeg v2))), (0, .ref (a0 0)), (1, .int v1), (2, .int v2), (3, .int v3)]) K dX12_turnOrder_98 (by decide) rfl rfl ?_
  refine j_sub [3, 1, 0] rfl ?_
  exact b_X12_turnOrder_100 a0 K hrw HR jFU (v2 + (1 : Int32)) (v1 - (1 : Int32)) (M_digit_s (M_digit_s s0 (upd (M_digit s0) (Int32.toNatClampNeg v2) ((M_digit s0) (Int32.toNatClampNeg v3)))) (upd (M_digit (M_digit_s s0 (upd (M_digit s0) (Int32.toNatClampNeg v2) ((M_digit s0) (Int32.toNatClampNeg v3))))) (Int32.toNatClampNeg v3) ((M_digit s0) (Int32.toNatClampNeg v2)))) h
set_option maxRecDepth 100000 in
set_option maxHeartbeats 4000000 in
theorem b_X12_turnOrder_41 {E : jE} (a0 : Nat → Nat) {res : Int32 × MS} (K : jC E cX12_turnOrder 7 RX12 0) (hrw : jrw E) (HR : jRZ E cX12_turnOrder 7 (wM (jg E) a0 (res.2)) (res.1)) : ∀ (n : Nat) (v1 : Int32) (v2 : Int32) (v3 : Int32) (s0 : MS), f_X12_turnOrder_41 n v1 v2 v3 s0 = some res → J E 7 (wM (jg E) a0 s0) 41 [(0, .ref (a0 0)), (1, .int v1), (2, .int v2), (3, .int v3)] [] := by
  intro n
  induction n with
  | zero => intro _ _ _ _ h; cases h
  | succ n ih =>
    intro v1 v2 v3 s0 h
    rw [f_X12_turnOrder_41] at h
    refine j_aload_n (pc' := 42) K dX12_turnOrder_41 rfl 0 rfl rfl ?_
    refine j_get (pc' := 45) K dX12_turnOrder_42 inX12 0 rfl rfl 13 (by decide) u_4_48 rfl rfl rfl ?_
    refine j_iload_n (pc' := 46) K dX12_turnOrder_45 rfl 3 rfl rfl ?_
    obtain ⟨hg, h⟩ := jgd_some h
    refine j_iald (pc' := 47) K dX12_turnOrder_46 9 rfl hg rfl ?_
    refine j_aload_n (pc' := 48) K dX12_turnOrder_47 rfl 0 rfl rfl ?_
    refine j_get (pc' := 51) K dX12_turnOrder_48 inX12 0 rfl rfl 13 (by decide) u_4_48 rfl rfl rfl ?_
    refine j_iload_n (pc' := 52) K dX12_turnOrder_51 rfl 2 rfl rfl ?_
    obtain ⟨hg, h⟩ := jgd_some h
    refine j_iald (pc' := 53) K dX12_turnOrder_52 9 rfl hg rfl ?_
    refine j_icmp_ge (pc' := 56) (tgt := 62) K dX12_turnOrder_53 (by decide) rfl (fun hc => ?_) (fun hc => ?_)
    · have h := jit hc h
      refine j_sub [0, 1, 2, 3] rfl ?_
      exact b_X12_turnOrder_62 a0 K hrw HR v1 v2 v3 s0 h
    · have h := jif hc h
      refine j_iinc (pc' := 59) (j := 3) (v := (v3 + (-1 : Int32))) (lv' := [(3, .int (v3 + (-1 : Int32))), (0, .ref (a0 0)), (1, .int v1), (2, .int v2)]) K dX12_turnOrder_56 rfl rfl (by decide) rfl rfl ?_
      refine j_goto (tgt := 41) K dX12_turnOrder_59 (by decide) ?_
      refine j_sub [1, 2, 3, 0] rfl ?_
      exact ih v1 v2 (v3 + (-1 : Int32)) s0 h
set_option maxRecDepth 100000 in
set_option maxHeartbeats 4000000 in
theorem b_X12_turnOrder_31 {E : jE} (a0 : Nat → Nat) {res : Int32 × MS} (K : jC E cX12_turnOrder 7 RX12 0) (hrw : jrw E) (HR : jRZ E cX12_turnOrder 7 (wM (jg E) a0 (res.2)) (res.1)) : ∀ (v1 : Int32) (v2 : Int32) (s0 : MS), f_X12_turnOrder_31 v1 v2 s0 = some res → J E 7 (wM (jg E) a0 s0) 31 [(0, .ref (a0 0)), (1, .int v1), (2, .int v2)] [] := by
  intro v1 v2 s0 h
  unfold f_X12_turnOrder_31 at h
  refine j_iload_n (pc' := 32) K dX12_turnOrder_31 rfl 2 rfl rfl ?_
  refine j_if_ge (pc' := 35) (tgt := 37) K dX12_turnOrder_32 (by decide) rfl (fun hc => ?_) (fun hc => ?_)
  · have h := jit hc h
    refine j_iload_n (pc' := 38) K dX12_turnOrder_37 rfl 1 rfl rfl ?_
    refine j_iconst (pc' := 39) (v := (1 : Int32)) K dX12_turnOrder_38 (by decide) rfl ?_
    refine j_isub (pc' := 40) K dX12_turnOrder_39 rfl ?_
    refine j_istore_n (pc' := 41) (lv' := [(3, .int (v1 - (1 : Int32))), (0, .ref (a0 0)), (1, .int v1), (2, .int v2)]) K dX12_turnOrder_40 rfl (by decide) rfl rfl ?_
    refine j_sub [1, 2, 3, 0] rfl ?_
    exact b_X12_turnOrder_41 a0 K hrw HR jFU v1 v2 (v1 - (1 : Int32)) s0 h
  · have h := jif hc h
    refine j_iconst (pc' := 36) (v := (0 : Int32)) K dX12_turnOrder_35 (by decide) rfl ?_
    obtain ⟨hg, h⟩ := jzb_some h
    obtain rfl := Option.some.inj h
    exact HR _ _ hg dX12_turnOrder_36
set_option maxRecDepth 100000 in
set_option maxHeartbeats 4000000 in
theorem b_X12_turnOrder_4 {E : jE} (a0 : Nat → Nat) {res : Int32 × MS} (K : jC E cX12_turnOrder 7 RX12 0) (hrw : jrw E) (HR : jRZ E cX12_turnOrder 7 (wM (jg E) a0 (res.2)) (res.1)) : ∀ (n : Nat) (v1 : Int32) (v2 : Int32) (s0 : MS), f_X12_turnOrder_4 n v1 v2 s0 = some res → J E 7 (wM (jg E) a0 s0) 4 [(0, .ref (a0 0)), (1, .int v1), (2, .int v2)] [] := by
  intro n
  induction n with
  | zero => intro _ _ _ h; cases h
  | succ n ih =>
    intro v1 v2 s0 h
    rw [f_X12_turnOrder_4] at h
    refine j_iload_n (pc' := 5) K dX12_turnOrder_4 rfl 2 rfl rfl ?_
    refine j_if_lt (pc' := 8) (tgt := 31) K dX12_turnOrder_5 (by decide) rfl (fun hc => ?_) (fun hc => ?_)
    · have h := jit hc h
      refine j_sub [0, 1, 2] rfl ?_
      exact b_X12_turnOrder_31 a0 K hrw HR v1 v2 s0 h
    · have h := jif hc h
      refine j_aload_n (pc' := 9) K dX12_turnOrder_8 rfl 0 rfl rfl ?_
      refine j_get (pc' := 12) K dX12_turnOrder_9 inX12 0 rfl rfl 13 (by decide) u_4_48 rfl rfl rfl ?_
      refine j_iload_n (pc' := 13) K dX12_turnOrder_12 rfl 2 rfl rfl ?_
      obtain ⟨hg, h⟩ := jgd_some h
      refine j_iald (pc' := 14) K dX12_turnOrder_13 9 rfl hg rfl ?_
      refine j_aload_n (pc' := 15) K dX12_turnOrder_14 rfl 0 rfl rfl ?_
      refine j_get (pc' := 18) K dX12_turnOrder_15 inX12 0 rfl rfl 13 (by decide) u_4_48 rfl rfl rfl ?_
      refine j_iload_n (pc' := 19) K dX12_turnOrder_18 rfl 2 rfl rfl ?_
      refine j_iconst (pc' := 20) (v := (1 : Int32)) K dX12_turnOrder_19 (by decide) rfl ?_
      refine j_iadd (pc' := 21) K dX12_turnOrder_20 rfl ?_
      obtain ⟨hg, h⟩ := jgd_some h
      refine j_iald (pc' := 22) K dX12_turnOrder_21 9 rfl hg rfl ?_
      refine j_icmp_le (pc' := 25) (tgt := 31) K dX12_turnOrder_22 (by decide) rfl (fun hc => ?_) (fun hc => ?_)
      · have h := jit hc h
        refine j_sub [0, 1, 2] rfl ?_
        exact b_X12_turnOrder_31 a0 K hrw HR v1 v2 s0 h
      · have h := jif hc h
        refine j_iinc (pc' := 28) (j := 2) (v := (v2 + (-1 : Int32))) (lv' := [(2, .int (v2 + (-1 : Int32))), (0, .ref (a0 0)), (1, .int v1)]) K dX12_turnOrder_25 rfl rfl (by decide) rfl rfl ?_
        refine j_goto (tgt := 4) K dX12_turnOrder_28 (by decide) ?_
        refine j_sub [1, 2, 0] rfl ?_
        exact ih v1 (v2 + (-1 : Int32)) s0 h
set_option maxRecDepth 100000 in
set_option maxHeartbeats 4000000 in
theorem b_X12_turnOrder {E : jE} (a0 : Nat → Nat) {res : Int32 × MS} (K : jC E cX12_turnOrder 7 RX12 0) (hrw : jrw E) (HR : jRZ E cX12_turnOrder 7 (wM (jg E) a0 (res.2)) (res.1)) : ∀ (v1 : Int32) (s0 : MS), f_X12_turnOrder v1 s0 = some res → J E 7 (wM (jg E) a0 s0) 0 [(0, .ref (a0 0)), (1, .int v1)] [] := by
  intro v1 s0 h
  unfold f_X12_turnOrder at h
  refine j_iload_n (pc' := 1) K dX12_turnOrder_0 rfl 1 rfl rfl ?_
  refine j_iconst (pc' := 2) (v := (2 : Int32)) K dX12_turnOrder_1 (by decide) rfl ?_
  refine j_isub (pc' := 3) K dX12_turnOrder_2 rfl ?_
  refine j_istore_n (pc' := 4) (lv' := [(2, .int (v1 - (2 : Int32))), (0, .ref (a0 0)), (1, .int v1)]) K dX12_turnOrder_3 rfl (by decide) rfl rfl ?_
  refine j_sub [1, 2, 0] rfl ?_
  exact b_X12_turnOrder_4 a0 K hrw HR jFU v1 (v1 - (2 : Int32)) s0 h
set_option maxRecDepth 100000 in
set_option maxHeartbeats 4000000 in
theorem M_X12_turnOrder (l : Launch) (G : jG) (a0 : Nat → Nat) (v1 : Int32) (s0 : MS) {r : Int32 × MS} (h : f_X12_turnOrder v1 s0 = some r) : MC l yX12_turnOrder cX12_turnOrder 7 (some .boolean) 0 G (jad (wM G a0 s0)) True (wM G a0 s0) (wM G a0 (r.2)) [.ref (a0 0), .int v1] (some (.int (r.1))) := by
  refine mc_bool (by decide +kernel) (Nat.le_of_ble_eq_true rfl) fun E hl hg hA hrw K HR => ?_
  subst hl
  subst hg
  have hrw : jrw E := by rw [hrw]; trivial
  exact b_X12_turnOrder a0 K hrw HR v1 s0 h
theorem ok_X12_rings : yX12_rings.cls ≠ "java/lang/invoke/MethodHandle" ∧ yX12_rings.cls ≠ "java/lang/invoke/VarHandle" ∧ (parseMethodDescriptor yX12_rings.desc).map (fun d => d.parameters.length) = some 1 := ⟨by decide, by decide, by decide +kernel⟩
def f_X12_rings_62 (k7 : Int32 → Int32 → Int32 → Int32 → MS → Option (Int32)) (v1 : Int32) (v2 : Int32) (v3 : Int32) (v4 : Int32) (s0 : MS) : Option (Int32) :=
   k7 v1 v2 v3 (v4 + (1 : Int32)) s0
def f_X12_rings_34 (k7 : Int32 → Int32 → Int32 → Int32 → MS → Option (Int32)) : Nat → Int32 → Int32 → Int32 → Int32 → Int32 → MS → Option (Int32)
  | 0, _, _, _, _, _, _ => none
  | n + 1, v1, v2, v3, v4, v5, s0 =>
   if ((v2 >>> (v5 &&& 31)) &&& (1 : Int32)) = 0 then
   jgd v5 8 (
    (f_X12_rings_34 k7 n) v1 (v2 ||| ((1 : Int32) <<< (v5 &&& 31))) v3 v4 ((M_digit s0) (Int32.toNatClampNeg v5)) s0)
  else
   f_X12_rings_62 k7 v1 v2 v3 v4 s0
def f_X12_rings_28 (k7 : Int32 → Int32 → Int32 → Int32 → MS → Option (Int32)) (v1 : Int32) (v2 : Int32) (v4 : Int32) (t0 : Int32) (t1 : Int32) (s0 : MS) : Option (Int32) :=
   f_X12_rings_34 k7 jFU v1 v2 (t0 + t1) v4 v4 s0
def f_X12_rings_7 : Nat → Int32 → Int32 → Int32 → Int32 → MS → Option (Int32)
  | 0, _, _, _, _, _ => none
  | n + 1, v1, v2, v3, v4, s0 =>
   if v1 ≤ v4 then
   some v3
  else
   if ((v2 >>> (v4 &&& 31)) &&& (1 : Int32)) = 0 then
    f_X12_rings_28 (f_X12_rings_7 n) v1 v2 v4 v3 (1 : Int32) s0
   else
    f_X12_rings_28 (f_X12_rings_7 n) v1 v2 v4 v3 (0 : Int32) s0
def f_X12_rings (v1 : Int32) (s0 : MS) : Option (Int32) :=
   f_X12_rings_7 jFU v1 (0 : Int32) (0 : Int32) (0 : Int32) s0
set_option maxRecDepth 100000 in
set_option maxHeartbeats 4000000 in
theorem b_X12_rings_62 {E : jE} (a0 : Nat → Nat) (s0 : MS) {res : Int32} (K : jC E cX12_rings 6 RX12 0) (HR : jRI E cX12_rings 6 (wM (jg E) a0 s0) res) (k7 : Int32 → Int32 → Int32 → Int32 → MS → Option (Int32)) (hk7 : ∀ (v1 : Int32) (v2 : Int32) (v3 : Int32) (v4 : Int32), k7 v1 v2 v3 v4 s0 = some res → J E 6 (wM (jg E) a0 s0) 7 [(0, .ref (a0 0)), (1, .int v1), (2, .int v2), (3, .int v3), (4, .int v4)] []) : ∀ (v1 : Int32) (v2 : Int32) (v3 : Int32) (v4 : Int32), f_X12_rings_62 k7 v1 v2 v3 v4 s0 = some res → J E 6 (wM (jg E) a0 s0) 62 [(0, .ref (a0 0)), (1, .int v1), (2, .int v2), (3, .int v3), (4, .int v4)] [] := by
  intro v1 v2 v3 v4 h
  unfold f_X12_rings_62 at h
  refine j_iinc (pc' := 65) (j := 4) (v := (v4 + (1 : Int32))) (lv' := [(4, .int (v4 + (1 : Int32))), (0, .ref (a0 0)), (1, .int v1), (2, .int v2), (3, .int v3)]) K dX12_rings_62 rfl rfl (by decide) rfl rfl ?_
  refine j_goto (tgt := 7) K dX12_rings_65 (by decide) ?_
  refine j_sub [1, 2, 3, 4, 0] rfl ?_
  exact hk7 v1 v2 v3 (v4 + (1 : Int32)) h
set_option maxRecDepth 100000 in
set_option maxHeartbeats 4000000 in
theorem b_X12_rings_34 {E : jE} (a0 : Nat → Nat) (s0 : MS) {res : Int32} (K : jC E cX12_rings 6 RX12 0) (HR : jRI E cX12_rings 6 (wM (jg E) a0 s0) res) (k7 : Int32 → Int32 → Int32 → Int32 → MS → Option (Int32)) (hk7 : ∀ (v1 : Int32) (v2 : Int32) (v3 : Int32) (v4 : Int32), k7 v1 v2 v3 v4 s0 = some res → J E 6 (wM (jg E) a0 s0) 7 [(0, .ref (a0 0)), (1, .int v1), (2, .int v2), (3, .int v3), (4, .int v4)] []) : ∀ (n : Nat) (v1 : Int32) (v2 : Int32) (v3 : Int32) (v4 : Int32) (v5 : Int32), f_X12_rings_34 k7 n v1 v2 v3 v4 v5 s0 = some res → J E 6 (wM (jg E) a0 s0) 34 [(0, .ref (a0 0)), (1, .int v1), (2, .int v2), (3, .int v3), (4, .int v4), (5, .int v5)] [] := by
  intro n
  induction n with
  | zero => intro _ _ _ _ _ h; cases h
  | succ n ih =>
    intro v1 v2 v3 v4 v5 h
    rw [f_X12_rings_34] at h
    refine j_iload_n (pc' := 35) K dX12_rings_34 rfl 2 rfl rfl ?_
    refine j_iload (pc' := 37) K dX12_rings_35 5 rfl rfl ?_
    refine j_ishr (pc' := 38) K dX12_rings_37 rfl ?_
    refine j_iconst (pc' := 39) (v := (1 : Int32)) K dX12_rings_38 (by decide) rfl ?_
    refine j_iand (pc' := 40) K dX12_rings_39 rfl ?_
    refine j_if_ne (pc' := 43) (tgt := 62) K dX12_rings_40 (by decide) rfl (fun hc => ?_) (fun hc => ?_)
    · have h := jif hc h
      refine j_sub [0, 1, 2, 3, 4] rfl ?_
      exact b_X12_rings_62 a0 s0 K HR k7 hk7 v1 v2 v3 v4 h
    · have h := jit hc h
      refine j_iload_n (pc' := 44) K dX12_rings_43 rfl 2 rfl rfl ?_
      refine j_iconst (pc' := 45) (v := (1 : Int32)) K dX12_rings_44 (by decide) rfl ?_
      refine j_iload (pc' := 47) K dX12_rings_45 5 rfl rfl ?_
      refine j_ishl (pc' := 48) K dX12_rings_47 rfl ?_
      refine j_ior (pc' := 49) K dX12_rings_48 rfl ?_
      refine j_istore_n (pc' := 50) (lv' := [(2, .int (v2 ||| ((1 : Int32) <<< (v5 &&& 31)))), (0, .ref (a0 0)), (1, .int v1), (3, .int v3), (4, .int v4), (5, .int v5)]) K dX12_rings_49 rfl (by decide) rfl rfl ?_
      refine j_aload_n (pc' := 51) K dX12_rings_50 rfl 1 rfl rfl ?_
      refine j_get (pc' := 54) K dX12_rings_51 inX12 0 rfl rfl 13 (by decide) u_4_48 rfl rfl rfl ?_
      refine j_iload (pc' := 56) K dX12_rings_54 5 rfl rfl ?_
      obtain ⟨hg, h⟩ := jgd_some h
      refine j_iald (pc' := 57) K dX12_rings_56 9 rfl hg rfl ?_
      refine j_istore (pc' := 59) (lv' := [(5, .int ((M_digit s0) (Int32.toNatClampNeg v5))), (2, .int (v2 ||| ((1 : Int32) <<< (v5 &&& 31)))), (0, .ref (a0 0)), (1, .int v1), (3, .int v3), (4, .int v4)]) K dX12_rings_57 (by decide) rfl rfl ?_
      refine j_goto (tgt := 34) K dX12_rings_59 (by decide) ?_
      refine j_sub [2, 3, 1, 4, 5, 0] rfl ?_
      exact ih v1 (v2 ||| ((1 : Int32) <<< (v5 &&& 31))) v3 v4 ((M_digit s0) (Int32.toNatClampNeg v5)) h
set_option maxRecDepth 100000 in
set_option maxHeartbeats 4000000 in
theorem b_X12_rings_28 {E : jE} (a0 : Nat → Nat) (s0 : MS) {res : Int32} (K : jC E cX12_rings 6 RX12 0) (HR : jRI E cX12_rings 6 (wM (jg E) a0 s0) res) (k7 : Int32 → Int32 → Int32 → Int32 → MS → Option (Int32)) (hk7 : ∀ (v1 : Int32) (v2 : Int32) (v3 : Int32) (v4 : Int32), k7 v1 v2 v3 v4 s0 = some res → J E 6 (wM (jg E) a0 s0) 7 [(0, .ref (a0 0)), (1, .int v1), (2, .int v2), (3, .int v3), (4, .int v4)] []) : ∀ (v1 : Int32) (v2 : Int32) (v4 : Int32) (t0 : Int32) (t1 : Int32), f_X12_rings_28 k7 v1 v2 v4 t0 t1 s0 = some res → J E 6 (wM (jg E) a0 s0) 28 [(0, .ref (a0 0)), (1, .int v1), (2, .int v2), (4, .int v4)] [.int t1, .int t0] := by
  intro v1 v2 v4 t0 t1 h
  unfold f_X12_rings_28 at h
  refine j_iadd (pc' := 29) K dX12_rings_28 rfl ?_
  refine j_istore_n (pc' := 30) (lv' := [(3, .int (t0 + t1)), (0, .ref (a0 0)), (1, .int v1), (2, .int v2), (4, .int v4)]) K dX12_rings_29 rfl (by decide) rfl rfl ?_
  refine j_iload (pc' := 32) K dX12_rings_30 4 rfl rfl ?_
  refine j_istore (pc' := 34) (lv' := [(5, .int v4), (3, .int (t0 + t1)), (0, .ref (a0 0)), (1, .int v1), (2, .int v2), (4, .int v4)]) K dX12_rings_32 (by decide) rfl rfl ?_
  refine j_sub [2, 3, 4, 1, 5, 0] rfl ?_
  exact b_X12_rings_34 a0 s0 K HR k7 hk7 jFU v1 v2 (t0 + t1) v4 v4 h
set_option maxRecDepth 100000 in
set_option maxHeartbeats 4000000 in
theorem b_X12_rings_7 {E : jE} (a0 : Nat → Nat) (s0 : MS) {res : Int32} (K : jC E cX12_rings 6 RX12 0) (HR : jRI E cX12_rings 6 (wM (jg E) a0 s0) res) : ∀ (n : Nat) (v1 : Int32) (v2 : Int32) (v3 : Int32) (v4 : Int32), f_X12_rings_7 n v1 v2 v3 v4 s0 = some res → J E 6 (wM (jg E) a0 s0) 7 [(0, .ref (a0 0)), (1, .int v1), (2, .int v2), (3, .int v3), (4, .int v4)] [] := by
  intro n
  induction n with
  | zero => intro _ _ _ _ h; cases h
  | succ n ih =>
    intro v1 v2 v3 v4 h
    rw [f_X12_rings_7] at h
    refine j_iload (pc' := 9) K dX12_rings_7 4 rfl rfl ?_
    refine j_iload_n (pc' := 10) K dX12_rings_9 rfl 1 rfl rfl ?_
    refine j_icmp_ge (pc' := 13) (tgt := 68) K dX12_rings_10 (by decide) rfl (fun hc => ?_) (fun hc => ?_)
    · have h := jit hc h
      refine j_iload_n (pc' := 69) K dX12_rings_68 rfl 3 rfl rfl ?_
      obtain rfl := Option.some.inj h
      exact HR _ _ dX12_rings_69
    · have h := jif hc h
      refine j_iload_n (pc' := 14) K dX12_rings_13 rfl 3 rfl rfl ?_
      refine j_iload_n (pc' := 15) K dX12_rings_14 rfl 2 rfl rfl ?_
      refine j_iload (pc' := 17) K dX12_rings_15 4 rfl rfl ?_
      refine j_ishr (pc' := 18) K dX12_rings_17 rfl ?_
      refine j_iconst (pc' := 19) (v := (1 : Int32)) K dX12_rings_18 (by decide) rfl ?_
      refine j_iand (pc' := 20) K dX12_rings_19 rfl ?_
      refine j_if_ne (pc' := 23) (tgt := 27) K dX12_rings_20 (by decide) rfl (fun hc => ?_) (fun hc => ?_)
      · have h := jif hc h
        refine j_iconst (pc' := 28) (v := (0 : Int32)) K dX12_rings_27 (by decide) rfl ?_
        refine j_sub [0, 1, 2, 4] rfl ?_
        exact b_X12_rings_28 a0 s0 K HR (f_X12_rings_7 n) (ih) v1 v2 v4 v3 (0 : Int32) h
      · have h := jit hc h
        refine j_iconst (pc' := 24) (v := (1 : Int32)) K dX12_rings_23 (by decide) rfl ?_
        refine j_goto (tgt := 28) K dX12_rings_24 (by decide) ?_
        refine j_sub [0, 1, 2, 4] rfl ?_
        exact b_X12_rings_28 a0 s0 K HR (f_X12_rings_7 n) (ih) v1 v2 v4 v3 (1 : Int32) h
set_option maxRecDepth 100000 in
set_option maxHeartbeats 4000000 in
theorem b_X12_rings {E : jE} (a0 : Nat → Nat) (s0 : MS) {res : Int32} (K : jC E cX12_rings 6 RX12 0) (HR : jRI E cX12_rings 6 (wM (jg E) a0 s0) res) : ∀ (v1 : Int32), f_X12_rings v1 s0 = some res → J E 6 (wM (jg E) a0 s0) 0 [(0, .ref (a0 0)), (1, .int v1)] [] := by
  intro v1 h
  unfold f_X12_rings at h
  refine j_iconst (pc' := 1) (v := (0 : Int32)) K dX12_rings_0 (by decide) rfl ?_
  refine j_istore_n (pc' := 2) (lv' := [(2, .int (0 : Int32)), (0, .ref (a0 0)), (1, .int v1)]) K dX12_rings_1 rfl (by decide) rfl rfl ?_
  refine j_iconst (pc' := 3) (v := (0 : Int32)) K dX12_rings_2 (by decide) rfl ?_
  refine j_istore_n (pc' := 4) (lv' := [(3, .int (0 : Int32)), (2, .int (0 : Int32)), (0, .ref (a0 0)), (1, .int v1)]) K dX12_rings_3 rfl (by decide) rfl rfl ?_
  refine j_iconst (pc' := 5) (v := (0 : Int32)) K dX12_rings_4 (by decide) rfl ?_
  refine j_istore (pc' := 7) (lv' := [(4, .int (0 : Int32)), (3, .int (0 : Int32)), (2, .int (0 : Int32)), (0, .ref (a0 0)), (1, .int v1)]) K dX12_rings_5 (by decide) rfl rfl ?_
  refine j_sub [3, 4, 2, 1, 0] rfl ?_
  exact b_X12_rings_7 a0 s0 K HR jFU v1 (0 : Int32) (0 : Int32) (0 : Int32) h
set_option maxRecDepth 100000 in
set_option maxHeartbeats 4000000 in
theorem M_X12_rings (l : Launch) (G : jG) (a0 : Nat → Nat) (v1 : Int32) (s0 : MS) {r : Int32} (h : f_X12_rings v1 s0 = some r) : MC l yX12_rings cX12_rings 6 (some .int) 0 G jNo False (wM G a0 s0) (wM G a0 s0) [.ref (a0 0), .int v1] (some (.int r)) := by
  refine mc_int (by decide +kernel) (Nat.le_of_ble_eq_true rfl) fun E hl hg hA hrw K HR => ?_
  subst hl
  subst hg
  exact b_X12_rings a0 s0 K HR v1 h
theorem ok_X12_markOf : yX12_markOf.cls ≠ "java/lang/invoke/MethodHandle" ∧ yX12_markOf.cls ≠ "java/lang/invoke/VarHandle" ∧ (parseMethodDescriptor yX12_markOf.desc).map (fun d => d.parameters.length) = some 2 := ⟨by decide, by decide, by decide +kernel⟩
def f_X12_markOf_251 (v2 : Int32) (v3 : Int32) (v4 : Int32) (s0 : MS) : Option (Int32 × MS) :=
   if v2 = (4 : Int32) then
   some (v4, s0)
  else
   some (v3, s0)
def f_X12_markOf_243 (k18 : Int32 → Int32 → Int32 → Int32 → Int32 → MS → Option (Int32 × MS)) (v1 : Int32) (v2 : Int32) (v4 : Int32) (v5 : Int32) (t0 : Int32) (t1 : Int32) (s0 : MS) : Option (Int32 × MS) :=
   k18 v1 v2 (t0 + t1) v4 (v5 + (1 : Int32)) s0
def f_X12_markOf_219 (k18 : Int32 → Int32 → Int32 → Int32 → Int32 → MS → Option (Int32 × MS)) (v1 : Int32) (v2 : Int32) (v4 : Int32) (v5 : Int32) (t0 : Int32) (s0 : MS) : Option (Int32 × MS) :=
   f_X12_markOf_243 k18 v1 v2 v4 v5 t0 (0 : Int32) s0
def f_X12_markOf_183 (k18 : Int32 → Int32 → Int32 → Int32 → Int32 → MS → Option (Int32 × MS)) (v1 : Int32) (v2 : Int32) (v3 : Int32) (v5 : Int32) (v6 : Int32) (v8 : Int32) (t0 : Int32) (s0 : MS) : Option (Int32 × MS) :=
   if v2 = (1 : Int32) then
   if v5 ≤ 0 then
    f_X12_markOf_219 k18 v1 v2 t0 v5 v3 s0
   else
    jgd (v5 - (1 : Int32)) 8 (
     jgd v5 8 (
      if ((M_digit s0) (Int32.toNatClampNeg (v5 - (1 : Int32)))) ≤ ((M_digit s0) (Int32.toNatClampNeg v5)) then
       f_X12_markOf_219 k18 v1 v2 t0 v5 v3 s0
      else
       f_X12_markOf_243 k18 v1 v2 t0 v5 v3 (1 : Int32) s0))
  else
   if v2 = (2 : Int32) then
    f_X12_markOf_243 k18 v1 v2 t0 v5 v3 v6 s0
   else
    if v8 = 0 then
     f_X12_markOf_243 k18 v1 v2 t0 v5 v3 (0 : Int32) s0
    else
     f_X12_markOf_243 k18 v1 v2 t0 v5 v3 (1 : Int32) s0
def f_X12_markOf_148 (k18 : Int32 → Int32 → Int32 → Int32 → Int32 → MS → Option (Int32 × MS)) (v1 : Int32) (v2 : Int32) (v3 : Int32) (v4 : Int32) (v5 : Int32) (v6 : Int32) (v7 : Int32) (v8 : Int32) (s0 : MS) : Option (Int32 × MS) :=
   jgd v5 8 (
   jgd v5 8 (
    if ((M_other (M_other_s s0 (upd (M_other s0) (Int32.toNatClampNeg v5) (v7 + (1 : Int32))))) (Int32.toNatClampNeg v5)) ≤ v4 then
     f_X12_markOf_183 k18 v1 v2 v3 v5 v6 v8 v4 (M_other_s s0 (upd (M_other s0) (Int32.toNatClampNeg v5) (v7 + (1 : Int32))))
    else
     jgd v5 8 (
      f_X12_markOf_183 k18 v1 v2 v3 v5 v6 v8 ((M_other (M_other_s s0 (upd (M_other s0) (Int32.toNatClampNeg v5) (v7 + (1 : Int32))))) (Int32.toNatClampNeg v5)) (M_other_s s0 (upd (M_other s0) (Int32.toNatClampNeg v5) (v7 + (1 : Int32)))))))
def f_X12_markOf_140 (k18 : Int32 → Int32 → Int32 → Int32 → Int32 → MS → Option (Int32 × MS)) (k36 : Int32 → Int32 → Int32 → Int32 → Int32 → Int32 → Int32 → Int32 → Int32 → MS → Option (Int32 × MS)) (v1 : Int32) (v2 : Int32) (v3 : Int32) (v4 : Int32) (v5 : Int32) (v6 : Int32) (v8 : Int32) (v9 : Int32) (t0 : Int32) (s0 : MS) : Option (Int32 × MS) :=
   k36 v1 v2 v3 v4 v5 v6 t0 v8 (v9 + (1 : Int32)) s0
def f_X12_markOf_138 (k18 : Int32 → Int32 → Int32 → Int32 → Int32 → MS → Option (Int32 × MS)) (k36 : Int32 → Int32 → Int32 → Int32 → Int32 → Int32 → Int32 → Int32 → Int32 → MS → Option (Int32 × MS)) (v1 : Int32) (v2 : Int32) (v3 : Int32) (v4 : Int32) (v5 : Int32) (v6 : Int32) (v7 : Int32) (v8 : Int32) (v9 : Int32) (s0 : MS) : Option (Int32 × MS) :=
   f_X12_markOf_140 k18 k36 v1 v2 v3 v4 v5 v6 v8 v9 v7 s0
def f_X12_markOf_97 (k18 : Int32 → Int32 → Int32 → Int32 → Int32 → MS → Option (Int32 × MS)) (k36 : Int32 → Int32 → Int32 → Int32 → Int32 → Int32 → Int32 → Int32 → Int32 → MS → Option (Int32 × MS)) (v1 : Int32) (v2 : Int32) (v3 : Int32) (v4 : Int32) (v5 : Int32) (v6 : Int32) (v7 : Int32) (v9 : Int32) (t0 : Int32) (s0 : MS) : Option (Int32 × MS) :=
   jgd v9 8 (
   jgd v5 8 (
    if ((M_digit s0) (Int32.toNatClampNeg v5)) ≤ ((M_digit s0) (Int32.toNatClampNeg v9)) then
     f_X12_markOf_138 k18 k36 v1 v2 v3 v4 v5 v6 v7 t0 v9 s0
    else
     jgd v9 8 (
      if ((M_other s0) (Int32.toNatClampNeg v9)) ≤ v7 then
       f_X12_markOf_138 k18 k36 v1 v2 v3 v4 v5 v6 v7 t0 v9 s0
      else
       jgd v9 8 (
        f_X12_markOf_140 k18 k36 v1 v2 v3 v4 v5 v6 t0 v9 ((M_other s0) (Int32.toNatClampNeg v9)) s0))))
def f_X12_markOf_96 (k18 : Int32 → Int32 → Int32 → Int32 → Int32 → MS → Option (Int32 × MS)) (k36 : Int32 → Int32 → Int32 → Int32 → Int32 → Int32 → Int32 → Int32 → Int32 → MS → Option (Int32 × MS)) (v1 : Int32) (v2 : Int32) (v3 : Int32) (v4 : Int32) (v5 : Int32) (v6 : Int32) (v7 : Int32) (v9 : Int32) (s0 : MS) : Option (Int32 × MS) :=
   f_X12_markOf_97 k18 k36 v1 v2 v3 v4 v5 v6 v7 v9 (0 : Int32) s0
def f_X12_markOf_67 (k18 : Int32 → Int32 → Int32 → Int32 → Int32 → MS → Option (Int32 × MS)) (k36 : Int32 → Int32 → Int32 → Int32 → Int32 → Int32 → Int32 → Int32 → Int32 → MS → Option (Int32 × MS)) (v1 : Int32) (v2 : Int32) (v3 : Int32) (v4 : Int32) (v5 : Int32) (v7 : Int32) (v8 : Int32) (v9 : Int32) (t0 : Int32) (t1 : Int32) (s0 : MS) : Option (Int32 × MS) :=
   if v8 = 0 then
   f_X12_markOf_96 k18 k36 v1 v2 v3 v4 v5 (t0 + t1) v7 v9 s0
  else
   jgd v9 8 (
    jgd v5 8 (
     if ((M_digit s0) (Int32.toNatClampNeg v5)) ≤ ((M_digit s0) (Int32.toNatClampNeg v9)) then
      f_X12_markOf_96 k18 k36 v1 v2 v3 v4 v5 (t0 + t1) v7 v9 s0
     else
      f_X12_markOf_97 k18 k36 v1 v2 v3 v4 v5 (t0 + t1) v7 v9 (1 : Int32) s0))
def f_X12_markOf_36 (k18 : Int32 → Int32 → Int32 → Int32 → Int32 → MS → Option (Int32 × MS)) : Nat → Int32 → Int32 → Int32 → Int32 → Int32 → Int32 → Int32 → Int32 → Int32 → MS → Option (Int32 × MS)
  | 0, _, _, _, _, _, _, _, _, _, _ => none
  | n + 1, v1, v2, v3, v4, v5, v6, v7, v8, v9, s0 =>
   if v5 ≤ v9 then
   f_X12_markOf_148 k18 v1 v2 v3 v4 v5 v6 v7 v8 s0
  else
   jgd v9 8 (
    jgd v5 8 (
     if ((M_digit s0) (Int32.toNatClampNeg v9)) ≤ ((M_digit s0) (Int32.toNatClampNeg v5)) then
      f_X12_markOf_67 k18 (f_X12_markOf_36 k18 n) v1 v2 v3 v4 v5 v7 v8 v9 v6 (0 : Int32) s0
     else
      f_X12_markOf_67 k18 (f_X12_markOf_36 k18 n) v1 v2 v3 v4 v5 v7 v8 v9 v6 (1 : Int32) s0))
def f_X12_markOf_18 : Nat → Int32 → Int32 → Int32 → Int32 → Int32 → MS → Option (Int32 × MS)
  | 0, _, _, _, _, _, _ => none
  | n + 1, v1, v2, v3, v4, v5, s0 =>
   if v1 ≤ v5 then
   f_X12_markOf_251 v2 v3 v4 s0
  else
   f_X12_markOf_36 (f_X12_markOf_18 n) jFU v1 v2 v3 v4 v5 (0 : Int32) (0 : Int32) (1 : Int32) (0 : Int32) s0
def f_X12_markOf (v1 : Int32) (v2 : Int32) (s0 : MS) : Option (Int32 × MS) :=
   if v2 = 0 then
   jbd (f_X12_rings v1 s0) (fun r6 =>
    some (r6, s0))
  else
   f_X12_markOf_18 jFU v1 v2 (0 : Int32) (0 : Int32) (0 : Int32) s0
set_option maxRecDepth 100000 in
set_option maxHeartbeats 4000000 in
theorem b_X12_markOf_251 {E : jE} (a0 : Nat → Nat) {res : Int32 × MS} (K : jC E cX12_markOf 10 RX12 1) (hrw : jrw E) (HR : jRI E cX12_markOf 10 (wM (jg E) a0 (res.2)) (res.1)) : ∀ (v2 : Int32) (v3 : Int32) (v4 : Int32) (s0 : MS), f_X12_markOf_251 v2 v3 v4 s0 = some res → J E 10 (wM (jg E) a0 s0) 251 [(2, .int v2), (3, .int v3), (4, .int v4)] [] := by
  intro v2 v3 v4 s0 h
  unfold f_X12_markOf_251 at h
  refine j_iload_n (pc' := 252) K dX12_markOf_251 rfl 0 rfl rfl ?_
  refine j_iconst (pc' := 253) (v := (4 : Int32)) K dX12_markOf_252 (by decide) rfl ?_
  refine j_icmp_ne (pc' := 256) (tgt := 261) K dX12_markOf_253 (by decide) rfl (fun hc => ?_) (fun hc => ?_)
  · have h := jif hc h
    refine j_iload_n (pc' := 262) K dX12_markOf_261 rfl 1 rfl rfl ?_
    obtain rfl := Option.some.inj h
    exact HR _ _ dX12_markOf_262
  · have h := jit hc h
    refine j_iload (pc' := 258) K dX12_markOf_256 2 rfl rfl ?_
    refine j_goto (tgt := 262) K dX12_markOf_258 (by decide) ?_
    obtain rfl := Option.some.inj h
    exact HR _ _ dX12_markOf_262
set_option maxRecDepth 100000 in
set_option maxHeartbeats 4000000 in
theorem b_X12_markOf_243 {E : jE} (a0 : Nat → Nat) {res : Int32 × MS} (K : jC E cX12_markOf 10 RX12 1) (hrw : jrw E) (HR : jRI E cX12_markOf 10 (wM (jg E) a0 (res.2)) (res.1)) (k18 : Int32 → Int32 → Int32 → Int32 → Int32 → MS → Option (Int32 × MS)) (hk18 : ∀ (v1 : Int32) (v2 : Int32) (v3 : Int32) (v4 : Int32) (v5 : Int32) (s0 : MS), k18 v1 v2 v3 v4 v5 s0 = some res → J E 10 (wM (jg E) a0 s0) 18 [(0, .ref (a0 0)), (1, .int v1), (2, .int v2), (3, .int v3), (4, .int v4), (5, .int v5)] []) : ∀ (v1 : Int32) (v2 : Int32) (v4 : Int32) (v5 : Int32) (t0 : Int32) (t1 : Int32) (s0 : MS), f_X12_markOf_243 k18 v1 v2 v4 v5 t0 t1 s0 = some res → J E 10 (wM (jg E) a0 s0) 243 [(0, .ref (a0 0)), (1, .int v1), (2, .int v2), (4, .int v4), (5, .int v5)] [.int t1, .int t0] := by
  intro v1 v2 v4 v5 t0 t1 s0 h
  unfold f_X12_markOf_243 at h
  refine j_iadd (pc' := 244) K dX12_markOf_243 rfl ?_
  refine j_istore_n (pc' := 245) (lv' := [(3, .int (t0 + t1)), (0, .ref (a0 0)), (1, .int v1), (2, .int v2), (4, .int v4), (5, .int v5)]) K dX12_markOf_244 rfl (by decide) rfl rfl ?_
  refine j_iinc (pc' := 248) (j := 5) (v := (v5 + (1 : Int32))) (lv' := [(5, .int (v5 + (1 : Int32))), (3, .int (t0 + t1)), (0, .ref (a0 0)), (1, .int v1), (2, .int v2), (4, .int v4)]) K dX12_markOf_245 rfl rfl (by decide) rfl rfl ?_
  refine j_goto (tgt := 18) K dX12_markOf_248 (by decide) ?_
  refine j_sub [2, 3, 4, 1, 5, 0] rfl ?_
  exact hk18 v1 v2 (t0 + t1) v4 (v5 + (1 : Int32)) s0 h
set_option maxRecDepth 100000 in
set_option maxHeartbeats 4000000 in
theorem b_X12_markOf_219 {E : jE} (a0 : Nat → Nat) {res : Int32 × MS} (K : jC E cX12_markOf 10 RX12 1) (hrw : jrw E) (HR : jRI E cX12_markOf 10 (wM (jg E) a0 (res.2)) (res.1)) (k18 : Int32 → Int32 → Int32 → Int32 → Int32 → MS → Option (Int32 × MS)) (hk18 : ∀ (v1 : Int32) (v2 : Int32) (v3 : Int32) (v4 : Int32) (v5 : Int32) (s0 : MS), k18 v1 v2 v3 v4 v5 s0 = some res → J E 10 (wM (jg E) a0 s0) 18 [(0, .ref (a0 0)), (1, .int v1), (2, .int v2), (3, .int v3), (4, .int v4), (5, .int v5)] []) : ∀ (v1 : Int32) (v2 : Int32) (v4 : Int32) (v5 : Int32) (t0 : Int32) (s0 : MS), f_X12_markOf_219 k18 v1 v2 v4 v5 t0 s0 = some res → J E 10 (wM (jg E) a0 s0) 219 [(0, .ref (a0 0)), (1, .int v1), (2, .int v2), (4, .int v4), (5, .int v5)] [.int t0] := by
  intro v1 v2 v4 v5 t0 s0 h
  unfold f_X12_markOf_219 at h
  refine j_iconst (pc' := 220) (v := (0 : Int32)) K dX12_markOf_219 (by decide) rfl ?_
  refine j_goto (tgt := 243) K dX12_markOf_220 (by decide) ?_
  refine j_sub [0, 1, 2, 3, 4] rfl ?_
  exact b_X12_markOf_243 a0 K hrw HR k18 hk18 v1 v2 v4 v5 t0 (0 : Int32) s0 h
set_option maxRecDepth 100000 in
set_option maxHeartbeats 4000000 in
theorem b_X12_markOf_183 {E : jE} (a0 : Nat → Nat) {res : Int32 × MS} (K : jC E cX12_markOf 10 RX12 1) (hrw : jrw E) (HR : jRI E cX12_markOf 10 (wM (jg E) a0 (res.2)) (res.1)) (k18 : Int32 → Int32 → Int32 → Int32 → Int32 → MS → Option (Int32 × MS)) (hk18 : ∀ (v1 : Int32) (v2 : Int32) (v3 : Int32) (v4 : Int32) (v5 : Int32) (s0 : MS), k18 v1 v2 v3 v4 v5 s0 = some res → J E 10 (wM (jg E) a0 s0) 18 [(0, .ref (a0 0)), (1, .int v1), (2, .int v2), (3, .int v3), (4, .int v4), (5, .int v5)] []) : ∀ (v1 : Int32) (v2 : Int32) (v3 : Int32) (v5 : Int32) (v6 : Int32) (v8 : Int32) (t0 : Int32) (s0 : MS), f_X12_markOf_183 k18 v1 v2 v3 v5 v6 v8 t0 s0 = some res → J E 10 (wM (jg E) a0 s0) 183 [(0, .ref (a0 0)), (1, .int v1), (2, .int v2), (3, .int v3), (5, .int v5), (6, .int v6), (8, .int v8)] [.int t0] := by
  intro v1 v2 v3 v5 v6 v8 t0 s0 h
  unfold f_X12_markOf_183 at h
  refine j_istore (pc' := 185) (lv' := [(4, .int t0), (0, .ref (a0 0)), (1, .int v1), (2, .int v2), (3, .int v3), (5, .int v5), (6, .int v6), (8, .int v8)]) K dX12_markOf_183 (by decide) rfl rfl ?_
  refine j_iload_n (pc' := 186) K dX12_markOf_185 rfl 4 rfl rfl ?_
  refine j_iload_n (pc' := 187) K dX12_markOf_186 rfl 3 rfl rfl ?_
  refine j_iconst (pc' := 188) (v := (1 : Int32)) K dX12_markOf_187 (by decide) rfl ?_
  refine j_icmp_ne (pc' := 191) (tgt := 223) K dX12_markOf_188 (by decide) rfl (fun hc => ?_) (fun hc => ?_)
  · have h := jif hc h
    refine j_iload_n (pc' := 224) K dX12_markOf_223 rfl 3 rfl rfl ?_
    refine j_iconst (pc' := 225) (v := (2 : Int32)) K dX12_markOf_224 (by decide) rfl ?_
    refine j_icmp_ne (pc' := 228) (tgt := 233) K dX12_markOf_225 (by decide) rfl (fun hc => ?_) (fun hc => ?_)
    · have h := jif hc h
      refine j_iload (pc' := 235) K dX12_markOf_233 7 rfl rfl ?_
      refine j_if_eq (pc' := 238) (tgt := 242) K dX12_markOf_235 (by decide) rfl (fun hc => ?_) (fun hc => ?_)
      · have h := jit hc h
        refine j_iconst (pc' := 243) (v := (0 : Int32)) K dX12_markOf_242 (by decide) rfl ?_
        refine j_sub [1, 2, 3, 0, 5] rfl ?_
        exact b_X12_markOf_243 a0 K hrw HR k18 hk18 v1 v2 t0 v5 v3 (0 : Int32) s0 h
      · have h := jif hc h
        refine j_iconst (pc' := 239) (v := (1 : Int32)) K dX12_markOf_238 (by decide) rfl ?_
        refine j_goto (tgt := 243) K dX12_markOf_239 (by decide) ?_
        refine j_sub [1, 2, 3, 0, 5] rfl ?_
        exact b_X12_markOf_243 a0 K hrw HR k18 hk18 v1 v2 t0 v5 v3 (1 : Int32) s0 h
    · have h := jit hc h
      refine j_iload (pc' := 230) K dX12_markOf_228 6 rfl rfl ?_
      refine j_goto (tgt := 243) K dX12_markOf_230 (by decide) ?_
      refine j_sub [1, 2, 3, 0, 5] rfl ?_
      exact b_X12_markOf_243 a0 K hrw HR k18 hk18 v1 v2 t0 v5 v3 v6 s0 h
  · have h := jit hc h
    refine j_iload (pc' := 193) K dX12_markOf_191 5 rfl rfl ?_
    refine j_if_le (pc' := 196) (tgt := 219) K dX12_markOf_193 (by decide) rfl (fun hc => ?_) (fun hc => ?_)
    · have h := jit hc h
      refine j_sub [1, 2, 3, 0, 5] rfl ?_
      exact b_X12_markOf_219 a0 K hrw HR k18 hk18 v1 v2 t0 v5 v3 s0 h
    · have h := jif hc h
      refine j_aload_n (pc' := 197) K dX12_markOf_196 rfl 1 rfl rfl ?_
      refine j_get (pc' := 200) K dX12_markOf_197 inX12 0 rfl rfl 13 (by decide) u_4_48 rfl rfl rfl ?_
      refine j_iload (pc' := 202) K dX12_markOf_200 5 rfl rfl ?_
      refine j_iconst (pc' := 203) (v := (1 : Int32)) K dX12_markOf_202 (by decide) rfl ?_
      refine j_isub (pc' := 204) K dX12_markOf_203 rfl ?_
      obtain ⟨hg, h⟩ := jgd_some h
      refine j_iald (pc' := 205) K dX12_markOf_204 9 rfl hg rfl ?_
      refine j_aload_n (pc' := 206) K dX12_markOf_205 rfl 1 rfl rfl ?_
      refine j_get (pc' := 209) K dX12_markOf_206 inX12 0 rfl rfl 13 (by decide) u_4_48 rfl rfl rfl ?_
      refine j_iload (pc' := 211) K dX12_markOf_209 5 rfl rfl ?_
      obtain ⟨hg, h⟩ := jgd_some h
      refine j_iald (pc' := 212) K dX12_markOf_211 9 rfl hg rfl ?_
      refine j_icmp_le (pc' := 215) (tgt := 219) K dX12_markOf_212 (by decide) rfl (fun hc => ?_) (fun hc => ?_)
      · have h := jit hc h
        refine j_sub [1, 2, 3, 0, 5] rfl ?_
        exact b_X12_markOf_219 a0 K hrw HR k18 hk18 v1 v2 t0 v5 v3 s0 h
      · have h := jif hc h
        refine j_iconst (pc' := 216) (v := (1 : Int32)) K dX12_markOf_215 (by decide) rfl ?_
        refine j_goto (tgt := 243) K dX12_markOf_216 (by decide) ?_
        refine j_sub [1, 2, 3, 0, 5] rfl ?_
        exact b_X12_markOf_243 a0 K hrw HR k18 hk18 v1 v2 t0 v5 v3 (1 : Int32) s0 h
set_option maxRecDepth 100000 in
set_option maxHeartbeats 4000000 in
theorem b_X12_markOf_148 {E : jE} (a0 : Nat → Nat) {res : Int32 × MS} (K : jC E cX12_markOf 10 RX12 1) (hrw : jrw E) (HR : jRI E cX12_markOf 10 (wM (jg E) a0 (res.2)) (res.1)) (k18 : Int32 → Int32 → Int32 → Int32 → Int32 → MS → Option (Int32 × MS)) (hk18 : ∀ (v1 : Int32) (v2 : Int32) (v3 : Int32) (v4 : Int32) (v5 : Int32) (s0 : MS), k18 v1 v2 v3 v4 v5 s0 = some res → J E 10 (wM (jg E) a0 s0) 18 [(0, .ref (a0 0)), (1, .int v1), (2, .int v2), (3, .int v3), (4, .int v4), (5, .int v5)] []) : ∀ (v1 : Int32) (v2 : Int32) (v3 : Int32) (v4 : Int32) (v5 : Int32) (v6 : Int32) (v7 : Int32) (v8 : Int32) (s0 : MS), f_X12_markOf_148 k18 v1 v2 v3 v4 v5 v6 v7 v8 s0 = some res → J E 10 (wM (jg E) a0 s0) 148 [(0, .ref (a0 0)), (1, .int v1), (2, .int v2), (3, .int v3), (4, .int v4), (5, .int v5), (6, .int v6), (7, .int v7), (8, .int v8)] [] := by
  intro v1 v2 v3 v4 v5 v6 v7 v8 s0 h
  unfold f_X12_markOf_148 at h
  refine j_aload_n (pc' := 149) K dX12_markOf_148 rfl 0 rfl rfl ?_
  refine j_get (pc' := 152) K dX12_markOf_149 inX12 0 rfl rfl 14 (by decide) u_4_49 rfl rfl rfl ?_
  refine j_iload (pc' := 154) K dX12_markOf_152 5 rfl rfl ?_
  refine j_iload (pc' := 156) K dX12_markOf_154 7 rfl rfl ?_
  refine j_iconst (pc' := 157) (v := (1 : Int32)) K dX12_markOf_156 (by decide) rfl ?_
  refine j_iadd (pc' := 158) K dX12_markOf_157 rfl ?_
  obtain ⟨hg, h⟩ := jgd_some h
  refine j_iast (pc' := 159) (ws' := (wM (jg E) a0 (M_other_s s0 (upd (M_other s0) (Int32.toNatClampNeg v5) (v7 + (1 : Int32)))))) K dX12_markOf_158 hrw 10 rfl hg (st_M_10 ..) rfl ?_
  refine j_aload_n (pc' := 160) K dX12_markOf_159 rfl 0 rfl rfl ?_
  refine j_get (pc' := 163) K dX12_markOf_160 inX12 0 rfl rfl 14 (by decide) u_4_49 rfl rfl rfl ?_
  refine j_iload (pc' := 165) K dX12_markOf_163 5 rfl rfl ?_
  obtain ⟨hg, h⟩ := jgd_some h
  refine j_iald (pc' := 166) K dX12_markOf_165 10 rfl hg rfl ?_
  refine j_iload (pc' := 168) K dX12_markOf_166 4 rfl rfl ?_
  refine j_icmp_le (pc' := 171) (tgt := 181) K dX12_markOf_168 (by decide) rfl (fun hc => ?_) (fun hc => ?_)
  · have h := jit hc h
    refine j_iload (pc' := 183) K dX12_markOf_181 4 rfl rfl ?_
    refine j_sub [0, 1, 2, 3, 5, 6, 8] rfl ?_
    exact b_X12_markOf_183 a0 K hrw HR k18 hk18 v1 v2 v3 v5 v6 v8 v4 (M_other_s s0 (upd (M_other s0) (Int32.toNatClampNeg v5) (v7 + (1 : Int32)))) h
  · have h := jif hc h
    refine j_aload_n (pc' := 172) K dX12_markOf_171 rfl 0 rfl rfl ?_
    refine j_get (pc' := 175) K dX12_markOf_172 inX12 0 rfl rfl 14 (by decide) u_4_49 rfl rfl rfl ?_
    refine j_iload (pc' := 177) K dX12_markOf_175 5 rfl rfl ?_
    obtain ⟨hg, h⟩ := jgd_some h
    refine j_iald (pc' := 178) K dX12_markOf_177 10 rfl hg rfl ?_
    refine j_goto (tgt := 183) K dX12_markOf_178 (by decide) ?_
    refine j_sub [0, 1, 2, 3, 5, 6, 8] rfl ?_
    exact b_X12_markOf_183 a0 K hrw HR k18 hk18 v1 v2 v3 v5 v6 v8 ((M_other (M_other_s s0 (upd (M_other s0) (Int32.toNatClampNeg v5) (v7 + (1 : Int32))))) (Int32.toNatClampNeg v5)) (M_other_s s0 (upd (M_other s0) (Int32.toNatClampNeg v5) (v7 + (1 : Int32)))) h
set_option maxRecDepth 100000 in
set_option maxHeartbeats 4000000 in
theorem b_X12_markOf_140 {E : jE} (a0 : Nat → Nat) {res : Int32 × MS} (K : jC E cX12_markOf 10 RX12 1) (hrw : jrw E) (HR : jRI E cX12_markOf 10 (wM (jg E) a0 (res.2)) (res.1)) (k18 : Int32 → Int32 → Int32 → Int32 → Int32 → MS → Option (Int32 × MS)) (k36 : Int32 → Int32 → Int32 → Int32 → Int32 → Int32 → Int32 → Int32 → Int32 → MS → Option (Int32 × MS)) (hk18 : ∀ (v1 : Int32) (v2 : Int32) (v3 : Int32) (v4 : Int32) (v5 : Int32) (s0 : MS), k18 v1 v2 v3 v4 v5 s0 = some res → J E 10 (wM (jg E) a0 s0) 18 [(0, .ref (a0 0)), (1, .int v1), (2, .int v2), (3, .int v3), (4, .int v4), (5, .int v5)] []) (hk36 : ∀ (v1 : Int32) (v2 : Int32) (v3 : Int32) (v4 : Int32) (v5 : Int32) (v6 : Int32) (v7 : Int32) (v8 : Int32) (v9 : Int32) (s0 : MS), k36 v1 v2 v3 v4 v5 v6 v7 v8 v9 s0 = some res → J E 10 (wM (jg E) a0 s0) 36 [(0, .ref (a0 0)), (1, .int v1), (2, .int v2), (3, .int v3), (4, .int v4), (5, .int v5), (6, .int v6), (7, .int v7), (8, .int v8), (9, .int v9)] []) : ∀ (v1 : Int32) (v2 : Int32) (v3 : Int32) (v4 : Int32) (v5 : Int32) (v6 : Int32) (v8 : Int32) (v9 : Int32) (t0 : Int32) (s0 : MS), f_X12_markOf_140 k18 k36 v1 v2 v3 v4 v5 v6 v8 v9 t0 s0 = some res → J E 10 (wM (jg E) a0 s0) 140 [(0, .ref (a0 0)), (1, .int v1), (2, .int v2), (3, .int v3), (4, .int v4), (5, .int v5), (6, .int v6), (8, .int v8), (9, .int v9)] [.int t0] := by
  intro v1 v2 v3 v4 v5 v6 v8 v9 t0 s0 h
  unfold f_X12_markOf_140 at h
  refine j_istore (pc' := 142) (lv' := [(7, .int t0), (0, .ref (a0 0)), (1, .int v1), (2, .int v2), (3, .int v3), (4, .int v4), (5, .int v5), (6, .int v6), (8, .int v8), (9, .int v9)]) K dX12_markOf_140 (by decide) rfl rfl ?_
  refine j_iinc (pc' := 145) (j := 9) (v := (v9 + (1 : Int32))) (lv' := [(9, .int (v9 + (1 : Int32))), (7, .int t0), (0, .ref (a0 0)), (1, .int v1), (2, .int v2), (3, .int v3), (4, .int v4), (5, .int v5), (6, .int v6), (8, .int v8)]) K dX12_markOf_142 rfl rfl (by decide) rfl rfl ?_
  refine j_goto (tgt := 36) K dX12_markOf_145 (by decide) ?_
  refine j_sub [2, 3, 4, 5, 6, 7, 8, 1, 9, 0] rfl ?_
  exact hk36 v1 v2 v3 v4 v5 v6 t0 v8 (v9 + (1 : Int32)) s0 h
set_option maxRecDepth 100000 in
set_option maxHeartbeats 4000000 in
theorem b_X12_markOf_138 {E : jE} (a0 : Nat → Nat) {res : Int32 × MS} (K : jC E cX12_markOf 10 RX12 1) (hrw : jrw E) (HR : jRI E cX12_markOf 10 (wM (jg E) a0 (res.2)) (res.1)) (k18 : Int32 → Int32 → Int32 → Int32 → Int32 → MS → Option (Int32 × MS)) (k36 : Int32 → Int32 → Int32 → Int32 → Int32 → Int32 → Int32 → Int32 → Int32 → MS → Option (Int32 × MS)) (hk18 : ∀ (v1 : Int32) (v2 : Int32) (v3 : Int32) (v4 : Int32) (v5 : Int32) (s0 : MS), k18 v1 v2 v3 v4 v5 s0 = some res → J E 10 (wM (jg E) a0 s0) 18 [(0, .ref (a0 0)), (1, .int v1), (2, .int v2), (3, .int v3), (4, .int v4), (5, .int v5)] []) (hk36 : ∀ (v1 : Int32) (v2 : Int32) (v3 : Int32) (v4 : Int32) (v5 : Int32) (v6 : Int32) (v7 : Int32) (v8 : Int32) (v9 : Int32) (s0 : MS), k36 v1 v2 v3 v4 v5 v6 v7 v8 v9 s0 = some res → J E 10 (wM (jg E) a0 s0) 36 [(0, .ref (a0 0)), (1, .int v1), (2, .int v2), (3, .int v3), (4, .int v4), (5, .int v5), (6, .int v6), (7, .int v7), (8, .int v8), (9, .int v9)] []) : ∀ (v1 : Int32) (v2 : Int32) (v3 : Int32) (v4 : Int32) (v5 : Int32) (v6 : Int32) (v7 : Int32) (v8 : Int32) (v9 : Int32) (s0 : MS), f_X12_markOf_138 k18 k36 v1 v2 v3 v4 v5 v6 v7 v8 v9 s0 = some res → J E 10 (wM (jg E) a0 s0) 138 [(0, .ref (a0 0)), (1, .int v1), (2, .int v2), (3, .int v3), (4, .int v4), (5, .int v5), (6, .int v6), (7, .int v7), (8, .int v8), (9, .int v9)] [] := by
  intro v1 v2 v3 v4 v5 v6 v7 v8 v9 s0 h
  unfold f_X12_markOf_138 at h
  refine j_iload (pc' := 140) K dX12_markOf_138 7 rfl rfl ?_
  refine j_sub [0, 1, 2, 3, 4, 5, 6, 8, 9] rfl ?_
  exact b_X12_markOf_140 a0 K hrw HR k18 k36 hk18 hk36 v1 v2 v3 v4 v5 v6 v8 v9 v7 s0 h
set_option maxRecDepth 100000 in
set_option maxHeartbeats 4000000 in
theorem b_X12_markOf_97 {E : jE} (a0 : Nat → Nat) {res : Int32 × MS} (K : jC E cX12_markOf 10 RX12 1) (hrw : jrw E) (HR : jRI E cX12_markOf 10 (wM (jg E) a0 (res.2)) (res.1)) (k18 : Int32 → Int32 → Int32 → Int32 → Int32 → MS → Option (Int32 × MS)) (k36 : Int32 → Int32 → Int32 → Int32 → Int32 → Int32 → Int32 → Int32 → Int32 → MS → Option (Int32 × MS)) (hk18 : ∀ (v1 : Int32) (v2 : Int32) (v3 : Int32) (v4 : Int32) (v5 : Int32) (s0 : MS), k18 v1 v2 v3 v4 v5 s0 = some res → J E 10 (wM (jg E) a0 s0) 18 [(0, .ref (a0 0)), (1, .int v1), (2, .int v2), (3, .int v3), (4, .int v4), (5, .int v5)] []) (hk36 : ∀ (v1 : Int32) (v2 : Int32) (v3 : Int32) (v4 : Int32) (v5 : Int32) (v6 : Int32) (v7 : Int32) (v8 : Int32) (v9 : Int32) (s0 : MS), k36 v1 v2 v3 v4 v5 v6 v7 v8 v9 s0 = some res → J E 10 (wM (jg E) a0 s0) 36 [(0, .ref (a0 0)), (1, .int v1), (2, .int v2), (3, .int v3), (4, .int v4), (5, .int v5), (6, .int v6), (7, .int v7), (8, .int v8), (9, .int v9)] []) : ∀ (v1 : Int32) (v2 : Int32) (v3 : Int32) (v4 : Int32) (v5 : Int32) (v6 : Int32) (v7 : Int32) (v9 : Int32) (t0 : Int32) (s0 : MS), f_X12_markOf_97 k18 k36 v1 v2 v3 v4 v5 v6 v7 v9 t0 s0 = some res → J E 10 (wM (jg E) a0 s0) 97 [(0, .ref (a0 0)), (1, .int v1), (2, .int v2), (3, .int v3), (4, .int v4), (5, .int v5), (6, .int v6), (7, .int v7), (9, .int v9)] [.int t0] := by
  intro v1 v2 v3 v4 v5 v6 v7 v9 t0 s0 h
  unfold f_X12_markOf_97 at h
  refine j_istore (pc' := 99) (lv' := [(8, .int t0), (0, .ref (a0 0)), (1, .int v1), (2, .int v2), (3, .int v3), (4, .int v4), (5, .int v5), (6, .int v6), (7, .int v7), (9, .int v9)]) K dX12_markOf_97 (by decide) rfl rfl ?_
  refine j_aload_n (pc' := 100) K dX12_markOf_99 rfl 1 rfl rfl ?_
  refine j_get (pc' := 103) K dX12_markOf_100 inX12 0 rfl rfl 13 (by decide) u_4_48 rfl rfl rfl ?_
  refine j_iload (pc' := 105) K dX12_markOf_103 9 rfl rfl ?_
  obtain ⟨hg, h⟩ := jgd_some h
  refine j_iald (pc' := 106) K dX12_markOf_105 9 rfl hg rfl ?_
  refine j_aload_n (pc' := 107) K dX12_markOf_106 rfl 1 rfl rfl ?_
  refine j_get (pc' := 110) K dX12_markOf_107 inX12 0 rfl rfl 13 (by decide) u_4_48 rfl rfl rfl ?_
  refine j_iload (pc' := 112) K dX12_markOf_110 6 rfl rfl ?_
  obtain ⟨hg, h⟩ := jgd_some h
  refine j_iald (pc' := 113) K dX12_markOf_112 9 rfl hg rfl ?_
  refine j_icmp_ge (pc' := 116) (tgt := 138) K dX12_markOf_113 (by decide) rfl (fun hc => ?_) (fun hc => ?_)
  · have h := jit hc h
    refine j_sub [1, 2, 3, 4, 5, 6, 7, 8, 0, 9] rfl ?_
    exact b_X12_markOf_138 a0 K hrw HR k18 k36 hk18 hk36 v1 v2 v3 v4 v5 v6 v7 t0 v9 s0 h
  · have h := jif hc h
    refine j_aload_n (pc' := 117) K dX12_markOf_116 rfl 1 rfl rfl ?_
    refine j_get (pc' := 120) K dX12_markOf_117 inX12 0 rfl rfl 14 (by decide) u_4_49 rfl rfl rfl ?_
    refine j_iload (pc' := 122) K dX12_markOf_120 9 rfl rfl ?_
    obtain ⟨hg, h⟩ := jgd_some h
    refine j_iald (pc' := 123) K dX12_markOf_122 10 rfl hg rfl ?_
    refine j_iload (pc' := 125) K dX12_markOf_123 8 rfl rfl ?_
    refine j_icmp_le (pc' := 128) (tgt := 138) K dX12_markOf_125 (by decide) rfl (fun hc => ?_) (fun hc => ?_)
    · have h := jit hc h
      refine j_sub [1, 2, 3, 4, 5, 6, 7, 8, 0, 9] rfl ?_
      exact b_X12_markOf_138 a0 K hrw HR k18 k36 hk18 hk36 v1 v2 v3 v4 v5 v6 v7 t0 v9 s0 h
    · have h := jif hc h
      refine j_aload_n (pc' := 129) K dX12_markOf_128 rfl 1 rfl rfl ?_
      refine j_get (pc' := 132) K dX12_markOf_129 inX12 0 rfl rfl 14 (by decide) u_4_49 rfl rfl rfl ?_
      refine j_iload (pc' := 134) K dX12_markOf_132 9 rfl rfl ?_
      obtain ⟨hg, h⟩ := jgd_some h
      refine j_iald (pc' := 135) K dX12_markOf_134 10 rfl hg rfl ?_
      refine j_goto (tgt := 140) K dX12_markOf_135 (by decide) ?_
      refine j_sub [1, 2, 3, 4, 5, 6, 7, 0, 9] rfl ?_
      exact b_X12_markOf_140 a0 K hrw HR k18 k36 hk18 hk36 v1 v2 v3 v4 v5 v6 t0 v9 ((M_other s0) (Int32.toNatClampNeg v9)) s0 h
set_option maxRecDepth 100000 in
set_option maxHeartbeats 4000000 in
theorem b_X12_markOf_96 {E : jE} (a0 : Nat → Nat) {res : Int32 × MS} (K : jC E cX12_markOf 10 RX12 1) (hrw : jrw E) (HR : jRI E cX12_markOf 10 (wM (jg E) a0 (res.2)) (res.1)) (k18 : Int32 → Int32 → Int32 → Int32 → Int32 → MS → Option (Int32 × MS)) (k36 : Int32 → Int32 → Int32 → Int32 → Int32 → Int32 → Int32 → Int32 → Int32 → MS → Option (Int32 × MS)) (hk18 : ∀ (v1 : Int32) (v2 : Int32) (v3 : Int32) (v4 : Int32) (v5 : Int32) (s0 : MS), k18 v1 v2 v3 v4 v5 s0 = some res → J E 10 (wM (jg E) a0 s0) 18 [(0, .ref (a0 0)), (1, .int v1), (2, .int v2), (3, .int v3), (4, .int v4), (5, .int v5)] []) (hk36 : ∀ (v1 : Int32) (v2 : Int32) (v3 : Int32) (v4 : Int32) (v5 : Int32) (v6 : Int32) (v7 : Int32) (v8 : Int32) (v9 : Int32) (s0 : MS), k36 v1 v2 v3 v4 v5 v6 v7 v8 v9 s0 = some res → J E 10 (wM (jg E) a0 s0) 36 [(0, .ref (a0 0)), (1, .int v1), (2, .int v2), (3, .int v3), (4, .int v4), (5, .int v5), (6, .int v6), (7, .int v7), (8, .int v8), (9, .int v9)] []) : ∀ (v1 : Int32) (v2 : Int32) (v3 : Int32) (v4 : Int32) (v5 : Int32) (v6 : Int32) (v7 : Int32) (v9 : Int32) (s0 : MS), f_X12_markOf_96 k18 k36 v1 v2 v3 v4 v5 v6 v7 v9 s0 = some res → J E 10 (wM (jg E) a0 s0) 96 [(0, .ref (a0 0)), (1, .int v1), (2, .int v2), (3, .int v3), (4, .int v4), (5, .int v5), (6, .int v6), (7, .int v7), (9, .int v9)] [] := by
  intro v1 v2 v3 v4 v5 v6 v7 v9 s0 h
  unfold f_X12_markOf_96 at h
  refine j_iconst (pc' := 97) (v := (0 : Int32)) K dX12_markOf_96 (by decide) rfl ?_
  refine j_sub [0, 1, 2, 3, 4, 5, 6, 7, 8] rfl ?_
  exact b_X12_markOf_97 a0 K hrw HR k18 k36 hk18 hk36 v1 v2 v3 v4 v5 v6 v7 v9 (0 : Int32) s0 h
set_option maxRecDepth 100000 in
set_option maxHeartbeats 4000000 in
theorem b_X12_markOf_67 {E : jE} (a0 : Nat → Nat) {res : Int32 × MS} (K : jC E cX12_markOf 10 RX12 1) (hrw : jrw E) (HR : jRI E cX12_markOf 10 (wM (jg E) a0 (res.2)) (res.1)) (k18 : Int32 → Int32 → Int32 → Int32 → Int32 → MS → Option (Int32 × MS)) (k36 : Int32 → Int32 → Int32 → Int32 → Int32 → Int32 → Int32 → Int32 → Int32 → MS → Option (Int32 × MS)) (hk18 : ∀ (v1 : Int32) (v2 : Int32) (v3 : Int32) (v4 : Int32) (v5 : Int32) (s0 : MS), k18 v1 v2 v3 v4 v5 s0 = some res → J E 10 (wM (jg E) a0 s0) 18 [(0, .ref (a0 0)), (1, .int v1), (2, .int v2), (3, .int v3), (4, .int v4), (5, .int v5)] []) (hk36 : ∀ (v1 : Int32) (v2 : Int32) (v3 : Int32) (v4 : Int32) (v5 : Int32) (v6 : Int32) (v7 : Int32) (v8 : Int32) (v9 : Int32) (s0 : MS), k36 v1 v2 v3 v4 v5 v6 v7 v8 v9 s0 = some res → J E 10 (wM (jg E) a0 s0) 36 [(0, .ref (a0 0)), (1, .int v1), (2, .int v2), (3, .int v3), (4, .int v4), (5, .int v5), (6, .int v6), (7, .int v7), (8, .int v8), (9, .int v9)] []) : ∀ (v1 : Int32) (v2 : Int32) (v3 : Int32) (v4 : Int32) (v5 : Int32) (v7 : Int32) (v8 : Int32) (v9 : Int32) (t0 : Int32) (t1 : Int32) (s0 : MS), f_X12_markOf_67 k18 k36 v1 v2 v3 v4 v5 v7 v8 v9 t0 t1 s0 = some res → J E 10 (wM (jg E) a0 s0) 67 [(0, .ref (a0 0)), (1, .int v1), (2, .int v2), (3, .int v3), (4, .int v4), (5, .int v5), (7, .int v7), (8, .int v8), (9, .int v9)] [.int t1, .int t0] := by
  intro v1 v2 v3 v4 v5 v7 v8 v9 t0 t1 s0 h
  unfold f_X12_markOf_67 at h
  refine j_iadd (pc' := 68) K dX12_markOf_67 rfl ?_
  refine j_istore (pc' := 70) (lv' := [(6, .int (t0 + t1)), (0, .ref (a0 0)), (1, .int v1), (2, .int v2), (3, .int v3), (4, .int v4), (5, .int v5), (7, .int v7), (8, .int v8), (9, .int v9)]) K dX12_markOf_68 (by decide) rfl rfl ?_
  refine j_iload (pc' := 72) K dX12_markOf_70 8 rfl rfl ?_
  refine j_if_eq (pc' := 75) (tgt := 96) K dX12_markOf_72 (by decide) rfl (fun hc => ?_) (fun hc => ?_)
  · have h := jit hc h
    refine j_sub [1, 2, 3, 4, 5, 6, 0, 7, 9] rfl ?_
    exact b_X12_markOf_96 a0 K hrw HR k18 k36 hk18 hk36 v1 v2 v3 v4 v5 (t0 + t1) v7 v9 s0 h
  · have h := jif hc h
    refine j_aload_n (pc' := 76) K dX12_markOf_75 rfl 1 rfl rfl ?_
    refine j_get (pc' := 79) K dX12_markOf_76 inX12 0 rfl rfl 13 (by decide) u_4_48 rfl rfl rfl ?_
    refine j_iload (pc' := 81) K dX12_markOf_79 9 rfl rfl ?_
    obtain ⟨hg, h⟩ := jgd_some h
    refine j_iald (pc' := 82) K dX12_markOf_81 9 rfl hg rfl ?_
    refine j_aload_n (pc' := 83) K dX12_markOf_82 rfl 1 rfl rfl ?_
    refine j_get (pc' := 86) K dX12_markOf_83 inX12 0 rfl rfl 13 (by decide) u_4_48 rfl rfl rfl ?_
    refine j_iload (pc' := 88) K dX12_markOf_86 6 rfl rfl ?_
    obtain ⟨hg, h⟩ := jgd_some h
    refine j_iald (pc' := 89) K dX12_markOf_88 9 rfl hg rfl ?_
    refine j_icmp_ge (pc' := 92) (tgt := 96) K dX12_markOf_89 (by decide) rfl (fun hc => ?_) (fun hc => ?_)
    · have h := jit hc h
      refine j_sub [1, 2, 3, 4, 5, 6, 0, 7, 9] rfl ?_
      exact b_X12_markOf_96 a0 K hrw HR k18 k36 hk18 hk36 v1 v2 v3 v4 v5 (t0 + t1) v7 v9 s0 h
    · have h := jif hc h
      refine j_iconst (pc' := 93) (v := (1 : Int32)) K dX12_markOf_92 (by decide) rfl ?_
      refine j_goto (tgt := 97) K dX12_markOf_93 (by decide) ?_
      refine j_sub [1, 2, 3, 4, 5, 6, 0, 7, 9] rfl ?_
      exact b_X12_markOf_97 a0 K hrw HR k18 k36 hk18 hk36 v1 v2 v3 v4 v5 (t0 + t1) v7 v9 (1 : Int32) s0 h
set_option maxRecDepth 100000 in
set_option maxHeartbeats 4000000 in
theorem b_X12_markOf_36 {E : jE} (a0 : Nat → Nat) {res : Int32 × MS} (K : jC E cX12_markOf 10 RX12 1) (hrw : jrw E) (HR : jRI E cX12_markOf 10 (wM (jg E) a0 (res.2)) (res.1)) (k18 : Int32 → Int32 → Int32 → Int32 → Int32 → MS → Option (Int32 × MS)) (hk18 : ∀ (v1 : Int32) (v2 : Int32) (v3 : Int32) (v4 : Int32) (v5 : Int32) (s0 : MS), k18 v1 v2 v3 v4 v5 s0 = some res → J E 10 (wM (jg E) a0 s0) 18 [(0, .ref (a0 0)), (1, .int v1), (2, .int v2), (3, .int v3), (4, .int v4), (5, .int v5)] []) : ∀ (n : Nat) (v1 : Int32) (v2 : Int32) (v3 : Int32) (v4 : Int32) (v5 : Int32) (v6 : Int32) (v7 : Int32) (v8 : Int32) (v9 : Int32) (s0 : MS), f_X12_markOf_36 k18 n v1 v2 v3 v4 v5 v6 v7 v8 v9 s0 = some res → J E 10 (wM (jg E) a0 s0) 36 [(0, .ref (a0 0)), (1, .int v1), (2, .int v2), (3, .int v3), (4, .int v4), (5, .int v5), (6, .int v6), (7, .int v7), (8, .int v8), (9, .int v9)] [] := by
  intro n
  induction n with
  | zero => intro _ _ _ _ _ _ _ _ _ _ h; cases h
  | succ n ih =>
    intro v1 v2 v3 v4 v5 v6 v7 v8 v9 s0 h
    rw [f_X12_markOf_36] at h
    refine j_iload (pc' := 38) K dX12_markOf_36 9 rfl rfl ?_
    refine j_iload (pc' := 40) K dX12_markOf_38 5 rfl rfl ?_
    refine j_icmp_ge (pc' := 43) (tgt := 148) K dX12_markOf_40 (by decide) rfl (fun hc => ?_) (fun hc => ?_)
    · have h := jit hc h
      refine j_sub [0, 1, 2, 3, 4, 5, 6, 7, 8] rfl ?_
      exact b_X12_markOf_148 a0 K hrw HR k18 hk18 v1 v2 v3 v4 v5 v6 v7 v8 s0 h
    · have h := jif hc h
      refine j_iload (pc' := 45) K dX12_markOf_43 6 rfl rfl ?_
      refine j_aload_n (pc' := 46) K dX12_markOf_45 rfl 0 rfl rfl ?_
      refine j_get (pc' := 49) K dX12_markOf_46 inX12 0 rfl rfl 13 (by decide) u_4_48 rfl rfl rfl ?_
      refine j_iload (pc' := 51) K dX12_markOf_49 9 rfl rfl ?_
      obtain ⟨hg, h⟩ := jgd_some h
      refine j_iald (pc' := 52) K dX12_markOf_51 9 rfl hg rfl ?_
      refine j_aload_n (pc' := 53) K dX12_markOf_52 rfl 0 rfl rfl ?_
      refine j_get (pc' := 56) K dX12_markOf_53 inX12 0 rfl rfl 13 (by decide) u_4_48 rfl rfl rfl ?_
      refine j_iload (pc' := 58) K dX12_markOf_56 5 rfl rfl ?_
      obtain ⟨hg, h⟩ := jgd_some h
      refine j_iald (pc' := 59) K dX12_markOf_58 9 rfl hg rfl ?_
      refine j_icmp_le (pc' := 62) (tgt := 66) K dX12_markOf_59 (by decide) rfl (fun hc => ?_) (fun hc => ?_)
      · have h := jit hc h
        refine j_iconst (pc' := 67) (v := (0 : Int32)) K dX12_markOf_66 (by decide) rfl ?_
        refine j_sub [0, 1, 2, 3, 4, 5, 7, 8, 9] rfl ?_
        exact b_X12_markOf_67 a0 K hrw HR k18 (f_X12_markOf_36 k18 n) hk18 (ih) v1 v2 v3 v4 v5 v7 v8 v9 v6 (0 : Int32) s0 h
      · have h := jif hc h
        refine j_iconst (pc' := 63) (v := (1 : Int32)) K dX12_markOf_62 (by decide) rfl ?_
        refine j_goto (tgt := 67) K dX12_markOf_63 (by decide) ?_
        refine j_sub [0, 1, 2, 3, 4, 5, 7, 8, 9] rfl ?_
        exact b_X12_markOf_67 a0 K hrw HR k18 (f_X12_markOf_36 k18 n) hk18 (ih) v1 v2 v3 v4 v5 v7 v8 v9 v6 (1 : Int32) s0 h
set_option maxRecDepth 100000 in
set_option maxHeartbeats 4000000 in
theorem b_X12_markOf_18 {E : jE} (a0 : Nat → Nat) {res : Int32 × MS} (K : jC E cX12_markOf 10 RX12 1) (hrw : jrw E) (HR : jRI E cX12_markOf 10 (wM (jg E) a0 (res.2)) (res.1)) : ∀ (n : Nat) (v1 : Int32) (v2 : Int32) (v3 : Int32) (v4 : Int32) (v5 : Int32) (s0 : MS), f_X12_markOf_18 n v1 v2 v3 v4 v5 s0 = some res → J E 10 (wM (jg E) a0 s0) 18 [(0, .ref (a0 0)), (1, .int v1), (2, .int v2), (3, .int v3), (4, .int v4), (5, .int v5)] [] := by
  intro n
  induction n with
  | zero => intro _ _ _ _ _ _ h; cases h
  | succ n ih =>
    intro v1 v2 v3 v4 v5 s0 h
    rw [f_X12_markOf_18] at h
    refine j_iload (pc' := 20) K dX12_markOf_18 5 rfl rfl ?_
    refine j_iload_n (pc' := 21) K dX12_markOf_20 rfl 1 rfl rfl ?_
    refine j_icmp_ge (pc' := 24) (tgt := 251) K dX12_markOf_21 (by decide) rfl (fun hc => ?_) (fun hc => ?_)
    · have h := jit hc h
      refine j_sub [2, 3, 4] rfl ?_
      exact b_X12_markOf_251 a0 K hrw HR v2 v3 v4 s0 h
    · have h := jif hc h
      refine j_iconst (pc' := 25) (v := (0 : Int32)) K dX12_markOf_24 (by decide) rfl ?_
      refine j_istore (pc' := 27) (lv' := [(6, .int (0 : Int32)), (0, .ref (a0 0)), (1, .int v1), (2, .int v2), (3, .int v3), (4, .int v4), (5, .int v5)]) K dX12_markOf_25 (by decide) rfl rfl ?_
      refine j_iconst (pc' := 28) (v := (0 : Int32)) K dX12_markOf_27 (by decide) rfl ?_
      refine j_istore (pc' := 30) (lv' := [(7, .int (0 : Int32)), (6, .int (0 : Int32)), (0, .ref (a0 0)), (1, .int v1), (2, .int v2), (3, .int v3), (4, .int v4), (5, .int v5)]) K dX12_markOf_28 (by decide) rfl rfl ?_
      refine j_iconst (pc' := 31) (v := (1 : Int32)) K dX12_markOf_30 (by decide) rfl ?_
      refine j_istore (pc' := 33) (lv' := [(8, .int (1 : Int32)), (7, .int (0 : Int32)), (6, .int (0 : Int32)), (0, .ref (a0 0)), (1, .int v1), (2, .int v2), (3, .int v3), (4, .int v4), (5, .int v5)]) K dX12_markOf_31 (by decide) rfl rfl ?_
      refine j_iconst (pc' := 34) (v := (0 : Int32)) K dX12_markOf_33 (by decide) rfl ?_
      refine j_istore (pc' := 36) (lv' := [(9, .int (0 : Int32)), (8, .int (1 : Int32)), (7, .int (0 : Int32)), (6, .int (0 : Int32)), (0, .ref (a0 0)), (1, .int v1), (2, .int v2), (3, .int v3), (4, .int v4), (5, .int v5)]) K dX12_markOf_34 (by decide) rfl rfl ?_
      refine j_sub [4, 5, 6, 7, 8, 9, 3, 2, 1, 0] rfl ?_
      exact b_X12_markOf_36 a0 K hrw HR (f_X12_markOf_18 n) (ih) jFU v1 v2 v3 v4 v5 (0 : Int32) (0 : Int32) (1 : Int32) (0 : Int32) s0 h
set_option maxRecDepth 100000 in
set_option maxHeartbeats 4000000 in
theorem b_X12_markOf {E : jE} (a0 : Nat → Nat) {res : Int32 × MS} (K : jC E cX12_markOf 10 RX12 1) (hrw : jrw E) (HR : jRI E cX12_markOf 10 (wM (jg E) a0 (res.2)) (res.1)) : ∀ (v1 : Int32) (v2 : Int32) (s0 : MS), f_X12_markOf v1 v2 s0 = some res → J E 10 (wM (jg E) a0 s0) 0 [(0, .ref (a0 0)), (1, .int v1), (2, .int v2)] [] := by
  intro v1 v2 s0 h
  unfold f_X12_markOf at h
  refine j_iload_n (pc' := 1) K dX12_markOf_0 rfl 2 rfl rfl ?_
  refine j_if_ne (pc' := 4) (tgt := 10) K dX12_markOf_1 (by decide) rfl (fun hc => ?_) (fun hc => ?_)
  · have h := jif hc h
    refine j_iconst (pc' := 11) (v := (0 : Int32)) K dX12_markOf_10 (by decide) rfl ?_
    refine j_istore_n (pc' := 12) (lv' := [(3, .int (0 : Int32)), (0, .ref (a0 0)), (1, .int v1), (2, .int v2)]) K dX12_markOf_11 rfl (by decide) rfl rfl ?_
    refine j_iconst (pc' := 13) (v := (0 : Int32)) K dX12_markOf_12 (by decide) rfl ?_
    refine j_istore (pc' := 15) (lv' := [(4, .int (0 : Int32)), (3, .int (0 : Int32)), (0, .ref (a0 0)), (1, .int v1), (2, .int v2)]) K dX12_markOf_13 (by decide) rfl rfl ?_
    refine j_iconst (pc' := 16) (v := (0 : Int32)) K dX12_markOf_15 (by decide) rfl ?_
    refine j_istore (pc' := 18) (lv' := [(5, .int (0 : Int32)), (4, .int (0 : Int32)), (3, .int (0 : Int32)), (0, .ref (a0 0)), (1, .int v1), (2, .int v2)]) K dX12_markOf_16 (by decide) rfl rfl ?_
    refine j_sub [3, 4, 5, 2, 1, 0] rfl ?_
    exact b_X12_markOf_18 a0 K hrw HR jFU v1 v2 (0 : Int32) (0 : Int32) (0 : Int32) s0 h
  · have h := jit hc h
    refine j_aload_n (pc' := 5) K dX12_markOf_4 rfl 0 rfl rfl ?_
    refine j_iload_n (pc' := 6) K dX12_markOf_5 rfl 1 rfl rfl ?_
    obtain ⟨r6, hr6, h⟩ := jbd_some h
    refine j_ro (pc' := 9) K (fun H hP => jrun_V K dX12_markOf_6 (M_X12_rings (jl E) (jg E) a0 v1 s0 hr6) u_5_7 u_5_4 u_5_6 u_p_33 u_1_13 ⟨ok_X12_rings, by decide, by decide⟩ rfl (Nat.le_of_ble_eq_true rfl) 0 rfl rfl H hP) [0, 1, 2, 3, 4, 5, 6, 7, 8, 9, 10, 11, 12, 13, 14, 15, 16] (cl_55_f ..) rfl ?_
    obtain rfl := Option.some.inj h
    exact HR _ _ dX12_markOf_9
set_option maxRecDepth 100000 in
set_option maxHeartbeats 4000000 in
theorem M_X12_markOf (l : Launch) (G : jG) (a0 : Nat → Nat) (v1 : Int32) (v2 : Int32) (s0 : MS) {r : Int32 × MS} (h : f_X12_markOf v1 v2 s0 = some r) : MC l yX12_markOf cX12_markOf 10 (some .int) 1 G (jad (wM G a0 s0)) True (wM G a0 s0) (wM G a0 (r.2)) [.ref (a0 0), .int v1, .int v2] (some (.int (r.1))) := by
  refine mc_int (by decide +kernel) (Nat.le_of_ble_eq_true rfl) fun E hl hg hA hrw K HR => ?_
  subst hl
  subst hg
  have hrw : jrw E := by rw [hrw]; trivial
  exact b_X12_markOf a0 K hrw HR v1 v2 s0 h
theorem ok_X12_orders : yX12_orders.cls ≠ "java/lang/invoke/MethodHandle" ∧ yX12_orders.cls ≠ "java/lang/invoke/VarHandle" ∧ (parseMethodDescriptor yX12_orders.desc).map (fun d => d.parameters.length) = some 4 := ⟨by decide, by decide, by decide +kernel⟩
def f_X12_orders_91 (v4 : Int32) (v5 : Int32) (s0 : MS) : Option (Int32 × MS) :=
   if v4 = (-1 : Int32) then
   some (v5, s0)
  else
   some ((-4 : Int32), s0)
def f_X12_orders_81 (k50 : Int32 → Int32 → Int32 → Int32 → Int32 → Int32 → MS → Option (Int32 × MS)) (v1 : Int32) (v2 : Int32) (v3 : Int32) (v4 : Int32) (v5 : Int32) (s0 : MS) : Option (Int32 × MS) :=
   jbd (f_X12_turnOrder v1 s0) (fun r83 =>
   k50 v1 v2 v3 v4 v5 (r83.1) (r83.2))
def f_X12_orders_72 (v1 : Int32) (s0 : MS) : Option (Int32 × MS) :=
   jbd (f_X12_packed v1 s0) (fun r74 =>
   some (r74, s0))
def f_X12_orders_50 : Nat → Int32 → Int32 → Int32 → Int32 → Int32 → Int32 → MS → Option (Int32 × MS)
  | 0, _, _, _, _, _, _, _ => none
  | n + 1, v1, v2, v3, v4, v5, v6, s0 =>
   if v6 = 0 then
   f_X12_orders_91 v4 v5 s0
  else
   jbd (f_X12_markOf v1 v2 s0) (fun r58 =>
    if (r58.1) = v3 then
     if v5 = v4 then
      f_X12_orders_72 v1 (r58.2)
     else
      f_X12_orders_81 (f_X12_orders_50 n) v1 v2 v3 v4 (v5 + (1 : Int32)) (r58.2)
    else
     f_X12_orders_81 (f_X12_orders_50 n) v1 v2 v3 v4 v5 (r58.2))
def f_X12_orders (v1 : Int32) (v2 : Int32) (v3 : Int32) (v4 : Int32) (s0 : MS) : Option (Int32 × MS) :=
   jbd (f_X12_isSize v1) (fun r1 =>
   if r1 = 0 then
    some ((-1 : Int32), s0)
   else
    jbd (f_X12_in (Int32.toInt64 v2) (0 : Int64) (4 : Int64)) (fun r13 =>
     if r13 = 0 then
      some ((-1 : Int32), s0)
     else
      jbd (f_X12_in (Int32.toInt64 v3) (0 : Int64) (28 : Int64)) (fun r25 =>
       if r25 = 0 then
        some ((-1 : Int32), s0)
       else
        if (-1 : Int32) ≤ v4 then
         jbd (f_X12_beginOrder v1 s0) (fun r41 =>
          f_X12_orders_50 jFU v1 v2 v3 v4 (0 : Int32) (1 : Int32) r41)
        else
         some ((-1 : Int32), s0))))
set_option maxRecDepth 100000 in
set_option maxHeartbeats 4000000 in
theorem b_X12_orders_91 {E : jE} (a0 : Nat → Nat) {res : Int32 × MS} (K : jC E cX12_orders 7 RX12 2) (hrw : jrw E) (HR : jRI E cX12_orders 7 (wM (jg E) a0 (res.2)) (res.1)) : ∀ (v4 : Int32) (v5 : Int32) (s0 : MS), f_X12_orders_91 v4 v5 s0 = some res → J E 7 (wM (jg E) a0 s0) 91 [(4, .int v4), (5, .int v5)] [] := by
  intro v4 v5 s0 h
  unfold f_X12_orders_91 at h
  refine j_iload (pc' := 93) K dX12_orders_91 0 rfl rfl ?_
  refine j_iconst (pc' := 94) (v := (-1 : Int32)) K dX12_orders_93 (by decide) rfl ?_
  refine j_icmp_ne (pc' := 97) (tgt := 102) K dX12_orders_94 (by decide) rfl (fun hc => ?_) (fun hc => ?_)
  · have h := jif hc h
    refine j_bipush (pc' := 104) (v := (-4 : Int32)) K dX12_orders_102 (by decide) rfl ?_
    obtain rfl := Option.some.inj h
    exact HR _ _ dX12_orders_104
  · have h := jit hc h
    refine j_iload (pc' := 99) K dX12_orders_97 1 rfl rfl ?_
    refine j_goto (tgt := 104) K dX12_orders_99 (by decide) ?_
    obtain rfl := Option.some.inj h
    exact HR _ _ dX12_orders_104
set_option maxRecDepth 100000 in
set_option maxHeartbeats 4000000 in
theorem b_X12_orders_81 {E : jE} (a0 : Nat → Nat) {res : Int32 × MS} (K : jC E cX12_orders 7 RX12 2) (hrw : jrw E) (HR : jRI E cX12_orders 7 (wM (jg E) a0 (res.2)) (res.1)) (k50 : Int32 → Int32 → Int32 → Int32 → Int32 → Int32 → MS → Option (Int32 × MS)) (hk50 : ∀ (v1 : Int32) (v2 : Int32) (v3 : Int32) (v4 : Int32) (v5 : Int32) (v6 : Int32) (s0 : MS), k50 v1 v2 v3 v4 v5 v6 s0 = some res → J E 7 (wM (jg E) a0 s0) 50 [(0, .ref (a0 0)), (1, .int v1), (2, .int v2), (3, .int v3), (4, .int v4), (5, .int v5), (6, .int v6)] []) : ∀ (v1 : Int32) (v2 : Int32) (v3 : Int32) (v4 : Int32) (v5 : Int32) (s0 : MS), f_X12_orders_81 k50 v1 v2 v3 v4 v5 s0 = some res → J E 7 (wM (jg E) a0 s0) 81 [(0, .ref (a0 0)), (1, .int v1), (2, .int v2), (3, .int v3), (4, .int v4), (5, .int v5)] [] := by
  intro v1 v2 v3 v4 v5 s0 h
  unfold f_X12_orders_81 at h
  refine j_aload_n (pc' := 82) K dX12_orders_81 rfl 0 rfl rfl ?_
  refine j_iload_n (pc' := 83) K dX12_orders_82 rfl 1 rfl rfl ?_
  obtain ⟨r83, hr83, h⟩ := jbd_some h
  refine j_rw (pc' := 86) (ws' := (wM (jg E) a0 (r83.2))) K (fun H hP => jrun_V K dX12_orders_83 (M_X12_turnOrder (jl E) (jg E) a0 v1 s0 hr83) u_5_11 u_5_8 u_5_10 u_p_34 u_1_13 ⟨ok_X12_turnOrder, by decide, by decide⟩ rfl (Nat.le_of_ble_eq_true rfl) 0 rfl rfl H hP) hrw [0, 1, 2, 3, 4, 5, 6, 7, 8, 9, 10, 11, 12, 13, 14, 15, 16] rfl (cl_56_s ..) rfl (cl_56_m ..) (ad_M ..) rfl ?_
  refine j_istore (pc' := 88) (lv' := [(6, .int (r83.1)), (0, .ref (a0 0)), (1, .int v1), (2, .int v2), (3, .int v3), (4, .int v4), (5, .int v5)]) K dX12_orders_86 (by decide) rfl rfl ?_
  refine j_goto (tgt := 50) K dX12_orders_88 (by decide) ?_
  refine j_sub [1, 2, 3, 4, 5, 6, 0] rfl ?_
  exact hk50 v1 v2 v3 v4 v5 (r83.1) (r83.2) h
set_option maxRecDepth 100000 in
set_option maxHeartbeats 4000000 in
theorem b_X12_orders_72 {E : jE} (a0 : Nat → Nat) {res : Int32 × MS} (K : jC E cX12_orders 7 RX12 2) (hrw : jrw E) (HR : jRI E cX12_orders 7 (wM (jg E) a0 (res.2)) (res.1)) : ∀ (v1 : Int32) (s0 : MS), f_X12_orders_72 v1 s0 = some res → J E 7 (wM (jg E) a0 s0) 72 [(0, .ref (a0 0)), (1, .int v1)] [] := by
  intro v1 s0 h
  unfold f_X12_orders_72 at h
  refine j_aload_n (pc' := 73) K dX12_orders_72 rfl 0 rfl rfl ?_
  refine j_iload_n (pc' := 74) K dX12_orders_73 rfl 1 rfl rfl ?_
  obtain ⟨r74, hr74, h⟩ := jbd_some h
  refine j_ro (pc' := 77) K (fun H hP => jrun_V K dX12_orders_74 (M_X12_packed (jl E) (jg E) a0 v1 s0 hr74) u_4_217 u_4_214 u_4_216 u_p_28 u_1_13 ⟨ok_X12_packed, by decide, by decide⟩ rfl (Nat.le_of_ble_eq_true rfl) 0 rfl rfl H hP) [0, 1, 2, 3, 4, 5, 6, 7, 8, 9, 10, 11, 12, 13, 14, 15, 16] (cl_55_f ..) rfl ?_
  obtain rfl := Option.some.inj h
  exact HR _ _ dX12_orders_77
set_option maxRecDepth 100000 in
set_option maxHeartbeats 4000000 in
theorem b_X12_orders_50 {E : jE} (a0 : Nat → Nat) {res : Int32 × MS} (K : jC E cX12_orders 7 RX12 2) (hrw : jrw E) (HR : jRI E cX12_orders 7 (wM (jg E) a0 (res.2)) (res.1)) : ∀ (n : Nat) (v1 : Int32) (v2 : Int32) (v3 : Int32) (v4 : Int32) (v5 : Int32) (v6 : Int32) (s0 : MS), f_X12_orders_50 n v1 v2 v3 v4 v5 v6 s0 = some res → J E 7 (wM (jg E) a0 s0) 50 [(0, .ref (a0 0)), (1, .int v1), (2, .int v2), (3, .int v3), (4, .int v4), (5, .int v5), (6, .int v6)] [] := by
  intro n
  induction n with
  | zero => intro _ _ _ _ _ _ _ h; cases h
  | succ n ih =>
    intro v1 v2 v3 v4 v5 v6 s0 h
    rw [f_X12_orders_50] at h
    refine j_iload (pc' := 52) K dX12_orders_50 6 rfl rfl ?_
    refine j_if_eq (pc' := 55) (tgt := 91) K dX12_orders_52 (by decide) rfl (fun hc => ?_) (fun hc => ?_)
    · have h := jit hc h
      refine j_sub [4, 5] rfl ?_
      exact b_X12_orders_91 a0 K hrw HR v4 v5 s0 h
    · have h := jif hc h
      refine j_aload_n (pc' := 56) K dX12_orders_55 rfl 0 rfl rfl ?_
      refine j_iload_n (pc' := 57) K dX12_orders_56 rfl 1 rfl rfl ?_
      refine j_iload_n (pc' := 58) K dX12_orders_57 rfl 2 rfl rfl ?_
      obtain ⟨r58, hr58, h⟩ := jbd_some h
      refine j_rw (pc' := 61) (ws' := (wM (jg E) a0 (r58.2))) K (fun H hP => jrun_V K dX12_orders_58 (M_X12_markOf (jl E) (jg E) a0 v1 v2 s0 hr58) u_5_3 u_5_0 u_5_2 u_p_32 u_1_13 ⟨ok_X12_markOf, by decide, by decide⟩ rfl (Nat.le_of_ble_eq_true rfl) 0 rfl rfl H hP) hrw [0, 1, 2, 3, 4, 5, 6, 7, 8, 9, 10, 11, 12, 13, 14, 15, 16] rfl (cl_56_s ..) rfl (cl_56_m ..) (ad_M ..) rfl ?_
      refine j_iload_n (pc' := 62) K dX12_orders_61 rfl 3 rfl rfl ?_
      refine j_icmp_ne (pc' := 65) (tgt := 81) K dX12_orders_62 (by decide) rfl (fun hc => ?_) (fun hc => ?_)
      · have h := jif hc h
        refine j_sub [0, 1, 2, 3, 4, 5] rfl ?_
        exact b_X12_orders_81 a0 K hrw HR (f_X12_orders_50 n) (ih) v1 v2 v3 v4 v5 (r58.2) h
      · have h := jit hc h
        refine j_iload (pc' := 67) K dX12_orders_65 5 rfl rfl ?_
        refine j_iload (pc' := 69) K dX12_orders_67 4 rfl rfl ?_
        refine j_icmp_ne (pc' := 72) (tgt := 78) K dX12_orders_69 (by decide) rfl (fun hc => ?_) (fun hc => ?_)
        · have h := jif hc h
          refine j_iinc (pc' := 81) (j := 5) (v := (v5 + (1 : Int32))) (lv' := [(5, .int (v5 + (1 : Int32))), (0, .ref (a0 0)), (1, .int v1), (2, .int v2), (3, .int v3), (4, .int v4), (6, .int v6)]) K dX12_orders_78 rfl rfl (by decide) rfl rfl ?_
          refine j_sub [1, 2, 3, 4, 5, 0] rfl ?_
          exact b_X12_orders_81 a0 K hrw HR (f_X12_orders_50 n) (ih) v1 v2 v3 v4 (v5 + (1 : Int32)) (r58.2) h
        · have h := jit hc h
          refine j_sub [0, 1] rfl ?_
          exact b_X12_orders_72 a0 K hrw HR v1 (r58.2) h
set_option maxRecDepth 100000 in
set_option maxHeartbeats 4000000 in
theorem b_X12_orders {E : jE} (a0 : Nat → Nat) {res : Int32 × MS} (K : jC E cX12_orders 7 RX12 2) (hrw : jrw E) (HR : jRI E cX12_orders 7 (wM (jg E) a0 (res.2)) (res.1)) : ∀ (v1 : Int32) (v2 : Int32) (v3 : Int32) (v4 : Int32) (s0 : MS), f_X12_orders v1 v2 v3 v4 s0 = some res → J E 7 (wM (jg E) a0 s0) 0 [(0, .ref (a0 0)), (1, .int v1), (2, .int v2), (3, .int v3), (4, .int v4)] [] := by
  intro v1 v2 v3 v4 s0 h
  unfold f_X12_orders at h
  refine j_iload_n (pc' := 1) K dX12_orders_0 rfl 1 rfl rfl ?_
  obtain ⟨r1, hr1, h⟩ := jbd_some h
  refine j_ro (pc' := 4) K (fun H hP => jrun_S K dX12_orders_1 (M_X12_isSize (jl E) (jg E) v1 hr1) u_4_209 u_4_207 u_4_208 u_1_13 ⟨ok_X12_isSize, by decide, by decide⟩ rfl (Nat.le_of_ble_eq_true rfl) H) [] rfl rfl ?_
  refine j_if_eq (pc' := 7) (tgt := 37) K dX12_orders_4 (by decide) rfl (fun hc => ?_) (fun hc => ?_)
  · have h := jit hc h
    refine j_iconst (pc' := 38) (v := (-1 : Int32)) K dX12_orders_37 (by decide) rfl ?_
    obtain rfl := Option.some.inj h
    exact HR _ _ dX12_orders_38
  · have h := jif hc h
    refine j_iload_n (pc' := 8) K dX12_orders_7 rfl 2 rfl rfl ?_
    refine j_i2l (pc' := 9) K dX12_orders_8 rfl ?_
    refine j_lconst (pc' := 10) (v := (0 : Int64)) K dX12_orders_9 (by decide) rfl ?_
    refine j_ldc2 (pc' := 13) K dX12_orders_10 u_4_234 rfl ?_
    obtain ⟨r13, hr13, h⟩ := jbd_some h
    refine j_ro (pc' := 16) K (fun H hP => jrun_S K dX12_orders_13 (M_X12_in (jl E) (jg E) (Int32.toInt64 v2) (0 : Int64) (4 : Int64) hr13) u_4_107 u_4_105 u_4_106 u_1_13 ⟨ok_X12_in, by decide, by decide⟩ rfl (Nat.le_of_ble_eq_true rfl) H) [] rfl rfl ?_
    refine j_if_eq (pc' := 19) (tgt := 37) K dX12_orders_16 (by decide) rfl (fun hc => ?_) (fun hc => ?_)
    · have h := jit hc h
      refine j_iconst (pc' := 38) (v := (-1 : Int32)) K dX12_orders_37 (by decide) rfl ?_
      obtain rfl := Option.some.inj h
      exact HR _ _ dX12_orders_38
    · have h := jif hc h
      refine j_iload_n (pc' := 20) K dX12_orders_19 rfl 3 rfl rfl ?_
      refine j_i2l (pc' := 21) K dX12_orders_20 rfl ?_
      refine j_lconst (pc' := 22) (v := (0 : Int64)) K dX12_orders_21 (by decide) rfl ?_
      refine j_ldc2 (pc' := 25) K dX12_orders_22 u_4_235 rfl ?_
      obtain ⟨r25, hr25, h⟩ := jbd_some h
      refine j_ro (pc' := 28) K (fun H hP => jrun_S K dX12_orders_25 (M_X12_in (jl E) (jg E) (Int32.toInt64 v3) (0 : Int64) (28 : Int64) hr25) u_4_107 u_4_105 u_4_106 u_1_13 ⟨ok_X12_in, by decide, by decide⟩ rfl (Nat.le_of_ble_eq_true rfl) H) [] rfl rfl ?_
      refine j_if_eq (pc' := 31) (tgt := 37) K dX12_orders_28 (by decide) rfl (fun hc => ?_) (fun hc => ?_)
      · have h := jit hc h
        refine j_iconst (pc' := 38) (v := (-1 : Int32)) K dX12_orders_37 (by decide) rfl ?_
        obtain rfl := Option.some.inj h
        exact HR _ _ dX12_orders_38
      · have h := jif hc h
        refine j_iload (pc' := 33) K dX12_orders_31 4 rfl rfl ?_
        refine j_iconst (pc' := 34) (v := (-1 : Int32)) K dX12_orders_33 (by decide) rfl ?_
        refine j_icmp_ge (pc' := 37) (tgt := 39) K dX12_orders_34 (by decide) rfl (fun hc => ?_) (fun hc => ?_)
        · have h := jit hc h
          refine j_aload_n (pc' := 40) K dX12_orders_39 rfl 0 rfl rfl ?_
          refine j_iload_n (pc' := 41) K dX12_orders_40 rfl 1 rfl rfl ?_
          obtain ⟨r41, hr41, h⟩ := jbd_some h
          refine j_rw (pc' := 44) (ws' := (wM (jg E) a0 r41)) K (fun H hP => jrun_V K dX12_orders_41 (M_X12_beginOrder (jl E) (jg E) a0 v1 s0 hr41) u_4_239 u_4_236 u_4_238 u_p_31 u_1_13 ⟨ok_X12_beginOrder, by decide, by decide⟩ rfl (Nat.le_of_ble_eq_true rfl) 0 rfl rfl H hP) hrw [0, 1, 2, 3, 4, 5, 6, 7, 8, 9, 10, 11, 12, 13, 14, 15, 16] rfl (cl_56_s ..) rfl (cl_56_m ..) (ad_M ..) rfl ?_
          refine j_iconst (pc' := 45) (v := (0 : Int32)) K dX12_orders_44 (by decide) rfl ?_
          refine j_istore (pc' := 47) (lv' := [(5, .int (0 : Int32)), (0, .ref (a0 0)), (1, .int v1), (2, .int v2), (3, .int v3), (4, .int v4)]) K dX12_orders_45 (by decide) rfl rfl ?_
          refine j_iconst (pc' := 48) (v := (1 : Int32)) K dX12_orders_47 (by decide) rfl ?_
          refine j_istore (pc' := 50) (lv' := [(6, .int (1 : Int32)), (5, .int (0 : Int32)), (0, .ref (a0 0)), (1, .int v1), (2, .int v2), (3, .int v3), (4, .int v4)]) K dX12_orders_48 (by decide) rfl rfl ?_
          refine j_sub [2, 3, 4, 5, 6, 1, 0] rfl ?_
          exact b_X12_orders_50 a0 K hrw HR jFU v1 v2 v3 v4 (0 : Int32) (1 : Int32) r41 h
        · have h := jif hc h
          refine j_iconst (pc' := 38) (v := (-1 : Int32)) K dX12_orders_37 (by decide) rfl ?_
          obtain rfl := Option.some.inj h
          exact HR _ _ dX12_orders_38
set_option maxRecDepth 100000 in
set_option maxHeartbeats 4000000 in
theorem M_X12_orders (l : Launch) (G : jG) (a0 : Nat → Nat) (v1 : Int32) (v2 : Int32) (v3 : Int32) (v4 : Int32) (s0 : MS) {r : Int32 × MS} (h : f_X12_orders v1 v2 v3 v4 s0 = some r) : MC l yX12_orders cX12_orders 7 (some .int) 2 G (jad (wM G a0 s0)) True (wM G a0 s0) (wM G a0 (r.2)) [.ref (a0 0), .int v1, .int v2, .int v3, .int v4] (some (.int (r.1))) := by
  refine mc_int (by decide +kernel) (Nat.le_of_ble_eq_true rfl) fun E hl hg hA hrw K HR => ?_
  subst hl
  subst hg
  have hrw : jrw E := by rw [hrw]; trivial
  exact b_X12_orders a0 K hrw HR v1 v2 v3 v4 s0 h
theorem ok_X12_mark : yX12_mark.cls ≠ "java/lang/invoke/MethodHandle" ∧ yX12_mark.cls ≠ "java/lang/invoke/VarHandle" ∧ (parseMethodDescriptor yX12_mark.desc).map (fun d => d.parameters.length) = some 3 := ⟨by decide, by decide, by decide +kernel⟩
def f_X12_mark (v1 : Int32) (v2 : Int32) (v3 : Int32) (s0 : MS) : Option (Int32 × MS) :=
   jbd (f_X12_takeOrder v1 v2 s0) (fun r3 =>
   if (r3.1) = 0 then
    some ((-1 : Int32), (r3.2))
   else
    jbd (f_X12_in (Int32.toInt64 v3) (0 : Int64) (4 : Int64)) (fun r15 =>
     if r15 = 0 then
      some ((-1 : Int32), (r3.2))
     else
      jbd (f_X12_markOf v1 v3 (r3.2)) (fun r24 =>
       some ((r24.1), (r24.2)))))
set_option maxRecDepth 100000 in
set_option maxHeartbeats 4000000 in
theorem b_X12_mark {E : jE} (a0 : Nat → Nat) {res : Int32 × MS} (K : jC E cX12_mark 4 RX12 3) (hrw : jrw E) (HR : jRI E cX12_mark 4 (wM (jg E) a0 (res.2)) (res.1)) : ∀ (v1 : Int32) (v2 : Int32) (v3 : Int32) (s0 : MS), f_X12_mark v1 v2 v3 s0 = some res → J E 4 (wM (jg E) a0 s0) 0 [(0, .ref (a0 0)), (1, .int v1), (2, .int v2), (3, .int v3)] [] := by
  intro v1 v2 v3 s0 h
  unfold f_X12_mark at h
  refine j_aload_n (pc' := 1) K dX12_mark_0 rfl 0 rfl rfl ?_
  refine j_iload_n (pc' := 2) K dX12_mark_1 rfl 1 rfl rfl ?_
  refine j_iload_n (pc' := 3) K dX12_mark_2 rfl 2 rfl rfl ?_
  obtain ⟨r3, hr3, h⟩ := jbd_some h
  refine j_rw (pc' := 6) (ws' := (wM (jg E) a0 (r3.2))) K (fun H hP => jrun_V K dX12_mark_3 (M_X12_takeOrder (jl E) (jg E) a0 v1 v2 s0 hr3) u_5_19 u_5_16 u_5_18 u_p_35 u_1_13 ⟨ok_X12_takeOrder, by decide, by decide⟩ rfl (Nat.le_of_ble_eq_true rfl) 0 rfl rfl H hP) hrw [0, 1, 2, 3, 4, 5, 6, 7, 8, 9, 10, 11, 12, 13, 14, 15, 16] rfl (cl_56_s ..) rfl (cl_56_m ..) (ad_M ..) rfl ?_
  refine j_if_eq (pc' := 9) (tgt := 30) K dX12_mark_6 (by decide) rfl (fun hc => ?_) (fun hc => ?_)
  · have h := jit hc h
    refine j_iconst (pc' := 31) (v := (-1 : Int32)) K dX12_mark_30 (by decide) rfl ?_
    obtain rfl := Option.some.inj h
    exact HR _ _ dX12_mark_31
  · have h := jif hc h
    refine j_iload_n (pc' := 10) K dX12_mark_9 rfl 3 rfl rfl ?_
    refine j_i2l (pc' := 11) K dX12_mark_10 rfl ?_
    refine j_lconst (pc' := 12) (v := (0 : Int64)) K dX12_mark_11 (by decide) rfl ?_
    refine j_ldc2 (pc' := 15) K dX12_mark_12 u_4_234 rfl ?_
    obtain ⟨r15, hr15, h⟩ := jbd_some h
    refine j_ro (pc' := 18) K (fun H hP => jrun_S K dX12_mark_15 (M_X12_in (jl E) (jg E) (Int32.toInt64 v3) (0 : Int64) (4 : Int64) hr15) u_4_107 u_4_105 u_4_106 u_1_13 ⟨ok_X12_in, by decide, by decide⟩ rfl (Nat.le_of_ble_eq_true rfl) H) [] rfl rfl ?_
    refine j_if_eq (pc' := 21) (tgt := 30) K dX12_mark_18 (by decide) rfl (fun hc => ?_) (fun hc => ?_)
    · have h := jit hc h
      refine j_iconst (pc' := 31) (v := (-1 : Int32)) K dX12_mark_30 (by decide) rfl ?_
      obtain rfl := Option.some.inj h
      exact HR _ _ dX12_mark_31
    · have h := jif hc h
      refine j_aload_n (pc' := 22) K dX12_mark_21 rfl 0 rfl rfl ?_
      refine j_iload_n (pc' := 23) K dX12_mark_22 rfl 1 rfl rfl ?_
      refine j_iload_n (pc' := 24) K dX12_mark_23 rfl 3 rfl rfl ?_
      obtain ⟨r24, hr24, h⟩ := jbd_some h
      refine j_rw (pc' := 27) (ws' := (wM (jg E) a0 (r24.2))) K (fun H hP => jrun_V K dX12_mark_24 (M_X12_markOf (jl E) (jg E) a0 v1 v3 (r3.2) hr24) u_5_3 u_5_0 u_5_2 u_p_32 u_1_13 ⟨ok_X12_markOf, by decide, by decide⟩ rfl (Nat.le_of_ble_eq_true rfl) 0 rfl rfl H hP) hrw [0, 1, 2, 3, 4, 5, 6, 7, 8, 9, 10, 11, 12, 13, 14, 15, 16] rfl (cl_56_s ..) rfl (cl_56_m ..) (ad_M ..) rfl ?_
      refine j_goto (tgt := 31) K dX12_mark_27 (by decide) ?_
      obtain rfl := Option.some.inj h
      exact HR _ _ dX12_mark_31
set_option maxRecDepth 100000 in
set_option maxHeartbeats 4000000 in
theorem M_X12_mark (l : Launch) (G : jG) (a0 : Nat → Nat) (v1 : Int32) (v2 : Int32) (v3 : Int32) (s0 : MS) {r : Int32 × MS} (h : f_X12_mark v1 v2 v3 s0 = some r) : MC l yX12_mark cX12_mark 4 (some .int) 3 G (jad (wM G a0 s0)) True (wM G a0 s0) (wM G a0 (r.2)) [.ref (a0 0), .int v1, .int v2, .int v3] (some (.int (r.1))) := by
  refine mc_int (by decide +kernel) (Nat.le_of_ble_eq_true rfl) fun E hl hg hA hrw K HR => ?_
  subst hl
  subst hg
  have hrw : jrw E := by rw [hrw]; trivial
  exact b_X12_mark a0 K hrw HR v1 v2 v3 s0 h
theorem ok_X12_rank : yX12_rank.cls ≠ "java/lang/invoke/MethodHandle" ∧ yX12_rank.cls ≠ "java/lang/invoke/VarHandle" ∧ (parseMethodDescriptor yX12_rank.desc).map (fun d => d.parameters.length) = some 2 := ⟨by decide, by decide, by decide +kernel⟩
def f_X12_rank_70 (k16 : Int32 → Int32 → Int32 → MS → Option (Int32 × MS)) (v1 : Int32) (v3 : Int32) (v4 : Int32) (v5 : Int32) (s0 : MS) : Option (Int32 × MS) :=
   k16 v1 ((v3 * (v1 - v4)) + v5) (v4 + (1 : Int32)) s0
def f_X12_rank_61 (k16 : Int32 → Int32 → Int32 → MS → Option (Int32 × MS)) (k31 : Int32 → Int32 → Int32 → Int32 → Int32 → MS → Option (Int32 × MS)) (v1 : Int32) (v3 : Int32) (v4 : Int32) (v6 : Int32) (t0 : Int32) (t1 : Int32) (s0 : MS) : Option (Int32 × MS) :=
   k31 v1 v3 v4 (t0 + t1) (v6 + (1 : Int32)) s0
def f_X12_rank_31 (k16 : Int32 → Int32 → Int32 → MS → Option (Int32 × MS)) : Nat → Int32 → Int32 → Int32 → Int32 → Int32 → MS → Option (Int32 × MS)
  | 0, _, _, _, _, _, _ => none
  | n + 1, v1, v3, v4, v5, v6, s0 =>
   if v1 ≤ v6 then
   f_X12_rank_70 k16 v1 v3 v4 v5 s0
  else
   jgd v6 8 (
    jgd v4 8 (
     if ((M_digit s0) (Int32.toNatClampNeg v4)) ≤ ((M_digit s0) (Int32.toNatClampNeg v6)) then
      f_X12_rank_61 k16 (f_X12_rank_31 k16 n) v1 v3 v4 v6 v5 (0 : Int32) s0
     else
      f_X12_rank_61 k16 (f_X12_rank_31 k16 n) v1 v3 v4 v6 v5 (1 : Int32) s0))
def f_X12_rank_16 : Nat → Int32 → Int32 → Int32 → MS → Option (Int32 × MS)
  | 0, _, _, _, _ => none
  | n + 1, v1, v3, v4, s0 =>
   if v1 ≤ v4 then
   some (v3, s0)
  else
   f_X12_rank_31 (f_X12_rank_16 n) jFU v1 v3 v4 (0 : Int32) (v4 + (1 : Int32)) s0
def f_X12_rank (v1 : Int32) (v2 : Int32) (s0 : MS) : Option (Int32 × MS) :=
   jbd (f_X12_takeOrder v1 v2 s0) (fun r3 =>
   if (r3.1) = 0 then
    some ((-1 : Int32), (r3.2))
   else
    f_X12_rank_16 jFU v1 (0 : Int32) (0 : Int32) (r3.2))
set_option maxRecDepth 100000 in
set_option maxHeartbeats 4000000 in
theorem b_X12_rank_70 {E : jE} (a0 : Nat → Nat) {res : Int32 × MS} (K : jC E cX12_rank 7 RX12 3) (hrw : jrw E) (HR : jRI E cX12_rank 7 (wM (jg E) a0 (res.2)) (res.1)) (k16 : Int32 → Int32 → Int32 → MS → Option (Int32 × MS)) (hk16 : ∀ (v1 : Int32) (v3 : Int32) (v4 : Int32) (s0 : MS), k16 v1 v3 v4 s0 = some res → J E 7 (wM (jg E) a0 s0) 16 [(0, .ref (a0 0)), (1, .int v1), (3, .int v3), (4, .int v4)] []) : ∀ (v1 : Int32) (v3 : Int32) (v4 : Int32) (v5 : Int32) (s0 : MS), f_X12_rank_70 k16 v1 v3 v4 v5 s0 = some res → J E 7 (wM (jg E) a0 s0) 70 [(0, .ref (a0 0)), (1, .int v1), (3, .int v3), (4, .int v4), (5, .int v5)] [] := by
  intro v1 v3 v4 v5 s0 h
  unfold f_X12_rank_70 at h
  refine j_iload_n (pc' := 71) K dX12_rank_70 rfl 2 rfl rfl ?_
  refine j_iload_n (pc' := 72) K dX12_rank_71 rfl 1 rfl rfl ?_
  refine j_iload (pc' := 74) K dX12_rank_72 3 rfl rfl ?_
  refine j_isub (pc' := 75) K dX12_rank_74 rfl ?_
  refine j_imul (pc' := 76) K dX12_rank_75 rfl ?_
  refine j_iload (pc' := 78) K dX12_rank_76 4 rfl rfl ?_
  refine j_iadd (pc' := 79) K dX12_rank_78 rfl ?_
  refine j_istore_n (pc' := 80) (lv' := [(3, .int ((v3 * (v1 - v4)) + v5)), (0, .ref (a0 0)), (1, .int v1), (4, .int v4), (5, .int v5)]) K dX12_rank_79 rfl (by decide) rfl rfl ?_
  refine j_iinc (pc' := 83) (j := 3) (v := (v4 + (1 : Int32))) (lv' := [(4, .int (v4 + (1 : Int32))), (3, .int ((v3 * (v1 - v4)) + v5)), (0, .ref (a0 0)), (1, .int v1), (5, .int v5)]) K dX12_rank_80 rfl rfl (by decide) rfl rfl ?_
  refine j_goto (tgt := 16) K dX12_rank_83 (by decide) ?_
  refine j_sub [2, 3, 1, 0] rfl ?_
  exact hk16 v1 ((v3 * (v1 - v4)) + v5) (v4 + (1 : Int32)) s0 h
set_option maxRecDepth 100000 in
set_option maxHeartbeats 4000000 in
theorem b_X12_rank_61 {E : jE} (a0 : Nat → Nat) {res : Int32 × MS} (K : jC E cX12_rank 7 RX12 3) (hrw : jrw E) (HR : jRI E cX12_rank 7 (wM (jg E) a0 (res.2)) (res.1)) (k16 : Int32 → Int32 → Int32 → MS → Option (Int32 × MS)) (k31 : Int32 → Int32 → Int32 → Int32 → Int32 → MS → Option (Int32 × MS)) (hk16 : ∀ (v1 : Int32) (v3 : Int32) (v4 : Int32) (s0 : MS), k16 v1 v3 v4 s0 = some res → J E 7 (wM (jg E) a0 s0) 16 [(0, .ref (a0 0)), (1, .int v1), (3, .int v3), (4, .int v4)] []) (hk31 : ∀ (v1 : Int32) (v3 : Int32) (v4 : Int32) (v5 : Int32) (v6 : Int32) (s0 : MS), k31 v1 v3 v4 v5 v6 s0 = some res → J E 7 (wM (jg E) a0 s0) 31 [(0, .ref (a0 0)), (1, .int v1), (3, .int v3), (4, .int v4), (5, .int v5), (6, .int v6)] []) : ∀ (v1 : Int32) (v3 : Int32) (v4 : Int32) (v6 : Int32) (t0 : Int32) (t1 : Int32) (s0 : MS), f_X12_rank_61 k16 k31 v1 v3 v4 v6 t0 t1 s0 = some res → J E 7 (wM (jg E) a0 s0) 61 [(0, .ref (a0 0)), (1, .int v1), (3, .int v3), (4, .int v4), (6, .int v6)] [.int t1, .int t0] := by
  intro v1 v3 v4 v6 t0 t1 s0 h
  unfold f_X12_rank_61 at h
  refine j_iadd (pc' := 62) K dX12_rank_61 rfl ?_
  refine j_istore (pc' := 64) (lv' := [(5, .int (t0 + t1)), (0, .ref (a0 0)), (1, .int v1), (3, .int v3), (4, .int v4), (6, .int v6)]) K dX12_rank_62 (by decide) rfl rfl ?_
  refine j_iinc (pc' := 67) (j := 5) (v := (v6 + (1 : Int32))) (lv' := [(6, .int (v6 + (1 : Int32))), (5, .int (t0 + t1)), (0, .ref (a0 0)), (1, .int v1), (3, .int v3), (4, .int v4)]) K dX12_rank_64 rfl rfl (by decide) rfl rfl ?_
  refine j_goto (tgt := 31) K dX12_rank_67 (by decide) ?_
  refine j_sub [2, 3, 4, 5, 1, 0] rfl ?_
  exact hk31 v1 v3 v4 (t0 + t1) (v6 + (1 : Int32)) s0 h
set_option maxRecDepth 100000 in
set_option maxHeartbeats 4000000 in
theorem b_X12_rank_31 {E : jE} (a0 : Nat → Nat) {res : Int32 × MS} (K : jC E cX12_rank 7 RX12 3) (hrw : jrw E) (HR : jRI E cX12_rank 7 (wM (jg E) a0 (res.2)) (res.1)) (k16 : Int32 → Int32 → Int32 → MS → Option (Int32 × MS)) (hk16 : ∀ (v1 : Int32) (v3 : Int32) (v4 : Int32) (s0 : MS), k16 v1 v3 v4 s0 = some res → J E 7 (wM (jg E) a0 s0) 16 [(0, .ref (a0 0)), (1, .int v1), (3, .int v3), (4, .int v4)] []) : ∀ (n : Nat) (v1 : Int32) (v3 : Int32) (v4 : Int32) (v5 : Int32) (v6 : Int32) (s0 : MS), f_X12_rank_31 k16 n v1 v3 v4 v5 v6 s0 = some res → J E 7 (wM (jg E) a0 s0) 31 [(0, .ref (a0 0)), (1, .int v1), (3, .int v3), (4, .int v4), (5, .int v5), (6, .int v6)] [] := by
  intro n
  induction n with
  | zero => intro _ _ _ _ _ _ h; cases h
  | succ n ih =>
    intro v1 v3 v4 v5 v6 s0 h
    rw [f_X12_rank_31] at h
    refine j_iload (pc' := 33) K dX12_rank_31 5 rfl rfl ?_
    refine j_iload_n (pc' := 34) K dX12_rank_33 rfl 1 rfl rfl ?_
    refine j_icmp_ge (pc' := 37) (tgt := 70) K dX12_rank_34 (by decide) rfl (fun hc => ?_) (fun hc => ?_)
    · have h := jit hc h
      refine j_sub [0, 1, 2, 3, 4] rfl ?_
      exact b_X12_rank_70 a0 K hrw HR k16 hk16 v1 v3 v4 v5 s0 h
    · have h := jif hc h
      refine j_iload (pc' := 39) K dX12_rank_37 4 rfl rfl ?_
      refine j_aload_n (pc' := 40) K dX12_rank_39 rfl 0 rfl rfl ?_
      refine j_get (pc' := 43) K dX12_rank_40 inX12 0 rfl rfl 13 (by decide) u_4_48 rfl rfl rfl ?_
      refine j_iload (pc' := 45) K dX12_rank_43 5 rfl rfl ?_
      obtain ⟨hg, h⟩ := jgd_some h
      refine j_iald (pc' := 46) K dX12_rank_45 9 rfl hg rfl ?_
      refine j_aload_n (pc' := 47) K dX12_rank_46 rfl 0 rfl rfl ?_
      refine j_get (pc' := 50) K dX12_rank_47 inX12 0 rfl rfl 13 (by decide) u_4_48 rfl rfl rfl ?_
      refine j_iload (pc' := 52) K dX12_rank_50 3 rfl rfl ?_
      obtain ⟨hg, h⟩ := jgd_some h
      refine j_iald (pc' := 53) K dX12_rank_52 9 rfl hg rfl ?_
      refine j_icmp_ge (pc' := 56) (tgt := 60) K dX12_rank_53 (by decide) rfl (fun hc => ?_) (fun hc => ?_)
      · have h := jit hc h
        refine j_iconst (pc' := 61) (v := (0 : Int32)) K dX12_rank_60 (by decide) rfl ?_
        refine j_sub [0, 1, 2, 3, 5] rfl ?_
        exact b_X12_rank_61 a0 K hrw HR k16 (f_X12_rank_31 k16 n) hk16 (ih) v1 v3 v4 v6 v5 (0 : Int32) s0 h
      · have h := jif hc h
        refine j_iconst (pc' := 57) (v := (1 : Int32)) K dX12_rank_56 (by decide) rfl ?_
        refine j_goto (tgt := 61) K dX12_rank_57 (by decide) ?_
        refine j_sub [0, 1, 2, 3, 5] rfl ?_
        exact b_X12_rank_61 a0 K hrw HR k16 (f_X12_rank_31 k16 n) hk16 (ih) v1 v3 v4 v6 v5 (1 : Int32) s0 h
set_option maxRecDepth 100000 in
set_option maxHeartbeats 4000000 in
theorem b_X12_rank_16 {E : jE} (a0 : Nat → Nat) {res : Int32 × MS} (K : jC E cX12_rank 7 RX12 3) (hrw : jrw E) (HR : jRI E cX12_rank 7 (wM (jg E) a0 (res.2)) (res.1)) : ∀ (n : Nat) (v1 : Int32) (v3 : Int32) (v4 : Int32) (s0 : MS), f_X12_rank_16 n v1 v3 v4 s0 = some res → J E 7 (wM (jg E) a0 s0) 16 [(0, .ref (a0 0)), (1, .int v1), (3, .int v3), (4, .int v4)] [] := by
  intro n
  induction n with
  | zero => intro _ _ _ _ h; cases h
  | succ n ih =>
    intro v1 v3 v4 s0 h
    rw [f_X12_rank_16] at h
    refine j_iload (pc' := 18) K dX12_rank_16 3 rfl rfl ?_
    refine j_iload_n (pc' := 19) K dX12_rank_18 rfl 1 rfl rfl ?_
    refine j_icmp_ge (pc' := 22) (tgt := 86) K dX12_rank_19 (by decide) rfl (fun hc => ?_) (fun hc => ?_)
    · have h := jit hc h
      refine j_iload_n (pc' := 87) K dX12_rank_86 rfl 2 rfl rfl ?_
      obtain rfl := Option.some.inj h
      exact HR _ _ dX12_rank_87
    · have h := jif hc h
      refine j_iconst (pc' := 23) (v := (0 : Int32)) K dX12_rank_22 (by decide) rfl ?_
      refine j_istore (pc' := 25) (lv' := [(5, .int (0 : Int32)), (0, .ref (a0 0)), (1, .int v1), (3, .int v3), (4, .int v4)]) K dX12_rank_23 (by decide) rfl rfl ?_
      refine j_iload (pc' := 27) K dX12_rank_25 4 rfl rfl ?_
      refine j_iconst (pc' := 28) (v := (1 : Int32)) K dX12_rank_27 (by decide) rfl ?_
      refine j_iadd (pc' := 29) K dX12_rank_28 rfl ?_
      refine j_istore (pc' := 31) (lv' := [(6, .int (v4 + (1 : Int32))), (5, .int (0 : Int32)), (0, .ref (a0 0)), (1, .int v1), (3, .int v3), (4, .int v4)]) K dX12_rank_29 (by decide) rfl rfl ?_
      refine j_sub [2, 3, 4, 5, 1, 0] rfl ?_
      exact b_X12_rank_31 a0 K hrw HR (f_X12_rank_16 n) (ih) jFU v1 v3 v4 (0 : Int32) (v4 + (1 : Int32)) s0 h
set_option maxRecDepth 100000 in
set_option maxHeartbeats 4000000 in
theorem b_X12_rank {E : jE} (a0 : Nat → Nat) {res : Int32 × MS} (K : jC E cX12_rank 7 RX12 3) (hrw : jrw E) (HR : jRI E cX12_rank 7 (wM (jg E) a0 (res.2)) (res.1)) : ∀ (v1 : Int32) (v2 : Int32) (s0 : MS), f_X12_rank v1 v2 s0 = some res → J E 7 (wM (jg E) a0 s0) 0 [(0, .ref (a0 0)), (1, .int v1), (2, .int v2)] [] := by
  intro v1 v2 s0 h
  unfold f_X12_rank at h
  refine j_aload_n (pc' := 1) K dX12_rank_0 rfl 0 rfl rfl ?_
  refine j_iload_n (pc' := 2) K dX12_rank_1 rfl 1 rfl rfl ?_
  refine j_iload_n (pc' := 3) K dX12_rank_2 rfl 2 rfl rfl ?_
  obtain ⟨r3, hr3, h⟩ := jbd_some h
  refine j_rw (pc' := 6) (ws' := (wM (jg E) a0 (r3.2))) K (fun H hP => jrun_V K dX12_rank_3 (M_X12_takeOrder (jl E) (jg E) a0 v1 v2 s0 hr3) u_5_19 u_5_16 u_5_18 u_p_35 u_1_13 ⟨ok_X12_takeOrder, by decide, by decide⟩ rfl (Nat.le_of_ble_eq_true rfl) 0 rfl rfl H hP) hrw [0, 1, 2, 3, 4, 5, 6, 7, 8, 9, 10, 11, 12, 13, 14, 15, 16] rfl (cl_56_s ..) rfl (cl_56_m ..) (ad_M ..) rfl ?_
  refine j_if_ne (pc' := 9) (tgt := 11) K dX12_rank_6 (by decide) rfl (fun hc => ?_) (fun hc => ?_)
  · have h := jif hc h
    refine j_iconst (pc' := 12) (v := (0 : Int32)) K dX12_rank_11 (by decide) rfl ?_
    refine j_istore_n (pc' := 13) (lv' := [(3, .int (0 : Int32)), (0, .ref (a0 0)), (1, .int v1), (2, .int v2)]) K dX12_rank_12 rfl (by decide) rfl rfl ?_
    refine j_iconst (pc' := 14) (v := (0 : Int32)) K dX12_rank_13 (by decide) rfl ?_
    refine j_istore (pc' := 16) (lv' := [(4, .int (0 : Int32)), (3, .int (0 : Int32)), (0, .ref (a0 0)), (1, .int v1), (2, .int v2)]) K dX12_rank_14 (by decide) rfl rfl ?_
    refine j_sub [2, 3, 1, 0] rfl ?_
    exact b_X12_rank_16 a0 K hrw HR jFU v1 (0 : Int32) (0 : Int32) (r3.2) h
  · have h := jit hc h
    refine j_iconst (pc' := 10) (v := (-1 : Int32)) K dX12_rank_9 (by decide) rfl ?_
    obtain rfl := Option.some.inj h
    exact HR _ _ dX12_rank_10
set_option maxRecDepth 100000 in
set_option maxHeartbeats 4000000 in
theorem M_X12_rank (l : Launch) (G : jG) (a0 : Nat → Nat) (v1 : Int32) (v2 : Int32) (s0 : MS) {r : Int32 × MS} (h : f_X12_rank v1 v2 s0 = some r) : MC l yX12_rank cX12_rank 7 (some .int) 3 G (jad (wM G a0 s0)) True (wM G a0 s0) (wM G a0 (r.2)) [.ref (a0 0), .int v1, .int v2] (some (.int (r.1))) := by
  refine mc_int (by decide +kernel) (Nat.le_of_ble_eq_true rfl) fun E hl hg hA hrw K HR => ?_
  subst hl
  subst hg
  have hrw : jrw E := by rw [hrw]; trivial
  exact b_X12_rank a0 K hrw HR v1 v2 s0 h
theorem ok_X12_over : yX12_over.cls ≠ "java/lang/invoke/MethodHandle" ∧ yX12_over.cls ≠ "java/lang/invoke/VarHandle" ∧ (parseMethodDescriptor yX12_over.desc).map (fun d => d.parameters.length) = some 2 := ⟨by decide, by decide, by decide +kernel⟩
def f_X12_over_61 (v1 : Int32) (s0 : MS) : Option (Int32 × MS) :=
   jbd (f_X12_packed v1 s0) (fun r63 =>
   some (r63, s0))
def f_X12_over_38 : Nat → Int32 → Int32 → MS → Option (Int32 × MS)
  | 0, _, _, _ => none
  | n + 1, v1, v3, s0 =>
   if v1 ≤ v3 then
   f_X12_over_61 v1 s0
  else
   jgd v3 8 (
    jgd v3 8 (
     (f_X12_over_38 n) v1 (v3 + (1 : Int32)) (M_digit_s s0 (upd (M_digit s0) (Int32.toNatClampNeg v3) ((M_turned s0) (Int32.toNatClampNeg v3))))))
def f_X12_over_36 (v1 : Int32) (s0 : MS) : Option (Int32 × MS) :=
   f_X12_over_38 jFU v1 (0 : Int32) s0
def f_X12_over_13 : Nat → Int32 → Int32 → MS → Option (Int32 × MS)
  | 0, _, _, _ => none
  | n + 1, v1, v3, s0 =>
   if v1 ≤ v3 then
   f_X12_over_36 v1 s0
  else
   jgd v3 8 (
    jgd ((M_digit s0) (Int32.toNatClampNeg v3)) 8 (
     (f_X12_over_13 n) v1 (v3 + (1 : Int32)) (M_turned_s s0 (upd (M_turned s0) (Int32.toNatClampNeg ((M_digit s0) (Int32.toNatClampNeg v3))) v3))))
def f_X12_over (v1 : Int32) (v2 : Int32) (s0 : MS) : Option (Int32 × MS) :=
   jbd (f_X12_takeOrder v1 v2 s0) (fun r3 =>
   if (r3.1) = 0 then
    some ((-1 : Int32), (r3.2))
   else
    f_X12_over_13 jFU v1 (0 : Int32) (r3.2))
set_option maxRecDepth 100000 in
set_option maxHeartbeats 4000000 in
theorem b_X12_over_61 {E : jE} (a0 : Nat → Nat) {res : Int32 × MS} (K : jC E cX12_over 4 RX12 3) (hrw : jrw E) (HR : jRI E cX12_over 4 (wM (jg E) a0 (res.2)) (res.1)) : ∀ (v1 : Int32) (s0 : MS), f_X12_over_61 v1 s0 = some res → J E 4 (wM (jg E) a0 s0) 61 [(0, .ref (a0 0)), (1, .int v1)] [] := by
  intro v1 s0 h
  unfold f_X12_over_61 at h
  refine j_aload_n (pc' := 62) K dX12_over_61 rfl 0 rfl rfl ?_
  refine j_iload_n (pc' := 63) K dX12_over_62 rfl 1 rfl rfl ?_
  obtain ⟨r63, hr63, h⟩ := jbd_some h
  refine j_ro (pc' := 66) K (fun H hP => jrun_V K dX12_over_63 (M_X12_packed (jl E) (jg E) a0 v1 s0 hr63) u_4_217 u_4_214 u_4_216 u_p_28 u_1_13 ⟨ok_X12_packed, by decide, by decide⟩ rfl (Nat.le_of_ble_eq_true rfl) 0 rfl rfl H hP) [0, 1, 2, 3, 4, 5, 6, 7, 8, 9, 10, 11, 12, 13, 14, 15, 16] (cl_55_f ..) rfl ?_
  obtain rfl := Option.some.inj h
  exact HR _ _ dX12_over_66
set_option maxRecDepth 100000 in
set_option maxHeartbeats 4000000 in
theorem b_X12_over_38 {E : jE} (a0 : Nat → Nat) {res : Int32 × MS} (K : jC E cX12_over 4 RX12 3) (hrw : jrw E) (HR : jRI E cX12_over 4 (wM (jg E) a0 (res.2)) (res.1)) : ∀ (n : Nat) (v1 : Int32) (v3 : Int32) (s0 : MS), f_X12_over_38 n v1 v3 s0 = some res → J E 4 (wM (jg E) a0 s0) 38 [(0, .ref (a0 0)), (1, .int v1), (3, .int v3)] [] := by
  intro n
  induction n with
  | zero => intro _ _ _ h; cases h
  | succ n ih =>
    intro v1 v3 s0 h
    rw [f_X12_over_38] at h
    refine j_iload_n (pc' := 39) K dX12_over_38 rfl 2 rfl rfl ?_
    refine j_iload_n (pc' := 40) K dX12_over_39 rfl 1 rfl rfl ?_
    refine j_icmp_ge (pc' := 43) (tgt := 61) K dX12_over_40 (by decide) rfl (fun hc => ?_) (fun hc => ?_)
    · have h := jit hc h
      refine j_sub [0, 1] rfl ?_
      exact b_X12_over_61 a0 K hrw HR v1 s0 h
    · have h := jif hc h
      refine j_aload_n (pc' := 44) K dX12_over_43 rfl 0 rfl rfl ?_
      refine j_get (pc' := 47) K dX12_over_44 inX12 0 rfl rfl 13 (by decide) u_4_48 rfl rfl rfl ?_
      refine j_iload_n (pc' := 48) K dX12_over_47 rfl 2 rfl rfl ?_
      refine j_aload_n (pc' := 49) K dX12_over_48 rfl 0 rfl rfl ?_
      refine j_get (pc' := 52) K dX12_over_49 inX12 0 rfl rfl 15 (by decide) u_4_50 rfl rfl rfl ?_
      refine j_iload_n (pc' := 53) K dX12_over_52 rfl 2 rfl rfl ?_
      obtain ⟨hg, h⟩ := jgd_some h
      refine j_iald (pc' := 54) K dX12_over_53 11 rfl hg rfl ?_
      obtain ⟨hg, h⟩ := jgd_some h
      refine j_iast (pc' := 55) (ws' := (wM (jg E) a0 (M_digit_s s0 (upd (M_digit s0) (Int32.toNatClampNeg v3) ((M_turned s0) (Int32.toNatClampNeg v3)))))) K dX12_over_54 hrw 9 rfl hg (st_M_9 ..) rfl ?_
      refine j_iinc (pc' := 58) (j := 2) (v := (v3 + (1 : Int32))) (lv' := [(3, .int (v3 + (1 : Int32))), (0, .ref (a0 0)), (1, .int v1)]) K dX12_over_55 rfl rfl (by decide) rfl rfl ?_
      refine j_goto (tgt := 38) K dX12_over_58 (by decide) ?_
      refine j_sub [1, 2, 0] rfl ?_
      exact ih v1 (v3 + (1 : Int32)) (M_digit_s s0 (upd (M_digit s0) (Int32.toNatClampNeg v3) ((M_turned s0) (Int32.toNatClampNeg v3)))) h
set_option maxRecDepth 100000 in
set_option maxHeartbeats 4000000 in
theorem b_X12_over_36 {E : jE} (a0 : Nat → Nat) {res : Int32 × MS} (K : jC E cX12_over 4 RX12 3) (hrw : jrw E) (HR : jRI E cX12_over 4 (wM (jg E) a0 (res.2)) (res.1)) : ∀ (v1 : Int32) (s0 : MS), f_X12_over_36 v1 s0 = some res → J E 4 (wM (jg E) a0 s0) 36 [(0, .ref (a0 0)), (1, .int v1)] [] := by
  intro v1 s0 h
  unfold f_X12_over_36 at h
  refine j_iconst (pc' := 37) (v := (0 : Int32)) K dX12_over_36 (by decide) rfl ?_
  refine j_istore_n (pc' := 38) (lv' := [(3, .int (0 : Int32)), (0, .ref (a0 0)), (1, .int v1)]) K dX12_over_37 rfl (by decide) rfl rfl ?_
  refine j_sub [1, 2, 0] rfl ?_
  exact b_X12_over_38 a0 K hrw HR jFU v1 (0 : Int32) s0 h
set_option maxRecDepth 100000 in
set_option maxHeartbeats 4000000 in
theorem b_X12_over_13 {E : jE} (a0 : Nat → Nat) {res : Int32 × MS} (K : jC E cX12_over 4 RX12 3) (hrw : jrw E) (HR : jRI E cX12_over 4 (wM (jg E) a0 (res.2)) (res.1)) : ∀ (n : Nat) (v1 : Int32) (v3 : Int32) (s0 : MS), f_X12_over_13 n v1 v3 s0 = some res → J E 4 (wM (jg E) a0 s0) 13 [(0, .ref (a0 0)), (1, .int v1), (3, .int v3)] [] := by
  intro n
  induction n with
  | zero => intro _ _ _ h; cases h
  | succ n ih =>
    intro v1 v3 s0 h
    rw [f_X12_over_13] at h
    refine j_iload_n (pc' := 14) K dX12_over_13 rfl 2 rfl rfl ?_
    refine j_iload_n (pc' := 15) K dX12_over_14 rfl 1 rfl rfl ?_
    refine j_icmp_ge (pc' := 18) (tgt := 36) K dX12_over_15 (by decide) rfl (fun hc => ?_) (fun hc => ?_)
    · have h := jit hc h
      refine j_sub [0, 1] rfl ?_
      exact b_X12_over_36 a0 K hrw HR v1 s0 h
    · have h := jif hc h
      refine j_aload_n (pc' := 19) K dX12_over_18 rfl 0 rfl rfl ?_
      refine j_get (pc' := 22) K dX12_over_19 inX12 0 rfl rfl 15 (by decide) u_4_50 rfl rfl rfl ?_
      refine j_aload_n (pc' := 23) K dX12_over_22 rfl 0 rfl rfl ?_
      refine j_get (pc' := 26) K dX12_over_23 inX12 0 rfl rfl 13 (by decide) u_4_48 rfl rfl rfl ?_
      refine j_iload_n (pc' := 27) K dX12_over_26 rfl 2 rfl rfl ?_
      obtain ⟨hg, h⟩ := jgd_some h
      refine j_iald (pc' := 28) K dX12_over_27 9 rfl hg rfl ?_
      refine j_iload_n (pc' := 29) K dX12_over_28 rfl 2 rfl rfl ?_
      obtain ⟨hg, h⟩ := jgd_some h
      refine j_iast (pc' := 30) (ws' := (wM (jg E) a0 (M_turned_s s0 (upd (M_turned s0) (Int32.toNatClampNeg ((M_digit s0) (Int32.toNatClampNeg v3))) v3)))) K dX12_over_29 hrw 11 rfl hg (st_M_11 ..) rfl ?_
      refine j_iinc (pc' := 33) (j := 2) (v := (v3 + (1 : Int32))) (lv' := [(3, .int (v3 + (1 : Int32))), (0, .ref (a0 0)), (1, .int v1)]) K dX12_over_30 rfl rfl (by decide) rfl rfl ?_
      refine j_goto (tgt := 13) K dX12_over_33 (by decide) ?_
      refine j_sub [1, 2, 0] rfl ?_
      exact ih v1 (v3 + (1 : Int32)) (M_turned_s s0 (upd (M_turned s0) (Int32.toNatClampNeg ((M_digit s0) (Int32.toNatClampNeg v3))) v3)) h
set_option maxRecDepth 100000 in
set_option maxHeartbeats 4000000 in
theorem b_X12_over {E : jE} (a0 : Nat → Nat) {res : Int32 × MS} (K : jC E cX12_over 4 RX12 3) (hrw : jrw E) (HR : jRI E cX12_over 4 (wM (jg E) a0 (res.2)) (res.1)) : ∀ (v1 : Int32) (v2 : Int32) (s0 : MS), f_X12_over v1 v2 s0 = some res → J E 4 (wM (jg E) a0 s0) 0 [(0, .ref (a0 0)), (1, .int v1), (2, .int v2)] [] := by
  intro v1 v2 s0 h
  unfold f_X12_over at h
  refine j_aload_n (pc' := 1) K dX12_over_0 rfl 0 rfl rfl ?_
  refine j_iload_n (pc' := 2) K dX12_over_1 rfl 1 rfl rfl ?_
  refine j_iload_n (pc' := 3) K dX12_over_2 rfl 2 rfl rfl ?_
  obtain ⟨r3, hr3, h⟩ := jbd_some h
  refine j_rw (pc' := 6) (ws' := (wM (jg E) a0 (r3.2))) K (fun H hP => jrun_V K dX12_over_3 (M_X12_takeOrder (jl E) (jg E) a0 v1 v2 s0 hr3) u_5_19 u_5_16 u_5_18 u_p_35 u_1_13 ⟨ok_X12_takeOrder, by decide, by decide⟩ rfl (Nat.le_of_ble_eq_true rfl) 0 rfl rfl H hP) hrw [0, 1, 2, 3, 4, 5, 6, 7, 8, 9, 10, 11, 12, 13, 14, 15, 16] rfl (cl_56_s ..) rfl (cl_56_m ..) (ad_M ..) rfl ?_
  refine j_if_ne (pc' := 9) (tgt := 11) K dX12_over_6 (by decide) rfl (fun hc => ?_) (fun hc => ?_)
  · have h := jif hc h
    refine j_iconst (pc' := 12) (v := (0 : Int32)) K dX12_over_11 (by decide) rfl ?_
    refine j_istore_n (pc' := 13) (lv' := [(3, .int (0 : Int32)), (0, .ref (a0 0)), (1, .int v1), (2, .int v2)]) K dX12_over_12 rfl (by decide) rfl rfl ?_
    refine j_sub [1, 2, 0] rfl ?_
    exact b_X12_over_13 a0 K hrw HR jFU v1 (0 : Int32) (r3.2) h
  · have h := jit hc h
    refine j_iconst (pc' := 10) (v := (-1 : Int32)) K dX12_over_9 (by decide) rfl ?_
    obtain rfl := Option.some.inj h
    exact HR _ _ dX12_over_10
set_option maxRecDepth 100000 in
set_option maxHeartbeats 4000000 in
theorem M_X12_over (l : Launch) (G : jG) (a0 : Nat → Nat) (v1 : Int32) (v2 : Int32) (s0 : MS) {r : Int32 × MS} (h : f_X12_over v1 v2 s0 = some r) : MC l yX12_over cX12_over 4 (some .int) 3 G (jad (wM G a0 s0)) True (wM G a0 s0) (wM G a0 (r.2)) [.ref (a0 0), .int v1, .int v2] (some (.int (r.1))) := by
  refine mc_int (by decide +kernel) (Nat.le_of_ble_eq_true rfl) fun E hl hg hA hrw K HR => ?_
  subst hl
  subst hg
  have hrw : jrw E := by rw [hrw]; trivial
  exact b_X12_over a0 K hrw HR v1 v2 s0 h
theorem ok_X12_behind : yX12_behind.cls ≠ "java/lang/invoke/MethodHandle" ∧ yX12_behind.cls ≠ "java/lang/invoke/VarHandle" ∧ (parseMethodDescriptor yX12_behind.desc).map (fun d => d.parameters.length) = some 3 := ⟨by decide, by decide, by decide +kernel⟩
def f_X12_behind_85 (v1 : Int32) (s0 : MS) : Option (Int32 × MS) :=
   jbd (f_X12_packed v1 s0) (fun r87 =>
   some (r87, s0))
def f_X12_behind_54 : Nat → Int32 → Int32 → MS → Option (Int32 × MS)
  | 0, _, _, _ => none
  | n + 1, v1, v4, s0 =>
   if v1 ≤ v4 then
   f_X12_behind_85 v1 s0
  else
   jgd v4 8 (
    jgd ((M_digit s0) (Int32.toNatClampNeg v4)) 8 (
     jgd v4 8 (
      (f_X12_behind_54 n) v1 (v4 + (1 : Int32)) (M_digit_s s0 (upd (M_digit s0) (Int32.toNatClampNeg v4) ((M_turned s0) (Int32.toNatClampNeg ((M_digit s0) (Int32.toNatClampNeg v4)))))))))
def f_X12_behind_40 (v1 : Int32) (v3 : Int32) (s0 : MS) : Option (Int32 × MS) :=
   jbd (f_X12_takeOrder v1 v3 s0) (fun r43 =>
   if (r43.1) = 0 then
    some ((-1 : Int32), (r43.2))
   else
    f_X12_behind_54 jFU v1 (0 : Int32) (r43.2))
def f_X12_behind_14 : Nat → Int32 → Int32 → Int32 → MS → Option (Int32 × MS)
  | 0, _, _, _, _ => none
  | n + 1, v1, v3, v4, s0 =>
   if v1 ≤ v4 then
   f_X12_behind_40 v1 v3 s0
  else
   jgd v4 8 (
    jgd v4 8 (
     (f_X12_behind_14 n) v1 v3 (v4 + (1 : Int32)) (M_turned_s s0 (upd (M_turned s0) (Int32.toNatClampNeg v4) ((M_digit s0) (Int32.toNatClampNeg v4))))))
def f_X12_behind (v1 : Int32) (v2 : Int32) (v3 : Int32) (s0 : MS) : Option (Int32 × MS) :=
   jbd (f_X12_takeOrder v1 v2 s0) (fun r3 =>
   if (r3.1) = 0 then
    some ((-1 : Int32), (r3.2))
   else
    f_X12_behind_14 jFU v1 v3 (0 : Int32) (r3.2))
set_option maxRecDepth 100000 in
set_option maxHeartbeats 4000000 in
theorem b_X12_behind_85 {E : jE} (a0 : Nat → Nat) {res : Int32 × MS} (K : jC E cX12_behind 5 RX12 3) (hrw : jrw E) (HR : jRI E cX12_behind 5 (wM (jg E) a0 (res.2)) (res.1)) : ∀ (v1 : Int32) (s0 : MS), f_X12_behind_85 v1 s0 = some res → J E 5 (wM (jg E) a0 s0) 85 [(0, .ref (a0 0)), (1, .int v1)] [] := by
  intro v1 s0 h
  unfold f_X12_behind_85 at h
  refine j_aload_n (pc' := 86) K dX12_behind_85 rfl 0 rfl rfl ?_
  refine j_iload_n (pc' := 87) K dX12_behind_86 rfl 1 rfl rfl ?_
  obtain ⟨r87, hr87, h⟩ := jbd_some h
  refine j_ro (pc' := 90) K (fun H hP => jrun_V K dX12_behind_87 (M_X12_packed (jl E) (jg E) a0 v1 s0 hr87) u_4_217 u_4_214 u_4_216 u_p_28 u_1_13 ⟨ok_X12_packed, by decide, by decide⟩ rfl (Nat.le_of_ble_eq_true rfl) 0 rfl rfl H hP) [0, 1, 2, 3, 4, 5, 6, 7, 8, 9, 10, 11, 12, 13, 14, 15, 16] (cl_55_f ..) rfl ?_
  obtain rfl := Option.some.inj h
  exact HR _ _ dX12_behind_90
set_option maxRecDepth 100000 in
set_option maxHeartbeats 4000000 in
theorem b_X12_behind_54 {E : jE} (a0 : Nat → Nat) {res : Int32 × MS} (K : jC E cX12_behind 5 RX12 3) (hrw : jrw E) (HR : jRI E cX12_behind 5 (wM (jg E) a0 (res.2)) (res.1)) : ∀ (n : Nat) (v1 : Int32) (v4 : Int32) (s0 : MS), f_X12_behind_54 n v1 v4 s0 = some res → J E 5 (wM (jg E) a0 s0) 54 [(0, .ref (a0 0)), (1, .int v1), (4, .int v4)] [] := by
  intro n
  induction n with
  | zero => intro _ _ _ h; cases h
  | succ n ih =>
    intro v1 v4 s0 h
    rw [f_X12_behind_54] at h
    refine j_iload (pc' := 56) K dX12_behind_54 2 rfl rfl ?_
    refine j_iload_n (pc' := 57) K dX12_behind_56 rfl 1 rfl rfl ?_
    refine j_icmp_ge (pc' := 60) (tgt := 85) K dX12_behind_57 (by decide) rfl (fun hc => ?_) (fun hc => ?_)
    · have h := jit hc h
      refine j_sub [0, 1] rfl ?_
      exact b_X12_behind_85 a0 K hrw HR v1 s0 h
    · have h := jif hc h
      refine j_aload_n (pc' := 61) K dX12_behind_60 rfl 0 rfl rfl ?_
      refine j_get (pc' := 64) K dX12_behind_61 inX12 0 rfl rfl 13 (by decide) u_4_48 rfl rfl rfl ?_
      refine j_iload (pc' := 66) K dX12_behind_64 2 rfl rfl ?_
      refine j_aload_n (pc' := 67) K dX12_behind_66 rfl 0 rfl rfl ?_
      refine j_get (pc' := 70) K dX12_behind_67 inX12 0 rfl rfl 15 (by decide) u_4_50 rfl rfl rfl ?_
      refine j_aload_n (pc' := 71) K dX12_behind_70 rfl 0 rfl rfl ?_
      refine j_get (pc' := 74) K dX12_behind_71 inX12 0 rfl rfl 13 (by decide) u_4_48 rfl rfl rfl ?_
      refine j_iload (pc' := 76) K dX12_behind_74 2 rfl rfl ?_
      obtain ⟨hg, h⟩ := jgd_some h
      refine j_iald (pc' := 77) K dX12_behind_76 9 rfl hg rfl ?_
      obtain ⟨hg, h⟩ := jgd_some h
      refine j_iald (pc' := 78) K dX12_behind_77 11 rfl hg rfl ?_
      obtain ⟨hg, h⟩ := jgd_some h
      refine j_iast (pc' := 79) (ws' := (wM (jg E) a0 (M_digit_s s0 (upd (M_digit s0) (Int32.toNatClampNeg v4) ((M_turned s0) (Int32.toNatClampNeg ((M_digit s0) (Int32.toNatClampNeg v4)))))))) K dX12_behind_78 hrw 9 rfl hg (st_M_9 ..) rfl ?_
      refine j_iinc (pc' := 82) (j := 2) (v := (v4 + (1 : Int32))) (lv' := [(4, .int (v4 + (1 : Int32))), (0, .ref (a0 0)), (1, .int v1)]) K dX12_behind_79 rfl rfl (by decide) rfl rfl ?_
      refine j_goto (tgt := 54) K dX12_behind_82 (by decide) ?_
      refine j_sub [1, 2, 0] rfl ?_
      exact ih v1 (v4 + (1 : Int32)) (M_digit_s s0 (upd (M_digit s0) (Int32.toNatClampNeg v4) ((M_turned s0) (Int32.toNatClampNeg ((M_digit s0) (Int32.toNatClampNeg v4)))))) h
set_option maxRecDepth 100000 in
set_option maxHeartbeats 4000000 in
theorem b_X12_behind_40 {E : jE} (a0 : Nat → Nat) {res : Int32 × MS} (K : jC E cX12_behind 5 RX12 3) (hrw : jrw E) (HR : jRI E cX12_behind 5 (wM (jg E) a0 (res.2)) (res.1)) : ∀ (v1 : Int32) (v3 : Int32) (s0 : MS), f_X12_behind_40 v1 v3 s0 = some res → J E 5 (wM (jg E) a0 s0) 40 [(0, .ref (a0 0)), (1, .int v1), (3, .int v3)] [] := by
  intro v1 v3 s0 h
  unfold f_X12_behind_40 at h
  refine j_aload_n (pc' := 41) K dX12_behind_40 rfl 0 rfl rfl ?_
  refine j_iload_n (pc' := 42) K dX12_behind_41 rfl 1 rfl rfl ?_
  refine j_iload_n (pc' := 43) K dX12_behind_42 rfl 2 rfl rfl ?_
  obtain ⟨r43, hr43, h⟩ := jbd_some h
  refine j_rw (pc' := 46) (ws' := (wM (jg E) a0 (r43.2))) K (fun H hP => jrun_V K dX12_behind_43 (M_X12_takeOrder (jl E) (jg E) a0 v1 v3 s0 hr43) u_5_19 u_5_16 u_5_18 u_p_35 u_1_13 ⟨ok_X12_takeOrder, by decide, by decide⟩ rfl (Nat.le_of_ble_eq_true rfl) 0 rfl rfl H hP) hrw [0, 1, 2, 3, 4, 5, 6, 7, 8, 9, 10, 11, 12, 13, 14, 15, 16] rfl (cl_56_s ..) rfl (cl_56_m ..) (ad_M ..) rfl ?_
  refine j_if_ne (pc' := 49) (tgt := 51) K dX12_behind_46 (by decide) rfl (fun hc => ?_) (fun hc => ?_)
  · have h := jif hc h
    refine j_iconst (pc' := 52) (v := (0 : Int32)) K dX12_behind_51 (by decide) rfl ?_
    refine j_istore (pc' := 54) (lv' := [(4, .int (0 : Int32)), (0, .ref (a0 0)), (1, .int v1), (3, .int v3)]) K dX12_behind_52 (by decide) rfl rfl ?_
    refine j_sub [1, 2, 0] rfl ?_
    exact b_X12_behind_54 a0 K hrw HR jFU v1 (0 : Int32) (r43.2) h
  · have h := jit hc h
    refine j_iconst (pc' := 50) (v := (-1 : Int32)) K dX12_behind_49 (by decide) rfl ?_
    obtain rfl := Option.some.inj h
    exact HR _ _ dX12_behind_50
set_option maxRecDepth 100000 in
set_option maxHeartbeats 4000000 in
theorem b_X12_behind_14 {E : jE} (a0 : Nat → Nat) {res : Int32 × MS} (K : jC E cX12_behind 5 RX12 3) (hrw : jrw E) (HR : jRI E cX12_behind 5 (wM (jg E) a0 (res.2)) (res.1)) : ∀ (n : Nat) (v1 : Int32) (v3 : Int32) (v4 : Int32) (s0 : MS), f_X12_behind_14 n v1 v3 v4 s0 = some res → J E 5 (wM (jg E) a0 s0) 14 [(0, .ref (a0 0)), (1, .int v1), (3, .int v3), (4, .int v4)] [] := by
  intro n
  induction n with
  | zero => intro _ _ _ _ h; cases h
  | succ n ih =>
    intro v1 v3 v4 s0 h
    rw [f_X12_behind_14] at h
    refine j_iload (pc' := 16) K dX12_behind_14 3 rfl rfl ?_
    refine j_iload_n (pc' := 17) K dX12_behind_16 rfl 1 rfl rfl ?_
    refine j_icmp_ge (pc' := 20) (tgt := 40) K dX12_behind_17 (by decide) rfl (fun hc => ?_) (fun hc => ?_)
    · have h := jit hc h
      refine j_sub [0, 1, 2] rfl ?_
      exact b_X12_behind_40 a0 K hrw HR v1 v3 s0 h
    · have h := jif hc h
      refine j_aload_n (pc' := 21) K dX12_behind_20 rfl 0 rfl rfl ?_
      refine j_get (pc' := 24) K dX12_behind_21 inX12 0 rfl rfl 15 (by decide) u_4_50 rfl rfl rfl ?_
      refine j_iload (pc' := 26) K dX12_behind_24 3 rfl rfl ?_
      refine j_aload_n (pc' := 27) K dX12_behind_26 rfl 0 rfl rfl ?_
      refine j_get (pc' := 30) K dX12_behind_27 inX12 0 rfl rfl 13 (by decide) u_4_48 rfl rfl rfl ?_
      refine j_iload (pc' := 32) K dX12_behind_30 3 rfl rfl ?_
      obtain ⟨hg, h⟩ := jgd_some h
      refine j_iald (pc' := 33) K dX12_behind_32 9 rfl hg rfl ?_
      obtain ⟨hg, h⟩ := jgd_some h
      refine j_iast (pc' := 34) (ws' := (wM (jg E) a0 (M_turned_s s0 (upd (M_turned s0) (Int32.toNatClampNeg v4) ((M_digit s0) (Int32.toNatClampNeg v4)))))) K dX12_behind_33 hrw 11 rfl hg (st_M_11 ..) rfl ?_
      refine j_iinc (pc' := 37) (j := 3) (v := (v4 + (1 : Int32))) (lv' := [(4, .int (v4 + (1 : Int32))), (0, .ref (a0 0)), (1, .int v1), (3, .int v3)]) K dX12_behind_34 rfl rfl (by decide) rfl rfl ?_
      refine j_goto (tgt := 14) K dX12_behind_37 (by decide) ?_
      refine j_sub [1, 2, 3, 0] rfl ?_
      exact ih v1 v3 (v4 + (1 : Int32)) (M_turned_s s0 (upd (M_turned s0) (Int32.toNatClampNeg v4) ((M_digit s0) (Int32.toNatClampNeg v4)))) h
set_option maxRecDepth 100000 in
set_option maxHeartbeats 4000000 in
theorem b_X12_behind {E : jE} (a0 : Nat → Nat) {res : Int32 × MS} (K : jC E cX12_behind 5 RX12 3) (hrw : jrw E) (HR : jRI E cX12_behind 5 (wM (jg E) a0 (res.2)) (res.1)) : ∀ (v1 : Int32) (v2 : Int32) (v3 : Int32) (s0 : MS), f_X12_behind v1 v2 v3 s0 = some res → J E 5 (wM (jg E) a0 s0) 0 [(0, .ref (a0 0)), (1, .int v1), (2, .int v2), (3, .int v3)] [] := by
  intro v1 v2 v3 s0 h
  unfold f_X12_behind at h
  refine j_aload_n (pc' := 1) K dX12_behind_0 rfl 0 rfl rfl ?_
  refine j_iload_n (pc' := 2) K dX12_behind_1 rfl 1 rfl rfl ?_
  refine j_iload_n (pc' := 3) K dX12_behind_2 rfl 2 rfl rfl ?_
  obtain ⟨r3, hr3, h⟩ := jbd_some h
  refine j_rw (pc' := 6) (ws' := (wM (jg E) a0 (r3.2))) K (fun H hP => jrun_V K dX12_behind_3 (M_X12_takeOrder (jl E) (jg E) a0 v1 v2 s0 hr3) u_5_19 u_5_16 u_5_18 u_p_35 u_1_13 ⟨ok_X12_takeOrder, by decide, by decide⟩ rfl (Nat.le_of_ble_eq_true rfl) 0 rfl rfl H hP) hrw [0, 1, 2, 3, 4, 5, 6, 7, 8, 9, 10, 11, 12, 13, 14, 15, 16] rfl (cl_56_s ..) rfl (cl_56_m ..) (ad_M ..) rfl ?_
  refine j_if_ne (pc' := 9) (tgt := 11) K dX12_behind_6 (by decide) rfl (fun hc => ?_) (fun hc => ?_)
  · have h := jif hc h
    refine j_iconst (pc' := 12) (v := (0 : Int32)) K dX12_behind_11 (by decide) rfl ?_
    refine j_istore (pc' := 14) (lv' := [(4, .int (0 : Int32)), (0, .ref (a0 0)), (1, .int v1), (2, .int v2), (3, .int v3)]) K dX12_behind_12 (by decide) rfl rfl ?_
    refine j_sub [1, 2, 4, 0] rfl ?_
    exact b_X12_behind_14 a0 K hrw HR jFU v1 v3 (0 : Int32) (r3.2) h
  · have h := jit hc h
    refine j_iconst (pc' := 10) (v := (-1 : Int32)) K dX12_behind_9 (by decide) rfl ?_
    obtain rfl := Option.some.inj h
    exact HR _ _ dX12_behind_10
set_option maxRecDepth 100000 in
set_option maxHeartbeats 4000000 in
theorem M_X12_behind (l : Launch) (G : jG) (a0 : Nat → Nat) (v1 : Int32) (v2 : Int32) (v3 : Int32) (s0 : MS) {r : Int32 × MS} (h : f_X12_behind v1 v2 v3 s0 = some r) : MC l yX12_behind cX12_behind 5 (some .int) 3 G (jad (wM G a0 s0)) True (wM G a0 s0) (wM G a0 (r.2)) [.ref (a0 0), .int v1, .int v2, .int v3] (some (.int (r.1))) := by
  refine mc_int (by decide +kernel) (Nat.le_of_ble_eq_true rfl) fun E hl hg hA hrw K HR => ?_
  subst hl
  subst hg
  have hrw : jrw E := by rw [hrw]; trivial
  exact b_X12_behind a0 K hrw HR v1 v2 v3 s0 h
